section
/-! THE REFERENCE's tells, exactly: a wire -/
def WM (M : gR × mSt) (W W' : gR) (st' : mSt) : Prop := (W.1 ≠ 0 → W' = W) ∧ (W.1 = 0 → (M.1.1 = 0 → W'.1 = 0 ∧ st' = M.2) ∧ (M.1.1 ≠ 0 → W' = M.1))
section RWI
variable {K : Nat → Int} {V : Nat → Int64} {P : Nat → Nat} {m0 m : dM} {L s cf cw cu n : Nat} {W : gR} {st : mSt}
theorem gnd2_z {a b : Int} {i : Nat} (h : (rb (gnd K a i) (gnd K b)).1 = 0) : gnd K a i = (0, i + 1) ∧ K i = a ∧ rb (gnd K a i) (gnd K b) = (0, i + 2) ∧ K (i + 1) = b ∧ i + 1 < 400 := by
  obtain ⟨h1, h2⟩ := rb_z h
  obtain ⟨e1, e2, e3⟩ := gnd_0 h1
  rw [h2, e1] at h
  have h : (gnd K b (i + 1)).1 = 0 := h
  obtain ⟨e4, e5, e6⟩ := gnd_0 h
  refine ⟨e1, e2, ?_, e5, e6⟩
  rw [h2, e1]
  show gnd K b (i + 1) = _
  rw [e4]
theorem e_wire {Q : dM → Prop} (hL : L + s = 1) (hsd : (m0.1 70 19).toInt = (s : Int)) (hv : ∀ i, vk (K i)) (hP : ∀ i j : Nat, i < j → lvK K j → P i < P j) (hS : ST K P m (0, n + 1) W) (hR : RM K V P m) (hF : FX m0 L m) (hC : CT s cf cw cu m) (h9 : cw ≤ 9) (hQ : LQ s m) (hW : W.1 ≠ 0 → W.2 < n) (hN : W.1 = 0 → NM V s st m ∧ st.1.length = cf ∧ st.2.1.length = cw ∧ st.2.2.1.length = cu)
    (hB : (gsq K [22, 22, 23, 59] (n + 1)).1 ≠ 0 → ∀ (m' : dM) (W' : gR), ST K P m' (gsq K [22, 22, 23, 59] (n + 1)) W' → FX m0 L m' → Q m')
    (hG : (gsq K [22, 22, 23, 59] (n + 1)).1 = 0 → ∀ (m' : dM) (W' : gR) (st' : mSt), TI K V P m0 L s cf (cw + 1) cu (n + 5) W' st' m' → WM (mWire V n st) W W' st' → Q m') : c_X12_tellWire_70 6 m Q := by
  have hs : s ≤ 1 := by omega
  have hC5 := hC.2.2.2.2
  have sd := hF.sd hsd
  have fm := dMulE (X := 10) (Y := (s : Int)) (x := (10 : Int32)) (y := m.1 70 19) (by decide) sd.1 (by omega) (by omega)
  have fx := dAddE (X := 10 * (s : Int)) (Y := (cw : Int)) (x := (10 : Int32) * m.1 70 19) (y := m.1 82 s) fm hC.2.1 (by omega) (by omega)
  have gG : gsq K [22, 22, 23, 59] (n + 1) = rb (rb (rb (gnd K 22 (n + 1)) (gnd K 22)) (gnd K 23)) (gnd K 59) := by
    have : gsq K [22, 22, 23, 59] (n + 1) = rb (gnd K 22 (n + 1)) (gsq K [22, 23, 59]) := rfl
    rw [this, gsq_r, gsq_r, gsq_r, rb_id]
  rw [gG] at hB hG
  refine v_X12_tellWire_70 ⟨by omega, ?_⟩
  rw [sd.2]
  generalize hX : (10 : Int32) * m.1 70 19 + m.1 82 s = X at fx ⊢
  have eX : X.toNatClampNeg = 10 * s + cw := by
    have := d_cl (x := X) (by omega)
    omega
  have e0 : (m.1 70 11).toInt = ((n + 1 : Nat) : Int) := (hS.1 rfl).2.1
  have w72 : ∀ (mm : dM) (r1 r2 : Int32) (W3 : gR), Cx m mm → ST K P mm (rb (gnd K 22 (n + 1)) (gnd K 22)) W3 → ((rb (gnd K 22 (n + 1)) (gnd K 22)).1 = 0 → (W.1 ≠ 0 → W3 = W) ∧ (W.1 = 0 → (W3.1 = 0 ∧ ∃ a b : Nat, fF V st (V (n + 1)) = some a ∧ fF V st (V (n + 2)) = some b ∧ r1.toInt = (a : Int) ∧ r2.toInt = (b : Int) ∧ ¬ (a = b ∨ wx (wE st) a b st.2.1.length 0 = true)) ∨ (W3.1 ≠ 0 ∧ W3 = (mWire V n st).1 ∧ W3.2 ≤ n + 2))) → j_X12_tellWire_70_72 6 X r1 r2 mm Q := by
    intro mm r1 r2 W3 cm h3 hw
    have Fm := hF.cx cm
    have Cm := hC.cx cm
    refine v_X12_tellWire_70_72 ⟨by omega, ⟨by omega, ?_⟩⟩
    rw [eX]
    have F1 : FX m0 L (dSet (dSet mm 83 (10 * s + cw) r1) 84 (10 * s + cw) r2) := (Fm.set (by decide) (by decide) (fun e => absurd e (by decide))).set (by decide) (by decide) (fun e => absurd e (by decide))
    have S1 : ST K P (dSet (dSet mm 83 (10 * s + cw) r1) 84 (10 * s + cw) r2) (rb (gnd K 22 (n + 1)) (gnd K 22)) W3 := (h3.k (by decide)).k (by decide)
    have kM : ∀ k : Nat, k ≠ 83 → k ≠ 84 → (dSet (dSet mm 83 (10 * s + cw) r1) 84 (10 * s + cw) r2).1 k = mm.1 k := fun k h1 h2 => by rw [dSet_k h2, dSet_k h1]
    have m83 : ∀ j : Nat, (dSet (dSet mm 83 (10 * s + cw) r1) 84 (10 * s + cw) r2).1 83 j = if j = 10 * s + cw then r1 else mm.1 83 j := fun j => by
      rw [dSet_k (by decide), dSet_e]
      by_cases q : j = 10 * s + cw
      · rw [if_pos ⟨rfl, q⟩, if_pos q]
      · rw [if_neg (fun z => q z.2), if_neg q]
    have m84 : ∀ j : Nat, (dSet (dSet mm 83 (10 * s + cw) r1) 84 (10 * s + cw) r2).1 84 j = if j = 10 * s + cw then r2 else mm.1 84 j := fun j => by
      rw [dSet_e]
      by_cases q : j = 10 * s + cw
      · rw [if_pos ⟨rfl, q⟩, if_pos q]
      · rw [if_neg (fun z => q z.2), if_neg q, dSet_k (by decide)]
    have lM : (dSet (dSet mm 83 (10 * s + cw) r1) 84 (10 * s + cw) r2).2 = mm.2 := rfl
    generalize dSet (dSet mm 83 (10 * s + cw) r1) 84 (10 * s + cw) r2 = M at F1 S1 kM m83 m84 lM ⊢
    have R1 : RM K V P M := (hR.cx cm).of (fun k a b => kM k (by omega) (by omega)) (by rw [lM])
    have hW3 : (rb (gnd K 22 (n + 1)) (gnd K 22)).1 = 0 → W3.1 ≠ 0 → W3.2 < n + 3 := fun z w => by
      have hh := hw z
      by_cases w0 : W.1 = 0
      · rcases hh.2 w0 with q | q
        · exact absurd q.1 w
        · omega
      · rw [hh.1 w0]; have := hW w0; omega
    refine Wp.deep (q_bounded hv hP R1 S1 (fun z w => by rw [(gnd2_z z).2.2.1]; exact hW3 z w) (fun v4 m4 W4 c4 h4 hw4 => ⟨by omega, ?_⟩)) (Nat.le_of_ble_eq_true rfl)
    have S4 : ST K P (dSet m4 85 (10 * s + cw) v4) (rb (rb (gnd K 22 (n + 1)) (gnd K 22)) (gnd K 23)) W4 := h4.k (by decide)
    have R4 : RM K V P (dSet m4 85 (10 * s + cw) v4) := (R1.cx c4).of (fun k a b => dSet_k (by omega)) rfl
    have F4 : FX m0 L (dSet m4 85 (10 * s + cw) v4) := (F1.cx c4).set (by decide) (by decide) (fun e => absurd e (by decide))
    refine Wp.deep (q_must (k := 59) hv R4 S4 (by decide) (by unfold vk; omega) (by decide) (fun m5 c5 h5 => ?_)) (Nat.le_of_ble_eq_true rfl)
    have f5 := h5.fl
    have F5 := F4.cx c5
    have sd5 := F5.sd hsd
    refine ⟨fun q => v_X12_tellWire_70_125 (hB (fun z => q (f5.2.mpr z)) m5 W4 h5 F5), fun q => ⟨by omega, ⟨by omega, v_X12_tellWire_70_125 ?_⟩⟩⟩
    rw [sd5.2]
    have z5 := f5.2.mp q
    have z4 := (rb_z z5).1
    have z3 := (rb_z z4).1
    obtain ⟨g1, g2, g3, g4, g5⟩ := gnd2_z z3
    have gg4 : rb (rb (gnd K 22 (n + 1)) (gnd K 22)) (gnd K 23) = (0, n + 4) ∧ K (n + 3) = 23 := by
      have z := z4
      rw [g3, rb_0] at z ⊢
      have := gnd_0 z
      exact ⟨this.1, this.2.1⟩
    have gg5 : rb (rb (rb (gnd K 22 (n + 1)) (gnd K 22)) (gnd K 23)) (gnd K 59) = (0, n + 5) := by
      have z := z5
      rw [gg4.1, rb_0] at z ⊢
      exact (gnd_0 z).1
    have hw4' := hw4 z4
    rw [g3] at hw4'
    have hw3' := hw z3
    have kk : ∀ k : Nat, k ≠ 70 → k ≠ 83 → k ≠ 84 → k ≠ 85 → m5.1 k = m.1 k := fun k a b c d => by rw [c5.1 k a, dSet_k d, c4.1 k a, kM k b c, cm.1 k a]
    have k834 : ∀ k : Nat, k = 83 ∨ k = 84 → m5.1 k = M.1 k := fun k e => by rw [c5.1 k (by omega), dSet_k (by omega), c4.1 k (by omega)]
    have jj : ∀ j : Nat, j ≠ 11 → j ≠ 13 → j ≠ 14 → j ≠ 15 → j ≠ 16 → m5.1 70 j = m.1 70 j := fun j a b c d e => by rw [c5.2.1 j a b c d e, dSet_k (by decide), c4.2.1 j a b c d e, kM 70 (by decide) (by decide), cm.2.1 j a b c d e]
    have ll : m5.2 = m.2 := by rw [c5.2.2]; show m4.2 = m.2; rw [c4.2.2, lM, cm.2.2]
    rw [gg5] at h5
    have tt5 : tt m5 = ((n + 5 : Nat) : Int) := (h5.1 rfl).2.1
    have tt0 : tt m = ((n + 1 : Nat) : Int) := e0
    have e82 : (m5.1 82 s).toInt = (cw : Int) := by rw [kk 82 (by decide) (by decide) (by decide) (by decide)]; exact hC.2.1
    have R5 : RM K V P (dSet m5 82 s (m5.1 82 s + 1)) := (R4.cx c5).of (fun k a b => dSet_k (by omega)) rfl
    have C5 : CT s cf (cw + 1) cu (dSet m5 82 s (m5.1 82 s + 1)) := by
      refine ⟨?_, by rw [dSet_s]; exact d_inc e82 (by omega), ?_, ?_, by omega, by omega, by omega⟩
      · rw [dSet_k (by decide), kk 80 (by decide) (by decide) (by decide) (by decide)]; exact hC.1
      · rw [dSet_k (by decide), kk 86 (by decide) (by decide) (by decide) (by decide)]; exact hC.2.2.1
      · show (m5.1 70 20).toInt = _
        rw [jj 20 (by decide) (by decide) (by decide) (by decide) (by decide)]; exact hC.2.2.2.1
    have Q5 : LQ s (dSet m5 82 s (m5.1 82 s + 1)) := hQ.j (jj 12 (by decide) (by decide) (by decide) (by decide) (by decide)) (jj 46 (by decide) (by decide) (by decide) (by decide) (by decide)) (jj 40 (by decide) (by decide) (by decide) (by decide) (by decide)) (by show tt m ≤ tt m5; omega)
    have S5 : ST K P (dSet m5 82 s (m5.1 82 s + 1)) (0, n + 5) W4 := h5.k (by decide)
    have F6 : FX m0 L (dSet m5 82 s (m5.1 82 s + 1)) := F5.set (by decide) (by decide) (fun e => absurd e (by decide))
    have key : (W4.1 ≠ 0 → W4.2 < n + 5) ∧ ∃ st' : mSt, (W4.1 = 0 → NM V s st' (dSet m5 82 s (m5.1 82 s + 1)) ∧ st'.1.length = cf ∧ st'.2.1.length = cw + 1 ∧ st'.2.2.1.length = cu) ∧ WM (mWire V n st) W W4 st' := by
      unfold WM
      by_cases w0 : W.1 = 0
      · obtain ⟨hN1, hl1, hl2, hl3⟩ := hN w0
        rcases hw3'.2 w0 with ⟨w3, a, b, ea, eb, ra, rb', nw⟩ | ⟨w3, ew, wl⟩
        · have mw : mWire V n st = bnd V (n + 3) 1 99 ((0, 0), (st.1, st.2.1 ++ [(n, a, b)], st.2.2)) st := by
            unfold mWire
            rw [ea, eb]
            show (if _ then _ else _) = _
            rw [if_neg nw]
          rw [mw]
          unfold bnd
          have e4 := hw4'.2
          by_cases inb : (1 : Int) ≤ iV V (n + 3) ∧ iV V (n + 3) ≤ 99
          · rw [if_pos inb]
            rw [if_pos (show (1 : Int32).toInt ≤ iV V (n + 3) ∧ iV V (n + 3) ≤ (99 : Int32).toInt from inb)] at e4
            rw [e4]
            refine ⟨fun q => absurd w3 q, (st.1, st.2.1 ++ [(n, a, b)], st.2.2), fun _ => ⟨?_, hl1, ?_, hl3⟩, fun q => absurd w0 q, fun _ => ⟨fun _ => ⟨w3, rfl⟩, fun q => absurd rfl q⟩⟩
            · refine hN1.wire (v1 := r1) (v2 := r2) ra rb' ?_ (fun j => ?_) (fun j => ?_) ?_
              · rw [dSet_k (by decide), kk 79 (by decide) (by decide) (by decide) (by decide)]
              · rw [dSet_k (by decide), k834 83 (Or.inl rfl), m83, hl2, cm.1 83 (by decide)]
              · rw [dSet_k (by decide), k834 84 (Or.inr rfl), m84, hl2, cm.1 84 (by decide)]
              · show m5.2.1 78 = _
                rw [ll]
            · show (st.2.1 ++ [(n, a, b)]).length = cw + 1
              rw [List.length_append, hl2]; rfl
          · rw [if_neg inb]
            rw [if_neg (show ¬ ((1 : Int32).toInt ≤ iV V (n + 3) ∧ iV V (n + 3) ≤ (99 : Int32).toInt) from inb), wadd_z w3] at e4
            rw [e4]
            exact ⟨fun _ => by show n + 3 < n + 5; omega, st, fun q => absurd q (Nat.succ_ne_zero 4), fun q => absurd w0 q, fun _ => ⟨fun q => absurd q (Nat.succ_ne_zero 4), fun _ => rfl⟩⟩
        · have e4 : W4 = W3 := by
            rw [hw4'.2]
            split
            · rfl
            · exact wadd_n w3
          rw [e4]
          exact ⟨fun _ => by omega, st, fun q => absurd q w3, fun q => absurd w0 q, fun _ => ⟨fun q => by rw [ew] at w3; exact absurd q w3, fun _ => ew⟩⟩
      · have e3 := hw3'.1 w0
        have e4 : W4 = W := by
          rw [hw4'.2, e3]
          split
          · rfl
          · exact wadd_n w0
        rw [e4]
        exact ⟨fun q => by have := hW q; omega, st, fun q => absurd q w0, fun _ => rfl, fun q => absurd q w0⟩
    obtain ⟨kw, st', kn, kwn⟩ := key
    exact hG z5 _ W4 st' ⟨S5, R5, F6, C5, Q5, kw, kn⟩ kwn
  refine Wp.deep (q_knownFlat hv hP hR hS hC.2.2.2.1 (by omega) (fun _ w => by have := hW w; show W.2 < n + 1; omega) (fun r1 m1 W1 c1 h1 hw1 => ?_)) (Nat.le_of_ble_eq_true rfl)
  have h1 : ST K P m1 (gnd K 22 (n + 1)) W1 := h1
  have hw1 : (gnd K 22 (n + 1)).1 = 0 → ((∃ k : Nat, k < cf + cu ∧ m.2.1 78 k = V (n + 1) ∧ 0 ≤ (m.1 79 k).toInt ∧ r1 = m.1 79 k) ∧ W1 = W) ∨ ((∀ k : Nat, k < cf + cu → m.2.1 78 k = V (n + 1) → (m.1 79 k).toInt < 0) ∧ r1 = -1 ∧ W1 = wadd W (4, n + 1)) := hw1
  have hW1 : (gnd K 22 (n + 1)).1 = 0 → W1.1 ≠ 0 → W1.2 < n + 2 := fun z w => by
    rcases hw1 z with ⟨-, e⟩ | ⟨-, -, e⟩
    · rw [e] at w ⊢; have := hW w; omega
    · rw [e] at w ⊢
      by_cases w0 : W.1 = 0
      · rw [wadd_z w0]; show n + 1 < n + 2; omega
      · rw [wadd_n w0]; have := hW w0; omega
  refine Wp.deep (q_knownFlat hv hP (hR.cx c1) h1 (hC.cx c1).2.2.2.1 (by omega) (fun z w => by rw [(gnd_0 z).1]; exact hW1 z w) (fun r2 m2 W2 c2 h2 hw2 => ?_)) (Nat.le_of_ble_eq_true rfl)
  have c12 := c1.tr c2
  have F2 := hF.cx c12
  have C2 := hC.cx c12
  have f2 := h2.fl
  refine ⟨fun q => w72 m2 r1 r2 W2 c12 h2 (fun z => absurd (f2.2.mpr z) q), fun q => ?_⟩
  have z2 : (rb (gnd K 22 (n + 1)) (gnd K 22)).1 = 0 := f2.2.mp q
  obtain ⟨g1, g2, g3, g4, g5⟩ := gnd2_z z2
  have z1 : (gnd K 22 (n + 1)).1 = 0 := (rb_z z2).1
  have hw1' := hw1 z1
  have hw2' := hw2 z2
  rw [g1, c1.2.2, c1.1 79 (by decide)] at hw2'
  have hw2' : ((∃ k : Nat, k < cf + cu ∧ m.2.1 78 k = V (n + 2) ∧ 0 ≤ (m.1 79 k).toInt ∧ r2 = m.1 79 k) ∧ W2 = W1) ∨ ((∀ k : Nat, k < cf + cu → m.2.1 78 k = V (n + 2) → (m.1 79 k).toInt < 0) ∧ r2 = -1 ∧ W2 = wadd W1 (4, n + 2)) := hw2'
  have hx3 : (m1.1 70 11).toInt = ((n + 2 : Nat) : Int) := by
    have := (h1.1 z1).2.1
    rw [g1] at this
    exact this
  have lv2 : lvK K (n + 2) := by
    have := (h1.1 z1).2.2.2.1
    rw [g1] at this
    exact this
  have n2 : n + 2 ≤ 400 := by omega
  have em1 : (-1 : Int32).toInt = -1 := by decide
  have h66 : (W2.1 ≠ 0 → W2.2 < n + 2) → ((W.1 ≠ 0 → wadd W2 (3, n + 2) = W) ∧ (W.1 = 0 → (wadd W2 (3, n + 2)).1 ≠ 0 ∧ wadd W2 (3, n + 2) = (mWire V n st).1 ∧ (wadd W2 (3, n + 2)).2 ≤ n + 2)) → j_X12_tellWire_70_66 6 X r1 (m1.1 70 11) r2 m2 Q := fun a b => by
    refine v_X12_tellWire_70_66 (Wp.deep (q_wrong (c := 3) (tok := n + 2) hP (hR.cx c12) h2 (by decide) (by decide) hx3 n2 (fun _ => lv2) (fun _ w => Or.inl (a w)) (fun m3 c3 _ h3 => w72 m3 r1 r2 _ (c12.tr c3) h3 (fun _ => ⟨b.1, fun w => Or.inr (b.2 w)⟩))) (Nat.le_of_ble_eq_true rfl))
  by_cases w0 : W.1 = 0
  · obtain ⟨hN1, hl1, hl2, hl3⟩ := hN w0
    rcases hw1' with ⟨⟨k1, k2, k3, k4, k5⟩, e1⟩ | ⟨k1, k2, e1⟩
    · obtain ⟨a, fa, va⟩ := hN1.sm (by omega) k3 k4
      have ra : r1.toInt = (a : Int) := by rw [k5]; exact va
      rcases hw2' with ⟨⟨l1, l2, l3, l4, l5⟩, e2⟩ | ⟨l1, l2, e2⟩
      · obtain ⟨b, fb, vb⟩ := hN1.sm (by omega) l3 l4
        have rb' : r2.toInt = (b : Int) := by rw [l5]; exact vb
        have eW2 : W2.1 = 0 := by rw [e2, e1]; exact w0
        have mw : (a = b ∨ wx (wE st) a b st.2.1.length 0 = true) → mWire V n st = ((3, n + 2), st) := fun o => by
          unfold mWire
          rw [fa, fb]
          show (if _ then _ else _) = _
          rw [if_pos o]
        have go66 : (a = b ∨ wx (wE st) a b st.2.1.length 0 = true) → j_X12_tellWire_70_66 6 X r1 (m1.1 70 11) r2 m2 Q := fun o => h66 (fun w => absurd eW2 w) ⟨fun w => absurd w0 w, fun _ => by rw [wadd_z eW2, mw o]; exact ⟨Nat.succ_ne_zero 2, rfl, Nat.le_refl _⟩⟩
        refine ⟨fun q => by exfalso; omega, fun _ => ⟨fun q => by exfalso; omega, fun _ => ⟨fun q => go66 (Or.inl (by omega)), fun q => ?_⟩⟩⟩
        refine Wp.deep (q_areWired (st := st) hs (F2.sd hsd).1 (by rw [hl2]; exact C2.2.1) (by omega) (hN1.cx c12).2.2.2.2 ra rb' (fun y => ⟨fun q => absurd q (by decide), fun _ => go66 (Or.inr y)⟩) (fun y => ⟨fun _ => w72 m2 r1 r2 W2 c12 h2 (fun _ => ⟨fun w => absurd w0 w, fun _ => Or.inl ⟨eW2, a, b, fa, fb, ra, rb', fun o => ?_⟩⟩), fun q => absurd rfl q⟩)) (Nat.le_of_ble_eq_true rfl)
        rcases o with o | o
        · omega
        · rw [y] at o; cases o
      · have fb := hN1.nn (y := V (n + 2)) (fun k hk he => l1 k (by omega) he)
        have mw : mWire V n st = ((4, n + 2), st) := by
          unfold mWire
          rw [fa, fb]
        have r2v : r2.toInt = -1 := by rw [l2]; exact em1
        have eW2 : W2 = (4, n + 2) := by rw [e2, e1, wadd_z w0]
        refine ⟨fun q => by exfalso; omega, fun _ => ⟨fun q => w72 m2 r1 r2 W2 c12 h2 (fun _ => ⟨fun w => absurd w0 w, fun _ => Or.inr ?_⟩), fun q => by exfalso; omega⟩⟩
        rw [eW2, mw]
        exact ⟨Nat.succ_ne_zero 3, rfl, Nat.le_refl _⟩
    · have fa := hN1.nn (y := V (n + 1)) (fun k hk he => k1 k (by omega) he)
      have mw : mWire V n st = ((4, n + 1), st) := by
        unfold mWire
        rw [fa]
      have r1v : r1.toInt = -1 := by rw [k2]; exact em1
      have eW1 : W1 = (4, n + 1) := by rw [e1, wadd_z w0]
      have eW2 : W2 = (4, n + 1) := by
        rcases hw2' with ⟨-, e⟩ | ⟨-, -, e⟩
        · rw [e, eW1]
        · rw [e, eW1, wadd_n (Nat.succ_ne_zero 3)]
      refine ⟨fun q => w72 m2 r1 r2 W2 c12 h2 (fun _ => ⟨fun w => absurd w0 w, fun _ => Or.inr ?_⟩), fun q => by exfalso; omega⟩
      rw [eW2, mw]
      exact ⟨Nat.succ_ne_zero 3, rfl, by show n + 1 ≤ n + 2; omega⟩
  · have eW1 : W1 = W := by
      rcases hw1' with ⟨-, e⟩ | ⟨-, -, e⟩
      · exact e
      · rw [e, wadd_n w0]
    have eW2 : W2 = W := by
      rcases hw2' with ⟨-, e⟩ | ⟨-, -, e⟩
      · rw [e, eW1]
      · rw [e, eW1, wadd_n w0]
    have go := w72 m2 r1 r2 W2 c12 h2 (fun _ => ⟨fun _ => eW2, fun w => absurd w w0⟩)
    have go66 := h66 (fun w => by rw [eW2] at w ⊢; have := hW w; omega) ⟨fun _ => by rw [eW2, wadd_n w0], fun w => absurd w w0⟩
    refine ⟨fun _ => go, fun _ => ⟨fun _ => go, fun _ => ⟨fun _ => go66, fun _ => ?_⟩⟩⟩
    have b82 := C2.2.1
    exact Wp.deep (p_areWired hs (F2.sd hsd) (by omega) (fun r3 => ⟨fun _ => go, fun _ => go66⟩)) (Nat.le_of_ble_eq_true rfl)
end RWI
end
section
/-! THE REFERENCE's tells, exactly: a use -/
/-- a number's bounds: what comes of the wrong so far -/
def bX (V : Nat → Int64) (lo hi : Int) (i : Nat) (W : gR) : gR := if lo ≤ iV V i ∧ iV V i ≤ hi then W else wadd W (5, i)
def UF (m mm : dM) : Prop := (∀ k : Nat, k ≠ 70 → ¬ (87 ≤ k ∧ k ≤ 90) → mm.1 k = m.1 k) ∧ (∀ j : Nat, j ≠ 11 → j ≠ 13 → j ≠ 14 → j ≠ 15 → j ≠ 16 → mm.1 70 j = m.1 70 j) ∧ mm.2 = m.2
section RUS
variable {K : Nat → Int} {V : Nat → Int64} {P : Nat → Nat} {m0 m : dM} {L s cf cw cu n : Nat} {W : gR} {st : mSt}
theorem bX_n {lo hi : Int} {i : Nat} (h : W.1 ≠ 0) : bX V lo hi i W = W := by
  unfold bX
  split
  · rfl
  · exact wadd_n h
theorem bX_lt {lo hi : Int} {i j : Nat} (h : W.1 ≠ 0 → W.2 < j) (hij : i < j) : (bX V lo hi i W).1 ≠ 0 → (bX V lo hi i W).2 < j := by
  unfold bX
  split
  · exact h
  · intro q
    by_cases w0 : W.1 = 0
    · rw [wadd_z w0]; exact hij
    · rw [wadd_n w0]; exact h w0
theorem UF.cx {a b : dM} (h : UF m a) (hc : Cx a b) : UF m b := ⟨fun k e1 e2 => (hc.1 k e1).trans (h.1 k e1 e2), fun j a1 a2 a3 a4 a5 => (hc.2.1 j a1 a2 a3 a4 a5).trans (h.2.1 j a1 a2 a3 a4 a5), hc.2.2.trans h.2.2⟩
theorem UF.set {a : dM} {k j : Nat} {v : Int32} (h : UF m a) (hk : 87 ≤ k ∧ k ≤ 90) : UF m (dSet a k j v) := ⟨fun b e1 e2 => by rw [dSet_k (fun e => e2 (by omega))]; exact h.1 b e1 e2, fun b a1 a2 a3 a4 a5 => by rw [dSet_k (by omega)]; exact h.2.1 b a1 a2 a3 a4 a5, h.2.2⟩
theorem FX.uf {mm : dM} (h : FX m0 L m) (hu : UF m mm) : FX m0 L mm := ⟨fun k e => (hu.1 k (by omega) (by omega)).trans (h.1 k e), fun j e => (hu.2.1 j (by omega) (by omega) (by omega) (by omega) (by omega)).trans (h.2.1 j e), by rw [hu.1 80 (by decide) (by decide)]; exact h.2.2⟩
theorem RM.uf {mm : dM} (h : RM K V P m) (hu : UF m mm) : RM K V P mm := h.of (fun k a b => hu.1 k (by omega) (by omega)) (by rw [hu.2.2])
theorem e_use {Q : dM → Prop} (hL : L + s = 1) (hsd : (m0.1 70 19).toInt = (s : Int)) (hv : ∀ i, vk (K i)) (hP : ∀ i j : Nat, i < j → lvK K j → P i < P j) (hS : ST K P m (0, n + 1) W) (hR : RM K V P m) (hF : FX m0 L m) (hC : CT s cf cw cu m) (h7 : cu ≤ 7) (hQ : LQ s m) (hW : W.1 ≠ 0 → W.2 < n) (hN : W.1 = 0 → NM V s st m ∧ st.1.length = cf ∧ st.2.1.length = cw ∧ st.2.2.1.length = cu)
    (hB : (gsq K [22, 22, 23, 23, 23, 59] (n + 1)).1 ≠ 0 → ∀ (m' : dM) (W' : gR), ST K P m' (gsq K [22, 22, 23, 23, 23, 59] (n + 1)) W' → FX m0 L m' → Q m')
    (hG : (gsq K [22, 22, 23, 23, 23, 59] (n + 1)).1 = 0 → ∀ (m' : dM) (W' : gR) (st' : mSt), TI K V P m0 L s cf cw (cu + 1) (n + 7) W' st' m' → WM (mUse V n st) W W' st' → Q m') : c_X12_tellUse_70 6 m Q := by
  have hs : s ≤ 1 := by omega
  have hC5 := hC.2.2.2.2
  have sd := hF.sd hsd
  have fm := dMulE (X := 8) (Y := (s : Int)) (x := (8 : Int32)) (y := m.1 70 19) (by decide) sd.1 (by omega) (by omega)
  have fx := dAddE (X := 8 * (s : Int)) (Y := (cu : Int)) (x := (8 : Int32) * m.1 70 19) (y := m.1 86 s) fm hC.2.2.1 (by omega) (by omega)
  have gG : gsq K [22, 22, 23, 23, 23, 59] (n + 1) = rb (rb (rb (rb (rb (gnd K 22 (n + 1)) (gnd K 22)) (gnd K 23)) (gnd K 23)) (gnd K 23)) (gnd K 59) := by
    have : gsq K [22, 22, 23, 23, 23, 59] (n + 1) = rb (gnd K 22 (n + 1)) (gsq K [22, 23, 23, 23, 59]) := rfl
    rw [this, gsq_r, gsq_r, gsq_r, gsq_r, gsq_r, rb_id]
  rw [gG] at hB hG
  refine v_X12_tellUse_70 ⟨by omega, ?_⟩
  rw [sd.2]
  generalize hX : (8 : Int32) * m.1 70 19 + m.1 86 s = X at fx ⊢
  have eX : X.toNatClampNeg = 8 * s + cu := by
    have := d_cl (x := X) (by omega)
    omega
  have e0 : (m.1 70 11).toInt = ((n + 1 : Nat) : Int) := (hS.1 rfl).2.1
  have lv1 : lvK K (n + 1) := (hS.1 rfl).2.2.2.1
  have n1 : n + 1 ≤ 400 := (hS.1 rfl).2.2.1
  refine Wp.deep (q_named hv hP hR hS hC.2.2.2.1 (by omega) (fun w => by have := hW w; omega) (fun m1 W1 c1 h1 hw1 => ?_)) (Nat.le_of_ble_eq_true rfl)
  have U1 : UF m m1 := ⟨fun k a _ => c1.1 k a, c1.2.1, c1.2.2⟩
  have hW1 : (gnd K 22 (n + 1)).1 = 0 → W1.1 ≠ 0 → W1.2 < n + 2 := fun z w => by
    rcases hw1 z with ⟨-, e⟩ | ⟨-, e⟩
    · rw [e] at w ⊢
      by_cases w0 : W.1 = 0
      · rw [wadd_z w0]; show n + 1 < n + 2; omega
      · rw [wadd_n w0]; have := hW w0; omega
    · rw [e] at w ⊢; have := hW w; omega
  refine Wp.deep (q_knownFlat hv hP (hR.cx c1) h1 (hC.cx c1).2.2.2.1 (by omega) (fun z w => by rw [(gnd_0 z).1]; exact hW1 z w) (fun r2 m2 W2 c2 h2 hw2 => ?_)) (Nat.le_of_ble_eq_true rfl)
  rw [eX]
  have U2 : UF m (dSet m2 87 (8 * s + cu) r2) := (U1.cx c2).set (by decide)
  have S2 : ST K P (dSet m2 87 (8 * s + cu) r2) (rb (gnd K 22 (n + 1)) (gnd K 22)) W2 := h2.k (by decide)
  have hw2' : (rb (gnd K 22 (n + 1)) (gnd K 22)).1 = 0 → ((∃ k : Nat, k < cf + cu ∧ m.2.1 78 k = V (n + 2) ∧ 0 ≤ (m.1 79 k).toInt ∧ r2 = m.1 79 k) ∧ W2 = W1) ∨ ((∀ k : Nat, k < cf + cu → m.2.1 78 k = V (n + 2) → (m.1 79 k).toInt < 0) ∧ r2 = -1 ∧ W2 = wadd W1 (4, n + 2)) := fun z => by
    have := hw2 z
    rw [(gnd2_z z).1, c1.2.2, c1.1 79 (by decide)] at this
    exact this
  have hW2 : (rb (gnd K 22 (n + 1)) (gnd K 22)).1 = 0 → W2.1 ≠ 0 → W2.2 < n + 3 := fun z w => by
    have z1 := (rb_z z).1
    rcases hw2' z with ⟨-, e⟩ | ⟨-, -, e⟩
    · rw [e] at w ⊢; have := hW1 z1 w; omega
    · rw [e] at w ⊢
      by_cases w0 : W1.1 = 0
      · rw [wadd_z w0]; show n + 2 < n + 3; omega
      · rw [wadd_n w0]; have := hW1 z1 w0; omega
  refine ⟨by omega, ?_⟩
  generalize dSet m2 87 (8 * s + cu) r2 = M2 at U2 S2 ⊢
  refine Wp.deep (q_bounded hv hP (hR.uf U2) S2 (fun z w => by rw [(gnd2_z z).2.2.1]; exact hW2 z w) (fun r3 m3 W3 c3 h3 hw3 => ⟨by omega, ?_⟩)) (Nat.le_of_ble_eq_true rfl)
  have U3 : UF m (dSet m3 88 (8 * s + cu) r3) := (U2.cx c3).set (by decide)
  have S3 : ST K P (dSet m3 88 (8 * s + cu) r3) (rb (rb (gnd K 22 (n + 1)) (gnd K 22)) (gnd K 23)) W3 := h3.k (by decide)
  have hw3' : (rb (rb (gnd K 22 (n + 1)) (gnd K 22)) (gnd K 23)).1 = 0 → rb (rb (gnd K 22 (n + 1)) (gnd K 22)) (gnd K 23) = (0, n + 4) ∧ W3 = bX V 1 19 (n + 3) W2 := fun z => by
    have a := hw3 z
    have z2 := (rb_z z).1
    rw [(gnd2_z z2).2.2.1] at a z ⊢
    exact ⟨(gnd_0 z).1, a.2⟩
  have hW3 : (rb (rb (gnd K 22 (n + 1)) (gnd K 22)) (gnd K 23)).1 = 0 → W3.1 ≠ 0 → W3.2 < n + 4 := fun z => by
    rw [(hw3' z).2]
    exact bX_lt (fun w => by have := hW2 (rb_z z).1 w; omega) (by omega)
  generalize dSet m3 88 (8 * s + cu) r3 = M3 at U3 S3 ⊢
  refine Wp.deep (q_bounded hv hP (hR.uf U3) S3 (fun z w => by rw [(hw3' z).1]; exact hW3 z w) (fun r4 m4 W4 c4 h4 hw4 => ⟨by omega, ⟨by omega, ?_⟩⟩)) (Nat.le_of_ble_eq_true rfl)
  have U4 : UF m (dSet m4 89 (8 * s + cu) r4) := (U3.cx c4).set (by decide)
  have S4 : ST K P (dSet m4 89 (8 * s + cu) r4) (rb (rb (rb (gnd K 22 (n + 1)) (gnd K 22)) (gnd K 23)) (gnd K 23)) W4 := h4.k (by decide)
  have hw4' : (rb (rb (rb (gnd K 22 (n + 1)) (gnd K 22)) (gnd K 23)) (gnd K 23)).1 = 0 → rb (rb (rb (gnd K 22 (n + 1)) (gnd K 22)) (gnd K 23)) (gnd K 23) = (0, n + 5) ∧ r4.toInt = iV V (n + 4) ∧ W4 = bX V 0 23 (n + 4) W3 := fun z => by
    have a := hw4 z
    have z2 := (rb_z z).1
    rw [(hw3' z2).1] at a z ⊢
    exact ⟨(gnd_0 z).1, by rw [a.1]; rfl, a.2⟩
  have hW4 : (rb (rb (rb (gnd K 22 (n + 1)) (gnd K 22)) (gnd K 23)) (gnd K 23)).1 = 0 → W4.1 ≠ 0 → W4.2 < n + 5 := fun z => by
    rw [(hw4' z).2.2]
    exact bX_lt (fun w => by have := hW3 (rb_z z).1 w; omega) (by omega)
  have tail : ∀ x : Int32, (W4.1 = 0 → (rb (rb (rb (gnd K 22 (n + 1)) (gnd K 22)) (gnd K 23)) (gnd K 23)).1 = 0 → W3.1 = 0 → x.toInt = iV V (n + 4)) → c_X12_bounded_70 5 x (23 : Int32) (dSet m4 89 (8 * s + cu) r4) (fun r5 m5 => ((0 ≤ X.toInt ∧ X.toInt < 16) ∧ c_X12_endsName_70 5 (m.1 70 11) (-1 : Int32) (dSet m5 90 (8 * s + cu) r5) (fun m6 => (((m6.1 70 13).toInt ≠ 0 → j_X12_tellUse_70_118 (5 + 1) m6 Q) ∧ ((m6.1 70 13).toInt = 0 → ((0 ≤ (m6.1 70 19).toInt ∧ (m6.1 70 19).toInt < 2) ∧ ((0 ≤ (m6.1 70 19).toInt ∧ (m6.1 70 19).toInt < 2) ∧ j_X12_tellUse_70_118 (5 + 1) (dSet m6 86 (m6.1 70 19).toNatClampNeg ((m6.1 86 (m6.1 70 19).toNatClampNeg) + (1 : Int32))) Q))))))) := by
    intro x hx
    generalize dSet m4 89 (8 * s + cu) r4 = M4 at U4 S4 ⊢
    refine Wp.deep (q_bounded hv hP (hR.uf U4) S4 (fun z w => by rw [(hw4' z).1]; exact hW4 z w) (fun r5 m5 W5 c5 h5 hw5 => ⟨by omega, ?_⟩)) (Nat.le_of_ble_eq_true rfl)
    have U5 : UF m (dSet m5 90 (8 * s + cu) r5) := (U4.cx c5).set (by decide)
    have S5 : ST K P (dSet m5 90 (8 * s + cu) r5) (rb (rb (rb (rb (gnd K 22 (n + 1)) (gnd K 22)) (gnd K 23)) (gnd K 23)) (gnd K 23)) W5 := h5.k (by decide)
    have hw5' : (rb (rb (rb (rb (gnd K 22 (n + 1)) (gnd K 22)) (gnd K 23)) (gnd K 23)) (gnd K 23)).1 = 0 → rb (rb (rb (rb (gnd K 22 (n + 1)) (gnd K 22)) (gnd K 23)) (gnd K 23)) (gnd K 23) = (0, n + 6) ∧ W5 = bX V x.toInt 23 (n + 5) W4 := fun z => by
      have a := hw5 z
      have z2 := (rb_z z).1
      rw [(hw4' z2).1] at a z ⊢
      exact ⟨(gnd_0 z).1, a.2⟩
    generalize dSet m5 90 (8 * s + cu) r5 = M5 at U5 S5 ⊢
    have F5 := hF.uf U5
    have R5 := hR.uf U5
    have N5 : nms M5 = ((cf + cu : Nat) : Int) := by unfold nms; rw [U5.2.1 20 (by decide) (by decide) (by decide) (by decide) (by decide)]; exact hC.2.2.2.1
    refine Wp.deep (q_endsName (N := cf + cu) (tok := n + 1) hv R5 S5 e0 n1 N5 (by omega) (fun z6 m6 c6 h6 => ?_) (fun z6 m6 E6 h6 => ?_)) (Nat.le_of_ble_eq_true rfl)
    · have f6 := h6.fl
      exact ⟨fun _ => v_X12_tellUse_70_118 (hB z6 m6 W5 h6 (F5.cx c6)), fun q => absurd (f6.2.mp q) z6⟩
    · have f6 := h6.fl
      have F6 := F5.en E6
      have sd6 := F6.sd hsd
      rw [sd6.2]
      refine ⟨fun q => absurd (f6.2.mpr z6) q, fun _ => ⟨by omega, ⟨by omega, v_X12_tellUse_70_118 ?_⟩⟩⟩
      have z5 := (rb_z z6).1
      have z4 := (rb_z z5).1
      have z3 := (rb_z z4).1
      have z2 := (rb_z z3).1
      have z1 := (rb_z z2).1
      have t6 : rb (rb (rb (rb (rb (gnd K 22 (n + 1)) (gnd K 22)) (gnd K 23)) (gnd K 23)) (gnd K 23)) (gnd K 59) = (0, n + 7) := by
        have z := z6
        rw [(hw5' z5).1, rb_0] at z ⊢
        exact (gnd_0 z).1
      have h6' := h6
      rw [t6] at h6'
      have yn : M5.2.1 76 (n + 1) = V (n + 1) := by
        have hk1 := (gnd_0 z1).2.1
        exact (R5 (n + 1) n1 lv1).2.2.1 (by omega)
      rw [yn] at E6
      have e86 : (m6.1 86 s).toInt = (cu : Int) := by rw [E6.1 86 (by decide) (by decide), U5.1 86 (by decide) (by decide)]; exact hC.2.2.1
      have jj : ∀ j : Nat, j = 12 ∨ j = 40 ∨ j = 46 → m6.1 70 j = m.1 70 j := fun j e => by rw [E6.2.1 j (by omega) (by omega) (by omega) (by omega) (by omega) (by omega), U5.2.1 j (by omega) (by omega) (by omega) (by omega) (by omega)]
      have tt6 : tt m6 = ((n + 7 : Nat) : Int) := (h6'.1 rfl).2.1
      have tt0 : tt m = ((n + 1 : Nat) : Int) := e0
      have SS : ST K P (dSet m6 86 s (m6.1 86 s + 1)) (0, n + 7) W5 := h6'.k (by decide)
      have RR : RM K V P (dSet m6 86 s (m6.1 86 s + 1)) := R5.of (fun k a b => by rw [dSet_k (by omega)]; exact E6.1 k (by omega) (by omega)) (by show m6.2.1 76 = M5.2.1 76; exact E6.2.2.2.2.1 76 (by decide))
      have QQ : LQ s (dSet m6 86 s (m6.1 86 s + 1)) := hQ.j (jj 12 (by omega)) (jj 46 (by omega)) (jj 40 (by omega)) (by show tt m ≤ tt m6; omega)
      have FF : FX m0 L (dSet m6 86 s (m6.1 86 s + 1)) := F6.set (by decide) (by decide) (fun e => absurd e (by decide))
      have CC : CT s cf cw (cu + 1) (dSet m6 86 s (m6.1 86 s + 1)) := by
        refine ⟨?_, ?_, by rw [dSet_s]; exact d_inc e86 (by omega), ?_, by omega, by omega, by omega⟩
        · rw [dSet_k (by decide), E6.1 80 (by decide) (by decide), U5.1 80 (by decide) (by decide)]; exact hC.1
        · rw [dSet_k (by decide), E6.1 82 (by decide) (by decide), U5.1 82 (by decide) (by decide)]; exact hC.2.1
        · show (m6.1 70 20).toInt = _
          rw [E6.2.2.1]
          omega
      have e3 := (hw3' z3).2
      have e4 := (hw4' z4).2.2
      have e5 := (hw5' z5).2
      have w5lt : W5.1 ≠ 0 → W5.2 < n + 7 := by
        rw [e5]
        exact bX_lt (fun w => by have := hW4 z4 w; omega) (by omega)
      have stays : W2.1 ≠ 0 → W5 = W2 := fun w => by rw [e5, e4, e3, bX_n w, bX_n w, bX_n w]
      have key : ∃ st' : mSt, (W5.1 = 0 → NM V s st' (dSet m6 86 s (m6.1 86 s + 1)) ∧ st'.1.length = cf ∧ st'.2.1.length = cw ∧ st'.2.2.1.length = cu + 1) ∧ WM (mUse V n st) W W5 st' := by
        unfold WM
        by_cases w0 : W.1 = 0
        · obtain ⟨hN1, hl1, hl2, hl3⟩ := hN w0
          have kn : (∃ k : Nat, k < cf + cu ∧ m.2.1 78 k = V (n + 1)) ↔ knw V st (V (n + 1)) = true := by
            rw [← hl1, ← hl3]; exact hN1.kn
          have wr : ∀ (c i : Nat), W5 = (c + 1, i) → mUse V n st = ((c + 1, i), st) → ∃ st' : mSt, (W5.1 = 0 → NM V s st' (dSet m6 86 s (m6.1 86 s + 1)) ∧ st'.1.length = cf ∧ st'.2.1.length = cw ∧ st'.2.2.1.length = cu + 1) ∧ (W.1 ≠ 0 → W5 = W) ∧ (W.1 = 0 → ((mUse V n st).1.1 = 0 → W5.1 = 0 ∧ st' = (mUse V n st).2) ∧ ((mUse V n st).1.1 ≠ 0 → W5 = (mUse V n st).1)) := fun c i a b => by
            rw [a, b]
            exact ⟨st, fun q => absurd q (Nat.succ_ne_zero c), fun q => absurd w0 q, fun _ => ⟨fun q => absurd q (Nat.succ_ne_zero c), fun _ => rfl⟩⟩
          rcases hw1 z1 with ⟨ex, e1⟩ | ⟨ex, e1⟩
          · have kt := kn.mp ex
            rw [wadd_z w0] at e1
            have e2 : W2 = (3, n + 1) := by
              rcases hw2' z2 with ⟨-, e⟩ | ⟨-, -, e⟩
              · rw [e, e1]
              · rw [e, e1, wadd_n (Nat.succ_ne_zero 2)]
            refine wr 2 (n + 1) (by rw [stays (by rw [e2]; exact Nat.succ_ne_zero 2), e2]) ?_
            unfold mUse
            rw [kt]
            rfl
          · have kf : knw V st (V (n + 1)) = false := by
              cases hh : knw V st (V (n + 1)) with
              | false => rfl
              | true =>
                obtain ⟨k, k1, k2⟩ := kn.mpr hh
                exact absurd k2 (ex k k1)
            rcases hw2' z2 with ⟨⟨k, k2, k3, k4, k5⟩, e2⟩ | ⟨k1, k2, e2⟩
            · obtain ⟨h, fh, vh⟩ := hN1.sm (by omega) k3 k4
              have mU : mUse V n st = bnd V (n + 3) 1 19 (bnd V (n + 4) 0 23 (bnd V (n + 5) (iV V (n + 4)) 23 ((0, 0), (st.1, st.2.1, st.2.2.1 ++ [(n, h)], st.2.2.2)) st) st) st := by
                unfold mUse
                rw [kf, fh]
                rfl
              rw [e1] at e2
              rw [e2] at e3
              unfold bX at e3 e4 e5
              by_cases b3 : (1 : Int) ≤ iV V (n + 3) ∧ iV V (n + 3) ≤ 19
              · rw [if_pos b3] at e3
                rw [e3] at e4
                by_cases b4 : (0 : Int) ≤ iV V (n + 4) ∧ iV V (n + 4) ≤ 23
                · rw [if_pos b4] at e4
                  have ex5 := hx (by rw [e4]; exact w0) z4 (by rw [e3]; exact w0)
                  rw [ex5, e4] at e5
                  by_cases b5 : iV V (n + 4) ≤ iV V (n + 5) ∧ iV V (n + 5) ≤ 23
                  · rw [if_pos b5] at e5
                    have mU' : mUse V n st = ((0, 0), (st.1, st.2.1, st.2.2.1 ++ [(n, h)], st.2.2.2)) := by
                      rw [mU]
                      unfold bnd
                      rw [if_pos b3, if_pos b4, if_pos b5]
                    rw [mU', e5]
                    refine ⟨(st.1, st.2.1, st.2.2.1 ++ [(n, h)], st.2.2.2), fun _ => ⟨?_, hl1, hl2, ?_⟩, fun q => absurd w0 q, fun _ => ⟨fun _ => ⟨w0, rfl⟩, fun q => absurd rfl q⟩⟩
                    · refine hN1.use (N := cf + cu) (v := (-1 : Int32)) (by omega) (by decide) (fun j => ?_) ?_ ?_ (fun j => ?_)
                      · rw [dSet_k (by decide), E6.2.2.2.1 j, U5.1 79 (by decide) (by decide)]
                      · rw [dSet_k (by decide), E6.1 83 (by decide) (by decide), U5.1 83 (by decide) (by decide)]
                      · rw [dSet_k (by decide), E6.1 84 (by decide) (by decide), U5.1 84 (by decide) (by decide)]
                      · show m6.2.1 78 j = _
                        rw [E6.2.2.2.2.2.1 j, U5.2.2]
                    · show (st.2.2.1 ++ [(n, h)]).length = cu + 1
                      rw [List.length_append, hl3]; rfl
                  · rw [if_neg b5, wadd_z w0] at e5
                    refine wr 4 (n + 5) e5 ?_
                    rw [mU]
                    unfold bnd
                    rw [if_pos b3, if_pos b4, if_neg b5]
                · rw [if_neg b4, wadd_z w0] at e4
                  rw [e4] at e5
                  refine wr 4 (n + 4) (by rw [e5]; split; rfl; exact wadd_n (Nat.succ_ne_zero 4)) ?_
                  rw [mU]
                  unfold bnd
                  rw [if_pos b3, if_neg b4]
              · rw [if_neg b3, wadd_z w0] at e3
                have e4' : W4 = (5, n + 3) := by rw [e4, e3]; split; rfl; exact wadd_n (Nat.succ_ne_zero 4)
                refine wr 4 (n + 3) (by rw [e5, e4']; split; rfl; exact wadd_n (Nat.succ_ne_zero 4)) ?_
                rw [mU]
                unfold bnd
                rw [if_neg b3]
            · have fh := hN1.nn (y := V (n + 2)) (fun k hk he => k1 k (by omega) he)
              have e2' : W2 = (4, n + 2) := by rw [e2, e1, wadd_z w0]
              refine wr 3 (n + 2) (by rw [stays (by rw [e2']; exact Nat.succ_ne_zero 3), e2']) ?_
              unfold mUse
              rw [kf, fh]
              rfl
        · have e1 : W1 = W := by
            rcases hw1 z1 with ⟨-, e⟩ | ⟨-, e⟩
            · rw [e, wadd_n w0]
            · exact e
          have e2 : W2 = W := by
            rcases hw2' z2 with ⟨-, e⟩ | ⟨-, -, e⟩
            · rw [e, e1]
            · rw [e, e1, wadd_n w0]
          have e5' : W5 = W := by rw [stays (by rw [e2]; exact w0), e2]
          rw [e5']
          exact ⟨st, fun q => absurd q w0, fun _ => rfl, fun q => absurd q w0⟩
      obtain ⟨st', kn, kwn⟩ := key
      exact hG z6 _ W5 st' ⟨SS, RR, FF, CC, QQ, w5lt, kn⟩ kwn
  refine ⟨fun q => ⟨by omega, tail r4 (fun _ z _ => (hw4' z).2.1)⟩, fun q => tail (0 : Int32) (fun w z w3 => ?_)⟩
  exfalso
  have e23 : (23 : Int32).toInt = 23 := by decide
  have a := hw4' z
  rw [a.2.2] at w
  unfold bX at w
  rw [if_neg (by omega), wadd_z w3] at w
  exact absurd w (Nat.succ_ne_zero 4)
end RUS
end
section
/-! THE REFERENCE's tells, exactly: one of them -/
def VF (m mm : dM) : Prop := (∀ k : Nat, k ≠ 70 → ¬ (91 ≤ k ∧ k ≤ 94) → mm.1 k = m.1 k) ∧ (∀ j : Nat, j ≠ 11 → j ≠ 13 → j ≠ 14 → j ≠ 15 → j ≠ 16 → mm.1 70 j = m.1 70 j) ∧ mm.2 = m.2
section RON
variable {K : Nat → Int} {V : Nat → Int64} {P : Nat → Nat} {m0 m : dM} {L s cf cw cu n : Nat} {W : gR} {st : mSt}
theorem VF.of {b : dM} (hc : Cx m b) : VF m b := ⟨fun k e _ => hc.1 k e, hc.2.1, hc.2.2⟩
theorem VF.cx {a b : dM} (h : VF m a) (hc : Cx a b) : VF m b := ⟨fun k e1 e2 => (hc.1 k e1).trans (h.1 k e1 e2), fun j a1 a2 a3 a4 a5 => (hc.2.1 j a1 a2 a3 a4 a5).trans (h.2.1 j a1 a2 a3 a4 a5), hc.2.2.trans h.2.2⟩
theorem VF.set {a : dM} {k j : Nat} {v : Int32} (h : VF m a) (hk : 91 ≤ k ∧ k ≤ 94) : VF m (dSet a k j v) := ⟨fun b e1 e2 => by rw [dSet_k (fun e => e2 (by omega))]; exact h.1 b e1 e2, fun b a1 a2 a3 a4 a5 => by rw [dSet_k (by omega)]; exact h.2.1 b a1 a2 a3 a4 a5, h.2.2⟩
theorem FX.vf {mm : dM} (h : FX m0 L m) (hu : VF m mm) : FX m0 L mm := ⟨fun k e => (hu.1 k (by omega) (by omega)).trans (h.1 k e), fun j e => (hu.2.1 j (by omega) (by omega) (by omega) (by omega) (by omega)).trans (h.2.1 j e), by rw [hu.1 80 (by decide) (by decide)]; exact h.2.2⟩
theorem RM.vf {mm : dM} (h : RM K V P m) (hu : VF m mm) : RM K V P mm := h.of (fun k a b => hu.1 k (by omega) (by omega)) (by rw [hu.2.2])
theorem TI.fin {mm : dM} {n' : Nat} {W' : gR} {z : Option Nat × Option Nat × Option Nat} (hT : TI K V P m0 L s cf cw cu n W st m) (hu : VF m mm) (hS : ST K P mm (0, n') W') (hn : n ≤ n') (hw : W'.1 ≠ 0 → W'.2 < n') (h0 : W'.1 = 0 → W.1 = 0) : TI K V P m0 L s cf cw cu n' W' (st.1, st.2.1, st.2.2.1, z) mm := by
  obtain ⟨hS0, hR, hF, hC, hQ, hW, hN⟩ := hT
  have t1 : tt mm = (n' : Int) := (hS.1 rfl).2.1
  have t0 : tt m = (n : Int) := (hS0.1 rfl).2.1
  refine ⟨hS, hR.vf hu, hF.vf hu, ?_, hQ.j (hu.2.1 12 (by decide) (by decide) (by decide) (by decide) (by decide)) (hu.2.1 46 (by decide) (by decide) (by decide) (by decide) (by decide)) (hu.2.1 40 (by decide) (by decide) (by decide) (by decide) (by decide)) (by omega), hw, fun w => ?_⟩
  · unfold CT nms
    rw [hu.1 80 (by decide) (by decide), hu.1 82 (by decide) (by decide), hu.1 86 (by decide) (by decide), hu.2.1 20 (by decide) (by decide) (by decide) (by decide) (by decide)]
    exact hC
  · obtain ⟨a, b⟩ := hN (h0 w)
    exact ⟨(a.of (hu.1 79 (by decide) (by decide)) (hu.1 83 (by decide) (by decide)) (hu.1 84 (by decide) (by decide)) (by rw [hu.2.2]) : NM V s st mm), b⟩
theorem e_one {Q : dM → Prop} (hL : L + s = 1) (hsd : (m0.1 70 19).toInt = (s : Int)) (hv : ∀ i, vk (K i)) (hP : ∀ i j : Nat, i < j → lvK K j → P i < P j) (hT : TI K V P m0 L s cf cw cu n W st m)
    (hB : (gTell K cf cw cu n).1 ≠ 0 → ∀ (m' : dM) (W' : gR), ST K P m' (gTell K cf cw cu n) W' → FX m0 L m' → Q m')
    (hG : (gTell K cf cw cu n).1 = 0 → ∀ (m' : dM) (W' : gR) (st' : mSt), TI K V P m0 L s (cf + ct (K n) 0) (cw + ct (K n) 1) (cu + ct (K n) 2) (gTell K cf cw cu n).2 W' st' m' → WN K V n W st W' st' → Q m') : c_X12_tellOne_70 8 m Q := by
  have hs : s ≤ 1 := by omega
  have hT' := hT
  obtain ⟨hS, hR, hF, hC, hLQ, hW, hN⟩ := hT'
  have hC5 := hC.2.2.2.2
  have sd := hF.sd hsd
  obtain ⟨b1, b2, b3, b4, b5⟩ := hS.1 rfl
  have b2 : (m.1 70 11).toInt = (n : Int) := b2
  have b3 : n ≤ 400 := b3
  have b4 : lvK K n := b4
  have tr : (0 ≤ (m.1 70 11).toInt ∧ (m.1 70 11).toInt < 403) := by omega
  have ek : (m.1 73 (m.1 70 11).toNatClampNeg).toInt = rk (K n) := by
    rw [d_cn b2]
    exact (hR n b3 b4).1
  obtain ⟨ra1, ra2, ra3⟩ := rk_rg (hv n)
  have kn : ∀ c : Int, 0 ≤ c ∧ c ≤ 21 → (m.1 73 (m.1 70 11).toNatClampNeg).toInt = 20 + c → K n = c := fun c hc e => by
    have := ra1 (by omega)
    have := ra2 this
    omega
  have fin : ∀ m', Q m' → j_X12_tellOne_70_371 8 m' Q := fun m' h => v_X12_tellOne_70_371 h
  have ct0 : ∀ c : Int, (c ≠ 0 ∧ c ≠ 1 ∧ c ≠ 2) → ct c 0 = 0 ∧ ct c 1 = 0 ∧ ct c 2 = 0 := fun c h => by
    unfold ct
    rw [if_neg h.1, if_neg h.2.1, if_neg h.2.2]
    exact ⟨rfl, rfl, rfl⟩
  -- a law, or none
  have l354 : ∀ (x1 : Int32) (mm : dM) (r : gR), Cx m mm → ST K P mm r W → (r.1 = 0 → r = (0, n) ∧ (0 ≤ x1.toInt ∧ x1.toInt ≤ 3) ∧ 3 ≤ K n ∧ K n ≤ 6) → (r.1 ≠ 0 → r = gTell K cf cw cu n) → j_X12_tellOne_70_354 8 x1 mm Q := by
    intro x1 mm r cm hr h0 h1
    have f := hr.fl
    have ef : (mm.1 70 13).toInt = flt mm := rfl
    refine v_X12_tellOne_70_354 ⟨fun hc => ?_, fun hc => ?_⟩
    · have z : r.1 = 0 := f.2.mp (by omega)
      obtain ⟨er, hx, k3, k6⟩ := h0 z
      rw [er] at hr
      have gT : gTell K cf cw cu n = gLaw K n := by
        unfold gTell
        rw [if_neg (by omega), if_neg (by omega), if_neg (by omega), if_pos ⟨k3, k6⟩]
      refine Wp.deep (q_goesOn (hR.cx cm) hr (fun _ => by show K n ≠ 24 ∧ K n ≠ 25; omega) (fun m1 c1 s1 => ?_)) (Nat.le_of_ble_eq_true rfl)
      have s1 : ST K P m1 (gst n) W := s1
      have cm1 := cm.tr c1
      have F1 := hF.cx cm1
      have l1 : opn m1 = opn m ∧ cds m1 = cds m ∧ brs m1 = brs m := by
        unfold opn cds brs
        rw [cm1.2.1 12 (by decide) (by decide) (by decide) (by decide) (by decide), cm1.2.1 46 (by decide) (by decide) (by decide) (by decide) (by decide), cm1.2.1 40 (by decide) (by decide) (by decide) (by decide) (by decide)]
        exact ⟨rfl, rfl, rfl⟩
      have t0 : tt m = (n : Int) := b2
      obtain ⟨q1, q2, q3⟩ := hLQ
      refine Wp.deep (r_tellLaw hs (F1.sd hsd).1 hx hv (hR.cx cm1) s1 ⟨by omega, by omega⟩ (by omega) (fun z1 => ?_) (fun m2 x2 s2 => fin m2 ?_)) (Nat.le_of_ble_eq_true rfl)
      · have t1 := (s1.1 z1).2.1
        rw [(gst_z z1).1] at t1
        have t1 : tt m1 = ((n + 1 : Nat) : Int) := t1
        exact ⟨by omega, by omega, by omega⟩
      · have s2 : ST K P m2 (gLaw K n) W := s2
        rw [← gT] at s2
        have F2 : FX m0 L m2 := ⟨fun k e => (x2.1 k (by omega) (by omega)).trans (F1.1 k e), fun j e => (x2.2.1 j (by omega) (by omega) (by omega) (by omega) (by omega) (by omega) (by omega) (by omega) (by omega)).trans (F1.2.1 j e), by rw [x2.1 80 (by decide) (by decide)]; exact F1.2.2⟩
        by_cases zz : (gTell K cf cw cu n).1 = 0
        · have eT : gTell K cf cw cu n = (0, (gTell K cf cw cu n).2) := by rw [← zz]
          have nle : n ≤ (gTell K cf cw cu n).2 := by
            rw [gT] at zz ⊢
            obtain ⟨e, x1', x2', x3', x4'⟩ := gLaw_z zz
            rw [x1']
            have := x4'.1
            show n ≤ e + 1
            omega
          have cc := ct0 (K n) (by omega)
          have f2 : flt m2 = 0 := s2.fl.2.mpr zz
          have lq := x2.2.2.2 f2
          refine hG zz m2 W st ?_ ⟨fun _ => rfl, fun w => ?_⟩
          · rw [cc.1, cc.2.1, cc.2.2]
            refine ⟨by rw [← eT]; exact s2, (hR.cx cm1).of (fun k a b => x2.1 k (by omega) (by omega)) (by rw [x2.2.2.1]), F2, ?_, ⟨lq.1, by omega, by omega⟩, fun w => by have := hW w; omega, fun w => ?_⟩
            · have C1 := hC.cx cm1
              unfold CT nms at C1 ⊢
              rw [x2.1 80 (by decide) (by decide), x2.1 82 (by decide) (by decide), x2.1 86 (by decide) (by decide), x2.2.1 20 (by decide) (by decide) (by decide) (by decide) (by decide) (by decide) (by decide) (by decide) (by decide)]
              exact C1
            · obtain ⟨a, b⟩ := hN w
              exact ⟨(a.cx cm1).of (x2.1 79 (by decide) (by decide)) (x2.1 83 (by decide) (by decide)) (x2.1 84 (by decide) (by decide)) (by rw [x2.2.2.1]), b⟩
          · have mT : mTell K V n st = ((0, 0), st) := by
              unfold mTell
              rw [if_neg (by omega), if_neg (by omega), if_neg (by omega), if_neg (by omega), if_neg (by omega), if_neg (by omega)]
            rw [mT]
            exact ⟨fun _ => ⟨w, rfl⟩, fun q => absurd rfl q⟩
        · exact hB zz m2 W s2 F2
    · have z : r.1 ≠ 0 := fun z => by have := f.2.mpr z; omega
      have er := h1 z
      rw [er] at hr z
      exact hB z mm W hr (hF.cx cm)
  have l349 : ∀ x1 : Int32, gTell K cf cw cu n = (1, n) → j_X12_tellOne_70_349 8 x1 m Q := fun x1 gT => by
    refine v_X12_tellOne_70_349 (Wp.deep (q_fail hR hS (c := 1) (by decide) (by decide) (fun m1 c1 _ h1 => l354 x1 m1 (1, n) c1 h1 (fun q => absurd q (Nat.succ_ne_zero 0)) (fun _ => gT.symm))) (Nat.le_of_ble_eq_true rfl))
  have law : (m.1 73 (m.1 70 11).toNatClampNeg).toInt < 20 ∨ 29 < (m.1 73 (m.1 70 11).toNatClampNeg).toInt ∨ (23 ≤ (m.1 73 (m.1 70 11).toNatClampNeg).toInt ∧ (m.1 73 (m.1 70 11).toNatClampNeg).toInt ≤ 26) → ((0 ≤ (m.1 70 11).toInt ∧ (m.1 70 11).toInt < 403) ∧ ((((m.1 73 (m.1 70 11).toNatClampNeg) - (23 : Int32)).toInt < 0 → j_X12_tellOne_70_349 (7 + 1) ((m.1 73 (m.1 70 11).toNatClampNeg) - (23 : Int32)) m Q) ∧ (0 ≤ ((m.1 73 (m.1 70 11).toNatClampNeg) - (23 : Int32)).toInt → ((0 ≤ (m.1 70 11).toInt ∧ (m.1 70 11).toInt < 403) ∧ (((m.1 73 (m.1 70 11).toNatClampNeg).toInt ≤ 26 → j_X12_tellOne_70_354 (7 + 1) ((m.1 73 (m.1 70 11).toNatClampNeg) - (23 : Int32)) m Q) ∧ (26 < (m.1 73 (m.1 70 11).toNatClampNeg).toInt → j_X12_tellOne_70_349 (7 + 1) ((m.1 73 (m.1 70 11).toNatClampNeg) - (23 : Int32)) m Q)))))) := fun hkd => by
    have f := dSubE (X := (m.1 73 (m.1 70 11).toNatClampNeg).toInt) (Y := 23) (x := m.1 73 (m.1 70 11).toNatClampNeg) (y := (23 : Int32)) rfl (by decide) (by omega) (by omega)
    have no : (m.1 73 (m.1 70 11).toNatClampNeg).toInt < 20 ∨ 29 < (m.1 73 (m.1 70 11).toNatClampNeg).toInt → gTell K cf cw cu n = (1, n) := fun o => by
      have nk : ¬ (0 ≤ K n ∧ K n ≤ 9) := fun q => by
        have := ra2 (by omega)
        omega
      unfold gTell
      rw [if_neg (by omega), if_neg (by omega), if_neg (by omega), if_neg (by omega), if_neg (by omega), if_neg (by omega)]
    refine ⟨tr, fun q => l349 _ (no (by omega)), fun q => ⟨tr, fun q2 => ?_, fun q2 => l349 _ (no (by omega))⟩⟩
    have := ra1 (by omega)
    have := ra2 this
    exact l354 _ m (0, n) (Cx.rf m) hS (fun _ => ⟨rfl, by omega, by omega, by omega⟩) (fun q => absurd rfl q)
  -- a number, or two
  have one : ∀ (k : Nat) (hi : Int32) (hh : Int) (z : Option Nat × Option Nat × Option Nat), (k = 93 ∨ k = 94) → hi.toInt = hh → (K n = 8 ∨ K n = 9) → mTell K V n st = bnd V (n + 1) 0 hh ((0, 0), (st.1, st.2.1, st.2.2.1, z)) st → c_X12_goesOn_70 7 m (fun m13 => c_X12_bounded_70 7 (0 : Int32) hi m13 (fun r14 m14 => ((0 ≤ (m13.1 70 19).toInt ∧ (m13.1 70 19).toInt < 2) ∧ c_X12_must_70 7 (4 : Int32) (dSet m14 k (m13.1 70 19).toNatClampNeg r14) (fun m15 => j_X12_tellOne_70_371 (7 + 1) m15 Q)))) := by
    intro k hi hh z hk ehi hK mT
    have gT : gTell K cf cw cu n = rb (rb (gst n) (gnd K 23)) (gnd K 59) := by
      unfold gTell
      rw [if_neg (by omega), if_neg (by omega), if_neg (by omega), if_neg (by omega), if_neg (by omega), if_pos hK, gsq_r, gsq_r, rb_id]
    refine Wp.deep (q_goesOn hR hS (fun _ => by show K n ≠ 24 ∧ K n ≠ 25; omega) (fun m1 c1 s1 => ?_)) (Nat.le_of_ble_eq_true rfl)
    have s1 : ST K P m1 (gst n) W := s1
    have sd1 := (hF.cx c1).sd hsd
    refine Wp.deep (q_bounded hv hP (hR.cx c1) s1 (fun z1 w => by rw [(gst_z z1).1]; have := hW w; show W.2 < n + 1; omega) (fun r2 m2 W2 c2 s2 hw2 => ⟨by omega, ?_⟩)) (Nat.le_of_ble_eq_true rfl)
    rw [sd1.2]
    have U2 : VF m (dSet m2 k s r2) := (VF.of (c1.tr c2)).set (by omega)
    have S2 : ST K P (dSet m2 k s r2) (rb (gst n) (gnd K 23)) W2 := s2.k (by omega)
    generalize dSet m2 k s r2 = M2 at U2 S2 ⊢
    refine Wp.deep (q_must (k := 59) hv (hR.vf U2) S2 (by decide) (by unfold vk; omega) (by decide) (fun m3 c3 s3 => fin m3 ?_)) (Nat.le_of_ble_eq_true rfl)
    rw [← gT] at s3
    have U3 := U2.cx c3
    by_cases zz : (gTell K cf cw cu n).1 = 0
    · have z3 := zz
      rw [gT] at z3
      have z2 := (rb_z z3).1
      have z1 := (rb_z z2).1
      have g1 := (gst_z z1).1
      have hw2' := hw2 z2
      rw [g1] at hw2'
      have eT : gTell K cf cw cu n = (0, n + 3) := by
        rw [gT]
        rw [g1, rb_0] at z2 z3 ⊢
        rw [(gnd_0 z2).1, rb_0] at z3 ⊢
        rw [(gnd_0 z3).1]
      rw [eT] at s3
      have eW : W2 = bX V 0 hh (n + 1) W := by rw [hw2'.2]; unfold bX; rw [ehi]; rfl
      have cc := ct0 (K n) (by omega)
      refine hG zz m3 W2 (st.1, st.2.1, st.2.2.1, z) ?_ ⟨fun w => by rw [eW, bX_n w], fun w => ?_⟩
      · rw [cc.1, cc.2.1, cc.2.2, eT]
        refine hT.fin U3 s3 (by omega) ?_ (fun w => ?_)
        · rw [eW]; exact bX_lt (fun w => by have := hW w; omega) (by omega)
        · by_cases q : W.1 = 0
          · exact q
          · rw [eW, bX_n q] at w; exact w
      · rw [mT, eW]
        unfold bnd bX
        by_cases inb : (0 : Int) ≤ iV V (n + 1) ∧ iV V (n + 1) ≤ hh
        · rw [if_pos inb, if_pos inb]; exact ⟨fun _ => ⟨w, rfl⟩, fun q => absurd rfl q⟩
        · rw [if_neg inb, if_neg inb, wadd_z w]; exact ⟨fun q => absurd q (Nat.succ_ne_zero 4), fun _ => rfl⟩
    · exact hB zz m3 W2 s3 (hF.vf U3)
  refine v_X12_tellOne_70 ⟨tr, fun q => ⟨by omega, e_flat hL hsd hv hP hT (kn 0 (by decide) q) hB hG fin⟩, fun q => ⟨by omega, ?_⟩, fun q => ⟨by omega, ?_⟩, fun q => law (by omega), fun q => law (by omega), fun q => law (by omega), fun q => law (by omega), fun q => ?_, fun q => ?_, fun q => ?_, fun q => law (by omega)⟩
  · have hk := kn 1 (by decide) q
    have gT : gTell K cf cw cu n = if 10 ≤ cw then (2, n) else rb (gst n) (gsq K [22, 22, 23, 59]) := by unfold gTell; rw [if_neg (by omega), if_pos hk]
    rw [sd.2]
    refine Wp.deep (q_roomFor (most := 10) hR hS (by omega) hC.2.1 (by decide) hC5.2.1 (fun m1 c1 h1 => ?_)) (Nat.le_of_ble_eq_true rfl)
    have f1 := h1.fl
    have e13 : (m1.1 70 13).toInt = flt m1 := rfl
    refine ⟨fun q2 => fin m1 ?_, fun q2 => ?_⟩
    · have z : (if 10 ≤ cw then ((2, n) : gR) else gst n).1 ≠ 0 := fun z => q2 (f1.2.mpr z)
      have eT : gTell K cf cw cu n = if 10 ≤ cw then (2, n) else gst n := by
        rw [gT]
        by_cases q7 : 10 ≤ cw
        · rw [if_pos q7, if_pos q7]
        · rw [if_neg q7] at z
          rw [if_neg q7, if_neg q7, rb_f z]
      exact hB (by rw [eT]; exact z) m1 W (by rw [eT]; exact h1) (hF.cx c1)
    · have z1 : (if 10 ≤ cw then ((2, n) : gR) else gst n).1 = 0 := f1.2.mp q2
      have c7 : ¬ 10 ≤ cw := fun q7 => by rw [if_pos q7] at z1; exact absurd z1 (Nat.succ_ne_zero 1)
      rw [if_neg c7] at z1 h1 gT
      have g1 := gst_z z1
      rw [g1.1] at h1 gT
      rw [rb_0] at gT
      have t1 : tt m1 = ((n + 1 : Nat) : Int) := (h1.1 rfl).2.1
      have t0 : tt m = (n : Int) := b2
      refine Wp.deep (e_wire (st := st) hL hsd hv hP h1 (hR.cx c1) (hF.cx c1) (hC.cx c1) (by omega) (hLQ.j (c1.2.1 12 (by decide) (by decide) (by decide) (by decide) (by decide)) (c1.2.1 46 (by decide) (by decide) (by decide) (by decide) (by decide)) (c1.2.1 40 (by decide) (by decide) (by decide) (by decide) (by decide)) (by omega)) hW (fun w => ⟨(hN w).1.cx c1, (hN w).2⟩) (fun z m' W' s' F' => fin m' (hB (by rw [gT]; exact z) m' W' (by rw [gT]; exact s') F')) (fun z m' W' st' T' M' => fin m' (hG (by rw [gT]; exact z) m' W' st' ?_ ?_))) (Nat.le_of_ble_eq_true rfl)
      · have e := (gsq_z _ _ z).1
        rw [gT, e, hk]
        exact T'
      · have mT : mTell K V n st = mWire V n st := by unfold mTell; rw [if_neg (by omega), if_pos hk]
        unfold WN
        rw [mT]
        exact M'
  · have hk := kn 2 (by decide) q
    have gT : gTell K cf cw cu n = if 8 ≤ cu then (2, n) else rb (gst n) (gsq K [22, 22, 23, 23, 23, 59]) := by unfold gTell; rw [if_neg (by omega), if_neg (by omega), if_pos hk]
    rw [sd.2]
    refine Wp.deep (q_roomFor (most := 8) hR hS (by omega) hC.2.2.1 (by decide) hC5.2.2 (fun m1 c1 h1 => ?_)) (Nat.le_of_ble_eq_true rfl)
    have f1 := h1.fl
    have e13 : (m1.1 70 13).toInt = flt m1 := rfl
    refine ⟨fun q2 => fin m1 ?_, fun q2 => ?_⟩
    · have z : (if 8 ≤ cu then ((2, n) : gR) else gst n).1 ≠ 0 := fun z => q2 (f1.2.mpr z)
      have eT : gTell K cf cw cu n = if 8 ≤ cu then (2, n) else gst n := by
        rw [gT]
        by_cases q7 : 8 ≤ cu
        · rw [if_pos q7, if_pos q7]
        · rw [if_neg q7] at z
          rw [if_neg q7, if_neg q7, rb_f z]
      exact hB (by rw [eT]; exact z) m1 W (by rw [eT]; exact h1) (hF.cx c1)
    · have z1 : (if 8 ≤ cu then ((2, n) : gR) else gst n).1 = 0 := f1.2.mp q2
      have c7 : ¬ 8 ≤ cu := fun q7 => by rw [if_pos q7] at z1; exact absurd z1 (Nat.succ_ne_zero 1)
      rw [if_neg c7] at z1 h1 gT
      have g1 := gst_z z1
      rw [g1.1] at h1 gT
      rw [rb_0] at gT
      have t1 : tt m1 = ((n + 1 : Nat) : Int) := (h1.1 rfl).2.1
      have t0 : tt m = (n : Int) := b2
      refine Wp.deep (e_use (st := st) hL hsd hv hP h1 (hR.cx c1) (hF.cx c1) (hC.cx c1) (by omega) (hLQ.j (c1.2.1 12 (by decide) (by decide) (by decide) (by decide) (by decide)) (c1.2.1 46 (by decide) (by decide) (by decide) (by decide) (by decide)) (c1.2.1 40 (by decide) (by decide) (by decide) (by decide) (by decide)) (by omega)) hW (fun w => ⟨(hN w).1.cx c1, (hN w).2⟩) (fun z m' W' s' F' => fin m' (hB (by rw [gT]; exact z) m' W' (by rw [gT]; exact s') F')) (fun z m' W' st' T' M' => fin m' (hG (by rw [gT]; exact z) m' W' st' ?_ ?_))) (Nat.le_of_ble_eq_true rfl)
      · have e := (gsq_z _ _ z).1
        rw [gT, e, hk]
        exact T'
      · have mT : mTell K V n st = mUse V n st := by unfold mTell; rw [if_neg (by omega), if_neg (by omega), if_pos hk]
        unfold WN
        rw [mT]
        exact M'
  · have hk := kn 7 (by decide) q
    have gT : gTell K cf cw cu n = rb (rb (rb (gst n) (gnd K 23)) (gnd K 23)) (gnd K 59) := by
      unfold gTell
      rw [if_neg (by omega), if_neg (by omega), if_neg (by omega), if_neg (by omega), if_pos hk, gsq_r, gsq_r, gsq_r, rb_id]
    have mT : mTell K V n st = bnd V (n + 1) 0 100 (bnd V (n + 2) 0 19 ((0, 0), (st.1, st.2.1, st.2.2.1, (some n, st.2.2.2.2))) st) st := by
      unfold mTell
      rw [if_neg (by omega), if_neg (by omega), if_neg (by omega), if_pos hk]
    refine Wp.deep (q_goesOn hR hS (fun _ => by show K n ≠ 24 ∧ K n ≠ 25; omega) (fun m1 c1 s1 => ?_)) (Nat.le_of_ble_eq_true rfl)
    have s1 : ST K P m1 (gst n) W := s1
    have sd1 := (hF.cx c1).sd hsd
    refine Wp.deep (q_bounded hv hP (hR.cx c1) s1 (fun z1 w => by rw [(gst_z z1).1]; have := hW w; show W.2 < n + 1; omega) (fun r2 m2 W2 c2 s2 hw2 => ⟨by omega, ?_⟩)) (Nat.le_of_ble_eq_true rfl)
    have sd2 := (hF.cx (c1.tr c2)).sd hsd
    rw [sd1.2]
    have U2 : VF m (dSet m2 91 s r2) := (VF.of (c1.tr c2)).set (by decide)
    have S2 : ST K P (dSet m2 91 s r2) (rb (gst n) (gnd K 23)) W2 := s2.k (by decide)
    generalize dSet m2 91 s r2 = M2 at U2 S2 ⊢
    have hw2' : (rb (gst n) (gnd K 23)).1 = 0 → rb (gst n) (gnd K 23) = (0, n + 2) ∧ W2 = bX V 0 100 (n + 1) W := fun z2 => by
      have a := hw2 z2
      have z1 := (rb_z z2).1
      rw [(gst_z z1).1] at a z2 ⊢
      exact ⟨(gnd_0 z2).1, a.2⟩
    refine Wp.deep (q_bounded hv hP (hR.vf U2) S2 (fun z w => by rw [(hw2' z).1]; rw [(hw2' z).2] at w ⊢; exact bX_lt (fun w => by have := hW w; omega) (by omega) w) (fun r3 m3 W3 c3 s3 hw3 => ⟨by omega, ?_⟩)) (Nat.le_of_ble_eq_true rfl)
    rw [sd2.2]
    have U3 : VF m (dSet m3 92 s r3) := (U2.cx c3).set (by decide)
    have S3 : ST K P (dSet m3 92 s r3) (rb (rb (gst n) (gnd K 23)) (gnd K 23)) W3 := s3.k (by decide)
    generalize dSet m3 92 s r3 = M3 at U3 S3 ⊢
    have hw3' : (rb (rb (gst n) (gnd K 23)) (gnd K 23)).1 = 0 → rb (rb (gst n) (gnd K 23)) (gnd K 23) = (0, n + 3) ∧ W3 = bX V 0 19 (n + 2) W2 := fun z3 => by
      have a := hw3 z3
      have z2 := (rb_z z3).1
      rw [(hw2' z2).1] at a z3 ⊢
      exact ⟨(gnd_0 z3).1, a.2⟩
    refine Wp.deep (q_must (k := 59) hv (hR.vf U3) S3 (by decide) (by unfold vk; omega) (by decide) (fun m4 c4 s4 => fin m4 ?_)) (Nat.le_of_ble_eq_true rfl)
    rw [← gT] at s4
    have U4 := U3.cx c4
    by_cases zz : (gTell K cf cw cu n).1 = 0
    · have z4 := zz
      rw [gT] at z4
      have z3 := (rb_z z4).1
      have z2 := (rb_z z3).1
      have eT : gTell K cf cw cu n = (0, n + 4) := by
        rw [gT]
        rw [(hw3' z3).1, rb_0] at z4 ⊢
        rw [(gnd_0 z4).1]
      rw [eT] at s4
      have e2 := (hw2' z2).2
      have e3 := (hw3' z3).2
      have cc := ct0 (K n) (by omega)
      refine hG zz m4 W3 (st.1, st.2.1, st.2.2.1, (some n, st.2.2.2.2)) ?_ ⟨fun w => by rw [e3, e2, bX_n w, bX_n w], fun w => ?_⟩
      · rw [cc.1, cc.2.1, cc.2.2, eT]
        refine hT.fin U4 s4 (by omega) ?_ (fun w => ?_)
        · rw [e3, e2]; exact bX_lt (bX_lt (fun w => by have := hW w; omega) (by omega)) (by omega)
        · by_cases q0 : W.1 = 0
          · exact q0
          · rw [e3, e2, bX_n q0, bX_n q0] at w; exact w
      · rw [mT, e3, e2]
        unfold bnd bX
        by_cases b1 : (0 : Int) ≤ iV V (n + 1) ∧ iV V (n + 1) ≤ 100
        · rw [if_pos b1, if_pos b1]
          by_cases b2 : (0 : Int) ≤ iV V (n + 2) ∧ iV V (n + 2) ≤ 19
          · rw [if_pos b2, if_pos b2]; exact ⟨fun _ => ⟨w, rfl⟩, fun q => absurd rfl q⟩
          · rw [if_neg b2, if_neg b2, wadd_z w]; exact ⟨fun q => absurd q (Nat.succ_ne_zero 4), fun _ => rfl⟩
        · rw [if_neg b1, if_neg b1, wadd_z w]
          refine ⟨fun q => absurd q (Nat.succ_ne_zero 4), fun _ => ?_⟩
          split
          · rfl
          · exact wadd_n (Nat.succ_ne_zero 4)
    · exact hB zz m4 W3 s4 (hF.vf U4)
  · have hk := kn 8 (by decide) q
    refine one 93 _ 999 (st.2.2.2.1, some n, st.2.2.2.2.2) (Or.inl rfl) (by decide) (Or.inl hk) ?_
    unfold mTell
    rw [if_neg (by omega), if_neg (by omega), if_neg (by omega), if_neg (by omega), if_pos hk]
  · have hk := kn 9 (by decide) q
    refine one 94 _ 9999 (st.2.2.2.1, st.2.2.2.2.1, some n) (Or.inr rfl) (by decide) (Or.inr hk) ?_
    unfold mTell
    rw [if_neg (by omega), if_neg (by omega), if_neg (by omega), if_neg (by omega), if_neg (by omega), if_pos hk]
end RON
end
section
/-! THE REFERENCE's read, exactly -/
theorem i8_and (x : Int32) : x.toInt8.toInt32 &&& 255 = x &&& 255 := by
  apply Int32.toBitVec_inj.mp
  rw [Int32.toBitVec_and, Int32.toBitVec_and, Int8.toBitVec_toInt32, Int32.toBitVec_toInt8]
  apply BitVec.eq_of_getLsbD_eq
  intro i hi
  rw [BitVec.getLsbD_and, BitVec.getLsbD_and]
  by_cases q : i < 8
  · rw [BitVec.getLsbD_signExtend, if_pos q, BitVec.getLsbD_signExtend, if_pos hi]
    simp [q, hi]
  · have : (Int32.toBitVec 255).getLsbD i = false := by
      have e : Int32.toBitVec 255 = BitVec.ofNat 32 255 := by decide
      rw [e, BitVec.getLsbD_ofNat]
      have : Nat.testBit 255 i = false := Nat.testBit_lt_two_pow (Nat.lt_of_lt_of_le (by decide : 255 < 2 ^ 8) (Nat.pow_le_pow_right (by decide) (by omega)))
      rw [this, Bool.and_false]
    rw [this, Bool.and_false, Bool.and_false]
theorem tK_vk (B : Nat → Int32) (n i : Nat) : vk (tK B n i) := by
  unfold tK kd
  split
  · unfold vk; omega
  · cases bL B (tP B n i) with
    | true =>
      show vk (if _ then _ else _)
      split
      · have := wk_le (nm B (tP B n i) (rnn (bL B) n (tP B n i)))
        unfold vk; omega
      · unfold vk; omega
    | false =>
      show vk (cond _ _ _)
      cases bD B (tP B n i) with
      | true =>
        show vk (if _ then _ else _)
        split <;> (unfold vk; omega)
      | false =>
        show vk (sg _)
        unfold sg
        split
        · unfold vk; omega
        · unfold vk; omega
section RRD
variable {K : Nat → Int} {V : Nat → Int64} {P : Nat → Nat} {m0 m : dM} {L s : Nat} {Q : Int32 → dM → Prop}
/-- all of the text told -/
def TF (K : Nat → Int) (V : Nat → Int64) (P : Nat → Nat) (m0 : dM) (L s : Nat) (G : gR) (M : gR × mSt) (m : dM) : Prop := ∃ W : gR, ST K P m G W ∧ FX m0 L m ∧ (G.1 = 0 → ((0 ≤ (m.1 82 s).toInt ∧ (m.1 82 s).toInt ≤ 10) ∧ (0 ≤ (m.1 86 s).toInt ∧ (m.1 86 s).toInt ≤ 8)) ∧ (M.1.1 = 0 → W.1 = 0 ∧ (m.1 80 s).toInt = (M.2.1.length : Int)) ∧ (M.1.1 ≠ 0 → W = M.1))
theorem e_112 (hL : L + s = 1) (hsd : (m0.1 70 19).toInt = (s : Int)) (hv : ∀ i, vk (K i)) (hP : ∀ i j : Nat, i < j → lvK K j → P i < P j) {G : gR} {M : gR × mSt} (hE : ∀ m', TF K V P m0 L s G M m' → j_X12_read_70_134 9 m' Q) : ∀ (f cf cw cu n : Nat) (W : gR) (st : mSt) (m : dM), 401 ≤ f + n → TI K V P m0 L s cf cw cu n W st m → gAll K f cf cw cu n = G → (W.1 = 0 → mAll K V f n st = M) → (W.1 ≠ 0 → W = M.1) → j_X12_read_70_112 9 m Q := by
  intro f
  induction f with
  | zero =>
    intro cf cw cu n W st m hf hT hg hm1 hm2
    have : n ≤ 400 := (hT.1.1 rfl).2.2.1
    exfalso; omega
  | succ f ih =>
    intro cf cw cu n W st m hf hT hg hm1 hm2
    have hT' := hT
    obtain ⟨hS, hR, hF, hC, hLQ, hW, hN⟩ := hT'
    have f0 : flt m = 0 := hS.fl.2.mpr rfl
    have hC5 := hC.2.2.2.2
    refine v_X12_read_70_112 ⟨fun q => absurd f0 q, fun _ => ?_⟩
    refine Wp.deep (q_is (k := 24) hv hR hS (by decide) (by unfold vk; omega) (fun _ h24 => ⟨fun _ => hE m ⟨W, ?_⟩, fun q => absurd q (by decide)⟩) (fun h24 => ⟨fun q => absurd rfl q, fun _ => ?_⟩)) (Nat.le_of_ble_eq_true rfl)
    · have h24 : K n = 24 := h24
      have eG : G = (0, n) := by rw [← hg]; show (if K n = 24 then _ else _) = _; rw [if_pos h24]
      rw [eG]
      refine ⟨hS, hF, fun _ => ⟨⟨by have := hC.2.1; omega, by have := hC.2.2.1; omega⟩, fun z => ?_, fun z => ?_⟩⟩
      · by_cases w0 : W.1 = 0
        · have eM : M = ((0, 0), st) := by rw [← hm1 w0]; show (if K n = 24 then _ else _) = _; rw [if_pos h24]
          rw [eM]
          exact ⟨w0, by show (m.1 80 s).toInt = (st.1.length : Int); rw [(hN w0).2.1]; exact hC.1⟩
        · have := hm2 w0
          rw [this] at w0
          exact absurd z w0
      · by_cases w0 : W.1 = 0
        · have eM : M = ((0, 0), st) := by rw [← hm1 w0]; show (if K n = 24 then _ else _) = _; rw [if_pos h24]
          rw [eM] at z
          exact absurd rfl z
        · exact hm2 w0
    · have h24 : K n ≠ 24 := fun e => h24 ⟨rfl, e⟩
      have eG : G = rb (gTell K cf cw cu n) (fun n' => gAll K f (cf + ct (K n) 0) (cw + ct (K n) 1) (cu + ct (K n) 2) n') := by rw [← hg]; show (if K n = 24 then _ else _) = _; rw [if_neg h24]
      refine e_one hL hsd hv hP hT (fun z m' W' s' F' => ?_) (fun z m' W' st' T' wn => ?_)
      · rw [rb_f z] at eG
        rw [← eG] at s' z
        have f1 := s'.fl
        exact v_X12_read_70_112 ⟨fun _ => hE m' ⟨W', s', F', fun q => absurd q z⟩, fun q => absurd (f1.2.mp q) z⟩
      · rw [rb_k z] at eG
        have nlt : n < (gTell K cf cw cu n).2 := gTell_lt z
        refine ih _ _ _ _ W' st' m' (by omega) T' eG.symm (fun w => ?_) (fun w => ?_)
        · by_cases w0 : W.1 = 0
          · have hm := hm1 w0
            have hl := (hN w0).2
            have e2 := wn.2 w0
            have eM : mAll K V (f + 1) n st = mGo (mTell K V n st) (fun s' => mAll K V f (gTell K st.1.length st.2.1.length st.2.2.1.length n).2 s') := by show (if K n = 24 then _ else _) = _; rw [if_neg h24]
            by_cases z2 : (mTell K V n st).1.1 = 0
            · rw [eM, mGo_k z2, hl.1, hl.2.1, hl.2.2] at hm
              rw [(e2.1 z2).2]
              exact hm
            · have := e2.2 z2
              rw [this] at w
              exact absurd w z2
          · have := wn.1 w0
            rw [this] at w
            exact absurd w w0
        · by_cases w0 : W.1 = 0
          · have hm := hm1 w0
            have e2 := wn.2 w0
            have eM : mAll K V (f + 1) n st = mGo (mTell K V n st) (fun s' => mAll K V f (gTell K st.1.length st.2.1.length st.2.2.1.length n).2 s') := by show (if K n = 24 then _ else _) = _; rw [if_neg h24]
            by_cases z2 : (mTell K V n st).1.1 = 0
            · exact absurd (e2.1 z2).1 w
            · rw [eM, mGo_f z2] at hm
              rw [← hm]
              exact e2.2 z2
          · rw [wn.1 w0]
            exact hm2 w0
end RRD
end
section
/-! THE REFERENCE's read, exactly, 2 -/
section RR2
variable {K : Nat → Int} {V : Nat → Int64} {P : Nat → Nat} {m0 m : dM} {L s : Nat}
theorem q_plain {x1 : Int32} {Q : dM → Prop} (hs : s ≤ 1) (hx : x1.toInt = (s : Int)) (hQ : ∀ m' : dM, (∀ k : Nat, k ≠ 80 → k ≠ 82 → k ≠ 86 → ¬ (91 ≤ k ∧ k ≤ 96) → m'.1 k = m.1 k) → m'.2 = m.2 → (∀ j : Nat, j ≠ s → m'.1 80 j = m.1 80 j) → m'.1 80 s = 0 ∧ m'.1 82 s = 0 ∧ m'.1 86 s = 0 → Q m') : c_X12_plain_70 1 x1 m Q := by
  have loop : ∀ (f i : Nat) (x2 : Int32) (M : dM), i + f = 4 → x2.toInt = (i : Int) → (∀ k : Nat, k ≠ 80 → k ≠ 82 → k ≠ 86 → ¬ (91 ≤ k ∧ k ≤ 96) → M.1 k = m.1 k) → M.2 = m.2 → (∀ j : Nat, j ≠ s → M.1 80 j = m.1 80 j) → M.1 80 s = 0 ∧ M.1 82 s = 0 ∧ M.1 86 s = 0 → j_X12_plain_70_52 1 x1 x2 M Q := by
    intro f
    induction f with
    | zero =>
      intro i x2 M hi h2 a b c d
      exact v_X12_plain_70_52 ⟨fun _ => hQ M a b c d, fun q => by exfalso; omega⟩
    | succ f ih =>
      intro i x2 M hi h2 a b c d
      have fm := dMulE (X := 4) (Y := (s : Int)) (x := (4 : Int32)) (y := x1) (by decide) hx (by omega) (by omega)
      have fa := dAddE (X := 4 * (s : Int)) (Y := (i : Int)) (x := (4 : Int32) * x1) (y := x2) fm h2 (by omega) (by omega)
      refine v_X12_plain_70_52 ⟨fun q => by exfalso; omega, fun _ => ⟨by omega, by omega, ih (i + 1) _ _ (by omega) (d_inc h2 (by omega)) (fun k e1 e2 e3 e4 => by rw [dSet_k (by omega), dSet_k (by omega)]; exact a k e1 e2 e3 e4) b (fun j e => by rw [dSet_k (by decide), dSet_k (by decide)]; exact c j e) ?_⟩⟩
      rw [dSet_k (by decide), dSet_k (by decide), dSet_k (by decide), dSet_k (by decide), dSet_k (by decide), dSet_k (by decide)]
      exact d
  refine v_X12_plain_70 ⟨by omega, by omega, by omega, by omega, by omega, by omega, by omega, ?_⟩
  rw [d_cn hx]
  refine loop 4 0 _ _ rfl (by decide) (fun k e1 e2 e3 e4 => ?_) rfl (fun j e => ?_) ⟨?_, ?_, ?_⟩
  · rw [dSet_k (by omega), dSet_k (by omega), dSet_k (by omega), dSet_k (by omega), dSet_k e3, dSet_k e2, dSet_k e1]
  · rw [dSet_k (by decide), dSet_k (by decide), dSet_k (by decide), dSet_k (by decide), dSet_k (by decide), dSet_k (by decide), dSet_j e]
  · rw [dSet_k (by decide), dSet_k (by decide), dSet_k (by decide), dSet_k (by decide), dSet_k (by decide), dSet_k (by decide), dSet_s]
  · rw [dSet_k (by decide), dSet_k (by decide), dSet_k (by decide), dSet_k (by decide), dSet_k (by decide), dSet_s]
  · rw [dSet_k (by decide), dSet_k (by decide), dSet_k (by decide), dSet_k (by decide), dSet_s]
/-- the state's cells: 107, 108, and two fields -/
def BG (m m' : dM) : Prop := (∀ k : Nat, k ≠ 70 → k ≠ 107 → k ≠ 108 → m'.1 k = m.1 k) ∧ (∀ j : Nat, j ≠ 56 → j ≠ 57 → m'.1 70 j = m.1 70 j) ∧ m'.2 = m.2
theorem BG.set {M : dM} {k j : Nat} {v : Int32} (h : BG m M) (hk : k = 107 ∨ k = 108) : BG m (dSet M k j v) := ⟨fun a e1 e2 e3 => by rw [dSet_k (by omega)]; exact h.1 a e1 e2 e3, fun a e1 e2 => by rw [dSet_k (by omega)]; exact h.2.1 a e1 e2, h.2.2⟩
theorem q_begins {Q : dM → Prop} (hs : s ≤ 1) (h18 : (m.1 70 18).toInt = (s : Int)) (h82 : 0 ≤ (m.1 82 s).toInt ∧ (m.1 82 s).toInt ≤ 10) (h86 : 0 ≤ (m.1 86 s).toInt ∧ (m.1 86 s).toInt ≤ 8) (hQ : ∀ m' : dM, BG m m' → Q m') : c_X12_begins_70 1 m Q := by
  have l64 : ∀ (f i : Nat) (x1 : Int32) (M : dM), 8 < i + f → i ≤ 8 → x1.toInt = (i : Int) → BG m M → j_X12_begins_70_64 1 x1 M Q := by
    intro f
    induction f with
    | zero => intro i x1 M a b; exfalso; omega
    | succ f ih =>
      intro i x1 M hf hi h1 hB
      have e18 : (M.1 70 18).toInt = (s : Int) := by rw [hB.2.1 18 (by decide) (by decide)]; exact h18
      have e86 : M.1 86 s = m.1 86 s := by rw [hB.1 86 (by decide) (by decide) (by decide)]
      refine v_X12_begins_70_64 ⟨by omega, ?_⟩
      rw [d_cn e18, e86]
      have f47 := dAddE (X := 47) (Y := (i : Int)) (x := (47 : Int32)) (y := x1) (by decide) h1 (by omega) (by omega)
      refine ⟨fun q => ⟨by omega, by omega, hQ _ ?_⟩, fun q => ⟨by omega, ih (i + 1) _ _ (by omega) (by omega) (d_inc h1 (by omega)) (hB.set (Or.inr rfl))⟩⟩
      have h2 := hB.set (j := 56) (v := M.1 93 s) (k := 108) (Or.inr rfl)
      exact ⟨fun a e1 e2 e3 => by rw [dSet_k e1, dSet_k e1]; exact h2.1 a e1 e2 e3, fun a e1 e2 => by rw [dSet_j e2, dSet_j e1]; exact h2.2.1 a e1 e2, h2.2.2⟩
  have l23 : ∀ (f i : Nat) (x1 : Int32) (M : dM), 10 < i + f → i ≤ 10 → x1.toInt = (i : Int) → BG m M → j_X12_begins_70_23 1 x1 M Q := by
    intro f
    induction f with
    | zero => intro i x1 M a b; exfalso; omega
    | succ f ih =>
      intro i x1 M hf hi h1 hB
      have e18 : (M.1 70 18).toInt = (s : Int) := by rw [hB.2.1 18 (by decide) (by decide)]; exact h18
      have e82 : M.1 82 s = m.1 82 s := by rw [hB.1 82 (by decide) (by decide) (by decide)]
      refine v_X12_begins_70_23 ⟨by omega, ?_⟩
      rw [d_cn e18, e82]
      have fm := dMulE (X := 10) (Y := (s : Int)) (x := (10 : Int32)) (y := M.1 70 18) (by decide) e18 (by omega) (by omega)
      have fa := dAddE (X := 10 * (s : Int)) (Y := (i : Int)) (x := (10 : Int32) * M.1 70 18) (y := x1) fm h1 (by omega) (by omega)
      exact ⟨fun q => l64 9 0 _ M (by omega) (by omega) (by decide) hB, fun q => ⟨by omega, by omega, ih (i + 1) _ _ (by omega) (by omega) (d_inc h1 (by omega)) (hB.set (Or.inr rfl))⟩⟩
  have l2 : ∀ (f i : Nat) (x1 : Int32) (M : dM), i + f = 58 → x1.toInt = (i : Int) → BG m M → j_X12_begins_70_2 1 x1 M Q := by
    intro f
    induction f with
    | zero =>
      intro i x1 M hi h1 hB
      exact v_X12_begins_70_2 ⟨fun _ => l23 11 0 _ M (by omega) (by omega) (by decide) hB, fun q => by exfalso; omega⟩
    | succ f ih =>
      intro i x1 M hi h1 hB
      exact v_X12_begins_70_2 ⟨fun q => by exfalso; omega, fun _ => ⟨by omega, ih (i + 1) _ _ (by omega) (d_inc h1 (by omega)) (hB.set (Or.inr rfl))⟩⟩
  exact v_X12_begins_70 (l2 58 0 _ m rfl (by decide) ⟨fun _ _ _ _ => rfl, fun _ _ _ => rfl, rfl⟩)
theorem q_keepsRow {mb : dM} {Q : dM → Prop} (hB0 : BG mb m) (hQ : ∀ m' : dM, BG mb m' → Q m') : c_X12_keepsRow_70 1 m Q := by
  have l2 : ∀ (f i : Nat) (x1 : Int32) (M : dM), i + f = 58 → x1.toInt = (i : Int) → BG mb M → j_X12_keepsRow_70_2 1 x1 M Q := by
    intro f
    induction f with
    | zero => intro i x1 M hi h1 hB; exact v_X12_keepsRow_70_2 ⟨fun _ => hQ M hB, fun q => by exfalso; omega⟩
    | succ f ih =>
      intro i x1 M hi h1 hB
      exact v_X12_keepsRow_70_2 ⟨fun q => by exfalso; omega, fun _ => ⟨by omega, by omega, ih (i + 1) _ _ (by omega) (d_inc h1 (by omega)) (hB.set (Or.inl rfl))⟩⟩
  exact v_X12_keepsRow_70 (l2 58 0 _ m rfl (by decide) hB0)
/-- what the reference's read has done -/
def RE (K : Nat → Int) (V : Nat → Int64) (P : Nat → Nat) (L s : Nat) (r : Int32) (m m' : dM) : Prop :=
  (∀ k : Nat, k < 70 ∨ k = 71 → m'.1 k = m.1 k) ∧ m'.1 70 2 = 0 ∧ r.toInt = ((rdR K V).1.1 : Int) ∧ (m'.1 70 17).toInt = (if (rdR K V).1.1 = 0 then -1 else ((P (rdR K V).1.2 : Nat) : Int)) ∧
  ((rdR K V).1.1 = 0 → (m'.1 70 18).toInt = (s : Int) ∧ (m'.1 80 s).toInt = ((rdR K V).2.1.length : Int) ∧ m'.1 70 63 = 0 ∧ ∀ j : Nat, j < 3 → m'.1 115 j = 0) ∧
  ((rdR K V).1.1 ≠ 0 → m'.1 70 18 = m.1 70 18 ∧ m'.1 80 L = m.1 80 L ∧ m'.1 70 63 = m.1 70 63 ∧ m'.1 115 = m.1 115)
theorem e_134 {Q : Int32 → dM → Prop} (hL : L + s = 1) (hsd : (m0.1 70 19).toInt = (s : Int)) (h0 : ∀ k : Nat, k < 70 ∨ k = 71 ∨ k = 80 ∨ 105 ≤ k → m0.1 k = m.1 k) (h2 : m0.1 70 2 = 0) (h18 : m0.1 70 18 = m.1 70 18) (h63 : m0.1 70 63 = m.1 70 63) (hQ : ∀ (r : Int32) (m' : dM), RE K V P L s r m m' → Q r m') {M : dM} (hT : TF K V P m0 L s (gAll K 401 0 0 0 0) (mAll K V 401 0 mS0) M) : j_X12_read_70_134 9 M Q := by
  have hs : s ≤ 1 := by omega
  obtain ⟨W, hS, hF, hG⟩ := hT
  have sd := hF.sd hsd
  have f := hS.fl
  have ef : (M.1 70 13).toInt = flt M := rfl
  have fr : ∀ k : Nat, k < 70 ∨ k = 71 → M.1 k = m.1 k := fun k hk => by rw [hF.1 k (by omega), h0 k (by omega)]
  have f2 : M.1 70 2 = 0 := by rw [hF.2.1 2 (by omega)]; exact h2
  have f18 : M.1 70 18 = m.1 70 18 := by rw [hF.2.1 18 (by omega)]; exact h18
  have f63 : M.1 70 63 = m.1 70 63 := by rw [hF.2.1 63 (by omega)]; exact h63
  have f115 : M.1 115 = m.1 115 := by rw [hF.1 115 (by omega), h0 115 (by omega)]
  have f80 : M.1 80 L = m.1 80 L := by rw [hF.2.2, h0 80 (by omega)]
  have bad : ∀ (r v : Int32), r.toInt = ((rdR K V).1.1 : Int) → (rdR K V).1.1 ≠ 0 → v.toInt = ((P (rdR K V).1.2 : Nat) : Int) → Q r (dSet M 70 17 v) := fun r v a b c => by
    refine hQ r _ ⟨fun k hk => by rw [dSet_k (by omega)]; exact fr k hk, by rw [dSet_j (by decide)]; exact f2, a, by rw [dSet_s, if_neg b]; exact c, fun q => absurd q b, fun _ => ⟨?_, ?_, ?_, ?_⟩⟩
    · rw [dSet_j (by decide)]; exact f18
    · rw [dSet_k (by decide)]; exact f80
    · rw [dSet_j (by decide)]; exact f63
    · rw [dSet_k (by decide)]; exact f115
  by_cases z : (gAll K 401 0 0 0 0).1 = 0
  · have eR : rdR K V = mAll K V 401 0 mS0 := by unfold rdR; rw [if_pos z]
    obtain ⟨⟨b82, b86⟩, g0, g1⟩ := hG z
    obtain ⟨a1, a2, a3, a4, a5⟩ := hS.1 z
    have e15 := a5.1
    rw [← eR] at g0 g1
    by_cases w : (rdR K V).1.1 = 0
    · obtain ⟨w0, e80⟩ := g0 w
      have good : c_X12_begins_70 8 (dSet (dSet M 70 17 (-1 : Int32)) 70 18 (M.1 70 19)) (fun m1 => c_X12_keepsRow_70 8 m1 (fun m2 => j_X12_read_70_219 9 (0 : Int32) (dSet (dSet m2 70 61 (0 : Int32)) 70 63 (0 : Int32)) Q)) := by
        refine Wp.deep (q_begins (s := s) hs (by rw [dSet_s]; exact sd.1) b82 b86 (fun m1 B1 => Wp.deep (q_keepsRow B1 (fun m2 B2 => ?_)) (Nat.le_of_ble_eq_true rfl))) (Nat.le_of_ble_eq_true rfl)
        have l219 : ∀ (f i : Nat) (x1 : Int32) (X : dM), i + f = 3 → x1.toInt = (i : Int) → (∀ k : Nat, k ≠ 115 → X.1 k = (dSet (dSet m2 70 61 (0 : Int32)) 70 63 (0 : Int32)).1 k) → (∀ j : Nat, j < i → X.1 115 j = 0) → j_X12_read_70_219 9 x1 X Q := by
          intro f
          induction f with
          | zero =>
            intro i x1 X hi h1 hX hz
            refine v_X12_read_70_219 ⟨fun _ => hQ _ X ⟨fun k hk => ?_, ?_, ?_, ?_, fun _ => ⟨?_, ?_, ?_, fun j hj => hz j (by omega)⟩, fun q => absurd w q⟩, fun q => by exfalso; omega⟩
            · rw [hX k (by omega), dSet_k (by omega), dSet_k (by omega), B2.1 k (by omega) (by omega) (by omega), dSet_k (by omega), dSet_k (by omega)]; exact fr k hk
            · rw [hX 70 (by decide), dSet_j (by decide), dSet_j (by decide), B2.2.1 2 (by decide) (by decide), dSet_j (by decide), dSet_j (by decide)]; exact f2
            · rw [w]; decide
            · rw [if_pos w, hX 70 (by decide), dSet_j (by decide), dSet_j (by decide), B2.2.1 17 (by decide) (by decide), dSet_j (by decide), dSet_s]; decide
            · rw [hX 70 (by decide), dSet_j (by decide), dSet_j (by decide), B2.2.1 18 (by decide) (by decide), dSet_s]; exact sd.1
            · rw [hX 80 (by decide), dSet_k (by decide), dSet_k (by decide), B2.1 80 (by decide) (by decide) (by decide), dSet_k (by decide), dSet_k (by decide)]; exact e80
            · rw [hX 70 (by decide), dSet_s]
          | succ f ih =>
            intro i x1 X hi h1 hX hz
            refine v_X12_read_70_219 ⟨fun q => by exfalso; omega, fun _ => ⟨by omega, ih (i + 1) _ _ (by omega) (d_inc h1 (by omega)) (fun k hk => by rw [dSet_k hk]; exact hX k hk) (fun j hj => ?_)⟩⟩
            rw [d_cn h1]
            by_cases q : j = i
            · rw [q, dSet_s]
            · rw [dSet_j q]; exact hz j (by omega)
        exact l219 3 0 _ _ rfl (by decide) (fun _ _ => rfl) (fun j hj => by omega)
      exact v_X12_read_70_134 ⟨fun _ => ⟨fun _ => ⟨fun _ => ⟨fun _ => good, fun q => by exfalso; omega⟩, fun q => by exfalso; omega⟩, fun q => by exfalso; omega⟩, fun q => by exfalso; omega⟩
    · have eW := g1 w
      have w1 : W.1 ≠ 0 := by rw [eW]; exact w
      have e16 := a5.2 w1
      rw [eW] at e15 e16
      have bd := bad (M.1 70 15) (M.1 70 16) e15 w e16
      exact v_X12_read_70_134 ⟨fun _ => ⟨fun q => by exfalso; omega, fun _ => ⟨fun _ => ⟨fun q => by exfalso; omega, fun _ => bd⟩, fun q => by exfalso; omega⟩⟩, fun q => by exfalso; omega⟩
  · have eR : rdR K V = (gAll K 401 0 0 0 0, mS0) := by unfold rdR; rw [if_neg z]
    obtain ⟨a1, a2⟩ := hS.2.1 z
    have bd := bad (M.1 70 13) (M.1 70 14) (by rw [eR]; exact a1) (by rw [eR]; exact z) (by rw [eR]; exact a2)
    exact v_X12_read_70_134 ⟨fun q => by exfalso; omega, fun _ => ⟨fun q => by exfalso; omega, fun _ => bd⟩⟩
theorem e_read {m : dM} {B : Nat → Int32} {n : Nat} {Q : Int32 → dM → Prop} (hL : L + s = 1) (h18 : (m.1 70 18).toInt = (L : Int)) (hn : (m.1 70 2).toInt = (n : Int)) (h2000 : n ≤ 2000) (hB : ∀ i : Nat, B i = if i < n then (m.1 71 i) &&& 255 else 0) (hQ : ∀ (r : Int32) (m' : dM), RE (tK B n) (tV B n) (tP B n) L s r m m' → Q r m') : c_X12_read_70 9 m Q := by
  have hs : s ≤ 1 := by omega
  have fs := dSubE (X := 1) (Y := (L : Int)) (x := (1 : Int32)) (y := m.1 70 18) (by decide) h18 (by omega) (by omega)
  have l10 : ∀ (f i : Nat) (x1 : Int32) (M : dM), i + f = n → x1.toInt = (i : Int) → (∀ k : Nat, k ≠ 70 → k ≠ 72 → M.1 k = m.1 k) → (∀ j : Nat, j ≠ 4 → M.1 70 j = m.1 70 j) → M.1 70 4 = m.1 70 2 → M.2 = m.2 → (∀ j : Nat, j < i → M.1 72 j = (m.1 71 j).toInt8.toInt32) → j_X12_read_70_10 9 x1 M Q := by
    intro f
    induction f with
    | succ f ih =>
      intro i x1 M hi h1 a b c d e
      have e4 : (M.1 70 4).toInt = (n : Int) := by rw [c]; exact hn
      refine v_X12_read_70_10 ⟨fun q => by exfalso; omega, fun _ => ⟨by omega, by omega, ih (i + 1) _ _ (by omega) (d_inc h1 (by omega)) (fun k e1 e2 => by rw [dSet_k e2]; exact a k e1 e2) (fun j e1 => by rw [dSet_k (by decide)]; exact b j e1) (by rw [dSet_k (by decide)]; exact c) d (fun j hj => ?_)⟩⟩
      rw [d_cn h1]
      by_cases q : j = i
      · rw [q, dSet_s, a 71 (by decide) (by decide)]
      · rw [dSet_j q]; exact e j (by omega)
    | zero =>
      intro i x1 M hi h1 a b c d e
      have e4 : (M.1 70 4).toInt = (n : Int) := by rw [c]; exact hn
      refine v_X12_read_70_10 ⟨fun _ => ?_, fun q => by exfalso; omega⟩
      have hRX : RX B n (dSet M 70 2 (0 : Int32)) := by
        refine ⟨by rw [dSet_j (by decide)]; exact e4, h2000, fun j => ?_⟩
        rw [hB j, dSet_k (by decide)]
        by_cases q : j < n
        · rw [if_pos q, if_pos q, e j (by omega), i8_and]
        · rw [if_neg q, if_neg q]
      refine Wp.deep (g_cutsUp hRX (fun m1 hF hK => ?_)) (Nat.le_of_ble_eq_true rfl)
      have k1 : ∀ k : Nat, k ≠ 70 → k ≠ 72 → k ≠ 73 → k ≠ 74 → k ≠ 75 → m1.1 k = m.1 k := fun k e1 e2 e3 e4 e5 => by rw [hF.1 k e1 e3 e4 e5, dSet_k e1, a k e1 e2]
      have j1 : ∀ j : Nat, j ≠ 2 → j ≠ 4 → j ≠ 10 → m1.1 70 j = m.1 70 j := fun j e1 e2 e3 => by rw [hF.2.1 j e3, dSet_j e1, b j e2]
      have j2 : m1.1 70 2 = 0 := by rw [hF.2.1 2 (by decide), dSet_s]
      have e18 : m1.1 70 18 = m.1 70 18 := j1 18 (by decide) (by decide) (by decide)
      rw [e18]
      have X70 : ∀ k : Nat, k ≠ 70 → (dSet (dSet (dSet (dSet (dSet (dSet m1 70 11 (0 : Int32)) 70 12 (0 : Int32)) 70 13 (0 : Int32)) 70 15 (0 : Int32)) 70 19 ((1 : Int32) - (m.1 70 18))) 70 20 (0 : Int32)).1 k = m1.1 k := fun k hk => by rw [dSet_k hk, dSet_k hk, dSet_k hk, dSet_k hk, dSet_k hk, dSet_k hk]
      have Xj : ∀ j : Nat, j ≠ 11 → j ≠ 12 → j ≠ 13 → j ≠ 15 → j ≠ 19 → j ≠ 20 → (dSet (dSet (dSet (dSet (dSet (dSet m1 70 11 (0 : Int32)) 70 12 (0 : Int32)) 70 13 (0 : Int32)) 70 15 (0 : Int32)) 70 19 ((1 : Int32) - (m.1 70 18))) 70 20 (0 : Int32)).1 70 j = m1.1 70 j := fun j b1 b2 b3 b4 b5 b6 => by rw [dSet_j b6, dSet_j b5, dSet_j b4, dSet_j b3, dSet_j b2, dSet_j b1]
      have Xz : ∀ j : Nat, j = 11 ∨ j = 12 ∨ j = 13 ∨ j = 15 ∨ j = 20 → ((dSet (dSet (dSet (dSet (dSet (dSet m1 70 11 (0 : Int32)) 70 12 (0 : Int32)) 70 13 (0 : Int32)) 70 15 (0 : Int32)) 70 19 ((1 : Int32) - (m.1 70 18))) 70 20 (0 : Int32)).1 70 j).toInt = 0 := fun j hj => by rcases hj with rfl | rfl | rfl | rfl | rfl <;> rfl
      have X19 : (dSet (dSet (dSet (dSet (dSet (dSet m1 70 11 (0 : Int32)) 70 12 (0 : Int32)) 70 13 (0 : Int32)) 70 15 (0 : Int32)) 70 19 ((1 : Int32) - (m.1 70 18))) 70 20 (0 : Int32)).1 70 19 = (1 : Int32) - (m.1 70 18) := rfl
      have X2 : (dSet (dSet (dSet (dSet (dSet (dSet m1 70 11 (0 : Int32)) 70 12 (0 : Int32)) 70 13 (0 : Int32)) 70 15 (0 : Int32)) 70 19 ((1 : Int32) - (m.1 70 18))) 70 20 (0 : Int32)).2 = m1.2 := rfl
      generalize dSet (dSet (dSet (dSet (dSet (dSet m1 70 11 (0 : Int32)) 70 12 (0 : Int32)) 70 13 (0 : Int32)) 70 15 (0 : Int32)) 70 19 ((1 : Int32) - (m.1 70 18))) 70 20 (0 : Int32) = X at X70 Xj Xz X19 X2 ⊢
      refine Wp.deep (q_plain (s := s) (m := X) hs (by omega) (fun m2 p1 p2 p3 p4 => ?_)) (Nat.le_of_ble_eq_true rfl)
      have e70 : m2.1 70 = X.1 70 := p1 70 (by decide) (by decide) (by decide) (by decide)
      have v19 : (m2.1 70 19).toInt = (s : Int) := by rw [e70, X19]; omega
      have fb := dMulE (X := 130) (Y := (s : Int)) (x := (130 : Int32)) (y := m2.1 70 19) (by decide) v19 (by omega) (by omega)
      have fc := dMulE (X := 420) (Y := (s : Int)) (x := (420 : Int32)) (y := m2.1 70 19) (by decide) v19 (by omega) (by omega)
      have Y70 : ∀ k : Nat, k ≠ 70 → (dSet (dSet m2 70 40 ((130 : Int32) * (m2.1 70 19))) 70 46 ((420 : Int32) * (m2.1 70 19))).1 k = m2.1 k := fun k hk => by rw [dSet_k hk, dSet_k hk]
      have Yj : ∀ j : Nat, j ≠ 40 → j ≠ 46 → (dSet (dSet m2 70 40 ((130 : Int32) * (m2.1 70 19))) 70 46 ((420 : Int32) * (m2.1 70 19))).1 70 j = X.1 70 j := fun j b1 b2 => by rw [dSet_j b2, dSet_j b1, e70]
      have Yb : brs (dSet (dSet m2 70 40 ((130 : Int32) * (m2.1 70 19))) 70 46 ((420 : Int32) * (m2.1 70 19))) = 130 * s := fb
      have Yc : cds (dSet (dSet m2 70 40 ((130 : Int32) * (m2.1 70 19))) 70 46 ((420 : Int32) * (m2.1 70 19))) = 420 * s := fc
      have Y2 : (dSet (dSet m2 70 40 ((130 : Int32) * (m2.1 70 19))) 70 46 ((420 : Int32) * (m2.1 70 19))).2 = m1.2 := by show m2.2 = m1.2; rw [p2, X2]
      generalize dSet (dSet m2 70 40 ((130 : Int32) * (m2.1 70 19))) 70 46 ((420 : Int32) * (m2.1 70 19)) = Y at Y70 Yj Yb Yc Y2 ⊢
      have Yz : ∀ j : Nat, j = 11 ∨ j = 12 ∨ j = 13 ∨ j = 15 ∨ j = 20 → (Y.1 70 j).toInt = 0 := fun j hj => by rw [Yj j (by omega) (by omega)]; exact Xz j hj
      have t0 : tt Y = 0 := Yz 11 (by decide)
      have f0 : flt Y = 0 := Yz 13 (by decide)
      have o0 : opn Y = 0 := Yz 12 (by decide)
      have n0 : nms Y = 0 := Yz 20 (by decide)
      have w0 := Yz 15 (by decide)
      have Yk : ∀ k : Nat, k ≠ 70 → k ≠ 72 → k ≠ 73 → k ≠ 74 → k ≠ 75 → k ≠ 80 → k ≠ 82 → k ≠ 86 → ¬ (91 ≤ k ∧ k ≤ 96) → Y.1 k = m.1 k := fun k b1 b2 b3 b4 b5 b6 b7 b8 b9 => by rw [Y70 k b1, p1 k b6 b7 b8 b9, X70 k b1, k1 k b1 b2 b3 b4 b5]
      have Yt : ∀ k : Nat, 73 ≤ k → k ≤ 75 → Y.1 k = m1.1 k := fun k b1 b2 => by rw [Y70 k (by omega), p1 k (by omega) (by omega) (by omega) (by omega), X70 k (by omega)]
      have hRM : RM (tK B n) (tV B n) (tP B n) Y := fun i hi hl => by
        have := hK i hi hl
        unfold RK at this
        rw [Yt 73 (by decide) (by decide), Yt 74 (by decide) (by decide), Yt 75 (by decide) (by decide), Y2]
        exact this
      have Y80 : (Y.1 80 s).toInt = 0 := by rw [Y70 80 (by decide), p4.1]; decide
      have Y82 : (Y.1 82 s).toInt = 0 := by rw [Y70 82 (by decide), p4.2.1]; decide
      have Y86 : (Y.1 86 s).toInt = 0 := by rw [Y70 86 (by decide), p4.2.2]; decide
      -- m0: as it was, its tape empty, the side of the text told
      have hTI : TI (tK B n) (tV B n) (tP B n) (dSet (dSet m 70 2 (0 : Int32)) 70 19 ((1 : Int32) - (m.1 70 18))) L s 0 0 0 0 (0, 0) mS0 Y := by
        refine ⟨⟨fun _ => ⟨f0, t0, by decide, fun j hj => by exfalso; exact Nat.not_lt_zero j hj, w0, fun q => absurd rfl q⟩, fun q => absurd rfl q, by omega⟩, hRM, ⟨fun k hk => ?_, fun j hj => ?_, ?_⟩, ⟨Y80, Y82, Y86, n0, by decide, by decide, by decide⟩, ⟨o0, by omega, by omega⟩, fun q => absurd rfl q, fun _ => ⟨⟨fun k hk => ?_, fun i hi => absurd hi (Nat.not_lt_zero i), fun i hi => absurd hi (Nat.not_lt_zero i), fun i j hi => absurd hi (Nat.not_lt_zero i), fun i hi => absurd hi (Nat.not_lt_zero i)⟩, rfl, rfl, rfl⟩⟩
        · rw [dSet_k (by omega), dSet_k (by omega)]
          exact Yk k (by omega) (by omega) (by omega) (by omega) (by omega) (by omega) (by omega) (by omega) (by omega)
        · by_cases q19 : j = 19
          · rw [q19, dSet_s, Yj 19 (by decide) (by decide), X19]
          · rw [dSet_j q19, Yj j (by omega) (by omega), Xj j (by omega) (by omega) (by omega) (by omega) q19 (by omega)]
            by_cases q2 : j = 2
            · rw [q2, dSet_s, j2]
            · rw [dSet_j q2, j1 j q2 (by omega) (by omega)]
        · rw [dSet_k (by decide), dSet_k (by decide), Y70 80 (by decide), p3 L (by omega), X70 80 (by decide), k1 80 (by decide) (by decide) (by decide) (by decide) (by decide)]
        · exact absurd hk (Nat.not_lt_zero k)
      have sd0 : ((dSet (dSet m 70 2 (0 : Int32)) 70 19 ((1 : Int32) - (m.1 70 18))).1 70 19).toInt = (s : Int) := by rw [dSet_s]; omega
      refine e_112 hL sd0 (tK_vk B n) (fun i j hij hl => tP_mono hij hl) (fun M' hM' => e_134 hL sd0 (fun k hk => by rw [dSet_k (by omega), dSet_k (by omega)]) (by rw [dSet_j (by decide), dSet_s]) (by rw [dSet_j (by decide), dSet_j (by decide)]) (by rw [dSet_j (by decide), dSet_j (by decide)]) hQ hM') 401 0 0 0 0 (0, 0) mS0 Y (by omega) hTI rfl (fun _ => rfl) (fun q => absurd rfl q)
  refine v_X12_read_70 (l10 n 0 _ _ (by omega) (by decide) (fun k e1 e2 => dSet_k e1) (fun j e1 => dSet_j e1) (dSet_s _ _ _ _) rfl (fun j hj => by omega))
end RR2
end
section
/-! THE TAPES OF BOTH -/
def Tp (m m' : dM) : Prop := m'.1 0 1 = m.1 0 1 ∧ m'.1 70 2 = m.1 70 2 ∧ m'.1 1 = m.1 1 ∧ m'.1 71 = m.1 71
/-- both tapes bear the same -/
def Tq (m : dM) : Prop := (m.1 0 1).toInt = (m.1 70 2).toInt ∧ ∀ i : Nat, (i : Int) < (m.1 0 1).toInt → (m.1 1 i) &&& 255 = (m.1 71 i) &&& 255
theorem Tp.kp {m m' : dM} (h : Kp m m') : Tp m m' := ⟨h 0 1 rfl, h 70 2 rfl, funext fun j => h 1 j rfl, funext fun j => h 71 j rfl⟩
theorem Tp.rf (m : dM) : Tp m m := ⟨rfl, rfl, rfl, rfl⟩
theorem Tq.tp {m m' : dM} (h : Tq m) (hp : Tp m m') : Tq m' := by
  obtain ⟨a, b, c, d⟩ := hp
  unfold Tq
  rw [a, b, c, d]
  exact h
theorem Tp.tr {a b c : dM} (h : Tp a b) (h' : Tp b c) : Tp a c := ⟨h'.1.trans h.1, h'.2.1.trans h.2.1, h'.2.2.1.trans h.2.2.1, h'.2.2.2.trans h.2.2.2⟩
section HND
variable {m : dM} {Q : Int32 → dM → Prop}
theorem Ok.gR {k j : Nat} {v : Int32} (hO : Ok m) (hk : (k ≠ 2 ∧ k ≠ 7 ∧ k ≠ 70) ∧ (k < 82 ∨ 103 < k)) (hw : wT k j = fR) (hs : sT k j = none) : Ok (dSet m k j v) := hO.gen hk (fun lo hi h => by
  rcases h with h | h
  · rw [hw] at h; cases h; exact ⟨e_lo v, e_hi v⟩
  · rw [hs] at h; cases h)
theorem b_isFlat11 {x1 : Int32} (h1 : Q 1 m) (h0 : Q 0 m) : c_X11_isFlat_0 1 x1 m Q := v_X11_isFlat_0 ⟨fun _ => v_X11_isFlat_0_19 h0, fun _ => ⟨fun _ => v_X11_isFlat_0_19 h0, fun _ => h1⟩⟩
theorem b_in {x0 x1 x2 : Int32} (h1 : x1.toInt ≤ x0.toInt → x0.toInt ≤ x2.toInt → Q 1 m) (h0 : Q 0 m) : c_X12_in 1 x0 x1 x2 m Q := v_X12_in ⟨fun _ => v_X12_in_14 h0, fun a => ⟨fun _ => v_X12_in_14 h0, fun b => h1 a b⟩⟩
theorem b_isFlat12 {x1 : Int32} (hO : Ok m) (h1 : Q 1 m) (h0 : Q 0 m) : c_X12_isFlat_70 2 x1 m Q := by
  have b := hO.s (k := 70) (j := 18) rfl
  exact v_X12_isFlat_70 ⟨by omega, b_in (fun _ _ => ⟨Or.inr rfl, h1⟩) ⟨Or.inl rfl, h0⟩⟩
theorem b_X11_tell {x1 x2 : Int32} (hO : Ok m) (h2 : x2 = 0 ∨ x2 = 1) (hQ : ∀ (r : Int32) (m' : dM), Ok m' ∧ Tp m m' → Q r m') : c_X11_tell_0 3 x1 x2 m Q := by
  have b := hO.s (k := 67) (j := 3) rfl
  refine v_X11_tell_0 (Wp.deep (b_isFlat11 ⟨fun q => absurd q (by decide), fun _ => ?_⟩ ⟨fun _ => hQ _ _ ⟨hO, Tp.rf m⟩, fun q => absurd rfl q⟩) (Nat.le_of_ble_eq_true rfl))
  refine Wp.deep (d := 1) (v_X9_add_67 ⟨fun q => ⟨by omega, h2, by omega, hQ _ _ ⟨?_, rfl, rfl, rfl, rfl⟩⟩, fun _ => hQ _ _ ⟨hO, Tp.rf m⟩⟩) (Nat.le_of_ble_eq_true rfl)
  have f := dAddE (X := (m.1 67 3).toInt) (Y := 1) (x := m.1 67 3) (y := (1 : Int32)) rfl (by decide) (by omega) (by omega)
  refine Ok.gen (Ok.gR (Ok.gR hO (by decide) rfl rfl) (by decide) rfl rfl) (by decide) (fun lo hi h => ?_)
  rcases h with h | h
  · cases h
  · cases h; omega
theorem b_X11_forget (hO : Ok m) (hQ : ∀ (r : Int32) (m' : dM), Ok m' ∧ Tp m m' → Q r m') : c_X11_forget_0 2 m Q := by
  refine v_X11_forget_0 (Wp.deep (d := 1) (v_X9_clear_67 (hQ _ _ ⟨?_, rfl, rfl, rfl, rfl⟩)) (Nat.le_of_ble_eq_true rfl))
  refine Ok.gen hO (by decide) (fun lo hi h => ?_)
  rcases h with h | h
  · cases h
  · cases h; decide
theorem b_X11_hold {x1 : Int32} (hO : Ok m) (hQ : ∀ (r : Int32) (m' : dM), Ok m' ∧ Tp m m' → Q r m') : c_X11_hold_0 3 x1 m Q := by
  have no : j_X6_store_51_47_9 2 m (fun r1 m1 => (r1 = 0 ∨ r1 = 1) ∧ Q r1 m1) := v_X6_store_51_47_9 ⟨Or.inl rfl, hQ _ _ ⟨hO, Tp.rf m⟩⟩
  refine v_X11_hold_0 (v_X6_store_51_47 ⟨fun _ => no, fun q => ⟨fun q2 => ?_, fun _ => no⟩⟩)
  have e3 : (3 : Int32).toInt = 3 := by decide
  have f := dMulE (X := x1.toInt) (Y := 33) (x := x1) (y := (33 : Int32)) rfl (by decide) (by omega) (by omega)
  refine s_X7_writeTo_47_53 hO.1 hO.2 (by omega) (fun m1 I1 => ⟨Or.inr rfl, hQ _ _ ⟨?_, ?_⟩⟩)
  · exact Ok.gen0 (Ok.of hO.1 I1) (by decide) rfl rfl
  · have t := Tp.kp (Kp.of I1)
    exact ⟨t.1, t.2.1, t.2.2.1, t.2.2.2⟩
theorem b_X12_tell {x1 x2 : Int32} (hO : Ok m) (hQ : ∀ (r : Int32) (m' : dM), Ok m' ∧ Tp m m' → Q r m') : c_X12_tell_70 3 x1 x2 m Q := by
  have b := hO.s (k := 70) (j := 63) rfl
  have no : j_X12_tell_70_17 3 m Q := v_X12_tell_70_17 (hQ _ _ ⟨hO, Tp.rf m⟩)
  have st : ∀ v : Int32, (m.1 70 63).toInt ≠ 20 → Q (((m.1 70 63) + (1 : Int32)) - (1 : Int32)) (dSet (dSet (dSet m 112 (m.1 70 63).toNatClampNeg x1) 113 (m.1 70 63).toNatClampNeg v) 70 63 ((m.1 70 63) + (1 : Int32))) := fun v q => by
    have f := dAddE (X := (m.1 70 63).toInt) (Y := 1) (x := m.1 70 63) (y := (1 : Int32)) rfl (by decide) (by omega) (by omega)
    refine hQ _ _ ⟨Ok.set70 (Ok.gR (Ok.gR hO (by decide) rfl rfl) (by decide) rfl rfl) (by decide) (fun lo hi h => ?_), rfl, rfl, rfl, rfl⟩
    rcases h with h | h
    · cases h
    · cases h; omega
  refine v_X12_tell_70 ⟨fun _ => no, fun q => b_isFlat12 hO ⟨fun _ => ⟨by omega, fun _ => ⟨by omega, st _ q⟩, fun _ => ⟨by omega, st _ q⟩⟩, fun w => absurd w (by decide)⟩ ⟨fun w => absurd rfl w, fun _ => no⟩⟩
theorem b_X12_forget (hO : Ok m) (hQ : ∀ (r : Int32) (m' : dM), Ok m' ∧ Tp m m' → Q r m') : c_X12_forget_70 1 m Q := by
  refine v_X12_forget_70 (hQ _ _ ⟨Ok.set70 hO (by decide) (fun lo hi h => ?_), rfl, rfl, rfl, rfl⟩)
  rcases h with h | h
  · cases h
  · cases h; decide
theorem b_X12_hold {x1 : Int32} (hO : Ok m) (hQ : ∀ (r : Int32) (m' : dM), Ok m' ∧ Tp m m' → Q r m') : c_X12_hold_70 2 x1 m Q := by
  have loop : ∀ (f i : Nat) (x2 : Int32) (M : dM), i + f = 58 → x2.toInt = (i : Int) → 0 ≤ x1.toInt ∧ x1.toInt ≤ 2 → Ok M → Tp m M → j_X12_hold_70_20 2 x1 x2 M Q := by
    intro f
    induction f with
    | zero => intro i x2 M hi h2 h1 O T; exact v_X12_hold_70_20 ⟨fun _ => hQ _ _ ⟨O, T⟩, fun q => by exfalso; omega⟩
    | succ f ih =>
      intro i x2 M hi h2 h1 O T
      have fm := dMulE (X := 58) (Y := x1.toInt) (x := (58 : Int32)) (y := x1) (by decide) rfl (by omega) (by omega)
      have fa := dAddE (X := 58 * x1.toInt) (Y := (i : Int)) (x := (58 : Int32) * x1) (y := x2) fm h2 (by omega) (by omega)
      exact v_X12_hold_70_20 ⟨fun q => by exfalso; omega, fun _ => ⟨by omega, by omega, ih (i + 1) _ _ (by omega) (d_inc h2 (by omega)) h1 (Ok.gR O (by decide) rfl rfl) ⟨T.1, T.2.1, T.2.2.1, T.2.2.2⟩⟩⟩
  refine v_X12_hold_70 (b_in (fun a b => ⟨fun _ => ⟨?_, ?_⟩, fun q => absurd q (by decide)⟩) ⟨fun q => absurd rfl q, fun _ => hQ _ _ ⟨hO, Tp.rf m⟩⟩)
  · have e0 : (0 : Int32).toInt = 0 := by decide
    have e2 : (2 : Int32).toInt = 2 := by decide
    omega
  · exact loop 58 0 _ _ rfl (by decide) ⟨a, b⟩ (Ok.gen0 hO (by decide) rfl rfl) ⟨rfl, rfl, rfl, rfl⟩
end HND
end
section
/-! FEED AND READ OF BOTH, exactly as far as the tapes go -/
def cB (x : Int32) (k : Nat) : Int32 := ((x.toUInt32 >>> ((Int32.ofNat k).toUInt32 &&& Int32.toUInt32 31)).toInt32.toInt8.toInt32.toInt8.toInt32) &&& 255
def rB (x : Int32) (k : Nat) : Int32 := ((x >>> ((Int32.ofNat k) &&& 31)).toInt8.toInt32.toInt8.toInt32) &&& 255
theorem sh_lo (x : BitVec 32) (k : Nat) (hk : k ≤ 24) : (x >>> k) &&& 255#32 = (x.sshiftRight k) &&& 255#32 := by
  apply BitVec.eq_of_getLsbD_eq
  intro i hi
  rw [BitVec.getLsbD_and, BitVec.getLsbD_and]
  by_cases q : i < 8
  · rw [BitVec.getLsbD_ushiftRight, BitVec.getLsbD_sshiftRight]
    have h1 : k + i < 32 := by omega
    simp [h1, Nat.not_le.mpr hi]
  · have : (255#32).getLsbD i = false := by
      rw [BitVec.getLsbD_ofNat]
      have : Nat.testBit 255 i = false := Nat.testBit_lt_two_pow (Nat.lt_of_lt_of_le (by decide : 255 < 2 ^ 8) (Nat.pow_le_pow_right (by decide) (by omega)))
      rw [this, Bool.and_false]
    rw [this, Bool.and_false, Bool.and_false]
theorem cB_rB (x : Int32) (k : Nat) (hk : k = 0 ∨ k = 8 ∨ k = 16 ∨ k = 24) : cB x k = rB x k := by
  unfold cB rB
  rw [i8_and, i8_and, i8_and, i8_and]
  apply Int32.toBitVec_inj.mp
  have e : Int32.toBitVec 255 = 255#32 := by decide
  rw [Int32.toBitVec_and, Int32.toBitVec_and, e]
  have l : (x.toUInt32 >>> ((Int32.ofNat k).toUInt32 &&& Int32.toUInt32 31)).toInt32.toBitVec = x.toBitVec >>> k := by
    rcases hk with rfl | rfl | rfl | rfl <;> rfl
  have r : (x >>> ((Int32.ofNat k) &&& 31)).toBitVec = x.toBitVec.sshiftRight k := by
    rcases hk with rfl | rfl | rfl | rfl <;> rfl
  rw [l, r]
  exact sh_lo _ _ (by omega)
/-! BOTH BETWEEN CALLS: tapes, place, told, slots, flats alike -/
def hb (x : Int32) (i : Nat) : Prop := ((x.toUInt32 >>> ((Int32.ofNat i).toUInt32 &&& Int32.toUInt32 31)).toInt32 &&& (1 : Int32)).toInt ≠ 0
theorem hb_bit (x : Int32) (j : Nat) (hj : j = 0 ∨ j = 1 ∨ j = 2) : hb x j ↔ x.toBitVec.getLsbD j = true := by
  unfold hb
  have l : ((x.toUInt32 >>> ((Int32.ofNat j).toUInt32 &&& Int32.toUInt32 31)).toInt32 &&& (1 : Int32)).toBitVec = (x.toBitVec >>> j) &&& 1#32 := by
    rcases hj with rfl | rfl | rfl <;> rfl
  show ((x.toUInt32 >>> ((Int32.ofNat j).toUInt32 &&& Int32.toUInt32 31)).toInt32 &&& (1 : Int32)).toBitVec.toInt ≠ 0 ↔ _
  rw [l, BitVec.and_one_eq_setWidth_ofBool_getLsbD, BitVec.getLsbD_ushiftRight, Nat.add_zero]
  cases x.toBitVec.getLsbD j with
  | false => decide
  | true => decide
theorem hb_or (x : Int32) (i j : Nat) (hi : i = 0 ∨ i = 1 ∨ i = 2) (hj : j = 0 ∨ j = 1 ∨ j = 2) : hb (x ||| ((1 : Int32) <<< (Int32.ofNat i &&& 31))) j ↔ (j = i ∨ hb x j) := by
  rw [hb_bit _ j hj, hb_bit _ j hj, Int32.toBitVec_or, BitVec.getLsbD_or, Bool.or_eq_true]
  have e : ((1 : Int32) <<< (Int32.ofNat i &&& 31)).toBitVec.getLsbD j = true ↔ j = i := by
    rcases hi with rfl | rfl | rfl <;> rcases hj with rfl | rfl | rfl <;> decide
  rw [e]
  exact Or.comm
def Ro (m : dM) : Prop := (m.1 0 2).toInt = (m.1 70 17).toInt ∧ (m.1 67 3).toInt = (m.1 70 63).toInt ∧ (m.1 2 0).toInt = (m.1 80 (m.1 70 18).toNatClampNeg).toInt ∧ ∀ i : Nat, i < 3 → (hb (m.1 51 4) i ↔ (m.1 115 i).toInt ≠ 0)
def Rq (m : dM) : Prop := Tq m ∧ Ro m
theorem Ro.of {m m' : dM} (h : Ro m) (a1 : m'.1 0 2 = m.1 0 2) (a2 : m'.1 67 3 = m.1 67 3) (a3 : m'.1 2 0 = m.1 2 0) (a4 : m'.1 51 4 = m.1 51 4) (a5 : m'.1 70 17 = m.1 70 17) (a6 : m'.1 70 63 = m.1 70 63) (a7 : m'.1 70 18 = m.1 70 18) (a8 : m'.1 80 = m.1 80) (a9 : m'.1 115 = m.1 115) : Ro m' := by
  unfold Ro
  rw [a1, a2, a3, a4, a5, a6, a7, a8, a9]
  exact h
theorem Ro.kp {m m' : dM} (h : Ro m) (hk : Kp m m') : Ro m' := h.of (hk 0 2 rfl) (hk 67 3 rfl) (hk 2 0 rfl) (hk 51 4 rfl) (hk 70 17 rfl) (hk 70 63 rfl) (hk 70 18 rfl) (funext fun j => hk 80 j rfl) (funext fun j => hk 115 j rfl)
theorem Rq.kp {m m' : dM} (h : Rq m) (hk : Kp m m') : Rq m' := ⟨h.1.tp (Tp.kp hk), h.2.kp hk⟩
def FR0 (m m' : dM) : Prop := ∀ k j : Nat, k ≠ 1 → ¬ (k = 0 ∧ j = 1) → m'.1 k j = m.1 k j
def FR70 (m m' : dM) : Prop := ∀ k j : Nat, k ≠ 71 → ¬ (k = 70 ∧ j = 2) → m'.1 k j = m.1 k j
theorem Ro.fr0 {m m' : dM} (h : Ro m) (hk : FR0 m m') : Ro m' := h.of (hk 0 2 (by decide) (by decide)) (hk 67 3 (by decide) (by decide)) (hk 2 0 (by decide) (by decide)) (hk 51 4 (by decide) (by decide)) (hk 70 17 (by decide) (by decide)) (hk 70 63 (by decide) (by decide)) (hk 70 18 (by decide) (by decide)) (funext fun j => hk 80 j (by decide) (by omega)) (funext fun j => hk 115 j (by decide) (by omega))
theorem Ro.fr70 {m m' : dM} (h : Ro m) (hk : FR70 m m') : Ro m' := h.of (hk 0 2 (by decide) (by decide)) (hk 67 3 (by decide) (by decide)) (hk 2 0 (by decide) (by decide)) (hk 51 4 (by decide) (by decide)) (hk 70 17 (by decide) (by decide)) (hk 70 63 (by decide) (by decide)) (hk 70 18 (by decide) (by decide)) (funext fun j => hk 80 j (by decide) (by omega)) (funext fun j => hk 115 j (by decide) (by omega))
section FED
variable {m : dM}
/-- n more on the class's tape -/
theorem y_put11 {x1 : Int32} {Q : dM → Prop} : ∀ (n t : Nat) (x2 : Int32) (m : dM), x2.toInt = 8 * n - 8 → n ≤ 4 → (m.1 0 1).toInt = (t : Int) → t + n ≤ 2000 → Ok m → (∀ m' : dM, Ok m' → FR0 m m' → (m'.1 0 1).toInt = ((t + n : Nat) : Int) → (∀ j : Nat, j < t → m'.1 1 j = m.1 1 j) → (∀ i : Nat, i < n → (m'.1 1 (t + i)) &&& 255 = cB x1 (8 * (n - 1 - i))) → Q m') → j_X11_putBytes_0_3 1 x1 x2 m Q := by
  intro n
  induction n with
  | zero =>
    intro t x2 m hx hn ht h2000 hO hQ
    exact v_X11_putBytes_0_3 ⟨fun _ => v_X11_putBytes_0_46 (hQ m hO (fun _ _ _ _ => rfl) ht (fun _ _ => rfl) (fun i hi => by omega)), fun h => by exfalso; omega⟩
  | succ n ih =>
    intro t x2 m hx hn ht h2000 hO hQ
    have e2 : x2 = Int32.ofNat (8 * n) := by
      apply d_ce
      rw [hx]
      have : n = 0 ∨ n = 1 ∨ n = 2 ∨ n = 3 := by omega
      rcases this with rfl | rfl | rfl | rfl <;> decide
    have f := dAddE (X := x2.toInt) (Y := -8) (x := x2) (y := (-8 : Int32)) rfl (by decide) (by omega) (by omega)
    refine v_X11_putBytes_0_3 ⟨fun h => by exfalso; omega, fun h => ⟨fun _ => by exfalso; omega, fun h2 => ⟨by omega, ?_⟩⟩⟩
    rw [d_cn ht]
    have f2 := d_inc ht (by omega)
    refine ih (t + 1) _ _ (by omega) (by omega) (by rw [dSet_s]; exact f2) (by omega) (Ok.set1 (lo := 0) (hi := 2000) (Ok.gen0 hO (by decide) rfl rfl) (Or.inl rfl) rfl rfl (by omega) (by omega)) (fun m' a b d e g => hQ m' a (fun k j h1 h2 => by rw [b k j h1 h2, dSet_e, if_neg h2, dSet_k h1]) (by rw [d]; omega) (fun j hj => ?_) (fun i hi => ?_))
    · rw [e j (by omega), dSet_k (by decide), dSet_j (by omega)]
    · by_cases q : i = 0
      · rw [q]
        show (m'.1 1 t) &&& 255 = _
        rw [e t (by omega), dSet_k (by decide), dSet_s, e2]
        rfl
      · have := g (i - 1) (by omega)
        rw [show t + 1 + (i - 1) = t + i by omega] at this
        rw [this, show n - 1 - (i - 1) = n + 1 - 1 - i by omega]
theorem y_put12 {x1 : Int32} {Q : dM → Prop} : ∀ (n t : Nat) (x2 : Int32) (m : dM), x2.toInt = 8 * n - 8 → n ≤ 4 → (m.1 70 2).toInt = (t : Int) → t + n ≤ 2000 → Ok m → (∀ m' : dM, Ok m' → FR70 m m' → (m'.1 70 2).toInt = ((t + n : Nat) : Int) → (∀ j : Nat, j < t → m'.1 71 j = m.1 71 j) → (∀ i : Nat, i < n → (m'.1 71 (t + i)) &&& 255 = rB x1 (8 * (n - 1 - i))) → Q m') → j_X12_put_70_3 1 x1 x2 m Q := by
  intro n
  induction n with
  | zero =>
    intro t x2 m hx hn ht h2000 hO hQ
    exact v_X12_put_70_3 ⟨fun _ => hQ m hO (fun _ _ _ _ => rfl) ht (fun _ _ => rfl) (fun i hi => by omega), fun h => by exfalso; omega⟩
  | succ n ih =>
    intro t x2 m hx hn ht h2000 hO hQ
    have e2 : x2 = Int32.ofNat (8 * n) := by
      apply d_ce
      rw [hx]
      have : n = 0 ∨ n = 1 ∨ n = 2 ∨ n = 3 := by omega
      rcases this with rfl | rfl | rfl | rfl <;> decide
    have f := dAddE (X := x2.toInt) (Y := -8) (x := x2) (y := (-8 : Int32)) rfl (by decide) (by omega) (by omega)
    refine v_X12_put_70_3 ⟨fun h => by exfalso; omega, fun h => ⟨by omega, ?_⟩⟩
    rw [d_cn ht]
    have f2 := d_inc ht (by omega)
    refine ih (t + 1) _ _ (by omega) (by omega) (by rw [dSet_s]; exact f2) (by omega) (Ok.set70 (Ok.gen0 hO (by decide) rfl rfl) (by decide) (fun lo hi h => ?_)) (fun m' a b d e g => hQ m' a (fun k j h1 h2 => by rw [b k j h1 h2, dSet_e, if_neg h2, dSet_k h1]) (by rw [d]; omega) (fun j hj => ?_) (fun i hi => ?_))
    · rcases h with h | h
      · cases h
      · cases h; omega
    · rw [e j (by omega), dSet_k (by decide), dSet_j (by omega)]
    · by_cases q : i = 0
      · rw [q]
        show (m'.1 71 t) &&& 255 = _
        rw [e t (by omega), dSet_k (by decide), dSet_s, e2]
        rfl
      · have := g (i - 1) (by omega)
        rw [show t + 1 + (i - 1) = t + i by omega] at this
        rw [this, show n - 1 - (i - 1) = n + 1 - 1 - i by omega]
def x5 (x1 x2 x3 x4 x5 : Int32) : Nat → Int32
  | 0 => x1
  | 1 => x2
  | 2 => x3
  | 3 => x4
  | _ => x5
/-- q words fed to the class -/
def Y11 (xs : Nat → Int32) (t : Nat) (m : dM) (q : Nat) (m' : dM) : Prop := Ok m' ∧ FR0 m m' ∧ (m'.1 0 1).toInt = ((t + 4 * q : Nat) : Int) ∧ (∀ j : Nat, j < t → m'.1 1 j = m.1 1 j) ∧ (∀ i : Nat, i < 4 * q → (m'.1 1 (t + i)) &&& 255 = cB (xs (i / 4)) (8 * (3 - i % 4)))
def Y12 (xs : Nat → Int32) (t : Nat) (m : dM) (q : Nat) (m' : dM) : Prop := Ok m' ∧ FR70 m m' ∧ (m'.1 70 2).toInt = ((t + 4 * q : Nat) : Int) ∧ (∀ j : Nat, j < t → m'.1 71 j = m.1 71 j) ∧ (∀ i : Nat, i < 4 * q → (m'.1 71 (t + i)) &&& 255 = rB (xs (i / 4)) (8 * (3 - i % 4)))
theorem Y11.go {xs : Nat → Int32} {t q : Nat} {m1 : dM} {Q : dM → Prop} (h : Y11 xs t m q m1) (hb : t + 20 ≤ 2000) (hq : q < 5) (hQ : ∀ m', Y11 xs t m (q + 1) m' → Q m') : c_X11_putBytes_0 1 (xs q) m1 Q := by
  obtain ⟨a, b, d, e, g⟩ := h
  refine v_X11_putBytes_0 (y_put11 4 (t + 4 * q) _ m1 (by decide) (by omega) d (by omega) a (fun m' a' b' d' e' g' => hQ m' ⟨a', fun k j h1 h2 => (b' k j h1 h2).trans (b k j h1 h2), by rw [d']; omega, fun j hj => by rw [e' j (by omega)]; exact e j hj, fun i hi => ?_⟩))
  by_cases w : i < 4 * q
  · rw [e' (t + i) (by omega)]; exact g i w
  · have := g' (i - 4 * q) (by omega)
    rw [show t + 4 * q + (i - 4 * q) = t + i by omega] at this
    rw [this, show i / 4 = q by omega, show 4 - 1 - (i - 4 * q) = 3 - i % 4 by omega]
theorem Y12.go {xs : Nat → Int32} {t q : Nat} {m1 : dM} {Q : dM → Prop} (h : Y12 xs t m q m1) (hb : t + 20 ≤ 2000) (hq : q < 5) (hQ : ∀ m', Y12 xs t m (q + 1) m' → Q m') : c_X12_put_70 1 (xs q) m1 Q := by
  obtain ⟨a, b, d, e, g⟩ := h
  refine v_X12_put_70 (y_put12 4 (t + 4 * q) _ m1 (by decide) (by omega) d (by omega) a (fun m' a' b' d' e' g' => hQ m' ⟨a', fun k j h1 h2 => (b' k j h1 h2).trans (b k j h1 h2), by rw [d']; omega, fun j hj => by rw [e' j (by omega)]; exact e j hj, fun i hi => ?_⟩))
  by_cases w : i < 4 * q
  · rw [e' (t + i) (by omega)]; exact g i w
  · have := g' (i - 4 * q) (by omega)
    rw [show t + 4 * q + (i - 4 * q) = t + i by omega] at this
    rw [this, show i / 4 = q by omega, show 4 - 1 - (i - 4 * q) = 3 - i % 4 by omega]
/-- the class's feed, and the reference's -/
def E11f (xs : Nat → Int32) (m : dM) (r : Int32) (m' : dM) : Prop := ((m.1 0 1).toInt + 20 ≤ 2000 ∧ ∃ t : Nat, (m.1 0 1).toInt = (t : Int) ∧ r.toInt = (t : Int) + 20 ∧ Y11 xs t m 5 m') ∨ (2000 < (m.1 0 1).toInt + 20 ∧ r.toInt = -1 ∧ m' = m)
def E12f (xs : Nat → Int32) (m : dM) (r : Int32) (m' : dM) : Prop := ((m.1 70 2).toInt + 20 ≤ 2000 ∧ ∃ t : Nat, (m.1 70 2).toInt = (t : Int) ∧ r.toInt = (t : Int) + 20 ∧ Y12 xs t m 5 m') ∨ (2000 < (m.1 70 2).toInt + 20 ∧ r.toInt = -1 ∧ m' = m)
theorem b_X11_feed {x1 x2 x3 x4 x5' : Int32} {Q : Int32 → dM → Prop} (hO : Ok m) (hQ : ∀ (r : Int32) (m' : dM), Ok m' ∧ E11f (x5 x1 x2 x3 x4 x5') m r m' → Q r m') : c_X11_feed_0 2 x1 x2 x3 x4 x5' m Q := by
  have b := hO.s (k := 0) (j := 1) rfl
  obtain ⟨t, ht⟩ : ∃ t : Nat, (m.1 0 1).toInt = (t : Int) := ⟨(m.1 0 1).toInt.toNat, by omega⟩
  have f := dAddE (X := (t : Int)) (Y := 20) (x := m.1 0 1) (y := (20 : Int32)) ht (by decide) (by omega) (by omega)
  refine v_X11_feed_0 ⟨fun q => ?_, fun q => hQ _ _ ⟨hO, Or.inr ⟨by omega, by decide, rfl⟩⟩⟩
  have Y0 : Y11 (x5 x1 x2 x3 x4 x5') t m 0 m := ⟨hO, fun _ _ _ _ => rfl, by rw [ht]; omega, fun _ _ => rfl, fun i hi => by omega⟩
  exact Y0.go (by omega) (by decide) (fun m1 Y1 => Y1.go (by omega) (by decide) (fun m2 Y2 => Y2.go (by omega) (by decide) (fun m3 Y3 => Y3.go (by omega) (by decide) (fun m4 Y4 => Y4.go (by omega) (by decide) (fun m5 Y5 => hQ _ _ ⟨Y5.1, Or.inl ⟨by omega, t, ht, by rw [Y5.2.2.1]; omega, Y5⟩⟩)))))
theorem b_X12_feed {x1 x2 x3 x4 x5' : Int32} {Q : Int32 → dM → Prop} (hO : Ok m) (hQ : ∀ (r : Int32) (m' : dM), Ok m' ∧ E12f (x5 x1 x2 x3 x4 x5') m r m' → Q r m') : c_X12_feed_70 2 x1 x2 x3 x4 x5' m Q := by
  have b := hO.s (k := 70) (j := 2) rfl
  obtain ⟨t, ht⟩ : ∃ t : Nat, (m.1 70 2).toInt = (t : Int) := ⟨(m.1 70 2).toInt.toNat, by omega⟩
  have f := dAddE (X := (t : Int)) (Y := 20) (x := m.1 70 2) (y := (20 : Int32)) ht (by decide) (by omega) (by omega)
  refine v_X12_feed_70 ⟨fun q => ?_, fun q => hQ _ _ ⟨hO, Or.inr ⟨by omega, by decide, rfl⟩⟩⟩
  have Y0 : Y12 (x5 x1 x2 x3 x4 x5') t m 0 m := ⟨hO, fun _ _ _ _ => rfl, by rw [ht]; omega, fun _ _ => rfl, fun i hi => by omega⟩
  exact Y0.go (by omega) (by decide) (fun m1 Y1 => Y1.go (by omega) (by decide) (fun m2 Y2 => Y2.go (by omega) (by decide) (fun m3 Y3 => Y3.go (by omega) (by decide) (fun m4 Y4 => Y4.go (by omega) (by decide) (fun m5 Y5 => hQ _ _ ⟨Y5.1, Or.inl ⟨by omega, t, ht, by rw [Y5.2.2.1]; omega, Y5⟩⟩)))))
theorem j_feed {xs : Nat → Int32} {m1 m2 : dM} {r1 r2 : Int32} (hT : Rq m) (h1 : E11f xs m r1 m1) (h2 : E12f xs m1 r2 m2) : Rq m2 ∧ r1 = r2 := by
  obtain ⟨⟨e, hb⟩, ho⟩ := hT
  rcases h1 with ⟨a, t, b, c, Y⟩ | ⟨a, b, T⟩
  · obtain ⟨O, y1, y3, y4, y5⟩ := Y
    have e2 : m1.1 70 2 = m.1 70 2 := y1 70 2 (by decide) (by decide)
    rcases h2 with ⟨a2, t2, b2, c2, O2, z1, z3, z4, z5⟩ | ⟨a2, -⟩
    · rw [e2] at b2
      have et : t2 = t := by omega
      subst et
      have z2 : m2.1 0 1 = m1.1 0 1 := z1 0 1 (by decide) (by decide)
      refine ⟨⟨⟨by rw [z2, y3, z3], fun i hi => ?_⟩, (ho.fr0 y1).fr70 z1⟩, Int32.toInt_inj.mp (by omega)⟩
      rw [z2, y3] at hi
      rw [z1 1 i (by decide) (by omega)]
      by_cases q : i < t2
      · rw [y4 i q, z4 i q, y1 71 i (by decide) (by omega)]
        exact hb i (by omega)
      · have u := y5 (i - t2) (by omega)
        have v := z5 (i - t2) (by omega)
        rw [show t2 + (i - t2) = i by omega] at u v
        rw [u, v]
        exact cB_rB _ _ (by omega)
    · rw [e2] at a2; exfalso; omega
  · subst T
    rcases h2 with ⟨a2, -⟩ | ⟨a2, b2, T2⟩
    · exfalso; omega
    · subst T2
      exact ⟨⟨⟨e, hb⟩, ho⟩, Int32.toInt_inj.mp (by omega)⟩
/-- back -/
def E11b (x1 : Int32) (m : dM) (r : Int32) (m' : dM) : Prop := (FR0 m m' ∧ m'.1 1 = m.1 1) ∧ (((0 ≤ x1.toInt ∧ x1.toInt ≤ (m.1 0 1).toInt) ∧ r.toInt = (m.1 0 1).toInt - x1.toInt ∧ (m'.1 0 1).toInt = (m.1 0 1).toInt - x1.toInt) ∨ (¬ (0 ≤ x1.toInt ∧ x1.toInt ≤ (m.1 0 1).toInt) ∧ r.toInt = -1 ∧ m'.1 0 1 = m.1 0 1))
def E12b (x1 : Int32) (m : dM) (r : Int32) (m' : dM) : Prop := (FR70 m m' ∧ m'.1 71 = m.1 71) ∧ (((0 ≤ x1.toInt ∧ x1.toInt ≤ (m.1 70 2).toInt) ∧ r.toInt = (m.1 70 2).toInt - x1.toInt ∧ (m'.1 70 2).toInt = (m.1 70 2).toInt - x1.toInt) ∨ (¬ (0 ≤ x1.toInt ∧ x1.toInt ≤ (m.1 70 2).toInt) ∧ r.toInt = -1 ∧ m'.1 70 2 = m.1 70 2))
theorem b_X11_back {x1 : Int32} {Q : Int32 → dM → Prop} (hO : Ok m) (hQ : ∀ (r : Int32) (m' : dM), Ok m' ∧ E11b x1 m r m' → Q r m') : c_X11_back_0 1 x1 m Q := by
  have b := hO.s (k := 0) (j := 1) rfl
  have no : ¬ (0 ≤ x1.toInt ∧ x1.toInt ≤ (m.1 0 1).toInt) → j_X11_back_0_12 1 m Q := fun q => v_X11_back_0_12 (hQ _ _ ⟨hO, ⟨fun _ _ _ _ => rfl, rfl⟩, Or.inr ⟨q, by decide, rfl⟩⟩)
  refine v_X11_back_0 ⟨fun q => no (by omega), fun q => ⟨fun q2 => ?_, fun q2 => no (by omega)⟩⟩
  have f := dSubE (X := (m.1 0 1).toInt) (Y := x1.toInt) (x := m.1 0 1) (y := x1) rfl rfl (by omega) (by omega)
  exact hQ _ _ ⟨Ok.set1 (lo := 0) (hi := 2000) hO (Or.inl rfl) rfl rfl (by omega) (by omega), ⟨fun k j h1 h2 => by rw [dSet_e, if_neg h2], rfl⟩, Or.inl ⟨⟨q, q2⟩, f, f⟩⟩
theorem b_X12_back {x1 : Int32} {Q : Int32 → dM → Prop} (hO : Ok m) (hQ : ∀ (r : Int32) (m' : dM), Ok m' ∧ E12b x1 m r m' → Q r m') : c_X12_back_70 1 x1 m Q := by
  have b := hO.s (k := 70) (j := 2) rfl
  have no : ¬ (0 ≤ x1.toInt ∧ x1.toInt ≤ (m.1 70 2).toInt) → j_X12_back_70_12 1 m Q := fun q => v_X12_back_70_12 (hQ _ _ ⟨hO, ⟨fun _ _ _ _ => rfl, rfl⟩, Or.inr ⟨q, by decide, rfl⟩⟩)
  refine v_X12_back_70 ⟨fun q => no (by omega), fun q => ⟨fun q2 => ?_, fun q2 => no (by omega)⟩⟩
  have f := dSubE (X := (m.1 70 2).toInt) (Y := x1.toInt) (x := m.1 70 2) (y := x1) rfl rfl (by omega) (by omega)
  refine hQ _ _ ⟨Ok.set70 hO (by decide) (fun lo hi h => ?_), ⟨fun k j h1 h2 => by rw [dSet_e, if_neg h2], rfl⟩, Or.inl ⟨⟨q, q2⟩, f, f⟩⟩
  rcases h with h | h
  · cases h
  · cases h; omega
theorem j_back {x1 : Int32} {m1 m2 : dM} {r1 r2 : Int32} (hT : Rq m) (h1 : E11b x1 m r1 m1) (h2 : E12b x1 m1 r2 m2) : Rq m2 ∧ r1 = r2 := by
  obtain ⟨⟨e, hb⟩, ho⟩ := hT
  obtain ⟨⟨a1, a2⟩, a4⟩ := h1
  obtain ⟨⟨c1, c3⟩, c4⟩ := h2
  rw [a1 70 2 (by decide) (by decide)] at c4
  have k0 : m2.1 0 1 = m1.1 0 1 := c1 0 1 (by decide) (by decide)
  have k : (m2.1 0 1).toInt = (m1.1 0 1).toInt := by rw [k0]
  have d1 : (m1.1 0 1 = m.1 0 1) → (m1.1 0 1).toInt = (m.1 0 1).toInt := fun q => by rw [q]
  have d2 : (m2.1 70 2 = m.1 70 2) → (m2.1 70 2).toInt = (m.1 70 2).toInt := fun q => by rw [q]
  have h : (m2.1 0 1).toInt = (m2.1 70 2).toInt ∧ r1.toInt = r2.toInt ∧ (m2.1 0 1).toInt ≤ (m.1 0 1).toInt := by
    rcases a4 with ⟨u, v, w⟩ | ⟨u, v, w⟩ <;> rcases c4 with ⟨u2, v2, w2⟩ | ⟨u2, v2, w2⟩
    · omega
    · exfalso; omega
    · exfalso; omega
    · have := d1 w; have := d2 w2; omega
  refine ⟨⟨⟨h.1, fun i hi => ?_⟩, (ho.fr0 a1).fr70 c1⟩, Int32.toInt_inj.mp h.2.1⟩
  rw [c1 1 i (by decide) (by omega), c3, a2, a1 71 i (by decide) (by omega)]
  exact hb i (by omega)
end FED
end
section
/-! TELL, FORGET, HOLD, RESTORE, READ OF BOTH, exactly as far as told, slots, place, flats go -/
section OPR
variable {m : dM} {Q : Int32 → dM → Prop}
def E11t (x1 : Int32) (m : dM) (r : Int32) (m' : dM) : Prop := ((0 ≤ x1.toInt ∧ x1.toInt < (m.1 2 0).toInt ∧ (m.1 67 3).toInt < 20) ∧ r.toInt = (m.1 67 3).toInt ∧ (m'.1 67 3).toInt = (m.1 67 3).toInt + 1 ∧ ∀ k j : Nat, k ≠ 68 → k ≠ 69 → ¬ (k = 67 ∧ j = 3) → m'.1 k j = m.1 k j) ∨ (¬ (0 ≤ x1.toInt ∧ x1.toInt < (m.1 2 0).toInt ∧ (m.1 67 3).toInt < 20) ∧ r.toInt = -1 ∧ m' = m)
def E12t (x1 : Int32) (m : dM) (r : Int32) (m' : dM) : Prop := ((0 ≤ x1.toInt ∧ x1.toInt < (m.1 80 (m.1 70 18).toNatClampNeg).toInt ∧ (m.1 70 63).toInt ≠ 20) ∧ r.toInt = (m.1 70 63).toInt ∧ (m'.1 70 63).toInt = (m.1 70 63).toInt + 1 ∧ ∀ k j : Nat, k ≠ 112 → k ≠ 113 → ¬ (k = 70 ∧ j = 63) → m'.1 k j = m.1 k j) ∨ (¬ (0 ≤ x1.toInt ∧ x1.toInt < (m.1 80 (m.1 70 18).toNatClampNeg).toInt ∧ (m.1 70 63).toInt ≠ 20) ∧ r.toInt = -1 ∧ m' = m)
theorem z_X11_tell {x1 x2 : Int32} (hO : Ok m) (h2 : x2 = 0 ∨ x2 = 1) (hQ : ∀ (r : Int32) (m' : dM), Ok m' ∧ E11t x1 m r m' → Q r m') : c_X11_tell_0 3 x1 x2 m Q := by
  have b := hO.s (k := 67) (j := 3) rfl
  have no : ¬ (0 ≤ x1.toInt ∧ x1.toInt < (m.1 2 0).toInt ∧ (m.1 67 3).toInt < 20) → Q (-1 : Int32) m := fun q => hQ _ _ ⟨hO, Or.inr ⟨q, by decide, rfl⟩⟩
  have n0 : ¬ (0 ≤ x1.toInt ∧ x1.toInt < (m.1 2 0).toInt) → ((0 : Int32).toInt = 0 → Q (-1 : Int32) m) ∧ ((0 : Int32).toInt ≠ 0 → c_X9_add_67 2 x1 x2 m (fun r2 m2 => Q r2 m2)) := fun q => ⟨fun _ => no (fun w => q ⟨w.1, w.2.1⟩), fun w => absurd rfl w⟩
  refine v_X11_tell_0 (Wp.deep (d := 1) (v_X11_isFlat_0 ⟨fun q => v_X11_isFlat_0_19 (n0 (by omega)), fun q => ⟨fun q2 => v_X11_isFlat_0_19 (n0 (by omega)), fun q2 => ⟨fun w => absurd w (by decide), fun _ => ?_⟩⟩⟩) (Nat.le_of_ble_eq_true rfl))
  refine Wp.deep (d := 1) (v_X9_add_67 ⟨fun q3 => ⟨by omega, h2, by omega, hQ _ _ ⟨?_, Or.inl ⟨⟨q, q2, q3⟩, ?_, ?_, fun k j e1 e2 e3 => ?_⟩⟩⟩, fun q3 => no (fun w => by omega)⟩) (Nat.le_of_ble_eq_true rfl)
  all_goals have f := dAddE (X := (m.1 67 3).toInt) (Y := 1) (x := m.1 67 3) (y := (1 : Int32)) rfl (by decide) (by omega) (by omega)
  · refine Ok.gen (Ok.gR (Ok.gR hO (by decide) rfl rfl) (by decide) rfl rfl) (by decide) (fun lo hi h => ?_)
    rcases h with h | h
    · cases h
    · cases h; omega
  · have f2 := dSubE (X := (m.1 67 3).toInt + 1) (Y := 1) (x := m.1 67 3 + 1) (y := (1 : Int32)) f (by decide) (by omega) (by omega)
    omega
  · exact f
  · rw [dSet_e, if_neg e3, dSet_k e2, dSet_k e1]
theorem z_X12_tell {x1 x2 : Int32} (hO : Ok m) (hQ : ∀ (r : Int32) (m' : dM), Ok m' ∧ E12t x1 m r m' → Q r m') : c_X12_tell_70 3 x1 x2 m Q := by
  have b := hO.s (k := 70) (j := 63) rfl
  have b18 := hO.s (k := 70) (j := 18) rfl
  have b80 := hO.s (k := 80) (j := (m.1 70 18).toNatClampNeg) rfl
  have f80 := dSubE (X := (m.1 80 (m.1 70 18).toNatClampNeg).toInt) (Y := 1) (x := m.1 80 (m.1 70 18).toNatClampNeg) (y := (1 : Int32)) rfl (by decide) (by omega) (by omega)
  have no : ¬ (0 ≤ x1.toInt ∧ x1.toInt < (m.1 80 (m.1 70 18).toNatClampNeg).toInt ∧ (m.1 70 63).toInt ≠ 20) → j_X12_tell_70_17 3 m Q := fun q => v_X12_tell_70_17 (hQ _ _ ⟨hO, Or.inr ⟨q, by decide, rfl⟩⟩)
  have st : ∀ v : Int32, (0 ≤ x1.toInt ∧ x1.toInt < (m.1 80 (m.1 70 18).toNatClampNeg).toInt ∧ (m.1 70 63).toInt ≠ 20) → Q (((m.1 70 63) + (1 : Int32)) - (1 : Int32)) (dSet (dSet (dSet m 112 (m.1 70 63).toNatClampNeg x1) 113 (m.1 70 63).toNatClampNeg v) 70 63 ((m.1 70 63) + (1 : Int32))) := fun v q => by
    have f := dAddE (X := (m.1 70 63).toInt) (Y := 1) (x := m.1 70 63) (y := (1 : Int32)) rfl (by decide) (by omega) (by omega)
    have f2 := dSubE (X := (m.1 70 63).toInt + 1) (Y := 1) (x := m.1 70 63 + 1) (y := (1 : Int32)) f (by decide) (by omega) (by omega)
    refine hQ _ _ ⟨Ok.set70 (Ok.gR (Ok.gR hO (by decide) rfl rfl) (by decide) rfl rfl) (by decide) (fun lo hi h => ?_), Or.inl ⟨q, by omega, f, fun k j e1 e2 e3 => by rw [dSet_e, if_neg e3, dSet_k e2, dSet_k e1]⟩⟩
    rcases h with h | h
    · cases h
    · cases h; omega
  have e0 : (0 : Int32).toInt = 0 := by decide
  have n0 : ¬ (0 ≤ x1.toInt ∧ x1.toInt < (m.1 80 (m.1 70 18).toNatClampNeg).toInt) → j_X12_tell_70_17 3 m Q := fun q => no (fun w => q ⟨w.1, w.2.1⟩)
  refine v_X12_tell_70 ⟨fun q => no (fun w => w.2.2 q), fun q => v_X12_isFlat_70 ⟨by omega, Wp.deep (d := 1) (v_X12_in ⟨fun q2 => v_X12_in_14 ⟨Or.inl rfl, fun w => absurd rfl w, fun _ => n0 (by omega)⟩, fun q2 => ⟨fun q3 => v_X12_in_14 ⟨Or.inl rfl, fun w => absurd rfl w, fun _ => n0 (by omega)⟩, fun q3 => ⟨Or.inr rfl, fun _ => ⟨by omega, fun _ => ⟨by omega, st _ ⟨by omega, by omega, q⟩⟩, fun _ => ⟨by omega, st _ ⟨by omega, by omega, q⟩⟩⟩, fun w => absurd w (by decide)⟩⟩⟩) (Nat.le_of_ble_eq_true rfl)⟩⟩
theorem j_tell {x1 : Int32} {m1 m2 : dM} {r1 r2 : Int32} (hO : Ok m) (hT : Rq m) (h1 : E11t x1 m r1 m1) (h2 : E12t x1 m1 r2 m2) : Rq m2 ∧ r1 = r2 := by
  have b := hO.s (k := 67) (j := 3) rfl
  obtain ⟨hq, ⟨o1, o2, o3, o4⟩⟩ := hT
  rcases h1 with ⟨a, b1, c, d⟩ | ⟨a, b1, T⟩
  · have d18 : m1.1 70 18 = m.1 70 18 := d 70 18 (by decide) (by decide) (by decide)
    have d63 : m1.1 70 63 = m.1 70 63 := d 70 63 (by decide) (by decide) (by decide)
    have d80 : ∀ j : Nat, m1.1 80 j = m.1 80 j := fun j => d 80 j (by decide) (by decide) (by omega)
    rcases h2 with ⟨a2, b2, c2, d2⟩ | ⟨a2, b2, T2⟩
    · rw [d63] at b2 c2
      have r0 : ∀ k j : Nat, k ≠ 67 → k ≠ 68 → k ≠ 69 → k ≠ 112 → k ≠ 113 → ¬ (k = 70 ∧ j = 63) → m2.1 k j = m.1 k j := fun k j e1 e2 e3 e4 e5 e6 => by rw [d2 k j e4 e5 e6, d k j e2 e3 (fun w => e1 w.1)]
      refine ⟨⟨hq.tp ⟨r0 0 1 (by decide) (by decide) (by decide) (by decide) (by decide) (by decide), r0 70 2 (by decide) (by decide) (by decide) (by decide) (by decide) (by decide), funext fun j => r0 1 j (by decide) (by decide) (by decide) (by decide) (by decide) (by omega), funext fun j => r0 71 j (by decide) (by decide) (by decide) (by decide) (by decide) (by omega)⟩, ?_, ?_, ?_, ?_⟩, Int32.toInt_inj.mp (by omega)⟩
      · rw [r0 0 2 (by decide) (by decide) (by decide) (by decide) (by decide) (by decide), r0 70 17 (by decide) (by decide) (by decide) (by decide) (by decide) (by decide)]; exact o1
      · rw [d2 67 3 (by decide) (by decide) (by decide)]; omega
      · rw [r0 2 0 (by decide) (by decide) (by decide) (by decide) (by decide) (by decide), r0 70 18 (by decide) (by decide) (by decide) (by decide) (by decide) (by decide), r0 80 _ (by decide) (by decide) (by decide) (by decide) (by decide) (by omega)]; exact o3
      · intro i hi
        rw [r0 51 4 (by decide) (by decide) (by decide) (by decide) (by decide) (by decide), r0 115 i (by decide) (by decide) (by decide) (by decide) (by decide) (by omega)]; exact o4 i hi
    · rw [d18, d63, d80] at a2; exfalso; omega
  · subst T
    rcases h2 with ⟨a2, -⟩ | ⟨a2, b2, T2⟩
    · exfalso; omega
    · subst T2
      exact ⟨⟨hq, ⟨o1, o2, o3, o4⟩⟩, Int32.toInt_inj.mp (by omega)⟩
/-- forget -/
def E11o (m : dM) (r : Int32) (m' : dM) : Prop := r = m.1 67 3 ∧ m'.1 67 3 = 0 ∧ ∀ k j : Nat, ¬ (k = 67 ∧ j = 3) → m'.1 k j = m.1 k j
def E12o (m : dM) (r : Int32) (m' : dM) : Prop := r = m.1 70 63 ∧ m'.1 70 63 = 0 ∧ ∀ k j : Nat, ¬ (k = 70 ∧ j = 63) → m'.1 k j = m.1 k j
theorem z_X11_forget (hO : Ok m) (hQ : ∀ (r : Int32) (m' : dM), Ok m' ∧ E11o m r m' → Q r m') : c_X11_forget_0 2 m Q := by
  refine v_X11_forget_0 (Wp.deep (d := 1) (v_X9_clear_67 (hQ _ _ ⟨?_, rfl, dSet_s _ _ _ _, fun k j e => by rw [dSet_e, if_neg e]⟩)) (Nat.le_of_ble_eq_true rfl))
  refine Ok.gen hO (by decide) (fun lo hi h => ?_)
  rcases h with h | h
  · cases h
  · cases h; decide
theorem z_X12_forget (hO : Ok m) (hQ : ∀ (r : Int32) (m' : dM), Ok m' ∧ E12o m r m' → Q r m') : c_X12_forget_70 1 m Q := by
  refine v_X12_forget_70 (hQ _ _ ⟨Ok.set70 hO (by decide) (fun lo hi h => ?_), rfl, dSet_s _ _ _ _, fun k j e => by rw [dSet_e, if_neg e]⟩)
  rcases h with h | h
  · cases h
  · cases h; decide
theorem j_forget {m1 m2 : dM} {r1 r2 : Int32} (hT : Rq m) (h1 : E11o m r1 m1) (h2 : E12o m1 r2 m2) : Rq m2 ∧ r1 = r2 := by
  obtain ⟨hq, ⟨o1, o2, o3, o4⟩⟩ := hT
  obtain ⟨a, b, c⟩ := h1
  obtain ⟨a2, b2, c2⟩ := h2
  have r0 : ∀ k j : Nat, k ≠ 67 → ¬ (k = 70 ∧ j = 63) → m2.1 k j = m.1 k j := fun k j e1 e2 => by rw [c2 k j e2, c k j (fun w => e1 w.1)]
  refine ⟨⟨hq.tp ⟨r0 0 1 (by decide) (by decide), r0 70 2 (by decide) (by decide), funext fun j => r0 1 j (by decide) (by omega), funext fun j => r0 71 j (by decide) (by omega)⟩, ?_, ?_, ?_, ?_⟩, Int32.toInt_inj.mp ?_⟩
  · rw [r0 0 2 (by decide) (by decide), r0 70 17 (by decide) (by decide)]; exact o1
  · rw [c2 67 3 (by decide), b, b2]
  · rw [r0 2 0 (by decide) (by decide), r0 70 18 (by decide) (by decide), r0 80 _ (by decide) (by omega)]; exact o3
  · intro i hi
    rw [r0 51 4 (by decide) (by decide), r0 115 i (by decide) (by omega)]; exact o4 i hi
  · rw [a, a2, c 70 63 (by decide)]; exact o2
/-- hold -/
def E11h (x1 : Int32) (m : dM) (r : Int32) (m' : dM) : Prop := ((0 ≤ x1.toInt ∧ x1.toInt ≤ 2) ∧ r = 1 ∧ m'.1 51 4 = (m.1 51 4) ||| ((1 : Int32) <<< (x1 &&& 31)) ∧ ∀ k j : Nat, kp k j = true → ¬ (k = 51 ∧ j = 4) → m'.1 k j = m.1 k j) ∨ (¬ (0 ≤ x1.toInt ∧ x1.toInt ≤ 2) ∧ r = 0 ∧ m' = m)
def E12h (x1 : Int32) (m : dM) (r : Int32) (m' : dM) : Prop := ((0 ≤ x1.toInt ∧ x1.toInt ≤ 2) ∧ r = 1 ∧ (∀ j : Nat, m'.1 115 j = if j = x1.toNatClampNeg then 1 else m.1 115 j) ∧ ∀ k j : Nat, k ≠ 115 → k ≠ 116 → m'.1 k j = m.1 k j) ∨ (¬ (0 ≤ x1.toInt ∧ x1.toInt ≤ 2) ∧ r = 0 ∧ m' = m)
theorem z_X11_hold {x1 : Int32} (hO : Ok m) (hQ : ∀ (r : Int32) (m' : dM), Ok m' ∧ E11h x1 m r m' → Q r m') : c_X11_hold_0 3 x1 m Q := by
  have no : ¬ (0 ≤ x1.toInt ∧ x1.toInt ≤ 2) → j_X6_store_51_47_9 2 m (fun r1 m1 => (r1 = 0 ∨ r1 = 1) ∧ Q r1 m1) := fun q => v_X6_store_51_47_9 ⟨Or.inl rfl, hQ _ _ ⟨hO, Or.inr ⟨q, rfl, rfl⟩⟩⟩
  have e3 : (3 : Int32).toInt = 3 := by decide
  refine v_X11_hold_0 (v_X6_store_51_47 ⟨fun q => no (by omega), fun q => ⟨fun q2 => ?_, fun q2 => no (by omega)⟩⟩)
  have f := dMulE (X := x1.toInt) (Y := 33) (x := x1) (y := (33 : Int32)) rfl (by decide) (by omega) (by omega)
  refine s_X7_writeTo_47_53 hO.1 hO.2 (by omega) (fun m1 I1 => ⟨Or.inr rfl, hQ _ _ ⟨Ok.gen0 (Ok.of hO.1 I1) (by decide) rfl rfl, Or.inl ⟨⟨q, by omega⟩, rfl, ?_, fun k j hk e => ?_⟩⟩⟩)
  · rw [dSet_s, Kp.of I1 51 4 rfl]
  · rw [dSet_e, if_neg e]; exact Kp.of I1 k j hk
theorem z_X12_hold {x1 : Int32} (hO : Ok m) (hQ : ∀ (r : Int32) (m' : dM), Ok m' ∧ E12h x1 m r m' → Q r m') : c_X12_hold_70 2 x1 m Q := by
  have e0 : (0 : Int32).toInt = 0 := by decide
  have e2 : (2 : Int32).toInt = 2 := by decide
  have loop : ∀ (f i : Nat) (x2 : Int32) (M : dM), i + f = 58 → x2.toInt = (i : Int) → 0 ≤ x1.toInt ∧ x1.toInt ≤ 2 → Ok M → (∀ j : Nat, M.1 115 j = if j = x1.toNatClampNeg then 1 else m.1 115 j) → (∀ k j : Nat, k ≠ 115 → k ≠ 116 → M.1 k j = m.1 k j) → j_X12_hold_70_20 2 x1 x2 M Q := by
    intro f
    induction f with
    | zero => intro i x2 M hi h2 h1 O T T2; exact v_X12_hold_70_20 ⟨fun _ => hQ _ _ ⟨O, Or.inl ⟨h1, rfl, T, T2⟩⟩, fun q => by exfalso; omega⟩
    | succ f ih =>
      intro i x2 M hi h2 h1 O T T2
      have fm := dMulE (X := 58) (Y := x1.toInt) (x := (58 : Int32)) (y := x1) (by decide) rfl (by omega) (by omega)
      have fa := dAddE (X := 58 * x1.toInt) (Y := (i : Int)) (x := (58 : Int32) * x1) (y := x2) fm h2 (by omega) (by omega)
      exact v_X12_hold_70_20 ⟨fun q => by exfalso; omega, fun _ => ⟨by omega, by omega, ih (i + 1) _ _ (by omega) (d_inc h2 (by omega)) h1 (Ok.gR O (by decide) rfl rfl) (fun j => by rw [dSet_k (by decide)]; exact T j) (fun k j a b => by rw [dSet_k b]; exact T2 k j a b)⟩⟩
  have no : ¬ (0 ≤ x1.toInt ∧ x1.toInt ≤ 2) → Q 0 m := fun q => hQ _ _ ⟨hO, Or.inr ⟨q, rfl, rfl⟩⟩
  refine v_X12_hold_70 (v_X12_in ⟨fun q => v_X12_in_14 ⟨fun w => absurd rfl w, fun _ => no (by omega)⟩, fun q => ⟨fun q2 => v_X12_in_14 ⟨fun w => absurd rfl w, fun _ => no (by omega)⟩, fun q2 => ⟨fun _ => ⟨by omega, loop 58 0 _ _ rfl (by decide) ⟨by omega, by omega⟩ (Ok.gen0 hO (by decide) rfl rfl) (fun j => ?_) (fun k j a b => by rw [dSet_k a])⟩, fun w => absurd w (by decide)⟩⟩⟩)
  rw [dSet_e]
  by_cases z : j = x1.toNatClampNeg
  · rw [if_pos ⟨rfl, z⟩, if_pos z]
  · rw [if_neg (fun w => z w.2), if_neg z]
theorem j_hold {x1 : Int32} {m1 m2 : dM} {r1 r2 : Int32} (hT : Rq m) (h1 : E11h x1 m r1 m1) (h2 : E12h x1 m1 r2 m2) : Rq m2 ∧ r1 = r2 := by
  obtain ⟨hq, ⟨o1, o2, o3, o4⟩⟩ := hT
  rcases h1 with ⟨a, b, c, d⟩ | ⟨a, b, T⟩
  · rcases h2 with ⟨a2, b2, c2, d2⟩ | ⟨a2, -⟩
    · have r0 : ∀ k j : Nat, kp k j = true → k ≠ 51 → k ≠ 115 → k ≠ 116 → m2.1 k j = m.1 k j := fun k j e1 e2 e3 e4 => by rw [d2 k j e3 e4, d k j e1 (fun w => e2 w.1)]
      obtain ⟨i, hi⟩ : ∃ i : Nat, x1.toInt = (i : Int) := ⟨x1.toInt.toNat, by omega⟩
      have ex : x1 = Int32.ofNat i := by
        apply d_ce
        rw [hi]
        have : i = 0 ∨ i = 1 ∨ i = 2 := by omega
        rcases this with rfl | rfl | rfl <;> decide
      refine ⟨⟨hq.tp ⟨r0 0 1 rfl (by decide) (by decide) (by decide), r0 70 2 rfl (by decide) (by decide) (by decide), funext fun j => r0 1 j rfl (by decide) (by decide) (by decide), funext fun j => r0 71 j rfl (by decide) (by decide) (by decide)⟩, ?_, ?_, ?_, ?_⟩, by rw [b, b2]⟩
      · rw [r0 0 2 rfl (by decide) (by decide) (by decide), r0 70 17 rfl (by decide) (by decide) (by decide)]; exact o1
      · rw [r0 67 3 rfl (by decide) (by decide) (by decide), r0 70 63 rfl (by decide) (by decide) (by decide)]; exact o2
      · rw [r0 2 0 rfl (by decide) (by decide) (by decide), r0 70 18 rfl (by decide) (by decide) (by decide), r0 80 _ rfl (by decide) (by decide) (by decide)]; exact o3
      · intro j hj
        rw [d2 51 4 (by decide) (by decide), c, c2, d_cn hi, ex, hb_or _ i j (by omega) (by omega), d 115 j rfl (by omega)]
        by_cases z : j = i
        · rw [if_pos z]
          exact ⟨fun _ => by decide, fun _ => Or.inl z⟩
        · rw [if_neg z]
          exact ⟨fun w => by rcases w with w | w; exact absurd w z; exact (o4 j hj).mp w, fun w => Or.inr ((o4 j hj).mpr w)⟩
    · exact absurd a a2
  · subst T
    rcases h2 with ⟨a2, -⟩ | ⟨a2, b2, T2⟩
    · exact absurd a2 a
    · subst T2
      exact ⟨⟨hq, ⟨o1, o2, o3, o4⟩⟩, by rw [b, b2]⟩
end OPR
end
section
/-! READ AND RESTORE OF BOTH, exactly as far as told, slots, place, flats go -/
section RDR
variable {m : dM} {Q : Int32 → dM → Prop}
def bT (m : dM) (c : Nat) (n : Int) : Nat → Int32 := fun i => if (i : Int) < n then (m.1 c i) &&& 255 else 0
def EC (K : Nat → Int) (V : Nat → Int64) (P : Nat → Nat) (m : dM) (r : Int32) (m' : dM) : Prop :=
  (∀ k : Nat, k = 71 ∨ k = 80 ∨ k = 115 → m'.1 k = m.1 k) ∧ (∀ j : Nat, j = 2 ∨ j = 17 ∨ j = 18 ∨ j = 63 → m'.1 70 j = m.1 70 j) ∧ (m'.1 0 1).toInt = 0 ∧ r.toInt = ((rdR K V).1.1 : Int) ∧ (m'.1 0 2).toInt = (if (rdR K V).1.1 = 0 then -1 else ((P (rdR K V).1.2 : Nat) : Int)) ∧ ((rdR K V).1.1 = 0 → (m'.1 2 0).toInt = ((rdR K V).2.1.length : Int) ∧ m'.1 51 4 = 0 ∧ m'.1 67 3 = 0) ∧ ((rdR K V).1.1 ≠ 0 → m'.1 2 0 = m.1 2 0 ∧ m'.1 51 4 = m.1 51 4 ∧ m'.1 67 3 = m.1 67 3)
def ER (K : Nat → Int) (V : Nat → Int64) (P : Nat → Nat) (m : dM) (r : Int32) (m' : dM) : Prop :=
  (m'.1 0 1 = m.1 0 1 ∧ m'.1 0 2 = m.1 0 2 ∧ m'.1 2 0 = m.1 2 0 ∧ m'.1 51 4 = m.1 51 4 ∧ m'.1 67 3 = m.1 67 3) ∧ (m'.1 70 2).toInt = 0 ∧ r.toInt = ((rdR K V).1.1 : Int) ∧ (m'.1 70 17).toInt = (if (rdR K V).1.1 = 0 then -1 else ((P (rdR K V).1.2 : Nat) : Int)) ∧ ((rdR K V).1.1 = 0 → (m'.1 80 (m'.1 70 18).toNatClampNeg).toInt = ((rdR K V).2.1.length : Int) ∧ m'.1 70 63 = 0 ∧ ∀ j : Nat, j < 3 → m'.1 115 j = 0) ∧ ((rdR K V).1.1 ≠ 0 → m'.1 80 (m'.1 70 18).toNatClampNeg = m.1 80 (m.1 70 18).toNatClampNeg ∧ m'.1 70 63 = m.1 70 63 ∧ m'.1 115 = m.1 115)
def E11r (m : dM) (r : Int32) (m' : dM) : Prop := EC (tK (bT m 1 (m.1 0 1).toInt) (m.1 0 1).toInt.toNat) (tV (bT m 1 (m.1 0 1).toInt) (m.1 0 1).toInt.toNat) (tP (bT m 1 (m.1 0 1).toInt) (m.1 0 1).toInt.toNat) m r m'
def E12r (m : dM) (r : Int32) (m' : dM) : Prop := ER (tK (bT m 71 (m.1 70 2).toInt) (m.1 70 2).toInt.toNat) (tV (bT m 71 (m.1 70 2).toInt) (m.1 70 2).toInt.toNat) (tP (bT m 71 (m.1 70 2).toInt) (m.1 70 2).toInt.toNat) m r m'
theorem z_X11_read (hO : Ok m) (hQ : ∀ (r : Int32) (m' : dM), Ok m' ∧ E11r m r m' → Q r m') : c_X11_read_0 70 m Q := by
  have b := hO.s (k := 0) (j := 1) rfl
  have hn : (m.1 0 1).toInt = ((m.1 0 1).toInt.toNat : Int) := by omega
  have hL : GL m := ⟨hO.w (k := 29) (j := 1) rfl, fun j => hO.w (k := 36) (j := j) rfl⟩
  have x := f_read (B := bT m 1 (m.1 0 1).toInt) (n := (m.1 0 1).toInt.toNat) (Q := fun r m' => RD (bT m 1 (m.1 0 1).toInt) (m.1 0 1).toInt.toNat r m m') hL hn (by omega) (fun i => by
    unfold bT
    by_cases q : (i : Int) < (m.1 0 1).toInt
    · rw [if_pos q, if_pos (by omega)]
    · rw [if_neg q, if_neg (by omega)]) (fun r m' h => h)
  have y := m_X11_read (Q := fun _ m' => Ok m') hO (fun r m' O a b => O)
  refine (y.and x).mono (fun v m1 h => ?_)
  obtain ⟨⟨r, er, O1⟩, m2, sm, r2, er2, D⟩ := h
  have e : r = r2 := by rw [er] at er2; cases er2; rfl
  obtain ⟨d1, d2, d3, d4, d5, d6⟩ := D
  have s01 : m1.1 0 1 = m2.1 0 1 := sm.fld (a := 11) rfl
  have s02 : m1.1 0 2 = m2.1 0 2 := sm.fld (a := 11) rfl
  have s20 : m1.1 2 0 = m2.1 2 0 := sm.fld (a := 3) rfl
  have s51 : m1.1 51 4 = m2.1 51 4 := sm.fld (a := 6) rfl
  have s67 : m1.1 67 3 = m2.1 67 3 := sm.fld (a := 9) rfl
  refine ⟨r, er, hQ r m1 ⟨O1, fun k hk => ?_, fun j hj => ?_, ?_, ?_, ?_, ?_, ?_⟩⟩
  · rcases hk with rfl | rfl | rfl
    · rw [sm.row (k := 71) rfl]; exact d1 71 (by decide)
    · rw [sm.row (k := 80) rfl]; exact d1 80 (by decide)
    · rw [sm.row (k := 115) rfl]; exact d1 115 (by decide)
  · have d70 := d1 70 (by decide)
    rcases hj with rfl | rfl | rfl | rfl
    · rw [sm.fld (k := 70) (a := 12) (j := 2) rfl, d70]
    · rw [sm.fld (k := 70) (a := 12) (j := 17) rfl, d70]
    · rw [sm.fld (k := 70) (a := 12) (j := 18) rfl, d70]
    · rw [sm.fld (k := 70) (a := 12) (j := 63) rfl, d70]
  · rw [s01, d2]; decide
  · rw [e]; exact d3
  · rw [s02]; exact d4
  · rw [s20, s51, s67]; exact d5
  · rw [s20, s51, s67]; exact d6
theorem z_X12_read (hO : Ok m) (hQ : ∀ (r : Int32) (m' : dM), Ok m' ∧ E12r m r m' → Q r m') : c_X12_read_70 9 m Q := by
  have b := hO.s (k := 70) (j := 2) rfl
  have b18 := hO.s (k := 70) (j := 18) rfl
  have hn : (m.1 70 2).toInt = ((m.1 70 2).toInt.toNat : Int) := by omega
  obtain ⟨L, s, hL, hL0⟩ : ∃ L s : Nat, L + s = 1 ∧ (m.1 70 18).toInt = (L : Int) := ⟨(m.1 70 18).toInt.toNat, 1 - (m.1 70 18).toInt.toNat, by omega, by omega⟩
  have x := e_read (B := bT m 71 (m.1 70 2).toInt) (n := (m.1 70 2).toInt.toNat) (Q := fun r m' => RE (tK (bT m 71 (m.1 70 2).toInt) (m.1 70 2).toInt.toNat) (tV (bT m 71 (m.1 70 2).toInt) (m.1 70 2).toInt.toNat) (tP (bT m 71 (m.1 70 2).toInt) (m.1 70 2).toInt.toNat) L s r m m') hL hL0 hn (by omega) (fun i => by
    unfold bT
    by_cases q : (i : Int) < (m.1 70 2).toInt
    · rw [if_pos q, if_pos (by omega)]
    · rw [if_neg q, if_neg (by omega)]) (fun r m' h => h)
  have y := m_X12_read (Q := fun _ m' => Ok m') hO (fun r m' O a b => O)
  refine (y.and x).mono (fun v m1 h => ?_)
  obtain ⟨⟨r, er, O1⟩, m2, sm, r2, er2, D⟩ := h
  have e : r = r2 := by rw [er] at er2; cases er2; rfl
  obtain ⟨d1, d2, d3, d4, d5, d6⟩ := D
  have s2 : m1.1 70 2 = m2.1 70 2 := sm.fld (a := 12) rfl
  have s17 : m1.1 70 17 = m2.1 70 17 := sm.fld (a := 12) rfl
  have s18 : m1.1 70 18 = m2.1 70 18 := sm.fld (a := 12) rfl
  have s63 : m1.1 70 63 = m2.1 70 63 := sm.fld (a := 12) rfl
  have s80 : m1.1 80 = m2.1 80 := sm.row (k := 80) rfl
  have s115 : m1.1 115 = m2.1 115 := sm.row (k := 115) rfl
  refine ⟨r, er, hQ r m1 ⟨O1, ⟨?_, ?_, ?_, ?_, ?_⟩, ?_, ?_, ?_, fun z => ?_, fun z => ?_⟩⟩
  · rw [sm.fld (k := 0) (a := 11) (j := 1) rfl, d1 0 (by decide)]
  · rw [sm.fld (k := 0) (a := 11) (j := 2) rfl, d1 0 (by decide)]
  · rw [sm.fld (k := 2) (a := 3) (j := 0) rfl, d1 2 (by decide)]
  · rw [sm.fld (k := 51) (a := 6) (j := 4) rfl, d1 51 (by decide)]
  · rw [sm.fld (k := 67) (a := 9) (j := 3) rfl, d1 67 (by decide)]
  · rw [s2, d2]; decide
  · rw [e]; exact d3
  · rw [s17]; exact d4
  · obtain ⟨a1, a2, a3, a4⟩ := d5 z
    rw [s18, s80, s63, s115, d_cn a1]
    exact ⟨a2, a3, a4⟩
  · obtain ⟨a1, a2, a3, a4⟩ := d6 z
    rw [s18, s80, s63, s115, a1, d_cn hL0]
    exact ⟨a2, a3, a4⟩
theorem j_read {m1 m2 : dM} {r1 r2 : Int32} (hT : Rq m) (h1 : E11r m r1 m1) (h2 : E12r m1 r2 m2) : Rq m2 ∧ r1 = r2 := by
  obtain ⟨⟨e, hb'⟩, ⟨o1, o2, o3, o4⟩⟩ := hT
  unfold E11r at h1
  unfold E12r at h2
  have a2 : m1.1 70 2 = m.1 70 2 := h1.2.1 2 (by decide)
  have eB : bT m1 71 (m1.1 70 2).toInt = bT m 1 (m.1 0 1).toInt := by
    funext i
    unfold bT
    rw [a2, h1.1 71 (by decide), ← e]
    by_cases q : (i : Int) < (m.1 0 1).toInt
    · rw [if_pos q, if_pos q]; exact (hb' i q).symm
    · rw [if_neg q, if_neg q]
  rw [eB, a2, ← e] at h2
  generalize tK (bT m 1 (m.1 0 1).toInt) (m.1 0 1).toInt.toNat = K at h1 h2
  generalize tV (bT m 1 (m.1 0 1).toInt) (m.1 0 1).toInt.toNat = V at h1 h2
  generalize tP (bT m 1 (m.1 0 1).toInt) (m.1 0 1).toInt.toNat = P at h1 h2
  obtain ⟨a1, a70, a3, a4, a5, a6, a7⟩ := h1
  obtain ⟨⟨c1, c2, c3, c4, c5⟩, c6, c7, c8, c9, c10⟩ := h2
  refine ⟨⟨⟨by rw [c1, a3, c6], fun i hi => by rw [c1, a3] at hi; exfalso; omega⟩, ?_, ?_, ?_, ?_⟩, Int32.toInt_inj.mp (by rw [a4, c7])⟩
  · rw [c2, a5, c8]
  · rw [c5]
    by_cases z : (rdR K V).1.1 = 0
    · rw [(a6 z).2.2, (c9 z).2.1]
    · rw [(a7 z).2.2, (c10 z).2.1, a70 63 (by decide)]; exact o2
  · rw [c3]
    by_cases z : (rdR K V).1.1 = 0
    · rw [(a6 z).1, (c9 z).1]
    · rw [(a7 z).1, (c10 z).1, a1 80 (by decide), a70 18 (by decide)]; exact o3
  · intro i hi
    rw [c4]
    by_cases z : (rdR K V).1.1 = 0
    · rw [(a6 z).2.1, (c9 z).2.2 i hi]
      have : i = 0 ∨ i = 1 ∨ i = 2 := by omega
      refine ⟨fun w => ?_, fun w => absurd rfl w⟩
      exfalso
      unfold hb at w
      rcases this with rfl | rfl | rfl <;> exact w (by decide)
    · rw [(a7 z).2.1, (c10 z).2.2, a1 115 (by decide)]; exact o4 i hi
/-- restore -/
def E11s (x1 : Int32) (m : dM) (r : Int32) (m' : dM) : Prop := Kp m m' ∧ (((0 ≤ x1.toInt ∧ x1.toInt ≤ 2 ∧ hb (m.1 51 4) x1.toNatClampNeg) ∧ r = 1) ∨ (¬ (0 ≤ x1.toInt ∧ x1.toInt ≤ 2 ∧ hb (m.1 51 4) x1.toNatClampNeg) ∧ r = 0))
def E12s (x1 : Int32) (m : dM) (r : Int32) (m' : dM) : Prop := Kp m m' ∧ (((0 ≤ x1.toInt ∧ x1.toInt ≤ 2 ∧ (m.1 115 x1.toNatClampNeg).toInt ≠ 0) ∧ r = 1) ∨ (¬ (0 ≤ x1.toInt ∧ x1.toInt ≤ 2 ∧ (m.1 115 x1.toNatClampNeg).toInt ≠ 0) ∧ r = 0))
theorem z_X11_restore {x1 : Int32} (hO : Ok m) (hQ : ∀ (r : Int32) (m' : dM), Ok m' ∧ E11s x1 m r m' → Q r m') : c_X11_restore_0 3 x1 m Q := by
  have e3 : (3 : Int32).toInt = 3 := by decide
  have no : ¬ (0 ≤ x1.toInt ∧ x1.toInt ≤ 2 ∧ hb (m.1 51 4) x1.toNatClampNeg) → j_X6_fetch_51_47_20 2 m (fun r1 m1 => (r1 = 0 ∨ r1 = 1) ∧ Q r1 m1) := fun q => v_X6_fetch_51_47_20 ⟨Or.inl rfl, hQ _ _ ⟨hO, Kp.rf m, Or.inr ⟨q, rfl⟩⟩⟩
  refine v_X11_restore_0 (v_X6_fetch_51_47 ⟨fun q => no (by omega), fun q => ⟨fun q2 => no (by omega), fun q2 => ?_⟩⟩)
  obtain ⟨i, hi⟩ : ∃ i : Nat, x1.toInt = (i : Int) := ⟨x1.toInt.toNat, by omega⟩
  have ex : x1 = Int32.ofNat i := by
    apply d_ce
    rw [hi]
    have : i = 0 ∨ i = 1 ∨ i = 2 := by omega
    rcases this with rfl | rfl | rfl <;> decide
  have f := dMulE (X := x1.toInt) (Y := 33) (x := x1) (y := (33 : Int32)) rfl (by decide) (by omega) (by omega)
  have cn : x1.toNatClampNeg = i := d_cn hi
  have hbi : hb (m.1 51 4) x1.toNatClampNeg ↔ (((m.1 51 4).toUInt32 >>> (x1.toUInt32 &&& Int32.toUInt32 31)).toInt32 &&& (1 : Int32)).toInt ≠ 0 := by
    rw [cn, ex]
    exact Iff.rfl
  refine v_X11_has ⟨fun z => ⟨fun w => absurd rfl w, fun _ => no (fun w => hbi.mp w.2.2 z)⟩, fun z => ⟨fun _ => ?_, fun w => absurd w (by decide)⟩⟩
  refine s_X7_readFrom_47_53 hO.1 hO.2 (by omega) (fun m2 I2 => s_X6_clear_51 hO.1 I2 (fun m3 I3 => ⟨Or.inr rfl, hQ _ _ ⟨Ok.of hO.1 I3, Kp.of I3, Or.inl ⟨⟨q, by omega, hbi.mpr z⟩, rfl⟩⟩⟩))
theorem z_X12_restore {x1 : Int32} (hO : Ok m) (hQ : ∀ (r : Int32) (m' : dM), Ok m' ∧ E12s x1 m r m' → Q r m') : c_X12_restore_70 2 x1 m Q := by
  have e0 : (0 : Int32).toInt = 0 := by decide
  have e2 : (2 : Int32).toInt = 2 := by decide
  have x : c_X12_restore_70 2 x1 m (fun r _ => ((0 ≤ x1.toInt ∧ x1.toInt ≤ 2 ∧ (m.1 115 x1.toNatClampNeg).toInt ≠ 0) ∧ r = 1) ∨ (¬ (0 ≤ x1.toInt ∧ x1.toInt ≤ 2 ∧ (m.1 115 x1.toNatClampNeg).toInt ≠ 0) ∧ r = 0)) := by
    have no : ¬ (0 ≤ x1.toInt ∧ x1.toInt ≤ 2 ∧ (m.1 115 x1.toNatClampNeg).toInt ≠ 0) → j_X12_restore_70_18 2 m (fun r _ => ((0 ≤ x1.toInt ∧ x1.toInt ≤ 2 ∧ (m.1 115 x1.toNatClampNeg).toInt ≠ 0) ∧ r = 1) ∨ (¬ (0 ≤ x1.toInt ∧ x1.toInt ≤ 2 ∧ (m.1 115 x1.toNatClampNeg).toInt ≠ 0) ∧ r = 0)) := fun q => v_X12_restore_70_18 (Or.inr ⟨q, rfl⟩)
    have loop : (0 ≤ x1.toInt ∧ x1.toInt ≤ 2 ∧ (m.1 115 x1.toNatClampNeg).toInt ≠ 0) → ∀ (f i : Nat) (x2 : Int32) (M : dM), i + f = 58 → x2.toInt = (i : Int) → j_X12_restore_70_22 2 x1 x2 M (fun r _ => ((0 ≤ x1.toInt ∧ x1.toInt ≤ 2 ∧ (m.1 115 x1.toNatClampNeg).toInt ≠ 0) ∧ r = 1) ∨ (¬ (0 ≤ x1.toInt ∧ x1.toInt ≤ 2 ∧ (m.1 115 x1.toNatClampNeg).toInt ≠ 0) ∧ r = 0)) := by
      intro hq f
      induction f with
      | zero => intro i x2 M hi h2; exact v_X12_restore_70_22 ⟨fun _ => Or.inl ⟨hq, rfl⟩, fun q => by exfalso; omega⟩
      | succ f ih =>
        intro i x2 M hi h2
        have fm := dMulE (X := 58) (Y := x1.toInt) (x := (58 : Int32)) (y := x1) (by decide) rfl (by omega) (by omega)
        have fa := dAddE (X := 58 * x1.toInt) (Y := (i : Int)) (x := (58 : Int32) * x1) (y := x2) fm h2 (by omega) (by omega)
        exact v_X12_restore_70_22 ⟨fun q => by exfalso; omega, fun _ => ⟨by omega, by omega, ih (i + 1) _ _ (by omega) (d_inc h2 (by omega))⟩⟩
    refine v_X12_restore_70 (v_X12_in ⟨fun q => v_X12_in_14 ⟨fun _ => no (by omega), fun w => absurd rfl w⟩, fun q => ⟨fun q2 => v_X12_in_14 ⟨fun _ => no (by omega), fun w => absurd rfl w⟩, fun q2 => ⟨fun w => absurd w (by decide), fun _ => ⟨by omega, fun z => loop ⟨by omega, by omega, z⟩ 58 0 _ m rfl (by decide), fun z => no (fun w => w.2.2 z)⟩⟩⟩⟩)
  have y := s_X12_restore_70 (x1 := x1) (Q := fun _ m' => Inv m.1 m') hO.1 hO.2 (fun r m' I _ => I)
  refine (y.and x).mono (fun v m1 h => ?_)
  obtain ⟨⟨r, er, I⟩, m2, sm, r2, er2, D⟩ := h
  have e : r = r2 := by rw [er] at er2; cases er2; rfl
  refine ⟨r, er, hQ r m1 ⟨Ok.of hO.1 I, Kp.of I, ?_⟩⟩
  rw [e]; exact D
theorem j_restore {x1 : Int32} {m1 m2 : dM} {r1 r2 : Int32} (hT : Rq m) (h1 : E11s x1 m r1 m1) (h2 : E12s x1 m1 r2 m2) : Rq m2 ∧ r1 = r2 := by
  refine ⟨(hT.kp h1.1).kp h2.1, ?_⟩
  obtain ⟨k1, h1⟩ := h1
  obtain ⟨k2, h2⟩ := h2
  have o4 := hT.2.2.2.2
  rw [k1 115 _ rfl] at h2
  by_cases q : 0 ≤ x1.toInt ∧ x1.toInt ≤ 2
  · have cl : x1.toNatClampNeg < 3 := by
      have := d_cl (x := x1) q.1
      omega
    have o := o4 _ cl
    rcases h1 with ⟨a, b⟩ | ⟨a, b⟩ <;> rcases h2 with ⟨a2, b2⟩ | ⟨a2, b2⟩
    · rw [b, b2]
    · exact absurd ⟨q.1, q.2, o.mp a.2.2⟩ a2
    · exact absurd ⟨q.1, q.2, o.mpr a2.2.2⟩ a
    · rw [b, b2]
  · rcases h1 with ⟨a, b⟩ | ⟨a, b⟩
    · exact absurd ⟨a.1, a.2.1⟩ q
    · rcases h2 with ⟨a2, b2⟩ | ⟨a2, b2⟩
      · exact absurd ⟨a2.1, a2.2.1⟩ q
      · rw [b, b2]
/-- place -/
def E11p (m : dM) (r : Int32) (m' : dM) : Prop := r = m.1 0 2 ∧ m' = m
def E12p (m : dM) (r : Int32) (m' : dM) : Prop := r = m.1 70 17 ∧ m' = m
theorem z_X11_place (hO : Ok m) (hQ : ∀ (r : Int32) (m' : dM), Ok m' ∧ E11p m r m' → Q r m') : c_X11_place_0 1 m Q := v_X11_place_0 (hQ _ _ ⟨hO, rfl, rfl⟩)
theorem z_X12_place (hO : Ok m) (hQ : ∀ (r : Int32) (m' : dM), Ok m' ∧ E12p m r m' → Q r m') : c_X12_place_70 1 m Q := v_X12_place_70 (hQ _ _ ⟨hO, rfl, rfl⟩)
theorem j_place {m1 m2 : dM} {r1 r2 : Int32} (hT : Rq m) (h1 : E11p m r1 m1) (h2 : E12p m1 r2 m2) : Rq m2 ∧ r1 = r2 := by
  obtain ⟨a, rfl⟩ := h1
  obtain ⟨b, rfl⟩ := h2
  exact ⟨hT, by rw [a, b]; exact Int32.toInt_inj.mp hT.2.1⟩
end RDR
end
section
/-! BOTH ALIKE BEHIND THE STARTS -/
theorem z_rq {ad : List Nat} {σ : Nat → Int} {tys : List (ClassId × FieldType)} {ws : va_W} (hs : σ 0 = 0) (h : eAll (eCk ad σ tys) hFresh ws) : Rq (zM ws) := by
  have a1 : ((zM ws).1 0 1).toInt = 0 := z_val hs h (by decide +kernel)
  have a2 : ((zM ws).1 70 2).toInt = 0 := z_val hs h (by decide +kernel)
  have b1 : ((zM ws).1 0 2).toInt = -1 := z_val hs h (by decide +kernel)
  have b2 : ((zM ws).1 70 17).toInt = -1 := z_val hs h (by decide +kernel)
  have c1 : ((zM ws).1 67 3).toInt = 0 := z_val hs h (by decide +kernel)
  have c2 : ((zM ws).1 70 63).toInt = 0 := z_val hs h (by decide +kernel)
  have d1 : ((zM ws).1 2 0).toInt = 0 := z_val hs h (by decide +kernel)
  have d2 : ((zM ws).1 70 18).toInt = ((0 : Nat) : Int) := z_val hs h (by decide +kernel)
  have d3 : ((zM ws).1 80 0).toInt = 0 := z_val hs h (by decide +kernel)
  have e1 : ((zM ws).1 51 4).toInt = 0 := z_val hs h (by decide +kernel)
  have e2 : (zM ws).1 51 4 = 0 := d_ce e1
  refine ⟨⟨by rw [a1, a2], fun i hi => by rw [a1] at hi; exfalso; omega⟩, by rw [b1, b2], by rw [c1, c2], by rw [d_cn d2, d1, d3], fun i hi => ?_⟩
  have f : ((zM ws).1 115 i).toInt = 0 := by
    have : i = 0 ∨ i = 1 ∨ i = 2 := by omega
    rcases this with rfl | rfl | rfl <;> exact z_val hs h (by decide +kernel)
  rw [f, e2]
  refine ⟨fun w => ?_, fun w => absurd rfl w⟩
  exfalso
  unfold hb at w
  have : i = 0 ∨ i = 1 ∨ i = 2 := by omega
  rcases this with rfl | rfl | rfl <;> exact w (by decide)
end
section
/-! BITS of ints, as the sets of both -/
def bt (x : Int32) (i : Nat) : Bool := x.toBitVec.getLsbD i
/-- one bit alone -/
def b1 (u : Nat) : Int32 := (1 : Int32) <<< (Int32.ofNat u &&& 31)
/-- the set of those below n -/
def bs (p : Nat → Bool) : Nat → Int32
  | 0 => 0
  | n + 1 => cond (p n) (bs p n ||| b1 n) (bs p n)
section BIT
variable {x y : Int32} {i u n : Nat}
theorem bt_or : bt (x ||| y) i = (bt x i || bt y i) := by unfold bt; rw [Int32.toBitVec_or, BitVec.getLsbD_or]
theorem bt_and : bt (x &&& y) i = (bt x i && bt y i) := by unfold bt; rw [Int32.toBitVec_and, BitVec.getLsbD_and]
theorem bt_xor : bt (x ^^^ y) i = (bt x i ^^ bt y i) := by unfold bt; rw [Int32.toBitVec_xor, BitVec.getLsbD_xor]
theorem bt_not (h : i < 32) : bt (~~~x) i = !bt x i := by unfold bt; rw [Int32.toBitVec_not, BitVec.getLsbD_not]; simp [h]
theorem bt_0 : bt 0 i = false := by
  unfold bt
  rw [show (0 : Int32).toBitVec = 0#32 from rfl, BitVec.getLsbD_zero]
theorem bt_big (h : 32 ≤ i) : bt x i = false := BitVec.getLsbD_of_ge _ _ h
theorem bt_ext (h : ∀ i : Nat, i < 32 → bt x i = bt y i) : x = y := Int32.toBitVec_inj.mp (BitVec.eq_of_getLsbD_eq (fun i hi => h i hi))
theorem bt_z (h : ∀ i : Nat, i < 32 → bt x i = false) : x = 0 := bt_ext (fun i hi => by rw [h i hi, bt_0])
theorem i32_nat {a : Int32} {k : Nat} (h : a.toInt = (k : Int)) : a = Int32.ofNat k := by
  apply Int32.toInt_inj.mp
  rw [h]
  have h1 := Int32.toInt_lt a
  rw [Int32.toInt_ofNat_of_lt (by omega)]
theorem b1_of {a : Int32} {k : Nat} (h : a.toInt = (k : Int)) : (1 : Int32) <<< (a &&& 31) = b1 k := by
  rw [i32_nat h]
  rfl
theorem b1_bv (h : u < 32) : (b1 u).toBitVec = (1#32 : BitVec 32) <<< u := by
  match u, h with
  | 0, _ | 1, _ | 2, _ | 3, _ | 4, _ | 5, _ | 6, _ | 7, _ | 8, _ | 9, _ | 10, _ | 11, _ | 12, _ | 13, _ | 14, _ | 15, _ | 16, _ | 17, _ | 18, _ | 19, _ | 20, _ | 21, _ | 22, _ | 23, _ | 24, _ | 25, _ | 26, _ | 27, _ | 28, _ | 29, _ | 30, _ | 31, _ => decide
  | u + 32, h => omega
theorem bt_1 (h : u < 32) : bt (b1 u) i = decide (i = u) := by
  unfold bt
  rw [b1_bv h]
  rw [← BitVec.twoPow_eq, BitVec.getLsbD_twoPow]
  by_cases e : i = u
  · subst e; simp [h]
  · have e' : ¬ u = i := fun q => e q.symm
    simp [e, e']
theorem bt_bs {p : Nat → Bool} : ∀ (n : Nat), n ≤ 32 → bt (bs p n) i = (decide (i < n) && p i)
  | 0, _ => by show bt 0 i = _; rw [bt_0]; simp
  | n + 1, h => by
    have ih := bt_bs (p := p) n (by omega)
    show bt (cond (p n) (bs p n ||| b1 n) (bs p n)) i = _
    by_cases e : i = n
    · subst e
      cases hp : p i with
      | true => rw [cond_true, bt_or, bt_1 (by omega)]; simp
      | false => rw [cond_false, ih]; simp
    · have e2 : decide (i < n + 1) = decide (i < n) := by
        by_cases q : i < n
        · simp [q, show i < n + 1 by omega]
        · simp [q, show ¬ i < n + 1 by omega]
      rw [e2]
      cases hp : p n with
      | true => rw [cond_true, bt_or, ih, bt_1 (by omega)]; simp [e]
      | false => rw [cond_false, ih]
theorem bs_congr {p q : Nat → Bool} : ∀ (n : Nat), (∀ i : Nat, i < n → p i = q i) → bs p n = bs q n
  | 0, _ => rfl
  | n + 1, h => by
    show cond (p n) (bs p n ||| b1 n) (bs p n) = cond (q n) (bs q n ||| b1 n) (bs q n)
    rw [bs_congr n (fun i hi => h i (by omega)), h n (by omega)]
/-- how the one asks for a bit -/
theorem bt_u {a : Int32} {k : Nat} (h : a.toInt = (k : Int)) (hk : k < 32) : ((x.toUInt32 >>> (a.toUInt32 &&& Int32.toUInt32 31)).toInt32 &&& (1 : Int32)).toInt = if bt x k then 1 else 0 := by
  have l : (x.toUInt32 >>> (a.toUInt32 &&& Int32.toUInt32 31)).toInt32.toBitVec = x.toBitVec >>> k := by
    rw [i32_nat h]
    match k, hk with
    | 0, _ | 1, _ | 2, _ | 3, _ | 4, _ | 5, _ | 6, _ | 7, _ | 8, _ | 9, _ | 10, _ | 11, _ | 12, _ | 13, _ | 14, _ | 15, _ | 16, _ | 17, _ | 18, _ | 19, _ | 20, _ | 21, _ | 22, _ | 23, _ | 24, _ | 25, _ | 26, _ | 27, _ | 28, _ | 29, _ | 30, _ | 31, _ => rfl
    | k + 32, h => omega
  have e : (x.toUInt32 >>> (a.toUInt32 &&& Int32.toUInt32 31)).toInt32 &&& (1 : Int32) = if bt x k then 1 else 0 := by
    apply bt_ext
    intro i hi
    rw [bt_and]
    have h1 : bt (1 : Int32) i = decide (i = 0) := by
      have := bt_1 (u := 0) (i := i) (by decide)
      rw [show b1 0 = (1 : Int32) by decide] at this
      exact this
    rw [h1]
    by_cases q : i = 0
    · subst q
      have : bt ((x.toUInt32 >>> (a.toUInt32 &&& Int32.toUInt32 31)).toInt32) 0 = bt x k := by
        unfold bt
        rw [l, BitVec.getLsbD_ushiftRight, Nat.add_zero]
      rw [this]
      cases bt x k with
      | true => rfl
      | false => rfl
    · rw [decide_eq_false q, Bool.and_false]
      cases bt x k with
      | true => rw [if_pos rfl, h1, decide_eq_false q]
      | false => rw [if_neg (by decide), bt_0]
  rw [e]
  cases bt x k with
  | true => rfl
  | false => rfl
theorem bt_s {a : Int32} {k : Nat} (h : a.toInt = (k : Int)) (hk : k < 32) : ((x >>> (a &&& 31)) &&& (1 : Int32)).toInt = if bt x k then 1 else 0 := by
  have l : (x >>> (a &&& 31)).toBitVec = x.toBitVec.sshiftRight k := by
    rw [i32_nat h]
    match k, hk with
    | 0, _ | 1, _ | 2, _ | 3, _ | 4, _ | 5, _ | 6, _ | 7, _ | 8, _ | 9, _ | 10, _ | 11, _ | 12, _ | 13, _ | 14, _ | 15, _ | 16, _ | 17, _ | 18, _ | 19, _ | 20, _ | 21, _ | 22, _ | 23, _ | 24, _ | 25, _ | 26, _ | 27, _ | 28, _ | 29, _ | 30, _ | 31, _ => rfl
    | k + 32, h => omega
  have e : (x >>> (a &&& 31)) &&& (1 : Int32) = if bt x k then 1 else 0 := by
    apply bt_ext
    intro i hi
    rw [bt_and]
    have h1 : bt (1 : Int32) i = decide (i = 0) := by
      have := bt_1 (u := 0) (i := i) (by decide)
      rw [show b1 0 = (1 : Int32) by decide] at this
      exact this
    rw [h1]
    by_cases q : i = 0
    · subst q
      have : bt (x >>> (a &&& 31)) 0 = bt x k := by
        unfold bt
        rw [l, BitVec.getLsbD_sshiftRight, Nat.add_zero, if_pos hk]
        simp
      rw [this]
      cases bt x k with
      | true => rfl
      | false => rfl
    · rw [decide_eq_false q, Bool.and_false]
      cases bt x k with
      | true => rw [if_pos rfl, h1, decide_eq_false q]
      | false => rw [if_neg (by decide), bt_0]
  rw [e]
  cases bt x k with
  | true => rfl
  | false => rfl
end BIT
end
