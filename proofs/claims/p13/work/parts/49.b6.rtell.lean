section
/-! THE REFERENCE's tells, 2: a wire -/
section RWV
variable {K : Nat → Int} {V : Nat → Int64} {P : Nat → Nat} {m0 m : dM} {L s cf cw cu n : Nat} {W : gR} {st : mSt} {Ds : Nat → lD}
theorem x_wire {Q : dM → Prop} (hL : L + s = 1) (hsd : (m0.1 70 19).toInt = (s : Int)) (hv : ∀ i, vk (K i)) (hP : ∀ i j : Nat, i < j → lvK K j → P i < P j) (hS : ST K P m (0, n + 1) W) (hR : RM K V P m) (hF : FXv m0 L m) (hC : CT s cf cw cu m) (h9 : cw ≤ 9) (hQ : LQ s m) (hW : W.1 ≠ 0 → W.2 < n) (hN : W.1 = 0 → NH V s st m ∧ st.1.length = cf ∧ st.2.1.length = cw ∧ st.2.2.1.length = cu) (hD : LDs m s Ds)
    (hB : (gsq K [22, 22, 23, 59] (n + 1)).1 ≠ 0 → ∀ (m' : dM) (W' : gR), ST K P m' (gsq K [22, 22, 23, 59] (n + 1)) W' → FXv m0 L m' → Q m')
    (hG : (gsq K [22, 22, 23, 59] (n + 1)).1 = 0 → ∀ (m' : dM) (W' : gR) (st' : mSt), TIv K V P m0 L s cf (cw + 1) cu (n + 5) W' st' Ds m' → WM (mWire V n st) W W' st' → Q m') : c_X12_tellWire_70 6 m Q := by
  have hs : s ≤ 1 := by omega
  have hC5 := hC.2.2.2.2
  have sd := hF.sd hsd
  have fm := dMulE (X := 10) (Y := (s : Int)) (x := (10 : Int32)) (y := m.1 70 19) (by decide) sd.1 (by omega) (by omega)
  have fx := dAddE (X := 10 * (s : Int)) (Y := (cw : Int)) (x := (10 : Int32) * m.1 70 19) (y := m.1 82 s) fm hC.2.1 (by omega) (by omega)
  have gG : gsq K [22, 22, 23, 59] (n + 1) = rb (rb (rb (gnd K 22 (n + 1)) (gnd K 22)) (gnd K 23)) (gnd K 59) := by
    have : gsq K [22, 22, 23, 59] (n + 1) = rb (gnd K 22 (n + 1)) (gsq K [22, 23, 59]) := rfl
    rw [this, gsq_r, gsq_r, gsq_r, rb_id]
  rw [gG] at hB hG
  refine v_X12_tellWire_70 ⟨by omega, ?_⟩
  rw [sd.2]
  generalize hX : (10 : Int32) * m.1 70 19 + m.1 82 s = X at fx ⊢
  have eX : X.toNatClampNeg = 10 * s + cw := by
    have := d_cl (x := X) (by omega)
    omega
  have e0 : (m.1 70 11).toInt = ((n + 1 : Nat) : Int) := (hS.1 rfl).2.1
  have w72 : ∀ (mm : dM) (r1 r2 : Int32) (W3 : gR), Cx m mm → ST K P mm (rb (gnd K 22 (n + 1)) (gnd K 22)) W3 → ((rb (gnd K 22 (n + 1)) (gnd K 22)).1 = 0 → (W.1 ≠ 0 → W3 = W) ∧ (W.1 = 0 → (W3.1 = 0 ∧ ∃ a b : Nat, fF V st (V (n + 1)) = some a ∧ fF V st (V (n + 2)) = some b ∧ r1.toInt = (a : Int) ∧ r2.toInt = (b : Int) ∧ ¬ (a = b ∨ wx (wE st) a b st.2.1.length 0 = true)) ∨ (W3.1 ≠ 0 ∧ W3 = (mWire V n st).1 ∧ W3.2 ≤ n + 2))) → j_X12_tellWire_70_72 6 X r1 r2 mm Q := by
    intro mm r1 r2 W3 cm h3 hw
    have Fm := hF.cx cm
    have Cm := hC.cx cm
    refine v_X12_tellWire_70_72 ⟨by omega, ⟨by omega, ?_⟩⟩
    rw [eX]
    have F1 : FXv m0 L (dSet (dSet mm 83 (10 * s + cw) r1) 84 (10 * s + cw) r2) := (Fm.set (by decide) (by decide) (by unfold lvS; omega)).set (by decide) (by decide) (by unfold lvS; omega)
    have S1 : ST K P (dSet (dSet mm 83 (10 * s + cw) r1) 84 (10 * s + cw) r2) (rb (gnd K 22 (n + 1)) (gnd K 22)) W3 := (h3.k (by decide)).k (by decide)
    have kM : ∀ k : Nat, k ≠ 83 → k ≠ 84 → (dSet (dSet mm 83 (10 * s + cw) r1) 84 (10 * s + cw) r2).1 k = mm.1 k := fun k h1 h2 => by rw [dSet_k h2, dSet_k h1]
    have m83 : ∀ j : Nat, (dSet (dSet mm 83 (10 * s + cw) r1) 84 (10 * s + cw) r2).1 83 j = if j = 10 * s + cw then r1 else mm.1 83 j := fun j => by
      rw [dSet_k (by decide), dSet_e]
      by_cases q : j = 10 * s + cw
      · rw [if_pos ⟨rfl, q⟩, if_pos q]
      · rw [if_neg (fun z => q z.2), if_neg q]
    have m84 : ∀ j : Nat, (dSet (dSet mm 83 (10 * s + cw) r1) 84 (10 * s + cw) r2).1 84 j = if j = 10 * s + cw then r2 else mm.1 84 j := fun j => by
      rw [dSet_e]
      by_cases q : j = 10 * s + cw
      · rw [if_pos ⟨rfl, q⟩, if_pos q]
      · rw [if_neg (fun z => q z.2), if_neg q, dSet_k (by decide)]
    have lM : (dSet (dSet mm 83 (10 * s + cw) r1) 84 (10 * s + cw) r2).2 = mm.2 := rfl
    generalize dSet (dSet mm 83 (10 * s + cw) r1) 84 (10 * s + cw) r2 = M at F1 S1 kM m83 m84 lM ⊢
    have R1 : RM K V P M := (hR.cx cm).of (fun k a b => kM k (by omega) (by omega)) (by rw [lM])
    have hW3 : (rb (gnd K 22 (n + 1)) (gnd K 22)).1 = 0 → W3.1 ≠ 0 → W3.2 < n + 3 := fun z w => by
      have hh := hw z
      by_cases w0 : W.1 = 0
      · rcases hh.2 w0 with q | q
        · exact absurd q.1 w
        · omega
      · rw [hh.1 w0]; have := hW w0; omega
    refine Wp.deep (q_bounded hv hP R1 S1 (fun z w => by rw [(gnd2_z z).2.2.1]; exact hW3 z w) (fun v4 m4 W4 c4 h4 hw4 => ⟨by omega, ?_⟩)) (Nat.le_of_ble_eq_true rfl)
    have S4 : ST K P (dSet m4 85 (10 * s + cw) v4) (rb (rb (gnd K 22 (n + 1)) (gnd K 22)) (gnd K 23)) W4 := h4.k (by decide)
    have R4 : RM K V P (dSet m4 85 (10 * s + cw) v4) := (R1.cx c4).of (fun k a b => dSet_k (by omega)) rfl
    have F4 : FXv m0 L (dSet m4 85 (10 * s + cw) v4) := (F1.cx c4).set (by decide) (by decide) (by unfold lvS; omega)
    refine Wp.deep (q_must (k := 59) hv R4 S4 (by decide) (by unfold vk; omega) (by decide) (fun m5 c5 h5 => ?_)) (Nat.le_of_ble_eq_true rfl)
    have f5 := h5.fl
    have F5 := F4.cx c5
    have sd5 := F5.sd hsd
    refine ⟨fun q => v_X12_tellWire_70_125 (hB (fun z => q (f5.2.mpr z)) m5 W4 h5 F5), fun q => ⟨by omega, ⟨by omega, v_X12_tellWire_70_125 ?_⟩⟩⟩
    rw [sd5.2]
    have z5 := f5.2.mp q
    have z4 := (rb_z z5).1
    have z3 := (rb_z z4).1
    obtain ⟨g1, g2, g3, g4, g5⟩ := gnd2_z z3
    have gg4 : rb (rb (gnd K 22 (n + 1)) (gnd K 22)) (gnd K 23) = (0, n + 4) ∧ K (n + 3) = 23 := by
      have z := z4
      rw [g3, rb_0] at z ⊢
      have := gnd_0 z
      exact ⟨this.1, this.2.1⟩
    have gg5 : rb (rb (rb (gnd K 22 (n + 1)) (gnd K 22)) (gnd K 23)) (gnd K 59) = (0, n + 5) := by
      have z := z5
      rw [gg4.1, rb_0] at z ⊢
      exact (gnd_0 z).1
    have hw4' := hw4 z4
    rw [g3] at hw4'
    have hw3' := hw z3
    have kk : ∀ k : Nat, k ≠ 70 → k ≠ 83 → k ≠ 84 → k ≠ 85 → m5.1 k = m.1 k := fun k a b c d => by rw [c5.1 k a, dSet_k d, c4.1 k a, kM k b c, cm.1 k a]
    have k834 : ∀ k : Nat, k = 83 ∨ k = 84 → m5.1 k = M.1 k := fun k e => by rw [c5.1 k (by omega), dSet_k (by omega), c4.1 k (by omega)]
    have jj : ∀ j : Nat, j ≠ 11 → j ≠ 13 → j ≠ 14 → j ≠ 15 → j ≠ 16 → m5.1 70 j = m.1 70 j := fun j a b c d e => by rw [c5.2.1 j a b c d e, dSet_k (by decide), c4.2.1 j a b c d e, kM 70 (by decide) (by decide), cm.2.1 j a b c d e]
    have ll : m5.2 = m.2 := by rw [c5.2.2]; show m4.2 = m.2; rw [c4.2.2, lM, cm.2.2]
    rw [gg5] at h5
    have tt5 : tt m5 = ((n + 5 : Nat) : Int) := (h5.1 rfl).2.1
    have tt0 : tt m = ((n + 1 : Nat) : Int) := e0
    have e82 : (m5.1 82 s).toInt = (cw : Int) := by rw [kk 82 (by decide) (by decide) (by decide) (by decide)]; exact hC.2.1
    have R5 : RM K V P (dSet m5 82 s (m5.1 82 s + 1)) := (R4.cx c5).of (fun k a b => dSet_k (by omega)) rfl
    have C5 : CT s cf (cw + 1) cu (dSet m5 82 s (m5.1 82 s + 1)) := by
      refine ⟨?_, by rw [dSet_s]; exact d_inc e82 (by omega), ?_, ?_, by omega, by omega, by omega⟩
      · rw [dSet_k (by decide), kk 80 (by decide) (by decide) (by decide) (by decide)]; exact hC.1
      · rw [dSet_k (by decide), kk 86 (by decide) (by decide) (by decide) (by decide)]; exact hC.2.2.1
      · show (m5.1 70 20).toInt = _
        rw [jj 20 (by decide) (by decide) (by decide) (by decide) (by decide)]; exact hC.2.2.2.1
    have Q5 : LQ s (dSet m5 82 s (m5.1 82 s + 1)) := hQ.j (jj 12 (by decide) (by decide) (by decide) (by decide) (by decide)) (jj 46 (by decide) (by decide) (by decide) (by decide) (by decide)) (jj 40 (by decide) (by decide) (by decide) (by decide) (by decide)) (by show tt m ≤ tt m5; omega)
    have S5 : ST K P (dSet m5 82 s (m5.1 82 s + 1)) (0, n + 5) W4 := h5.k (by decide)
    have F6 : FXv m0 L (dSet m5 82 s (m5.1 82 s + 1)) := F5.set (by decide) (by decide) (by unfold lvS; omega)
    have key : (W4.1 ≠ 0 → W4.2 < n + 5) ∧ ∃ st' : mSt, (W4.1 = 0 → NH V s st' (dSet m5 82 s (m5.1 82 s + 1)) ∧ st'.1.length = cf ∧ st'.2.1.length = cw + 1 ∧ st'.2.2.1.length = cu) ∧ WM (mWire V n st) W W4 st' := by
      unfold WM
      by_cases w0 : W.1 = 0
      · obtain ⟨⟨hN1, hH1⟩, hl1, hl2, hl3⟩ := hN w0
        rcases hw3'.2 w0 with ⟨w3, a, b, ea, eb, ra, rb', nw⟩ | ⟨w3, ew, wl⟩
        · have mw : mWire V n st = bnd V (n + 3) 1 99 ((0, 0), (st.1, st.2.1 ++ [(n, a, b)], st.2.2)) st := by
            unfold mWire
            rw [ea, eb]
            show (if _ then _ else _) = _
            rw [if_neg nw]
          rw [mw]
          unfold bnd
          have e4 := hw4'.2
          by_cases inb : (1 : Int) ≤ iV V (n + 3) ∧ iV V (n + 3) ≤ 99
          · rw [if_pos inb]
            rw [if_pos (show (1 : Int32).toInt ≤ iV V (n + 3) ∧ iV V (n + 3) ≤ (99 : Int32).toInt from inb)] at e4
            rw [e4]
            refine ⟨fun q => absurd w3 q, (st.1, st.2.1 ++ [(n, a, b)], st.2.2), fun _ => ⟨⟨?_, ?_⟩, hl1, ?_, hl3⟩, fun q => absurd w0 q, fun _ => ⟨fun _ => ⟨w3, rfl⟩, fun q => absurd rfl q⟩⟩
            · refine hN1.wire (v1 := r1) (v2 := r2) ra rb' ?_ (fun j => ?_) (fun j => ?_) ?_
              · rw [dSet_k (by decide), kk 79 (by decide) (by decide) (by decide) (by decide)]
              · rw [dSet_k (by decide), k834 83 (Or.inl rfl), m83, hl2, cm.1 83 (by decide)]
              · rw [dSet_k (by decide), k834 84 (Or.inr rfl), m84, hl2, cm.1 84 (by decide)]
              · show m5.2.1 78 = _
                rw [ll]
            · refine hH1.wire (fun j => ?_) (fun k e => ?_)
              · rw [dSet_k (by decide), c5.1 85 (by decide), dSet_e, hl2, hw4'.1, c4.1 85 (by decide), kM 85 (by decide) (by decide), cm.1 85 (by decide)]
                by_cases q : j = 10 * s + cw
                · rw [if_pos ⟨rfl, q⟩, if_pos q]
                · rw [if_neg (fun z => q z.2), if_neg q]
              · rw [dSet_k (by omega), kk k (by omega) (by omega) (by omega) (by omega)]
            · show (st.2.1 ++ [(n, a, b)]).length = cw + 1
              rw [List.length_append, hl2]; rfl
          · rw [if_neg inb]
            rw [if_neg (show ¬ ((1 : Int32).toInt ≤ iV V (n + 3) ∧ iV V (n + 3) ≤ (99 : Int32).toInt) from inb), wadd_z w3] at e4
            rw [e4]
            exact ⟨fun _ => by show n + 3 < n + 5; omega, st, fun q => absurd q (Nat.succ_ne_zero 4), fun q => absurd w0 q, fun _ => ⟨fun q => absurd q (Nat.succ_ne_zero 4), fun _ => rfl⟩⟩
        · have e4 : W4 = W3 := by
            rw [hw4'.2]
            split
            · rfl
            · exact wadd_n w3
          rw [e4]
          exact ⟨fun _ => by omega, st, fun q => absurd q w3, fun q => absurd w0 q, fun _ => ⟨fun q => by rw [ew] at w3; exact absurd q w3, fun _ => ew⟩⟩
      · have e3 := hw3'.1 w0
        have e4 : W4 = W := by
          rw [hw4'.2, e3]
          split
          · rfl
          · exact wadd_n w0
        rw [e4]
        exact ⟨fun q => by have := hW q; omega, st, fun q => absurd q w0, fun _ => rfl, fun q => absurd q w0⟩
    obtain ⟨kw, st', kn, kwn⟩ := key
    exact hG z5 _ W4 st' ⟨S5, R5, F6, C5, Q5, kw, kn, hD.of (fun c h1 h2 => by rw [dSet_k (by omega), kk c (by omega) (by omega) (by omega) (by omega)]) (jj 40 (by decide) (by decide) (by decide) (by decide) (by decide)) (jj 46 (by decide) (by decide) (by decide) (by decide) (by decide))⟩ kwn
  refine Wp.deep (q_knownFlat hv hP hR hS hC.2.2.2.1 (by omega) (fun _ w => by have := hW w; show W.2 < n + 1; omega) (fun r1 m1 W1 c1 h1 hw1 => ?_)) (Nat.le_of_ble_eq_true rfl)
  have h1 : ST K P m1 (gnd K 22 (n + 1)) W1 := h1
  have hw1 : (gnd K 22 (n + 1)).1 = 0 → ((∃ k : Nat, k < cf + cu ∧ m.2.1 78 k = V (n + 1) ∧ 0 ≤ (m.1 79 k).toInt ∧ r1 = m.1 79 k) ∧ W1 = W) ∨ ((∀ k : Nat, k < cf + cu → m.2.1 78 k = V (n + 1) → (m.1 79 k).toInt < 0) ∧ r1 = -1 ∧ W1 = wadd W (4, n + 1)) := hw1
  have hW1 : (gnd K 22 (n + 1)).1 = 0 → W1.1 ≠ 0 → W1.2 < n + 2 := fun z w => by
    rcases hw1 z with ⟨-, e⟩ | ⟨-, -, e⟩
    · rw [e] at w ⊢; have := hW w; omega
    · rw [e] at w ⊢
      by_cases w0 : W.1 = 0
      · rw [wadd_z w0]; show n + 1 < n + 2; omega
      · rw [wadd_n w0]; have := hW w0; omega
  refine Wp.deep (q_knownFlat hv hP (hR.cx c1) h1 (hC.cx c1).2.2.2.1 (by omega) (fun z w => by rw [(gnd_0 z).1]; exact hW1 z w) (fun r2 m2 W2 c2 h2 hw2 => ?_)) (Nat.le_of_ble_eq_true rfl)
  have c12 := c1.tr c2
  have F2 := hF.cx c12
  have C2 := hC.cx c12
  have f2 := h2.fl
  refine ⟨fun q => w72 m2 r1 r2 W2 c12 h2 (fun z => absurd (f2.2.mpr z) q), fun q => ?_⟩
  have z2 : (rb (gnd K 22 (n + 1)) (gnd K 22)).1 = 0 := f2.2.mp q
  obtain ⟨g1, g2, g3, g4, g5⟩ := gnd2_z z2
  have z1 : (gnd K 22 (n + 1)).1 = 0 := (rb_z z2).1
  have hw1' := hw1 z1
  have hw2' := hw2 z2
  rw [g1, c1.2.2, c1.1 79 (by decide)] at hw2'
  have hw2' : ((∃ k : Nat, k < cf + cu ∧ m.2.1 78 k = V (n + 2) ∧ 0 ≤ (m.1 79 k).toInt ∧ r2 = m.1 79 k) ∧ W2 = W1) ∨ ((∀ k : Nat, k < cf + cu → m.2.1 78 k = V (n + 2) → (m.1 79 k).toInt < 0) ∧ r2 = -1 ∧ W2 = wadd W1 (4, n + 2)) := hw2'
  have hx3 : (m1.1 70 11).toInt = ((n + 2 : Nat) : Int) := by
    have := (h1.1 z1).2.1
    rw [g1] at this
    exact this
  have lv2 : lvK K (n + 2) := by
    have := (h1.1 z1).2.2.2.1
    rw [g1] at this
    exact this
  have n2 : n + 2 ≤ 400 := by omega
  have em1 : (-1 : Int32).toInt = -1 := by decide
  have h66 : (W2.1 ≠ 0 → W2.2 < n + 2) → ((W.1 ≠ 0 → wadd W2 (3, n + 2) = W) ∧ (W.1 = 0 → (wadd W2 (3, n + 2)).1 ≠ 0 ∧ wadd W2 (3, n + 2) = (mWire V n st).1 ∧ (wadd W2 (3, n + 2)).2 ≤ n + 2)) → j_X12_tellWire_70_66 6 X r1 (m1.1 70 11) r2 m2 Q := fun a b => by
    refine v_X12_tellWire_70_66 (Wp.deep (q_wrong (c := 3) (tok := n + 2) hP (hR.cx c12) h2 (by decide) (by decide) hx3 n2 (fun _ => lv2) (fun _ w => Or.inl (a w)) (fun m3 c3 _ h3 => w72 m3 r1 r2 _ (c12.tr c3) h3 (fun _ => ⟨b.1, fun w => Or.inr (b.2 w)⟩))) (Nat.le_of_ble_eq_true rfl))
  by_cases w0 : W.1 = 0
  · obtain ⟨⟨hN1, hH1⟩, hl1, hl2, hl3⟩ := hN w0
    rcases hw1' with ⟨⟨k1, k2, k3, k4, k5⟩, e1⟩ | ⟨k1, k2, e1⟩
    · obtain ⟨a, fa, va⟩ := hN1.sm (by omega) k3 k4
      have ra : r1.toInt = (a : Int) := by rw [k5]; exact va
      rcases hw2' with ⟨⟨l1, l2, l3, l4, l5⟩, e2⟩ | ⟨l1, l2, e2⟩
      · obtain ⟨b, fb, vb⟩ := hN1.sm (by omega) l3 l4
        have rb' : r2.toInt = (b : Int) := by rw [l5]; exact vb
        have eW2 : W2.1 = 0 := by rw [e2, e1]; exact w0
        have mw : (a = b ∨ wx (wE st) a b st.2.1.length 0 = true) → mWire V n st = ((3, n + 2), st) := fun o => by
          unfold mWire
          rw [fa, fb]
          show (if _ then _ else _) = _
          rw [if_pos o]
        have go66 : (a = b ∨ wx (wE st) a b st.2.1.length 0 = true) → j_X12_tellWire_70_66 6 X r1 (m1.1 70 11) r2 m2 Q := fun o => h66 (fun w => absurd eW2 w) ⟨fun w => absurd w0 w, fun _ => by rw [wadd_z eW2, mw o]; exact ⟨Nat.succ_ne_zero 2, rfl, Nat.le_refl _⟩⟩
        refine ⟨fun q => by exfalso; omega, fun _ => ⟨fun q => by exfalso; omega, fun _ => ⟨fun q => go66 (Or.inl (by omega)), fun q => ?_⟩⟩⟩
        refine Wp.deep (q_areWired (st := st) hs (F2.sd hsd).1 (by rw [hl2]; exact C2.2.1) (by omega) (hN1.cx c12).2.2.2.2 ra rb' (fun y => ⟨fun q => absurd q (by decide), fun _ => go66 (Or.inr y)⟩) (fun y => ⟨fun _ => w72 m2 r1 r2 W2 c12 h2 (fun _ => ⟨fun w => absurd w0 w, fun _ => Or.inl ⟨eW2, a, b, fa, fb, ra, rb', fun o => ?_⟩⟩), fun q => absurd rfl q⟩)) (Nat.le_of_ble_eq_true rfl)
        rcases o with o | o
        · omega
        · rw [y] at o; cases o
      · have fb := hN1.nn (y := V (n + 2)) (fun k hk he => l1 k (by omega) he)
        have mw : mWire V n st = ((4, n + 2), st) := by
          unfold mWire
          rw [fa, fb]
        have r2v : r2.toInt = -1 := by rw [l2]; exact em1
        have eW2 : W2 = (4, n + 2) := by rw [e2, e1, wadd_z w0]
        refine ⟨fun q => by exfalso; omega, fun _ => ⟨fun q => w72 m2 r1 r2 W2 c12 h2 (fun _ => ⟨fun w => absurd w0 w, fun _ => Or.inr ?_⟩), fun q => by exfalso; omega⟩⟩
        rw [eW2, mw]
        exact ⟨Nat.succ_ne_zero 3, rfl, Nat.le_refl _⟩
    · have fa := hN1.nn (y := V (n + 1)) (fun k hk he => k1 k (by omega) he)
      have mw : mWire V n st = ((4, n + 1), st) := by
        unfold mWire
        rw [fa]
      have r1v : r1.toInt = -1 := by rw [k2]; exact em1
      have eW1 : W1 = (4, n + 1) := by rw [e1, wadd_z w0]
      have eW2 : W2 = (4, n + 1) := by
        rcases hw2' with ⟨-, e⟩ | ⟨-, -, e⟩
        · rw [e, eW1]
        · rw [e, eW1, wadd_n (Nat.succ_ne_zero 3)]
      refine ⟨fun q => w72 m2 r1 r2 W2 c12 h2 (fun _ => ⟨fun w => absurd w0 w, fun _ => Or.inr ?_⟩), fun q => by exfalso; omega⟩
      rw [eW2, mw]
      exact ⟨Nat.succ_ne_zero 3, rfl, by show n + 1 ≤ n + 2; omega⟩
  · have eW1 : W1 = W := by
      rcases hw1' with ⟨-, e⟩ | ⟨-, -, e⟩
      · exact e
      · rw [e, wadd_n w0]
    have eW2 : W2 = W := by
      rcases hw2' with ⟨-, e⟩ | ⟨-, -, e⟩
      · rw [e, eW1]
      · rw [e, eW1, wadd_n w0]
    have go := w72 m2 r1 r2 W2 c12 h2 (fun _ => ⟨fun _ => eW2, fun w => absurd w w0⟩)
    have go66 := h66 (fun w => by rw [eW2] at w ⊢; have := hW w; omega) ⟨fun _ => by rw [eW2, wadd_n w0], fun w => absurd w w0⟩
    refine ⟨fun _ => go, fun _ => ⟨fun _ => go, fun _ => ⟨fun _ => go66, fun _ => ?_⟩⟩⟩
    have b82 := C2.2.1
    exact Wp.deep (p_areWired hs (F2.sd hsd) (by omega) (fun r3 => ⟨fun _ => go, fun _ => go66⟩)) (Nat.le_of_ble_eq_true rfl)
end RWV
end
section
/-! THE REFERENCE's tells, 3: a use -/
section RUV
variable {K : Nat → Int} {V : Nat → Int64} {P : Nat → Nat} {m0 m : dM} {L s cf cw cu n : Nat} {W : gR} {st : mSt} {Ds : Nat → lD}
def UFv (s cu : Nat) (m mm : dM) : Prop := UF m mm ∧ ∀ k j : Nat, 87 ≤ k → k ≤ 90 → j ≠ 8 * s + cu → mm.1 k j = m.1 k j
theorem UFv.cx {a b : dM} (h : UFv s cu m a) (hc : Cx a b) : UFv s cu m b := ⟨h.1.cx hc, fun k j h1 h2 h3 => by rw [hc.1 k (by omega)]; exact h.2 k j h1 h2 h3⟩
theorem UFv.set {a : dM} {k j : Nat} {v : Int32} (h : UFv s cu m a) (hk : 87 ≤ k ∧ k ≤ 90) (hj : j = 8 * s + cu) : UFv s cu m (dSet a k j v) := ⟨h.1.set hk, fun c i h1 h2 h3 => by
  rw [dSet_e, if_neg (fun w => h3 (by omega))]
  exact h.2 c i h1 h2 h3⟩
theorem FXv.uf {mm : dM} (h : FXv m0 L m) (hL : L + s = 1) (hc : cu ≤ 7) (hu : UFv s cu m mm) : FXv m0 L mm := ⟨h.1.uf hu.1, fun k j q => by
  have b := lvS_k q
  by_cases q2 : 87 ≤ k ∧ k ≤ 90
  · rw [hu.2 k j q2.1 q2.2 (by unfold lvS at q; omega)]; exact h.2 k j q
  · rw [hu.1.1 k (by omega) q2]; exact h.2 k j q⟩
theorem x_use {Q : dM → Prop} (hL : L + s = 1) (hsd : (m0.1 70 19).toInt = (s : Int)) (hv : ∀ i, vk (K i)) (hP : ∀ i j : Nat, i < j → lvK K j → P i < P j) (hS : ST K P m (0, n + 1) W) (hR : RM K V P m) (hF : FXv m0 L m) (hC : CT s cf cw cu m) (h7 : cu ≤ 7) (hQ : LQ s m) (hW : W.1 ≠ 0 → W.2 < n) (hN : W.1 = 0 → NH V s st m ∧ st.1.length = cf ∧ st.2.1.length = cw ∧ st.2.2.1.length = cu) (hD : LDs m s Ds)
    (hB : (gsq K [22, 22, 23, 23, 23, 59] (n + 1)).1 ≠ 0 → ∀ (m' : dM) (W' : gR), ST K P m' (gsq K [22, 22, 23, 23, 23, 59] (n + 1)) W' → FXv m0 L m' → Q m')
    (hG : (gsq K [22, 22, 23, 23, 23, 59] (n + 1)).1 = 0 → ∀ (m' : dM) (W' : gR) (st' : mSt), TIv K V P m0 L s cf cw (cu + 1) (n + 7) W' st' Ds m' → WM (mUse V n st) W W' st' → Q m') : c_X12_tellUse_70 6 m Q := by
  have hs : s ≤ 1 := by omega
  have hC5 := hC.2.2.2.2
  have sd := hF.sd hsd
  have fm := dMulE (X := 8) (Y := (s : Int)) (x := (8 : Int32)) (y := m.1 70 19) (by decide) sd.1 (by omega) (by omega)
  have fx := dAddE (X := 8 * (s : Int)) (Y := (cu : Int)) (x := (8 : Int32) * m.1 70 19) (y := m.1 86 s) fm hC.2.2.1 (by omega) (by omega)
  have gG : gsq K [22, 22, 23, 23, 23, 59] (n + 1) = rb (rb (rb (rb (rb (gnd K 22 (n + 1)) (gnd K 22)) (gnd K 23)) (gnd K 23)) (gnd K 23)) (gnd K 59) := by
    have : gsq K [22, 22, 23, 23, 23, 59] (n + 1) = rb (gnd K 22 (n + 1)) (gsq K [22, 23, 23, 23, 59]) := rfl
    rw [this, gsq_r, gsq_r, gsq_r, gsq_r, gsq_r, rb_id]
  rw [gG] at hB hG
  refine v_X12_tellUse_70 ⟨by omega, ?_⟩
  rw [sd.2]
  generalize hX : (8 : Int32) * m.1 70 19 + m.1 86 s = X at fx ⊢
  have eX : X.toNatClampNeg = 8 * s + cu := by
    have := d_cl (x := X) (by omega)
    omega
  have e0 : (m.1 70 11).toInt = ((n + 1 : Nat) : Int) := (hS.1 rfl).2.1
  have lv1 : lvK K (n + 1) := (hS.1 rfl).2.2.2.1
  have n1 : n + 1 ≤ 400 := (hS.1 rfl).2.2.1
  refine Wp.deep (q_named hv hP hR hS hC.2.2.2.1 (by omega) (fun w => by have := hW w; omega) (fun m1 W1 c1 h1 hw1 => ?_)) (Nat.le_of_ble_eq_true rfl)
  have U1 : UFv s cu m m1 := ⟨⟨fun k a _ => c1.1 k a, c1.2.1, c1.2.2⟩, fun k j h1 h2 _ => by rw [c1.1 k (by omega)]⟩
  have hW1 : (gnd K 22 (n + 1)).1 = 0 → W1.1 ≠ 0 → W1.2 < n + 2 := fun z w => by
    rcases hw1 z with ⟨-, e⟩ | ⟨-, e⟩
    · rw [e] at w ⊢
      by_cases w0 : W.1 = 0
      · rw [wadd_z w0]; show n + 1 < n + 2; omega
      · rw [wadd_n w0]; have := hW w0; omega
    · rw [e] at w ⊢; have := hW w; omega
  refine Wp.deep (q_knownFlat hv hP (hR.cx c1) h1 (hC.cx c1).2.2.2.1 (by omega) (fun z w => by rw [(gnd_0 z).1]; exact hW1 z w) (fun r2 m2 W2 c2 h2 hw2 => ?_)) (Nat.le_of_ble_eq_true rfl)
  rw [eX]
  have U2 : UFv s cu m (dSet m2 87 (8 * s + cu) r2) := (U1.cx c2).set (by decide) rfl
  have S2 : ST K P (dSet m2 87 (8 * s + cu) r2) (rb (gnd K 22 (n + 1)) (gnd K 22)) W2 := h2.k (by decide)
  have hw2' : (rb (gnd K 22 (n + 1)) (gnd K 22)).1 = 0 → ((∃ k : Nat, k < cf + cu ∧ m.2.1 78 k = V (n + 2) ∧ 0 ≤ (m.1 79 k).toInt ∧ r2 = m.1 79 k) ∧ W2 = W1) ∨ ((∀ k : Nat, k < cf + cu → m.2.1 78 k = V (n + 2) → (m.1 79 k).toInt < 0) ∧ r2 = -1 ∧ W2 = wadd W1 (4, n + 2)) := fun z => by
    have := hw2 z
    rw [(gnd2_z z).1, c1.2.2, c1.1 79 (by decide)] at this
    exact this
  have hW2 : (rb (gnd K 22 (n + 1)) (gnd K 22)).1 = 0 → W2.1 ≠ 0 → W2.2 < n + 3 := fun z w => by
    have z1 := (rb_z z).1
    rcases hw2' z with ⟨-, e⟩ | ⟨-, -, e⟩
    · rw [e] at w ⊢; have := hW1 z1 w; omega
    · rw [e] at w ⊢
      by_cases w0 : W1.1 = 0
      · rw [wadd_z w0]; show n + 2 < n + 3; omega
      · rw [wadd_n w0]; have := hW1 z1 w0; omega
  have A2 : ∀ j : Nat, (dSet m2 87 (8 * s + cu) r2).1 87 j = if j = 8 * s + cu then r2 else m.1 87 j := fun j => by
    rw [dSet_e, c2.1 87 (by decide), c1.1 87 (by decide)]
    by_cases q : j = 8 * s + cu
    · rw [if_pos ⟨rfl, q⟩, if_pos q]
    · rw [if_neg (fun w => q w.2), if_neg q]
  have B2 : ∀ k : Nat, k = 88 ∨ k = 89 ∨ k = 90 → (dSet m2 87 (8 * s + cu) r2).1 k = m.1 k := fun k e => by rw [dSet_k (by omega), c2.1 k (by omega), c1.1 k (by omega)]
  refine ⟨by omega, ?_⟩
  generalize dSet m2 87 (8 * s + cu) r2 = M2 at U2 S2 A2 B2 ⊢
  refine Wp.deep (q_bounded hv hP (hR.uf U2.1) S2 (fun z w => by rw [(gnd2_z z).2.2.1]; exact hW2 z w) (fun r3 m3 W3 c3 h3 hw3 => ⟨by omega, ?_⟩)) (Nat.le_of_ble_eq_true rfl)
  have U3 : UFv s cu m (dSet m3 88 (8 * s + cu) r3) := (U2.cx c3).set (by decide) rfl
  have S3 : ST K P (dSet m3 88 (8 * s + cu) r3) (rb (rb (gnd K 22 (n + 1)) (gnd K 22)) (gnd K 23)) W3 := h3.k (by decide)
  have hw3' : (rb (rb (gnd K 22 (n + 1)) (gnd K 22)) (gnd K 23)).1 = 0 → rb (rb (gnd K 22 (n + 1)) (gnd K 22)) (gnd K 23) = (0, n + 4) ∧ W3 = bX V 1 19 (n + 3) W2 := fun z => by
    have a := hw3 z
    have z2 := (rb_z z).1
    rw [(gnd2_z z2).2.2.1] at a z ⊢
    exact ⟨(gnd_0 z).1, a.2⟩
  have hW3 : (rb (rb (gnd K 22 (n + 1)) (gnd K 22)) (gnd K 23)).1 = 0 → W3.1 ≠ 0 → W3.2 < n + 4 := fun z => by
    rw [(hw3' z).2]
    exact bX_lt (fun w => by have := hW2 (rb_z z).1 w; omega) (by omega)
  have hr3 : (rb (rb (gnd K 22 (n + 1)) (gnd K 22)) (gnd K 23)).1 = 0 → r3 = (V (n + 3)).toInt32 := fun z => by
    have a := (hw3 z).1
    rw [(gnd2_z (rb_z z).1).2.2.1] at a
    exact a
  have A3 : ∀ j : Nat, (dSet m3 88 (8 * s + cu) r3).1 88 j = if j = 8 * s + cu then r3 else m.1 88 j := fun j => by
    rw [dSet_e, c3.1 88 (by decide), B2 88 (by decide)]
    by_cases q : j = 8 * s + cu
    · rw [if_pos ⟨rfl, q⟩, if_pos q]
    · rw [if_neg (fun w => q w.2), if_neg q]
  have B3 : ∀ k : Nat, k = 89 ∨ k = 90 → (dSet m3 88 (8 * s + cu) r3).1 k = m.1 k := fun k e => by rw [dSet_k (by omega), c3.1 k (by omega), B2 k (by omega)]
  have C3 : (dSet m3 88 (8 * s + cu) r3).1 87 = M2.1 87 := by rw [dSet_k (by decide), c3.1 87 (by decide)]
  generalize dSet m3 88 (8 * s + cu) r3 = M3 at U3 S3 A3 B3 C3 ⊢
  refine Wp.deep (q_bounded hv hP (hR.uf U3.1) S3 (fun z w => by rw [(hw3' z).1]; exact hW3 z w) (fun r4 m4 W4 c4 h4 hw4 => ⟨by omega, ⟨by omega, ?_⟩⟩)) (Nat.le_of_ble_eq_true rfl)
  have U4 : UFv s cu m (dSet m4 89 (8 * s + cu) r4) := (U3.cx c4).set (by decide) rfl
  have S4 : ST K P (dSet m4 89 (8 * s + cu) r4) (rb (rb (rb (gnd K 22 (n + 1)) (gnd K 22)) (gnd K 23)) (gnd K 23)) W4 := h4.k (by decide)
  have hw4' : (rb (rb (rb (gnd K 22 (n + 1)) (gnd K 22)) (gnd K 23)) (gnd K 23)).1 = 0 → rb (rb (rb (gnd K 22 (n + 1)) (gnd K 22)) (gnd K 23)) (gnd K 23) = (0, n + 5) ∧ r4.toInt = iV V (n + 4) ∧ W4 = bX V 0 23 (n + 4) W3 := fun z => by
    have a := hw4 z
    have z2 := (rb_z z).1
    rw [(hw3' z2).1] at a z ⊢
    exact ⟨(gnd_0 z).1, by rw [a.1]; rfl, a.2⟩
  have hW4 : (rb (rb (rb (gnd K 22 (n + 1)) (gnd K 22)) (gnd K 23)) (gnd K 23)).1 = 0 → W4.1 ≠ 0 → W4.2 < n + 5 := fun z => by
    rw [(hw4' z).2.2]
    exact bX_lt (fun w => by have := hW3 (rb_z z).1 w; omega) (by omega)
  have tail : ∀ x : Int32, (W4.1 = 0 → (rb (rb (rb (gnd K 22 (n + 1)) (gnd K 22)) (gnd K 23)) (gnd K 23)).1 = 0 → W3.1 = 0 → x.toInt = iV V (n + 4)) → c_X12_bounded_70 5 x (23 : Int32) (dSet m4 89 (8 * s + cu) r4) (fun r5 m5 => ((0 ≤ X.toInt ∧ X.toInt < 16) ∧ c_X12_endsName_70 5 (m.1 70 11) (-1 : Int32) (dSet m5 90 (8 * s + cu) r5) (fun m6 => (((m6.1 70 13).toInt ≠ 0 → j_X12_tellUse_70_118 (5 + 1) m6 Q) ∧ ((m6.1 70 13).toInt = 0 → ((0 ≤ (m6.1 70 19).toInt ∧ (m6.1 70 19).toInt < 2) ∧ ((0 ≤ (m6.1 70 19).toInt ∧ (m6.1 70 19).toInt < 2) ∧ j_X12_tellUse_70_118 (5 + 1) (dSet m6 86 (m6.1 70 19).toNatClampNeg ((m6.1 86 (m6.1 70 19).toNatClampNeg) + (1 : Int32))) Q))))))) := by
    intro x hx
    have hr4 : (rb (rb (rb (gnd K 22 (n + 1)) (gnd K 22)) (gnd K 23)) (gnd K 23)).1 = 0 → r4 = (V (n + 4)).toInt32 := fun z => by
      have a := (hw4 z).1
      rw [(hw3' (rb_z z).1).1] at a
      exact a
    have A4 : ∀ j : Nat, (dSet m4 89 (8 * s + cu) r4).1 89 j = if j = 8 * s + cu then r4 else m.1 89 j := fun j => by
      rw [dSet_e, c4.1 89 (by decide), B3 89 (by decide)]
      by_cases q : j = 8 * s + cu
      · rw [if_pos ⟨rfl, q⟩, if_pos q]
      · rw [if_neg (fun w => q w.2), if_neg q]
    have B4 : (dSet m4 89 (8 * s + cu) r4).1 90 = m.1 90 := by rw [dSet_k (by decide), c4.1 90 (by decide), B3 90 (by decide)]
    have C4 : ∀ k : Nat, k = 87 ∨ k = 88 → (dSet m4 89 (8 * s + cu) r4).1 k = M3.1 k := fun k e => by rw [dSet_k (by omega), c4.1 k (by omega)]
    generalize dSet m4 89 (8 * s + cu) r4 = M4 at U4 S4 A4 B4 C4 ⊢
    refine Wp.deep (q_bounded hv hP (hR.uf U4.1) S4 (fun z w => by rw [(hw4' z).1]; exact hW4 z w) (fun r5 m5 W5 c5 h5 hw5 => ⟨by omega, ?_⟩)) (Nat.le_of_ble_eq_true rfl)
    have U5 : UFv s cu m (dSet m5 90 (8 * s + cu) r5) := (U4.cx c5).set (by decide) rfl
    have S5 : ST K P (dSet m5 90 (8 * s + cu) r5) (rb (rb (rb (rb (gnd K 22 (n + 1)) (gnd K 22)) (gnd K 23)) (gnd K 23)) (gnd K 23)) W5 := h5.k (by decide)
    have hw5' : (rb (rb (rb (rb (gnd K 22 (n + 1)) (gnd K 22)) (gnd K 23)) (gnd K 23)) (gnd K 23)).1 = 0 → rb (rb (rb (rb (gnd K 22 (n + 1)) (gnd K 22)) (gnd K 23)) (gnd K 23)) (gnd K 23) = (0, n + 6) ∧ W5 = bX V x.toInt 23 (n + 5) W4 := fun z => by
      have a := hw5 z
      have z2 := (rb_z z).1
      rw [(hw4' z2).1] at a z ⊢
      exact ⟨(gnd_0 z).1, a.2⟩
    have hr5 : (rb (rb (rb (rb (gnd K 22 (n + 1)) (gnd K 22)) (gnd K 23)) (gnd K 23)) (gnd K 23)).1 = 0 → r5 = (V (n + 5)).toInt32 := fun z => by
      have a := (hw5 z).1
      rw [(hw4' (rb_z z).1).1] at a
      exact a
    have A5 : ∀ j : Nat, (dSet m5 90 (8 * s + cu) r5).1 90 j = if j = 8 * s + cu then r5 else m.1 90 j := fun j => by
      rw [dSet_e, c5.1 90 (by decide), B4]
      by_cases q : j = 8 * s + cu
      · rw [if_pos ⟨rfl, q⟩, if_pos q]
      · rw [if_neg (fun w => q w.2), if_neg q]
    have C5 : ∀ k : Nat, k = 87 ∨ k = 88 ∨ k = 89 → (dSet m5 90 (8 * s + cu) r5).1 k = M4.1 k := fun k e => by rw [dSet_k (by omega), c5.1 k (by omega)]
    generalize dSet m5 90 (8 * s + cu) r5 = M5 at U5 S5 A5 C5 ⊢
    have F5 := hF.uf hL h7 U5
    have R5 := hR.uf U5.1
    have U5 := U5.1
    have N5 : nms M5 = ((cf + cu : Nat) : Int) := by unfold nms; rw [U5.2.1 20 (by decide) (by decide) (by decide) (by decide) (by decide)]; exact hC.2.2.2.1
    refine Wp.deep (q_endsName (N := cf + cu) (tok := n + 1) hv R5 S5 e0 n1 N5 (by omega) (fun z6 m6 c6 h6 => ?_) (fun z6 m6 E6 h6 => ?_)) (Nat.le_of_ble_eq_true rfl)
    · have f6 := h6.fl
      exact ⟨fun _ => v_X12_tellUse_70_118 (hB z6 m6 W5 h6 (F5.cx c6)), fun q => absurd (f6.2.mp q) z6⟩
    · have f6 := h6.fl
      have F6 := F5.en E6
      have sd6 := F6.sd hsd
      rw [sd6.2]
      refine ⟨fun q => absurd (f6.2.mpr z6) q, fun _ => ⟨by omega, ⟨by omega, v_X12_tellUse_70_118 ?_⟩⟩⟩
      have z5 := (rb_z z6).1
      have z4 := (rb_z z5).1
      have z3 := (rb_z z4).1
      have z2 := (rb_z z3).1
      have z1 := (rb_z z2).1
      have t6 : rb (rb (rb (rb (rb (gnd K 22 (n + 1)) (gnd K 22)) (gnd K 23)) (gnd K 23)) (gnd K 23)) (gnd K 59) = (0, n + 7) := by
        have z := z6
        rw [(hw5' z5).1, rb_0] at z ⊢
        exact (gnd_0 z).1
      have h6' := h6
      rw [t6] at h6'
      have yn : M5.2.1 76 (n + 1) = V (n + 1) := by
        have hk1 := (gnd_0 z1).2.1
        exact (R5 (n + 1) n1 lv1).2.2.1 (by omega)
      rw [yn] at E6
      have e86 : (m6.1 86 s).toInt = (cu : Int) := by rw [E6.1 86 (by decide) (by decide), U5.1 86 (by decide) (by decide)]; exact hC.2.2.1
      have jj : ∀ j : Nat, j = 12 ∨ j = 40 ∨ j = 46 → m6.1 70 j = m.1 70 j := fun j e => by rw [E6.2.1 j (by omega) (by omega) (by omega) (by omega) (by omega) (by omega), U5.2.1 j (by omega) (by omega) (by omega) (by omega) (by omega)]
      have tt6 : tt m6 = ((n + 7 : Nat) : Int) := (h6'.1 rfl).2.1
      have tt0 : tt m = ((n + 1 : Nat) : Int) := e0
      have SS : ST K P (dSet m6 86 s (m6.1 86 s + 1)) (0, n + 7) W5 := h6'.k (by decide)
      have RR : RM K V P (dSet m6 86 s (m6.1 86 s + 1)) := R5.of (fun k a b => by rw [dSet_k (by omega)]; exact E6.1 k (by omega) (by omega)) (by show m6.2.1 76 = M5.2.1 76; exact E6.2.2.2.2.1 76 (by decide))
      have QQ : LQ s (dSet m6 86 s (m6.1 86 s + 1)) := hQ.j (jj 12 (by omega)) (jj 46 (by omega)) (jj 40 (by omega)) (by show tt m ≤ tt m6; omega)
      have FF : FXv m0 L (dSet m6 86 s (m6.1 86 s + 1)) := F6.set (by decide) (by decide) (by unfold lvS; omega)
      have CC : CT s cf cw (cu + 1) (dSet m6 86 s (m6.1 86 s + 1)) := by
        refine ⟨?_, ?_, by rw [dSet_s]; exact d_inc e86 (by omega), ?_, by omega, by omega, by omega⟩
        · rw [dSet_k (by decide), E6.1 80 (by decide) (by decide), U5.1 80 (by decide) (by decide)]; exact hC.1
        · rw [dSet_k (by decide), E6.1 82 (by decide) (by decide), U5.1 82 (by decide) (by decide)]; exact hC.2.1
        · show (m6.1 70 20).toInt = _
          rw [E6.2.2.1]
          omega
      have e3 := (hw3' z3).2
      have e4 := (hw4' z4).2.2
      have e5 := (hw5' z5).2
      have w5lt : W5.1 ≠ 0 → W5.2 < n + 7 := by
        rw [e5]
        exact bX_lt (fun w => by have := hW4 z4 w; omega) (by omega)
      have stays : W2.1 ≠ 0 → W5 = W2 := fun w => by rw [e5, e4, e3, bX_n w, bX_n w, bX_n w]
      have key : ∃ st' : mSt, (W5.1 = 0 → NH V s st' (dSet m6 86 s (m6.1 86 s + 1)) ∧ st'.1.length = cf ∧ st'.2.1.length = cw ∧ st'.2.2.1.length = cu + 1) ∧ WM (mUse V n st) W W5 st' := by
        unfold WM
        by_cases w0 : W.1 = 0
        · obtain ⟨⟨hN1, hH1⟩, hl1, hl2, hl3⟩ := hN w0
          have kn : (∃ k : Nat, k < cf + cu ∧ m.2.1 78 k = V (n + 1)) ↔ knw V st (V (n + 1)) = true := by
            rw [← hl1, ← hl3]; exact hN1.kn
          have wr : ∀ (c i : Nat), W5 = (c + 1, i) → mUse V n st = ((c + 1, i), st) → ∃ st' : mSt, (W5.1 = 0 → NH V s st' (dSet m6 86 s (m6.1 86 s + 1)) ∧ st'.1.length = cf ∧ st'.2.1.length = cw ∧ st'.2.2.1.length = cu + 1) ∧ (W.1 ≠ 0 → W5 = W) ∧ (W.1 = 0 → ((mUse V n st).1.1 = 0 → W5.1 = 0 ∧ st' = (mUse V n st).2) ∧ ((mUse V n st).1.1 ≠ 0 → W5 = (mUse V n st).1)) := fun c i a b => by
            rw [a, b]
            exact ⟨st, fun q => absurd q (Nat.succ_ne_zero c), fun q => absurd w0 q, fun _ => ⟨fun q => absurd q (Nat.succ_ne_zero c), fun _ => rfl⟩⟩
          rcases hw1 z1 with ⟨ex, e1⟩ | ⟨ex, e1⟩
          · have kt := kn.mp ex
            rw [wadd_z w0] at e1
            have e2 : W2 = (3, n + 1) := by
              rcases hw2' z2 with ⟨-, e⟩ | ⟨-, -, e⟩
              · rw [e, e1]
              · rw [e, e1, wadd_n (Nat.succ_ne_zero 2)]
            refine wr 2 (n + 1) (by rw [stays (by rw [e2]; exact Nat.succ_ne_zero 2), e2]) ?_
            unfold mUse
            rw [kt]
            rfl
          · have kf : knw V st (V (n + 1)) = false := by
              cases hh : knw V st (V (n + 1)) with
              | false => rfl
              | true =>
                obtain ⟨k, k1, k2⟩ := kn.mpr hh
                exact absurd k2 (ex k k1)
            rcases hw2' z2 with ⟨⟨k, k2, k3, k4, k5⟩, e2⟩ | ⟨k1, k2, e2⟩
            · obtain ⟨h, fh, vh⟩ := hN1.sm (by omega) k3 k4
              have mU : mUse V n st = bnd V (n + 3) 1 19 (bnd V (n + 4) 0 23 (bnd V (n + 5) (iV V (n + 4)) 23 ((0, 0), (st.1, st.2.1, st.2.2.1 ++ [(n, h)], st.2.2.2)) st) st) st := by
                unfold mUse
                rw [kf, fh]
                rfl
              rw [e1] at e2
              rw [e2] at e3
              unfold bX at e3 e4 e5
              by_cases b3 : (1 : Int) ≤ iV V (n + 3) ∧ iV V (n + 3) ≤ 19
              · rw [if_pos b3] at e3
                rw [e3] at e4
                by_cases b4 : (0 : Int) ≤ iV V (n + 4) ∧ iV V (n + 4) ≤ 23
                · rw [if_pos b4] at e4
                  have ex5 := hx (by rw [e4]; exact w0) z4 (by rw [e3]; exact w0)
                  rw [ex5, e4] at e5
                  by_cases b5 : iV V (n + 4) ≤ iV V (n + 5) ∧ iV V (n + 5) ≤ 23
                  · rw [if_pos b5] at e5
                    have mU' : mUse V n st = ((0, 0), (st.1, st.2.1, st.2.2.1 ++ [(n, h)], st.2.2.2)) := by
                      rw [mU]
                      unfold bnd
                      rw [if_pos b3, if_pos b4, if_pos b5]
                    rw [mU', e5]
                    refine ⟨(st.1, st.2.1, st.2.2.1 ++ [(n, h)], st.2.2.2), fun _ => ⟨⟨?_, ?_⟩, hl1, hl2, ?_⟩, fun q => absurd w0 q, fun _ => ⟨fun _ => ⟨w0, rfl⟩, fun q => absurd rfl q⟩⟩
                    · refine hN1.use (N := cf + cu) (v := (-1 : Int32)) (by omega) (by decide) (fun j => ?_) ?_ ?_ (fun j => ?_)
                      · rw [dSet_k (by decide), E6.2.2.2.1 j, U5.1 79 (by decide) (by decide)]
                      · rw [dSet_k (by decide), E6.1 83 (by decide) (by decide), U5.1 83 (by decide) (by decide)]
                      · rw [dSet_k (by decide), E6.1 84 (by decide) (by decide), U5.1 84 (by decide) (by decide)]
                      · show m6.2.1 78 j = _
                        rw [E6.2.2.2.2.2.1 j, U5.2.2]
                    · refine hH1.use (v := r2) (by rw [k5]; exact vh) (fun j => ?_) (fun j => ?_) (fun j => ?_) (fun j => ?_) (fun k e => ?_)
                      · rw [dSet_k (by decide), E6.1 87 (by decide) (by decide), C5 87 (by decide), C4 87 (by decide), C3, A2, hl3]
                      · rw [dSet_k (by decide), E6.1 88 (by decide) (by decide), C5 88 (by decide), C4 88 (by decide), A3, hl3, hr3 z3]
                      · rw [dSet_k (by decide), E6.1 89 (by decide) (by decide), C5 89 (by decide), A4, hl3, hr4 z4]
                      · rw [dSet_k (by decide), E6.1 90 (by decide) (by decide), A5, hl3, hr5 z5]
                      · rw [dSet_k (by omega), E6.1 k (by omega) (by omega), U5.1 k (by omega) (by omega)]
                    · show (st.2.2.1 ++ [(n, h)]).length = cu + 1
                      rw [List.length_append, hl3]; rfl
                  · rw [if_neg b5, wadd_z w0] at e5
                    refine wr 4 (n + 5) e5 ?_
                    rw [mU]
                    unfold bnd
                    rw [if_pos b3, if_pos b4, if_neg b5]
                · rw [if_neg b4, wadd_z w0] at e4
                  rw [e4] at e5
                  refine wr 4 (n + 4) (by rw [e5]; split; rfl; exact wadd_n (Nat.succ_ne_zero 4)) ?_
                  rw [mU]
                  unfold bnd
                  rw [if_pos b3, if_neg b4]
              · rw [if_neg b3, wadd_z w0] at e3
                have e4' : W4 = (5, n + 3) := by rw [e4, e3]; split; rfl; exact wadd_n (Nat.succ_ne_zero 4)
                refine wr 4 (n + 3) (by rw [e5, e4']; split; rfl; exact wadd_n (Nat.succ_ne_zero 4)) ?_
                rw [mU]
                unfold bnd
                rw [if_neg b3]
            · have fh := hN1.nn (y := V (n + 2)) (fun k hk he => k1 k (by omega) he)
              have e2' : W2 = (4, n + 2) := by rw [e2, e1, wadd_z w0]
              refine wr 3 (n + 2) (by rw [stays (by rw [e2']; exact Nat.succ_ne_zero 3), e2']) ?_
              unfold mUse
              rw [kf, fh]
              rfl
        · have e1 : W1 = W := by
            rcases hw1 z1 with ⟨-, e⟩ | ⟨-, e⟩
            · rw [e, wadd_n w0]
            · exact e
          have e2 : W2 = W := by
            rcases hw2' z2 with ⟨-, e⟩ | ⟨-, -, e⟩
            · rw [e, e1]
            · rw [e, e1, wadd_n w0]
          have e5' : W5 = W := by rw [stays (by rw [e2]; exact w0), e2]
          rw [e5']
          exact ⟨st, fun q => absurd q w0, fun _ => rfl, fun q => absurd q w0⟩
      obtain ⟨st', kn, kwn⟩ := key
      exact hG z6 _ W5 st' ⟨SS, RR, FF, CC, QQ, w5lt, kn, hD.of (fun c h1 h2 => by rw [dSet_k (by omega), E6.1 c (by omega) (by omega), U5.1 c (by omega) (by omega)]) (jj 40 (by omega)) (jj 46 (by omega))⟩ kwn
  refine ⟨fun q => ⟨by omega, tail r4 (fun _ z _ => (hw4' z).2.1)⟩, fun q => tail (0 : Int32) (fun w z w3 => ?_)⟩
  exfalso
  have e23 : (23 : Int32).toInt = 23 := by decide
  have a := hw4' z
  rw [a.2.2] at w
  unfold bX at w
  rw [if_neg (by omega), wadd_z w3] at w
  exact absurd w (Nat.succ_ne_zero 4)
end RUV
end
section
/-! THE REFERENCE's tells, 4: one of them -/
def VFv (s : Nat) (m mm : dM) : Prop := VF m mm ∧ ∀ k j : Nat, 91 ≤ k → k ≤ 94 → j ≠ s → mm.1 k j = m.1 k j
section ROV
variable {K : Nat → Int} {V : Nat → Int64} {P : Nat → Nat} {m0 m : dM} {L s cf cw cu n : Nat} {W : gR} {st : mSt} {Ds : Nat → lD}
theorem VFv.of {b : dM} (hc : Cx m b) : VFv s m b := ⟨VF.of hc, fun k j h1 h2 _ => by rw [hc.1 k (by omega)]⟩
theorem VFv.cx {a b : dM} (h : VFv s m a) (hc : Cx a b) : VFv s m b := ⟨h.1.cx hc, fun k j h1 h2 h3 => by rw [hc.1 k (by omega)]; exact h.2 k j h1 h2 h3⟩
theorem VFv.set {a : dM} {k j : Nat} {v : Int32} (h : VFv s m a) (hk : 91 ≤ k ∧ k ≤ 94) (hj : j = s) : VFv s m (dSet a k j v) := ⟨h.1.set hk, fun c i h1 h2 h3 => by
  rw [dSet_e, if_neg (fun w => h3 (by omega))]
  exact h.2 c i h1 h2 h3⟩
theorem FXv.vf {mm : dM} (h : FXv m0 L m) (hL : L + s = 1) (hu : VFv s m mm) : FXv m0 L mm := ⟨h.1.vf hu.1, fun k j q => by
  have b := lvS_k q
  by_cases q2 : 91 ≤ k ∧ k ≤ 94
  · rw [hu.2 k j q2.1 q2.2 (by unfold lvS at q; omega)]; exact h.2 k j q
  · rw [hu.1.1 k (by omega) q2]; exact h.2 k j q⟩
theorem lTl_n {n : Nat} {Ds : Nat → lD} (h : ¬ (3 ≤ K n ∧ K n ≤ 6)) : lTl K V n Ds = Ds := by
  funext j
  unfold lTl
  rw [if_neg (fun q => h q.1)]
theorem TIv.fin {mm : dM} {n' : Nat} {W' : gR} {z : Option Nat × Option Nat × Option Nat} (hT : TIv K V P m0 L s cf cw cu n W st Ds m) (hL : L + s = 1) (hu : VFv s m mm) (hS : ST K P mm (0, n') W') (hn : n ≤ n') (hw : W'.1 ≠ 0 → W'.2 < n') (h0 : W'.1 = 0 → W.1 = 0) (hH : W'.1 = 0 → HM V s st m → HM V s (st.1, st.2.1, st.2.2.1, z) mm) : TIv K V P m0 L s cf cw cu n' W' (st.1, st.2.1, st.2.2.1, z) Ds mm := by
  obtain ⟨hS0, hR, hF, hC, hQ, hW, hN, hD⟩ := hT
  have hF1 := hF.vf hL hu
  have hu := hu.1
  have t1 : tt mm = (n' : Int) := (hS.1 rfl).2.1
  have t0 : tt m = (n : Int) := (hS0.1 rfl).2.1
  refine ⟨hS, hR.vf hu, hF1, ?_, hQ.j (hu.2.1 12 (by decide) (by decide) (by decide) (by decide) (by decide)) (hu.2.1 46 (by decide) (by decide) (by decide) (by decide) (by decide)) (hu.2.1 40 (by decide) (by decide) (by decide) (by decide) (by decide)) (by omega), hw, fun w => ?_, hD.of (fun c h1 h2 => hu.1 c (by omega) (by omega)) (hu.2.1 40 (by decide) (by decide) (by decide) (by decide) (by decide)) (hu.2.1 46 (by decide) (by decide) (by decide) (by decide) (by decide))⟩
  · unfold CT nms
    rw [hu.1 80 (by decide) (by decide), hu.1 82 (by decide) (by decide), hu.1 86 (by decide) (by decide), hu.2.1 20 (by decide) (by decide) (by decide) (by decide) (by decide)]
    exact hC
  · obtain ⟨a, b⟩ := hN (h0 w)
    exact ⟨⟨(a.1.of (hu.1 79 (by decide) (by decide)) (hu.1 83 (by decide) (by decide)) (hu.1 84 (by decide) (by decide)) (by rw [hu.2.2]) : NM V s st mm), hH w a.2⟩, b⟩
theorem x_one {Q : dM → Prop} (hL : L + s = 1) (hsd : (m0.1 70 19).toInt = (s : Int)) (hv : ∀ i, vk (K i)) (hP : ∀ i j : Nat, i < j → lvK K j → P i < P j) (hV : ∀ n : Nat, K n = 23 → 0 ≤ (V n).toInt32.toInt ∧ (V n).toInt32.toInt ≤ 9999) (hT : TIv K V P m0 L s cf cw cu n W st Ds m)
    (hB : (gTell K cf cw cu n).1 ≠ 0 → ∀ (m' : dM) (W' : gR), ST K P m' (gTell K cf cw cu n) W' → FXv m0 L m' → Q m')
    (hG : (gTell K cf cw cu n).1 = 0 → ∀ (m' : dM) (W' : gR) (st' : mSt), TIv K V P m0 L s (cf + ct (K n) 0) (cw + ct (K n) 1) (cu + ct (K n) 2) (gTell K cf cw cu n).2 W' st' (lTl K V n Ds) m' → WN K V n W st W' st' → Q m') : c_X12_tellOne_70 8 m Q := by
  have hs : s ≤ 1 := by omega
  have hT' := hT
  obtain ⟨hS, hR, hF, hC, hLQ, hW, hN, hD⟩ := hT'
  have hC5 := hC.2.2.2.2
  have sd := hF.sd hsd
  obtain ⟨b1, b2, b3, b4, b5⟩ := hS.1 rfl
  have b2 : (m.1 70 11).toInt = (n : Int) := b2
  have b3 : n ≤ 400 := b3
  have b4 : lvK K n := b4
  have tr : (0 ≤ (m.1 70 11).toInt ∧ (m.1 70 11).toInt < 403) := by omega
  have ek : (m.1 73 (m.1 70 11).toNatClampNeg).toInt = rk (K n) := by
    rw [d_cn b2]
    exact (hR n b3 b4).1
  obtain ⟨ra1, ra2, ra3⟩ := rk_rg (hv n)
  have kn : ∀ c : Int, 0 ≤ c ∧ c ≤ 21 → (m.1 73 (m.1 70 11).toNatClampNeg).toInt = 20 + c → K n = c := fun c hc e => by
    have := ra1 (by omega)
    have := ra2 this
    omega
  have fin : ∀ m', Q m' → j_X12_tellOne_70_371 8 m' Q := fun m' h => v_X12_tellOne_70_371 h
  have ct0 : ∀ c : Int, (c ≠ 0 ∧ c ≠ 1 ∧ c ≠ 2) → ct c 0 = 0 ∧ ct c 1 = 0 ∧ ct c 2 = 0 := fun c h => by
    unfold ct
    rw [if_neg h.1, if_neg h.2.1, if_neg h.2.2]
    exact ⟨rfl, rfl, rfl⟩
  -- a law, or none
  have l354 : ∀ (x1 : Int32) (mm : dM) (r : gR), Cx m mm → ST K P mm r W → (r.1 = 0 → r = (0, n) ∧ (0 ≤ x1.toInt ∧ x1.toInt ≤ 3) ∧ (3 ≤ K n ∧ K n ≤ 6) ∧ x1.toInt = K n - 3) → (r.1 ≠ 0 → r = gTell K cf cw cu n) → j_X12_tellOne_70_354 8 x1 mm Q := by
    intro x1 mm r cm hr h0 h1
    have f := hr.fl
    have ef : (mm.1 70 13).toInt = flt mm := rfl
    refine v_X12_tellOne_70_354 ⟨fun hc => ?_, fun hc => ?_⟩
    · have z : r.1 = 0 := f.2.mp (by omega)
      obtain ⟨er, hx, ⟨k3, k6⟩, hx3⟩ := h0 z
      obtain ⟨k, hk⟩ : ∃ k : Nat, x1.toInt = (k : Int) := ⟨x1.toInt.toNat, by omega⟩
      have hk4 : k < 4 := by omega
      rw [er] at hr
      have gT : gTell K cf cw cu n = gLaw K n := by
        unfold gTell
        rw [if_neg (by omega), if_neg (by omega), if_neg (by omega), if_pos ⟨k3, k6⟩]
      refine Wp.deep (q_goesOn (hR.cx cm) hr (fun _ => by show K n ≠ 24 ∧ K n ≠ 25; omega) (fun m1 c1 s1 => ?_)) (Nat.le_of_ble_eq_true rfl)
      have s1 : ST K P m1 (gst n) W := s1
      have cm1 := cm.tr c1
      have F1 := hF.cx cm1
      have l1 : opn m1 = opn m ∧ cds m1 = cds m ∧ brs m1 = brs m := by
        unfold opn cds brs
        rw [cm1.2.1 12 (by decide) (by decide) (by decide) (by decide) (by decide), cm1.2.1 46 (by decide) (by decide) (by decide) (by decide) (by decide), cm1.2.1 40 (by decide) (by decide) (by decide) (by decide) (by decide)]
        exact ⟨rfl, rfl, rfl⟩
      have t0 : tt m = (n : Int) := b2
      obtain ⟨q1, q2, q3⟩ := hLQ
      refine Wp.deep (x_tellLaw hs (F1.sd hsd).1 hk hk4 hv (hR.cx cm1) hV s1 ⟨by omega, by omega⟩ (by omega) (fun z1 => ?_) (fun m2 x2 xx2 s2 lr2 => fin m2 ?_)) (Nat.le_of_ble_eq_true rfl)
      · have t1 := (s1.1 z1).2.1
        rw [(gst_z z1).1] at t1
        have t1 : tt m1 = ((n + 1 : Nat) : Int) := t1
        exact ⟨by omega, by omega, by omega⟩
      · have s2 : ST K P m2 (gLaw K n) W := s2
        have lr2 : (gLaw K n).1 = 0 → LRb m2 s k (lDf (lIf K V 4 ((gst n).2 + 1))) := lr2
        rw [← gT] at s2 lr2
        have F2 : FXv m0 L m2 := ⟨⟨fun k e => (x2.1 k (by omega) (by omega)).trans (F1.1.1 k e), fun j e => (x2.2.1 j (by omega) (by omega) (by omega) (by omega) (by omega) (by omega) (by omega) (by omega) (by omega)).trans (F1.1.2.1 j e), by rw [x2.1 80 (by decide) (by decide)]; exact F1.1.2.2⟩, fun c j q => by
          have lb := lvS_k q
          have F1' := F1.2 c j q
          obtain ⟨y1, y2, y3⟩ := xx2
          rw [← F1']
          by_cases c1' : c < 95
          · rw [x2.1 c (by omega) (by omega)]
          · by_cases c2' : c = 95
            · subst c2'; exact (y1 j (by unfold lvS at q; omega)).1
            · by_cases c3' : c = 96
              · subst c3'; exact (y1 j (by unfold lvS at q; omega)).2
              · by_cases c4' : c ≤ 101
                · exact y2 c j (by omega) c4' (by unfold lvS at q; omega)
                · by_cases c5' : c = 102
                  · subst c5'; exact (y3 j (by unfold lvS at q; omega)).1
                  · have : c = 103 := by omega
                    subst this; exact (y3 j (by unfold lvS at q; omega)).2⟩
        by_cases zz : (gTell K cf cw cu n).1 = 0
        · have eT : gTell K cf cw cu n = (0, (gTell K cf cw cu n).2) := by rw [← zz]
          have nle : n ≤ (gTell K cf cw cu n).2 := by
            rw [gT] at zz ⊢
            obtain ⟨e, x1', x2', x3', x4'⟩ := gLaw_z zz
            rw [x1']
            have := x4'.1
            show n ≤ e + 1
            omega
          have cc := ct0 (K n) (by omega)
          have f2 : flt m2 = 0 := s2.fl.2.mpr zz
          have lq := x2.2.2.2 f2
          refine hG zz m2 W st ?_ ⟨fun _ => rfl, fun w => ?_⟩
          · rw [cc.1, cc.2.1, cc.2.2]
            refine ⟨by rw [← eT]; exact s2, (hR.cx cm1).of (fun k a b => x2.1 k (by omega) (by omega)) (by rw [x2.2.2.1]), F2, ?_, ⟨lq.1, by omega, by omega⟩, fun w => by have := hW w; omega, fun w => ?_, fun j hj => ?_⟩
            · have C1 := hC.cx cm1
              unfold CT nms at C1 ⊢
              rw [x2.1 80 (by decide) (by decide), x2.1 82 (by decide) (by decide), x2.1 86 (by decide) (by decide), x2.2.1 20 (by decide) (by decide) (by decide) (by decide) (by decide) (by decide) (by decide) (by decide) (by decide)]
              exact C1
            · obtain ⟨a, b⟩ := hN w
              exact ⟨⟨(a.cx cm1).1.of (x2.1 79 (by decide) (by decide)) (x2.1 83 (by decide) (by decide)) (x2.1 84 (by decide) (by decide)) (by rw [x2.2.2.1]), (a.cx cm1).2.of (fun k e => x2.1 k (by omega) (by omega))⟩, b⟩
            · unfold lTl
              by_cases ej : (j : Int) = K n - 3
              · have ejk : j = k := by omega
                rw [if_pos ⟨⟨k3, k6⟩, ej⟩, ejk]
                have g1 : gst n = (0, n + 1) := by
                  have := (rb_z (show (rb (gst n) (fun n => rb (gnd K 61 n) (gIf K 4))).1 = 0 by rw [gT] at zz; exact zz)).1
                  exact (gst_z this).1
                have l := lr2 zz
                rw [g1] at l
                exact l
              · rw [if_neg (fun q => ej q.2)]
                have lj := (hD.cx cm1) j hj
                exact lj.on (xx2.1 (4 * s + j) (by omega)).1 (xx2.1 (4 * s + j) (by omega)).2 (fun c i h1 h2 h3 => xx2.2.1 c i h1 h2 (Or.inl h3)) (fun i h => xx2.2.2 i (Or.inl h)) (by omega) (by omega)
          · have mT : mTell K V n st = ((0, 0), st) := by
              unfold mTell
              rw [if_neg (by omega), if_neg (by omega), if_neg (by omega), if_neg (by omega), if_neg (by omega), if_neg (by omega)]
            rw [mT]
            exact ⟨fun _ => ⟨w, rfl⟩, fun q => absurd rfl q⟩
        · exact hB zz m2 W s2 F2
    · have z : r.1 ≠ 0 := fun z => by have := f.2.mpr z; omega
      have er := h1 z
      rw [er] at hr z
      exact hB z mm W hr (hF.cx cm)
  have l349 : ∀ x1 : Int32, gTell K cf cw cu n = (1, n) → j_X12_tellOne_70_349 8 x1 m Q := fun x1 gT => by
    refine v_X12_tellOne_70_349 (Wp.deep (q_fail hR hS (c := 1) (by decide) (by decide) (fun m1 c1 _ h1 => l354 x1 m1 (1, n) c1 h1 (fun q => absurd q (Nat.succ_ne_zero 0)) (fun _ => gT.symm))) (Nat.le_of_ble_eq_true rfl))
  have law : (m.1 73 (m.1 70 11).toNatClampNeg).toInt < 20 ∨ 29 < (m.1 73 (m.1 70 11).toNatClampNeg).toInt ∨ (23 ≤ (m.1 73 (m.1 70 11).toNatClampNeg).toInt ∧ (m.1 73 (m.1 70 11).toNatClampNeg).toInt ≤ 26) → ((0 ≤ (m.1 70 11).toInt ∧ (m.1 70 11).toInt < 403) ∧ ((((m.1 73 (m.1 70 11).toNatClampNeg) - (23 : Int32)).toInt < 0 → j_X12_tellOne_70_349 (7 + 1) ((m.1 73 (m.1 70 11).toNatClampNeg) - (23 : Int32)) m Q) ∧ (0 ≤ ((m.1 73 (m.1 70 11).toNatClampNeg) - (23 : Int32)).toInt → ((0 ≤ (m.1 70 11).toInt ∧ (m.1 70 11).toInt < 403) ∧ (((m.1 73 (m.1 70 11).toNatClampNeg).toInt ≤ 26 → j_X12_tellOne_70_354 (7 + 1) ((m.1 73 (m.1 70 11).toNatClampNeg) - (23 : Int32)) m Q) ∧ (26 < (m.1 73 (m.1 70 11).toNatClampNeg).toInt → j_X12_tellOne_70_349 (7 + 1) ((m.1 73 (m.1 70 11).toNatClampNeg) - (23 : Int32)) m Q)))))) := fun hkd => by
    have f := dSubE (X := (m.1 73 (m.1 70 11).toNatClampNeg).toInt) (Y := 23) (x := m.1 73 (m.1 70 11).toNatClampNeg) (y := (23 : Int32)) rfl (by decide) (by omega) (by omega)
    have no : (m.1 73 (m.1 70 11).toNatClampNeg).toInt < 20 ∨ 29 < (m.1 73 (m.1 70 11).toNatClampNeg).toInt → gTell K cf cw cu n = (1, n) := fun o => by
      have nk : ¬ (0 ≤ K n ∧ K n ≤ 9) := fun q => by
        have := ra2 (by omega)
        omega
      unfold gTell
      rw [if_neg (by omega), if_neg (by omega), if_neg (by omega), if_neg (by omega), if_neg (by omega), if_neg (by omega)]
    refine ⟨tr, fun q => l349 _ (no (by omega)), fun q => ⟨tr, fun q2 => ?_, fun q2 => l349 _ (no (by omega))⟩⟩
    have := ra1 (by omega)
    have := ra2 this
    exact l354 _ m (0, n) (Cx.rf m) hS (fun _ => ⟨rfl, by omega, by omega, by omega⟩) (fun q => absurd rfl q)
  -- a number, or two
  have one : ∀ (k : Nat) (hi : Int32) (hh : Int) (z : Option Nat × Option Nat × Option Nat), (k = 93 ∨ k = 94) → hi.toInt = hh → (K n = 8 ∨ K n = 9) → mTell K V n st = bnd V (n + 1) 0 hh ((0, 0), (st.1, st.2.1, st.2.2.1, z)) st → (∀ mm : dM, mm.1 k s = (V (n + 1)).toInt32 → (∀ a : Nat, a ≠ 70 → a ≠ k → mm.1 a = m.1 a) → HM V s st m → HM V s (st.1, st.2.1, st.2.2.1, z) mm) → c_X12_goesOn_70 7 m (fun m13 => c_X12_bounded_70 7 (0 : Int32) hi m13 (fun r14 m14 => ((0 ≤ (m13.1 70 19).toInt ∧ (m13.1 70 19).toInt < 2) ∧ c_X12_must_70 7 (4 : Int32) (dSet m14 k (m13.1 70 19).toNatClampNeg r14) (fun m15 => j_X12_tellOne_70_371 (7 + 1) m15 Q)))) := by
    intro k hi hh z hk ehi hK mT hz
    have gT : gTell K cf cw cu n = rb (rb (gst n) (gnd K 23)) (gnd K 59) := by
      unfold gTell
      rw [if_neg (by omega), if_neg (by omega), if_neg (by omega), if_neg (by omega), if_neg (by omega), if_pos hK, gsq_r, gsq_r, rb_id]
    refine Wp.deep (q_goesOn hR hS (fun _ => by show K n ≠ 24 ∧ K n ≠ 25; omega) (fun m1 c1 s1 => ?_)) (Nat.le_of_ble_eq_true rfl)
    have s1 : ST K P m1 (gst n) W := s1
    have sd1 := (hF.cx c1).sd hsd
    refine Wp.deep (q_bounded hv hP (hR.cx c1) s1 (fun z1 w => by rw [(gst_z z1).1]; have := hW w; show W.2 < n + 1; omega) (fun r2 m2 W2 c2 s2 hw2 => ⟨by omega, ?_⟩)) (Nat.le_of_ble_eq_true rfl)
    rw [sd1.2]
    have U2 : VFv s m (dSet m2 k s r2) := (VFv.of (c1.tr c2)).set (by omega) rfl
    have S2 : ST K P (dSet m2 k s r2) (rb (gst n) (gnd K 23)) W2 := s2.k (by omega)
    have A2 : (dSet m2 k s r2).1 k s = r2 := dSet_s _ _ _ _
    have B2 : ∀ a : Nat, a ≠ 70 → a ≠ k → (dSet m2 k s r2).1 a = m.1 a := fun a e1 e2 => by rw [dSet_k e2, c2.1 a e1, c1.1 a e1]
    generalize dSet m2 k s r2 = M2 at U2 S2 A2 B2 ⊢
    refine Wp.deep (q_must (k := 59) hv (hR.vf U2.1) S2 (by decide) (by unfold vk; omega) (by decide) (fun m3 c3 s3 => fin m3 ?_)) (Nat.le_of_ble_eq_true rfl)
    rw [← gT] at s3
    have U3 := U2.cx c3
    by_cases zz : (gTell K cf cw cu n).1 = 0
    · have z3 := zz
      rw [gT] at z3
      have z2 := (rb_z z3).1
      have z1 := (rb_z z2).1
      have g1 := (gst_z z1).1
      have hw2' := hw2 z2
      rw [g1] at hw2'
      have eT : gTell K cf cw cu n = (0, n + 3) := by
        rw [gT]
        rw [g1, rb_0] at z2 z3 ⊢
        rw [(gnd_0 z2).1, rb_0] at z3 ⊢
        rw [(gnd_0 z3).1]
      rw [eT] at s3
      have eW : W2 = bX V 0 hh (n + 1) W := by rw [hw2'.2]; unfold bX; rw [ehi]; rfl
      have cc := ct0 (K n) (by omega)
      refine hG zz m3 W2 (st.1, st.2.1, st.2.2.1, z) ?_ ⟨fun w => by rw [eW, bX_n w], fun w => ?_⟩
      · rw [cc.1, cc.2.1, cc.2.2, eT]
        rw [lTl_n (by omega)]
        refine hT.fin hL U3 s3 (by omega) ?_ (fun w => ?_) (fun _ => hz m3 (by rw [c3.1 k (by omega), A2]; exact hw2'.1) (fun a e1 e2 => by rw [c3.1 a e1, B2 a e1 e2]))
        · rw [eW]; exact bX_lt (fun w => by have := hW w; omega) (by omega)
        · by_cases q : W.1 = 0
          · exact q
          · rw [eW, bX_n q] at w; exact w
      · rw [mT, eW]
        unfold bnd bX
        by_cases inb : (0 : Int) ≤ iV V (n + 1) ∧ iV V (n + 1) ≤ hh
        · rw [if_pos inb, if_pos inb]; exact ⟨fun _ => ⟨w, rfl⟩, fun q => absurd rfl q⟩
        · rw [if_neg inb, if_neg inb, wadd_z w]; exact ⟨fun q => absurd q (Nat.succ_ne_zero 4), fun _ => rfl⟩
    · exact hB zz m3 W2 s3 (hF.vf hL U3)
  refine v_X12_tellOne_70 ⟨tr, fun q => ⟨by omega, x_flat hL hsd hv hP hT (kn 0 (by decide) q) hB (fun z m' W' st' T' wn => hG z m' W' st' (by rw [lTl_n (by have := kn 0 (by decide) q; omega)]; exact T') wn) fin⟩, fun q => ⟨by omega, ?_⟩, fun q => ⟨by omega, ?_⟩, fun q => law (by omega), fun q => law (by omega), fun q => law (by omega), fun q => law (by omega), fun q => ?_, fun q => ?_, fun q => ?_, fun q => law (by omega)⟩
  · have hk := kn 1 (by decide) q
    have gT : gTell K cf cw cu n = if 10 ≤ cw then (2, n) else rb (gst n) (gsq K [22, 22, 23, 59]) := by unfold gTell; rw [if_neg (by omega), if_pos hk]
    rw [sd.2]
    refine Wp.deep (q_roomFor (most := 10) hR hS (by omega) hC.2.1 (by decide) hC5.2.1 (fun m1 c1 h1 => ?_)) (Nat.le_of_ble_eq_true rfl)
    have f1 := h1.fl
    have e13 : (m1.1 70 13).toInt = flt m1 := rfl
    refine ⟨fun q2 => fin m1 ?_, fun q2 => ?_⟩
    · have z : (if 10 ≤ cw then ((2, n) : gR) else gst n).1 ≠ 0 := fun z => q2 (f1.2.mpr z)
      have eT : gTell K cf cw cu n = if 10 ≤ cw then (2, n) else gst n := by
        rw [gT]
        by_cases q7 : 10 ≤ cw
        · rw [if_pos q7, if_pos q7]
        · rw [if_neg q7] at z
          rw [if_neg q7, if_neg q7, rb_f z]
      exact hB (by rw [eT]; exact z) m1 W (by rw [eT]; exact h1) (hF.cx c1)
    · have z1 : (if 10 ≤ cw then ((2, n) : gR) else gst n).1 = 0 := f1.2.mp q2
      have c7 : ¬ 10 ≤ cw := fun q7 => by rw [if_pos q7] at z1; exact absurd z1 (Nat.succ_ne_zero 1)
      rw [if_neg c7] at z1 h1 gT
      have g1 := gst_z z1
      rw [g1.1] at h1 gT
      rw [rb_0] at gT
      have t1 : tt m1 = ((n + 1 : Nat) : Int) := (h1.1 rfl).2.1
      have t0 : tt m = (n : Int) := b2
      refine Wp.deep (x_wire (st := st) hL hsd hv hP h1 (hR.cx c1) (hF.cx c1) (hC.cx c1) (by omega) (hLQ.j (c1.2.1 12 (by decide) (by decide) (by decide) (by decide) (by decide)) (c1.2.1 46 (by decide) (by decide) (by decide) (by decide) (by decide)) (c1.2.1 40 (by decide) (by decide) (by decide) (by decide) (by decide)) (by omega)) hW (fun w => ⟨(hN w).1.cx c1, (hN w).2⟩) (hD.cx c1) (fun z m' W' s' F' => fin m' (hB (by rw [gT]; exact z) m' W' (by rw [gT]; exact s') F')) (fun z m' W' st' T' M' => fin m' (hG (by rw [gT]; exact z) m' W' st' ?_ ?_))) (Nat.le_of_ble_eq_true rfl)
      · have e := (gsq_z _ _ z).1
        rw [gT, e, lTl_n (by omega), hk]
        exact T'
      · have mT : mTell K V n st = mWire V n st := by unfold mTell; rw [if_neg (by omega), if_pos hk]
        unfold WN
        rw [mT]
        exact M'
  · have hk := kn 2 (by decide) q
    have gT : gTell K cf cw cu n = if 8 ≤ cu then (2, n) else rb (gst n) (gsq K [22, 22, 23, 23, 23, 59]) := by unfold gTell; rw [if_neg (by omega), if_neg (by omega), if_pos hk]
    rw [sd.2]
    refine Wp.deep (q_roomFor (most := 8) hR hS (by omega) hC.2.2.1 (by decide) hC5.2.2 (fun m1 c1 h1 => ?_)) (Nat.le_of_ble_eq_true rfl)
    have f1 := h1.fl
    have e13 : (m1.1 70 13).toInt = flt m1 := rfl
    refine ⟨fun q2 => fin m1 ?_, fun q2 => ?_⟩
    · have z : (if 8 ≤ cu then ((2, n) : gR) else gst n).1 ≠ 0 := fun z => q2 (f1.2.mpr z)
      have eT : gTell K cf cw cu n = if 8 ≤ cu then (2, n) else gst n := by
        rw [gT]
        by_cases q7 : 8 ≤ cu
        · rw [if_pos q7, if_pos q7]
        · rw [if_neg q7] at z
          rw [if_neg q7, if_neg q7, rb_f z]
      exact hB (by rw [eT]; exact z) m1 W (by rw [eT]; exact h1) (hF.cx c1)
    · have z1 : (if 8 ≤ cu then ((2, n) : gR) else gst n).1 = 0 := f1.2.mp q2
      have c7 : ¬ 8 ≤ cu := fun q7 => by rw [if_pos q7] at z1; exact absurd z1 (Nat.succ_ne_zero 1)
      rw [if_neg c7] at z1 h1 gT
      have g1 := gst_z z1
      rw [g1.1] at h1 gT
      rw [rb_0] at gT
      have t1 : tt m1 = ((n + 1 : Nat) : Int) := (h1.1 rfl).2.1
      have t0 : tt m = (n : Int) := b2
      refine Wp.deep (x_use (st := st) hL hsd hv hP h1 (hR.cx c1) (hF.cx c1) (hC.cx c1) (by omega) (hLQ.j (c1.2.1 12 (by decide) (by decide) (by decide) (by decide) (by decide)) (c1.2.1 46 (by decide) (by decide) (by decide) (by decide) (by decide)) (c1.2.1 40 (by decide) (by decide) (by decide) (by decide) (by decide)) (by omega)) hW (fun w => ⟨(hN w).1.cx c1, (hN w).2⟩) (hD.cx c1) (fun z m' W' s' F' => fin m' (hB (by rw [gT]; exact z) m' W' (by rw [gT]; exact s') F')) (fun z m' W' st' T' M' => fin m' (hG (by rw [gT]; exact z) m' W' st' ?_ ?_))) (Nat.le_of_ble_eq_true rfl)
      · have e := (gsq_z _ _ z).1
        rw [gT, e, lTl_n (by omega), hk]
        exact T'
      · have mT : mTell K V n st = mUse V n st := by unfold mTell; rw [if_neg (by omega), if_neg (by omega), if_pos hk]
        unfold WN
        rw [mT]
        exact M'
  · have hk := kn 7 (by decide) q
    have gT : gTell K cf cw cu n = rb (rb (rb (gst n) (gnd K 23)) (gnd K 23)) (gnd K 59) := by
      unfold gTell
      rw [if_neg (by omega), if_neg (by omega), if_neg (by omega), if_neg (by omega), if_pos hk, gsq_r, gsq_r, gsq_r, rb_id]
    have mT : mTell K V n st = bnd V (n + 1) 0 100 (bnd V (n + 2) 0 19 ((0, 0), (st.1, st.2.1, st.2.2.1, (some n, st.2.2.2.2))) st) st := by
      unfold mTell
      rw [if_neg (by omega), if_neg (by omega), if_neg (by omega), if_pos hk]
    refine Wp.deep (q_goesOn hR hS (fun _ => by show K n ≠ 24 ∧ K n ≠ 25; omega) (fun m1 c1 s1 => ?_)) (Nat.le_of_ble_eq_true rfl)
    have s1 : ST K P m1 (gst n) W := s1
    have sd1 := (hF.cx c1).sd hsd
    refine Wp.deep (q_bounded hv hP (hR.cx c1) s1 (fun z1 w => by rw [(gst_z z1).1]; have := hW w; show W.2 < n + 1; omega) (fun r2 m2 W2 c2 s2 hw2 => ⟨by omega, ?_⟩)) (Nat.le_of_ble_eq_true rfl)
    have sd2 := (hF.cx (c1.tr c2)).sd hsd
    rw [sd1.2]
    have U2 : VFv s m (dSet m2 91 s r2) := (VFv.of (c1.tr c2)).set (by decide) rfl
    have S2 : ST K P (dSet m2 91 s r2) (rb (gst n) (gnd K 23)) W2 := s2.k (by decide)
    have A2 : (dSet m2 91 s r2).1 91 s = r2 := dSet_s _ _ _ _
    have B2 : ∀ a : Nat, a ≠ 70 → a ≠ 91 → (dSet m2 91 s r2).1 a = m.1 a := fun a e1 e2 => by rw [dSet_k e2, c2.1 a e1, c1.1 a e1]
    generalize dSet m2 91 s r2 = M2 at U2 S2 A2 B2 ⊢
    have hw2' : (rb (gst n) (gnd K 23)).1 = 0 → rb (gst n) (gnd K 23) = (0, n + 2) ∧ W2 = bX V 0 100 (n + 1) W := fun z2 => by
      have a := hw2 z2
      have z1 := (rb_z z2).1
      rw [(gst_z z1).1] at a z2 ⊢
      exact ⟨(gnd_0 z2).1, a.2⟩
    refine Wp.deep (q_bounded hv hP (hR.vf U2.1) S2 (fun z w => by rw [(hw2' z).1]; rw [(hw2' z).2] at w ⊢; exact bX_lt (fun w => by have := hW w; omega) (by omega) w) (fun r3 m3 W3 c3 s3 hw3 => ⟨by omega, ?_⟩)) (Nat.le_of_ble_eq_true rfl)
    rw [sd2.2]
    have U3 : VFv s m (dSet m3 92 s r3) := (U2.cx c3).set (by decide) rfl
    have S3 : ST K P (dSet m3 92 s r3) (rb (rb (gst n) (gnd K 23)) (gnd K 23)) W3 := s3.k (by decide)
    have A3 : (dSet m3 92 s r3).1 92 s = r3 ∧ (dSet m3 92 s r3).1 91 s = r2 := ⟨dSet_s _ _ _ _, by rw [dSet_k (by decide), c3.1 91 (by decide), A2]⟩
    have B3 : ∀ a : Nat, a ≠ 70 → a ≠ 91 → a ≠ 92 → (dSet m3 92 s r3).1 a = m.1 a := fun a e1 e2 e3 => by rw [dSet_k e3, c3.1 a e1, B2 a e1 e2]
    generalize dSet m3 92 s r3 = M3 at U3 S3 A3 B3 ⊢
    have hw3' : (rb (rb (gst n) (gnd K 23)) (gnd K 23)).1 = 0 → rb (rb (gst n) (gnd K 23)) (gnd K 23) = (0, n + 3) ∧ W3 = bX V 0 19 (n + 2) W2 := fun z3 => by
      have a := hw3 z3
      have z2 := (rb_z z3).1
      rw [(hw2' z2).1] at a z3 ⊢
      exact ⟨(gnd_0 z3).1, a.2⟩
    refine Wp.deep (q_must (k := 59) hv (hR.vf U3.1) S3 (by decide) (by unfold vk; omega) (by decide) (fun m4 c4 s4 => fin m4 ?_)) (Nat.le_of_ble_eq_true rfl)
    rw [← gT] at s4
    have U4 := U3.cx c4
    by_cases zz : (gTell K cf cw cu n).1 = 0
    · have z4 := zz
      rw [gT] at z4
      have z3 := (rb_z z4).1
      have z2 := (rb_z z3).1
      have eT : gTell K cf cw cu n = (0, n + 4) := by
        rw [gT]
        rw [(hw3' z3).1, rb_0] at z4 ⊢
        rw [(gnd_0 z4).1]
      rw [eT] at s4
      have e2 := (hw2' z2).2
      have e3 := (hw3' z3).2
      have cc := ct0 (K n) (by omega)
      refine hG zz m4 W3 (st.1, st.2.1, st.2.2.1, (some n, st.2.2.2.2)) ?_ ⟨fun w => by rw [e3, e2, bX_n w, bX_n w], fun w => ?_⟩
      · rw [cc.1, cc.2.1, cc.2.2, eT]
        have v2 : r2 = (V (n + 1)).toInt32 := by
          have a := (hw2 z2).1
          rw [(gst_z (rb_z z2).1).1] at a
          exact a
        have v3 : r3 = (V (n + 2)).toInt32 := by
          have a := (hw3 z3).1
          rw [(hw2' z2).1] at a
          exact a
        rw [lTl_n (by omega)]
        refine hT.fin hL U4 s4 (by omega) ?_ (fun w => ?_) (fun _ hm => hm.sur (by rw [c4.1 91 (by decide), A3.2, v2]) (by rw [c4.1 92 (by decide), A3.1, v3]) (fun k e => by rw [c4.1 k (by omega), B3 k (by omega) (by omega) (by omega)]))
        · rw [e3, e2]; exact bX_lt (bX_lt (fun w => by have := hW w; omega) (by omega)) (by omega)
        · by_cases q0 : W.1 = 0
          · exact q0
          · rw [e3, e2, bX_n q0, bX_n q0] at w; exact w
      · rw [mT, e3, e2]
        unfold bnd bX
        by_cases b1 : (0 : Int) ≤ iV V (n + 1) ∧ iV V (n + 1) ≤ 100
        · rw [if_pos b1, if_pos b1]
          by_cases b2 : (0 : Int) ≤ iV V (n + 2) ∧ iV V (n + 2) ≤ 19
          · rw [if_pos b2, if_pos b2]; exact ⟨fun _ => ⟨w, rfl⟩, fun q => absurd rfl q⟩
          · rw [if_neg b2, if_neg b2, wadd_z w]; exact ⟨fun q => absurd q (Nat.succ_ne_zero 4), fun _ => rfl⟩
        · rw [if_neg b1, if_neg b1, wadd_z w]
          refine ⟨fun q => absurd q (Nat.succ_ne_zero 4), fun _ => ?_⟩
          split
          · rfl
          · exact wadd_n (Nat.succ_ne_zero 4)
    · exact hB zz m4 W3 s4 (hF.vf hL U4)
  · have hk := kn 8 (by decide) q
    refine one 93 _ 999 (st.2.2.2.1, some n, st.2.2.2.2.2) (Or.inl rfl) (by decide) (Or.inl hk) ?_ (fun mm e1 e2 hm => hm.coi e1 (fun k e => e2 k (by omega) (by omega)))
    unfold mTell
    rw [if_neg (by omega), if_neg (by omega), if_neg (by omega), if_neg (by omega), if_pos hk]
  · have hk := kn 9 (by decide) q
    refine one 94 _ 9999 (st.2.2.2.1, st.2.2.2.2.1, some n) (Or.inr rfl) (by decide) (Or.inr hk) ?_ (fun mm e1 e2 hm => hm.see e1 (fun k e => e2 k (by omega) (by omega)))
    unfold mTell
    rw [if_neg (by omega), if_neg (by omega), if_neg (by omega), if_neg (by omega), if_neg (by omega), if_pos hk]
end ROV
end
section
/-! THE REFERENCE's read: all of a text told -/
section RAV
variable {K : Nat → Int} {V : Nat → Int64} {P : Nat → Nat} {m0 m : dM} {L s : Nat} {Q : Int32 → dM → Prop}
def TFv (K : Nat → Int) (V : Nat → Int64) (P : Nat → Nat) (m0 : dM) (L s : Nat) (G : gR) (M : gR × mSt) (DX : Nat → lD) (m : dM) : Prop := ∃ W : gR, ST K P m G W ∧ FXv m0 L m ∧ (G.1 = 0 → ((0 ≤ (m.1 82 s).toInt ∧ (m.1 82 s).toInt ≤ 10) ∧ (0 ≤ (m.1 86 s).toInt ∧ (m.1 86 s).toInt ≤ 8)) ∧ (M.1.1 = 0 → W.1 = 0 ∧ (m.1 80 s).toInt = (M.2.1.length : Int) ∧ NH V s M.2 m ∧ (m.1 82 s).toInt = (M.2.2.1.length : Int) ∧ (m.1 86 s).toInt = (M.2.2.2.1.length : Int)) ∧ (M.1.1 ≠ 0 → W = M.1) ∧ LDs m s DX ∧ (m.1 80 s).toInt ≤ 7)
theorem x_112 (hL : L + s = 1) (hsd : (m0.1 70 19).toInt = (s : Int)) (hv : ∀ i, vk (K i)) (hP : ∀ i j : Nat, i < j → lvK K j → P i < P j) (hV : ∀ n : Nat, K n = 23 → 0 ≤ (V n).toInt32.toInt ∧ (V n).toInt32.toInt ≤ 9999) {DX : Nat → lD} {G : gR} {M : gR × mSt} (hE : ∀ m', TFv K V P m0 L s G M DX m' → j_X12_read_70_134 9 m' Q) : ∀ (f cf cw cu n : Nat) (W : gR) (st : mSt) (Ds : Nat → lD) (m : dM), 401 ≤ f + n → TIv K V P m0 L s cf cw cu n W st Ds m → lAll K V f cf cw cu n Ds = DX → gAll K f cf cw cu n = G → (W.1 = 0 → mAll K V f n st = M) → (W.1 ≠ 0 → W = M.1) → j_X12_read_70_112 9 m Q := by
  intro f
  induction f with
  | zero =>
    intro cf cw cu n W st Ds m hf hT hA hg hm1 hm2
    have : n ≤ 400 := (hT.1.1 rfl).2.2.1
    exfalso; omega
  | succ f ih =>
    intro cf cw cu n W st Ds m hf hT hA hg hm1 hm2
    have hT' := hT
    obtain ⟨hS, hR, hF, hC, hLQ, hW, hN, hD⟩ := hT'
    have f0 : flt m = 0 := hS.fl.2.mpr rfl
    have hC5 := hC.2.2.2.2
    refine v_X12_read_70_112 ⟨fun q => absurd f0 q, fun _ => ?_⟩
    refine Wp.deep (q_is (k := 24) hv hR hS (by decide) (by unfold vk; omega) (fun _ h24 => ⟨fun _ => hE m ⟨W, ?_⟩, fun q => absurd q (by decide)⟩) (fun h24 => ⟨fun q => absurd rfl q, fun _ => ?_⟩)) (Nat.le_of_ble_eq_true rfl)
    · have h24 : K n = 24 := h24
      have eG : G = (0, n) := by rw [← hg]; show (if K n = 24 then _ else _) = _; rw [if_pos h24]
      rw [eG]
      refine ⟨hS, hF, fun _ => ⟨⟨by have := hC.2.1; omega, by have := hC.2.2.1; omega⟩, fun z => ?_, fun z => ?_, ?_, by have := hC.1; omega⟩⟩
      rotate_left 2
      · have eA : lAll K V (f + 1) cf cw cu n Ds = Ds := by show (if K n = 24 then _ else _) = _; rw [if_pos h24]
        rw [← hA, eA]; exact hD
      · by_cases w0 : W.1 = 0
        · have eM : M = ((0, 0), st) := by rw [← hm1 w0]; show (if K n = 24 then _ else _) = _; rw [if_pos h24]
          rw [eM]
          exact ⟨w0, by show (m.1 80 s).toInt = (st.1.length : Int); rw [(hN w0).2.1]; exact hC.1, (hN w0).1, by show (m.1 82 s).toInt = (st.2.1.length : Int); rw [(hN w0).2.2.1]; exact hC.2.1, by show (m.1 86 s).toInt = (st.2.2.1.length : Int); rw [(hN w0).2.2.2]; exact hC.2.2.1⟩
        · have := hm2 w0
          rw [this] at w0
          exact absurd z w0
      · by_cases w0 : W.1 = 0
        · have eM : M = ((0, 0), st) := by rw [← hm1 w0]; show (if K n = 24 then _ else _) = _; rw [if_pos h24]
          rw [eM] at z
          exact absurd rfl z
        · exact hm2 w0
    · have h24 : K n ≠ 24 := fun e => h24 ⟨rfl, e⟩
      have eG : G = rb (gTell K cf cw cu n) (fun n' => gAll K f (cf + ct (K n) 0) (cw + ct (K n) 1) (cu + ct (K n) 2) n') := by rw [← hg]; show (if K n = 24 then _ else _) = _; rw [if_neg h24]
      have eA : lAll K V (f + 1) cf cw cu n Ds = lAll K V f (cf + ct (K n) 0) (cw + ct (K n) 1) (cu + ct (K n) 2) (gTell K cf cw cu n).2 (lTl K V n Ds) := by show (if K n = 24 then _ else _) = _; rw [if_neg h24]
      refine x_one hL hsd hv hP hV hT (fun z m' W' s' F' => ?_) (fun z m' W' st' T' wn => ?_)
      · rw [rb_f z] at eG
        rw [← eG] at s' z
        have f1 := s'.fl
        exact v_X12_read_70_112 ⟨fun _ => hE m' ⟨W', s', F', fun q => absurd q z⟩, fun q => absurd (f1.2.mp q) z⟩
      · rw [rb_k z] at eG
        have nlt : n < (gTell K cf cw cu n).2 := gTell_lt z
        refine ih _ _ _ _ W' st' _ m' (by omega) T' (by rw [← eA]; exact hA) eG.symm (fun w => ?_) (fun w => ?_)
        · by_cases w0 : W.1 = 0
          · have hm := hm1 w0
            have hl := (hN w0).2
            have e2 := wn.2 w0
            have eM : mAll K V (f + 1) n st = mGo (mTell K V n st) (fun s' => mAll K V f (gTell K st.1.length st.2.1.length st.2.2.1.length n).2 s') := by show (if K n = 24 then _ else _) = _; rw [if_neg h24]
            by_cases z2 : (mTell K V n st).1.1 = 0
            · rw [eM, mGo_k z2, hl.1, hl.2.1, hl.2.2] at hm
              rw [(e2.1 z2).2]
              exact hm
            · have := e2.2 z2
              rw [this] at w
              exact absurd w z2
          · have := wn.1 w0
            rw [this] at w
            exact absurd w w0
        · by_cases w0 : W.1 = 0
          · have hm := hm1 w0
            have e2 := wn.2 w0
            have eM : mAll K V (f + 1) n st = mGo (mTell K V n st) (fun s' => mAll K V f (gTell K st.1.length st.2.1.length st.2.2.1.length n).2 s') := by show (if K n = 24 then _ else _) = _; rw [if_neg h24]
            by_cases z2 : (mTell K V n st).1.1 = 0
            · exact absurd (e2.1 z2).1 w
            · rw [eM, mGo_f z2] at hm
              rw [← hm]
              exact e2.2 z2
          · rw [wn.1 w0]
            exact hm2 w0
end RAV
section RPL
variable {m : dM} {L s : Nat}
/-- the side s laid empty -/
theorem x_plain {x1 : Int32} {Q : dM → Prop} (hs : s ≤ 1) (hx : x1.toInt = (s : Int)) (hQ : ∀ m' : dM, (∀ k : Nat, k ≠ 80 → k ≠ 82 → k ≠ 86 → ¬ (91 ≤ k ∧ k ≤ 96) → m'.1 k = m.1 k) → m'.2 = m.2 → (∀ k j : Nat, k < 95 → j ≠ s → m'.1 k j = m.1 k j) → (∀ k j : Nat, k = 95 ∨ k = 96 → ¬ (4 * s ≤ j ∧ j < 4 * s + 4) → m'.1 k j = m.1 k j) → (m'.1 80 s = 0 ∧ m'.1 82 s = 0 ∧ m'.1 86 s = 0) ∧ (m'.1 91 s = 0 ∧ m'.1 92 s = 0 ∧ m'.1 93 s = 100 ∧ m'.1 94 s = 0) → (∀ j : Nat, j < 4 → m'.1 95 (4 * s + j) = 0 ∧ m'.1 96 (4 * s + j) = 0) → Q m') : c_X12_plain_70 1 x1 m Q := by
  have loop : ∀ (f i : Nat) (x2 : Int32) (M : dM), i + f = 4 → x2.toInt = (i : Int) → (∀ k : Nat, k ≠ 80 → k ≠ 82 → k ≠ 86 → ¬ (91 ≤ k ∧ k ≤ 96) → M.1 k = m.1 k) → M.2 = m.2 → (∀ k j : Nat, k < 95 → j ≠ s → M.1 k j = m.1 k j) → (∀ k j : Nat, k = 95 ∨ k = 96 → ¬ (4 * s ≤ j ∧ j < 4 * s + 4) → M.1 k j = m.1 k j) → (M.1 80 s = 0 ∧ M.1 82 s = 0 ∧ M.1 86 s = 0) ∧ (M.1 91 s = 0 ∧ M.1 92 s = 0 ∧ M.1 93 s = 100 ∧ M.1 94 s = 0) → (∀ j : Nat, j < i → M.1 95 (4 * s + j) = 0 ∧ M.1 96 (4 * s + j) = 0) → j_X12_plain_70_52 1 x1 x2 M Q := by
    intro f
    induction f with
    | zero =>
      intro i x2 M hi h2 a b c c2 d e
      exact v_X12_plain_70_52 ⟨fun _ => hQ M a b c c2 d (fun j hj => e j (by omega)), fun q => by exfalso; omega⟩
    | succ f ih =>
      intro i x2 M hi h2 a b c c2 d e
      have fa := y_idx (C := 4) (c := (4 : Int32)) (by decide) hx hs h2 (by decide) (by omega)
      refine v_X12_plain_70_52 ⟨fun q => by exfalso; omega, fun _ => ⟨by omega, by omega, ?_⟩⟩
      rw [d_cn fa]
      refine ih (i + 1) _ _ (by omega) (d_inc h2 (by omega)) (fun k e1 e2 e3 e4 => by rw [dSet_k (by omega), dSet_k (by omega)]; exact a k e1 e2 e3 e4) b (fun k j e1 e2 => by rw [dSet_k (by omega), dSet_k (by omega)]; exact c k j e1 e2) (fun k j e1 e2 => ?_) ?_ (fun j hj => ?_)
      · rw [dSet_e, dSet_e, if_neg (fun w => e2 (by omega)), if_neg (fun w => e2 (by omega))]
        exact c2 k j e1 e2
      · have fr : ∀ k : Nat, k ≠ 95 → k ≠ 96 → ∀ (a b : Nat) (v w : Int32), (dSet (dSet M 95 a v) 96 b w).1 k = M.1 k := fun k e1 e2 a b v w => by rw [dSet_k e2, dSet_k e1]
        rw [fr 80 (by decide) (by decide), fr 82 (by decide) (by decide), fr 86 (by decide) (by decide), fr 91 (by decide) (by decide), fr 92 (by decide) (by decide), fr 93 (by decide) (by decide), fr 94 (by decide) (by decide)]
        exact d
      · by_cases q : j = i
        · subst q
          rw [dSet_k (show 95 ≠ 96 by decide), dSet_s, dSet_s]
          exact ⟨rfl, rfl⟩
        · have := e j (by omega)
          rw [dSet_k (show 95 ≠ 96 by decide), dSet_j (by omega), dSet_j (by omega), dSet_k (show 96 ≠ 95 by decide)]
          exact this
  refine v_X12_plain_70 ⟨by omega, by omega, by omega, by omega, by omega, by omega, by omega, ?_⟩
  rw [d_cn hx]
  refine loop 4 0 _ _ rfl (by decide) (fun k e1 e2 e3 e4 => ?_) rfl (fun k j e1 e2 => ?_) (fun k j e1 _ => ?_) ⟨⟨?_, ?_, ?_⟩, ?_, ?_, ?_, ?_⟩ (fun j hj => absurd hj (Nat.not_lt_zero j))
  · rw [dSet_k (by omega), dSet_k (by omega), dSet_k (by omega), dSet_k (by omega), dSet_k e3, dSet_k e2, dSet_k e1]
  · rw [dSet_j e2, dSet_j e2, dSet_j e2, dSet_j e2, dSet_j e2, dSet_j e2, dSet_j e2]
  · rw [dSet_k (by omega), dSet_k (by omega), dSet_k (by omega), dSet_k (by omega), dSet_k (by omega), dSet_k (by omega), dSet_k (by omega)]
  · rw [dSet_k (by decide), dSet_k (by decide), dSet_k (by decide), dSet_k (by decide), dSet_k (by decide), dSet_k (by decide), dSet_s]
  · rw [dSet_k (by decide), dSet_k (by decide), dSet_k (by decide), dSet_k (by decide), dSet_k (by decide), dSet_s]
  · rw [dSet_k (by decide), dSet_k (by decide), dSet_k (by decide), dSet_k (by decide), dSet_s]
  · rw [dSet_k (by decide), dSet_k (by decide), dSet_k (by decide), dSet_s]
  · rw [dSet_k (by decide), dSet_k (by decide), dSet_s]
  · rw [dSet_k (by decide), dSet_s]
  · rw [dSet_s]
/-- the row of a beginning -/
def beR (m : dM) (s j : Nat) : Int32 := if (j : Int) < (m.1 82 s).toInt then m.1 85 (10 * s + j) else if j = 56 then m.1 93 s else if 47 ≤ j ∧ (j : Int) < 47 + (m.1 86 s).toInt then 1 else 0
theorem x_begins {Q : dM → Prop} (hs : s ≤ 1) (h18 : (m.1 70 18).toInt = (s : Int)) (h82 : 0 ≤ (m.1 82 s).toInt ∧ (m.1 82 s).toInt ≤ 10) (h86 : 0 ≤ (m.1 86 s).toInt ∧ (m.1 86 s).toInt ≤ 8) (hQ : ∀ m' : dM, BG m m' → m'.1 107 = m.1 107 → (∀ j : Nat, j < 58 → m'.1 108 j = beR m s j) → (m'.1 70 56 = m.1 94 s ∧ m'.1 70 57 = 0) → Q m') : c_X12_begins_70 1 m Q := by
  have l64 : ∀ (f i : Nat) (x1 : Int32) (M : dM), 8 < i + f → (i : Int) ≤ (m.1 86 s).toInt → x1.toInt = (i : Int) → BG m M → M.1 107 = m.1 107 → (∀ j : Nat, j < 58 → M.1 108 j = if (j : Int) < (m.1 82 s).toInt then m.1 85 (10 * s + j) else if 47 ≤ j ∧ j < 47 + i then 1 else 0) → j_X12_begins_70_64 1 x1 M Q := by
    intro f
    induction f with
    | zero => intro i x1 M a b; exfalso; omega
    | succ f ih =>
      intro i x1 M hf hi h1 hB h107 hR
      have e18 : (M.1 70 18).toInt = (s : Int) := by rw [hB.2.1 18 (by decide) (by decide)]; exact h18
      have e86 : M.1 86 s = m.1 86 s := by rw [hB.1 86 (by decide) (by decide) (by decide)]
      refine v_X12_begins_70_64 ⟨by omega, ?_⟩
      rw [d_cn e18, e86]
      have f47 := dAddE (X := 47) (Y := (i : Int)) (x := (47 : Int32)) (y := x1) (by decide) h1 (by omega) (by omega)
      refine ⟨fun q => ⟨by omega, by omega, hQ _ ?_ ?_ (fun j hj => ?_) ⟨?_, ?_⟩⟩, fun q => ⟨by omega, ?_⟩⟩
      · have h2 := hB.set (j := 56) (v := M.1 93 s) (k := 108) (Or.inr rfl)
        exact ⟨fun a e1 e2 e3 => by rw [dSet_k e1, dSet_k e1]; exact h2.1 a e1 e2 e3, fun a e1 e2 => by rw [dSet_j e2, dSet_j e1]; exact h2.2.1 a e1 e2, h2.2.2⟩
      · rw [dSet_k (by decide), dSet_k (by decide), dSet_k (by decide)]; exact h107
      · rw [dSet_k (by decide), dSet_k (by decide)]
        unfold beR
        by_cases q56 : j = 56
        · subst q56
          rw [dSet_s, if_neg (by omega), if_pos rfl, hB.1 93 (by decide) (by decide) (by decide)]
        · rw [dSet_j q56, hR j hj, if_neg q56]
          by_cases q1 : (j : Int) < (m.1 82 s).toInt
          · rw [if_pos q1, if_pos q1]
          · rw [if_neg q1, if_neg q1]
            by_cases q2 : 47 ≤ j ∧ j < 47 + i
            · rw [if_pos q2, if_pos (by omega)]
            · rw [if_neg q2, if_neg (by omega)]
      · rw [dSet_j (by decide), dSet_s]
        rw [hB.1 94 (by decide) (by decide) (by decide)]
      · rw [dSet_s]
      · have e47 : ((47 : Int32) + x1).toNatClampNeg = 47 + i := d_cn (by rw [f47]; omega)
        rw [e47]
        refine ih (i + 1) _ _ (by omega) (by omega) (d_inc h1 (by omega)) (hB.set (Or.inr rfl)) (by rw [dSet_k (by decide)]; exact h107) (fun j hj => ?_)
        by_cases qj : j = 47 + i
        · subst qj
          rw [dSet_s, if_neg (by omega), if_pos (by omega)]
        · rw [dSet_j qj, hR j hj]
          by_cases q1 : (j : Int) < (m.1 82 s).toInt
          · rw [if_pos q1, if_pos q1]
          · rw [if_neg q1, if_neg q1]
            by_cases q2 : 47 ≤ j ∧ j < 47 + i
            · rw [if_pos q2, if_pos (by omega)]
            · rw [if_neg q2, if_neg (by omega)]
  have l23 : ∀ (f i : Nat) (x1 : Int32) (M : dM), 10 < i + f → (i : Int) ≤ (m.1 82 s).toInt → x1.toInt = (i : Int) → BG m M → M.1 107 = m.1 107 → (∀ j : Nat, j < 58 → M.1 108 j = if j < i then m.1 85 (10 * s + j) else 0) → j_X12_begins_70_23 1 x1 M Q := by
    intro f
    induction f with
    | zero => intro i x1 M a b; exfalso; omega
    | succ f ih =>
      intro i x1 M hf hi h1 hB h107 hR
      have e18 : (M.1 70 18).toInt = (s : Int) := by rw [hB.2.1 18 (by decide) (by decide)]; exact h18
      have e82 : M.1 82 s = m.1 82 s := by rw [hB.1 82 (by decide) (by decide) (by decide)]
      refine v_X12_begins_70_23 ⟨by omega, ?_⟩
      rw [d_cn e18, e82]
      have fa := y_idx (C := 10) (c := (10 : Int32)) (by decide) e18 hs h1 (by decide) (by omega)
      refine ⟨fun q => l64 9 0 _ M (by omega) (by omega) (by decide) hB h107 (fun j hj => ?_), fun q => ⟨by omega, by omega, ?_⟩⟩
      · rw [hR j hj]
        by_cases q1 : j < i
        · rw [if_pos q1, if_pos (by omega)]
        · rw [if_neg q1, if_neg (by omega), if_neg (by omega)]
      · rw [d_cn fa, d_cn h1, hB.1 85 (by decide) (by decide) (by decide)]
        refine ih (i + 1) _ _ (by omega) (by omega) (d_inc h1 (by omega)) (hB.set (Or.inr rfl)) (by rw [dSet_k (by decide)]; exact h107) (fun j hj => ?_)
        by_cases qj : j = i
        · subst qj
          rw [dSet_s, if_pos (by omega)]
        · rw [dSet_j qj, hR j hj]
          by_cases q1 : j < i
          · rw [if_pos q1, if_pos (by omega)]
          · rw [if_neg q1, if_neg (by omega)]
  have l2 : ∀ (f i : Nat) (x1 : Int32) (M : dM), i + f = 58 → x1.toInt = (i : Int) → BG m M → M.1 107 = m.1 107 → (∀ j : Nat, j < i → M.1 108 j = 0) → j_X12_begins_70_2 1 x1 M Q := by
    intro f
    induction f with
    | zero =>
      intro i x1 M hi h1 hB h107 hR
      exact v_X12_begins_70_2 ⟨fun _ => l23 11 0 _ M (by omega) (by omega) (by decide) hB h107 (fun j hj => by rw [if_neg (Nat.not_lt_zero j)]; exact hR j (by omega)), fun q => by exfalso; omega⟩
    | succ f ih =>
      intro i x1 M hi h1 hB h107 hR
      refine v_X12_begins_70_2 ⟨fun q => by exfalso; omega, fun _ => ⟨by omega, ?_⟩⟩
      rw [d_cn h1]
      refine ih (i + 1) _ _ (by omega) (d_inc h1 (by omega)) (hB.set (Or.inr rfl)) (by rw [dSet_k (by decide)]; exact h107) (fun j hj => ?_)
      by_cases q : j = i
      · rw [q, dSet_s]
      · rw [dSet_j q]; exact hR j (by omega)
  exact v_X12_begins_70 (l2 58 0 _ m rfl (by decide) ⟨fun _ _ _ _ => rfl, fun _ _ _ => rfl, rfl⟩ rfl (fun j hj => absurd hj (Nat.not_lt_zero j)))
theorem x_keepsRow {Q : dM → Prop} (hQ : ∀ m' : dM, (∀ k : Nat, k ≠ 107 → m'.1 k = m.1 k) → m'.2 = m.2 → (∀ j : Nat, j < 58 → m'.1 107 j = m.1 108 j) → Q m') : c_X12_keepsRow_70 1 m Q := by
  have l2 : ∀ (f i : Nat) (x1 : Int32) (M : dM), i + f = 58 → x1.toInt = (i : Int) → (∀ k : Nat, k ≠ 107 → M.1 k = m.1 k) → M.2 = m.2 → (∀ j : Nat, j < i → M.1 107 j = m.1 108 j) → j_X12_keepsRow_70_2 1 x1 M Q := by
    intro f
    induction f with
    | zero => intro i x1 M hi h1 a b c; exact v_X12_keepsRow_70_2 ⟨fun _ => hQ M a b (fun j hj => c j (by omega)), fun q => by exfalso; omega⟩
    | succ f ih =>
      intro i x1 M hi h1 a b c
      refine v_X12_keepsRow_70_2 ⟨fun q => by exfalso; omega, fun _ => ⟨by omega, by omega, ?_⟩⟩
      rw [d_cn h1]
      refine ih (i + 1) _ _ (by omega) (d_inc h1 (by omega)) (fun k hk => by rw [dSet_k hk]; exact a k hk) b (fun j hj => ?_)
      by_cases q : j = i
      · rw [q, dSet_s, a 108 (by decide)]
      · rw [dSet_j q]; exact c j (by omega)
  exact v_X12_keepsRow_70 (l2 58 0 _ m rfl (by decide) (fun _ _ => rfl) rfl (fun j hj => absurd hj (Nat.not_lt_zero j)))
end RPL
end
section
/-! THE REFERENCE's read, in full -/
theorem lD0_1 (k : Nat) : (lD0 k).1 = 0 := Nat.zero_div 3
theorem lD0_ok (k : Nat) : lOk (lD0 k) := ⟨by rw [lD0_1]; omega, fun i hi => by
  rw [lD0_1] at hi
  have : i = 0 := by omega
  subst this
  exact wf_dfl k⟩
/-- the house told: its counts, its rows -/
def HV (V : Nat → Int64) (s : Nat) (st : mSt) (m : dM) : Prop := HM V s st m ∧ (∀ w : Nat, w < st.2.1.length → (m.1 83 (10 * s + w)).toInt = ((wE st w).1 : Int) ∧ (m.1 84 (10 * s + w)).toInt = ((wE st w).2 : Int)) ∧ (m.1 82 s).toInt = (st.2.1.length : Int) ∧ (m.1 86 s).toInt = (st.2.2.1.length : Int)
theorem HV.of {V : Nat → Int64} {s : Nat} {st : mSt} {m m' : dM} (h : HV V s st m) (hk : ∀ k : Nat, 81 ≤ k → k ≤ 94 → m'.1 k = m.1 k) : HV V s st m' := by
  obtain ⟨a, b, c, d⟩ := h
  refine ⟨a.of (fun k e => hk k (by omega) (by omega)), ?_, ?_, ?_⟩
  · rw [hk 83 (by decide) (by decide), hk 84 (by decide) (by decide)]; exact b
  · rw [hk 82 (by decide) (by decide)]; exact c
  · rw [hk 86 (by decide) (by decide)]; exact d
section RKL
variable {H : Ho} {S : Zt} {P : List Zt} {J : Nat → Zt} {m m' : dM} {s : Nat}
theorem LR.lv {k : Nat} {D : lD} (h : LR m s k D) (hk : k < 4) (hg : gLw m.1 s (m.1 95 (4 * s + k)).toInt (m.1 96 (4 * s + k)).toInt) (e : ∀ c j : Nat, lvS s c j → m'.1 c j = m.1 c j) : LR m' s k D := by
  obtain ⟨h1, h2⟩ := h
  refine ⟨h1, ?_⟩
  rw [e 95 (4 * s + k) (by unfold lvS; omega), e 96 (4 * s + k) (by unfold lvS; omega)]
  rcases h2 with h2 | ⟨b, a1, a2, a3, a5, a6, a7⟩
  · exact Or.inl h2
  · rcases hg with g | ⟨g1, g2, g3, g4⟩
    · exfalso; omega
    have eb : ∀ c i : Nat, 97 ≤ c → c ≤ 101 → i ≤ D.1 → m'.1 c (b + i) = m.1 c (b + i) := fun c i q1 q2 q3 => e c (b + i) (by unfold lvS; omega)
    have sb : ∀ (x y : Int32) (L : lC), SB m x y L → gPc m.1 s x.toInt y.toInt → SB m' x y L := fun x y L ⟨a, b1, b2, b3⟩ ⟨p1, p2, p3, p4, p5⟩ => ⟨a, b1, b2, b3.on (fun j q1 q2 => ⟨e 102 j (by unfold lvS; omega), e 103 j (by unfold lvS; omega)⟩)⟩
    refine Or.inr ⟨b, a1, a2, a3, fun i hi => ?_, ?_, ?_⟩
    · obtain ⟨c1, c2, c3, c4⟩ := a5 i hi
      obtain ⟨g5, g6⟩ := g4 (b + i) (by omega) (by omega)
      rw [eb 97 i (by omega) (by omega) (by omega), eb 98 i (by omega) (by omega) (by omega), eb 99 i (by omega) (by omega) (by omega), eb 100 i (by omega) (by omega) (by omega), eb 101 i (by omega) (by omega) (by omega)]
      exact ⟨c1, sb _ _ _ c2 (g5 c1).1, sb _ _ _ c3 (g5 c1).2, sb _ _ _ c4 g6⟩
    · rw [eb 97 D.1 (by omega) (by omega) (by omega)]; exact a6
    · obtain ⟨g5, g6⟩ := g4 (b + D.1) (by omega) (by omega)
      rw [eb 100 D.1 (by omega) (by omega) (by omega), eb 101 D.1 (by omega) (by omega) (by omega)]
      exact sb _ _ _ a7 g6
/-- a read that found a fault leaves it all -/
theorem KR.lv (h : KR H S P J s m) (hg : ∀ k : Nat, k < 4 → gLw m.1 s (m.1 95 (4 * s + k)).toInt (m.1 96 (4 * s + k)).toInt) (e : ∀ c j : Nat, lvS s c j → m'.1 c j = m.1 c j) (e5 : ∀ k : Nat, 105 ≤ k → m'.1 k = m.1 k) (e18 : m'.1 70 18 = m.1 70 18) (e61 : m'.1 70 61 = m.1 70 61) : KR H S P J s m' := by
  obtain ⟨⟨hO, hH, h86, h81, h85, h87, h91, hL⟩, hZ, hP, hS⟩ := h
  obtain ⟨⟨g1, g2⟩, ⟨g3, g4⟩, ⟨g5, g6⟩, g7⟩ := hH
  obtain ⟨o1, o2, o3, o4, o5, o6⟩ := hO
  refine ⟨⟨⟨o1, o2, o3, o4, o5, o6⟩, ⟨⟨by rw [e18]; exact g1, g2⟩, ⟨by rw [e 80 s (by unfold lvS; omega)]; exact g3, g4⟩, ⟨by rw [e 82 s (by unfold lvS; omega)]; exact g5, g6⟩, fun w hw => ?_⟩, ?_, fun f hf => ?_, fun w hw => ?_, fun u hu => ?_, ?_, fun k hk => (hL k hk).lv hk (hg k hk) e⟩, ?_, ?_, ?_⟩
  · rw [e 83 (10 * s + w) (by unfold lvS; omega), e 84 (10 * s + w) (by unfold lvS; omega)]; exact g7 w hw
  · rw [e 86 s (by unfold lvS; omega)]; exact h86
  · rw [e 81 (7 * s + f) (by unfold lvS; omega)]; exact h81 f hf
  · rw [e 85 (10 * s + w) (by unfold lvS; omega)]; exact h85 w hw
  · rw [e 87 (8 * s + u) (by unfold lvS; omega), e 88 (8 * s + u) (by unfold lvS; omega), e 89 (8 * s + u) (by unfold lvS; omega), e 90 (8 * s + u) (by unfold lvS; omega)]; exact h87 u hu
  · rw [e 91 s (by unfold lvS; omega), e 92 s (by unfold lvS; omega), e 93 s (by unfold lvS; omega), e 94 s (by unfold lvS; omega)]; exact h91
  · unfold RZ; rw [e5 107 (by decide)]; exact hZ
  · unfold RP; rw [e61, e5 111 (by decide)]; exact hP
  · unfold RSl; rw [e5 115 (by decide), e5 116 (by decide)]; exact hS
theorem LR.ofs {k : Nat} {D : lD} (h : LR m s k D) (e : ∀ c : Nat, 95 ≤ c → c ≤ 103 → m'.1 c = m.1 c) : LR m' s k D := h.of e
/-- a house just told -/
theorem RW.told {V : Nat → Int64} {st : mSt} {Ds : Nat → lD} (hs : s ≤ 1) (hM : MI V st) (h18 : (m.1 70 18).toInt = (s : Int)) (h80 : (m.1 80 s).toInt = (st.1.length : Int)) (h7 : st.1.length ≤ 7) (h10 : st.2.1.length ≤ 10) (h8 : st.2.2.1.length ≤ 8) (hv : HV V s st m) (hD : ∀ k : Nat, k < 4 → LR m s k (Ds k)) : RW (hoX V st Ds) s m := by
  obtain ⟨⟨a1, a2, a3, a4⟩, b, c, d⟩ := hv
  exact ⟨hoX_ok hM h7 h10 h8 (fun k hk => (hD k hk).1), ⟨⟨h18, hs⟩, ⟨h80, h7⟩, ⟨c, h10⟩, fun w hw => ⟨b w hw, (hM.1 w hw).1, (hM.1 w hw).2.1, (hM.1 w hw).2.2.1⟩⟩, d, a1, a2, a3, a4, hD⟩
end RKL
/-- what the reference's read has done -/
def RdQ (K : Nat → Int) (V : Nat → Int64) (L s : Nat) (H : Ho) (S : Zt) (Ps : List Zt) (J : Nat → Zt) (m' : dM) : Prop := ((rdR K V).1.1 = 0 → ∀ (R : Nat → Int32) (J' : Nat → Zt), (∀ w : Nat, w < (rdR K V).2.2.1.length → R w = (V (((rdR K V).2.2.1.getD w (0, 0, 0)).1 + 3)).toInt32) → KR (hoX V (rdR K V).2 (lAll K V 401 0 0 0 0 lD0)) (sz0 (hoX V (rdR K V).2 (lAll K V 401 0 0 0 0 lD0)) R) [] J' s m') ∧ ((rdR K V).1.1 ≠ 0 → KR H S Ps J L m')
section RRV
variable {K : Nat → Int} {V : Nat → Int64} {P : Nat → Nat} {m0 m : dM} {L s : Nat} {H : Ho} {S : Zt} {Ps : List Zt} {J : Nat → Zt}
theorem bi_0 (i : Nat) : bi (bt 0 i) = 0 := by rw [bt_0]; rfl
theorem x_134 {Q : Int32 → dM → Prop} (hL : L + s = 1) (hsd : (m0.1 70 19).toInt = (s : Int)) (h0 : ∀ k : Nat, k ≠ 70 → m0.1 k = m.1 k) (h18 : m0.1 70 18 = m.1 70 18) (h61 : m0.1 70 61 = m.1 70 61) (hK : KR H S Ps J L m) (hg : ∀ k : Nat, k < 4 → gLw m.1 L (m.1 95 (4 * L + k)).toInt (m.1 96 (4 * L + k)).toInt) (hQ : ∀ (r : Int32) (m' : dM), RcF m m' → RdQ K V L s H S Ps J m' → Q r m') {M : dM} (hT : TFv K V P m0 L s (gAll K 401 0 0 0 0) (mAll K V 401 0 mS0) (lAll K V 401 0 0 0 0 lD0) M) : j_X12_read_70_134 9 M Q := by
  have hs : s ≤ 1 := by omega
  obtain ⟨W, hS, hF, hG⟩ := hT
  have sd := hF.sd hsd
  have f := hS.fl
  have ef : (M.1 70 13).toInt = flt M := rfl
  have fr : ∀ k : Nat, k < 70 ∨ 105 ≤ k → M.1 k = m.1 k := fun k hk => by rw [hF.1.1 k (by omega), h0 k (by omega)]
  have bad : ∀ (r v : Int32), (rdR K V).1.1 ≠ 0 → Q r (dSet M 70 17 v) := fun r v b => by
    refine hQ r _ (fun k hk => by rw [dSet_k (by omega)]; exact fr k (by omega)) ⟨fun q => absurd q b, fun _ => hK.lv hg (fun c j q => ?_) (fun k hk => ?_) ?_ ?_⟩
    · have lb := lvS_k q
      rw [dSet_k (by omega), hF.2 c j q, h0 c (by omega)]
    · rw [dSet_k (by omega)]; exact fr k (by omega)
    · rw [dSet_j (by decide), hF.1.2.1 18 (by omega)]; exact h18
    · rw [dSet_j (by decide), hF.1.2.1 61 (by omega)]; exact h61
  by_cases z : (gAll K 401 0 0 0 0).1 = 0
  · have eR : rdR K V = mAll K V 401 0 mS0 := by unfold rdR; rw [if_pos z]
    obtain ⟨⟨b82, b86⟩, g0, g1, hD, b80⟩ := hG z
    obtain ⟨a1, a2, a3, a4, a5⟩ := hS.1 z
    have e15 := a5.1
    rw [← eR] at g0 g1
    by_cases w : (rdR K V).1.1 = 0
    · obtain ⟨w0, e80, nh, e82, e86⟩ := g0 w
      have hv0 : HV V s (rdR K V).2 M := ⟨nh.2, nh.1.2.2.2.2, e82, e86⟩
      have good : c_X12_begins_70 8 (dSet (dSet M 70 17 (-1 : Int32)) 70 18 (M.1 70 19)) (fun m1 => c_X12_keepsRow_70 8 m1 (fun m2 => j_X12_read_70_219 9 (0 : Int32) (dSet (dSet m2 70 61 (0 : Int32)) 70 63 (0 : Int32)) Q)) := by
        refine Wp.deep (x_begins (s := s) hs (by rw [dSet_s]; exact sd.1) b82 b86 (fun m1 B1 _ r1 _ => Wp.deep (x_keepsRow (fun m2 k2 _ r2 => ?_)) (Nat.le_of_ble_eq_true rfl))) (Nat.le_of_ble_eq_true rfl)
        have e2 : ∀ k : Nat, k ≠ 70 → k ≠ 107 → k ≠ 108 → m2.1 k = M.1 k := fun k q1 q2 q3 => by rw [k2 k q2, B1.1 k q1 q2 q3, dSet_k q1, dSet_k q1]
        have e18 : (m2.1 70 18).toInt = (s : Int) := by rw [k2 70 (by decide), B1.2.1 18 (by decide) (by decide), dSet_s]; exact sd.1
        have rr : ∀ j : Nat, j < 58 → m2.1 107 j = beR M s j := fun j hj => by
          rw [r2 j hj, r1 j hj]
          unfold beR
          rw [dSet_k (by decide), dSet_k (by decide), dSet_k (by decide), dSet_k (by decide), dSet_k (by decide), dSet_k (by decide), dSet_k (by decide), dSet_k (by decide)]
        have l219 : ∀ (f i : Nat) (x1 : Int32) (X : dM), i + f = 3 → x1.toInt = (i : Int) → (∀ k : Nat, k ≠ 115 → X.1 k = (dSet (dSet m2 70 61 (0 : Int32)) 70 63 (0 : Int32)).1 k) → (∀ j : Nat, j < i → X.1 115 j = 0) → j_X12_read_70_219 9 x1 X Q := by
          intro f
          induction f with
          | zero =>
            intro i x1 X hi h1 hX hz
            have eX : ∀ k : Nat, k ≠ 70 → k ≠ 107 → k ≠ 108 → k ≠ 115 → X.1 k = M.1 k := fun k q1 q2 q3 q4 => by rw [hX k q4, dSet_k q1, dSet_k q1, e2 k q1 q2 q3]
            refine v_X12_read_70_219 ⟨fun _ => hQ _ X (fun k hk => ?_) ⟨fun _ R J' hR => ?_, fun q => absurd w q⟩, fun q => by exfalso; omega⟩
            · rw [eX k (by omega) (by omega) (by omega) (by omega)]; exact fr k (by omega)
            · have hM := MI_rd w
              have hv1 : HV V s (rdR K V).2 X := hv0.of (fun k q1 q2 => eX k (by omega) (by omega) (by omega) (by omega))
              have x18 : (X.1 70 18).toInt = (s : Int) := by rw [hX 70 (by decide), dSet_j (by decide), dSet_j (by decide)]; exact e18
              have x80 : (X.1 80 s).toInt = ((rdR K V).2.1.length : Int) := by rw [eX 80 (by decide) (by decide) (by decide) (by decide)]; exact e80
              have x107 : ∀ j : Nat, j < 58 → X.1 107 j = beR M s j := fun j hj => by rw [hX 107 (by decide), dSet_k (by decide), dSet_k (by decide)]; exact rr j hj
              have l7 : (rdR K V).2.1.length ≤ 7 := by omega
              have l10 : (rdR K V).2.2.1.length ≤ 10 := by omega
              have l8 : (rdR K V).2.2.2.1.length ≤ 8 := by omega
              refine ⟨RW.told hs hM x18 x80 l7 l10 l8 hv1 (fun k hk => (hD k hk).lr.of (fun c q1 q2 => eX c (by omega) (by omega) (by omega) (by omega))), ⟨⟨?_, ?_, ?_⟩, fun w' hw => ?_, fun f' hf => ?_, fun u hu => ?_⟩, ⟨?_, by decide, fun k T hk => ?_⟩, fun i hi q => ?_⟩
              · rw [x107 55 (by decide)]
                unfold beR
                rw [if_neg (by omega), if_neg (by decide), if_neg (by omega)]
                rfl
              · rw [x107 56 (by decide)]
                unfold beR
                rw [if_neg (by omega), if_pos rfl]
                exact hv0.1.2.2.2.2.2.1
              · rw [x107 57 (by decide)]
                unfold beR
                rw [if_neg (by omega), if_neg (by decide), if_neg (by omega)]
                rfl
              · have hw : w' < (rdR K V).2.2.1.length := hw
                rw [x107 w' (by omega), x107 (10 + w') (by omega), x107 (20 + w') (by omega), x107 (30 + w') (by omega)]
                unfold beR
                rw [if_pos (by omega), if_neg (by omega), if_neg (by omega), if_neg (by omega), if_neg (by omega), if_neg (by omega), if_neg (by omega), if_neg (by omega), if_neg (by omega), if_neg (by omega)]
                exact ⟨by rw [hv0.1.2.1 w' hw]; exact (hR w' hw).symm, (bi_0 w').symm, rfl, (bi_0 w').symm⟩
              · have hf : f' < (rdR K V).2.1.length := hf
                rw [x107 (40 + f') (by omega)]
                unfold beR
                rw [if_neg (by omega), if_neg (by omega), if_neg (by omega)]
                rfl
              · have hu : u < (rdR K V).2.2.2.1.length := hu
                rw [x107 (47 + u) (by omega)]
                unfold beR
                rw [if_neg (by omega), if_neg (by omega), if_pos (by omega)]
                show (1 : Int32) = bi (bt (b1 (rdR K V).2.2.2.1.length - 1) u)
                rw [bt_all l8, decide_eq_true hu]
                rfl
              · rw [hX 70 (by decide), dSet_j (by decide), dSet_s]; rfl
              · cases hk
              · exact absurd (by rw [hz i (by omega)]; rfl) q
          | succ f ih =>
            intro i x1 X hi h1 hX hz
            refine v_X12_read_70_219 ⟨fun q => by exfalso; omega, fun _ => ⟨by omega, ih (i + 1) _ _ (by omega) (d_inc h1 (by omega)) (fun k hk => by rw [dSet_k hk]; exact hX k hk) (fun j hj => ?_)⟩⟩
            rw [d_cn h1]
            by_cases q : j = i
            · rw [q, dSet_s]
            · rw [dSet_j q]; exact hz j (by omega)
        exact l219 3 0 _ _ rfl (by decide) (fun _ _ => rfl) (fun j hj => by omega)
      exact v_X12_read_70_134 ⟨fun _ => ⟨fun _ => ⟨fun _ => ⟨fun _ => good, fun q => by exfalso; omega⟩, fun q => by exfalso; omega⟩, fun q => by exfalso; omega⟩, fun q => by exfalso; omega⟩
    · have eW := g1 w
      have w1 : W.1 ≠ 0 := by rw [eW]; exact w
      rw [eW] at e15
      have bd := bad (M.1 70 15) (M.1 70 16) w
      exact v_X12_read_70_134 ⟨fun _ => ⟨fun q => by exfalso; omega, fun _ => ⟨fun _ => ⟨fun q => by exfalso; omega, fun _ => bd⟩, fun q => by exfalso; omega⟩⟩, fun q => by exfalso; omega⟩
  · have eR : rdR K V = (gAll K 401 0 0 0 0, mS0) := by unfold rdR; rw [if_neg z]
    obtain ⟨a1, a2⟩ := hS.2.1 z
    have bd := bad (M.1 70 13) (M.1 70 14) (by rw [eR]; exact z)
    exact v_X12_read_70_134 ⟨fun q => by exfalso; omega, fun _ => ⟨fun q => by exfalso; omega, fun _ => bd⟩⟩
theorem x_read {m : dM} {B : Nat → Int32} {n : Nat} {Q : Int32 → dM → Prop} (HV9 : ∀ i : Nat, tK B n i = 23 → 0 ≤ (tV B n i).toInt32.toInt ∧ (tV B n i).toInt32.toInt ≤ 9999) (hL : L + s = 1) (h18 : (m.1 70 18).toInt = (L : Int)) (hn : (m.1 70 2).toInt = (n : Int)) (h2000 : n ≤ 2000) (hB : ∀ i : Nat, B i = if i < n then (m.1 71 i) &&& 255 else 0) (hKR : KR H S Ps J L m) (hg : ∀ k : Nat, k < 4 → gLw m.1 L (m.1 95 (4 * L + k)).toInt (m.1 96 (4 * L + k)).toInt) (hQ : ∀ (r : Int32) (m' : dM), RcF m m' → RdQ (tK B n) (tV B n) L s H S Ps J m' → Q r m') : c_X12_read_70 9 m Q := by
  have hV9 : ∀ i : Nat, tK B n i = 23 → 0 ≤ (tV B n i).toInt32.toInt ∧ (tV B n i).toInt32.toInt ≤ 9999 := HV9
  have hs : s ≤ 1 := by omega
  have fs := dSubE (X := 1) (Y := (L : Int)) (x := (1 : Int32)) (y := m.1 70 18) (by decide) h18 (by omega) (by omega)
  have l10 : ∀ (f i : Nat) (x1 : Int32) (M : dM), i + f = n → x1.toInt = (i : Int) → (∀ k : Nat, k ≠ 70 → k ≠ 72 → M.1 k = m.1 k) → (∀ j : Nat, j ≠ 4 → M.1 70 j = m.1 70 j) → M.1 70 4 = m.1 70 2 → M.2 = m.2 → (∀ j : Nat, j < i → M.1 72 j = (m.1 71 j).toInt8.toInt32) → j_X12_read_70_10 9 x1 M Q := by
    intro f
    induction f with
    | succ f ih =>
      intro i x1 M hi h1 a b c d e
      have e4 : (M.1 70 4).toInt = (n : Int) := by rw [c]; exact hn
      refine v_X12_read_70_10 ⟨fun q => by exfalso; omega, fun _ => ⟨by omega, by omega, ih (i + 1) _ _ (by omega) (d_inc h1 (by omega)) (fun k e1 e2 => by rw [dSet_k e2]; exact a k e1 e2) (fun j e1 => by rw [dSet_k (by decide)]; exact b j e1) (by rw [dSet_k (by decide)]; exact c) d (fun j hj => ?_)⟩⟩
      rw [d_cn h1]
      by_cases q : j = i
      · rw [q, dSet_s, a 71 (by decide) (by decide)]
      · rw [dSet_j q]; exact e j (by omega)
    | zero =>
      intro i x1 M hi h1 a b c d e
      have e4 : (M.1 70 4).toInt = (n : Int) := by rw [c]; exact hn
      refine v_X12_read_70_10 ⟨fun _ => ?_, fun q => by exfalso; omega⟩
      have hRX : RX B n (dSet M 70 2 (0 : Int32)) := by
        refine ⟨by rw [dSet_j (by decide)]; exact e4, h2000, fun j => ?_⟩
        rw [hB j, dSet_k (by decide)]
        by_cases q : j < n
        · rw [if_pos q, if_pos q, e j (by omega), i8_and]
        · rw [if_neg q, if_neg q]
      refine Wp.deep (g_cutsUp hRX (fun m1 hF hK => ?_)) (Nat.le_of_ble_eq_true rfl)
      have k1 : ∀ k : Nat, k ≠ 70 → k ≠ 72 → k ≠ 73 → k ≠ 74 → k ≠ 75 → m1.1 k = m.1 k := fun k e1 e2 e3 e4 e5 => by rw [hF.1 k e1 e3 e4 e5, dSet_k e1, a k e1 e2]
      have j1 : ∀ j : Nat, j ≠ 2 → j ≠ 4 → j ≠ 10 → m1.1 70 j = m.1 70 j := fun j e1 e2 e3 => by rw [hF.2.1 j e3, dSet_j e1, b j e2]
      have j2 : m1.1 70 2 = 0 := by rw [hF.2.1 2 (by decide), dSet_s]
      have e18 : m1.1 70 18 = m.1 70 18 := j1 18 (by decide) (by decide) (by decide)
      rw [e18]
      have X70 : ∀ k : Nat, k ≠ 70 → (dSet (dSet (dSet (dSet (dSet (dSet m1 70 11 (0 : Int32)) 70 12 (0 : Int32)) 70 13 (0 : Int32)) 70 15 (0 : Int32)) 70 19 ((1 : Int32) - (m.1 70 18))) 70 20 (0 : Int32)).1 k = m1.1 k := fun k hk => by rw [dSet_k hk, dSet_k hk, dSet_k hk, dSet_k hk, dSet_k hk, dSet_k hk]
      have Xj : ∀ j : Nat, j ≠ 11 → j ≠ 12 → j ≠ 13 → j ≠ 15 → j ≠ 19 → j ≠ 20 → (dSet (dSet (dSet (dSet (dSet (dSet m1 70 11 (0 : Int32)) 70 12 (0 : Int32)) 70 13 (0 : Int32)) 70 15 (0 : Int32)) 70 19 ((1 : Int32) - (m.1 70 18))) 70 20 (0 : Int32)).1 70 j = m1.1 70 j := fun j b1 b2 b3 b4 b5 b6 => by rw [dSet_j b6, dSet_j b5, dSet_j b4, dSet_j b3, dSet_j b2, dSet_j b1]
      have Xz : ∀ j : Nat, j = 11 ∨ j = 12 ∨ j = 13 ∨ j = 15 ∨ j = 20 → ((dSet (dSet (dSet (dSet (dSet (dSet m1 70 11 (0 : Int32)) 70 12 (0 : Int32)) 70 13 (0 : Int32)) 70 15 (0 : Int32)) 70 19 ((1 : Int32) - (m.1 70 18))) 70 20 (0 : Int32)).1 70 j).toInt = 0 := fun j hj => by rcases hj with rfl | rfl | rfl | rfl | rfl <;> rfl
      have X19 : (dSet (dSet (dSet (dSet (dSet (dSet m1 70 11 (0 : Int32)) 70 12 (0 : Int32)) 70 13 (0 : Int32)) 70 15 (0 : Int32)) 70 19 ((1 : Int32) - (m.1 70 18))) 70 20 (0 : Int32)).1 70 19 = (1 : Int32) - (m.1 70 18) := rfl
      have X2 : (dSet (dSet (dSet (dSet (dSet (dSet m1 70 11 (0 : Int32)) 70 12 (0 : Int32)) 70 13 (0 : Int32)) 70 15 (0 : Int32)) 70 19 ((1 : Int32) - (m.1 70 18))) 70 20 (0 : Int32)).2 = m1.2 := rfl
      generalize dSet (dSet (dSet (dSet (dSet (dSet m1 70 11 (0 : Int32)) 70 12 (0 : Int32)) 70 13 (0 : Int32)) 70 15 (0 : Int32)) 70 19 ((1 : Int32) - (m.1 70 18))) 70 20 (0 : Int32) = X at X70 Xj Xz X19 X2 ⊢
      refine Wp.deep (x_plain (s := s) (m := X) hs (by omega) (fun m2 p1 p2 p3 p5 p4 p6 => ?_)) (Nat.le_of_ble_eq_true rfl)
      have e70 : m2.1 70 = X.1 70 := p1 70 (by decide) (by decide) (by decide) (by decide)
      have v19 : (m2.1 70 19).toInt = (s : Int) := by rw [e70, X19]; omega
      have fb := dMulE (X := 130) (Y := (s : Int)) (x := (130 : Int32)) (y := m2.1 70 19) (by decide) v19 (by omega) (by omega)
      have fc := dMulE (X := 420) (Y := (s : Int)) (x := (420 : Int32)) (y := m2.1 70 19) (by decide) v19 (by omega) (by omega)
      have Y70 : ∀ k : Nat, k ≠ 70 → (dSet (dSet m2 70 40 ((130 : Int32) * (m2.1 70 19))) 70 46 ((420 : Int32) * (m2.1 70 19))).1 k = m2.1 k := fun k hk => by rw [dSet_k hk, dSet_k hk]
      have Yj : ∀ j : Nat, j ≠ 40 → j ≠ 46 → (dSet (dSet m2 70 40 ((130 : Int32) * (m2.1 70 19))) 70 46 ((420 : Int32) * (m2.1 70 19))).1 70 j = X.1 70 j := fun j b1 b2 => by rw [dSet_j b2, dSet_j b1, e70]
      have Yb : brs (dSet (dSet m2 70 40 ((130 : Int32) * (m2.1 70 19))) 70 46 ((420 : Int32) * (m2.1 70 19))) = 130 * s := fb
      have Yc : cds (dSet (dSet m2 70 40 ((130 : Int32) * (m2.1 70 19))) 70 46 ((420 : Int32) * (m2.1 70 19))) = 420 * s := fc
      have Y2 : (dSet (dSet m2 70 40 ((130 : Int32) * (m2.1 70 19))) 70 46 ((420 : Int32) * (m2.1 70 19))).2 = m1.2 := by show m2.2 = m1.2; rw [p2, X2]
      generalize dSet (dSet m2 70 40 ((130 : Int32) * (m2.1 70 19))) 70 46 ((420 : Int32) * (m2.1 70 19)) = Y at Y70 Yj Yb Yc Y2 ⊢
      have Yz : ∀ j : Nat, j = 11 ∨ j = 12 ∨ j = 13 ∨ j = 15 ∨ j = 20 → (Y.1 70 j).toInt = 0 := fun j hj => by rw [Yj j (by omega) (by omega)]; exact Xz j hj
      have t0 : tt Y = 0 := Yz 11 (by decide)
      have f0 : flt Y = 0 := Yz 13 (by decide)
      have o0 : opn Y = 0 := Yz 12 (by decide)
      have n0 : nms Y = 0 := Yz 20 (by decide)
      have w0 := Yz 15 (by decide)
      have Yk : ∀ k : Nat, k ≠ 70 → k ≠ 72 → k ≠ 73 → k ≠ 74 → k ≠ 75 → k ≠ 80 → k ≠ 82 → k ≠ 86 → ¬ (91 ≤ k ∧ k ≤ 96) → Y.1 k = m.1 k := fun k b1 b2 b3 b4 b5 b6 b7 b8 b9 => by rw [Y70 k b1, p1 k b6 b7 b8 b9, X70 k b1, k1 k b1 b2 b3 b4 b5]
      have Yt : ∀ k : Nat, 73 ≤ k → k ≤ 75 → Y.1 k = m1.1 k := fun k b1 b2 => by rw [Y70 k (by omega), p1 k (by omega) (by omega) (by omega) (by omega), X70 k (by omega)]
      have hRM : RM (tK B n) (tV B n) (tP B n) Y := fun i hi hl => by
        have := hK i hi hl
        unfold RK at this
        rw [Yt 73 (by decide) (by decide), Yt 74 (by decide) (by decide), Yt 75 (by decide) (by decide), Y2]
        exact this
      have Y80 : (Y.1 80 s).toInt = 0 := by rw [Y70 80 (by decide), p4.1.1]; decide
      have Y82 : (Y.1 82 s).toInt = 0 := by rw [Y70 82 (by decide), p4.1.2.1]; decide
      have Y86 : (Y.1 86 s).toInt = 0 := by rw [Y70 86 (by decide), p4.1.2.2]; decide
      -- m0: as it was, its tape empty, the side of the text told
      have hTI : TIv (tK B n) (tV B n) (tP B n) (dSet (dSet m 70 2 (0 : Int32)) 70 19 ((1 : Int32) - (m.1 70 18))) L s 0 0 0 0 (0, 0) mS0 lD0 Y := by
        refine ⟨⟨fun _ => ⟨f0, t0, by decide, fun j hj => by exfalso; exact Nat.not_lt_zero j hj, w0, fun q => absurd rfl q⟩, fun q => absurd rfl q, by omega⟩, hRM, ⟨⟨fun k hk => ?_, fun j hj => ?_, ?_⟩, fun c j q => ?_⟩, ⟨Y80, Y82, Y86, n0, by decide, by decide, by decide⟩, ⟨o0, by omega, by omega⟩, fun q => absurd rfl q, fun _ => ⟨⟨⟨fun k hk => ?_, fun i hi => absurd hi (Nat.not_lt_zero i), fun i hi => absurd hi (Nat.not_lt_zero i), fun i j hi => absurd hi (Nat.not_lt_zero i), fun i hi => absurd hi (Nat.not_lt_zero i)⟩, fun i hi => absurd hi (Nat.not_lt_zero i), fun i hi => absurd hi (Nat.not_lt_zero i), fun i hi => absurd hi (Nat.not_lt_zero i), by rw [Y70 91 (by decide), p4.2.1]; rfl, by rw [Y70 92 (by decide), p4.2.2.1]; rfl, by rw [Y70 93 (by decide), p4.2.2.2.1]; rfl, by rw [Y70 94 (by decide), p4.2.2.2.2]; rfl⟩, rfl, rfl, rfl⟩, fun k hk => ?_⟩
        · rw [dSet_k (by omega), dSet_k (by omega)]
          exact Yk k (by omega) (by omega) (by omega) (by omega) (by omega) (by omega) (by omega) (by omega) (by omega)
        · by_cases q19 : j = 19
          · rw [q19, dSet_s, Yj 19 (by decide) (by decide), X19]
          · rw [dSet_j q19, Yj j (by omega) (by omega), Xj j (by omega) (by omega) (by omega) (by omega) q19 (by omega)]
            by_cases q2 : j = 2
            · rw [q2, dSet_s, j2]
            · rw [dSet_j q2, j1 j q2 (by omega) (by omega)]
        · rw [dSet_k (by decide), dSet_k (by decide), Y70 80 (by decide), p3 80 L (by decide) (by omega), X70 80 (by decide), k1 80 (by decide) (by decide) (by decide) (by decide) (by decide)]
        · have lb := lvS_k q
          rw [dSet_k (by omega), dSet_k (by omega), Y70 c (by omega)]
          have e1 : m2.1 c j = X.1 c j := by
            by_cases c1 : c < 95
            · by_cases cj : j = s
              · rw [p1 c (by unfold lvS at q; omega) (by unfold lvS at q; omega) (by unfold lvS at q; omega) (by unfold lvS at q; omega)]
              · exact p3 c j c1 cj
            · by_cases c2 : c = 95 ∨ c = 96
              · exact p5 c j c2 (by unfold lvS at q; omega)
              · rw [p1 c (by omega) (by omega) (by omega) (by omega)]
          rw [e1, X70 c (by omega), k1 c (by omega) (by omega) (by omega) (by omega) (by omega)]
        · exact absurd hk (Nat.not_lt_zero k)
        · refine ⟨lD0_ok k, Or.inl ⟨?_, lD0_1 k, rfl⟩⟩
          rw [Y70 95 (by decide), Y70 96 (by decide), (p6 k hk).1, (p6 k hk).2]
      have sd0 : ((dSet (dSet m 70 2 (0 : Int32)) 70 19 ((1 : Int32) - (m.1 70 18))).1 70 19).toInt = (s : Int) := by rw [dSet_s]; omega
      refine x_112 hL sd0 (tK_vk B n) (fun i j hij hl => tP_mono hij hl) hV9 (fun M' hM' => x_134 hL sd0 (fun k hk => by rw [dSet_k (by omega), dSet_k (by omega)]) (by rw [dSet_j (by decide), dSet_j (by decide)]) (by rw [dSet_j (by decide), dSet_j (by decide)]) hKR hg hQ hM') 401 0 0 0 0 (0, 0) mS0 lD0 Y (by omega) hTI rfl rfl (fun _ => rfl) (fun q => absurd rfl q)
  refine v_X12_read_70 (l10 n 0 _ _ (by omega) (by decide) (fun k e1 e2 => dSet_k e1) (fun j e1 => dSet_j e1) (dSet_s _ _ _ _) rfl (fun j hj => by omega))
end RRV
end
section
/-! BOTH, joined -/
section BTH
variable {H H' : Ho} {S S' : Zt} {P P' : List Zt} {J J' : Nat → Zt} {m m' : dM} {s : Nat}
theorem KC.sm (h : KC H S P J m) (q : Sm m' m) : KC H S P J m' := by
  obtain ⟨⟨hO, ⟨hH, h22, hT, hR, hU, hX, hL⟩, hW⟩, hZ, hP, hS⟩ := h
  have f2 : ∀ j : Nat, j < 7 → m'.1 2 j = m.1 2 j := fun j hj => by
    match j, hj with
    | 0, _ | 1, _ | 2, _ | 3, _ | 4, _ | 5, _ | 6, _ => exact q.fld (a := 3) rfl
    | j + 7, h => omega
  have f47 : ∀ j : Nat, j < 6 → m'.1 47 j = m.1 47 j := fun j hj => by
    match j, hj with
    | 0, _ | 1, _ | 2, _ | 3, _ | 4, _ | 5, _ => exact q.fld (a := 7) rfl
    | j + 6, h => omega
  have f51 : ∀ j : Nat, 2 ≤ j → j < 5 → m'.1 51 j = m.1 51 j := fun j hj hj2 => by
    match j, hj, hj2 with
    | 2, _, _ | 3, _, _ | 4, _, _ => exact q.fld (a := 6) rfl
    | 0, h, _ => omega
    | 1, h, _ => omega
    | j + 5, _, h => omega
  have r3 : m'.1 3 = m.1 3 := q.row (k := 3) rfl
  have r4 : m'.1 4 = m.1 4 := q.row (k := 4) rfl
  have r5 : m'.1 5 = m.1 5 := q.row (k := 5) rfl
  have r6 : m'.1 6 = m.1 6 := q.row (k := 6) rfl
  have r7 : m'.1 7 = m.1 7 := q.row (k := 7) rfl
  have r8 : m'.1 8 = m.1 8 := q.row (k := 8) rfl
  have r9 : m'.1 9 = m.1 9 := q.row (k := 9) rfl
  have r10 : m'.1 10 = m.1 10 := q.row (k := 10) rfl
  have r12 : m'.1 12 = m.1 12 := q.row (k := 12) rfl
  have r18 : m'.1 18 = m.1 18 := q.row (k := 18) rfl
  have r14 : ∀ k : Nat, k < 4 → m'.1 (14 + k) = m.1 (14 + k) := fun k hk => by
    match k, hk with
    | 0, _ => exact q.row (k := 14) rfl
    | 1, _ => exact q.row (k := 15) rfl
    | 2, _ => exact q.row (k := 16) rfl
    | 3, _ => exact q.row (k := 17) rfl
    | k + 4, h => omega
  have r48 : m'.1 48 = m.1 48 := q.row (k := 48) rfl
  have r49 : m'.1 49 = m.1 49 := q.row (k := 49) rfl
  have r50 : m'.1 50 = m.1 50 := q.row (k := 50) rfl
  have r52 : m'.1 52 = m.1 52 := q.row (k := 52) rfl
  have r53 : m'.1 53 = m.1 53 := q.row (k := 53) rfl
  have r58 : m'.1 58 = m.1 58 := q.row (k := 58) rfl
  have r59 : m'.1 59 = m.1 59 := q.row (k := 59) rfl
  have r60 : m'.1 60 = m.1 60 := q.row (k := 60) rfl
  have f57 : m'.1 57 1 = m.1 57 1 := q.fld (a := 10) rfl
  have f575 : m'.1 57 5 = m.1 57 5 := q.fld (a := 10) rfl
  refine ⟨⟨hO, ⟨?_, ?_, ?_, ?_, ?_, ?_, fun k hk => ?_⟩, ?_⟩, ?_, ?_, ?_⟩
  · unfold HW; rw [f2 0 (by decide), f2 1 (by decide), r4, r5]; exact hH
  · rw [f2 2 (by decide)]; exact h22
  · rw [r3]; exact hT
  · rw [r6]; exact hR
  · rw [r7, r8, r9, r10]; exact hU
  · rw [f2 3 (by decide), f2 4 (by decide), f2 5 (by decide), f2 6 (by decide)]; exact hX
  · have := hL k hk
    unfold LC SG at this ⊢
    rw [r14 k hk, r18, r12]
    exact this
  · unfold WI WyR at hW ⊢
    rw [f57, f575, r58, r59, r60]
    exact hW
  · unfold CZ at hZ ⊢
    rw [f47 0 (by decide), f47 1 (by decide), f47 2 (by decide), f47 3 (by decide), f47 4 (by decide), f47 5 (by decide)]
    show _ ∧ (∀ j : Nat, j < 10 → m'.1 48 j = szR S j) ∧ (∀ j : Nat, j < 10 → m'.1 49 j = szE S j) ∧ ∀ j : Nat, j < 7 → m'.1 50 j = szD S j
    rw [r48, r49, r50]
    exact hZ
  · unfold CP CPz at hP ⊢
    rw [f51 2 (by decide) (by decide), f51 3 (by decide) (by decide), r52]
    exact hP
  · unfold CSl CPz at hS ⊢
    rw [f51 4 (by decide) (by decide), r53]
    exact hS
theorem KR.fr (h : KR H S P J s m) (e : ∀ k : Nat, (80 ≤ k ∧ k ≤ 103) ∨ k = 107 ∨ k = 111 ∨ k = 115 ∨ k = 116 → m'.1 k = m.1 k) (e18 : m'.1 70 18 = m.1 70 18) (e61 : m'.1 70 61 = m.1 70 61) : KR H S P J s m' := by
  obtain ⟨⟨hO, hH, h86, h81, h85, h87, h91, hL⟩, hZ, hP, hS⟩ := h
  refine ⟨⟨hO, ?_, ?_, ?_, ?_, ?_, ?_, fun k hk => (hL k hk).of (fun c q1 q2 => e c (by omega))⟩, ?_, ?_, ?_⟩
  · unfold HR at hH ⊢; rw [e18, e 80 (by omega), e 82 (by omega), e 83 (by omega), e 84 (by omega)]; exact hH
  · rw [e 86 (by omega)]; exact h86
  · rw [e 81 (by omega)]; exact h81
  · rw [e 85 (by omega)]; exact h85
  · rw [e 87 (by omega), e 88 (by omega), e 89 (by omega), e 90 (by omega)]; exact h87
  · rw [e 91 (by omega), e 92 (by omega), e 93 (by omega), e 94 (by omega)]; exact h91
  · unfold RZ; rw [e 107 (by omega)]; exact hZ
  · unfold RP; rw [e61, e 111 (by omega)]; exact hP
  · unfold RSl; rw [e 115 (by omega), e 116 (by omega)]; exact hS
theorem KR.sm (h : KR H S P J s m) (q : Sm m' m) : KR H S P J s m' := by
  refine h.fr (fun k hk => ?_) (q.fld (a := 12) rfl) (q.fld (a := 12) rfl)
  rcases hk with hk | rfl | rfl | rfl | rfl
  · obtain ⟨i, rfl⟩ : ∃ i : Nat, k = 80 + i := ⟨k - 80, by omega⟩
    match i, hk with
    | 0, _ | 1, _ | 2, _ | 3, _ | 4, _ | 5, _ | 6, _ | 7, _ | 8, _ | 9, _ | 10, _ | 11, _ | 12, _ | 13, _ | 14, _ | 15, _ | 16, _ | 17, _ | 18, _ | 19, _ | 20, _ | 21, _ | 22, _ | 23, _ => exact q.row rfl
    | i + 24, h => omega
  · exact q.row rfl
  · exact q.row rfl
  · exact q.row rfl
  · exact q.row rfl
/-- the reference's side is left by the class's call -/
theorem KR.cc (h : KR H S P J s m) (hF : CcF m m') : KR H S P J s m' := h.fr (fun k hk => hF.1 k (by omega)) (by rw [hF.1 70 (by decide)]) (by rw [hF.1 70 (by decide)])
/-- and the class's by the reference's -/
theorem KC.rc (h : KC H S P J m) (hF : RcF m m') : KC H S P J m' := h.fr (fun k h1 h2 => hF k (by omega))
def Zb (H : Ho) (S : Zt) (P : List Zt) (J : Nat → Zt) (H' : Ho) (S' : Zt) (P' : List Zt) (J' : Nat → Zt) (s : Nat) (m : dM) : Prop := KC H S P J m ∧ KR H' S' P' J' s m
theorem Zb.sm (h : Zb H S P J H' S' P' J' s m) (q : Sm m' m) : Zb H S P J H' S' P' J' s m' := ⟨h.1.sm q, h.2.sm q⟩
/-- two contracts of one call -/
theorem both {d d' y pc : Nat} {l : dL} {st : List cV} {A Z : Int32 → dM → Prop} (h : Wp d y pc l st m (qI A)) (h' : Wp d' y pc l st m (qI Z)) (hZ : ∀ (r : Int32) (m1 m2 : dM), Sm m1 m2 → Z r m2 → Z r m1) : Wp d y pc l st m (qI (fun r m1 => A r m1 ∧ Z r m1)) := by
  refine (h.and h').mono (fun v m1 hh => ?_)
  obtain ⟨⟨r, er, a⟩, m2, q, r2, er2, z⟩ := hh
  have e : r = r2 := by rw [er] at er2; cases er2; rfl
  subst e
  exact ⟨r, er, a, hZ r m1 m2 q z⟩
/-- how both stand between calls -/
def Fr (m : dM) : Prop := ∃ (H : Ho) (S : Zt) (P : List Zt) (J : Nat → Zt) (s : Nat), hBo H ∧ zOk H S ∧ (∀ T : Zt, T ∈ P → zOk H T) ∧ (∀ i : Nat, zOk H (J i)) ∧ Zb H S P J H S P J s m
end BTH
end
