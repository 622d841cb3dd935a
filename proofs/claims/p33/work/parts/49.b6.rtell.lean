/-! THE REFERENCE's tells, 2: a wire -/
section RWV
variable {K : Nat → Int} {V : Nat → Int64} {P : Nat → Nat} {m0 m : dM} {L s cf cw cu n : Nat} {W : gR} {st : mSt} {Ds : Nat → lD}
theorem x_wire {Q : dM → Prop} (hL : L + s = 1) (hsd : (m0.1 70 19).toInt = (s : Int)) (hv : ∀ i, vk (K i)) (hP : ∀ i j : Nat, i < j → lvK K j → P i < P j) (hS : ST K P m (0, n + 1) W) (hR : RM K V P m) (hF : FXv m0 L m) (hC : CT s cf cw cu m) (h9 : cw ≤ 9) (hQ : LQ s m) (hW : W.1 ≠ 0 → W.2 < n) (hN : W.1 = 0 → NH V s st m ∧ st.1.length = cf ∧ st.2.1.length = cw ∧ st.2.2.1.length = cu) (hD : LDs m s Ds)
    (hB : (gsq K [22, 22, 23, 59] (n + 1)).1 ≠ 0 → ∀ (m' : dM) (W' : gR), ST K P m' (gsq K [22, 22, 23, 59] (n + 1)) W' → FXv m0 L m' → Q m')
    (hG : (gsq K [22, 22, 23, 59] (n + 1)).1 = 0 → ∀ (m' : dM) (W' : gR) (st' : mSt), TIv K V P m0 L s cf (cw + 1) cu (n + 5) W' st' Ds m' → WM (mWire V n st) W W' st' → Q m') : c_X12_tellWire_70 6 m Q := by
  have hs : s ≤ 1 := by omega
  have hC5 := hC.2.2.2.2
  have sd := hF.sd hsd
  have fm := dMulE (X := 10) (Y := (s : Int)) (x := (10 : Int32)) (y := m.1 70 19) (by decide) sd.1 (by omega) (by omega)
  have fx := dAddE (X := 10 * (s : Int)) (Y := (cw : Int)) (x := (10 : Int32) * m.1 70 19) (y := m.1 82 s) fm hC.2.1 (by omega) (by omega)
  have gG : gsq K [22, 22, 23, 59] (n + 1) = rb (rb (rb (gnd K 22 (n + 1)) (gnd K 22)) (gnd K 23)) (gnd K 59) := by
    have : gsq K [22, 22, 23, 59] (n + 1) = rb (gnd K 22 (n + 1)) (gsq K [22, 23, 59]) := rfl
    rw [this, gsq_r, gsq_r, gsq_r, rb_id]
  rw [gG] at hB hG
  refine v_X12_tellWire_70 ⟨by omega, ?_⟩
  rw [sd.2]
  generalize hX : (10 : Int32) * m.1 70 19 + m.1 82 s = X at fx ⊢
  have eX : X.toNatClampNeg = 10 * s + cw := by
    have := d_cl (x := X) (by omega)
    omega
  have e0 : (m.1 70 11).toInt = ((n + 1 : Nat) : Int) := (hS.1 rfl).2.1
  have w72 : ∀ (mm : dM) (r1 r2 : Int32) (W3 : gR), Cx m mm → ST K P mm (rb (gnd K 22 (n + 1)) (gnd K 22)) W3 → ((rb (gnd K 22 (n + 1)) (gnd K 22)).1 = 0 → (W.1 ≠ 0 → W3 = W) ∧ (W.1 = 0 → (W3.1 = 0 ∧ ∃ a b : Nat, fF V st (V (n + 1)) = some a ∧ fF V st (V (n + 2)) = some b ∧ r1.toInt = (a : Int) ∧ r2.toInt = (b : Int) ∧ ¬ (a = b ∨ wx (wE st) a b st.2.1.length 0 = true)) ∨ (W3.1 ≠ 0 ∧ W3 = (mWire V n st).1 ∧ W3.2 ≤ n + 2))) → j_X12_tellWire_70_72 6 X r1 r2 mm Q := by
    intro mm r1 r2 W3 cm h3 hw
    have Fm := hF.cx cm
    have Cm := hC.cx cm
    refine v_X12_tellWire_70_72 ⟨by omega, ⟨by omega, ?_⟩⟩
    rw [eX]
    have F1 : FXv m0 L (dSet (dSet mm 83 (10 * s + cw) r1) 84 (10 * s + cw) r2) := (Fm.set (by decide) (by decide) (by unfold lvS; omega)).set (by decide) (by decide) (by unfold lvS; omega)
    have S1 : ST K P (dSet (dSet mm 83 (10 * s + cw) r1) 84 (10 * s + cw) r2) (rb (gnd K 22 (n + 1)) (gnd K 22)) W3 := (h3.k (by decide)).k (by decide)
    have kM : ∀ k : Nat, k ≠ 83 → k ≠ 84 → (dSet (dSet mm 83 (10 * s + cw) r1) 84 (10 * s + cw) r2).1 k = mm.1 k := fun k h1 h2 => by rw [dSet_k h2, dSet_k h1]
    have m83 : ∀ j : Nat, (dSet (dSet mm 83 (10 * s + cw) r1) 84 (10 * s + cw) r2).1 83 j = if j = 10 * s + cw then r1 else mm.1 83 j := fun j => by
      rw [dSet_k (by decide), dSet_e]
      by_cases q : j = 10 * s + cw
      · rw [if_pos ⟨rfl, q⟩, if_pos q]
      · rw [if_neg (fun z => q z.2), if_neg q]
    have m84 : ∀ j : Nat, (dSet (dSet mm 83 (10 * s + cw) r1) 84 (10 * s + cw) r2).1 84 j = if j = 10 * s + cw then r2 else mm.1 84 j := fun j => by
      rw [dSet_e]
      by_cases q : j = 10 * s + cw
      · rw [if_pos ⟨rfl, q⟩, if_pos q]
      · rw [if_neg (fun z => q z.2), if_neg q, dSet_k (by decide)]
    have lM : (dSet (dSet mm 83 (10 * s + cw) r1) 84 (10 * s + cw) r2).2 = mm.2 := rfl
    generalize dSet (dSet mm 83 (10 * s + cw) r1) 84 (10 * s + cw) r2 = M at F1 S1 kM m83 m84 lM ⊢
    have R1 : RM K V P M := (hR.cx cm).of (fun k a b => kM k (by omega) (by omega)) (by rw [lM])
    have hW3 : (rb (gnd K 22 (n + 1)) (gnd K 22)).1 = 0 → W3.1 ≠ 0 → W3.2 < n + 3 := fun z w => by
      have hh := hw z
      by_cases w0 : W.1 = 0
      · rcases hh.2 w0 with q | q
        · exact absurd q.1 w
        · omega
      · rw [hh.1 w0]; have := hW w0; omega
    refine Wp.deep (q_bounded hv hP R1 S1 (fun z w => by rw [(gnd2_z z).2.2.1]; exact hW3 z w) (fun v4 m4 W4 c4 h4 hw4 => ⟨by omega, ?_⟩)) (Nat.le_of_ble_eq_true rfl)
    have S4 : ST K P (dSet m4 85 (10 * s + cw) v4) (rb (rb (gnd K 22 (n + 1)) (gnd K 22)) (gnd K 23)) W4 := h4.k (by decide)
    have R4 : RM K V P (dSet m4 85 (10 * s + cw) v4) := (R1.cx c4).of (fun k a b => dSet_k (by omega)) rfl
    have F4 : FXv m0 L (dSet m4 85 (10 * s + cw) v4) := (F1.cx c4).set (by decide) (by decide) (by unfold lvS; omega)
    refine Wp.deep (q_must (k := 59) hv R4 S4 (by decide) (by unfold vk; omega) (by decide) (fun m5 c5 h5 => ?_)) (Nat.le_of_ble_eq_true rfl)
    have f5 := h5.fl
    have F5 := F4.cx c5
    have sd5 := F5.sd hsd
    refine ⟨fun q => v_X12_tellWire_70_125 (hB (fun z => q (f5.2.mpr z)) m5 W4 h5 F5), fun q => ⟨by omega, ⟨by omega, v_X12_tellWire_70_125 ?_⟩⟩⟩
    rw [sd5.2]
    have z5 := f5.2.mp q
    have z4 := (rb_z z5).1
    have z3 := (rb_z z4).1
    obtain ⟨g1, g2, g3, g4, g5⟩ := gnd2_z z3
    have gg4 : rb (rb (gnd K 22 (n + 1)) (gnd K 22)) (gnd K 23) = (0, n + 4) ∧ K (n + 3) = 23 := by
      have z := z4
      rw [g3, rb_0] at z ⊢
      have := gnd_0 z
      exact ⟨this.1, this.2.1⟩
    have gg5 : rb (rb (rb (gnd K 22 (n + 1)) (gnd K 22)) (gnd K 23)) (gnd K 59) = (0, n + 5) := by
      have z := z5
      rw [gg4.1, rb_0] at z ⊢
      exact (gnd_0 z).1
    have hw4' := hw4 z4
    rw [g3] at hw4'
    have hw3' := hw z3
    have kk : ∀ k : Nat, k ≠ 70 → k ≠ 83 → k ≠ 84 → k ≠ 85 → m5.1 k = m.1 k := fun k a b c d => by rw [c5.1 k a, dSet_k d, c4.1 k a, kM k b c, cm.1 k a]
    have k834 : ∀ k : Nat, k = 83 ∨ k = 84 → m5.1 k = M.1 k := fun k e => by rw [c5.1 k (by omega), dSet_k (by omega), c4.1 k (by omega)]
    have jj : ∀ j : Nat, j ≠ 11 → j ≠ 13 → j ≠ 14 → j ≠ 15 → j ≠ 16 → m5.1 70 j = m.1 70 j := fun j a b c d e => by rw [c5.2.1 j a b c d e, dSet_k (by decide), c4.2.1 j a b c d e, kM 70 (by decide) (by decide), cm.2.1 j a b c d e]
    have ll : m5.2 = m.2 := by rw [c5.2.2]; show m4.2 = m.2; rw [c4.2.2, lM, cm.2.2]
    rw [gg5] at h5
    have tt5 : tt m5 = ((n + 5 : Nat) : Int) := (h5.1 rfl).2.1
    have tt0 : tt m = ((n + 1 : Nat) : Int) := e0
    have e82 : (m5.1 82 s).toInt = (cw : Int) := by rw [kk 82 (by decide) (by decide) (by decide) (by decide)]; exact hC.2.1
    have R5 : RM K V P (dSet m5 82 s (m5.1 82 s + 1)) := (R4.cx c5).of (fun k a b => dSet_k (by omega)) rfl
    have C5 : CT s cf (cw + 1) cu (dSet m5 82 s (m5.1 82 s + 1)) := by
      refine ⟨?_, by rw [dSet_s]; exact d_inc e82 (by omega), ?_, ?_, by omega, by omega, by omega⟩
      · rw [dSet_k (by decide), kk 80 (by decide) (by decide) (by decide) (by decide)]; exact hC.1
      · rw [dSet_k (by decide), kk 86 (by decide) (by decide) (by decide) (by decide)]; exact hC.2.2.1
      · show (m5.1 70 20).toInt = _
        rw [jj 20 (by decide) (by decide) (by decide) (by decide) (by decide)]; exact hC.2.2.2.1
    have Q5 : LQ s (dSet m5 82 s (m5.1 82 s + 1)) := hQ.j (jj 12 (by decide) (by decide) (by decide) (by decide) (by decide)) (jj 46 (by decide) (by decide) (by decide) (by decide) (by decide)) (jj 40 (by decide) (by decide) (by decide) (by decide) (by decide)) (by show tt m ≤ tt m5; omega)
    have S5 : ST K P (dSet m5 82 s (m5.1 82 s + 1)) (0, n + 5) W4 := h5.k (by decide)
    have F6 : FXv m0 L (dSet m5 82 s (m5.1 82 s + 1)) := F5.set (by decide) (by decide) (by unfold lvS; omega)
    have key : (W4.1 ≠ 0 → W4.2 < n + 5) ∧ ∃ st' : mSt, (W4.1 = 0 → NH V s st' (dSet m5 82 s (m5.1 82 s + 1)) ∧ st'.1.length = cf ∧ st'.2.1.length = cw + 1 ∧ st'.2.2.1.length = cu) ∧ WM (mWire V n st) W W4 st' := by
      unfold WM
      by_cases w0 : W.1 = 0
      · obtain ⟨⟨hN1, hH1⟩, hl1, hl2, hl3⟩ := hN w0
        rcases hw3'.2 w0 with ⟨w3, a, b, ea, eb, ra, rb', nw⟩ | ⟨w3, ew, wl⟩
        · have mw : mWire V n st = bnd V (n + 3) 1 99 ((0, 0), (st.1, st.2.1 ++ [(n, a, b)], st.2.2)) st := by
            unfold mWire
            rw [ea, eb]
            show (if _ then _ else _) = _
            rw [if_neg nw]
          rw [mw]
          unfold bnd
          have e4 := hw4'.2
          by_cases inb : (1 : Int) ≤ iV V (n + 3) ∧ iV V (n + 3) ≤ 99
          · rw [if_pos inb]
            rw [if_pos (show (1 : Int32).toInt ≤ iV V (n + 3) ∧ iV V (n + 3) ≤ (99 : Int32).toInt from inb)] at e4
            rw [e4]
            refine ⟨fun q => absurd w3 q, (st.1, st.2.1 ++ [(n, a, b)], st.2.2), fun _ => ⟨⟨?_, ?_⟩, hl1, ?_, hl3⟩, fun q => absurd w0 q, fun _ => ⟨fun _ => ⟨w3, rfl⟩, fun q => absurd rfl q⟩⟩
            · refine hN1.wire (v1 := r1) (v2 := r2) ra rb' ?_ (fun j => ?_) (fun j => ?_) ?_
              · rw [dSet_k (by decide), kk 79 (by decide) (by decide) (by decide) (by decide)]
              · rw [dSet_k (by decide), k834 83 (Or.inl rfl), m83, hl2, cm.1 83 (by decide)]
              · rw [dSet_k (by decide), k834 84 (Or.inr rfl), m84, hl2, cm.1 84 (by decide)]
              · show m5.2.1 78 = _
                rw [ll]
            · refine hH1.wire (fun j => ?_) (fun k e => ?_)
              · rw [dSet_k (by decide), c5.1 85 (by decide), dSet_e, hl2, hw4'.1, c4.1 85 (by decide), kM 85 (by decide) (by decide), cm.1 85 (by decide)]
                by_cases q : j = 10 * s + cw
                · rw [if_pos ⟨rfl, q⟩, if_pos q]
                · rw [if_neg (fun z => q z.2), if_neg q]
              · rw [dSet_k (by omega), kk k (by omega) (by omega) (by omega) (by omega)]
            · show (st.2.1 ++ [(n, a, b)]).length = cw + 1
              rw [List.length_append, hl2]; rfl
          · rw [if_neg inb]
            rw [if_neg (show ¬ ((1 : Int32).toInt ≤ iV V (n + 3) ∧ iV V (n + 3) ≤ (99 : Int32).toInt) from inb), wadd_z w3] at e4
            rw [e4]
            exact ⟨fun _ => by show n + 3 < n + 5; omega, st, fun q => absurd q (Nat.succ_ne_zero 4), fun q => absurd w0 q, fun _ => ⟨fun q => absurd q (Nat.succ_ne_zero 4), fun _ => rfl⟩⟩
        · have e4 : W4 = W3 := by
            rw [hw4'.2]
            split
            · rfl
            · exact wadd_n w3
          rw [e4]
          exact ⟨fun _ => by omega, st, fun q => absurd q w3, fun q => absurd w0 q, fun _ => ⟨fun q => by rw [ew] at w3; exact absurd q w3, fun _ => ew⟩⟩
      · have e3 := hw3'.1 w0
        have e4 : W4 = W := by
          rw [hw4'.2, e3]
          split
          · rfl
          · exact wadd_n w0
        rw [e4]
        exact ⟨fun q => by have := hW q; omega, st, fun q => absurd q w0, fun _ => rfl, fun q => absurd q w0⟩
    obtain ⟨kw, st', kn, kwn⟩ := key
    exact hG z5 _ W4 st' ⟨S5, R5, F6, C5, Q5, kw, kn, hD.of (fun c h1 h2 => by rw [dSet_k (by omega), kk c (by omega) (by omega) (by omega) (by omega)]) (jj 40 (by decide) (by decide) (by decide) (by decide) (by decide)) (jj 46 (by decide) (by decide) (by decide) (by decide) (by decide))⟩ kwn
  refine Wp.deep (q_knownFlat hv hP hR hS hC.2.2.2.1 (by omega) (fun _ w => by have := hW w; show W.2 < n + 1; omega) (fun r1 m1 W1 c1 h1 hw1 => ?_)) (Nat.le_of_ble_eq_true rfl)
  have h1 : ST K P m1 (gnd K 22 (n + 1)) W1 := h1
  have hw1 : (gnd K 22 (n + 1)).1 = 0 → ((∃ k : Nat, k < cf + cu ∧ m.2.1 78 k = V (n + 1) ∧ 0 ≤ (m.1 79 k).toInt ∧ r1 = m.1 79 k) ∧ W1 = W) ∨ ((∀ k : Nat, k < cf + cu → m.2.1 78 k = V (n + 1) → (m.1 79 k).toInt < 0) ∧ r1 = -1 ∧ W1 = wadd W (4, n + 1)) := hw1
  have hW1 : (gnd K 22 (n + 1)).1 = 0 → W1.1 ≠ 0 → W1.2 < n + 2 := fun z w => by
    rcases hw1 z with ⟨-, e⟩ | ⟨-, -, e⟩
    · rw [e] at w ⊢; have := hW w; omega
    · rw [e] at w ⊢
      by_cases w0 : W.1 = 0
      · rw [wadd_z w0]; show n + 1 < n + 2; omega
      · rw [wadd_n w0]; have := hW w0; omega
  refine Wp.deep (q_knownFlat hv hP (hR.cx c1) h1 (hC.cx c1).2.2.2.1 (by omega) (fun z w => by rw [(gnd_0 z).1]; exact hW1 z w) (fun r2 m2 W2 c2 h2 hw2 => ?_)) (Nat.le_of_ble_eq_true rfl)
  have c12 := c1.tr c2
  have F2 := hF.cx c12
  have C2 := hC.cx c12
  have f2 := h2.fl
  refine ⟨fun q => w72 m2 r1 r2 W2 c12 h2 (fun z => absurd (f2.2.mpr z) q), fun q => ?_⟩
  have z2 : (rb (gnd K 22 (n + 1)) (gnd K 22)).1 = 0 := f2.2.mp q
  obtain ⟨g1, g2, g3, g4, g5⟩ := gnd2_z z2
  have z1 : (gnd K 22 (n + 1)).1 = 0 := (rb_z z2).1
  have hw1' := hw1 z1
  have hw2' := hw2 z2
  rw [g1, c1.2.2, c1.1 79 (by decide)] at hw2'
  have hw2' : ((∃ k : Nat, k < cf + cu ∧ m.2.1 78 k = V (n + 2) ∧ 0 ≤ (m.1 79 k).toInt ∧ r2 = m.1 79 k) ∧ W2 = W1) ∨ ((∀ k : Nat, k < cf + cu → m.2.1 78 k = V (n + 2) → (m.1 79 k).toInt < 0) ∧ r2 = -1 ∧ W2 = wadd W1 (4, n + 2)) := hw2'
  have hx3 : (m1.1 70 11).toInt = ((n + 2 : Nat) : Int) := by
    have := (h1.1 z1).2.1
    rw [g1] at this
    exact this
  have lv2 : lvK K (n + 2) := by
    have := (h1.1 z1).2.2.2.1
    rw [g1] at this
    exact this
  have n2 : n + 2 ≤ 400 := by omega
  have em1 : (-1 : Int32).toInt = -1 := by decide
  have h66 : (W2.1 ≠ 0 → W2.2 < n + 2) → ((W.1 ≠ 0 → wadd W2 (3, n + 2) = W) ∧ (W.1 = 0 → (wadd W2 (3, n + 2)).1 ≠ 0 ∧ wadd W2 (3, n + 2) = (mWire V n st).1 ∧ (wadd W2 (3, n + 2)).2 ≤ n + 2)) → j_X12_tellWire_70_66 6 X r1 (m1.1 70 11) r2 m2 Q := fun a b => by
    refine v_X12_tellWire_70_66 (Wp.deep (q_wrong (c := 3) (tok := n + 2) hP (hR.cx c12) h2 (by decide) (by decide) hx3 n2 (fun _ => lv2) (fun _ w => Or.inl (a w)) (fun m3 c3 _ h3 => w72 m3 r1 r2 _ (c12.tr c3) h3 (fun _ => ⟨b.1, fun w => Or.inr (b.2 w)⟩))) (Nat.le_of_ble_eq_true rfl))
  by_cases w0 : W.1 = 0
  · obtain ⟨⟨hN1, hH1⟩, hl1, hl2, hl3⟩ := hN w0
    rcases hw1' with ⟨⟨k1, k2, k3, k4, k5⟩, e1⟩ | ⟨k1, k2, e1⟩
    · obtain ⟨a, fa, va⟩ := hN1.sm (by omega) k3 k4
      have ra : r1.toInt = (a : Int) := by rw [k5]; exact va
      rcases hw2' with ⟨⟨l1, l2, l3, l4, l5⟩, e2⟩ | ⟨l1, l2, e2⟩
      · obtain ⟨b, fb, vb⟩ := hN1.sm (by omega) l3 l4
        have rb' : r2.toInt = (b : Int) := by rw [l5]; exact vb
        have eW2 : W2.1 = 0 := by rw [e2, e1]; exact w0
        have mw : (a = b ∨ wx (wE st) a b st.2.1.length 0 = true) → mWire V n st = ((3, n + 2), st) := fun o => by
          unfold mWire
          rw [fa, fb]
          show (if _ then _ else _) = _
          rw [if_pos o]
        have go66 : (a = b ∨ wx (wE st) a b st.2.1.length 0 = true) → j_X12_tellWire_70_66 6 X r1 (m1.1 70 11) r2 m2 Q := fun o => h66 (fun w => absurd eW2 w) ⟨fun w => absurd w0 w, fun _ => by rw [wadd_z eW2, mw o]; exact ⟨Nat.succ_ne_zero 2, rfl, Nat.le_refl _⟩⟩
        refine ⟨fun q => by exfalso; omega, fun _ => ⟨fun q => by exfalso; omega, fun _ => ⟨fun q => go66 (Or.inl (by omega)), fun q => ?_⟩⟩⟩
        refine Wp.deep (q_areWired (st := st) hs (F2.sd hsd).1 (by rw [hl2]; exact C2.2.1) (by omega) (hN1.cx c12).2.2.2.2 ra rb' (fun y => ⟨fun q => absurd q (by decide), fun _ => go66 (Or.inr y)⟩) (fun y => ⟨fun _ => w72 m2 r1 r2 W2 c12 h2 (fun _ => ⟨fun w => absurd w0 w, fun _ => Or.inl ⟨eW2, a, b, fa, fb, ra, rb', fun o => ?_⟩⟩), fun q => absurd rfl q⟩)) (Nat.le_of_ble_eq_true rfl)
        rcases o with o | o
        · omega
        · rw [y] at o; cases o
      · have fb := hN1.nn (y := V (n + 2)) (fun k hk he => l1 k (by omega) he)
        have mw : mWire V n st = ((4, n + 2), st) := by
          unfold mWire
          rw [fa, fb]
        have r2v : r2.toInt = -1 := by rw [l2]; exact em1
        have eW2 : W2 = (4, n + 2) := by rw [e2, e1, wadd_z w0]
        refine ⟨fun q => by exfalso; omega, fun _ => ⟨fun q => w72 m2 r1 r2 W2 c12 h2 (fun _ => ⟨fun w => absurd w0 w, fun _ => Or.inr ?_⟩), fun q => by exfalso; omega⟩⟩
        rw [eW2, mw]
        exact ⟨Nat.succ_ne_zero 3, rfl, Nat.le_refl _⟩
    · have fa := hN1.nn (y := V (n + 1)) (fun k hk he => k1 k (by omega) he)
      have mw : mWire V n st = ((4, n + 1), st) := by
        unfold mWire
        rw [fa]
      have r1v : r1.toInt = -1 := by rw [k2]; exact em1
      have eW1 : W1 = (4, n + 1) := by rw [e1, wadd_z w0]
      have eW2 : W2 = (4, n + 1) := by
        rcases hw2' with ⟨-, e⟩ | ⟨-, -, e⟩
        · rw [e, eW1]
        · rw [e, eW1, wadd_n (Nat.succ_ne_zero 3)]
      refine ⟨fun q => w72 m2 r1 r2 W2 c12 h2 (fun _ => ⟨fun w => absurd w0 w, fun _ => Or.inr ?_⟩), fun q => by exfalso; omega⟩
      rw [eW2, mw]
      exact ⟨Nat.succ_ne_zero 3, rfl, by show n + 1 ≤ n + 2; omega⟩
  · have eW1 : W1 = W := by
      rcases hw1' with ⟨-, e⟩ | ⟨-, -, e⟩
      · exact e
      · rw [e, wadd_n w0]
    have eW2 : W2 = W := by
      rcases hw2' with ⟨-, e⟩ | ⟨-, -, e⟩
      · rw [e, eW1]
      · rw [e, eW1, wadd_n w0]
    have go := w72 m2 r1 r2 W2 c12 h2 (fun _ => ⟨fun _ => eW2, fun w => absurd w w0⟩)
    have go66 := h66 (fun w => by rw [eW2] at w ⊢; have := hW w; omega) ⟨fun _ => by rw [eW2, wadd_n w0], fun w => absurd w w0⟩
    refine ⟨fun _ => go, fun _ => ⟨fun _ => go, fun _ => ⟨fun _ => go66, fun _ => ?_⟩⟩⟩
    have b82 := C2.2.1
    exact Wp.deep (p_areWired hs (F2.sd hsd) (by omega) (fun r3 => ⟨fun _ => go, fun _ => go66⟩)) (Nat.le_of_ble_eq_true rfl)
end RWV
