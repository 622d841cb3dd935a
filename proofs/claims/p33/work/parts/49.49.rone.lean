/-! THE REFERENCE's tells, exactly: one of them -/
def VF (m mm : dM) : Prop := (∀ k : Nat, k ≠ 70 → ¬ (91 ≤ k ∧ k ≤ 94) → mm.1 k = m.1 k) ∧ (∀ j : Nat, j ≠ 11 → j ≠ 13 → j ≠ 14 → j ≠ 15 → j ≠ 16 → mm.1 70 j = m.1 70 j) ∧ mm.2 = m.2
section RON
variable {K : Nat → Int} {V : Nat → Int64} {P : Nat → Nat} {m0 m : dM} {L s cf cw cu n : Nat} {W : gR} {st : mSt}
theorem VF.of {b : dM} (hc : Cx m b) : VF m b := ⟨fun k e _ => hc.1 k e, hc.2.1, hc.2.2⟩
theorem VF.cx {a b : dM} (h : VF m a) (hc : Cx a b) : VF m b := ⟨fun k e1 e2 => (hc.1 k e1).trans (h.1 k e1 e2), fun j a1 a2 a3 a4 a5 => (hc.2.1 j a1 a2 a3 a4 a5).trans (h.2.1 j a1 a2 a3 a4 a5), hc.2.2.trans h.2.2⟩
theorem VF.set {a : dM} {k j : Nat} {v : Int32} (h : VF m a) (hk : 91 ≤ k ∧ k ≤ 94) : VF m (dSet a k j v) := ⟨fun b e1 e2 => by rw [dSet_k (fun e => e2 (by omega))]; exact h.1 b e1 e2, fun b a1 a2 a3 a4 a5 => by rw [dSet_k (by omega)]; exact h.2.1 b a1 a2 a3 a4 a5, h.2.2⟩
theorem FX.vf {mm : dM} (h : FX m0 L m) (hu : VF m mm) : FX m0 L mm := ⟨fun k e => (hu.1 k (by omega) (by omega)).trans (h.1 k e), fun j e => (hu.2.1 j (by omega) (by omega) (by omega) (by omega) (by omega)).trans (h.2.1 j e), by rw [hu.1 80 (by decide) (by decide)]; exact h.2.2⟩
theorem RM.vf {mm : dM} (h : RM K V P m) (hu : VF m mm) : RM K V P mm := h.of (fun k a b => hu.1 k (by omega) (by omega)) (by rw [hu.2.2])
theorem TI.fin {mm : dM} {n' : Nat} {W' : gR} {z : Option Nat × Option Nat × Option Nat} (hT : TI K V P m0 L s cf cw cu n W st m) (hu : VF m mm) (hS : ST K P mm (0, n') W') (hn : n ≤ n') (hw : W'.1 ≠ 0 → W'.2 < n') (h0 : W'.1 = 0 → W.1 = 0) : TI K V P m0 L s cf cw cu n' W' (st.1, st.2.1, st.2.2.1, z) mm := by
  obtain ⟨hS0, hR, hF, hC, hQ, hW, hN⟩ := hT
  have t1 : tt mm = (n' : Int) := (hS.1 rfl).2.1
  have t0 : tt m = (n : Int) := (hS0.1 rfl).2.1
  refine ⟨hS, hR.vf hu, hF.vf hu, ?_, hQ.j (hu.2.1 12 (by decide) (by decide) (by decide) (by decide) (by decide)) (hu.2.1 46 (by decide) (by decide) (by decide) (by decide) (by decide)) (hu.2.1 40 (by decide) (by decide) (by decide) (by decide) (by decide)) (by omega), hw, fun w => ?_⟩
  · unfold CT nms
    rw [hu.1 80 (by decide) (by decide), hu.1 82 (by decide) (by decide), hu.1 86 (by decide) (by decide), hu.2.1 20 (by decide) (by decide) (by decide) (by decide) (by decide)]
    exact hC
  · obtain ⟨a, b⟩ := hN (h0 w)
    exact ⟨(a.of (hu.1 79 (by decide) (by decide)) (hu.1 83 (by decide) (by decide)) (hu.1 84 (by decide) (by decide)) (by rw [hu.2.2]) : NM V s st mm), b⟩
theorem e_one {Q : dM → Prop} (hL : L + s = 1) (hsd : (m0.1 70 19).toInt = (s : Int)) (hv : ∀ i, vk (K i)) (hP : ∀ i j : Nat, i < j → lvK K j → P i < P j) (hT : TI K V P m0 L s cf cw cu n W st m)
    (hB : (gTell K cf cw cu n).1 ≠ 0 → ∀ (m' : dM) (W' : gR), ST K P m' (gTell K cf cw cu n) W' → FX m0 L m' → Q m')
    (hG : (gTell K cf cw cu n).1 = 0 → ∀ (m' : dM) (W' : gR) (st' : mSt), TI K V P m0 L s (cf + ct (K n) 0) (cw + ct (K n) 1) (cu + ct (K n) 2) (gTell K cf cw cu n).2 W' st' m' → WN K V n W st W' st' → Q m') : c_X12_tellOne_70 8 m Q := by
  have hs : s ≤ 1 := by omega
  have hT' := hT
  obtain ⟨hS, hR, hF, hC, hLQ, hW, hN⟩ := hT'
  have hC5 := hC.2.2.2.2
  have sd := hF.sd hsd
  obtain ⟨b1, b2, b3, b4, b5⟩ := hS.1 rfl
  have b2 : (m.1 70 11).toInt = (n : Int) := b2
  have b3 : n ≤ 400 := b3
  have b4 : lvK K n := b4
  have tr : (0 ≤ (m.1 70 11).toInt ∧ (m.1 70 11).toInt < 403) := by omega
  have ek : (m.1 73 (m.1 70 11).toNatClampNeg).toInt = rk (K n) := by
    rw [d_cn b2]
    exact (hR n b3 b4).1
  obtain ⟨ra1, ra2, ra3⟩ := rk_rg (hv n)
  have kn : ∀ c : Int, 0 ≤ c ∧ c ≤ 21 → (m.1 73 (m.1 70 11).toNatClampNeg).toInt = 20 + c → K n = c := fun c hc e => by
    have := ra1 (by omega)
    have := ra2 this
    omega
  have fin : ∀ m', Q m' → j_X12_tellOne_70_371 8 m' Q := fun m' h => v_X12_tellOne_70_371 h
  have ct0 : ∀ c : Int, (c ≠ 0 ∧ c ≠ 1 ∧ c ≠ 2) → ct c 0 = 0 ∧ ct c 1 = 0 ∧ ct c 2 = 0 := fun c h => by
    unfold ct
    rw [if_neg h.1, if_neg h.2.1, if_neg h.2.2]
    exact ⟨rfl, rfl, rfl⟩
  -- a law, or none
  have l354 : ∀ (x1 : Int32) (mm : dM) (r : gR), Cx m mm → ST K P mm r W → (r.1 = 0 → r = (0, n) ∧ (0 ≤ x1.toInt ∧ x1.toInt ≤ 3) ∧ 3 ≤ K n ∧ K n ≤ 6) → (r.1 ≠ 0 → r = gTell K cf cw cu n) → j_X12_tellOne_70_354 8 x1 mm Q := by
    intro x1 mm r cm hr h0 h1
    have f := hr.fl
    have ef : (mm.1 70 13).toInt = flt mm := rfl
    refine v_X12_tellOne_70_354 ⟨fun hc => ?_, fun hc => ?_⟩
    · have z : r.1 = 0 := f.2.mp (by omega)
      obtain ⟨er, hx, k3, k6⟩ := h0 z
      rw [er] at hr
      have gT : gTell K cf cw cu n = gLaw K n := by
        unfold gTell
        rw [if_neg (by omega), if_neg (by omega), if_neg (by omega), if_pos ⟨k3, k6⟩]
      refine Wp.deep (q_goesOn (hR.cx cm) hr (fun _ => by show K n ≠ 24 ∧ K n ≠ 25; omega) (fun m1 c1 s1 => ?_)) (Nat.le_of_ble_eq_true rfl)
      have s1 : ST K P m1 (gst n) W := s1
      have cm1 := cm.tr c1
      have F1 := hF.cx cm1
      have l1 : opn m1 = opn m ∧ cds m1 = cds m ∧ brs m1 = brs m := by
        unfold opn cds brs
        rw [cm1.2.1 12 (by decide) (by decide) (by decide) (by decide) (by decide), cm1.2.1 46 (by decide) (by decide) (by decide) (by decide) (by decide), cm1.2.1 40 (by decide) (by decide) (by decide) (by decide) (by decide)]
        exact ⟨rfl, rfl, rfl⟩
      have t0 : tt m = (n : Int) := b2
      obtain ⟨q1, q2, q3⟩ := hLQ
      refine Wp.deep (r_tellLaw hs (F1.sd hsd).1 hx hv (hR.cx cm1) s1 ⟨by omega, by omega⟩ (by omega) (fun z1 => ?_) (fun m2 x2 s2 => fin m2 ?_)) (Nat.le_of_ble_eq_true rfl)
      · have t1 := (s1.1 z1).2.1
        rw [(gst_z z1).1] at t1
        have t1 : tt m1 = ((n + 1 : Nat) : Int) := t1
        exact ⟨by omega, by omega, by omega⟩
      · have s2 : ST K P m2 (gLaw K n) W := s2
        rw [← gT] at s2
        have F2 : FX m0 L m2 := ⟨fun k e => (x2.1 k (by omega) (by omega)).trans (F1.1 k e), fun j e => (x2.2.1 j (by omega) (by omega) (by omega) (by omega) (by omega) (by omega) (by omega) (by omega) (by omega)).trans (F1.2.1 j e), by rw [x2.1 80 (by decide) (by decide)]; exact F1.2.2⟩
        by_cases zz : (gTell K cf cw cu n).1 = 0
        · have eT : gTell K cf cw cu n = (0, (gTell K cf cw cu n).2) := by rw [← zz]
          have nle : n ≤ (gTell K cf cw cu n).2 := by
            rw [gT] at zz ⊢
            obtain ⟨e, x1', x2', x3', x4'⟩ := gLaw_z zz
            rw [x1']
            have := x4'.1
            show n ≤ e + 1
            omega
          have cc := ct0 (K n) (by omega)
          have f2 : flt m2 = 0 := s2.fl.2.mpr zz
          have lq := x2.2.2.2 f2
          refine hG zz m2 W st ?_ ⟨fun _ => rfl, fun w => ?_⟩
          · rw [cc.1, cc.2.1, cc.2.2]
            refine ⟨by rw [← eT]; exact s2, (hR.cx cm1).of (fun k a b => x2.1 k (by omega) (by omega)) (by rw [x2.2.2.1]), F2, ?_, ⟨lq.1, by omega, by omega⟩, fun w => by have := hW w; omega, fun w => ?_⟩
            · have C1 := hC.cx cm1
              unfold CT nms at C1 ⊢
              rw [x2.1 80 (by decide) (by decide), x2.1 82 (by decide) (by decide), x2.1 86 (by decide) (by decide), x2.2.1 20 (by decide) (by decide) (by decide) (by decide) (by decide) (by decide) (by decide) (by decide) (by decide)]
              exact C1
            · obtain ⟨a, b⟩ := hN w
              exact ⟨(a.cx cm1).of (x2.1 79 (by decide) (by decide)) (x2.1 83 (by decide) (by decide)) (x2.1 84 (by decide) (by decide)) (by rw [x2.2.2.1]), b⟩
          · have mT : mTell K V n st = ((0, 0), st) := by
              unfold mTell
              rw [if_neg (by omega), if_neg (by omega), if_neg (by omega), if_neg (by omega), if_neg (by omega), if_neg (by omega)]
            rw [mT]
            exact ⟨fun _ => ⟨w, rfl⟩, fun q => absurd rfl q⟩
        · exact hB zz m2 W s2 F2
    · have z : r.1 ≠ 0 := fun z => by have := f.2.mpr z; omega
      have er := h1 z
      rw [er] at hr z
      exact hB z mm W hr (hF.cx cm)
  have l349 : ∀ x1 : Int32, gTell K cf cw cu n = (1, n) → j_X12_tellOne_70_349 8 x1 m Q := fun x1 gT => by
    refine v_X12_tellOne_70_349 (Wp.deep (q_fail hR hS (c := 1) (by decide) (by decide) (fun m1 c1 _ h1 => l354 x1 m1 (1, n) c1 h1 (fun q => absurd q (Nat.succ_ne_zero 0)) (fun _ => gT.symm))) (Nat.le_of_ble_eq_true rfl))
  have law : (m.1 73 (m.1 70 11).toNatClampNeg).toInt < 20 ∨ 29 < (m.1 73 (m.1 70 11).toNatClampNeg).toInt ∨ (23 ≤ (m.1 73 (m.1 70 11).toNatClampNeg).toInt ∧ (m.1 73 (m.1 70 11).toNatClampNeg).toInt ≤ 26) → ((0 ≤ (m.1 70 11).toInt ∧ (m.1 70 11).toInt < 403) ∧ ((((m.1 73 (m.1 70 11).toNatClampNeg) - (23 : Int32)).toInt < 0 → j_X12_tellOne_70_349 (7 + 1) ((m.1 73 (m.1 70 11).toNatClampNeg) - (23 : Int32)) m Q) ∧ (0 ≤ ((m.1 73 (m.1 70 11).toNatClampNeg) - (23 : Int32)).toInt → ((0 ≤ (m.1 70 11).toInt ∧ (m.1 70 11).toInt < 403) ∧ (((m.1 73 (m.1 70 11).toNatClampNeg).toInt ≤ 26 → j_X12_tellOne_70_354 (7 + 1) ((m.1 73 (m.1 70 11).toNatClampNeg) - (23 : Int32)) m Q) ∧ (26 < (m.1 73 (m.1 70 11).toNatClampNeg).toInt → j_X12_tellOne_70_349 (7 + 1) ((m.1 73 (m.1 70 11).toNatClampNeg) - (23 : Int32)) m Q)))))) := fun hkd => by
    have f := dSubE (X := (m.1 73 (m.1 70 11).toNatClampNeg).toInt) (Y := 23) (x := m.1 73 (m.1 70 11).toNatClampNeg) (y := (23 : Int32)) rfl (by decide) (by omega) (by omega)
    have no : (m.1 73 (m.1 70 11).toNatClampNeg).toInt < 20 ∨ 29 < (m.1 73 (m.1 70 11).toNatClampNeg).toInt → gTell K cf cw cu n = (1, n) := fun o => by
      have nk : ¬ (0 ≤ K n ∧ K n ≤ 9) := fun q => by
        have := ra2 (by omega)
        omega
      unfold gTell
      rw [if_neg (by omega), if_neg (by omega), if_neg (by omega), if_neg (by omega), if_neg (by omega), if_neg (by omega)]
    refine ⟨tr, fun q => l349 _ (no (by omega)), fun q => ⟨tr, fun q2 => ?_, fun q2 => l349 _ (no (by omega))⟩⟩
    have := ra1 (by omega)
    have := ra2 this
    exact l354 _ m (0, n) (Cx.rf m) hS (fun _ => ⟨rfl, by omega, by omega, by omega⟩) (fun q => absurd rfl q)
  -- a number, or two
  have one : ∀ (k : Nat) (hi : Int32) (hh : Int) (z : Option Nat × Option Nat × Option Nat), (k = 93 ∨ k = 94) → hi.toInt = hh → (K n = 8 ∨ K n = 9) → mTell K V n st = bnd V (n + 1) 0 hh ((0, 0), (st.1, st.2.1, st.2.2.1, z)) st → c_X12_goesOn_70 7 m (fun m13 => c_X12_bounded_70 7 (0 : Int32) hi m13 (fun r14 m14 => ((0 ≤ (m13.1 70 19).toInt ∧ (m13.1 70 19).toInt < 2) ∧ c_X12_must_70 7 (4 : Int32) (dSet m14 k (m13.1 70 19).toNatClampNeg r14) (fun m15 => j_X12_tellOne_70_371 (7 + 1) m15 Q)))) := by
    intro k hi hh z hk ehi hK mT
    have gT : gTell K cf cw cu n = rb (rb (gst n) (gnd K 23)) (gnd K 59) := by
      unfold gTell
      rw [if_neg (by omega), if_neg (by omega), if_neg (by omega), if_neg (by omega), if_neg (by omega), if_pos hK, gsq_r, gsq_r, rb_id]
    refine Wp.deep (q_goesOn hR hS (fun _ => by show K n ≠ 24 ∧ K n ≠ 25; omega) (fun m1 c1 s1 => ?_)) (Nat.le_of_ble_eq_true rfl)
    have s1 : ST K P m1 (gst n) W := s1
    have sd1 := (hF.cx c1).sd hsd
    refine Wp.deep (q_bounded hv hP (hR.cx c1) s1 (fun z1 w => by rw [(gst_z z1).1]; have := hW w; show W.2 < n + 1; omega) (fun r2 m2 W2 c2 s2 hw2 => ⟨by omega, ?_⟩)) (Nat.le_of_ble_eq_true rfl)
    rw [sd1.2]
    have U2 : VF m (dSet m2 k s r2) := (VF.of (c1.tr c2)).set (by omega)
    have S2 : ST K P (dSet m2 k s r2) (rb (gst n) (gnd K 23)) W2 := s2.k (by omega)
    generalize dSet m2 k s r2 = M2 at U2 S2 ⊢
    refine Wp.deep (q_must (k := 59) hv (hR.vf U2) S2 (by decide) (by unfold vk; omega) (by decide) (fun m3 c3 s3 => fin m3 ?_)) (Nat.le_of_ble_eq_true rfl)
    rw [← gT] at s3
    have U3 := U2.cx c3
    by_cases zz : (gTell K cf cw cu n).1 = 0
    · have z3 := zz
      rw [gT] at z3
      have z2 := (rb_z z3).1
      have z1 := (rb_z z2).1
      have g1 := (gst_z z1).1
      have hw2' := hw2 z2
      rw [g1] at hw2'
      have eT : gTell K cf cw cu n = (0, n + 3) := by
        rw [gT]
        rw [g1, rb_0] at z2 z3 ⊢
        rw [(gnd_0 z2).1, rb_0] at z3 ⊢
        rw [(gnd_0 z3).1]
      rw [eT] at s3
      have eW : W2 = bX V 0 hh (n + 1) W := by rw [hw2'.2]; unfold bX; rw [ehi]; rfl
      have cc := ct0 (K n) (by omega)
      refine hG zz m3 W2 (st.1, st.2.1, st.2.2.1, z) ?_ ⟨fun w => by rw [eW, bX_n w], fun w => ?_⟩
      · rw [cc.1, cc.2.1, cc.2.2, eT]
        refine hT.fin U3 s3 (by omega) ?_ (fun w => ?_)
        · rw [eW]; exact bX_lt (fun w => by have := hW w; omega) (by omega)
        · by_cases q : W.1 = 0
          · exact q
          · rw [eW, bX_n q] at w; exact w
      · rw [mT, eW]
        unfold bnd bX
        by_cases inb : (0 : Int) ≤ iV V (n + 1) ∧ iV V (n + 1) ≤ hh
        · rw [if_pos inb, if_pos inb]; exact ⟨fun _ => ⟨w, rfl⟩, fun q => absurd rfl q⟩
        · rw [if_neg inb, if_neg inb, wadd_z w]; exact ⟨fun q => absurd q (Nat.succ_ne_zero 4), fun _ => rfl⟩
    · exact hB zz m3 W2 s3 (hF.vf U3)
  refine v_X12_tellOne_70 ⟨tr, fun q => ⟨by omega, e_flat hL hsd hv hP hT (kn 0 (by decide) q) hB hG fin⟩, fun q => ⟨by omega, ?_⟩, fun q => ⟨by omega, ?_⟩, fun q => law (by omega), fun q => law (by omega), fun q => law (by omega), fun q => law (by omega), fun q => ?_, fun q => ?_, fun q => ?_, fun q => law (by omega)⟩
  · have hk := kn 1 (by decide) q
    have gT : gTell K cf cw cu n = if 10 ≤ cw then (2, n) else rb (gst n) (gsq K [22, 22, 23, 59]) := by unfold gTell; rw [if_neg (by omega), if_pos hk]
    rw [sd.2]
    refine Wp.deep (q_roomFor (most := 10) hR hS (by omega) hC.2.1 (by decide) hC5.2.1 (fun m1 c1 h1 => ?_)) (Nat.le_of_ble_eq_true rfl)
    have f1 := h1.fl
    have e13 : (m1.1 70 13).toInt = flt m1 := rfl
    refine ⟨fun q2 => fin m1 ?_, fun q2 => ?_⟩
    · have z : (if 10 ≤ cw then ((2, n) : gR) else gst n).1 ≠ 0 := fun z => q2 (f1.2.mpr z)
      have eT : gTell K cf cw cu n = if 10 ≤ cw then (2, n) else gst n := by
        rw [gT]
        by_cases q7 : 10 ≤ cw
        · rw [if_pos q7, if_pos q7]
        · rw [if_neg q7] at z
          rw [if_neg q7, if_neg q7, rb_f z]
      exact hB (by rw [eT]; exact z) m1 W (by rw [eT]; exact h1) (hF.cx c1)
    · have z1 : (if 10 ≤ cw then ((2, n) : gR) else gst n).1 = 0 := f1.2.mp q2
      have c7 : ¬ 10 ≤ cw := fun q7 => by rw [if_pos q7] at z1; exact absurd z1 (Nat.succ_ne_zero 1)
      rw [if_neg c7] at z1 h1 gT
      have g1 := gst_z z1
      rw [g1.1] at h1 gT
      rw [rb_0] at gT
      have t1 : tt m1 = ((n + 1 : Nat) : Int) := (h1.1 rfl).2.1
      have t0 : tt m = (n : Int) := b2
      refine Wp.deep (e_wire (st := st) hL hsd hv hP h1 (hR.cx c1) (hF.cx c1) (hC.cx c1) (by omega) (hLQ.j (c1.2.1 12 (by decide) (by decide) (by decide) (by decide) (by decide)) (c1.2.1 46 (by decide) (by decide) (by decide) (by decide) (by decide)) (c1.2.1 40 (by decide) (by decide) (by decide) (by decide) (by decide)) (by omega)) hW (fun w => ⟨(hN w).1.cx c1, (hN w).2⟩) (fun z m' W' s' F' => fin m' (hB (by rw [gT]; exact z) m' W' (by rw [gT]; exact s') F')) (fun z m' W' st' T' M' => fin m' (hG (by rw [gT]; exact z) m' W' st' ?_ ?_))) (Nat.le_of_ble_eq_true rfl)
      · have e := (gsq_z _ _ z).1
        rw [gT, e, hk]
        exact T'
      · have mT : mTell K V n st = mWire V n st := by unfold mTell; rw [if_neg (by omega), if_pos hk]
        unfold WN
        rw [mT]
        exact M'
  · have hk := kn 2 (by decide) q
    have gT : gTell K cf cw cu n = if 8 ≤ cu then (2, n) else rb (gst n) (gsq K [22, 22, 23, 23, 23, 59]) := by unfold gTell; rw [if_neg (by omega), if_neg (by omega), if_pos hk]
    rw [sd.2]
    refine Wp.deep (q_roomFor (most := 8) hR hS (by omega) hC.2.2.1 (by decide) hC5.2.2 (fun m1 c1 h1 => ?_)) (Nat.le_of_ble_eq_true rfl)
    have f1 := h1.fl
    have e13 : (m1.1 70 13).toInt = flt m1 := rfl
    refine ⟨fun q2 => fin m1 ?_, fun q2 => ?_⟩
    · have z : (if 8 ≤ cu then ((2, n) : gR) else gst n).1 ≠ 0 := fun z => q2 (f1.2.mpr z)
      have eT : gTell K cf cw cu n = if 8 ≤ cu then (2, n) else gst n := by
        rw [gT]
        by_cases q7 : 8 ≤ cu
        · rw [if_pos q7, if_pos q7]
        · rw [if_neg q7] at z
          rw [if_neg q7, if_neg q7, rb_f z]
      exact hB (by rw [eT]; exact z) m1 W (by rw [eT]; exact h1) (hF.cx c1)
    · have z1 : (if 8 ≤ cu then ((2, n) : gR) else gst n).1 = 0 := f1.2.mp q2
      have c7 : ¬ 8 ≤ cu := fun q7 => by rw [if_pos q7] at z1; exact absurd z1 (Nat.succ_ne_zero 1)
      rw [if_neg c7] at z1 h1 gT
      have g1 := gst_z z1
      rw [g1.1] at h1 gT
      rw [rb_0] at gT
      have t1 : tt m1 = ((n + 1 : Nat) : Int) := (h1.1 rfl).2.1
      have t0 : tt m = (n : Int) := b2
      refine Wp.deep (e_use (st := st) hL hsd hv hP h1 (hR.cx c1) (hF.cx c1) (hC.cx c1) (by omega) (hLQ.j (c1.2.1 12 (by decide) (by decide) (by decide) (by decide) (by decide)) (c1.2.1 46 (by decide) (by decide) (by decide) (by decide) (by decide)) (c1.2.1 40 (by decide) (by decide) (by decide) (by decide) (by decide)) (by omega)) hW (fun w => ⟨(hN w).1.cx c1, (hN w).2⟩) (fun z m' W' s' F' => fin m' (hB (by rw [gT]; exact z) m' W' (by rw [gT]; exact s') F')) (fun z m' W' st' T' M' => fin m' (hG (by rw [gT]; exact z) m' W' st' ?_ ?_))) (Nat.le_of_ble_eq_true rfl)
      · have e := (gsq_z _ _ z).1
        rw [gT, e, hk]
        exact T'
      · have mT : mTell K V n st = mUse V n st := by unfold mTell; rw [if_neg (by omega), if_neg (by omega), if_pos hk]
        unfold WN
        rw [mT]
        exact M'
  · have hk := kn 7 (by decide) q
    have gT : gTell K cf cw cu n = rb (rb (rb (gst n) (gnd K 23)) (gnd K 23)) (gnd K 59) := by
      unfold gTell
      rw [if_neg (by omega), if_neg (by omega), if_neg (by omega), if_neg (by omega), if_pos hk, gsq_r, gsq_r, gsq_r, rb_id]
    have mT : mTell K V n st = bnd V (n + 1) 0 100 (bnd V (n + 2) 0 19 ((0, 0), (st.1, st.2.1, st.2.2.1, (some n, st.2.2.2.2))) st) st := by
      unfold mTell
      rw [if_neg (by omega), if_neg (by omega), if_neg (by omega), if_pos hk]
    refine Wp.deep (q_goesOn hR hS (fun _ => by show K n ≠ 24 ∧ K n ≠ 25; omega) (fun m1 c1 s1 => ?_)) (Nat.le_of_ble_eq_true rfl)
    have s1 : ST K P m1 (gst n) W := s1
    have sd1 := (hF.cx c1).sd hsd
    refine Wp.deep (q_bounded hv hP (hR.cx c1) s1 (fun z1 w => by rw [(gst_z z1).1]; have := hW w; show W.2 < n + 1; omega) (fun r2 m2 W2 c2 s2 hw2 => ⟨by omega, ?_⟩)) (Nat.le_of_ble_eq_true rfl)
    have sd2 := (hF.cx (c1.tr c2)).sd hsd
    rw [sd1.2]
    have U2 : VF m (dSet m2 91 s r2) := (VF.of (c1.tr c2)).set (by decide)
    have S2 : ST K P (dSet m2 91 s r2) (rb (gst n) (gnd K 23)) W2 := s2.k (by decide)
    generalize dSet m2 91 s r2 = M2 at U2 S2 ⊢
    have hw2' : (rb (gst n) (gnd K 23)).1 = 0 → rb (gst n) (gnd K 23) = (0, n + 2) ∧ W2 = bX V 0 100 (n + 1) W := fun z2 => by
      have a := hw2 z2
      have z1 := (rb_z z2).1
      rw [(gst_z z1).1] at a z2 ⊢
      exact ⟨(gnd_0 z2).1, a.2⟩
    refine Wp.deep (q_bounded hv hP (hR.vf U2) S2 (fun z w => by rw [(hw2' z).1]; rw [(hw2' z).2] at w ⊢; exact bX_lt (fun w => by have := hW w; omega) (by omega) w) (fun r3 m3 W3 c3 s3 hw3 => ⟨by omega, ?_⟩)) (Nat.le_of_ble_eq_true rfl)
    rw [sd2.2]
    have U3 : VF m (dSet m3 92 s r3) := (U2.cx c3).set (by decide)
    have S3 : ST K P (dSet m3 92 s r3) (rb (rb (gst n) (gnd K 23)) (gnd K 23)) W3 := s3.k (by decide)
    generalize dSet m3 92 s r3 = M3 at U3 S3 ⊢
    have hw3' : (rb (rb (gst n) (gnd K 23)) (gnd K 23)).1 = 0 → rb (rb (gst n) (gnd K 23)) (gnd K 23) = (0, n + 3) ∧ W3 = bX V 0 19 (n + 2) W2 := fun z3 => by
      have a := hw3 z3
      have z2 := (rb_z z3).1
      rw [(hw2' z2).1] at a z3 ⊢
      exact ⟨(gnd_0 z3).1, a.2⟩
    refine Wp.deep (q_must (k := 59) hv (hR.vf U3) S3 (by decide) (by unfold vk; omega) (by decide) (fun m4 c4 s4 => fin m4 ?_)) (Nat.le_of_ble_eq_true rfl)
    rw [← gT] at s4
    have U4 := U3.cx c4
    by_cases zz : (gTell K cf cw cu n).1 = 0
    · have z4 := zz
      rw [gT] at z4
      have z3 := (rb_z z4).1
      have z2 := (rb_z z3).1
      have eT : gTell K cf cw cu n = (0, n + 4) := by
        rw [gT]
        rw [(hw3' z3).1, rb_0] at z4 ⊢
        rw [(gnd_0 z4).1]
      rw [eT] at s4
      have e2 := (hw2' z2).2
      have e3 := (hw3' z3).2
      have cc := ct0 (K n) (by omega)
      refine hG zz m4 W3 (st.1, st.2.1, st.2.2.1, (some n, st.2.2.2.2)) ?_ ⟨fun w => by rw [e3, e2, bX_n w, bX_n w], fun w => ?_⟩
      · rw [cc.1, cc.2.1, cc.2.2, eT]
        refine hT.fin U4 s4 (by omega) ?_ (fun w => ?_)
        · rw [e3, e2]; exact bX_lt (bX_lt (fun w => by have := hW w; omega) (by omega)) (by omega)
        · by_cases q0 : W.1 = 0
          · exact q0
          · rw [e3, e2, bX_n q0, bX_n q0] at w; exact w
      · rw [mT, e3, e2]
        unfold bnd bX
        by_cases b1 : (0 : Int) ≤ iV V (n + 1) ∧ iV V (n + 1) ≤ 100
        · rw [if_pos b1, if_pos b1]
          by_cases b2 : (0 : Int) ≤ iV V (n + 2) ∧ iV V (n + 2) ≤ 19
          · rw [if_pos b2, if_pos b2]; exact ⟨fun _ => ⟨w, rfl⟩, fun q => absurd rfl q⟩
          · rw [if_neg b2, if_neg b2, wadd_z w]; exact ⟨fun q => absurd q (Nat.succ_ne_zero 4), fun _ => rfl⟩
        · rw [if_neg b1, if_neg b1, wadd_z w]
          refine ⟨fun q => absurd q (Nat.succ_ne_zero 4), fun _ => ?_⟩
          split
          · rfl
          · exact wadd_n (Nat.succ_ne_zero 4)
    · exact hB zz m4 W3 s4 (hF.vf U4)
  · have hk := kn 8 (by decide) q
    refine one 93 _ 999 (st.2.2.2.1, some n, st.2.2.2.2.2) (Or.inl rfl) (by decide) (Or.inl hk) ?_
    unfold mTell
    rw [if_neg (by omega), if_neg (by omega), if_neg (by omega), if_neg (by omega), if_pos hk]
  · have hk := kn 9 (by decide) q
    refine one 94 _ 9999 (st.2.2.2.1, st.2.2.2.2.1, some n) (Or.inr rfl) (by decide) (Or.inr hk) ?_
    unfold mTell
    rw [if_neg (by omega), if_neg (by omega), if_neg (by omega), if_neg (by omega), if_neg (by omega), if_pos hk]
end RON
