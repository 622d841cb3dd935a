/-! THE REFERENCE's tells, exactly: what holds at the start of one; a flat -/
theorem wadd_n {W w : gR} (h : W.1 ≠ 0) : wadd W w = W := by unfold wadd; rw [if_neg h]
theorem wadd_z {W w : gR} (h : W.1 = 0) : wadd W w = w := by unfold wadd; rw [if_pos h]
theorem rb_id {K : Nat → Int} {r : gR} : rb r (gsq K []) = r := by
  by_cases z : r.1 = 0
  · rw [rb_k z]
    show (0, r.2) = r
    rw [← z]
  · rw [rb_f z]
theorem gsq_r {K : Nat → Int} {r : gR} {k : Int} {ks : List Int} : rb r (gsq K (k :: ks)) = rb (rb r (gnd K k)) (gsq K ks) := by
  rw [rb_as]
  rfl
def FX (m0 : dM) (L : Nat) (m : dM) : Prop := (∀ k : Nat, k < 70 ∨ k = 71 ∨ 105 ≤ k → m.1 k = m0.1 k) ∧ (∀ j : Nat, (j = 2 ∨ j = 18 ∨ j = 19 ∨ 51 ≤ j) → m.1 70 j = m0.1 70 j) ∧ m.1 80 L = m0.1 80 L
def CT (s cf cw cu : Nat) (m : dM) : Prop := (m.1 80 s).toInt = (cf : Int) ∧ (m.1 82 s).toInt = (cw : Int) ∧ (m.1 86 s).toInt = (cu : Int) ∧ nms m = ((cf + cu : Nat) : Int) ∧ cf ≤ 7 ∧ cw ≤ 10 ∧ cu ≤ 8
def LQ (s : Nat) (m : dM) : Prop := opn m = 0 ∧ (420 * (s : Int) ≤ cds m ∧ cds m ≤ 420 * s + tt m) ∧ (130 * (s : Int) ≤ brs m ∧ 4 * (brs m - 130 * s) ≤ tt m)
/-- at the start of a tell -/
def TI (K : Nat → Int) (V : Nat → Int64) (P : Nat → Nat) (m0 : dM) (L s cf cw cu n : Nat) (W : gR) (st : mSt) (m : dM) : Prop := ST K P m (0, n) W ∧ RM K V P m ∧ FX m0 L m ∧ CT s cf cw cu m ∧ LQ s m ∧ (W.1 ≠ 0 → W.2 < n) ∧ (W.1 = 0 → NM V s st m ∧ st.1.length = cf ∧ st.2.1.length = cw ∧ st.2.2.1.length = cu)
/-- what comes of the meaning -/
def WN (K : Nat → Int) (V : Nat → Int64) (n : Nat) (W : gR) (st : mSt) (W' : gR) (st' : mSt) : Prop := (W.1 ≠ 0 → W' = W) ∧ (W.1 = 0 → ((mTell K V n st).1.1 = 0 → W'.1 = 0 ∧ st' = (mTell K V n st).2) ∧ ((mTell K V n st).1.1 ≠ 0 → W' = (mTell K V n st).1))
section RFL
variable {K : Nat → Int} {V : Nat → Int64} {P : Nat → Nat} {m0 m m' : dM} {L s cf cw cu n : Nat} {W : gR} {st : mSt}
theorem FX.cx (h : FX m0 L m) (hc : Cx m m') : FX m0 L m' := ⟨fun k e => (hc.1 k (by omega)).trans (h.1 k e), fun j e => (hc.2.1 j (by omega) (by omega) (by omega) (by omega) (by omega)).trans (h.2.1 j e), by rw [hc.1 80 (by decide)]; exact h.2.2⟩
theorem FX.set {k j : Nat} {v : Int32} (h : FX m0 L m) (hk : 72 ≤ k) (hk2 : k ≤ 104) (hj : k = 80 → j ≠ L) : FX m0 L (dSet m k j v) := ⟨fun a e => by rw [dSet_k (by omega)]; exact h.1 a e, fun a e => by rw [dSet_k (by omega)]; exact h.2.1 a e, by
  by_cases q : k = 80
  · subst q
    rw [dSet_j (fun e => hj rfl e.symm)]; exact h.2.2
  · rw [dSet_k (fun e => q e.symm)]; exact h.2.2⟩
theorem FX.en {N : Nat} {y : Int64} {v : Int32} (h : FX m0 L m) (he : EN N y v m m') : FX m0 L m' := ⟨fun k e => (he.1 k (by omega) (by omega)).trans (h.1 k e), fun j e => (he.2.1 j (by omega) (by omega) (by omega) (by omega) (by omega) (by omega)).trans (h.2.1 j e), by rw [he.1 80 (by decide) (by decide)]; exact h.2.2⟩
theorem FX.sd (h : FX m0 L m) (hsd : (m0.1 70 19).toInt = (s : Int)) : (m.1 70 19).toInt = (s : Int) ∧ (m.1 70 19).toNatClampNeg = s := by
  have e : (m.1 70 19).toInt = (s : Int) := by rw [h.2.1 19 (by omega)]; exact hsd
  exact ⟨e, d_cn e⟩
theorem CT.cx (h : CT s cf cw cu m) (hc : Cx m m') : CT s cf cw cu m' := by
  unfold CT nms
  rw [hc.1 80 (by decide), hc.1 82 (by decide), hc.1 86 (by decide), hc.2.1 20 (by decide) (by decide) (by decide) (by decide) (by decide)]
  exact h
theorem LQ.j (h : LQ s m) (h12 : m'.1 70 12 = m.1 70 12) (h46 : m'.1 70 46 = m.1 70 46) (h40 : m'.1 70 40 = m.1 70 40) (ht : tt m ≤ tt m') : LQ s m' := by
  obtain ⟨a, b, c⟩ := h
  have e1 : opn m' = opn m := by unfold opn; rw [h12]
  have e2 : cds m' = cds m := by unfold cds; rw [h46]
  have e3 : brs m' = brs m := by unfold brs; rw [h40]
  exact ⟨by omega, by omega, by omega⟩
theorem e_flat {Q : dM → Prop} (hL : L + s = 1) (hsd : (m0.1 70 19).toInt = (s : Int)) (hv : ∀ i, vk (K i)) (hP : ∀ i j : Nat, i < j → lvK K j → P i < P j) (hT : TI K V P m0 L s cf cw cu n W st m) (hk : K n = 0)
    (hB : (gTell K cf cw cu n).1 ≠ 0 → ∀ (m' : dM) (W' : gR), ST K P m' (gTell K cf cw cu n) W' → FX m0 L m' → Q m')
    (hG : (gTell K cf cw cu n).1 = 0 → ∀ (m' : dM) (W' : gR) (st' : mSt), TI K V P m0 L s (cf + ct (K n) 0) (cw + ct (K n) 1) (cu + ct (K n) 2) (gTell K cf cw cu n).2 W' st' m' → WN K V n W st W' st' → Q m') (fin : ∀ m', Q m' → j_X12_tellOne_70_371 8 m' Q) :
    c_X12_roomFor_70 7 (m.1 80 (m.1 70 19).toNatClampNeg) (7 : Int32) m (fun m1 => (((m1.1 70 13).toInt ≤ 0 → c_X12_named_70 7 m1 (fun r2 m2 => ((0 ≤ (m2.1 70 19).toInt ∧ (m2.1 70 19).toInt < 2) ∧ c_X12_bounded_70 7 (0 : Int32) (9 : Int32) m2 (fun r3 m3 => ((0 ≤ (((7 : Int32) * (m2.1 70 19)) + (m2.1 80 (m2.1 70 19).toNatClampNeg)).toInt ∧ (((7 : Int32) * (m2.1 70 19)) + (m2.1 80 (m2.1 70 19).toNatClampNeg)).toInt < 14) ∧ ((0 ≤ (m3.1 70 19).toInt ∧ (m3.1 70 19).toInt < 2) ∧ c_X12_endsName_70 7 r2 (m3.1 80 (m3.1 70 19).toNatClampNeg) (dSet m3 81 (((7 : Int32) * (m2.1 70 19)) + (m2.1 80 (m2.1 70 19).toNatClampNeg)).toNatClampNeg r3) (fun m4 => (((m4.1 70 13).toInt ≠ 0 → j_X12_tellOne_70_371 (7 + 1) m4 Q) ∧ ((m4.1 70 13).toInt = 0 → ((0 ≤ (m4.1 70 19).toInt ∧ (m4.1 70 19).toInt < 2) ∧ ((0 ≤ (m4.1 70 19).toInt ∧ (m4.1 70 19).toInt < 2) ∧ j_X12_tellOne_70_371 (7 + 1) (dSet m4 80 (m4.1 70 19).toNatClampNeg ((m4.1 80 (m4.1 70 19).toNatClampNeg) + (1 : Int32))) Q)))))))))) ) ∧ (0 < (m1.1 70 13).toInt → Q m1))) := by
  have hs : s ≤ 1 := by omega
  obtain ⟨hS, hR, hF, hC, hQ, hW, hN⟩ := hT
  have hC5 := hC.2.2.2.2
  have sd := hF.sd hsd
  have gT : gTell K cf cw cu n = if 7 ≤ cf then (2, n) else rb (gst n) (gsq K [22, 23, 59]) := by unfold gTell; rw [if_pos hk]
  have mT : mTell K V n st = mFlat V n st := by unfold mTell; rw [if_pos hk]
  rw [sd.2]
  refine Wp.deep (q_roomFor (most := 7) hR hS (by omega) hC.1 (by decide) hC.2.2.2.2.1 (fun m1 c1 h1 => ?_)) (Nat.le_of_ble_eq_true rfl)
  have f1 := h1.fl
  have e13 : (m1.1 70 13).toInt = flt m1 := rfl
  refine ⟨fun q => ?_, fun q => ?_⟩
  rotate_left
  · have z : (if 7 ≤ cf then ((2, n) : gR) else gst n).1 ≠ 0 := fun z => by have := f1.2.mpr z; omega
    have eT : gTell K cf cw cu n = if 7 ≤ cf then (2, n) else gst n := by
      rw [gT]
      by_cases q7 : 7 ≤ cf
      · rw [if_pos q7, if_pos q7]
      · rw [if_neg q7] at z
        rw [if_neg q7, if_neg q7, rb_f z]
    refine hB (by rw [eT]; exact z) m1 W (by rw [eT]; exact h1) (hF.cx c1)
  have z1 : (if 7 ≤ cf then ((2, n) : gR) else gst n).1 = 0 := f1.2.mp (by omega)
  have c7 : ¬ 7 ≤ cf := fun q7 => by rw [if_pos q7] at z1; exact absurd z1 (Nat.succ_ne_zero 1)
  rw [if_neg c7] at z1 h1 gT
  have g1 := gst_z z1
  rw [g1.1] at h1 gT
  have gT4 : gTell K cf cw cu n = rb (rb (gnd K 22 (n + 1)) (gnd K 23)) (gnd K 59) := by rw [gT, gsq_r, gsq_r, gsq_r, rb_id, rb_0]
  have C1 := hC.cx c1
  have F1 := hF.cx c1
  refine Wp.deep (q_named hv hP (hR.cx c1) h1 C1.2.2.2.1 (by omega) (fun w => by have := hW w; omega) (fun m2 W2 c2 h2 hw2 => ?_)) (Nat.le_of_ble_eq_true rfl)
  have c12 := c1.tr c2
  have F2 := hF.cx c12
  have C2 := hC.cx c12
  have sd2 := F2.sd hsd
  refine ⟨by omega, ?_⟩
  have hW2 : (gnd K 22 (n + 1)).1 = 0 → W2.1 ≠ 0 → W2.2 < (gnd K 22 (n + 1)).2 := fun z w => by
    have e := (gnd_0 z).1
    rw [e]
    show W2.2 < n + 1 + 1
    rcases hw2 z with ⟨-, e2⟩ | ⟨-, e2⟩
    · rw [e2] at w ⊢
      by_cases q0 : W.1 = 0
      · rw [wadd_z q0]; show n + 1 < n + 1 + 1; omega
      · rw [wadd_n q0]; have := hW q0; omega
    · rw [e2] at w ⊢; have := hW w; omega
  refine Wp.deep (q_bounded hv hP (hR.cx c12) h2 hW2 (fun v3 m3 W3 c3 h3 hw3 => ?_)) (Nat.le_of_ble_eq_true rfl)
  have c13 := c12.tr c3
  have F3 := hF.cx c13
  have C3 := hC.cx c13
  have sd3 := F3.sd hsd
  rw [sd2.2, sd3.2]
  have fm := dMulE (X := 7) (Y := (s : Int)) (x := (7 : Int32)) (y := m2.1 70 19) (by decide) sd2.1 (by omega) (by omega)
  have fa := dAddE (X := 7 * (s : Int)) (Y := (cf : Int)) (x := (7 : Int32) * m2.1 70 19) (y := m2.1 80 s) fm C2.1 (by omega) (by omega)
  refine ⟨by omega, ⟨by omega, ?_⟩⟩
  have e11 : (m1.1 70 11).toInt = ((n + 1 : Nat) : Int) := (h1.1 rfl).2.1
  have F3' : FX m0 L (dSet m3 81 (((7 : Int32) * (m2.1 70 19)) + (m2.1 80 s)).toNatClampNeg v3) := F3.set (by decide) (by decide) (fun e => absurd e (by decide))
  have S3' : ST K P (dSet m3 81 (((7 : Int32) * (m2.1 70 19)) + (m2.1 80 s)).toNatClampNeg v3) (rb (gnd K 22 (n + 1)) (gnd K 23)) W3 := h3.k (by decide)
  have R3' : RM K V P (dSet m3 81 (((7 : Int32) * (m2.1 70 19)) + (m2.1 80 s)).toNatClampNeg v3) := (hR.cx c13).of (fun k a b => dSet_k (by omega)) rfl
  have k3' : ∀ k : Nat, k ≠ 81 → (dSet m3 81 (((7 : Int32) * (m2.1 70 19)) + (m2.1 80 s)).toNatClampNeg v3).1 k = m3.1 k := fun k e => dSet_k e
  have l3' : (dSet m3 81 (((7 : Int32) * (m2.1 70 19)) + (m2.1 80 s)).toNatClampNeg v3).2 = m3.2 := rfl
  generalize dSet m3 81 (((7 : Int32) * (m2.1 70 19)) + (m2.1 80 s)).toNatClampNeg v3 = M3 at F3' S3' R3' k3' l3' ⊢
  have N3 : nms M3 = ((cf + cu : Nat) : Int) := by unfold nms; rw [k3' 70 (by decide)]; exact C3.2.2.2.1
  refine Wp.deep (q_endsName (N := cf + cu) (tok := n + 1) hv R3' S3' e11 (by omega) N3 (by omega) (fun z4 m4 c4 h4 => ?_) (fun z4 m4 E4 h4 => ?_)) (Nat.le_of_ble_eq_true rfl)
  · rw [← gT4] at z4 h4
    have f4 := h4.fl
    exact ⟨fun _ => fin m4 (hB z4 m4 W3 h4 (F3'.cx c4)), fun q => absurd (f4.2.mp q) z4⟩
  · have r4 := rb_z z4
    have r3 := rb_z r4.1
    have t4 : gTell K cf cw cu n = (0, n + 4) := by
      rw [gT4, r4.2, r3.2, (gnd_0 r3.1).1]
      have a1 := r4.1
      rw [r3.2, (gnd_0 r3.1).1] at a1
      have a1 : (gnd K 23 (n + 1 + 1)).1 = 0 := a1
      show gnd K 59 (gnd K 23 (n + 1 + 1)).2 = _
      have a2 := z4
      rw [r4.2, r3.2, (gnd_0 r3.1).1] at a2
      have a2 : (gnd K 59 (gnd K 23 (n + 1 + 1)).2).1 = 0 := a2
      rw [(gnd_0 a1).1] at a2 ⊢
      have a2 : (gnd K 59 (n + 1 + 1 + 1)).1 = 0 := a2
      show gnd K 59 (n + 1 + 1 + 1) = _
      rw [(gnd_0 a2).1]
    rw [← gT4] at z4 h4
    have f4 := h4.fl
    have F4 := F3'.en E4
    have sd4 := F4.sd hsd
    rw [sd4.2]
    refine ⟨fun q => absurd (f4.2.mpr z4) q, fun _ => ⟨by omega, ⟨by omega, fin _ ?_⟩⟩⟩
    have e80 : m4.1 80 s = m3.1 80 s := by rw [E4.1 80 (by decide) (by decide), k3' 80 (by decide)]
    have e80' : (m4.1 80 s).toInt = (cf : Int) := by rw [e80]; exact C3.1
    have hw2' := hw2 r3.1
    have hw3' := hw3 r4.1
    have v21 : (gnd K 22 (n + 1)).2 = n + 2 := by rw [(gnd_0 r3.1).1]
    rw [v21] at hw3'
    have yn : M3.2.1 76 (n + 1) = V (n + 1) := by
      have hk1 := (gnd_0 r3.1).2.1
      exact (R3' (n + 1) (by omega) (h1.1 rfl).2.2.2.1).2.2.1 (by omega)
    rw [yn] at E4
    have cK : ct (K n) 0 = 1 ∧ ct (K n) 1 = 0 ∧ ct (K n) 2 = 0 := by rw [hk]; decide
    rw [t4] at h4 z4
    have S4 : ST K P (dSet m4 80 s (m4.1 80 s + 1)) (0, n + 4) W3 := h4.k (by decide)
    have R4 : RM K V P (dSet m4 80 s (m4.1 80 s + 1)) := R3'.of (fun k a b => by rw [dSet_k (by omega)]; exact E4.1 k (by omega) (by omega)) (by show m4.2.1 76 = M3.2.1 76; exact E4.2.2.2.2.1 76 (by decide))
    have tt4 : tt m4 = ((n + 4 : Nat) : Int) := (h4.1 rfl).2.1
    have tt0 : tt m = (n : Int) := (hS.1 rfl).2.1
    have jj : ∀ j : Nat, j = 12 ∨ j = 40 ∨ j = 46 → m4.1 70 j = m.1 70 j := fun j e => by rw [E4.2.1 j (by omega) (by omega) (by omega) (by omega) (by omega) (by omega), k3' 70 (by decide), c13.2.1 j (by omega) (by omega) (by omega) (by omega) (by omega)]
    have Q4 : LQ s (dSet m4 80 s (m4.1 80 s + 1)) := hQ.j (jj 12 (by omega)) (jj 46 (by omega)) (jj 40 (by omega)) (by show tt m ≤ tt m4; omega)
    have C4 : CT s (cf + 1) cw cu (dSet m4 80 s (m4.1 80 s + 1)) := by
      refine ⟨by rw [dSet_s]; exact d_inc e80' (by omega), ?_, ?_, ?_, by omega, by omega, by omega⟩
      · rw [dSet_k (by decide), E4.1 82 (by decide) (by decide), k3' 82 (by decide)]; exact C3.2.1
      · rw [dSet_k (by decide), E4.1 86 (by decide) (by decide), k3' 86 (by decide)]; exact C3.2.2.1
      · show (m4.1 70 20).toInt = _
        rw [E4.2.2.1]
        omega
    have key : (W3.1 ≠ 0 → W3.2 < n + 4) ∧ ∃ st' : mSt, (W3.1 = 0 → NM V s st' (dSet m4 80 s (m4.1 80 s + 1)) ∧ st'.1.length = cf + 1 ∧ st'.2.1.length = cw ∧ st'.2.2.1.length = cu) ∧ WN K V n W st W3 st' := by
      unfold WN
      rw [mT]
      by_cases w0 : W.1 = 0
      · obtain ⟨hN1, hl1, hl2, hl3⟩ := hN w0
        have kn : (∃ k : Nat, k < cf + cu ∧ m1.2.1 78 k = V (n + 1)) ↔ knw V st (V (n + 1)) = true := by
          rw [c1.2.2, ← hl1, ← hl3]; exact hN1.kn
        rcases hw2' with ⟨ex, e2⟩ | ⟨ex, e2⟩
        · have kt := kn.mp ex
          rw [wadd_z w0] at e2
          have e3 : W3 = (3, n + 1) := by
            rw [hw3'.2, e2]
            split
            · rfl
            · exact wadd_n (Nat.succ_ne_zero 2)
          have mf : mFlat V n st = ((3, n + 1), st) := by unfold mFlat; rw [kt]; rfl
          rw [e3, mf]
          exact ⟨fun _ => by show n + 1 < n + 4; omega, st, fun q => absurd q (Nat.succ_ne_zero 2), fun q => absurd w0 q, fun _ => ⟨fun q => absurd q (Nat.succ_ne_zero 2), fun _ => rfl⟩⟩
        · have kf : knw V st (V (n + 1)) = false := by
            cases hh : knw V st (V (n + 1)) with
            | false => rfl
            | true =>
              obtain ⟨k, k1, k2⟩ := kn.mpr hh
              exact absurd k2 (ex k k1)
          have mf : mFlat V n st = bnd V (n + 2) 0 9 ((0, 0), (st.1 ++ [n], st.2)) st := by unfold mFlat; rw [kf]; rfl
          rw [mf]
          unfold bnd
          have e3 := hw3'.2
          rw [e2] at e3
          by_cases inb : (0 : Int) ≤ iV V (n + 2) ∧ iV V (n + 2) ≤ 9
          · rw [if_pos inb] at ⊢
            rw [if_pos (show (0 : Int32).toInt ≤ iV V (n + 2) ∧ iV V (n + 2) ≤ (9 : Int32).toInt from inb)] at e3
            rw [e3]
            refine ⟨fun q => absurd w0 q, (st.1 ++ [n], st.2), fun _ => ⟨?_, ?_, hl2, hl3⟩, fun q => absurd w0 q, fun _ => ⟨fun _ => ⟨w0, rfl⟩, fun q => absurd rfl q⟩⟩
            · refine (hN1.cx c13).flat (N := cf + cu) (v := m3.1 80 s) (by omega) (by rw [hl1]; exact C3.1) kf (fun j => ?_) ?_ ?_ (fun j => ?_)
              · rw [dSet_k (by decide), E4.2.2.2.1 j, k3' 79 (by decide)]
              · rw [dSet_k (by decide), E4.1 83 (by decide) (by decide), k3' 83 (by decide)]
              · rw [dSet_k (by decide), E4.1 84 (by decide) (by decide), k3' 84 (by decide)]
              · show m4.2.1 78 j = _
                rw [E4.2.2.2.2.2.1 j, l3']
            · show (st.1 ++ [n]).length = cf + 1
              rw [List.length_append, hl1]; rfl
          · rw [if_neg inb]
            rw [if_neg (show ¬ ((0 : Int32).toInt ≤ iV V (n + 2) ∧ iV V (n + 2) ≤ (9 : Int32).toInt) from inb), wadd_z w0] at e3
            rw [e3]
            exact ⟨fun _ => by show n + 2 < n + 4; omega, st, fun q => absurd q (Nat.succ_ne_zero 4), fun q => absurd w0 q, fun _ => ⟨fun q => absurd q (Nat.succ_ne_zero 4), fun _ => rfl⟩⟩
      · have e2 : W2 = W := by
          rcases hw2' with ⟨-, e2⟩ | ⟨-, e2⟩
          · rw [e2, wadd_n w0]
          · exact e2
        have e3 : W3 = W := by
          rw [hw3'.2, e2]
          split
          · rfl
          · exact wadd_n w0
        rw [e3]
        exact ⟨fun q => by have := hW q; omega, st, fun q => absurd q w0, fun _ => rfl, fun q => absurd q w0⟩
    obtain ⟨kw, st', kn, kwn⟩ := key
    refine hG (by rw [t4]) _ W3 st' ?_ kwn
    rw [cK.1, cK.2.1, cK.2.2, t4]
    exact ⟨S4, R4, F4.set (by decide) (by decide) (fun _ => by omega), C4, Q4, kw, kn⟩
end RFL
