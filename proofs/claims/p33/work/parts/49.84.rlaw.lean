/-! THE REFERENCE's laws, told exactly -/
def QF (m0 m : dM) : Prop := (∀ k : Nat, k ≠ 106 → k ≠ 70 → m.1 k = m0.1 k) ∧ (∀ j : Nat, j ≠ 53 → m.1 70 j = m0.1 70 j) ∧ m.2 = m0.2
theorem QF.rf (m : dM) : QF m m := ⟨fun _ _ _ => rfl, fun _ _ => rfl, rfl⟩
theorem QF.tr {a b c : dM} (h : QF a b) (h' : QF b c) : QF a c := ⟨fun k q1 q2 => (h'.1 k q1 q2).trans (h.1 k q1 q2), fun j q => (h'.2.1 j q).trans (h.2.1 j q), h'.2.2.trans h.2.2⟩
theorem QF.set {a b : dM} {j : Nat} {v : Int32} (h : QF a b) : QF a (dSet b 106 j v) := ⟨fun k q1 q2 => by rw [dSet_k q1]; exact h.1 k q1 q2, fun i q => by rw [dSet_k (by decide)]; exact h.2.1 i q, h.2.2⟩
theorem QF.br {a b : dM} {v : Int32} (h : QF a b) : QF a (dSet b 70 53 v) := ⟨fun k q1 q2 => by rw [dSet_k q2]; exact h.1 k q1 q2, fun i q => by rw [dSet_j q]; exact h.2.1 i q, h.2.2⟩
/-- a code, as this one writes it -/
def cR (k v c : Int32) : Prop := (k.toInt = 0 ∧ c = 13 + v ∧ 0 ≤ v.toInt ∧ v.toInt ≤ 9999) ∨ (k.toInt = 1 ∧ c = 4 + v ∧ 0 ≤ v.toInt ∧ v.toInt ≤ 8) ∨ (2 ≤ k.toInt ∧ k.toInt ≤ 5 ∧ c = k - 2)
def SR (m : dM) (a : Nat) (L : lC) : Prop := a + L.length ≤ 840 ∧ ∀ j : Nat, j < L.length → cR (m.1 102 (a + j)) (m.1 103 (a + j)) (L.getD j 0)
theorem SR.of {m m' : dM} {a : Nat} {L : lC} (h : SR m a L) (e : m'.1 102 = m.1 102) (e' : m'.1 103 = m.1 103) : SR m' a L := by
  unfold SR
  rw [e, e']
  exact h
theorem SR.hd {m : dM} {a : Nat} {c : Int32} {L : lC} (h : SR m a (c :: L)) : cR (m.1 102 a) (m.1 103 a) c ∧ a < 840 ∧ SR m (a + 1) L := by
  obtain ⟨h1, h2⟩ := h
  rw [List.length_cons] at h1 h2
  refine ⟨?_, by omega, by omega, fun j hj => ?_⟩
  · have := h2 0 (by omega)
    simpa using this
  · have := h2 (j + 1) (by omega)
    rw [show a + 1 + j = a + (j + 1) by omega]
    simpa using this
def PR (b : Int) (T : Option Int32) (r : Int32) (m' : dM) : Prop := (T = some r ∧ (m'.1 70 53).toInt = b) ∨ (T = none ∧ (m'.1 70 53).toInt = 1)
theorem tmq1 {x : Int32} {t : Nat} (h : x.toInt = (t : Int)) (ht : 2 ≤ t ∧ t ≤ 31) : (x + (-1 : Int32)).toInt = ((t - 1 : Nat) : Int) := by
  have := dAddE (X := (t : Int)) (Y := -1) (x := x) (y := (-1 : Int32)) h (by decide) (by omega) (by omega)
  omega
theorem tmq2 {x : Int32} {t : Nat} (h : x.toInt = ((t - 1 : Nat) : Int)) (ht : 2 ≤ t ∧ t ≤ 31) : (x - (1 : Int32)).toInt = ((t - 2 : Nat) : Int) := by
  have := dSubE (X := ((t - 1 : Nat) : Int)) (Y := 1) (x := x) (y := (1 : Int32)) h (by decide) (by omega) (by omega)
  omega
theorem tmq3 {x : Int32} {t u : Nat} (h : x.toInt = ((t - u : Nat) : Int)) (ht : t ≤ 31) : 0 ≤ x.toInt ∧ x.toInt < 400 := by omega
theorem tmq4 {c k : Int32} (hc : c.toInt = k.toInt - 2) : (k.toInt = 5 → c.toInt = 3) ∧ (k.toInt ≠ 5 → c.toInt ≠ 3) := by omega
theorem y_term104 {x2 x3 x4 k a b c : Int32} {t : Nat} {m : dM} {Q : Int32 → dM → Prop} (hk : 2 ≤ k.toInt ∧ k.toInt ≤ 5) (hc : c.toInt = k.toInt - 2) (h3 : x3.toInt = ((t - 1 : Nat) : Int)) (ht : 2 ≤ t ∧ t ≤ 31) (hnz : ¬ (c.toInt = 3 ∧ b.toInt = 0)) (on : j_X12_termOf_70_159 1 x2 x3 x4 (dSet m 106 (t - 2) (wrk c a b)) Q) : j_X12_termOf_70_104 1 x2 x3 x4 k a b m Q := by
  have f2' := tmq2 h3 ht
  have hb2 : 0 ≤ (x3 - (1 : Int32)).toInt ∧ (x3 - (1 : Int32)).toInt < 400 := by omega
  have e0 : c.toInt = 0 → wrk c a b = a + b := fun q => by unfold wrk; rw [if_pos q]
  have e1 : c.toInt = 1 → wrk c a b = a - b := fun q => by unfold wrk; rw [if_neg (by omega), if_pos q]
  have e2 : c.toInt = 2 → wrk c a b = a * b := fun q => by unfold wrk; rw [if_neg (by omega), if_neg (by omega), if_pos q]
  have e3 : c.toInt = 3 → wrk c a b = a / b := fun q => by unfold wrk; rw [if_neg (by omega), if_neg (by omega), if_neg (by omega)]
  have e' := d_cn f2'
  refine v_X12_termOf_70_104 ?_
  rw [e']
  refine ⟨fun n2 => ⟨fun n3 => ⟨fun n4 => ⟨?_, hb2, ?_⟩, fun n4 => ⟨hb2, ?_⟩⟩, fun n3 => ⟨hb2, ?_⟩⟩, fun n2 => ⟨hb2, ?_⟩⟩
  · have nz : b.toInt ≠ 0 := fun z => hnz ⟨by omega, z⟩
    first
      | exact nz
      | (intro e; exact nz (by rw [e]; decide))
  · rw [← e3 (by omega)]; exact on
  · rw [← e2 (by omega)]; exact on
  · rw [← e1 (by omega)]; exact on
  · rw [← e0 (by omega)]; exact on
theorem y_term5 {m0 : dM} {Q : Int32 → dM → Prop} {T : Option Int32} (hQ : ∀ (r : Int32) (m' : dM), QF m0 m' → PR (m0.1 70 53).toInt T r m' → Q r m') : ∀ (L : lC) (i t : Nat) (x2 x3 x4 : Int32) (m : dM), wfL L t → t ≤ 31 → x3.toInt = (t : Int) → x4.toInt = (i : Int) → x2.toInt = ((i + L.length : Nat) : Int) → SR m i L → QF m0 m → m.1 70 53 = m0.1 70 53 → evF (m0.1 105) L t (m.1 106) = T → j_X12_termOf_70_5 1 x2 x3 x4 m Q := by
  intro L
  induction L with
  | nil =>
    intro i t x2 x3 x4 m hw ht h3 h4 h2 hS hF hB hT
    have h2 : x2.toInt = (i : Int) := h2
    exact v_X12_termOf_70_5 ⟨fun _ => hQ _ m hF (Or.inl ⟨hT.symm, by rw [hB]⟩), fun q => by exfalso; omega⟩
  | cons c L ih =>
    intro i t x2 x3 x4 m hw ht h3 h4 h2 hS hF hB hT
    rw [List.length_cons] at h2
    obtain ⟨s1, s2, s3⟩ := hS.hd
    obtain ⟨w0, w4, w3⟩ := hw
    have h105 : m.1 105 = m0.1 105 := hF.1 105 (by decide) (by decide)
    have on : ∀ (t' : Nat) (x3' : Int32) (j : Nat) (v : Int32), wfL L t' → t' ≤ 31 → x3'.toInt = (t' : Int) → evF (m0.1 105) L t' (upd (m.1 106) j v) = T → j_X12_termOf_70_159 1 x2 x3' x4 (dSet m 106 j v) Q := fun t' x3' j v a1 a2 a3 a4 => v_X12_termOf_70_159 (ih (i + 1) t' _ _ _ _ a1 a2 a3 (d_inc h4 (by omega)) (by rw [h2]; omega) (s3.of (dSet_k (by decide)) (dSet_k (by decide))) hF.set (by rw [dSet_k (by decide)]; exact hB) (by rw [dSet_f]; exact a4))
    refine v_X12_termOf_70_5 ⟨fun q => by exfalso; omega, fun _ => ?_⟩
    rw [d_cn h4]
    refine ⟨by omega, fun k2 => ?_, fun k2 => ⟨fun k0 => ?_, fun k0 => ?_⟩⟩
    · rcases s1 with ⟨z, _⟩ | ⟨z, _⟩ | ⟨z1, z2, z3⟩
      · exfalso; omega
      · exfalso; omega
      · have hc := dSubE (X := (m.1 102 i).toInt) (Y := 2) (x := m.1 102 i) (y := (2 : Int32)) rfl (by decide) (by omega) (by omega)
        rw [← z3] at hc
        obtain ⟨g1, g2⟩ := w3 (by omega)
        have f1' := tmq1 h3 ⟨g1, ht⟩
        have f2' := tmq2 f1' ⟨g1, ht⟩
        rw [evF, if_neg (by omega), if_neg (by omega)] at hT
        rw [d_cn f2', d_cn f1']
        have q1 : 0 ≤ (x3 + (-1 : Int32) - (1 : Int32)).toInt ∧ (x3 + (-1 : Int32) - (1 : Int32)).toInt < 400 := tmq3 f2' ht
        have q2 : 0 ≤ (x3 + (-1 : Int32)).toInt ∧ (x3 + (-1 : Int32)).toInt < 400 := tmq3 f1' ht
        have t1 : t - 1 ≤ 31 := Nat.le_trans (Nat.sub_le t 1) ht
        have l104 : ¬ (c.toInt = 3 ∧ (m.1 106 (t - 1)).toInt = 0) → j_X12_termOf_70_104 1 x2 (x3 + (-1 : Int32)) x4 (m.1 102 i) (m.1 106 (t - 2)) (m.1 106 (t - 1)) m Q := fun q => y_term104 ⟨z1, z2⟩ hc f1' ⟨g1, ht⟩ q (on (t - 1) _ _ _ g2 t1 f1' (by rw [if_neg q] at hT; exact hT))
        have c5 := (tmq4 hc).1
        have c5' := (tmq4 hc).2
        refine ⟨q1, q2, fun n5 => l104 (fun z => c5' n5 z.1), fun n5 => ⟨fun nz => l104 (fun z => nz z.2), fun z0 => hQ _ _ hF.br (Or.inr ⟨?_, by rw [dSet_s]; decide⟩)⟩⟩
        rw [if_pos ⟨c5 n5, z0⟩] at hT
        exact hT.symm
    · rcases s1 with ⟨z, _⟩ | ⟨z1, z2, z3, z4⟩ | ⟨z1, _⟩
      · exfalso; omega
      · have hc := dAddE (X := 4) (Y := (m.1 103 i).toInt) (x := (4 : Int32)) (y := m.1 103 i) (by decide) rfl (by omega) (by omega)
        rw [← z2] at hc
        obtain ⟨g1, g2⟩ := w4 (by omega)
        rw [d_cn h3]
        refine ⟨by omega, by omega, by omega, on (t + 1) _ _ _ g2 g1 (d_inc h3 (by omega)) ?_⟩
        rw [evF, if_neg (by omega), if_pos (by omega)] at hT
        rw [← hT, h105]
        have e4 : c - 4 = m.1 103 i := by
          apply Int32.toInt_inj.mp
          have := dSubE (X := c.toInt) (Y := 4) (x := c) (y := (4 : Int32)) rfl (by decide) (by omega) (by omega)
          omega
        rw [e4]
      · exfalso; omega
    · rcases s1 with ⟨z1, z2, z3, z4⟩ | ⟨z, _⟩ | ⟨z1, _⟩
      · have hc := dAddE (X := 13) (Y := (m.1 103 i).toInt) (x := (13 : Int32)) (y := m.1 103 i) (by decide) rfl (by omega) (by omega)
        rw [← z2] at hc
        obtain ⟨g1, g2⟩ := w4 (by omega)
        rw [d_cn h3]
        refine ⟨by omega, by omega, on (t + 1) _ _ _ g2 g1 (d_inc h3 (by omega)) ?_⟩
        rw [evF, if_pos (by omega)] at hT
        rw [← hT]
        have e4 : c - 13 = m.1 103 i := by
          apply Int32.toInt_inj.mp
          have := dSubE (X := c.toInt) (Y := 13) (x := c) (y := (13 : Int32)) rfl (by decide) (by omega) (by omega)
          omega
        rw [e4]
      · exfalso; omega
      · exfalso; omega
theorem y_term {m : dM} {Q : Int32 → dM → Prop} {x1 x2 : Int32} {a : Nat} {L : lC} (hw : wfL L 0) (h1 : x1.toInt = (a : Int)) (h2 : x2.toInt = ((a + L.length : Nat) : Int)) (hS : SR m a L) (hQ : ∀ (r : Int32) (m' : dM), QF m m' → PR (m.1 70 53).toInt (pv L (m.1 105)) r m' → Q r m') : c_X12_termOf_70 1 x1 x2 m Q :=
  v_X12_termOf_70 (y_term5 hQ L a 0 _ _ _ m hw (by omega) (by decide) h1 h2 hS (QF.rf m) rfl (evF_0 hw))
/-- a piece between two marks -/
def SB (m : dM) (x y : Int32) (L : lC) : Prop := ∃ a : Nat, x.toInt = (a : Int) ∧ y.toInt = ((a + L.length : Nat) : Int) ∧ SR m a L
/-- a law, as it lies: none told, or its branches -/
def LR (m : dM) (s k : Nat) (D : lD) : Prop := lOk D ∧ (((m.1 95 (4 * s + k)).toInt = (m.1 96 (4 * s + k)).toInt ∧ D.1 = 0 ∧ D.2 0 = dfl k) ∨ ∃ b : Nat, (m.1 95 (4 * s + k)).toInt = (b : Int) ∧ (m.1 96 (4 * s + k)).toInt = ((b + D.1 + 1 : Nat) : Int) ∧ b + D.1 < 260 ∧ (∀ i : Nat, i < D.1 → (m.1 97 (b + i)).toInt ≠ 0 ∧ SB m (m.1 98 (b + i)) (m.1 99 (b + i)) (D.2 (3 * i)) ∧ SB m (m.1 99 (b + i)) (m.1 100 (b + i)) (D.2 (3 * i + 1)) ∧ SB m (m.1 100 (b + i)) (m.1 101 (b + i)) (D.2 (3 * i + 2))) ∧ (m.1 97 (b + D.1)).toInt = 0 ∧ SB m (m.1 100 (b + D.1)) (m.1 101 (b + D.1)) (D.2 (3 * D.1)))
theorem LR.of {m m' : dM} {s k : Nat} {D : lD} (h : LR m s k D) (e : ∀ c : Nat, 95 ≤ c → c ≤ 103 → m'.1 c = m.1 c) : LR m' s k D := by
  unfold LR SB SR
  rw [e 95 (by omega) (by omega), e 96 (by omega) (by omega), e 97 (by omega) (by omega), e 98 (by omega) (by omega), e 99 (by omega) (by omega), e 100 (by omega) (by omega), e 101 (by omega) (by omega), e 102 (by omega) (by omega), e 103 (by omega) (by omega)]
  exact h
theorem y_lawTells {m : dM} {Q : Int32 → dM → Prop} {s k : Nat} {D : lD} {x1 x2 : Int32} (hL : LR m s k D) (hs : (m.1 70 18).toInt = (s : Int) ∧ s ≤ 1) (hk : k < 4) (hx : x1.toInt = (k : Int)) (hp : x2 = (pv (dfl k) (m.1 105)).getD 0) (hQ : ∀ m' : dM, QF m m' → Q (lW D (m.1 105)) m') : c_X12_lawTells_70 2 x1 x2 m Q := by
  obtain ⟨⟨o1, o2⟩, hL⟩ := hL
  have ei := y_idx (C := 4) (c := (4 : Int32)) (by decide) hs.1 hs.2 hx (by decide) (by omega)
  have hb : 4 * s + k < 8 := by omega
  refine v_X12_lawTells_70 ?_
  rw [d_cn ei]
  refine ⟨by omega, by omega, fun ne => ⟨by omega, ?_⟩, fun ee => ?_⟩
  · rcases hL with ⟨z, _⟩ | ⟨b, b1, b2, b3, b4, b5, b6⟩
    · exact absurd z ne
    have fe : ∀ (M : dM), QF m M → ∀ c : Nat, 95 ≤ c → c ≤ 105 → M.1 c = m.1 c := fun M hF c h1 h2 => hF.1 c (by omega) (by omega)
    have fB : ∀ (M : dM) (x y : Int32) (L : lC), QF m M → SB m x y L → SB M x y L := fun M x y L hF ⟨a, a1, a2, a3⟩ => ⟨a, a1, a2, a3.of (fe M hF 102 (by omega) (by omega)) (fe M hF 103 (by omega) (by omega))⟩
    have l119 : ∀ (i p : Nat) (x4 : Int32) (M : dM), i ≤ D.1 → x4.toInt = ((b + i : Nat) : Int) → p ≤ 3 * D.1 → SB m (m.1 100 (b + i)) (m.1 101 (b + i)) (D.2 p) → QF m M → (M.1 70 53).toInt = 0 → (pv (D.2 p) (m.1 105)).getD 0 = lW D (m.1 105) → j_X12_lawTells_70_119 2 x4 M Q := fun i p x4 M hi h4 hp' hB hF h0 e => by
      obtain ⟨a, a1, a2, a3⟩ := fB M _ _ _ hF hB
      refine v_X12_lawTells_70_119 ?_
      rw [d_cn h4, fe M hF 100 (by omega) (by omega), fe M hF 101 (by omega) (by omega)]
      refine ⟨by omega, by omega, y_term (o2 p hp') a1 a2 a3 (fun r M1 hF1 hP => ?_)⟩
      rw [fe M hF 105 (by omega) (by omega), h0] at hP
      rcases hP with ⟨p1, p2⟩ | ⟨p1, p2⟩
      · rw [p1] at e
        have e : r = lW D (m.1 105) := e
        rw [e]
        exact ⟨fun _ => hQ M1 (hF.tr hF1), fun q => absurd p2 q⟩
      · rw [p1] at e
        have e : (0 : Int32) = lW D (m.1 105) := e
        rw [e]
        exact ⟨fun q => by exfalso; omega, fun _ => hQ M1 (hF.tr hF1)⟩
    have l39 : ∀ (r i : Nat) (x4 : Int32) (M : dM), i + r = D.1 → x4.toInt = ((b + i : Nat) : Int) → QF m M → (M.1 70 53).toInt = 0 → lawv D.2 (m.1 105) r (3 * i) = lW D (m.1 105) → j_X12_lawTells_70_39 2 (((4 : Int32) * (m.1 70 18)) + x1) x4 M Q := by
      intro r
      induction r with
      | zero =>
        intro i x4 M hi h4 hF h0 e
        have ei' : i = D.1 := by omega
        subst ei'
        refine v_X12_lawTells_70_39 ?_
        rw [d_cn ei, fe M hF 96 (by omega) (by omega), b2, d_cn h4, fe M hF 97 (by omega) (by omega), b5]
        exact ⟨by omega, fun q => by exfalso; omega, fun _ => ⟨by omega, fun _ => l119 D.1 (3 * D.1) x4 M (Nat.le_refl _) h4 (Nat.le_refl _) b6 hF h0 e, fun q => absurd rfl q⟩⟩
      | succ r ih =>
        intro i x4 M hi h4 hF h0 e
        obtain ⟨c1, c2, c3, c4⟩ := b4 i (by omega)
        have e : (match pv (D.2 (3 * i)) (m.1 105), pv (D.2 (3 * i + 1)) (m.1 105) with
          | some x, some y => if x.toInt < y.toInt then (pv (D.2 (3 * i + 2)) (m.1 105)).getD 0 else lawv D.2 (m.1 105) r (3 * i + 3)
          | _, _ => 0) = lW D (m.1 105) := e
        refine v_X12_lawTells_70_39 ?_
        rw [d_cn ei, fe M hF 96 (by omega) (by omega), b2, d_cn h4, fe M hF 97 (by omega) (by omega), fe M hF 98 (by omega) (by omega), fe M hF 99 (by omega) (by omega)]
        obtain ⟨a, a1, a2, a3⟩ := fB M _ _ _ hF c2
        refine ⟨by omega, fun q => by exfalso; omega, fun _ => ⟨by omega, fun q => absurd q c1, fun _ => ⟨by omega, by omega, y_term (o2 (3 * i) (by omega)) a1 a2 a3 (fun r1 M1 hF1 hP1 => ?_)⟩⟩⟩
        rw [fe M hF 105 (by omega) (by omega), h0] at hP1
        have F1 := hF.tr hF1
        obtain ⟨a', a1', a2', a3'⟩ := fB M1 _ _ _ F1 c3
        rw [fe M1 F1 99 (by omega) (by omega), fe M1 F1 100 (by omega) (by omega)]
        refine ⟨by omega, by omega, y_term (o2 (3 * i + 1) (by omega)) a1' a2' a3' (fun r2 M2 hF2 hP2 => ?_)⟩
        rw [fe M1 F1 105 (by omega) (by omega)] at hP2
        have F2 := F1.tr hF2
        rcases hP1 with ⟨p1, p2⟩ | ⟨p1, p2⟩
        · rw [p2] at hP2
          rw [p1] at e
          rcases hP2 with ⟨s1, s2⟩ | ⟨s1, s2⟩
          · rw [s1] at e
            have e : (if r1.toInt < r2.toInt then (pv (D.2 (3 * i + 2)) (m.1 105)).getD 0 else lawv D.2 (m.1 105) r (3 * i + 3)) = lW D (m.1 105) := e
            refine ⟨fun _ => ⟨fun q => l119 i (3 * i + 2) x4 M2 (by omega) h4 (by omega) c4 F2 s2 ?_, fun q => ih (i + 1) _ M2 (by omega) (by have := d_inc h4 (by omega); omega) F2 s2 ?_⟩, fun q => absurd s2 q⟩
            · rw [if_pos q] at e; exact e
            · rw [if_neg (by omega)] at e; exact e
          · rw [s1] at e
            have e : (0 : Int32) = lW D (m.1 105) := e
            rw [e]
            exact ⟨fun q => by exfalso; omega, fun _ => hQ M2 F2⟩
        · rw [p1] at e
          have e : (0 : Int32) = lW D (m.1 105) := e
          rw [e]
          refine ⟨fun q => ?_, fun _ => hQ M2 F2⟩
          exfalso
          rcases hP2 with ⟨s1, s2⟩ | ⟨s1, s2⟩ <;> omega
    exact l39 D.1 0 _ _ (by omega) b1 (QF.rf m).br (by rw [dSet_s]; decide) rfl
  · rcases hL with ⟨z, d1, d2⟩ | ⟨b, b1, b2, _⟩
    · have e : lW D (m.1 105) = x2 := by
        unfold lW
        rw [d1]
        show (pv (D.2 0) (m.1 105)).getD 0 = x2
        rw [d2, hp]
      rw [← e]
      exact hQ m (QF.rf m)
    · exfalso; omega
