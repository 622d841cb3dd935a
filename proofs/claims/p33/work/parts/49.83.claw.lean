/-! THE CLASS's laws, told exactly -/
def PyF (m0 m : dM) : Prop := (∀ k : Nat, k ≠ 19 → k ≠ 11 → m.1 k = m0.1 k) ∧ (∀ j : Nat, j ≠ 5 → m.1 11 j = m0.1 11 j) ∧ m.2 = m0.2
theorem PyF.rf (m : dM) : PyF m m := ⟨fun _ _ _ => rfl, fun _ _ => rfl, rfl⟩
theorem PyF.tr {a b c : dM} (h : PyF a b) (h' : PyF b c) : PyF a c := ⟨fun k q1 q2 => (h'.1 k q1 q2).trans (h.1 k q1 q2), fun j q => (h'.2.1 j q).trans (h.2.1 j q), h'.2.2.trans h.2.2⟩
theorem PyF.set {a b : dM} {j : Nat} {v : Int32} (h : PyF a b) : PyF a (dSet b 19 j v) := ⟨fun k q1 q2 => by rw [dSet_k q1]; exact h.1 k q1 q2, fun i q => by rw [dSet_k (by decide)]; exact h.2.1 i q, h.2.2⟩
theorem PyF.br {a b : dM} {v : Int32} (h : PyF a b) : PyF a (dSet b 11 5 v) := ⟨fun k q1 q2 => by rw [dSet_k q2]; exact h.1 k q1 q2, fun i q => by rw [dSet_j q]; exact h.2.1 i q, h.2.2⟩
/-- codes from a on -/
def SG (m : dM) (a : Nat) (L : lC) : Prop := a + L.length ≤ 406 ∧ ∀ j : Nat, j < L.length → m.1 12 (a + j) = L.getD j 0
theorem SG.of {m m' : dM} {a : Nat} {L : lC} (h : SG m a L) (e : m'.1 12 = m.1 12) : SG m' a L := by
  unfold SG
  rw [e]
  exact h
theorem SG.hd {m : dM} {a : Nat} {c : Int32} {L : lC} (h : SG m a (c :: L)) : m.1 12 a = c ∧ a < 406 ∧ SG m (a + 1) L := by
  obtain ⟨h1, h2⟩ := h
  rw [List.length_cons] at h1 h2
  refine ⟨?_, by omega, by omega, fun j hj => ?_⟩
  · have := h2 0 (by omega)
    simpa using this
  · have := h2 (j + 1) (by omega)
    rw [show a + 1 + j = a + (j + 1) by omega, this]
    simp
/-- how a piece came out -/
def PO (T : Option Int32) (r : Int32) (m' : dM) : Prop := (T = some r ∧ (m'.1 11 5).toInt = 0) ∨ (T = none ∧ (m'.1 11 5).toInt = 1)
theorem y_worked {c a b : Int32} {m : dM} {Q : Int32 → dM → Prop} (hc : 0 ≤ c.toInt ∧ c.toInt < 4) (h1 : ¬ (c.toInt = 3 ∧ b.toInt = 0) → Q (wrk c a b) m) (h0 : c.toInt = 3 ∧ b.toInt = 0 → Q 0 (dSet m 11 5 (1 : Int32))) : c_X4_worked_11 1 c a b m Q := by
  have e0 : c.toInt = 0 → wrk c a b = a + b := fun q => by unfold wrk; rw [if_pos q]
  have e1 : c.toInt = 1 → wrk c a b = a - b := fun q => by unfold wrk; rw [if_neg (by omega), if_pos q]
  have e2 : c.toInt = 2 → wrk c a b = a * b := fun q => by unfold wrk; rw [if_neg (by omega), if_neg (by omega), if_pos q]
  have e3 : c.toInt = 3 → wrk c a b = a / b := fun q => by unfold wrk; rw [if_neg (by omega), if_neg (by omega), if_neg (by omega)]
  refine v_X4_worked_11 ⟨fun q => ?_, fun q => ?_, fun q => ?_, fun q => ⟨fun z => ⟨?_, ?_⟩, fun z => h0 (by omega)⟩⟩
  · rw [← e0 q]; exact h1 (by omega)
  · rw [← e1 q]; exact h1 (by omega)
  · rw [← e2 q]; exact h1 (by omega)
  · first
      | exact z
      | (intro e; exact z (by rw [e]; decide))
  · rw [← e3 (by omega)]; exact h1 (by omega)
theorem y_piece37 {m0 : dM} {Q : Int32 → dM → Prop} {T : Option Int32} (hQ : ∀ (r : Int32) (m' : dM), PyF m0 m' → PO T r m' → Q r m') : ∀ (L : lC) (i t : Nat) (x4 x5 x6 : Int32) (m : dM), wfL L t → t ≤ 31 → x4.toInt = (t : Int) → x6.toInt = (i : Int) → x5.toInt = ((i + L.length : Nat) : Int) → SG m i L → PyF m0 m → ((m.1 11 5).toInt = 0 ∧ evF (m0.1 55) L t (m.1 19) = T ∨ (m.1 11 5).toInt = 1 ∧ T = none) → j_X4_pieceTells_11_55_37 2 x4 x5 x6 m Q := by
  intro L
  induction L with
  | nil =>
    intro i t x4 x5 x6 m hw ht h4 h6 h5 hS hF hT
    have h5 : x5.toInt = (i : Int) := h5
    refine v_X4_pieceTells_11_55_37 ⟨fun _ => v_X4_pieceTells_11_55_156 (hQ _ m hF ?_), fun q => by exfalso; omega⟩
    rcases hT with ⟨a, b⟩ | ⟨a, b⟩
    · exact Or.inl ⟨b.symm, a⟩
    · exact Or.inr ⟨b, a⟩
  | cons c L ih =>
    intro i t x4 x5 x6 m hw ht h4 h6 h5 hS hF hT
    rw [List.length_cons] at h5
    obtain ⟨s1, s2, s3⟩ := hS.hd
    obtain ⟨w0, w4, w3⟩ := hw
    have h55 : m.1 55 = m0.1 55 := hF.1 55 (by decide) (by decide)
    have on : ∀ (t' : Nat) (x4' : Int32) (m' : dM), wfL L t' → t' ≤ 31 → x4'.toInt = (t' : Int) → m'.1 12 = m.1 12 → PyF m0 m' → ((m'.1 11 5).toInt = 0 ∧ evF (m0.1 55) L t' (m'.1 19) = T ∨ (m'.1 11 5).toInt = 1 ∧ T = none) → j_X4_pieceTells_11_55_150 2 x4' x5 x6 m' Q := fun t' x4' m' a1 a2 a3 a4 a5 a6 => v_X4_pieceTells_11_55_150 (ih (i + 1) t' _ _ _ m' a1 a2 a3 (d_inc h6 (by omega)) (by rw [h5]; omega) (s3.of a4) a5 a6)
    have push : ∀ x : Int32, 4 ≤ c.toInt → (evF (m0.1 55) (c :: L) t (m.1 19) = evF (m0.1 55) L (t + 1) (upd (m.1 19) t x)) → j_X4_pieceTells_11_55_150 2 (x4 + (1 : Int32)) x5 x6 (dSet m 19 t x) Q := fun x hc e => by
      obtain ⟨g1, g2⟩ := w4 hc
      refine on (t + 1) _ _ g2 g1 (d_inc h4 (by omega)) (dSet_k (by decide)) hF.set ?_
      rcases hT with ⟨a, b⟩ | ⟨a, b⟩
      · refine Or.inl ⟨by rw [dSet_k (by decide)]; exact a, ?_⟩
        rw [dSet_f, ← e]; exact b
      · exact Or.inr ⟨by rw [dSet_k (by decide)]; exact a, b⟩
    refine v_X4_pieceTells_11_55_37 ⟨fun q => by exfalso; omega, fun _ => ⟨fun q => by exfalso; omega, fun _ => ?_⟩⟩
    rw [d_cn h6, s1, d_cn h4]
    refine ⟨by omega, fun c13 => ⟨fun c4 => ⟨fun q => by exfalso; have := (w3 c4).1; omega, fun _ => ?_⟩, fun c4 => ?_⟩, fun c13 => ⟨by omega, push _ (by omega) (by rw [evF, if_pos c13])⟩⟩
    · obtain ⟨g1, g2⟩ := w3 c4
      have f1 := dAddE (X := (t : Int)) (Y := -1) (x := x4) (y := (-1 : Int32)) h4 (by decide) (by omega) (by omega)
      have f1' : (x4 + (-1 : Int32)).toInt = ((t - 1 : Nat) : Int) := by omega
      have f2 := dSubE (X := ((t - 1 : Nat) : Int)) (Y := 1) (x := x4 + (-1 : Int32)) (y := (1 : Int32)) f1' (by decide) (by omega) (by omega)
      have f2' : (x4 + (-1 : Int32) - (1 : Int32)).toInt = ((t - 2 : Nat) : Int) := by omega
      rw [d_cn f2', d_cn f1']
      have ev : evF (m0.1 55) (c :: L) t (m.1 19) = if c.toInt = 3 ∧ (m.1 19 (t - 1)).toInt = 0 then none else evF (m0.1 55) L (t - 1) (upd (m.1 19) (t - 2) (wrk c (m.1 19 (t - 2)) (m.1 19 (t - 1)))) := by rw [evF, if_neg (by omega), if_neg (by omega)]
      refine ⟨by omega, by omega, y_worked ⟨w0, c4⟩ (fun q => ⟨by omega, ?_⟩) (fun q => ⟨by omega, ?_⟩)⟩
      · refine on (t - 1) _ _ g2 (by omega) f1' (dSet_k (by decide)) hF.set ?_
        rcases hT with ⟨a, b⟩ | ⟨a, b⟩
        · refine Or.inl ⟨by rw [dSet_k (by decide)]; exact a, ?_⟩
          rw [dSet_f]
          rw [ev, if_neg q] at b
          exact b
        · exact Or.inr ⟨by rw [dSet_k (by decide)]; exact a, b⟩
      · refine on (t - 1) _ _ g2 (by omega) f1' (by rw [dSet_k (by decide), dSet_k (by decide)]) hF.br.set ?_
        refine Or.inr ⟨by rw [dSet_k (by decide), dSet_s]; decide, ?_⟩
        rcases hT with ⟨a, b⟩ | ⟨a, b⟩
        · rw [ev, if_pos q] at b; exact b.symm
        · exact b
    · have fv := dSubE (X := c.toInt) (Y := 4) (x := c) (y := (4 : Int32)) rfl (by decide) (by omega) (by omega)
      refine ⟨by omega, by omega, push _ c4 ?_⟩
      rw [evF, if_neg (by omega), if_pos c4, h55]
/-- a law, as it lies in the house -/
def LC (m : dM) (k : Nat) (D : lD) : Prop := (m.1 18 k).toInt = ((3 * D.1 + 1 : Nat) : Int) ∧ lOk D ∧ ∀ i : Nat, i ≤ 3 * D.1 → ∃ a : Nat, (m.1 (14 + k) i).toInt = (a : Int) ∧ (m.1 (14 + k) (i + 1)).toInt = ((a + (D.2 i).length : Nat) : Int) ∧ SG m a (D.2 i)
theorem LC.of {m m' : dM} {k : Nat} {D : lD} (h : LC m k D) (e : ∀ c : Nat, 12 ≤ c → c ≤ 18 → m'.1 c = m.1 c) (hk : k < 4) : LC m' k D := by
  unfold LC SG
  rw [e 18 (by omega) (by omega), e (14 + k) (by omega) (by omega), e 12 (by omega) (by omega)]
  exact h
theorem y_piece {m : dM} {Q : Int32 → dM → Prop} {k i : Nat} {D : lD} {x1 x2 : Int32} (hL : LC m k D) (hk : k < 4) (hx : x1.toInt = (k : Int)) (hi : i ≤ 3 * D.1) (h2 : x2.toInt = (i : Int)) (h0 : (m.1 11 5).toInt = 0) (hQ : ∀ (r : Int32) (m' : dM), PyF m m' → PO (pv (D.2 i) (m.1 55)) r m' → Q r m') : c_X4_pieceTells_11_55 2 x1 x2 m Q := by
  obtain ⟨l1, ⟨l2, l3⟩, l4⟩ := hL
  obtain ⟨a, a1, a2, a3⟩ := l4 i hi
  have hw := l3 i hi
  have e2 := d_cn h2
  have e3 := d_inc h2 (by omega)
  have e3' := d_cn e3
  have go : j_X4_pieceTells_11_55_37 2 (0 : Int32) (m.1 (14 + k) (i + 1)) (m.1 (14 + k) i) m Q := y_piece37 hQ (D.2 i) a 0 _ _ _ m hw (by omega) (by decide) a1 a2 a3 (PyF.rf m) (Or.inl ⟨h0, evF_0 hw⟩)
  refine v_X4_pieceTells_11_55 ⟨fun q => by exfalso; omega, fun _ => ⟨fun _ => ?_, fun q => by exfalso; omega⟩⟩
  rw [e2, e3']
  match k, hk with
  | 0, _ => exact ⟨by omega, fun _ => ⟨by omega, by omega, fun _ => ⟨by omega, go⟩, fun q => by exfalso; omega, fun q => by exfalso; omega, fun q => by exfalso; omega⟩, fun q => by exfalso; omega, fun q => by exfalso; omega, fun q => by exfalso; omega⟩
  | 1, _ => exact ⟨by omega, fun q => by exfalso; omega, fun _ => ⟨by omega, by omega, fun q => by exfalso; omega, fun _ => ⟨by omega, go⟩, fun q => by exfalso; omega, fun q => by exfalso; omega⟩, fun q => by exfalso; omega, fun q => by exfalso; omega⟩
  | 2, _ => exact ⟨by omega, fun q => by exfalso; omega, fun q => by exfalso; omega, fun _ => ⟨by omega, by omega, fun q => by exfalso; omega, fun q => by exfalso; omega, fun _ => ⟨by omega, go⟩, fun q => by exfalso; omega⟩, fun q => by exfalso; omega⟩
  | 3, _ => exact ⟨by omega, fun q => by exfalso; omega, fun q => by exfalso; omega, fun q => by exfalso; omega, fun _ => ⟨by omega, by omega, fun q => by exfalso; omega, fun q => by exfalso; omega, fun q => by exfalso; omega, fun _ => ⟨by omega, go⟩⟩⟩
theorem y_tells {m : dM} {Q : Int32 → dM → Prop} {k : Nat} {D : lD} {x1 : Int32} (hL : LC m k D) (hk : k < 4) (hx : x1.toInt = (k : Int)) (hQ : ∀ m' : dM, PyF m m' → Q (lW D (m.1 55)) m') : c_X4_tells_11_55 3 x1 m Q := by
  obtain ⟨l1, ⟨l2, l3⟩, l4⟩ := hL
  have ek := d_cn hx
  have fL : ∀ M : dM, PyF m M → LC M k D := fun M hF => LC.of ⟨l1, ⟨l2, l3⟩, l4⟩ (fun c a b => hF.1 c (by omega) (by omega)) hk
  have f55 : ∀ M : dM, PyF m M → M.1 55 = m.1 55 := fun M hF => hF.1 55 (by decide) (by decide)
  have l93 : ∀ (i : Nat) (x3 : Int32) (M : dM), i ≤ 3 * D.1 → x3.toInt = (i : Int) → PyF m M → (M.1 11 5).toInt = 0 → (pv (D.2 i) (m.1 55)).getD 0 = lW D (m.1 55) → j_X4_tells_11_55_93 3 x1 x3 M Q := fun i x3 M hi h3 hF h0 e => v_X4_tells_11_55_93 (y_piece (fL M hF) hk hx hi h3 h0 (fun r m' hF' hP => by
    rw [f55 M hF] at hP
    rcases hP with ⟨p1, p2⟩ | ⟨p1, p2⟩
    · refine ⟨fun _ => ?_, fun q => absurd p2 q⟩
      rw [p1] at e
      have e : r = lW D (m.1 55) := e
      rw [e]
      exact hQ m' (hF.tr hF')
    · refine ⟨fun q => by exfalso; omega, fun _ => ?_⟩
      rw [p1] at e
      have e : (0 : Int32) = lW D (m.1 55) := e
      rw [e]
      exact hQ m' (hF.tr hF')))
  have l17 : ∀ (r p : Nat) (x4 : Int32) (M : dM), p + 3 * r = 3 * D.1 → x4.toInt = (p : Int) → PyF m M → (M.1 11 5).toInt = 0 → lawv D.2 (m.1 55) r p = lW D (m.1 55) → j_X4_tells_11_55_17 3 x1 ((m.1 18 k) - (1 : Int32)) x4 M Q := by
    intro r
    induction r with
    | zero =>
      intro p x4 M hp h4 hF h0 e
      have f := d_add (k := 2) (K := 2) h4 (by decide) (by omega)
      have f3 := dSubE (X := ((3 * D.1 + 1 : Nat) : Int)) (Y := 1) (x := m.1 18 k) (y := (1 : Int32)) l1 (by decide) (by omega) (by omega)
      refine v_X4_tells_11_55_17 ?_
      rw [ek, hF.1 18 (by decide) (by decide), l1]
      exact ⟨by omega, fun _ => l93 p _ M (by omega) (by omega) hF h0 e, fun q => by exfalso; omega⟩
    | succ r ih =>
      intro p x4 M hp h4 hF h0 e
      have f := d_add (k := 2) (K := 2) h4 (by decide) (by omega)
      have g1 := d_inc h4 (by omega)
      have g3 := d_add (k := 3) (K := 3) h4 (by decide) (by omega)
      have e : (match pv (D.2 p) (m.1 55), pv (D.2 (p + 1)) (m.1 55) with
        | some x, some y => if x.toInt < y.toInt then (pv (D.2 (p + 2)) (m.1 55)).getD 0 else lawv D.2 (m.1 55) r (p + 3)
        | _, _ => 0) = lW D (m.1 55) := e
      refine v_X4_tells_11_55_17 ?_
      rw [ek, hF.1 18 (by decide) (by decide), l1]
      refine ⟨by omega, fun q => by exfalso; omega, fun _ => y_piece (fL M hF) hk hx (by omega) h4 h0 (fun r1 M1 hF1 hP1 => ?_)⟩
      rw [f55 M hF] at hP1
      have F1 := hF.tr hF1
      rcases hP1 with ⟨p1, p2⟩ | ⟨p1, p2⟩
      · refine ⟨fun _ => y_piece (fL M1 F1) hk hx (by omega) g1 p2 (fun r2 M2 hF2 hP2 => ?_), fun q => absurd p2 q⟩
        rw [f55 M1 F1] at hP2
        have F2 := F1.tr hF2
        rw [p1] at e
        rcases hP2 with ⟨s1, s2⟩ | ⟨s1, s2⟩
        · rw [s1] at e
          have e : (if r1.toInt < r2.toInt then (pv (D.2 (p + 2)) (m.1 55)).getD 0 else lawv D.2 (m.1 55) r (p + 3)) = lW D (m.1 55) := e
          refine ⟨fun _ => ⟨fun q => ih (p + 3) _ M2 (by omega) g3 F2 s2 ?_, fun q => l93 (p + 2) _ M2 (by omega) f F2 s2 ?_⟩, fun q => absurd s2 q⟩
          · rw [if_neg (by omega)] at e; exact e
          · rw [if_pos q] at e; exact e
        · rw [s1] at e
          have e : (0 : Int32) = lW D (m.1 55) := e
          refine ⟨fun q => by exfalso; omega, fun _ => ?_⟩
          rw [e]
          exact hQ M2 F2
      · rw [p1] at e
        have e : (0 : Int32) = lW D (m.1 55) := e
        refine ⟨fun q => by exfalso; omega, fun _ => ⟨fun q => by exfalso; omega, fun _ => ?_⟩⟩
        rw [e]
        exact hQ M1 F1
  refine v_X4_tells_11_55 ?_
  rw [ek]
  exact ⟨by omega, l17 D.1 0 _ _ (by omega) (by decide) (PyF.rf m).br (by rw [dSet_s]; decide) rfl⟩
