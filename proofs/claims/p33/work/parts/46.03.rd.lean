/-! THE REFERENCE's read, 4: an expression from its start to its end (by hand) -/
def mu (m : dM) (a b : Int) (n : Nat) : Prop := (flt m = 0 ∧ 8 * (401 - tt m) + a < n) ∨ (0 < flt m ∧ b < n)
section EXM
variable {me : dM} {s : Nat}
theorem ex_main {Q : dM → Prop} (hs : s ≤ 1) (hme : 420 * (s : Int) ≤ cds me) (hQ : ∀ m', EQ me s m' → Q m') : ∀ n : Nat,
    (∀ (x1 : Int32) (m : dM) (o p c : Nat), x1.toInt = 0 → ES me s m o p c p → mu m 6 3 n → j_X12_expression_70_12 4 x1 (1 : Int32) m Q) ∧
    (∀ (x1 : Int32) (m : dM) (o p c : Nat), x1.toInt = 0 → ES me s m o p c p → mu m 5 3 n → j_X12_expression_70_23 4 x1 m Q) ∧
    (∀ (x1 : Int32) (m : dM) (o p c : Nat), x1.toInt = 0 → ES me s m o p c p → o ≤ 6 → (flt m = 0 → o ≤ 5) → mu m 4 4 n → j_X12_expression_70_46 4 x1 m Q) ∧
    (∀ (x1 : Int32) (m : dM) (o p c : Nat), x1.toInt = 0 → ES me s m o p c (p + 1) → (flt m = 0 → tt me + 1 ≤ tt m) → mu m 6 3 n → j_X12_expression_70_96 4 x1 m Q) ∧
    (∀ (x1 : Int32) (m : dM) (o p c : Nat), x1.toInt = 0 → ES me s m o p c (p + 1) → (flt m = 0 → tt me + 1 ≤ tt m) → mu m 5 2 n → j_X12_expression_70_145 4 x1 m Q) ∧
    (∀ (x1 : Int32) (m : dM) (o p c : Nat), x1.toInt = 0 → ES me s m o p c (p + 1) → flt m = 0 → tt me + 1 ≤ tt m → ((m.1 73 (m.1 70 11).toNatClampNeg).toInt = 8 ∨ (m.1 73 (m.1 70 11).toNatClampNeg).toInt = 9 ∨ (m.1 73 (m.1 70 11).toNatClampNeg).toInt = 10 ∨ (m.1 73 (m.1 70 11).toNatClampNeg).toInt = 15) → mu m 4 0 n → j_X12_expression_70_181 4 x1 m Q) := by
  intro n
  induction n with
  | zero =>
    refine ⟨fun x1 m o p c hx h hμ => ?_, fun x1 m o p c hx h hμ => ?_, fun x1 m o p c hx h h6 h5 hμ => ?_, fun x1 m o p c hx h ht hμ => ?_, fun x1 m o p c hx h ht hμ => ?_, fun x1 m o p c hx h h0 ht hk hμ => ?_⟩ <;> (have := h.2.1; exfalso; rcases hμ with q | q <;> omega)
  | succ n ih =>
    refine ⟨fun x1 m o p c hx h hμ => ?_, fun x1 m o p c hx h hμ => ?_, fun x1 m o p c hx h h6 h5 hμ => ?_, fun x1 m o p c hx h ht hμ => ?_, fun x1 m o p c hx h ht hμ => ?_, fun x1 m o p c hx h h0 ht hk hμ => ?_⟩
    · -- 12
      have bad : flt m ≠ 0 → j_X12_expression_70_272 4 m Q := fun hf => v_X12_expression_70_272 (hQ m ⟨h.z, fun h0 => absurd h0 hf⟩)
      refine v_X12_expression_70_12 ⟨fun q => absurd q (by decide), fun _ => ⟨fun hf => bad hf, fun hf => ?_⟩⟩
      have hf : flt m = 0 := hf
      refine ih.2.1 x1 m o p c hx h ?_
      left
      rcases hμ with q | q <;> omega
    · -- 23
      refine v_X12_expression_70_23 ?_
      refine Wp.deep (p_is h.2.1 (fun h1 h2 => ⟨fun q => absurd q (by decide), fun _ => ?_⟩) (fun h1 => ⟨fun _ => ?_, fun q => absurd rfl q⟩)) (Nat.le_of_ble_eq_true rfl)
      · have hb := h.2.2.2.2.2.2.2.2.2.1 h1
        have eo : (m.1 70 12).toInt = o := h.2.2.2.2.1
        refine ⟨fun hne => ?_, fun he => ?_⟩
        · refine ih.2.2.1 x1 m o p c hx h (by omega) (fun _ => by omega) ?_
          rcases hμ with q | q
          · left; omega
          · right; omega
        · refine Wp.deep (p_fail h.2.1 (by decide) (fun m3 h3 hf3 => ?_)) (Nat.le_of_ble_eq_true rfl)
          refine ih.2.2.1 x1 m3 o p c hx (h.mv h3 (by decide)) (by omega) (fun q => by exfalso; omega) ?_
          right
          have := h.2.1
          rcases hμ with q | q <;> omega
      · refine p_unit hs hme h (fun m2 z e => ⟨fun hc => ?_, fun hc => ?_⟩)
        · have hc : flt m2 ≤ 0 := hc
          have h0 : flt m2 = 0 := by have := z.2.2.2.1; omega
          have e := e h0
          refine ih.2.2.2.1 x1 m2 o p c hx e.1 (fun _ => by have := h.2.2.1; omega) ?_
          left
          have := h.2.1
          rcases hμ with q | q <;> omega
        · have hc : 0 < flt m2 := hc
          exact hQ m2 ⟨z, fun h0 => by exfalso; omega⟩
    · -- 46
      obtain ⟨⟨x1', x2', x3', x4'⟩, a2, a3, a4, a5, a6, a7, ⟨q, a8, a8'⟩, a9, a10, a11⟩ := h
      have eo : (m.1 70 12).toInt = o := a5
      have fo := dAddE (X := (o : Int)) (Y := 1) (x := m.1 70 12) (y := (1 : Int32)) eo (by decide) (by omega) (by omega)
      refine v_X12_expression_70_46 ?_
      refine Wp.deep (p_goesOn (m := dSet m 70 12 ((m.1 70 12) + (1 : Int32))) a2 a4 (fun m1 h1 => ?_)) (Nat.le_of_ble_eq_true rfl)
      obtain ⟨k1, k2, k3, k4, k5⟩ := h1
      have k4 : (flt m = 0 ∧ flt m1 = 0 ∧ tt m1 = tt m + 1) ∨ (0 < flt m1 ∧ tt m ≤ tt m1 ∧ tt m1 ≤ tt m + 1) := k4
      have k5 : Wz m m1 := k5
      have hf1 : 0 ≤ flt m1 := by rcases k4 with z | z <;> omega
      have ht1 : tt m ≤ tt m1 := by rcases k4 with z | z <;> omega
      have hl := Wk_len a7
      have e50 : m1.1 70 50 = m.1 70 50 := k2 50 (by decide) (by decide) (by decide) (by decide) (by decide)
      have ew : (m1.1 70 50).toInt = (o + p : Nat) := by rw [e50]; exact a6
      have eW : (m1.1 70 50).toNatClampNeg = o + p := by
        have := d_cl (x := m1.1 70 50) (by omega)
        omega
      have fw := dAddE (X := ((o + p : Nat) : Int)) (Y := 1) (x := m1.1 70 50) (y := (1 : Int32)) ew (by decide) (by omega) (by omega)
      refine ⟨by omega, ?_⟩
      rw [eW]
      have e46 : m1.1 70 46 = m.1 70 46 := k2 46 (by decide) (by decide) (by decide) (by decide) (by decide)
      have c1 : cds (dSet (dSet m1 104 (o + p) (6 : Int32)) 70 50 ((m1.1 70 50) + (1 : Int32))) = cds m := by show (m1.1 70 46).toInt = _; rw [e46]; rfl
      have f1 : flt (dSet (dSet m1 104 (o + p) (6 : Int32)) 70 50 ((m1.1 70 50) + (1 : Int32))) = flt m1 := rfl
      have t1 : tt (dSet (dSet m1 104 (o + p) (6 : Int32)) 70 50 ((m1.1 70 50) + (1 : Int32))) = tt m1 := rfl
      refine ih.2.1 x1 _ (o + 1) p 0 hx ⟨⟨fun k e1 e2 e3 e4 => by rw [dSet_k e1, dSet_k e4, k1 k e1, dSet_k e1]; exact x1' k e1 e2 e3 e4, fun j e1 e2 e3 e4 e5 e6 e7 e8 => by rw [dSet_j e8, dSet_k (by decide), k2 j e1 e3 e4 e5 e6, dSet_j e2]; exact x2' j e1 e2 e3 e4 e5 e6 e7 e8, fun j hj => ?_, x4'.tr k5⟩, by omega, by omega, by omega, ?_, ?_, ?_, ⟨q, by omega, gDp_congr (fun j _ _ => ?_) a8'⟩, by omega, fun hz => ?_, by omega⟩ ?_
      · rw [dSet_k (by decide), dSet_k (by decide), dSet_k (by decide), dSet_k (by decide), k1 102 (by decide), k1 103 (by decide)]; exact x3' j hj
      · show (m1.1 70 12).toInt = _
        rw [k2 12 (by decide) (by decide) (by decide) (by decide) (by decide)]
        show (m.1 70 12 + (1 : Int32)).toInt = _
        omega
      · show (m1.1 70 50 + (1 : Int32)).toInt = _
        omega
      · rw [dSet_k (by decide), dSet_f, show o + 1 + p = o + p + 1 by omega]
        refine Or.inl ⟨by unfold upd; rw [if_pos rfl]; decide, rfl, o, c, rfl, Wk_congr (fun j hj => ?_) a7⟩
        unfold upd
        rw [if_neg (by omega), k1 104 (by decide)]
        rfl
      · rw [dSet_k (by decide), dSet_k (by decide), dSet_k (by decide), dSet_k (by decide), k1 102 (by decide), k1 103 (by decide)]; exact ⟨rfl, rfl⟩
      · have h0 : flt m = 0 := by rcases k4 with z | z <;> omega
        have := a10 h0
        have := h5 h0
        omega
      · unfold mu
        rw [f1, t1]
        rcases k4 with z | z
        · left; rcases hμ with q | q <;> omega
        · right; rcases hμ with q | q <;> omega
    · -- 96
      have go : j_X12_expression_70_145 4 x1 m Q := by
        refine ih.2.2.2.2.1 x1 m o p c hx h ht ?_
        rcases hμ with q | q
        · left; omega
        · right; omega
      refine v_X12_expression_70_96 ?_
      refine Wp.deep (p_is h.2.1 (fun h1 h2 => ⟨fun q => absurd q (by decide), fun _ => ⟨fun _ => go, fun ho => ?_⟩⟩) (fun h1 => ⟨fun _ => go, fun q => absurd rfl q⟩)) (Nat.le_of_ble_eq_true rfl)
      have eo : (m.1 70 12).toInt = o := h.2.2.2.2.1
      refine Wp.deep (es_out hs hme h (fun m2 p' c' h' b1 b2 b3 b4 _ _ => ?_)) (Nat.le_of_ble_eq_true rfl)
      have hc' : c' = 0 := b2 (by decide)
      subst hc'
      obtain ⟨⟨x1', x2', x3', x4'⟩, a2, a3, a4, a5, a6, a7, ⟨q, a8, a8'⟩, a9, a10, a11⟩ := h'
      obtain ⟨o1, rfl⟩ : ∃ o1, o = o1 + 1 := ⟨o - 1, by omega⟩
      have eW : o1 + 1 + p' = (o1 + p') + 1 := by omega
      rw [eW] at a7
      have a7' := a7
      unfold Wk at a7'
      rcases a7' with ⟨-, -, o2, c2, d, w⟩ | ⟨-, b, -⟩ | ⟨-, b, -⟩
      · have ho2 : o2 = o1 := by omega
        subst ho2
        have ew : (m2.1 70 50).toInt = (o2 + 1 + p' : Nat) := a6
        have e12 : (m2.1 70 12).toInt = (o2 + 1 : Nat) := a5
        have fw := dSubE (X := ((o2 + 1 + p' : Nat) : Int)) (Y := 1) (x := m2.1 70 50) (y := (1 : Int32)) ew (by decide) (by omega) (by omega)
        have fo := dSubE (X := ((o2 + 1 : Nat) : Int)) (Y := 1) (x := m2.1 70 12) (y := (1 : Int32)) e12 (by decide) (by omega) (by omega)
        have hM : ES me s (dSet (dSet m2 70 50 ((m2.1 70 50) - (1 : Int32))) 70 12 ((m2.1 70 12) - (1 : Int32))) o2 p' c2 (p' + 1) := by
          refine ⟨⟨fun k e1 e2 e3 e4 => by rw [dSet_k e1, dSet_k e1]; exact x1' k e1 e2 e3 e4, fun j e1 e2 e3 e4 e5 e6 e7 e8 => by rw [dSet_j e2, dSet_j e8]; exact x2' j e1 e2 e3 e4 e5 e6 e7 e8, fun j hj => x3' j hj, x4'⟩, a2, a3, a4, ?_, ?_, w, ⟨q, a8, gDp_congr (g := m2.1) (fun j _ _ => ⟨rfl, rfl⟩) a8'⟩, a9, fun hz => ?_, by omega⟩
          · show (m2.1 70 12 - (1 : Int32)).toInt = _; omega
          · show (m2.1 70 50 - (1 : Int32)).toInt = _; omega
          · have := a10 hz
            refine ⟨this.1, by omega⟩
        refine Wp.deep (p_goesOn (m := dSet (dSet m2 70 50 ((m2.1 70 50) - (1 : Int32))) 70 12 ((m2.1 70 12) - (1 : Int32))) a2 a4 (fun m3 h3 => ?_)) (Nat.le_of_ble_eq_true rfl)
        have k4 : (flt m2 = 0 ∧ flt m3 = 0 ∧ tt m3 = tt m2 + 1) ∨ (0 < flt m3 ∧ tt m2 ≤ tt m3 ∧ tt m3 ≤ tt m2 + 1) := h3.2.2.2.1
        refine ih.2.2.2.1 x1 m3 o2 p' c2 hx (hM.mv h3 (by decide)) (fun h0 => ?_) ?_
        · rcases k4 with z | z
          · have := ht (by omega); omega
          · omega
        · unfold mu
          rcases k4 with z | z
          · left; rcases hμ with q | q <;> omega
          · right; rcases hμ with q | q <;> omega
      · exact absurd b (by decide)
      · exact absurd b (by decide)
    · -- 145
      have nx : flt m = 0 → ((m.1 73 (m.1 70 11).toNatClampNeg).toInt = 8 ∨ (m.1 73 (m.1 70 11).toNatClampNeg).toInt = 9 ∨ (m.1 73 (m.1 70 11).toNatClampNeg).toInt = 10 ∨ (m.1 73 (m.1 70 11).toNatClampNeg).toInt = 15) → j_X12_expression_70_181 4 x1 m Q := fun h0 hk => by
        refine ih.2.2.2.2.2 x1 m o p c hx h h0 (ht h0) hk ?_
        rcases hμ with q | q
        · left; omega
        · right; omega
      have e8 := ti_8
      have e9 := ti_9
      have e10 := ti_10
      have e15 : (15 : Int32).toInt = 15 := by decide
      refine v_X12_expression_70_145 ?_
      refine Wp.deep (p_is h.2.1 (fun h1 h2 => ⟨fun _ => nx h1 (by omega), fun q => absurd q (by decide)⟩) (fun _ => ⟨fun q => absurd rfl q, fun _ => ?_⟩)) (Nat.le_of_ble_eq_true rfl)
      refine Wp.deep (p_is h.2.1 (fun h1 h2 => ⟨fun _ => nx h1 (by omega), fun q => absurd q (by decide)⟩) (fun _ => ⟨fun q => absurd rfl q, fun _ => ?_⟩)) (Nat.le_of_ble_eq_true rfl)
      refine Wp.deep (p_is h.2.1 (fun h1 h2 => ⟨fun _ => nx h1 (by omega), fun q => absurd q (by decide)⟩) (fun _ => ⟨fun q => absurd rfl q, fun _ => ?_⟩)) (Nat.le_of_ble_eq_true rfl)
      refine Wp.deep (p_is h.2.1 (fun h1 h2 => ⟨fun q => absurd q (by decide), fun _ => nx h1 (by omega)⟩) (fun _ => ⟨fun _ => ⟨fun ho => ?_, fun ho => ?_⟩, fun q => absurd rfl q⟩)) (Nat.le_of_ble_eq_true rfl)
      · have eo : (m.1 70 12).toInt = o := h.2.2.2.2.1
        exact ex_204 hs hme hQ h (fun h0 => ⟨by omega, ht h0⟩)
      · refine Wp.deep (p_fail h.2.1 (by decide) (fun m5 h5 hf5 => ?_)) (Nat.le_of_ble_eq_true rfl)
        exact ex_204 hs hme hQ (h.mv h5 (by decide)) (fun h0 => by exfalso; omega)
    · -- 181
      have e8 := ti_8
      have e10 := ti_10
      have e15 : (15 : Int32).toInt = 15 := by decide
      have again : ∀ (m3 : dM) (o' p' c' : Nat), ES me s m3 o' p' c' p' → (flt m3 = 0 → tt m3 = tt m + 1) → j_X12_expression_70_12 4 x1 (1 : Int32) m3 Q := fun m3 o' p' c' h3 t3 => by
        refine ih.1 x1 m3 o' p' c' hx h3 ?_
        unfold mu
        have := h3.2.2.2.1
        have := h.2.1
        by_cases hz : flt m3 = 0
        · left; have := t3 hz; rcases hμ with q | q <;> omega
        · right; rcases hμ with q | q <;> omega
      have strong : ((m.1 73 (m.1 70 11).toNatClampNeg).toInt = 10 ∨ (m.1 73 (m.1 70 11).toNatClampNeg).toInt = 15) → ∀ x : Int32, c_X12_comesOut_70 3 x m (fun m2 => (0 ≤ (m2.1 70 11).toInt ∧ (m2.1 70 11).toInt < 403) ∧ (0 ≤ (m2.1 70 50).toInt ∧ (m2.1 70 50).toInt < 64) ∧ c_X12_goesOn_70 3 (dSet (dSet m2 104 (m2.1 70 50).toNatClampNeg (m2.1 73 (m2.1 70 11).toNatClampNeg)) 70 50 ((m2.1 70 50) + (1 : Int32))) (fun m3 => j_X12_expression_70_12 4 x1 (1 : Int32) m3 Q)) := fun hk2 x => by
        refine Wp.deep (es_out hs hme h (fun m2 p' c' h' b1 b2 b3 b4 b5 b6 => ?_)) (Nat.le_of_ble_eq_true rfl)
        refine es_push (cn := 2) hs h' (by omega) ?_ (fun m3 h3 _ t3 => again m3 _ _ _ h3 (fun hz => by have := t3 hz; omega))
        rw [b5, b6]
        refine Or.inr (Or.inr ⟨by unfold upd; rw [if_pos rfl]; exact hk2, rfl, p', c', rfl, b1, Wk_congr (fun j hj => ?_) h'.2.2.2.2.2.2.1⟩)
        unfold upd
        rw [if_neg (by omega)]
      refine v_X12_expression_70_181 ?_
      refine Wp.deep (p_is h.2.1 (fun h1 h2 => ⟨fun _ => strong (by omega) _, fun q => absurd q (by decide)⟩) (fun g1 => ⟨fun q => absurd rfl q, fun _ => ?_⟩)) (Nat.le_of_ble_eq_true rfl)
      refine Wp.deep (p_is h.2.1 (fun h1 h2 => ⟨fun q => absurd q (by decide), fun _ => strong (by omega) _⟩) (fun g2 => ⟨fun _ => ?_, fun q => absurd rfl q⟩)) (Nat.le_of_ble_eq_true rfl)
      have hk2 : (m.1 73 (m.1 70 11).toNatClampNeg).toInt = 8 ∨ (m.1 73 (m.1 70 11).toNatClampNeg).toInt = 9 := by
        rcases hk with q | q | q | q
        · exact Or.inl q
        · exact Or.inr q
        · exact absurd ⟨h0, by omega⟩ g1
        · exact absurd ⟨h0, by omega⟩ g2
      refine Wp.deep (es_out hs hme h (fun m2 p' c' h' b1 b2 b3 b4 b5 b6 => ?_)) (Nat.le_of_ble_eq_true rfl)
      have hc' : c' = 0 := b2 (by decide)
      subst hc'
      refine es_push (cn := 1) hs h' (by omega) ?_ (fun m3 h3 _ t3 => again m3 _ _ _ h3 (fun hz => by have := t3 hz; omega))
      rw [b5, b6]
      refine Or.inr (Or.inl ⟨by unfold upd; rw [if_pos rfl]; exact hk2, rfl, p', rfl, Wk_congr (fun j hj => ?_) h'.2.2.2.2.2.2.1⟩)
      unfold upd
      rw [if_neg (by omega)]
theorem p_expression {Q : dM → Prop} (hs : s ≤ 1) (ht : 0 ≤ tt me ∧ tt me ≤ 400) (hf : flt me = 0) (ho : opn me = 0) (hc : 420 * (s : Int) ≤ cds me ∧ cds me ≤ 420 * s + tt me) (hQ : ∀ m', EQ me s m' → Q m') : c_X12_expression_70 4 me Q := by
  refine v_X12_expression_70 ?_
  have hES : ES me s (dSet me 70 50 (0 : Int32)) 0 0 0 0 := by
    have c1 : cds (dSet me 70 50 (0 : Int32)) = cds me := rfl
    have f1 : flt (dSet me 70 50 (0 : Int32)) = flt me := rfl
    have t1 : tt (dSet me 70 50 (0 : Int32)) = tt me := rfl
    refine ⟨⟨fun k e1 _ _ _ => dSet_k e1, fun j _ _ _ _ _ _ _ e8 => dSet_j e8, fun j _ => ⟨rfl, rfl⟩, Wz.eq rfl⟩, by omega, by omega, by omega, ho, rfl, ⟨rfl, rfl, rfl⟩, ⟨0, by omega, rfl⟩, by omega, fun _ => ⟨by omega, by omega⟩, by omega⟩
  refine (ex_main hs hc.1 hQ 4000).1 _ _ 0 0 0 ho hES ?_
  left
  have f1 : flt (dSet me 70 50 (0 : Int32)) = flt me := rfl
  have t1 : tt (dSet me 70 50 (0 : Int32)) = tt me := rfl
  omega
end EXM
