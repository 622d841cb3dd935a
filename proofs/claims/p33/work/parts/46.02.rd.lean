/-! THE REFERENCE's read, 3: an expression, all of it (by hand) -/
def XF (me : dM) (s : Nat) (m : dM) : Prop := (∀ k : Nat, k ≠ 70 → k ≠ 102 → k ≠ 103 → k ≠ 104 → m.1 k = me.1 k) ∧ (∀ j : Nat, j ≠ 11 → j ≠ 12 → j ≠ 13 → j ≠ 14 → j ≠ 15 → j ≠ 16 → j ≠ 46 → j ≠ 50 → m.1 70 j = me.1 70 j) ∧ (∀ j : Nat, ((j : Int) < cds me ∨ 420 * s + 402 ≤ j) → m.1 102 j = me.1 102 j ∧ m.1 103 j = me.1 103 j) ∧ Wz me m
def EZ (me : dM) (s : Nat) (m : dM) : Prop := XF me s m ∧ (0 ≤ tt m ∧ tt m ≤ 400) ∧ tt me ≤ tt m ∧ 0 ≤ flt m ∧ cds me ≤ cds m ∧ cds m ≤ 420 * s + 401
def ES (me : dM) (s : Nat) (m : dM) (o p c D : Nat) : Prop := XF me s m ∧ (0 ≤ tt m ∧ tt m ≤ 400) ∧ tt me ≤ tt m ∧ 0 ≤ flt m ∧ opn m = o ∧ wtg m = (o + p : Nat) ∧ Wk (m.1 104) (o + p) o p c ∧ (∃ q : Nat, cds m = cds me + q ∧ gDp m.1 q (cds me).toNat 0 D) ∧ cds m + p ≤ 420 * s + 401 ∧ (flt m = 0 → cds m + p ≤ 420 * s + tt m ∧ o ≤ 6) ∧ o ≤ 7
def EQ (me : dM) (s : Nat) (m : dM) : Prop := EZ me s m ∧ (flt m = 0 → opn m = 0 ∧ tt me + 1 ≤ tt m ∧ cds m ≤ 420 * s + tt m ∧ gPc m.1 s (cds me) (cds m))
theorem ES.z {me : dM} {s : Nat} {m : dM} {o p c D : Nat} (h : ES me s m o p c D) : EZ me s m := by
  obtain ⟨a1, a2, a3, a4, a5, a6, a7, ⟨q, a8, -⟩, a9, a10, a11⟩ := h
  exact ⟨a1, a2, a3, a4, by omega, by omega⟩
theorem ES.mv {me : dM} {s : Nat} {m m' : dM} {o p c D : Nat} {k : Int} (h : ES me s m o p c D) (hm : Mv k m m') (hk : 0 ≤ k) : ES me s m' o p c D := by
  obtain ⟨⟨x1, x2, x3, x4⟩, a2, a3, a4, a5, a6, a7, ⟨q, a8, a8'⟩, a9, a10, a11⟩ := h
  obtain ⟨h1, h2, h3, h4, h5⟩ := hm
  have e46 : m'.1 70 46 = m.1 70 46 := h2 46 (by decide) (by decide) (by decide) (by decide) (by decide)
  have e12 : m'.1 70 12 = m.1 70 12 := h2 12 (by decide) (by decide) (by decide) (by decide) (by decide)
  have e50 : m'.1 70 50 = m.1 70 50 := h2 50 (by decide) (by decide) (by decide) (by decide) (by decide)
  have c1 : cds m' = cds m := by unfold cds; rw [e46]
  have hf : 0 ≤ flt m' := by rcases h4 with q | q <;> omega
  have ht : tt m ≤ tt m' := by rcases h4 with q | q <;> omega
  refine ⟨⟨fun k b1 b2 b3 b4 => (h1 k b1).trans (x1 k b1 b2 b3 b4), fun j b1 b2 b3 b4 b5 b6 b7 b8 => (h2 j b1 b3 b4 b5 b6).trans (x2 j b1 b2 b3 b4 b5 b6 b7 b8), fun j hj => by rw [h1 102 (by decide), h1 103 (by decide)]; exact x3 j hj, x4.tr h5⟩, h3, by omega, hf, by unfold opn; rw [e12]; exact a5, by unfold wtg; rw [e50]; exact a6, by rw [h1 104 (by decide)]; exact a7, ⟨q, by rw [c1]; exact a8, gDp_congr (fun j _ _ => by rw [h1 102 (by decide), h1 103 (by decide)]; exact ⟨rfl, rfl⟩) a8'⟩, by omega, fun h0 => ?_, a11⟩
  have hf0 : flt m = 0 := by rcases h4 with q | q <;> omega
  have := a10 hf0
  omega
section EXPR
variable {me : dM} {s : Nat}
/-- an operand comes out, and it goes on -/
theorem es_emit {m : dM} {o p c : Nat} {code val : Int32} {Q : dM → Prop} (hs : s ≤ 1) (hme : 420 * (s : Int) ≤ cds me) (h : ES me s m o p c p) (h0 : flt m = 0) (hcode : code.toInt < 2 ∧ (code.toInt ≠ 0 → 0 ≤ val.toInt ∧ val.toInt ≤ 8)) (hQ : ∀ m', EZ me s m' → (flt m' = 0 → ES me s m' o p c (p + 1) ∧ tt m + 1 ≤ tt m') → Q m') : c_X12_emit_70 2 code val m (fun m2 => c_X12_goesOn_70 2 m2 Q) := by
  obtain ⟨⟨x1, x2, x3, x4⟩, a2, a3, a4, a5, a6, a7, ⟨q, a8, a8'⟩, a9, a10, a11⟩ := h
  have hb := a10 h0
  have ec : (m.1 70 46).toInt = cds m := rfl
  have fc := dAddE (X := cds m) (Y := 1) (x := m.1 70 46) (y := (1 : Int32)) rfl (by decide) (by omega) (by omega)
  have eC : (m.1 70 46).toNatClampNeg = (cds me).toNat + q := by
    have := d_cl (x := m.1 70 46) (by omega)
    omega
  refine v_X12_emit_70 ⟨by omega, ⟨by omega, ?_⟩⟩
  rw [eC]
  have r2 : ∀ j, j ≠ (cds me).toNat + q → (dSet (dSet (dSet m 102 ((cds me).toNat + q) code) 103 ((cds me).toNat + q) val) 70 46 ((m.1 70 46) + (1 : Int32))).1 102 j = m.1 102 j ∧ (dSet (dSet (dSet m 102 ((cds me).toNat + q) code) 103 ((cds me).toNat + q) val) 70 46 ((m.1 70 46) + (1 : Int32))).1 103 j = m.1 103 j := fun j hj => by
    constructor
    · rw [dSet_k (by decide), dSet_k (by decide), dSet_j hj]
    · rw [dSet_k (by decide), dSet_j hj, dSet_k (by decide)]
  have r1 : (dSet (dSet (dSet m 102 ((cds me).toNat + q) code) 103 ((cds me).toNat + q) val) 70 46 ((m.1 70 46) + (1 : Int32))).1 102 ((cds me).toNat + q) = code := by rw [dSet_k (by decide), dSet_k (by decide), dSet_s]
  have r3 : (dSet (dSet (dSet m 102 ((cds me).toNat + q) code) 103 ((cds me).toNat + q) val) 70 46 ((m.1 70 46) + (1 : Int32))).1 103 ((cds me).toNat + q) = val := by rw [dSet_k (by decide), dSet_s]
  generalize hM : (dSet (dSet (dSet m 102 ((cds me).toNat + q) code) 103 ((cds me).toNat + q) val) 70 46 ((m.1 70 46) + (1 : Int32))) = M at r1 r2 r3 ⊢
  have w2 : cds M = cds me + (q + 1 : Nat) := by rw [← hM]; show (m.1 70 46 + (1 : Int32)).toInt = _; omega
  have w3 : ∀ k : Nat, k ≠ 70 → k ≠ 102 → k ≠ 103 → M.1 k = m.1 k := fun k h1 h2 h3 => by rw [← hM, dSet_k h1, dSet_k h3, dSet_k h2]
  have w4 : ∀ j : Nat, j ≠ 46 → M.1 70 j = m.1 70 j := fun j h1 => by rw [← hM, dSet_j h1, dSet_k (by decide), dSet_k (by decide)]
  have t1 : tt M = tt m := by unfold tt; rw [w4 11 (by decide)]
  have f1 : flt M = flt m := by unfold flt; rw [w4 13 (by decide)]
  have u1 : wst M = wst m := by unfold wst; rw [w4 15 (by decide)]
  have hD1 : gDp M.1 (q + 1) (cds me).toNat 0 (p + 1) := gDp_push (gDp_congr (fun j h1 h2 => r2 j (by omega)) a8') (by rw [r1]; exact hcode.1) (by rw [r1, r3]; exact hcode.2)
  refine p_goesOn (by omega) (by omega) (fun m3 h3 => ?_)
  obtain ⟨k1, k2, k3, k4, k5⟩ := h3
  have e46 : m3.1 70 46 = M.1 70 46 := k2 46 (by decide) (by decide) (by decide) (by decide) (by decide)
  have c3 : cds m3 = cds M := by unfold cds; rw [e46]
  have X3 : XF me s m3 := by
    refine ⟨fun k b1 b2 b3 b4 => (k1 k b1).trans ((w3 k b1 b2 b3).trans (x1 k b1 b2 b3 b4)), fun j b1 b2 b3 b4 b5 b6 b7 b8 => (k2 j b1 b3 b4 b5 b6).trans ((w4 j b7).trans (x2 j b1 b2 b3 b4 b5 b6 b7 b8)), fun j hj => ?_, x4.tr ((Wz.eq u1).tr k5)⟩
    rw [k1 102 (by decide), k1 103 (by decide)]
    have g2 := r2 j (by omega)
    have g3 := x3 j hj
    exact ⟨g2.1.trans g3.1, g2.2.trans g3.2⟩
  have hf3 : 0 ≤ flt m3 := by rcases k4 with z | z <;> omega
  have ht3 : tt m ≤ tt m3 := by rcases k4 with z | z <;> omega
  refine hQ m3 ⟨X3, k3, by omega, hf3, by omega, by omega⟩ (fun hz => ?_)
  have ht4 : tt m3 = tt m + 1 := by rcases k4 with z | z <;> omega
  refine ⟨⟨X3, k3, by omega, hf3, ?_, ?_, ?_, ⟨q + 1, by omega, gDp_congr (fun j _ _ => by rw [k1 102 (by decide), k1 103 (by decide)]; exact ⟨rfl, rfl⟩) hD1⟩, by omega, fun _ => by omega, a11⟩, by omega⟩
  · unfold opn; rw [k2 12 (by decide) (by decide) (by decide) (by decide) (by decide), w4 12 (by decide)]; exact a5
  · unfold wtg; rw [k2 50 (by decide) (by decide) (by decide) (by decide) (by decide), w4 50 (by decide)]; exact a6
  · rw [k1 104 (by decide), w3 104 (by decide) (by decide) (by decide)]; exact a7
theorem p_unit {m : dM} {o p c : Nat} {Q : dM → Prop} (hs : s ≤ 1) (hme : 420 * (s : Int) ≤ cds me) (h : ES me s m o p c p) (hQ : ∀ m', EZ me s m' → (flt m' = 0 → ES me s m' o p c (p + 1) ∧ flt m = 0 ∧ tt m + 1 ≤ tt m') → Q m') : c_X12_unit_70 3 m Q := by
  have a2 := h.2.1
  have a4 := h.2.2.2.1
  have bad : j_X12_unit_70_88 3 m Q := by
    refine v_X12_unit_70_88 ?_
    refine Wp.deep (p_fail a2 (by decide) (fun m' h' hf => v_X12_unit_70_93 (hQ m' (h.mv h' (by decide)).z (fun h0 => by exfalso; omega)))) (Nat.le_of_ble_eq_true rfl)
  have tr : (0 ≤ (m.1 70 11).toInt ∧ (m.1 70 11).toInt < 403) := ⟨a2.1, by have := a2.2; unfold tt at this; omega⟩
  refine v_X12_unit_70 ?_
  refine Wp.deep (p_is a2 (fun h1 h2 => ⟨fun q => absurd q (by decide), fun _ => ⟨tr, ?_⟩⟩) (fun h1 => ⟨fun _ => ⟨fun _ => bad, fun h0 => ⟨tr, fun _ => bad, fun hk => ⟨tr, fun _ => bad, fun hk2 => ⟨tr, ?_⟩⟩⟩⟩, fun q => absurd rfl q⟩)) (Nat.le_of_ble_eq_true rfl)
  · exact es_emit hs hme h h1 ⟨by decide, fun q => absurd rfl q⟩ (fun m' z e => v_X12_unit_70_93 (hQ m' z (fun h0 => ⟨(e h0).1, h1, (e h0).2⟩)))
  · have f := dSubE (X := (m.1 73 (m.1 70 11).toNatClampNeg).toInt) (Y := 33) (x := m.1 73 (m.1 70 11).toNatClampNeg) (y := (33 : Int32)) rfl (by decide) (by omega) (by omega)
    exact es_emit hs hme h h0 ⟨by decide, fun _ => by omega⟩ (fun m' z e => v_X12_unit_70_93 (hQ m' z (fun h0' => ⟨(e h0').1, h0, (e h0').2⟩)))
/-- what comesOut does within an expression -/
theorem es_out {m : dM} {o p c : Nat} {x : Int32} {Q : dM → Prop} (hs : s ≤ 1) (hme : 420 * (s : Int) ≤ cds me) (h : ES me s m o p c (p + 1)) (hQ : ∀ (m' : dM) (p' c' : Nat), ES me s m' o p' c' (p' + 1) → c' ≤ 1 → (x.toInt = 0 → c' = 0) → tt m' = tt m → flt m' = flt m → m'.1 73 = m.1 73 → m'.1 70 11 = m.1 70 11 → Q m') : c_X12_comesOut_70 2 x m Q := by
  obtain ⟨⟨x1, x2, x3, x4⟩, a2, a3, a4, a5, a6, a7, ⟨q, a8, a8'⟩, a9, a10, a11⟩ := h
  have hl := Wk_len a7
  have h0 : (cds m) = ((cds me).toNat : Int) + q := by omega
  refine co_0 (c0 := (cds me).toNat) (B := 420 * s + 401) (by omega) (o + p) m o p c q (by omega) a6 a7 h0 a8' a9 ?_
  intro m' n' p' c' q' hF b1 b2 b3 b4 b5 b6 b7 b8
  have hl' := Wk_len b2
  have t1 : tt m' = tt m := by unfold tt; rw [hF.2.1 11 (by decide) (by decide)]
  have f1 : flt m' = flt m := by unfold flt; rw [hF.2.1 13 (by decide) (by decide)]
  have u1 : wst m' = wst m := by unfold wst; rw [hF.2.1 15 (by decide) (by decide)]
  have o1 : opn m' = o := by unfold opn; rw [hF.2.1 12 (by decide) (by decide)]; exact a5
  refine hQ m' p' c' ⟨⟨fun k e1 e2 e3 e4 => (hF.1 k e1 e2 e3).trans (x1 k e1 e2 e3 e4), fun j e1 e2 e3 e4 e5 e6 e7 e8 => (hF.2.1 j e7 e8).trans (x2 j e1 e2 e3 e4 e5 e6 e7 e8), fun j hj => ?_, x4.tr (Wz.eq u1)⟩, by omega, by omega, by omega, o1, by rw [← hl'.1]; exact b1, by rw [← hl'.1]; exact b2, ⟨q', by omega, b6⟩, by omega, fun hz => ?_, a11⟩ b3 b4 t1 f1 (hF.1 73 (by decide) (by decide) (by decide)) (hF.2.1 11 (by decide) (by decide))
  · have g1 := hF.2.2 j (by omega)
    have g2 := x3 j hj
    exact ⟨g1.1.trans g2.1, g1.2.trans g2.2⟩
  · have := a10 (by omega)
    omega
theorem ex_204 {m : dM} {o p c : Nat} {Q : dM → Prop} (hs : s ≤ 1) (hme : 420 * (s : Int) ≤ cds me) (hQ : ∀ m', EQ me s m' → Q m') (h : ES me s m o p c (p + 1)) (hz : flt m = 0 → o = 0 ∧ tt me + 1 ≤ tt m) : j_X12_expression_70_204 4 m Q := by
  refine v_X12_expression_70_204 ?_
  refine Wp.deep (es_out hs hme h (fun m' p' c' h' b1 b2 b3 b4 _ _ => hQ m' ⟨h'.z, fun h0 => ?_⟩)) (Nat.le_of_ble_eq_true rfl)
  have hz := hz (by omega)
  have ho := hz.1
  subst ho
  obtain ⟨-, a2, a3, a4, a5, a6, a7, ⟨q, a8, a8'⟩, a9, a10, a11⟩ := h'
  have hl := Wk_len a7
  have hp : p' = 0 := by have := b2 (by decide); omega
  subst hp
  have hb := a10 h0
  refine ⟨by omega, by omega, by omega, by omega, by omega, by omega, by omega, ?_⟩
  rw [show (cds m' - cds me).toNat = q by omega]
  exact gDp_seg a8'
/-- a sign is pushed, and it goes on -/
theorem es_push {m : dM} {o p c cn : Nat} {Q : dM → Prop} (hs : s ≤ 1) (h : ES me s m o p c (p + 1)) (h0 : flt m = 0) (hW : Wk (upd (m.1 104) (o + p) (m.1 73 (m.1 70 11).toNatClampNeg)) (o + p + 1) o (p + 1) cn) (hQ : ∀ m', ES me s m' o (p + 1) cn (p + 1) → Mv 1 m m' ∨ tt m + 1 ≤ tt m' ∨ 0 < flt m' → (flt m' = 0 → tt m' = tt m + 1) → Q m') : (0 ≤ (m.1 70 11).toInt ∧ (m.1 70 11).toInt < 403) ∧ (0 ≤ (m.1 70 50).toInt ∧ (m.1 70 50).toInt < 64) ∧ c_X12_goesOn_70 3 (dSet (dSet m 104 (m.1 70 50).toNatClampNeg (m.1 73 (m.1 70 11).toNatClampNeg)) 70 50 ((m.1 70 50) + (1 : Int32))) Q := by
  obtain ⟨⟨x1, x2, x3, x4⟩, a2, a3, a4, a5, a6, a7, ⟨q, a8, a8'⟩, a9, a10, a11⟩ := h
  have hl := Wk_len a7
  have ew : (m.1 70 50).toInt = wtg m := rfl
  have et : (m.1 70 11).toInt = tt m := rfl
  have eW : (m.1 70 50).toNatClampNeg = o + p := by
    have := d_cl (x := m.1 70 50) (by omega)
    omega
  have fw := dAddE (X := wtg m) (Y := 1) (x := m.1 70 50) (y := (1 : Int32)) rfl (by decide) (by omega) (by omega)
  have hb := a10 h0
  refine ⟨by omega, by omega, ?_⟩
  rw [eW]
  refine Wp.deep (p_goesOn (m := dSet (dSet m 104 (o + p) (m.1 73 (m.1 70 11).toNatClampNeg)) 70 50 ((m.1 70 50) + (1 : Int32))) a2 a4 (fun m3 h3 => ?_)) (Nat.le_of_ble_eq_true rfl)
  obtain ⟨k1, k2, k3, k4, k5⟩ := h3
  have k4 : (flt m = 0 ∧ flt m3 = 0 ∧ tt m3 = tt m + 1) ∨ (0 < flt m3 ∧ tt m ≤ tt m3 ∧ tt m3 ≤ tt m + 1) := k4
  have k5 : Wz m m3 := k5
  have hf3 : 0 ≤ flt m3 := by rcases k4 with z | z <;> omega
  have ht3 : tt m ≤ tt m3 := by rcases k4 with z | z <;> omega
  have e46 : m3.1 70 46 = m.1 70 46 := k2 46 (by decide) (by decide) (by decide) (by decide) (by decide)
  have c3 : cds m3 = cds m := by unfold cds; rw [e46]
  refine hQ m3 ⟨⟨fun k e1 e2 e3 e4 => (k1 k e1).trans (by rw [dSet_k e1, dSet_k e4]; exact x1 k e1 e2 e3 e4), fun j e1 e2 e3 e4 e5 e6 e7 e8 => (k2 j e1 e3 e4 e5 e6).trans (by rw [dSet_j e8, dSet_k (by decide)]; exact x2 j e1 e2 e3 e4 e5 e6 e7 e8), fun j hj => ?_, x4.tr k5⟩, k3, by omega, hf3, ?_, ?_, ?_, ⟨q, by omega, gDp_congr (fun j _ _ => by rw [k1 102 (by decide), k1 103 (by decide)]; exact ⟨rfl, rfl⟩) a8'⟩, by omega, fun hz => ?_, a11⟩ ?_ (fun hz => by rcases k4 with z | z <;> omega)
  · rw [k1 102 (by decide), k1 103 (by decide)]; exact x3 j hj
  · unfold opn; rw [k2 12 (by decide) (by decide) (by decide) (by decide) (by decide)]; exact a5
  · unfold wtg; rw [k2 50 (by decide) (by decide) (by decide) (by decide) (by decide)]; show (m.1 70 50 + (1 : Int32)).toInt = _; omega
  · rw [k1 104 (by decide), dSet_k (by decide), dSet_f, show o + (p + 1) = o + p + 1 by omega]; exact hW
  · rcases k4 with z | z <;> omega
  · right
    rcases k4 with z | z <;> omega
end EXPR
