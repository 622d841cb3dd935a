section
/-! THE REFERENCE's read, 2: an expression (by hand) -/
def gDp (g : gM) : Nat → Nat → Nat → Nat → Prop
  | 0, _, t, t' => t = t'
  | n + 1, p, t, t' => ((g 102 p).toInt < 2 ∧ ((g 102 p).toInt ≠ 0 → 0 ≤ (g 103 p).toInt ∧ (g 103 p).toInt ≤ 8) ∧ gDp g n (p + 1) (t + 1) t') ∨ ((2 ≤ (g 102 p).toInt ∧ (g 102 p).toInt ≤ 5) ∧ 2 ≤ t ∧ gDp g n (p + 1) (t - 1) t')
theorem gDp_seg {g : gM} : ∀ {n p t t' : Nat}, gDp g n p t t' → gSeg g n p t
  | 0, _, _, _, _ => trivial
  | n + 1, p, t, t', h => by
    rcases h with ⟨a, b, c⟩ | ⟨a, b, c⟩
    · exact Or.inl ⟨a, b, gDp_seg c⟩
    · exact Or.inr ⟨a, b, gDp_seg c⟩
theorem gDp_congr {g g' : gM} : ∀ {n p t t' : Nat}, (∀ j, p ≤ j → j < p + n → g' 102 j = g 102 j ∧ g' 103 j = g 103 j) → gDp g n p t t' → gDp g' n p t t'
  | 0, _, _, _, _, h => h
  | n + 1, p, t, t', hc, h => by
    have e := hc p (Nat.le_refl _) (by omega)
    have hc' : ∀ j, p + 1 ≤ j → j < p + 1 + n → g' 102 j = g 102 j ∧ g' 103 j = g 103 j := fun j h1 h2 => hc j (by omega) (by omega)
    rcases h with ⟨a, b, c⟩ | ⟨a, b, c⟩
    · left; rw [e.1, e.2]; exact ⟨a, b, gDp_congr hc' c⟩
    · right; rw [e.1]; exact ⟨a, b, gDp_congr hc' c⟩
theorem gDp_push {g : gM} : ∀ {n p t t' : Nat}, gDp g n p t t' → (g 102 (p + n)).toInt < 2 → ((g 102 (p + n)).toInt ≠ 0 → 0 ≤ (g 103 (p + n)).toInt ∧ (g 103 (p + n)).toInt ≤ 8) → gDp g (n + 1) p t (t' + 1)
  | 0, p, t, t', h, a, b => by
    have h : t = t' := h
    subst h
    exact Or.inl ⟨a, b, rfl⟩
  | n + 1, p, t, t', h, a, b => by
    have e : p + (n + 1) = (p + 1) + n := by omega
    rw [e] at a b
    rcases h with ⟨a1, b1, c⟩ | ⟨a1, b1, c⟩
    · exact Or.inl ⟨a1, b1, gDp_push c a b⟩
    · exact Or.inr ⟨a1, b1, gDp_push c a b⟩
theorem gDp_op {g : gM} : ∀ {n p t t' : Nat}, gDp g n p t (t' + 1) → (2 ≤ (g 102 (p + n)).toInt ∧ (g 102 (p + n)).toInt ≤ 5) → 1 ≤ t' → gDp g (n + 1) p t t'
  | 0, p, t, t', h, a, b => by
    have h : t = t' + 1 := h
    subst h
    exact Or.inr ⟨a, by omega, rfl⟩
  | n + 1, p, t, t', h, a, b => by
    have e : p + (n + 1) = (p + 1) + n := by omega
    rw [e] at a
    rcases h with ⟨a1, b1, c⟩ | ⟨a1, b1, c⟩
    · exact Or.inl ⟨a1, b1, gDp_op c a b⟩
    · exact Or.inr ⟨a1, b1, gDp_op c a b⟩
/-- what waits: o opens, p signs, and what is on top (0 nothing or an open, 1 a weak sign, 2 a strong one) -/
def Wk (f : Nat → Int32) : Nat → Nat → Nat → Nat → Prop
  | 0, o, p, c => o = 0 ∧ p = 0 ∧ c = 0
  | n + 1, o, p, c => ((f n).toInt = 6 ∧ c = 0 ∧ ∃ o' c', o = o' + 1 ∧ Wk f n o' p c') ∨ (((f n).toInt = 8 ∨ (f n).toInt = 9) ∧ c = 1 ∧ ∃ p', p = p' + 1 ∧ Wk f n o p' 0) ∨ (((f n).toInt = 10 ∨ (f n).toInt = 15) ∧ c = 2 ∧ ∃ p' c', p = p' + 1 ∧ c' ≤ 1 ∧ Wk f n o p' c')
theorem Wk_congr {f f' : Nat → Int32} : ∀ {n o p c : Nat}, (∀ j, j < n → f' j = f j) → Wk f n o p c → Wk f' n o p c
  | 0, _, _, _, _, h => h
  | n + 1, o, p, c, hc, h => by
    have e := hc n (by omega)
    have hc' : ∀ j, j < n → f' j = f j := fun j hj => hc j (by omega)
    unfold Wk at h ⊢
    rw [e]
    rcases h with ⟨a, b, o', c', d, w⟩ | ⟨a, b, p', d, w⟩ | ⟨a, b, p', c', d, i, w⟩
    · exact Or.inl ⟨a, b, o', c', d, Wk_congr hc' w⟩
    · exact Or.inr (Or.inl ⟨a, b, p', d, Wk_congr hc' w⟩)
    · exact Or.inr (Or.inr ⟨a, b, p', c', d, i, Wk_congr hc' w⟩)
theorem Wk_len {f : Nat → Int32} : ∀ {n o p c : Nat}, Wk f n o p c → n = o + p ∧ p ≤ 2 * o + c ∧ c ≤ 2
  | 0, o, p, c, h => by obtain ⟨a, b, d⟩ := h; omega
  | n + 1, o, p, c, h => by
    unfold Wk at h
    rcases h with ⟨a, b, o', c', d, w⟩ | ⟨a, b, p', d, w⟩ | ⟨a, b, p', c', d, i, w⟩ <;> (have := Wk_len w; omega)
def CoF (m : dM) (p : Nat) (m' : dM) : Prop := (∀ k : Nat, k ≠ 70 → k ≠ 102 → k ≠ 103 → m'.1 k = m.1 k) ∧ (∀ j : Nat, j ≠ 46 → j ≠ 50 → m'.1 70 j = m.1 70 j) ∧ (∀ j : Nat, ((j : Int) < cds m ∨ cds m + p ≤ j) → m'.1 102 j = m.1 102 j ∧ m'.1 103 j = m.1 103 j)
theorem co_0 {x1 : Int32} {Q : dM → Prop} {c0 : Nat} {B : Int} (hB : B ≤ 839) : ∀ (n : Nat) (m : dM) (o p c q : Nat), n ≤ 64 → wtg m = n → Wk (m.1 104) n o p c → cds m = c0 + q → gDp m.1 q c0 0 (p + 1) → cds m + p ≤ B →
    (∀ (m' : dM) (n' p' c' q' : Nat), CoF m p m' → wtg m' = n' → Wk (m'.1 104) n' o p' c' → c' ≤ 1 → (x1.toInt = 0 → c' = 0) → cds m' = c0 + q' → gDp m'.1 q' c0 0 (p' + 1) → cds m' + p' = cds m + p → q ≤ q' → Q m') → j_X12_comesOut_70_0 2 x1 m Q := by
  intro n
  induction n with
  | zero =>
    intro m o p c q hn hw hW hc hD hB' hQ
    have hW' : o = 0 ∧ p = 0 ∧ c = 0 := hW
    refine v_X12_comesOut_70_0 ⟨fun _ => hQ m 0 p c q ⟨fun _ _ _ _ => rfl, fun _ _ _ => rfl, fun _ _ => ⟨rfl, rfl⟩⟩ hw hW (by omega) (fun _ => hW'.2.2) hc hD rfl (Nat.le_refl _), fun h => ?_⟩
    have h : 0 < wtg m := h
    exfalso; omega
  | succ n ih =>
    intro m o p c q hn hw hW hc hD hB' hQ
    have ew : (m.1 70 50).toInt = wtg m := rfl
    have ec : (m.1 70 46).toInt = cds m := rfl
    have f := dSubE (X := wtg m) (Y := 1) (x := m.1 70 50) (y := (1 : Int32)) rfl (by decide) (by omega) (by omega)
    have ei : (m.1 70 50 - (1 : Int32)).toNatClampNeg = n := by
      have := d_cl (x := m.1 70 50 - (1 : Int32)) (by omega)
      omega
    have stay : c ≤ 1 → (x1.toInt = 0 → c = 0) → j_X12_comesOut_70_41 2 m Q := fun h1 h2 => v_X12_comesOut_70_41 (hQ m (n + 1) p c q ⟨fun _ _ _ _ => rfl, fun _ _ _ => rfl, fun _ _ => ⟨rfl, rfl⟩⟩ hw hW h1 h2 hc hD rfl (Nat.le_refl _))
    have out : ∀ (p1 c1 : Nat), p = p1 + 1 → Wk (m.1 104) n o p1 c1 → ∀ code : Int32, 2 ≤ code.toInt ∧ code.toInt ≤ 5 → c_X12_emit_70 1 code (0 : Int32) (dSet m 70 50 ((m.1 70 50) - (1 : Int32))) (fun m1 => j_X12_comesOut_70_0 2 x1 m1 Q) := by
      intro p1 c1 hp hW1 code hcode
      refine v_X12_emit_70 ?_
      have ec' : ((dSet m 70 50 ((m.1 70 50) - (1 : Int32))).1 70 46) = m.1 70 46 := rfl
      rw [ec']
      have fc := dAddE (X := cds m) (Y := 1) (x := m.1 70 46) (y := (1 : Int32)) rfl (by decide) (by omega) (by omega)
      have eC : (m.1 70 46).toNatClampNeg = c0 + q := by
        have := d_cl (x := m.1 70 46) (by omega)
        omega
      refine ⟨by omega, ⟨by omega, ?_⟩⟩
      rw [eC]
      have r2 : ∀ j, j ≠ c0 + q → (dSet (dSet (dSet (dSet m 70 50 ((m.1 70 50) - (1 : Int32))) 102 (c0 + q) code) 103 (c0 + q) (0 : Int32)) 70 46 ((m.1 70 46) + (1 : Int32))).1 102 j = m.1 102 j ∧ (dSet (dSet (dSet (dSet m 70 50 ((m.1 70 50) - (1 : Int32))) 102 (c0 + q) code) 103 (c0 + q) (0 : Int32)) 70 46 ((m.1 70 46) + (1 : Int32))).1 103 j = m.1 103 j := fun j hj => by
        constructor
        · rw [dSet_k (by decide), dSet_k (by decide), dSet_j hj, dSet_k (by decide)]
        · rw [dSet_k (by decide), dSet_j hj, dSet_k (by decide), dSet_k (by decide)]
      have r1 : (dSet (dSet (dSet (dSet m 70 50 ((m.1 70 50) - (1 : Int32))) 102 (c0 + q) code) 103 (c0 + q) (0 : Int32)) 70 46 ((m.1 70 46) + (1 : Int32))).1 102 (c0 + q) = code := by rw [dSet_k (by decide), dSet_k (by decide), dSet_s]
      generalize hM : (dSet (dSet (dSet (dSet m 70 50 ((m.1 70 50) - (1 : Int32))) 102 (c0 + q) code) 103 (c0 + q) (0 : Int32)) 70 46 ((m.1 70 46) + (1 : Int32))) = M at r1 r2 ⊢
      have w1 : wtg M = n := by rw [← hM]; show (m.1 70 50 - (1 : Int32)).toInt = n; omega
      have w2 : cds M = c0 + (q + 1 : Nat) := by rw [← hM]; show (m.1 70 46 + (1 : Int32)).toInt = _; omega
      have w3 : ∀ k : Nat, k ≠ 70 → k ≠ 102 → k ≠ 103 → M.1 k = m.1 k := fun k h1 h2 h3 => by rw [← hM, dSet_k h1, dSet_k h3, dSet_k h2, dSet_k h1]
      have w4 : ∀ j : Nat, j ≠ 46 → j ≠ 50 → M.1 70 j = m.1 70 j := fun j h1 h2 => by rw [← hM, dSet_j h1, dSet_k (by decide), dSet_k (by decide), dSet_j h2]
      have hD1 : gDp M.1 (q + 1) c0 0 (p1 + 1) := by
        refine gDp_op (gDp_congr (fun j h1 h2 => r2 j (by omega)) (by rw [← hp]; exact hD)) ?_ (by omega)
        rw [r1]; exact hcode
      refine ih M o p1 c1 (q + 1) (by omega) w1 (by rw [w3 104 (by decide) (by decide) (by decide)]; exact hW1) w2 hD1 (by omega) ?_
      intro m' n' p' c' q' hF a1 a2 a3 a4 a5 a6 a7 a8
      refine hQ m' n' p' c' q' ⟨fun k h1 h2 h3 => (hF.1 k h1 h2 h3).trans (w3 k h1 h2 h3), fun j h1 h2 => (hF.2.1 j h1 h2).trans (w4 j h1 h2), fun j hj => ?_⟩ a1 a2 a3 a4 a5 a6 (by omega) (by omega)
      have g1 := hF.2.2 j (by omega)
      have g2 := r2 j (by omega)
      exact ⟨g1.1.trans g2.1, g1.2.trans g2.2⟩
    refine v_X12_comesOut_70_0 ⟨fun h => by have h : wtg m ≤ 0 := h; exfalso; omega, fun _ => ⟨by omega, ?_⟩⟩
    rw [ei]
    have hW0 := hW
    unfold Wk at hW0
    rcases hW0 with ⟨a, b, o', c', d, w⟩ | ⟨a, b, p', d, w⟩ | ⟨a, b, p', c', d, i, w⟩
    · exact ⟨fun _ => stay (by omega) (fun _ => b), fun h => absurd a h⟩
    · have em : ∀ y : Int32, y = m.1 104 n → j_X12_comesOut_70_42 2 x1 y m Q := fun y hy => by
        subst hy
        refine v_X12_comesOut_70_42 ⟨fun _ => ⟨fun _ => ⟨fun _ => out p' 0 d w _ (by decide), fun _ => out p' 0 d w _ (by decide)⟩, fun _ => out p' 0 d w _ (by decide)⟩, fun _ => out p' 0 d w _ (by decide)⟩
      refine ⟨fun h => by exfalso; omega, fun _ => ⟨fun _ => em _ rfl, fun hx => ⟨fun _ => stay (by omega) (fun h => absurd h hx), fun h8 => ⟨fun h9 => by exfalso; omega, fun _ => stay (by omega) (fun h => absurd h hx)⟩⟩⟩⟩
    · have em : ∀ y : Int32, y = m.1 104 n → j_X12_comesOut_70_42 2 x1 y m Q := fun y hy => by
        subst hy
        refine v_X12_comesOut_70_42 ⟨fun _ => ⟨fun _ => ⟨fun _ => out p' c' d w _ (by decide), fun _ => out p' c' d w _ (by decide)⟩, fun _ => out p' c' d w _ (by decide)⟩, fun _ => out p' c' d w _ (by decide)⟩
      refine ⟨fun h => by exfalso; omega, fun _ => ⟨fun _ => em _ rfl, fun hx => ⟨fun h => by exfalso; omega, fun h8 => ⟨fun h9 => em _ rfl, fun h => by exfalso; omega⟩⟩⟩⟩
end
section
/-! THE REFERENCE's read, 3: an expression, all of it (by hand) -/
def XF (me : dM) (s : Nat) (m : dM) : Prop := (∀ k : Nat, k ≠ 70 → k ≠ 102 → k ≠ 103 → k ≠ 104 → m.1 k = me.1 k) ∧ (∀ j : Nat, j ≠ 11 → j ≠ 12 → j ≠ 13 → j ≠ 14 → j ≠ 15 → j ≠ 16 → j ≠ 46 → j ≠ 50 → m.1 70 j = me.1 70 j) ∧ (∀ j : Nat, ((j : Int) < cds me ∨ 420 * s + 402 ≤ j) → m.1 102 j = me.1 102 j ∧ m.1 103 j = me.1 103 j) ∧ Wz me m
def EZ (me : dM) (s : Nat) (m : dM) : Prop := XF me s m ∧ (0 ≤ tt m ∧ tt m ≤ 400) ∧ tt me ≤ tt m ∧ 0 ≤ flt m ∧ cds me ≤ cds m ∧ cds m ≤ 420 * s + 401
def ES (me : dM) (s : Nat) (m : dM) (o p c D : Nat) : Prop := XF me s m ∧ (0 ≤ tt m ∧ tt m ≤ 400) ∧ tt me ≤ tt m ∧ 0 ≤ flt m ∧ opn m = o ∧ wtg m = (o + p : Nat) ∧ Wk (m.1 104) (o + p) o p c ∧ (∃ q : Nat, cds m = cds me + q ∧ gDp m.1 q (cds me).toNat 0 D) ∧ cds m + p ≤ 420 * s + 401 ∧ (flt m = 0 → cds m + p ≤ 420 * s + tt m ∧ o ≤ 6) ∧ o ≤ 7
def EQ (me : dM) (s : Nat) (m : dM) : Prop := EZ me s m ∧ (flt m = 0 → opn m = 0 ∧ tt me + 1 ≤ tt m ∧ cds m ≤ 420 * s + tt m ∧ gPc m.1 s (cds me) (cds m))
theorem ES.z {me : dM} {s : Nat} {m : dM} {o p c D : Nat} (h : ES me s m o p c D) : EZ me s m := by
  obtain ⟨a1, a2, a3, a4, a5, a6, a7, ⟨q, a8, -⟩, a9, a10, a11⟩ := h
  exact ⟨a1, a2, a3, a4, by omega, by omega⟩
theorem ES.mv {me : dM} {s : Nat} {m m' : dM} {o p c D : Nat} {k : Int} (h : ES me s m o p c D) (hm : Mv k m m') (hk : 0 ≤ k) : ES me s m' o p c D := by
  obtain ⟨⟨x1, x2, x3, x4⟩, a2, a3, a4, a5, a6, a7, ⟨q, a8, a8'⟩, a9, a10, a11⟩ := h
  obtain ⟨h1, h2, h3, h4, h5⟩ := hm
  have e46 : m'.1 70 46 = m.1 70 46 := h2 46 (by decide) (by decide) (by decide) (by decide) (by decide)
  have e12 : m'.1 70 12 = m.1 70 12 := h2 12 (by decide) (by decide) (by decide) (by decide) (by decide)
  have e50 : m'.1 70 50 = m.1 70 50 := h2 50 (by decide) (by decide) (by decide) (by decide) (by decide)
  have c1 : cds m' = cds m := by unfold cds; rw [e46]
  have hf : 0 ≤ flt m' := by rcases h4 with q | q <;> omega
  have ht : tt m ≤ tt m' := by rcases h4 with q | q <;> omega
  refine ⟨⟨fun k b1 b2 b3 b4 => (h1 k b1).trans (x1 k b1 b2 b3 b4), fun j b1 b2 b3 b4 b5 b6 b7 b8 => (h2 j b1 b3 b4 b5 b6).trans (x2 j b1 b2 b3 b4 b5 b6 b7 b8), fun j hj => by rw [h1 102 (by decide), h1 103 (by decide)]; exact x3 j hj, x4.tr h5⟩, h3, by omega, hf, by unfold opn; rw [e12]; exact a5, by unfold wtg; rw [e50]; exact a6, by rw [h1 104 (by decide)]; exact a7, ⟨q, by rw [c1]; exact a8, gDp_congr (fun j _ _ => by rw [h1 102 (by decide), h1 103 (by decide)]; exact ⟨rfl, rfl⟩) a8'⟩, by omega, fun h0 => ?_, a11⟩
  have hf0 : flt m = 0 := by rcases h4 with q | q <;> omega
  have := a10 hf0
  omega
section EXPR
variable {me : dM} {s : Nat}
/-- an operand comes out, and it goes on -/
theorem es_emit {m : dM} {o p c : Nat} {code val : Int32} {Q : dM → Prop} (hs : s ≤ 1) (hme : 420 * (s : Int) ≤ cds me) (h : ES me s m o p c p) (h0 : flt m = 0) (hcode : code.toInt < 2 ∧ (code.toInt ≠ 0 → 0 ≤ val.toInt ∧ val.toInt ≤ 8)) (hQ : ∀ m', EZ me s m' → (flt m' = 0 → ES me s m' o p c (p + 1) ∧ tt m + 1 ≤ tt m') → Q m') : c_X12_emit_70 2 code val m (fun m2 => c_X12_goesOn_70 2 m2 Q) := by
  obtain ⟨⟨x1, x2, x3, x4⟩, a2, a3, a4, a5, a6, a7, ⟨q, a8, a8'⟩, a9, a10, a11⟩ := h
  have hb := a10 h0
  have ec : (m.1 70 46).toInt = cds m := rfl
  have fc := dAddE (X := cds m) (Y := 1) (x := m.1 70 46) (y := (1 : Int32)) rfl (by decide) (by omega) (by omega)
  have eC : (m.1 70 46).toNatClampNeg = (cds me).toNat + q := by
    have := d_cl (x := m.1 70 46) (by omega)
    omega
  refine v_X12_emit_70 ⟨by omega, ⟨by omega, ?_⟩⟩
  rw [eC]
  have r2 : ∀ j, j ≠ (cds me).toNat + q → (dSet (dSet (dSet m 102 ((cds me).toNat + q) code) 103 ((cds me).toNat + q) val) 70 46 ((m.1 70 46) + (1 : Int32))).1 102 j = m.1 102 j ∧ (dSet (dSet (dSet m 102 ((cds me).toNat + q) code) 103 ((cds me).toNat + q) val) 70 46 ((m.1 70 46) + (1 : Int32))).1 103 j = m.1 103 j := fun j hj => by
    constructor
    · rw [dSet_k (by decide), dSet_k (by decide), dSet_j hj]
    · rw [dSet_k (by decide), dSet_j hj, dSet_k (by decide)]
  have r1 : (dSet (dSet (dSet m 102 ((cds me).toNat + q) code) 103 ((cds me).toNat + q) val) 70 46 ((m.1 70 46) + (1 : Int32))).1 102 ((cds me).toNat + q) = code := by rw [dSet_k (by decide), dSet_k (by decide), dSet_s]
  have r3 : (dSet (dSet (dSet m 102 ((cds me).toNat + q) code) 103 ((cds me).toNat + q) val) 70 46 ((m.1 70 46) + (1 : Int32))).1 103 ((cds me).toNat + q) = val := by rw [dSet_k (by decide), dSet_s]
  generalize hM : (dSet (dSet (dSet m 102 ((cds me).toNat + q) code) 103 ((cds me).toNat + q) val) 70 46 ((m.1 70 46) + (1 : Int32))) = M at r1 r2 r3 ⊢
  have w2 : cds M = cds me + (q + 1 : Nat) := by rw [← hM]; show (m.1 70 46 + (1 : Int32)).toInt = _; omega
  have w3 : ∀ k : Nat, k ≠ 70 → k ≠ 102 → k ≠ 103 → M.1 k = m.1 k := fun k h1 h2 h3 => by rw [← hM, dSet_k h1, dSet_k h3, dSet_k h2]
  have w4 : ∀ j : Nat, j ≠ 46 → M.1 70 j = m.1 70 j := fun j h1 => by rw [← hM, dSet_j h1, dSet_k (by decide), dSet_k (by decide)]
  have t1 : tt M = tt m := by unfold tt; rw [w4 11 (by decide)]
  have f1 : flt M = flt m := by unfold flt; rw [w4 13 (by decide)]
  have u1 : wst M = wst m := by unfold wst; rw [w4 15 (by decide)]
  have hD1 : gDp M.1 (q + 1) (cds me).toNat 0 (p + 1) := gDp_push (gDp_congr (fun j h1 h2 => r2 j (by omega)) a8') (by rw [r1]; exact hcode.1) (by rw [r1, r3]; exact hcode.2)
  refine p_goesOn (by omega) (by omega) (fun m3 h3 => ?_)
  obtain ⟨k1, k2, k3, k4, k5⟩ := h3
  have e46 : m3.1 70 46 = M.1 70 46 := k2 46 (by decide) (by decide) (by decide) (by decide) (by decide)
  have c3 : cds m3 = cds M := by unfold cds; rw [e46]
  have X3 : XF me s m3 := by
    refine ⟨fun k b1 b2 b3 b4 => (k1 k b1).trans ((w3 k b1 b2 b3).trans (x1 k b1 b2 b3 b4)), fun j b1 b2 b3 b4 b5 b6 b7 b8 => (k2 j b1 b3 b4 b5 b6).trans ((w4 j b7).trans (x2 j b1 b2 b3 b4 b5 b6 b7 b8)), fun j hj => ?_, x4.tr ((Wz.eq u1).tr k5)⟩
    rw [k1 102 (by decide), k1 103 (by decide)]
    have g2 := r2 j (by omega)
    have g3 := x3 j hj
    exact ⟨g2.1.trans g3.1, g2.2.trans g3.2⟩
  have hf3 : 0 ≤ flt m3 := by rcases k4 with z | z <;> omega
  have ht3 : tt m ≤ tt m3 := by rcases k4 with z | z <;> omega
  refine hQ m3 ⟨X3, k3, by omega, hf3, by omega, by omega⟩ (fun hz => ?_)
  have ht4 : tt m3 = tt m + 1 := by rcases k4 with z | z <;> omega
  refine ⟨⟨X3, k3, by omega, hf3, ?_, ?_, ?_, ⟨q + 1, by omega, gDp_congr (fun j _ _ => by rw [k1 102 (by decide), k1 103 (by decide)]; exact ⟨rfl, rfl⟩) hD1⟩, by omega, fun _ => by omega, a11⟩, by omega⟩
  · unfold opn; rw [k2 12 (by decide) (by decide) (by decide) (by decide) (by decide), w4 12 (by decide)]; exact a5
  · unfold wtg; rw [k2 50 (by decide) (by decide) (by decide) (by decide) (by decide), w4 50 (by decide)]; exact a6
  · rw [k1 104 (by decide), w3 104 (by decide) (by decide) (by decide)]; exact a7
theorem p_unit {m : dM} {o p c : Nat} {Q : dM → Prop} (hs : s ≤ 1) (hme : 420 * (s : Int) ≤ cds me) (h : ES me s m o p c p) (hQ : ∀ m', EZ me s m' → (flt m' = 0 → ES me s m' o p c (p + 1) ∧ flt m = 0 ∧ tt m + 1 ≤ tt m') → Q m') : c_X12_unit_70 3 m Q := by
  have a2 := h.2.1
  have a4 := h.2.2.2.1
  have bad : j_X12_unit_70_88 3 m Q := by
    refine v_X12_unit_70_88 ?_
    refine Wp.deep (p_fail a2 (by decide) (fun m' h' hf => v_X12_unit_70_93 (hQ m' (h.mv h' (by decide)).z (fun h0 => by exfalso; omega)))) (Nat.le_of_ble_eq_true rfl)
  have tr : (0 ≤ (m.1 70 11).toInt ∧ (m.1 70 11).toInt < 403) := ⟨a2.1, by have := a2.2; unfold tt at this; omega⟩
  refine v_X12_unit_70 ?_
  refine Wp.deep (p_is a2 (fun h1 h2 => ⟨fun q => absurd q (by decide), fun _ => ⟨tr, ?_⟩⟩) (fun h1 => ⟨fun _ => ⟨fun _ => bad, fun h0 => ⟨tr, fun _ => bad, fun hk => ⟨tr, fun _ => bad, fun hk2 => ⟨tr, ?_⟩⟩⟩⟩, fun q => absurd rfl q⟩)) (Nat.le_of_ble_eq_true rfl)
  · exact es_emit hs hme h h1 ⟨by decide, fun q => absurd rfl q⟩ (fun m' z e => v_X12_unit_70_93 (hQ m' z (fun h0 => ⟨(e h0).1, h1, (e h0).2⟩)))
  · have f := dSubE (X := (m.1 73 (m.1 70 11).toNatClampNeg).toInt) (Y := 33) (x := m.1 73 (m.1 70 11).toNatClampNeg) (y := (33 : Int32)) rfl (by decide) (by omega) (by omega)
    exact es_emit hs hme h h0 ⟨by decide, fun _ => by omega⟩ (fun m' z e => v_X12_unit_70_93 (hQ m' z (fun h0' => ⟨(e h0').1, h0, (e h0').2⟩)))
/-- what comesOut does within an expression -/
theorem es_out {m : dM} {o p c : Nat} {x : Int32} {Q : dM → Prop} (hs : s ≤ 1) (hme : 420 * (s : Int) ≤ cds me) (h : ES me s m o p c (p + 1)) (hQ : ∀ (m' : dM) (p' c' : Nat), ES me s m' o p' c' (p' + 1) → c' ≤ 1 → (x.toInt = 0 → c' = 0) → tt m' = tt m → flt m' = flt m → m'.1 73 = m.1 73 → m'.1 70 11 = m.1 70 11 → Q m') : c_X12_comesOut_70 2 x m Q := by
  obtain ⟨⟨x1, x2, x3, x4⟩, a2, a3, a4, a5, a6, a7, ⟨q, a8, a8'⟩, a9, a10, a11⟩ := h
  have hl := Wk_len a7
  have h0 : (cds m) = ((cds me).toNat : Int) + q := by omega
  refine co_0 (c0 := (cds me).toNat) (B := 420 * s + 401) (by omega) (o + p) m o p c q (by omega) a6 a7 h0 a8' a9 ?_
  intro m' n' p' c' q' hF b1 b2 b3 b4 b5 b6 b7 b8
  have hl' := Wk_len b2
  have t1 : tt m' = tt m := by unfold tt; rw [hF.2.1 11 (by decide) (by decide)]
  have f1 : flt m' = flt m := by unfold flt; rw [hF.2.1 13 (by decide) (by decide)]
  have u1 : wst m' = wst m := by unfold wst; rw [hF.2.1 15 (by decide) (by decide)]
  have o1 : opn m' = o := by unfold opn; rw [hF.2.1 12 (by decide) (by decide)]; exact a5
  refine hQ m' p' c' ⟨⟨fun k e1 e2 e3 e4 => (hF.1 k e1 e2 e3).trans (x1 k e1 e2 e3 e4), fun j e1 e2 e3 e4 e5 e6 e7 e8 => (hF.2.1 j e7 e8).trans (x2 j e1 e2 e3 e4 e5 e6 e7 e8), fun j hj => ?_, x4.tr (Wz.eq u1)⟩, by omega, by omega, by omega, o1, by rw [← hl'.1]; exact b1, by rw [← hl'.1]; exact b2, ⟨q', by omega, b6⟩, by omega, fun hz => ?_, a11⟩ b3 b4 t1 f1 (hF.1 73 (by decide) (by decide) (by decide)) (hF.2.1 11 (by decide) (by decide))
  · have g1 := hF.2.2 j (by omega)
    have g2 := x3 j hj
    exact ⟨g1.1.trans g2.1, g1.2.trans g2.2⟩
  · have := a10 (by omega)
    omega
theorem ex_204 {m : dM} {o p c : Nat} {Q : dM → Prop} (hs : s ≤ 1) (hme : 420 * (s : Int) ≤ cds me) (hQ : ∀ m', EQ me s m' → Q m') (h : ES me s m o p c (p + 1)) (hz : flt m = 0 → o = 0 ∧ tt me + 1 ≤ tt m) : j_X12_expression_70_204 4 m Q := by
  refine v_X12_expression_70_204 ?_
  refine Wp.deep (es_out hs hme h (fun m' p' c' h' b1 b2 b3 b4 _ _ => hQ m' ⟨h'.z, fun h0 => ?_⟩)) (Nat.le_of_ble_eq_true rfl)
  have hz := hz (by omega)
  have ho := hz.1
  subst ho
  obtain ⟨-, a2, a3, a4, a5, a6, a7, ⟨q, a8, a8'⟩, a9, a10, a11⟩ := h'
  have hl := Wk_len a7
  have hp : p' = 0 := by have := b2 (by decide); omega
  subst hp
  have hb := a10 h0
  refine ⟨by omega, by omega, by omega, by omega, by omega, by omega, by omega, ?_⟩
  rw [show (cds m' - cds me).toNat = q by omega]
  exact gDp_seg a8'
/-- a sign is pushed, and it goes on -/
theorem es_push {m : dM} {o p c cn : Nat} {Q : dM → Prop} (hs : s ≤ 1) (h : ES me s m o p c (p + 1)) (h0 : flt m = 0) (hW : Wk (upd (m.1 104) (o + p) (m.1 73 (m.1 70 11).toNatClampNeg)) (o + p + 1) o (p + 1) cn) (hQ : ∀ m', ES me s m' o (p + 1) cn (p + 1) → Mv 1 m m' ∨ tt m + 1 ≤ tt m' ∨ 0 < flt m' → (flt m' = 0 → tt m' = tt m + 1) → Q m') : (0 ≤ (m.1 70 11).toInt ∧ (m.1 70 11).toInt < 403) ∧ (0 ≤ (m.1 70 50).toInt ∧ (m.1 70 50).toInt < 64) ∧ c_X12_goesOn_70 3 (dSet (dSet m 104 (m.1 70 50).toNatClampNeg (m.1 73 (m.1 70 11).toNatClampNeg)) 70 50 ((m.1 70 50) + (1 : Int32))) Q := by
  obtain ⟨⟨x1, x2, x3, x4⟩, a2, a3, a4, a5, a6, a7, ⟨q, a8, a8'⟩, a9, a10, a11⟩ := h
  have hl := Wk_len a7
  have ew : (m.1 70 50).toInt = wtg m := rfl
  have et : (m.1 70 11).toInt = tt m := rfl
  have eW : (m.1 70 50).toNatClampNeg = o + p := by
    have := d_cl (x := m.1 70 50) (by omega)
    omega
  have fw := dAddE (X := wtg m) (Y := 1) (x := m.1 70 50) (y := (1 : Int32)) rfl (by decide) (by omega) (by omega)
  have hb := a10 h0
  refine ⟨by omega, by omega, ?_⟩
  rw [eW]
  refine Wp.deep (p_goesOn (m := dSet (dSet m 104 (o + p) (m.1 73 (m.1 70 11).toNatClampNeg)) 70 50 ((m.1 70 50) + (1 : Int32))) a2 a4 (fun m3 h3 => ?_)) (Nat.le_of_ble_eq_true rfl)
  obtain ⟨k1, k2, k3, k4, k5⟩ := h3
  have k4 : (flt m = 0 ∧ flt m3 = 0 ∧ tt m3 = tt m + 1) ∨ (0 < flt m3 ∧ tt m ≤ tt m3 ∧ tt m3 ≤ tt m + 1) := k4
  have k5 : Wz m m3 := k5
  have hf3 : 0 ≤ flt m3 := by rcases k4 with z | z <;> omega
  have ht3 : tt m ≤ tt m3 := by rcases k4 with z | z <;> omega
  have e46 : m3.1 70 46 = m.1 70 46 := k2 46 (by decide) (by decide) (by decide) (by decide) (by decide)
  have c3 : cds m3 = cds m := by unfold cds; rw [e46]
  refine hQ m3 ⟨⟨fun k e1 e2 e3 e4 => (k1 k e1).trans (by rw [dSet_k e1, dSet_k e4]; exact x1 k e1 e2 e3 e4), fun j e1 e2 e3 e4 e5 e6 e7 e8 => (k2 j e1 e3 e4 e5 e6).trans (by rw [dSet_j e8, dSet_k (by decide)]; exact x2 j e1 e2 e3 e4 e5 e6 e7 e8), fun j hj => ?_, x4.tr k5⟩, k3, by omega, hf3, ?_, ?_, ?_, ⟨q, by omega, gDp_congr (fun j _ _ => by rw [k1 102 (by decide), k1 103 (by decide)]; exact ⟨rfl, rfl⟩) a8'⟩, by omega, fun hz => ?_, a11⟩ ?_ (fun hz => by rcases k4 with z | z <;> omega)
  · rw [k1 102 (by decide), k1 103 (by decide)]; exact x3 j hj
  · unfold opn; rw [k2 12 (by decide) (by decide) (by decide) (by decide) (by decide)]; exact a5
  · unfold wtg; rw [k2 50 (by decide) (by decide) (by decide) (by decide) (by decide)]; show (m.1 70 50 + (1 : Int32)).toInt = _; omega
  · rw [k1 104 (by decide), dSet_k (by decide), dSet_f, show o + (p + 1) = o + p + 1 by omega]; exact hW
  · rcases k4 with z | z <;> omega
  · right
    rcases k4 with z | z <;> omega
end EXPR
end
section
/-! THE REFERENCE's read, 4: an expression from its start to its end (by hand) -/
def mu (m : dM) (a b : Int) (n : Nat) : Prop := (flt m = 0 ∧ 8 * (401 - tt m) + a < n) ∨ (0 < flt m ∧ b < n)
section EXM
variable {me : dM} {s : Nat}
theorem ex_main {Q : dM → Prop} (hs : s ≤ 1) (hme : 420 * (s : Int) ≤ cds me) (hQ : ∀ m', EQ me s m' → Q m') : ∀ n : Nat,
    (∀ (x1 : Int32) (m : dM) (o p c : Nat), x1.toInt = 0 → ES me s m o p c p → mu m 6 3 n → j_X12_expression_70_12 4 x1 (1 : Int32) m Q) ∧
    (∀ (x1 : Int32) (m : dM) (o p c : Nat), x1.toInt = 0 → ES me s m o p c p → mu m 5 3 n → j_X12_expression_70_23 4 x1 m Q) ∧
    (∀ (x1 : Int32) (m : dM) (o p c : Nat), x1.toInt = 0 → ES me s m o p c p → o ≤ 6 → (flt m = 0 → o ≤ 5) → mu m 4 4 n → j_X12_expression_70_46 4 x1 m Q) ∧
    (∀ (x1 : Int32) (m : dM) (o p c : Nat), x1.toInt = 0 → ES me s m o p c (p + 1) → (flt m = 0 → tt me + 1 ≤ tt m) → mu m 6 3 n → j_X12_expression_70_96 4 x1 m Q) ∧
    (∀ (x1 : Int32) (m : dM) (o p c : Nat), x1.toInt = 0 → ES me s m o p c (p + 1) → (flt m = 0 → tt me + 1 ≤ tt m) → mu m 5 2 n → j_X12_expression_70_145 4 x1 m Q) ∧
    (∀ (x1 : Int32) (m : dM) (o p c : Nat), x1.toInt = 0 → ES me s m o p c (p + 1) → flt m = 0 → tt me + 1 ≤ tt m → ((m.1 73 (m.1 70 11).toNatClampNeg).toInt = 8 ∨ (m.1 73 (m.1 70 11).toNatClampNeg).toInt = 9 ∨ (m.1 73 (m.1 70 11).toNatClampNeg).toInt = 10 ∨ (m.1 73 (m.1 70 11).toNatClampNeg).toInt = 15) → mu m 4 0 n → j_X12_expression_70_181 4 x1 m Q) := by
  intro n
  induction n with
  | zero =>
    refine ⟨fun x1 m o p c hx h hμ => ?_, fun x1 m o p c hx h hμ => ?_, fun x1 m o p c hx h h6 h5 hμ => ?_, fun x1 m o p c hx h ht hμ => ?_, fun x1 m o p c hx h ht hμ => ?_, fun x1 m o p c hx h h0 ht hk hμ => ?_⟩ <;> (have := h.2.1; exfalso; rcases hμ with q | q <;> omega)
  | succ n ih =>
    refine ⟨fun x1 m o p c hx h hμ => ?_, fun x1 m o p c hx h hμ => ?_, fun x1 m o p c hx h h6 h5 hμ => ?_, fun x1 m o p c hx h ht hμ => ?_, fun x1 m o p c hx h ht hμ => ?_, fun x1 m o p c hx h h0 ht hk hμ => ?_⟩
    · -- 12
      have bad : flt m ≠ 0 → j_X12_expression_70_272 4 m Q := fun hf => v_X12_expression_70_272 (hQ m ⟨h.z, fun h0 => absurd h0 hf⟩)
      refine v_X12_expression_70_12 ⟨fun q => absurd q (by decide), fun _ => ⟨fun hf => bad hf, fun hf => ?_⟩⟩
      have hf : flt m = 0 := hf
      refine ih.2.1 x1 m o p c hx h ?_
      left
      rcases hμ with q | q <;> omega
    · -- 23
      refine v_X12_expression_70_23 ?_
      refine Wp.deep (p_is h.2.1 (fun h1 h2 => ⟨fun q => absurd q (by decide), fun _ => ?_⟩) (fun h1 => ⟨fun _ => ?_, fun q => absurd rfl q⟩)) (Nat.le_of_ble_eq_true rfl)
      · have hb := h.2.2.2.2.2.2.2.2.2.1 h1
        have eo : (m.1 70 12).toInt = o := h.2.2.2.2.1
        refine ⟨fun hne => ?_, fun he => ?_⟩
        · refine ih.2.2.1 x1 m o p c hx h (by omega) (fun _ => by omega) ?_
          rcases hμ with q | q
          · left; omega
          · right; omega
        · refine Wp.deep (p_fail h.2.1 (by decide) (fun m3 h3 hf3 => ?_)) (Nat.le_of_ble_eq_true rfl)
          refine ih.2.2.1 x1 m3 o p c hx (h.mv h3 (by decide)) (by omega) (fun q => by exfalso; omega) ?_
          right
          have := h.2.1
          rcases hμ with q | q <;> omega
      · refine p_unit hs hme h (fun m2 z e => ⟨fun hc => ?_, fun hc => ?_⟩)
        · have hc : flt m2 ≤ 0 := hc
          have h0 : flt m2 = 0 := by have := z.2.2.2.1; omega
          have e := e h0
          refine ih.2.2.2.1 x1 m2 o p c hx e.1 (fun _ => by have := h.2.2.1; omega) ?_
          left
          have := h.2.1
          rcases hμ with q | q <;> omega
        · have hc : 0 < flt m2 := hc
          exact hQ m2 ⟨z, fun h0 => by exfalso; omega⟩
    · -- 46
      obtain ⟨⟨x1', x2', x3', x4'⟩, a2, a3, a4, a5, a6, a7, ⟨q, a8, a8'⟩, a9, a10, a11⟩ := h
      have eo : (m.1 70 12).toInt = o := a5
      have fo := dAddE (X := (o : Int)) (Y := 1) (x := m.1 70 12) (y := (1 : Int32)) eo (by decide) (by omega) (by omega)
      refine v_X12_expression_70_46 ?_
      refine Wp.deep (p_goesOn (m := dSet m 70 12 ((m.1 70 12) + (1 : Int32))) a2 a4 (fun m1 h1 => ?_)) (Nat.le_of_ble_eq_true rfl)
      obtain ⟨k1, k2, k3, k4, k5⟩ := h1
      have k4 : (flt m = 0 ∧ flt m1 = 0 ∧ tt m1 = tt m + 1) ∨ (0 < flt m1 ∧ tt m ≤ tt m1 ∧ tt m1 ≤ tt m + 1) := k4
      have k5 : Wz m m1 := k5
      have hf1 : 0 ≤ flt m1 := by rcases k4 with z | z <;> omega
      have ht1 : tt m ≤ tt m1 := by rcases k4 with z | z <;> omega
      have hl := Wk_len a7
      have e50 : m1.1 70 50 = m.1 70 50 := k2 50 (by decide) (by decide) (by decide) (by decide) (by decide)
      have ew : (m1.1 70 50).toInt = (o + p : Nat) := by rw [e50]; exact a6
      have eW : (m1.1 70 50).toNatClampNeg = o + p := by
        have := d_cl (x := m1.1 70 50) (by omega)
        omega
      have fw := dAddE (X := ((o + p : Nat) : Int)) (Y := 1) (x := m1.1 70 50) (y := (1 : Int32)) ew (by decide) (by omega) (by omega)
      refine ⟨by omega, ?_⟩
      rw [eW]
      have e46 : m1.1 70 46 = m.1 70 46 := k2 46 (by decide) (by decide) (by decide) (by decide) (by decide)
      have c1 : cds (dSet (dSet m1 104 (o + p) (6 : Int32)) 70 50 ((m1.1 70 50) + (1 : Int32))) = cds m := by show (m1.1 70 46).toInt = _; rw [e46]; rfl
      have f1 : flt (dSet (dSet m1 104 (o + p) (6 : Int32)) 70 50 ((m1.1 70 50) + (1 : Int32))) = flt m1 := rfl
      have t1 : tt (dSet (dSet m1 104 (o + p) (6 : Int32)) 70 50 ((m1.1 70 50) + (1 : Int32))) = tt m1 := rfl
      refine ih.2.1 x1 _ (o + 1) p 0 hx ⟨⟨fun k e1 e2 e3 e4 => by rw [dSet_k e1, dSet_k e4, k1 k e1, dSet_k e1]; exact x1' k e1 e2 e3 e4, fun j e1 e2 e3 e4 e5 e6 e7 e8 => by rw [dSet_j e8, dSet_k (by decide), k2 j e1 e3 e4 e5 e6, dSet_j e2]; exact x2' j e1 e2 e3 e4 e5 e6 e7 e8, fun j hj => ?_, x4'.tr k5⟩, by omega, by omega, by omega, ?_, ?_, ?_, ⟨q, by omega, gDp_congr (fun j _ _ => ?_) a8'⟩, by omega, fun hz => ?_, by omega⟩ ?_
      · rw [dSet_k (by decide), dSet_k (by decide), dSet_k (by decide), dSet_k (by decide), k1 102 (by decide), k1 103 (by decide)]; exact x3' j hj
      · show (m1.1 70 12).toInt = _
        rw [k2 12 (by decide) (by decide) (by decide) (by decide) (by decide)]
        show (m.1 70 12 + (1 : Int32)).toInt = _
        omega
      · show (m1.1 70 50 + (1 : Int32)).toInt = _
        omega
      · rw [dSet_k (by decide), dSet_f, show o + 1 + p = o + p + 1 by omega]
        refine Or.inl ⟨by unfold upd; rw [if_pos rfl]; decide, rfl, o, c, rfl, Wk_congr (fun j hj => ?_) a7⟩
        unfold upd
        rw [if_neg (by omega), k1 104 (by decide)]
        rfl
      · rw [dSet_k (by decide), dSet_k (by decide), dSet_k (by decide), dSet_k (by decide), k1 102 (by decide), k1 103 (by decide)]; exact ⟨rfl, rfl⟩
      · have h0 : flt m = 0 := by rcases k4 with z | z <;> omega
        have := a10 h0
        have := h5 h0
        omega
      · unfold mu
        rw [f1, t1]
        rcases k4 with z | z
        · left; rcases hμ with q | q <;> omega
        · right; rcases hμ with q | q <;> omega
    · -- 96
      have go : j_X12_expression_70_145 4 x1 m Q := by
        refine ih.2.2.2.2.1 x1 m o p c hx h ht ?_
        rcases hμ with q | q
        · left; omega
        · right; omega
      refine v_X12_expression_70_96 ?_
      refine Wp.deep (p_is h.2.1 (fun h1 h2 => ⟨fun q => absurd q (by decide), fun _ => ⟨fun _ => go, fun ho => ?_⟩⟩) (fun h1 => ⟨fun _ => go, fun q => absurd rfl q⟩)) (Nat.le_of_ble_eq_true rfl)
      have eo : (m.1 70 12).toInt = o := h.2.2.2.2.1
      refine Wp.deep (es_out hs hme h (fun m2 p' c' h' b1 b2 b3 b4 _ _ => ?_)) (Nat.le_of_ble_eq_true rfl)
      have hc' : c' = 0 := b2 (by decide)
      subst hc'
      obtain ⟨⟨x1', x2', x3', x4'⟩, a2, a3, a4, a5, a6, a7, ⟨q, a8, a8'⟩, a9, a10, a11⟩ := h'
      obtain ⟨o1, rfl⟩ : ∃ o1, o = o1 + 1 := ⟨o - 1, by omega⟩
      have eW : o1 + 1 + p' = (o1 + p') + 1 := by omega
      rw [eW] at a7
      have a7' := a7
      unfold Wk at a7'
      rcases a7' with ⟨-, -, o2, c2, d, w⟩ | ⟨-, b, -⟩ | ⟨-, b, -⟩
      · have ho2 : o2 = o1 := by omega
        subst ho2
        have ew : (m2.1 70 50).toInt = (o2 + 1 + p' : Nat) := a6
        have e12 : (m2.1 70 12).toInt = (o2 + 1 : Nat) := a5
        have fw := dSubE (X := ((o2 + 1 + p' : Nat) : Int)) (Y := 1) (x := m2.1 70 50) (y := (1 : Int32)) ew (by decide) (by omega) (by omega)
        have fo := dSubE (X := ((o2 + 1 : Nat) : Int)) (Y := 1) (x := m2.1 70 12) (y := (1 : Int32)) e12 (by decide) (by omega) (by omega)
        have hM : ES me s (dSet (dSet m2 70 50 ((m2.1 70 50) - (1 : Int32))) 70 12 ((m2.1 70 12) - (1 : Int32))) o2 p' c2 (p' + 1) := by
          refine ⟨⟨fun k e1 e2 e3 e4 => by rw [dSet_k e1, dSet_k e1]; exact x1' k e1 e2 e3 e4, fun j e1 e2 e3 e4 e5 e6 e7 e8 => by rw [dSet_j e2, dSet_j e8]; exact x2' j e1 e2 e3 e4 e5 e6 e7 e8, fun j hj => x3' j hj, x4'⟩, a2, a3, a4, ?_, ?_, w, ⟨q, a8, gDp_congr (g := m2.1) (fun j _ _ => ⟨rfl, rfl⟩) a8'⟩, a9, fun hz => ?_, by omega⟩
          · show (m2.1 70 12 - (1 : Int32)).toInt = _; omega
          · show (m2.1 70 50 - (1 : Int32)).toInt = _; omega
          · have := a10 hz
            refine ⟨this.1, by omega⟩
        refine Wp.deep (p_goesOn (m := dSet (dSet m2 70 50 ((m2.1 70 50) - (1 : Int32))) 70 12 ((m2.1 70 12) - (1 : Int32))) a2 a4 (fun m3 h3 => ?_)) (Nat.le_of_ble_eq_true rfl)
        have k4 : (flt m2 = 0 ∧ flt m3 = 0 ∧ tt m3 = tt m2 + 1) ∨ (0 < flt m3 ∧ tt m2 ≤ tt m3 ∧ tt m3 ≤ tt m2 + 1) := h3.2.2.2.1
        refine ih.2.2.2.1 x1 m3 o2 p' c2 hx (hM.mv h3 (by decide)) (fun h0 => ?_) ?_
        · rcases k4 with z | z
          · have := ht (by omega); omega
          · omega
        · unfold mu
          rcases k4 with z | z
          · left; rcases hμ with q | q <;> omega
          · right; rcases hμ with q | q <;> omega
      · exact absurd b (by decide)
      · exact absurd b (by decide)
    · -- 145
      have nx : flt m = 0 → ((m.1 73 (m.1 70 11).toNatClampNeg).toInt = 8 ∨ (m.1 73 (m.1 70 11).toNatClampNeg).toInt = 9 ∨ (m.1 73 (m.1 70 11).toNatClampNeg).toInt = 10 ∨ (m.1 73 (m.1 70 11).toNatClampNeg).toInt = 15) → j_X12_expression_70_181 4 x1 m Q := fun h0 hk => by
        refine ih.2.2.2.2.2 x1 m o p c hx h h0 (ht h0) hk ?_
        rcases hμ with q | q
        · left; omega
        · right; omega
      have e8 := ti_8
      have e9 := ti_9
      have e10 := ti_10
      have e15 : (15 : Int32).toInt = 15 := by decide
      refine v_X12_expression_70_145 ?_
      refine Wp.deep (p_is h.2.1 (fun h1 h2 => ⟨fun _ => nx h1 (by omega), fun q => absurd q (by decide)⟩) (fun _ => ⟨fun q => absurd rfl q, fun _ => ?_⟩)) (Nat.le_of_ble_eq_true rfl)
      refine Wp.deep (p_is h.2.1 (fun h1 h2 => ⟨fun _ => nx h1 (by omega), fun q => absurd q (by decide)⟩) (fun _ => ⟨fun q => absurd rfl q, fun _ => ?_⟩)) (Nat.le_of_ble_eq_true rfl)
      refine Wp.deep (p_is h.2.1 (fun h1 h2 => ⟨fun _ => nx h1 (by omega), fun q => absurd q (by decide)⟩) (fun _ => ⟨fun q => absurd rfl q, fun _ => ?_⟩)) (Nat.le_of_ble_eq_true rfl)
      refine Wp.deep (p_is h.2.1 (fun h1 h2 => ⟨fun q => absurd q (by decide), fun _ => nx h1 (by omega)⟩) (fun _ => ⟨fun _ => ⟨fun ho => ?_, fun ho => ?_⟩, fun q => absurd rfl q⟩)) (Nat.le_of_ble_eq_true rfl)
      · have eo : (m.1 70 12).toInt = o := h.2.2.2.2.1
        exact ex_204 hs hme hQ h (fun h0 => ⟨by omega, ht h0⟩)
      · refine Wp.deep (p_fail h.2.1 (by decide) (fun m5 h5 hf5 => ?_)) (Nat.le_of_ble_eq_true rfl)
        exact ex_204 hs hme hQ (h.mv h5 (by decide)) (fun h0 => by exfalso; omega)
    · -- 181
      have e8 := ti_8
      have e10 := ti_10
      have e15 : (15 : Int32).toInt = 15 := by decide
      have again : ∀ (m3 : dM) (o' p' c' : Nat), ES me s m3 o' p' c' p' → (flt m3 = 0 → tt m3 = tt m + 1) → j_X12_expression_70_12 4 x1 (1 : Int32) m3 Q := fun m3 o' p' c' h3 t3 => by
        refine ih.1 x1 m3 o' p' c' hx h3 ?_
        unfold mu
        have := h3.2.2.2.1
        have := h.2.1
        by_cases hz : flt m3 = 0
        · left; have := t3 hz; rcases hμ with q | q <;> omega
        · right; rcases hμ with q | q <;> omega
      have strong : ((m.1 73 (m.1 70 11).toNatClampNeg).toInt = 10 ∨ (m.1 73 (m.1 70 11).toNatClampNeg).toInt = 15) → ∀ x : Int32, c_X12_comesOut_70 3 x m (fun m2 => (0 ≤ (m2.1 70 11).toInt ∧ (m2.1 70 11).toInt < 403) ∧ (0 ≤ (m2.1 70 50).toInt ∧ (m2.1 70 50).toInt < 64) ∧ c_X12_goesOn_70 3 (dSet (dSet m2 104 (m2.1 70 50).toNatClampNeg (m2.1 73 (m2.1 70 11).toNatClampNeg)) 70 50 ((m2.1 70 50) + (1 : Int32))) (fun m3 => j_X12_expression_70_12 4 x1 (1 : Int32) m3 Q)) := fun hk2 x => by
        refine Wp.deep (es_out hs hme h (fun m2 p' c' h' b1 b2 b3 b4 b5 b6 => ?_)) (Nat.le_of_ble_eq_true rfl)
        refine es_push (cn := 2) hs h' (by omega) ?_ (fun m3 h3 _ t3 => again m3 _ _ _ h3 (fun hz => by have := t3 hz; omega))
        rw [b5, b6]
        refine Or.inr (Or.inr ⟨by unfold upd; rw [if_pos rfl]; exact hk2, rfl, p', c', rfl, b1, Wk_congr (fun j hj => ?_) h'.2.2.2.2.2.2.1⟩)
        unfold upd
        rw [if_neg (by omega)]
      refine v_X12_expression_70_181 ?_
      refine Wp.deep (p_is h.2.1 (fun h1 h2 => ⟨fun _ => strong (by omega) _, fun q => absurd q (by decide)⟩) (fun g1 => ⟨fun q => absurd rfl q, fun _ => ?_⟩)) (Nat.le_of_ble_eq_true rfl)
      refine Wp.deep (p_is h.2.1 (fun h1 h2 => ⟨fun q => absurd q (by decide), fun _ => strong (by omega) _⟩) (fun g2 => ⟨fun _ => ?_, fun q => absurd rfl q⟩)) (Nat.le_of_ble_eq_true rfl)
      have hk2 : (m.1 73 (m.1 70 11).toNatClampNeg).toInt = 8 ∨ (m.1 73 (m.1 70 11).toNatClampNeg).toInt = 9 := by
        rcases hk with q | q | q | q
        · exact Or.inl q
        · exact Or.inr q
        · exact absurd ⟨h0, by omega⟩ g1
        · exact absurd ⟨h0, by omega⟩ g2
      refine Wp.deep (es_out hs hme h (fun m2 p' c' h' b1 b2 b3 b4 b5 b6 => ?_)) (Nat.le_of_ble_eq_true rfl)
      have hc' : c' = 0 := b2 (by decide)
      subst hc'
      refine es_push (cn := 1) hs h' (by omega) ?_ (fun m3 h3 _ t3 => again m3 _ _ _ h3 (fun hz => by have := t3 hz; omega))
      rw [b5, b6]
      refine Or.inr (Or.inl ⟨by unfold upd; rw [if_pos rfl]; exact hk2, rfl, p', rfl, Wk_congr (fun j hj => ?_) h'.2.2.2.2.2.2.1⟩)
      unfold upd
      rw [if_neg (by omega)]
theorem p_expression {Q : dM → Prop} (hs : s ≤ 1) (ht : 0 ≤ tt me ∧ tt me ≤ 400) (hf : flt me = 0) (ho : opn me = 0) (hc : 420 * (s : Int) ≤ cds me ∧ cds me ≤ 420 * s + tt me) (hQ : ∀ m', EQ me s m' → Q m') : c_X12_expression_70 4 me Q := by
  refine v_X12_expression_70 ?_
  have hES : ES me s (dSet me 70 50 (0 : Int32)) 0 0 0 0 := by
    have c1 : cds (dSet me 70 50 (0 : Int32)) = cds me := rfl
    have f1 : flt (dSet me 70 50 (0 : Int32)) = flt me := rfl
    have t1 : tt (dSet me 70 50 (0 : Int32)) = tt me := rfl
    refine ⟨⟨fun k e1 _ _ _ => dSet_k e1, fun j _ _ _ _ _ _ _ e8 => dSet_j e8, fun j _ => ⟨rfl, rfl⟩, Wz.eq rfl⟩, by omega, by omega, by omega, ho, rfl, ⟨rfl, rfl, rfl⟩, ⟨0, by omega, rfl⟩, by omega, fun _ => ⟨by omega, by omega⟩, by omega⟩
  refine (ex_main hs hc.1 hQ 4000).1 _ _ 0 0 0 ho hES ?_
  left
  have f1 : flt (dSet me 70 50 (0 : Int32)) = flt me := rfl
  have t1 : tt (dSet me 70 50 (0 : Int32)) = tt me := rfl
  omega
end EXM
end
section
/-! THE REFERENCE's read, 5: a law (by hand) -/
theorem gSeg_congr2 {g g' : gM} : ∀ {n p t : Nat}, (∀ j, p ≤ j → j < p + n → g' 102 j = g 102 j ∧ g' 103 j = g 103 j) → gSeg g n p t → gSeg g' n p t
  | 0, _, _, _, _ => trivial
  | n + 1, p, t, hc, h => by
    have e := hc p (Nat.le_refl _) (by omega)
    have hc' : ∀ j, p + 1 ≤ j → j < p + 1 + n → g' 102 j = g 102 j ∧ g' 103 j = g 103 j := fun j h1 h2 => hc j (by omega) (by omega)
    rcases h with ⟨a, b, c⟩ | ⟨a, b, c⟩
    · left; rw [e.1, e.2]; exact ⟨a, b, gSeg_congr2 hc' c⟩
    · right; rw [e.1]; exact ⟨a, b, gSeg_congr2 hc' c⟩
theorem gPc_congr {g g' : gM} {s : Nat} {a b c : Int} (hc : ∀ j : Nat, (j : Int) < c → g' 102 j = g 102 j ∧ g' 103 j = g 103 j) (hb : b ≤ c) (h : gPc g s a b) : gPc g' s a b := by
  obtain ⟨h1, h2, h3, h4, h5⟩ := h
  exact ⟨h1, h2, h3, h4, gSeg_congr2 (fun j e1 e2 => hc j (by omega)) h5⟩
def PW (m : dM) (s : Nat) (a b : Int) : Prop := gPc m.1 s a b ∧ b ≤ cds m
def BW (m : dM) (s j : Nat) : Prop := ((m.1 97 j).toInt ≠ 0 → PW m s (m.1 98 j).toInt (m.1 99 j).toInt ∧ PW m s (m.1 99 j).toInt (m.1 100 j).toInt) ∧ PW m s (m.1 100 j).toInt (m.1 101 j).toInt
theorem PW.up {m m' : dM} {s : Nat} {a b : Int} (hc : ∀ j : Nat, (j : Int) < cds m → m'.1 102 j = m.1 102 j ∧ m'.1 103 j = m.1 103 j) (hd : cds m ≤ cds m') (h : PW m s a b) : PW m' s a b := ⟨gPc_congr hc h.2 h.1, Int.le_trans h.2 hd⟩
theorem BW.up {m m' : dM} {s j : Nat} (hc : ∀ j : Nat, (j : Int) < cds m → m'.1 102 j = m.1 102 j ∧ m'.1 103 j = m.1 103 j) (hd : cds m ≤ cds m') (hj : ∀ k : Nat, 97 ≤ k → k ≤ 101 → m'.1 k j = m.1 k j) (h : BW m s j) : BW m' s j := by
  unfold BW at h ⊢
  rw [hj 97 (by omega) (by omega), hj 98 (by omega) (by omega), hj 99 (by omega) (by omega), hj 100 (by omega) (by omega), hj 101 (by omega) (by omega)]
  exact ⟨fun q => ⟨(h.1 q).1.up hc hd, (h.1 q).2.up hc hd⟩, h.2.up hc hd⟩
def LF (mb : dM) (s : Nat) (m : dM) : Prop := (∀ k : Nat, k ≠ 70 → k < 97 ∨ 104 < k → m.1 k = mb.1 k) ∧ (∀ j : Nat, j ≠ 11 → j ≠ 12 → j ≠ 13 → j ≠ 14 → j ≠ 15 → j ≠ 16 → j ≠ 40 → j ≠ 46 → j ≠ 50 → m.1 70 j = mb.1 70 j) ∧ (∀ k j : Nat, 97 ≤ k → k ≤ 101 → ((j : Int) < brs mb ∨ 130 * s + 130 ≤ j) → m.1 k j = mb.1 k j) ∧ (∀ j : Nat, ((j : Int) < cds mb ∨ 420 * s + 402 ≤ j) → m.1 102 j = mb.1 102 j ∧ m.1 103 j = mb.1 103 j) ∧ Wz mb m
theorem LF.mv {mb m m' : dM} {s : Nat} {k : Int} (h : LF mb s m) (hm : Mv k m m') : LF mb s m' := by
  obtain ⟨h1, h2, h3, h4, h5⟩ := h
  obtain ⟨k1, k2, k3, k4, k5⟩ := hm
  refine ⟨fun k e1 e2 => (k1 k e1).trans (h1 k e1 e2), fun j e1 e2 e3 e4 e5 e6 e7 e8 e9 => (k2 j e1 e3 e4 e5 e6).trans (h2 j e1 e2 e3 e4 e5 e6 e7 e8 e9), fun k j e1 e2 e3 => ?_, fun j e1 => ?_, h5.tr k5⟩
  · rw [k1 k (by omega)]; exact h3 k j e1 e2 e3
  · rw [k1 102 (by decide), k1 103 (by decide)]; exact h4 j e1
theorem LF.xf {mb m m' : dM} {s : Nat} (h : LF mb s m) (hc : cds mb ≤ cds m) (hx : XF m s m') : LF mb s m' := by
  obtain ⟨h1, h2, h3, h4, h5⟩ := h
  obtain ⟨k1, k2, k3, k4⟩ := hx
  refine ⟨fun k e1 e2 => (k1 k e1 (by omega) (by omega) (by omega)).trans (h1 k e1 e2), fun j e1 e2 e3 e4 e5 e6 e7 e8 e9 => (k2 j e1 e2 e3 e4 e5 e6 e8 e9).trans (h2 j e1 e2 e3 e4 e5 e6 e7 e8 e9), fun k j e1 e2 e3 => ?_, fun j e1 => ?_, h5.tr k4⟩
  · rw [k1 k (by omega) (by omega) (by omega) (by omega)]; exact h3 k j e1 e2 e3
  · have g1 := k3 j (by omega)
    have g2 := h4 j e1
    exact ⟨g1.1.trans g2.1, g1.2.trans g2.2⟩
/-- a store into the branch that is being told -/
theorem LF.br {mb m : dM} {s k : Nat} {v : Int32} (h : LF mb s m) (hk : 97 ≤ k) (hk2 : k ≤ 101) (hb : brs mb ≤ brs m) (hb0 : 0 ≤ brs m) (hb2 : brs m < 130 * s + 130) : LF mb s (dSet m k (m.1 70 40).toNatClampNeg v) := by
  obtain ⟨h1, h2, h3, h4, h5⟩ := h
  have e : ((m.1 70 40).toNatClampNeg : Int) = brs m := d_cl hb0
  refine ⟨fun a e1 e2 => by rw [dSet_k (by omega)]; exact h1 a e1 e2, fun j e1 e2 e3 e4 e5 e6 e7 e8 e9 => by rw [dSet_k (by omega)]; exact h2 j e1 e2 e3 e4 e5 e6 e7 e8 e9, fun a j e1 e2 e3 => by rw [dSet_j (by omega)]; exact h3 a j e1 e2 e3, fun j e1 => by rw [dSet_k (by omega), dSet_k (by omega)]; exact h4 j e1, h5.tr (Wz.eq (by unfold wst; rw [dSet_k (by omega)]))⟩
/-- what a call of an expression that has failed already does: nothing -/
theorem p_exprBad {m : dM} {Q : dM → Prop} (hf : 0 < flt m) (hQ : Q (dSet m 70 50 (0 : Int32))) : c_X12_expression_70 4 m Q := by
  refine v_X12_expression_70 ?_
  have e : flt (dSet m 70 50 (0 : Int32)) = flt m := rfl
  exact v_X12_expression_70_12 ⟨fun q => absurd q (by decide), fun _ => ⟨fun _ => v_X12_expression_70_272 hQ, fun h0 => by have h0 : flt m = 0 := h0; exfalso; omega⟩⟩
/-- within a law: what holds, with 'e' more tokens gone by than four for each branch -/
def LSt (mb : dM) (s : Nat) (e : Int) (bm : Int) (m : dM) : Prop := LF mb s m ∧ (0 ≤ tt m ∧ tt m ≤ 400) ∧ tt mb ≤ tt m ∧ 0 ≤ flt m ∧ (brs mb ≤ brs m ∧ brs m ≤ 130 * s + bm) ∧ (flt m = 0 → flt mb = 0 ∧ opn m = 0 ∧ (cds mb ≤ cds m ∧ cds m ≤ 420 * s + tt m) ∧ 4 * (brs m - 130 * s) + e ≤ tt m ∧ ∀ j : Nat, brs mb ≤ j → (j : Int) < brs m → BW m s j)
theorem LSt.mv {mb m m' : dM} {s : Nat} {e bm : Int} {k : Int} (h : LSt mb s e bm m) (hm : Mv k m m') (hk : 0 ≤ k) : LSt mb s (e + k) bm m' := by
  obtain ⟨h1, h2, h3, h4, h5, h6⟩ := h
  have hm' := hm
  obtain ⟨k1, k2, k3, k4, k5⟩ := hm
  have b1 : brs m' = brs m := by unfold brs; rw [k2 40 (by decide) (by decide) (by decide) (by decide) (by decide)]
  have c1 : cds m' = cds m := by unfold cds; rw [k2 46 (by decide) (by decide) (by decide) (by decide) (by decide)]
  have o1 : opn m' = opn m := by unfold opn; rw [k2 12 (by decide) (by decide) (by decide) (by decide) (by decide)]
  refine ⟨h1.mv hm', k3, by rcases k4 with q | q <;> omega, by rcases k4 with q | q <;> omega, by omega, fun h0 => ?_⟩
  have z : flt m = 0 ∧ tt m' = tt m + k := by rcases k4 with q | q <;> omega
  have h6 := h6 z.1
  refine ⟨h6.1, by omega, by omega, by omega, fun j e1 e2 => ?_⟩
  exact (h6.2.2.2.2 j e1 (by omega)).up (fun j _ => by rw [k1 102 (by decide), k1 103 (by decide)]; exact ⟨rfl, rfl⟩) (by omega) (fun a e3 e4 => by rw [k1 a (by omega)])
/-- an expression told within a law -/
theorem LSt.ex {mb m : dM} {s : Nat} {e bm : Int} {Q : dM → Prop} (hs : s ≤ 1) (hcb : 420 * (s : Int) ≤ cds mb) (h : LSt mb s e bm m) (hQ : ∀ m', LSt mb s (e + 1) bm m' → (∀ k : Nat, 97 ≤ k → k ≤ 101 → m'.1 k = m.1 k) → brs m' = brs m → tt m ≤ tt m' → (flt m' = 0 → flt m = 0 ∧ cds m ≤ cds m' ∧ gPc m'.1 s (cds m) (cds m') ∧ (∀ j : Nat, (j : Int) < cds m → m'.1 102 j = m.1 102 j ∧ m'.1 103 j = m.1 103 j)) → Q m') : c_X12_expression_70 4 m Q := by
  by_cases h0 : flt m = 0
  · have h6 := h.2.2.2.2.2 h0
    refine p_expression hs h.2.1 h0 h6.2.1 ⟨by omega, h6.2.2.1.2⟩ (fun m' hq => ?_)
    obtain ⟨⟨x, z2, z3, z4, z5, z6⟩, hz⟩ := hq
    have b1 : brs m' = brs m := by unfold brs; rw [x.2.1 40 (by decide) (by decide) (by decide) (by decide) (by decide) (by decide) (by decide) (by decide)]
    refine hQ m' ⟨h.1.xf h6.2.2.1.1 x, z2, by have := h.2.2.1; omega, z4, by have := h.2.2.2.2.1; omega, fun h0' => ?_⟩ (fun k e1 e2 => x.1 k (by omega) (by omega) (by omega) (by omega)) b1 z3 (fun h0' => ⟨h0, z5, (hz h0').2.2.2, fun j e1 => x.2.2.1 j (Or.inl e1)⟩)
    have hz := hz h0'
    refine ⟨h6.1, hz.1, by omega, by omega, fun j e1 e2 => ?_⟩
    exact (h6.2.2.2.2 j e1 (by omega)).up (fun j e3 => x.2.2.1 j (Or.inl e3)) z5 (fun a e3 e4 => by rw [x.1 a (by omega) (by omega) (by omega) (by omega)])
  · have hf : 0 < flt m := by have := h.2.2.2.1; omega
    refine p_exprBad hf ?_
    have f1 : flt (dSet m 70 50 (0 : Int32)) = flt m := rfl
    obtain ⟨⟨h1, h2, h3, h4, h5⟩, t2, t3, t4, t5, t6⟩ := h
    exact hQ _ ⟨⟨fun k e1 e2 => by rw [dSet_k e1]; exact h1 k e1 e2, fun j e1 e2 e3 e4 e5 e6 e7 e8 e9 => by rw [dSet_j e9]; exact h2 j e1 e2 e3 e4 e5 e6 e7 e8 e9, fun k j e1 e2 e3 => by rw [dSet_k (by omega)]; exact h3 k j e1 e2 e3, fun j e1 => h4 j e1, h5⟩, t2, t3, t4, t5, fun q => by exfalso; omega⟩ (fun k e1 e2 => dSet_k (by omega)) rfl (Int.le_refl _) (fun q => by exfalso; omega)
theorem brs_set {m : dM} {k j : Nat} {v : Int32} (hk : k ≠ 70) : brs (dSet m k j v) = brs m ∧ cds (dSet m k j v) = cds m ∧ flt (dSet m k j v) = flt m ∧ tt (dSet m k j v) = tt m ∧ opn (dSet m k j v) = opn m := by
  unfold brs cds flt tt opn
  rw [dSet_k (fun h => hk h.symm)]
  exact ⟨rfl, rfl, rfl, rfl, rfl⟩
/-- a store into the branch under way -/
theorem LSt.br {mb m : dM} {s k : Nat} {e bm : Int} {v : Int32} (h : LSt mb s e bm m) (hk : 97 ≤ k) (hk2 : k ≤ 101) (hb0 : 0 ≤ brs mb) (hb2 : bm < 130) : LSt mb s e bm (dSet m k (m.1 70 40).toNatClampNeg v) := by
  obtain ⟨h1, h2, h3, h4, h5, h6⟩ := h
  obtain ⟨e1, e2, e3, e4, e5⟩ := brs_set (m := m) (j := (m.1 70 40).toNatClampNeg) (v := v) (show k ≠ 70 by omega)
  have eb : ((m.1 70 40).toNatClampNeg : Int) = brs m := d_cl (show 0 ≤ brs m by omega)
  refine ⟨h1.br hk hk2 h5.1 (by omega) (by omega), by omega, by omega, by omega, by omega, fun h0 => ?_⟩
  have h6 := h6 (by omega)
  refine ⟨h6.1, by omega, by omega, by omega, fun j f1 f2 => ?_⟩
  exact (h6.2.2.2.2 j f1 (by omega)).up (fun j _ => by rw [dSet_k (by omega), dSet_k (by omega)]; exact ⟨rfl, rfl⟩) (by omega) (fun a _ _ => dSet_j (by omega))
/-- a term: an expression, and a branch is done -/
theorem p_term {mb m : dM} {s : Nat} {e bm : Int} {Q : dM → Prop} (hs : s ≤ 1) (hcb : 420 * (s : Int) ≤ cds mb) (hbb : 130 * (s : Int) ≤ brs mb) (hbm : bm ≤ 110) (h : LSt mb s e bm m)
    (hbr : flt m = 0 → (m.1 97 (m.1 70 40).toNatClampNeg).toInt ≠ 0 → PW m s (m.1 98 (m.1 70 40).toNatClampNeg).toInt (m.1 99 (m.1 70 40).toNatClampNeg).toInt ∧ PW m s (m.1 99 (m.1 70 40).toNatClampNeg).toInt (cds m)) (hQ : ∀ m', LSt mb s (e - 3) (bm + 1) m' → tt m ≤ tt m' → (flt m' = 0 → flt m = 0) → Q m') : c_X12_term_70 5 m Q := by
  have hb5 := h.2.2.2.2.1
  have eb : ((m.1 70 40).toNatClampNeg : Int) = brs m := d_cl (show 0 ≤ brs m by omega)
  have fin : ∀ m1 : dM, LSt mb s (e + 1) bm m1 → brs m1 = brs m → tt m ≤ tt m1 → (flt m1 = 0 → flt m = 0) → (flt m1 = 0 → BW (dSet m1 101 (m1.1 70 40).toNatClampNeg (m1.1 70 46)) s (m1.1 70 40).toNatClampNeg) → j_X12_term_70_24 5 m1 Q := by
    intro m1 h1 hb htt hff hB
    have eb1 : (m1.1 70 40).toInt = brs m1 := rfl
    have fb := dAddE (X := brs m1) (Y := 1) (x := m1.1 70 40) (y := (1 : Int32)) rfl (by decide) (by omega) (by omega)
    refine v_X12_term_70_24 ⟨by omega, hQ _ ?_ (show tt m ≤ tt m1 from htt) (show flt m1 = 0 → flt m = 0 from hff)⟩
    have g1 := h1.br (k := 101) (v := m1.1 70 46) (by omega) (by omega) (by omega) (by omega)
    have eb2 : ((m1.1 70 40).toNatClampNeg : Int) = brs m1 := d_cl (show 0 ≤ brs m1 by omega)
    generalize hM : dSet m1 101 (m1.1 70 40).toNatClampNeg (m1.1 70 46) = M at g1 hB ⊢
    have e40 : M.1 70 40 = m1.1 70 40 := by rw [← hM]; rfl
    have eF : flt M = flt m1 := by rw [← hM]; rfl
    obtain ⟨⟨h1, h2, h3, h4, h5⟩, t2, t3, t4, t5, t6⟩ := g1
    have bM : brs M = brs m1 := by unfold brs; rw [e40]
    have c1 : cds (dSet M 70 40 (m1.1 70 40 + 1)) = cds M := rfl
    have f1 : flt (dSet M 70 40 (m1.1 70 40 + 1)) = flt M := rfl
    have q1 : tt (dSet M 70 40 (m1.1 70 40 + 1)) = tt M := rfl
    have o1 : opn (dSet M 70 40 (m1.1 70 40 + 1)) = opn M := rfl
    have b1 : brs (dSet M 70 40 (m1.1 70 40 + 1)) = brs m1 + 1 := fb
    refine ⟨⟨fun k a1 a2 => by rw [dSet_k a1]; exact h1 k a1 a2, fun j a1 a2 a3 a4 a5 a6 a7 a8 a9 => by rw [dSet_j a7]; exact h2 j a1 a2 a3 a4 a5 a6 a7 a8 a9, fun k j a1 a2 a3 => by rw [dSet_k (by omega)]; exact h3 k j a1 a2 a3, fun j a1 => h4 j a1, h5⟩, by omega, by omega, by omega, by omega, fun h0 => ?_⟩
    have t6 := t6 (by omega)
    refine ⟨t6.1, by omega, by omega, by omega, fun j a1 a2 => ?_⟩
    have up : ∀ j, BW M s j → BW (dSet M 70 40 (m1.1 70 40 + 1)) s j := fun j hj => BW.up (m := M) (fun j _ => ⟨rfl, rfl⟩) (by omega) (fun a b1 b2 => by rw [dSet_k (by omega)]) hj
    by_cases hj : (j : Int) < brs m1
    · exact up j (t6.2.2.2.2 j a1 (by omega))
    · have : j = (m1.1 70 40).toNatClampNeg := by omega
      rw [this]
      exact up _ (hB (by omega))
  have eb0 : (m.1 70 40).toInt = brs m := rfl
  refine v_X12_term_70 ⟨by omega, fun hf => ?_, fun hf => ?_⟩
  · have hf : flt m ≠ 0 := hf
    have hf2 : 0 < flt m := by have := h.2.2.2.1; omega
    have g1 := h.br (k := 100) (v := m.1 70 46) (by omega) (by omega) (by omega) (by omega)
    have f1 : flt (dSet m 100 (m.1 70 40).toNatClampNeg (m.1 70 46)) = flt m := rfl
    refine fin _ ⟨g1.1, g1.2.1, g1.2.2.1, g1.2.2.2.1, g1.2.2.2.2.1, fun q => by exfalso; omega⟩ rfl (Int.le_refl _) (fun q => q) (fun q => by exfalso; omega)
  · have hf : flt m = 0 := hf
    have g1 := h.br (k := 100) (v := m.1 70 46) (by omega) (by omega) (by omega) (by omega)
    have c1 : cds (dSet m 100 (m.1 70 40).toNatClampNeg (m.1 70 46)) = cds m := rfl
    refine g1.ex hs hcb (fun m1 h1 hk hb htt hz => ?_)
    have hb' : brs m1 = brs m := hb
    refine fin m1 h1 hb' htt (fun _ => hf) (fun h0 => ?_)
    have hz := hz h0
    rw [c1] at hz
    have e40 : (m1.1 70 40).toNatClampNeg = (m.1 70 40).toNatClampNeg := by
      have := d_cl (show 0 ≤ (m1.1 70 40).toInt by show 0 ≤ brs m1; omega)
      have w : (m1.1 70 40).toInt = brs m1 := rfl
      omega
    have r : ∀ a : Nat, 97 ≤ a → a ≤ 100 → (dSet m1 101 (m1.1 70 40).toNatClampNeg (m1.1 70 46)).1 a (m1.1 70 40).toNatClampNeg = (dSet m 100 (m.1 70 40).toNatClampNeg (m.1 70 46)).1 a (m.1 70 40).toNatClampNeg := fun a b1 b2 => by rw [dSet_k (by omega), hk a b1 (by omega), e40]
    have c2 : cds (dSet m1 101 (m1.1 70 40).toNatClampNeg (m1.1 70 46)) = cds m1 := rfl
    have up2 : ∀ a b : Int, PW m s a b → PW (dSet m1 101 (m1.1 70 40).toNatClampNeg (m1.1 70 46)) s a b := fun a b q => q.up (fun j hj => by rw [dSet_k (by decide), dSet_k (by decide)]; exact hz.2.2.2 j hj) (by omega)
    unfold BW
    rw [r 97 (by omega) (by omega), r 98 (by omega) (by omega), r 99 (by omega) (by omega), r 100 (by omega) (by omega), dSet_s, dSet_s, dSet_k (by decide), dSet_k (by decide), dSet_k (by decide)]
    refine ⟨fun q => ?_, ⟨?_, by show cds m1 ≤ _; omega⟩⟩
    · have := hbr hf q
      exact ⟨up2 _ _ this.1, up2 _ _ this.2⟩
    · exact gPc_congr (g := m1.1) (c := cds m1) (fun j _ => ⟨rfl, rfl⟩) (Int.le_refl _) hz.2.2.1
end
section
/-! THE REFERENCE's read, 6: a law from its start to its end (by hand) -/
theorem LSt.weak {mb m : dM} {s : Nat} {e e' bm bm' : Int} (h : LSt mb s e bm m) (he : e' ≤ e) (hb : bm ≤ bm') : LSt mb s e' bm' m := by
  obtain ⟨h1, h2, h3, h4, h5, h6⟩ := h
  refine ⟨h1, h2, h3, h4, by omega, fun h0 => ?_⟩
  have h6 := h6 h0
  exact ⟨h6.1, h6.2.1, h6.2.2.1, by omega, h6.2.2.2.2⟩
theorem LSt.bad {mb m : dM} {s : Nat} {e e' bm : Int} (h : LSt mb s e bm m) (hf : 0 < flt m) : LSt mb s e' bm m := by
  obtain ⟨h1, h2, h3, h4, h5, h6⟩ := h
  exact ⟨h1, h2, h3, h4, h5, fun h0 => by exfalso; omega⟩
/-- the two first pieces of the branch under way -/
def P98 (m : dM) (s : Nat) : Prop := PW m s (m.1 98 (m.1 70 40).toNatClampNeg).toInt (m.1 99 (m.1 70 40).toNatClampNeg).toInt ∧ PW m s (m.1 99 (m.1 70 40).toNatClampNeg).toInt (cds m)
theorem tl_main {mb : dM} {s : Nat} {x1 x2 : Int32} {Q : dM → Prop} (hs : s ≤ 1) (hcb : 420 * (s : Int) ≤ cds mb) (hbb : 130 * (s : Int) ≤ brs mb) (hx1 : 0 ≤ x1.toInt ∧ x1.toInt ≤ 3) (hsd : (mb.1 70 19).toInt = s)
    (hQ1 : ∀ m', LSt mb s 0 101 m' → 0 < flt m' → Q m') (hQ2 : ∀ m', LSt mb s 0 101 m' → flt m' = 0 → Q (dSet (dSet m' 95 (((4 : Int32) * (m'.1 70 19)) + x1).toNatClampNeg x2) 96 (((4 : Int32) * (m'.1 70 19)) + x1).toNatClampNeg (m'.1 70 40))) : ∀ n : Nat,
    (∀ (x3 : Int32) (m : dM), LSt mb s 2 100 m → 0 ≤ x3.toInt ∧ x3.toInt ≤ 4 → mu m 6 1 n → j_X12_tellLaw_70_12 6 x1 x2 x3 m Q) ∧
    (∀ (x3 : Int32) (m : dM), LSt mb s 2 99 m → 0 ≤ x3.toInt ∧ x3.toInt ≤ 4 → (flt m = 0 → x3.toInt ≤ 3) → mu m 5 0 n → j_X12_tellLaw_70_38 6 x1 x2 x3 m Q) ∧
    (∀ (x3 : Int32) (m : dM), LSt mb s 6 99 m → 0 ≤ x3.toInt ∧ x3.toInt ≤ 4 → (flt m = 0 → P98 m s) → mu m 7 2 n → j_X12_tellLaw_70_110 6 x1 x2 x3 m Q) := by
  have last : ∀ m : dM, LSt mb s 2 100 m → j_X12_tellLaw_70_129 6 x1 x2 m Q := by
    intro m h
    have hb5 := h.2.2.2.2.1
    have eb0 : (m.1 70 40).toInt = brs m := rfl
    have g := h.br (k := 97) (v := (0 : Int32)) (by omega) (by omega) (by omega) (by omega)
    refine v_X12_tellLaw_70_129 ⟨by omega, ?_⟩
    refine p_term hs hcb hbb (by omega) g (fun _ hne => ?_) (fun m1 h1 _ _ => ?_)
    · have e : (dSet m 97 (m.1 70 40).toNatClampNeg (0 : Int32)).1 97 ((dSet m 97 (m.1 70 40).toNatClampNeg (0 : Int32)).1 70 40).toNatClampNeg = 0 := dSet_s _ _ _ _
      rw [e] at hne
      exact absurd rfl hne
    · refine Wp.deep (p_must h1.2.1 h1.2.2.2.1 (fun m2 h2 => ?_)) (Nat.le_of_ble_eq_true rfl)
      have g2 : LSt mb s 0 101 m2 := (h1.mv h2 (by decide)).weak (by decide) (by decide)
      have e19 : (m2.1 70 19).toInt = s := by rw [g2.1.2.1 19 (by decide) (by decide) (by decide) (by decide) (by decide) (by decide) (by decide) (by decide) (by decide)]; exact hsd
      have fm := dMulE (X := 4) (Y := (s : Int)) (x := (4 : Int32)) (y := m2.1 70 19) (by decide) e19 (by omega) (by omega)
      have fa := dAddE (X := 4 * (s : Int)) (Y := x1.toInt) (x := (4 : Int32) * m2.1 70 19) (y := x1) fm rfl (by omega) (by omega)
      refine ⟨fun hc => ⟨by omega, ⟨by omega, hQ2 m2 g2 ?_⟩⟩, fun hc => hQ1 m2 g2 hc⟩
      have hc : flt m2 ≤ 0 := hc
      have := g2.2.2.2.1
      omega
  intro n
  induction n with
  | zero =>
    refine ⟨fun x3 m h h3 hμ => ?_, fun x3 m h h3 h4 hμ => ?_, fun x3 m h h3 hP hμ => ?_⟩ <;> (have := h.2.1; exfalso; rcases hμ with q | q <;> omega)
  | succ n ih =>
    refine ⟨fun x3 m h h3 hμ => ?_, fun x3 m h h3 h4 hμ => ?_, fun x3 m h h3 hP hμ => ?_⟩
    · refine v_X12_tellLaw_70_12 ⟨fun _ => last m h, fun h0 => ?_⟩
      have h0 : flt m = 0 := h0
      have h6 := h.2.2.2.2.2 h0
      have hb5 := h.2.2.2.2.1
      have h' : LSt mb s 2 99 m := ⟨h.1, h.2.1, h.2.2.1, h.2.2.2.1, by have := h.2.1; omega, h.2.2.2.2.2⟩
      refine Wp.deep (p_is h.2.1 (fun h1 h2 => ⟨fun q => absurd q (by decide), fun _ => ⟨fun hne => ?_, fun he => ?_⟩⟩) (fun h1 => ⟨fun _ => last m h, fun q => absurd rfl q⟩)) (Nat.le_of_ble_eq_true rfl)
      · refine ih.2.1 x3 m h' h3 (fun _ => by omega) ?_
        left
        rcases hμ with q | q <;> omega
      · refine Wp.deep (p_fail h.2.1 (by decide) (fun m2 h2 hf2 => ?_)) (Nat.le_of_ble_eq_true rfl)
        refine ih.2.1 x3 m2 ((h'.mv h2 (by decide)).weak (by decide) (by decide)) h3 (fun q => by exfalso; omega) ?_
        right
        have := h.2.1
        rcases hμ with q | q <;> omega
    · refine v_X12_tellLaw_70_38 ⟨fun hc => ?_, fun hc => hQ1 m ((LSt.bad h hc).weak (Int.le_refl _) (by decide)) hc⟩
      have h0 : flt m = 0 := by
        have hc : flt m ≤ 0 := hc
        have := h.2.2.2.1
        omega
      have h34 := h4 h0
      have f3 := dAddE (X := x3.toInt) (Y := 1) (x := x3) (y := (1 : Int32)) rfl (by decide) (by omega) (by omega)
      refine Wp.deep (p_goesOn h.2.1 h.2.2.2.1 (fun m1 h1 => ?_)) (Nat.le_of_ble_eq_true rfl)
      have k4 := h1.2.2.2.1
      have g1 : LSt mb s 3 99 m1 := h.mv h1 (by decide)
      have hb5 := g1.2.2.2.2.1
      have eb0 : (m1.1 70 40).toInt = brs m1 := rfl
      have eb1 : ((m1.1 70 40).toNatClampNeg : Int) = brs m1 := d_cl (show 0 ≤ brs m1 by omega)
      refine ⟨by omega, ⟨by omega, ?_⟩⟩
      have g2 : LSt mb s 3 99 (dSet (dSet m1 97 (m1.1 70 40).toNatClampNeg (1 : Int32)) 98 (m1.1 70 40).toNatClampNeg (m1.1 70 46)) :=
        (g1.br (k := 97) (v := (1 : Int32)) (by omega) (by omega) (by omega) (by omega)).br (k := 98) (v := m1.1 70 46) (by omega) (by omega) (by omega) (by omega)
      refine Wp.deep (g2.ex hs hcb (fun m2 g3 hk hb ht2 hz => ?_)) (Nat.le_of_ble_eq_true rfl)
      have hb' : brs m2 = brs m1 := hb
      refine Wp.deep (p_must g3.2.1 g3.2.2.2.1 (fun m3 h3' => ?_)) (Nat.le_of_ble_eq_true rfl)
      have g4 : LSt mb s 5 99 m3 := g3.mv h3' (by decide)
      have hb6 := g4.2.2.2.2.1
      have b3 : m3.1 70 40 = m2.1 70 40 := h3'.2.1 40 (by decide) (by decide) (by decide) (by decide) (by decide)
      have c3 : m3.1 70 46 = m2.1 70 46 := h3'.2.1 46 (by decide) (by decide) (by decide) (by decide) (by decide)
      have eb3 : (m3.1 70 40).toNatClampNeg = (m1.1 70 40).toNatClampNeg := by
        have w1 := d_cl (show 0 ≤ (m3.1 70 40).toInt by show 0 ≤ brs m3; omega)
        have w2 : (m3.1 70 40).toInt = brs m2 := by rw [b3]; rfl
        omega
      have w3 : (m3.1 70 40).toInt = brs m3 := rfl
      refine ⟨by omega, ?_⟩
      have g5 : LSt mb s 5 99 (dSet m3 99 (m3.1 70 40).toNatClampNeg (m3.1 70 46)) := g4.br (k := 99) (by omega) (by omega) (by omega) (by omega)
      have k43 := h3'.2.2.2.1
      refine ⟨fun hf => ?_, fun hf => ?_⟩
      · have hf : flt m3 ≠ 0 := hf
        have hf2 : 0 < flt (dSet m3 99 (m3.1 70 40).toNatClampNeg (m3.1 70 46)) := by
          have w4 : flt (dSet m3 99 (m3.1 70 40).toNatClampNeg (m3.1 70 46)) = flt m3 := rfl
          have := g4.2.2.2.1
          omega
        refine ih.2.2 _ _ (LSt.bad g5 hf2) (by omega) (fun q => by exfalso; omega) ?_
        right
        have := h.2.1
        rcases hμ with q | q <;> omega
      · have hf : flt m3 = 0 := hf
        have f2 : flt m2 = 0 := by rcases k43 with q | q <;> omega
        have hz := hz f2
        have hz1 : flt m1 = 0 := hz.1
        refine Wp.deep (g5.ex hs hcb (fun m4 g6 hk4 hb4 ht4 hz4 => ?_)) (Nat.le_of_ble_eq_true rfl)
        refine ih.2.2 _ _ g6 (by omega) (fun h04 => ?_) ?_
        · have hz4 := hz4 h04
          have b4 : brs m4 = brs m3 := hb4
          have eb4 : (m4.1 70 40).toNatClampNeg = (m3.1 70 40).toNatClampNeg := by
            have w1 := d_cl (show 0 ≤ (m4.1 70 40).toInt by show 0 ≤ brs m4; omega)
            have w5 := d_cl (show 0 ≤ (m3.1 70 40).toInt by omega)
            have w2 : (m4.1 70 40).toInt = brs m4 := rfl
            omega
          have e98 : m4.1 98 (m4.1 70 40).toNatClampNeg = m1.1 70 46 := by
            rw [hk4 98 (by omega) (by omega), dSet_k (by decide), h3'.1 98 (by decide), hk 98 (by omega) (by omega), eb4, eb3, dSet_s]
          have e99 : m4.1 99 (m4.1 70 40).toNatClampNeg = m3.1 70 46 := by
            rw [hk4 99 (by omega) (by omega), eb4, dSet_s]
          have cc3 : (m3.1 70 46).toInt = cds m2 := by rw [c3]; rfl
          have cd3 : cds (dSet m3 99 (m3.1 70 40).toNatClampNeg (m3.1 70 46)) = cds m2 := cc3
          have hz42 := hz4.2.1
          have hz43 := hz4.2.2.1
          have hz44 := hz4.2.2.2
          rw [cd3] at hz42 hz43 hz44
          unfold P98
          rw [e98, e99, cc3]
          refine ⟨⟨?_, by omega⟩, ⟨hz43, Int.le_refl _⟩⟩
          refine gPc_congr (g := m2.1) (c := cds m2) (fun j hj => ?_) (Int.le_refl _) hz.2.2.1
          have w := hz44 j hj
          have e3 : (dSet m3 99 (m3.1 70 40).toNatClampNeg (m3.1 70 46)).1 102 j = m2.1 102 j ∧ (dSet m3 99 (m3.1 70 40).toNatClampNeg (m3.1 70 46)).1 103 j = m2.1 103 j := by
            rw [dSet_k (by decide), dSet_k (by decide), h3'.1 102 (by decide), h3'.1 103 (by decide)]
            exact ⟨rfl, rfl⟩
          exact ⟨w.1.trans e3.1, w.2.trans e3.2⟩
        · have k41 := h1.2.2.2.1
          have t4 := g6.2.1
          have s4 := g6.2.2.2.1
          have a1 : tt m1 ≤ tt m2 := ht2
          have a2 : tt m3 ≤ tt m4 := ht4
          have a3 := h.2.1
          unfold mu
          by_cases q0 : flt m4 = 0
          · left
            rcases k43 with y | y <;> rcases hμ with q | q <;> rcases k41 with z | z <;> omega
          · right
            rcases hμ with q | q <;> omega
    · refine v_X12_tellLaw_70_110 ?_
      refine Wp.deep (p_must h.2.1 h.2.2.2.1 (fun m1 h1 => ?_)) (Nat.le_of_ble_eq_true rfl)
      have g1 : LSt mb s 7 99 m1 := h.mv h1 (by decide)
      have k41 := h1.2.2.2.1
      have b1 : m1.1 70 40 = m.1 70 40 := h1.2.1 40 (by decide) (by decide) (by decide) (by decide) (by decide)
      have c1 : cds m1 = cds m := by unfold cds; rw [h1.2.1 46 (by decide) (by decide) (by decide) (by decide) (by decide)]
      refine p_term hs hcb hbb (by omega) g1 (fun f1 _ => ?_) (fun m2 g2 a1 a2 => ?_)
      · have f0 : flt m = 0 := by rcases k41 with z | z <;> omega
        have hP := hP f0
        unfold P98 at hP
        rw [b1, h1.1 98 (by decide), h1.1 99 (by decide), c1]
        exact ⟨hP.1.up (fun j _ => by rw [h1.1 102 (by decide), h1.1 103 (by decide)]; exact ⟨rfl, rfl⟩) (by omega), hP.2.up (fun j _ => by rw [h1.1 102 (by decide), h1.1 103 (by decide)]; exact ⟨rfl, rfl⟩) (by omega)⟩
      · refine Wp.deep (p_must g2.2.1 g2.2.2.2.1 (fun m3 h3' => ?_)) (Nat.le_of_ble_eq_true rfl)
        have g3 : LSt mb s 5 100 m3 := g2.mv h3' (by decide)
        refine ih.1 x3 m3 (g3.weak (by decide) (by decide)) h3 ?_
        have k43 := h3'.2.2.2.1
        have a3 := h.2.1
        have a4 := g3.2.2.2.1
        unfold mu
        by_cases q0 : flt m3 = 0
        · left
          rcases k43 with y | y <;> rcases k41 with z | z <;> rcases hμ with q | q <;> omega
        · right
          rcases hμ with q | q <;> omega
end
section
/-! THE REFERENCE's read, 7: what holds while a text is told (by hand) -/
def rg (k : Nat) : Nat := match k with
  | 80 => 1
  | 82 => 1
  | 83 => 10
  | 84 => 10
  | 85 => 10
  | 86 => 1
  | 87 => 8
  | 88 => 8
  | 89 => 8
  | 90 => 8
  | 91 => 1
  | 92 => 1
  | 93 => 1
  | 94 => 1
  | 95 => 4
  | 96 => 4
  | 97 => 130
  | 98 => 130
  | 99 => 130
  | 100 => 130
  | 101 => 130
  | 102 => 420
  | 103 => 420
  | _ => 0
theorem rg_lo {k : Nat} (h : k < 80 ∨ 103 < k) : rg k = 0 := by
  unfold rg
  split <;> first | rfl | (exfalso; omega)
theorem sT_lt {k j : Nat} {b : Int × Int} (h0 : 71 ≤ k) (h : sT k j = some b) : k < 97 := by
  unfold sT at h
  split at h
  all_goals first
    | omega
    | cases h
def PF (m0 : dM) (L s : Nat) (m : dM) : Prop := (∀ k : Nat, k < 70 ∨ 105 ≤ k → m.1 k = m0.1 k) ∧ (∀ j : Nat, (j = 2 ∨ j = 18 ∨ j = 19 ∨ 51 ≤ j) → m.1 70 j = m0.1 70 j) ∧ (∀ k j : Nat, 71 ≤ k → rg k * L ≤ j → j < rg k * L + rg k → m.1 k j = m0.1 k j) ∧ (∀ (k j : Nat) (lo hi : Int), 71 ≤ k → sT k j = some (lo, hi) → lo ≤ (m.1 k j).toInt ∧ (m.1 k j).toInt ≤ hi)
section PFS
variable {m0 m m' : dM} {L s : Nat}
theorem PF.mv {k : Int} (h : PF m0 L s m) (hm : Mv k m m') : PF m0 L s m' := by
  obtain ⟨h1, h2, h3, h4⟩ := h
  obtain ⟨k1, k2, k3, k4, k5⟩ := hm
  refine ⟨fun k e => (k1 k (by omega)).trans (h1 k e), fun j e => (k2 j (by omega) (by omega) (by omega) (by omega) (by omega)).trans (h2 j e), fun k j e0 e1 e2 => by rw [k1 k (by omega)]; exact h3 k j e0 e1 e2, fun k j lo hi e0 e1 => by rw [k1 k (by omega)]; exact h4 k j lo hi e0 e1⟩
theorem PF.set {k j : Nat} {v : Int32} (h : PF m0 L s m) (hL : L + s = 1) (hk : 71 ≤ k) (hk2 : k ≤ 104) (hj : rg k = 0 ∨ (rg k * s ≤ j ∧ j < rg k * s + rg k)) (hb : ∀ lo hi, sT k j = some (lo, hi) → lo ≤ v.toInt ∧ v.toInt ≤ hi) : PF m0 L s (dSet m k j v) := by
  obtain ⟨h1, h2, h3, h4⟩ := h
  refine ⟨fun a e => by rw [dSet_k (by omega)]; exact h1 a e, fun a e => by rw [dSet_k (by omega)]; exact h2 a e, fun a b e0 e1 e2 => ?_, fun a b lo hi e0 e1 => ?_⟩
  · rw [dSet_e]
    by_cases hc : a = k ∧ b = j
    · exfalso
      obtain ⟨rfl, rfl⟩ := hc
      have hLs : (L = 0 ∧ s = 1) ∨ (L = 1 ∧ s = 0) := by omega
      rcases hLs with ⟨rfl, rfl⟩ | ⟨rfl, rfl⟩
      · simp only [Nat.mul_zero, Nat.mul_one] at hj e1 e2
        omega
      · simp only [Nat.mul_zero, Nat.mul_one] at hj e1 e2
        omega
    · rw [if_neg hc]
      exact h3 a b e0 e1 e2
  · rw [dSet_e]
    by_cases hc : a = k ∧ b = j
    · rw [if_pos hc]
      rw [hc.1, hc.2] at e1
      exact hb lo hi e1
    · rw [if_neg hc]
      exact h4 a b lo hi e0 e1
theorem PF.set70 {j : Nat} {v : Int32} (h : PF m0 L s m) (h1 : j ≠ 2) (h2 : j ≠ 18) (h3 : j ≠ 19) (h4 : j < 51) : PF m0 L s (dSet m 70 j v) := by
  obtain ⟨g1, g2, g3, g4⟩ := h
  exact ⟨fun a e => by rw [dSet_k (by omega)]; exact g1 a e, fun a e => by rw [dSet_j (by omega)]; exact g2 a e, fun a b e0 e1 e2 => by rw [dSet_k (by omega)]; exact g3 a b e0 e1 e2, fun a b lo hi e0 e1 => by rw [dSet_k (by omega)]; exact g4 a b lo hi e0 e1⟩
theorem PF.lf {mb : dM} (h : PF m0 L s mb) (hL : L + s = 1) (hb : 130 * (s : Int) ≤ brs mb) (hc : 420 * (s : Int) ≤ cds mb) (hl : LF mb s m) : PF m0 L s m := by
  obtain ⟨g1, g2, g3, g4⟩ := h
  obtain ⟨k1, k2, k3, k4, k5⟩ := hl
  have hLs : (L = 0 ∧ s = 1) ∨ (L = 1 ∧ s = 0) := by omega
  refine ⟨fun a e => (k1 a (by omega) (by omega)).trans (g1 a e), fun a e => (k2 a (by omega) (by omega) (by omega) (by omega) (by omega) (by omega) (by omega) (by omega) (by omega)).trans (g2 a e), fun a b e0 e1 e2 => ?_, fun a b lo hi e0 e1 => ?_⟩
  · by_cases q1 : a < 97
    · rw [k1 a (by omega) (Or.inl q1)]; exact g3 a b e0 e1 e2
    · by_cases q2 : a ≤ 101
      · have er : rg a = 130 := by
          have : a = 97 ∨ a = 98 ∨ a = 99 ∨ a = 100 ∨ a = 101 := by omega
          rcases this with rfl | rfl | rfl | rfl | rfl <;> rfl
        have e1' := e1
        have e2' := e2
        rw [er] at e1' e2'
        rw [k3 a b (by omega) q2 (by rcases hLs with ⟨rfl, rfl⟩ | ⟨rfl, rfl⟩ <;> omega)]
        exact g3 a b e0 e1 e2
      · by_cases q3 : a ≤ 103
        · have er : rg a = 420 := by
            have : a = 102 ∨ a = 103 := by omega
            rcases this with rfl | rfl <;> rfl
          have e1' := e1
          have e2' := e2
          rw [er] at e1' e2'
          have w := k4 b (by rcases hLs with ⟨rfl, rfl⟩ | ⟨rfl, rfl⟩ <;> omega)
          have w2 : m.1 a b = mb.1 a b := by
            have : a = 102 ∨ a = 103 := by omega
            rcases this with rfl | rfl
            · exact w.1
            · exact w.2
          rw [w2]
          exact g3 a b e0 e1 e2
        · exfalso
          rw [rg_lo (Or.inr (by omega))] at e1 e2
          omega
  · rw [k1 a (by omega) (Or.inl (sT_lt e0 e1))]
    exact g4 a b lo hi e0 e1
theorem PF.sd (h : PF m0 L s m) (h0 : (m0.1 70 19).toInt = s) : (m.1 70 19).toInt = s ∧ (m.1 70 19).toNatClampNeg = s := by
  have e : (m.1 70 19).toInt = s := by rw [h.2.1 19 (by omega)]; exact h0
  refine ⟨e, ?_⟩
  have := d_cl (x := m.1 70 19) (by omega)
  omega
end PFS
def EH (m : dM) (s : Nat) : Prop := (∀ w : Nat, (w : Int) < (m.1 82 s).toInt → (0 ≤ (m.1 83 (10 * s + w)).toInt ∧ (m.1 83 (10 * s + w)).toInt ≤ 6) ∧ (0 ≤ (m.1 84 (10 * s + w)).toInt ∧ (m.1 84 (10 * s + w)).toInt ≤ 6)) ∧ (∀ u : Nat, (u : Int) < (m.1 86 s).toInt → 0 ≤ (m.1 87 (8 * s + u)).toInt ∧ (m.1 87 (8 * s + u)).toInt ≤ 6)
def LW (m : dM) (s : Nat) (a b : Int) : Prop := a = b ∨ (130 * (s : Int) ≤ a ∧ a ≤ b ∧ b ≤ brs m ∧ ∀ j : Nat, a ≤ j → (j : Int) < b → BW m s j)
def LB (m : dM) (s : Nat) : Prop := ∀ k : Nat, k < 4 → LW m s (m.1 95 (4 * s + k)).toInt (m.1 96 (4 * s + k)).toInt
def PG (m : dM) (s : Nat) : Prop := nms m = (m.1 80 s).toInt + (m.1 86 s).toInt ∧ opn m = 0 ∧ (420 * (s : Int) ≤ cds m ∧ cds m ≤ 420 * s + tt m) ∧ (130 * (s : Int) ≤ brs m ∧ 4 * (brs m - 130 * s) ≤ tt m) ∧ LB m s ∧ (0 ≤ wst m ∧ (wst m = 0 → EH m s))
def PI (m0 : dM) (L s : Nat) (m : dM) : Prop := PF m0 L s m ∧ (0 ≤ tt m ∧ tt m ≤ 400) ∧ 0 ≤ flt m ∧ (flt m = 0 → PG m s)
theorem LB.up {m m' : dM} {s : Nat} (hk : ∀ k : Nat, 95 ≤ k → k ≤ 101 → ∀ j : Nat, (97 ≤ k → (j : Int) < brs m) → m'.1 k j = m.1 k j) (hc : ∀ j : Nat, (j : Int) < cds m → m'.1 102 j = m.1 102 j ∧ m'.1 103 j = m.1 103 j) (hb : brs m ≤ brs m') (hd : cds m ≤ cds m') (h : LB m s) : LB m' s := by
  intro k hk4
  rw [hk 95 (by omega) (by omega) _ (fun q => by omega), hk 96 (by omega) (by omega) _ (fun q => by omega)]
  rcases h k hk4 with q | ⟨q1, q2, q3, q4⟩
  · exact Or.inl q
  · exact Or.inr ⟨q1, q2, by omega, fun j e1 e2 => (q4 j e1 e2).up hc hd (fun a b1 b2 => hk a (by omega) b2 j (fun _ => by omega))⟩
/-- what PG reads is as it was, and it has gone on -/
theorem PG.cg {m m' : dM} {s : Nat} (h : PG m s) (hk : ∀ k : Nat, k = 80 ∨ k = 82 ∨ k = 83 ∨ k = 84 ∨ k = 86 ∨ k = 87 ∨ (95 ≤ k ∧ k ≤ 103) → m'.1 k = m.1 k) (hj : ∀ j : Nat, j = 12 ∨ j = 20 ∨ j = 40 ∨ j = 46 → m'.1 70 j = m.1 70 j) (ht : tt m ≤ tt m') (hw : Wz m m') : PG m' s := by
  obtain ⟨h1, h2, h3, h4, h5, h6⟩ := h
  have n1 : nms m' = nms m := by unfold nms; rw [hj 20 (by omega)]
  have o1 : opn m' = opn m := by unfold opn; rw [hj 12 (by omega)]
  have c1 : cds m' = cds m := by unfold cds; rw [hj 46 (by omega)]
  have b1 : brs m' = brs m := by unfold brs; rw [hj 40 (by omega)]
  refine ⟨by rw [n1, hk 80 (by omega), hk 86 (by omega)]; exact h1, by omega, by omega, by omega, LB.up (fun k e1 e2 j _ => by rw [hk k (by omega)]) (fun j _ => by rw [hk 102 (by omega), hk 103 (by omega)]; exact ⟨rfl, rfl⟩) (by omega) (by omega) h5, ⟨hw.2 h6.1, fun q => ?_⟩⟩
  have := h6.2 (hw.1 q)
  unfold EH
  rw [hk 82 (by omega), hk 83 (by omega), hk 84 (by omega), hk 86 (by omega), hk 87 (by omega)]
  exact this
theorem PG.mv {m m' : dM} {s : Nat} {k : Int} (h : PG m s) (hm : Mv k m m') (hk : 0 ≤ k) : PG m' s := h.cg (fun k e => hm.1 k (by omega)) (fun j e => hm.2.1 j (by omega) (by omega) (by omega) (by omega) (by omega)) (by rcases hm.2.2.2.1 with q | q <;> omega) hm.2.2.2.2
theorem p_roomFor {x1 x2 : Int32} {m : dM} {Q : dM → Prop} (ht : 0 ≤ tt m ∧ tt m ≤ 400) (hf : 0 ≤ flt m) (hQ : ∀ m', Mv 1 m m' → (flt m' = 0 → x1.toInt ≠ x2.toInt) → Q m') : c_X12_roomFor_70 3 x1 x2 m Q := by
  have nx : ∀ m1 : dM, Mv 0 m m1 → (flt m1 = 0 → x1.toInt ≠ x2.toInt) → j_X12_roomFor_70_10 3 m1 Q := by
    intro m1 h1 hd
    refine v_X12_roomFor_70_10 ⟨fun hc => ?_, fun hc => ?_⟩
    · have hc : flt m1 ≠ 0 := hc
      have := h1.fl
      refine v_X12_roomFor_70_21 (hQ m1 ⟨h1.1, h1.2.1, h1.2.2.1, ?_, h1.2.2.2.2⟩ hd)
      right
      rcases h1.2.2.2.1 with q | q <;> omega
    · have hc : flt m1 = 0 := hc
      refine p_goesOn h1.2.2.1 h1.fl (fun m2 h2 => v_X12_roomFor_70_21 (hQ m2 ?_ (fun _ => hd hc)))
      exact h1.tr h2 (by decide) (by decide)
  refine v_X12_roomFor_70 ⟨fun hne => nx m (Mv.rf ht hf) (fun _ => hne), fun he => ?_⟩
  exact Wp.deep (p_fail ht (by decide) (fun m1 h1 hf1 => nx m1 h1 (fun q => by exfalso; omega))) (Nat.le_of_ble_eq_true rfl)
theorem p_endsName {x1 x2 : Int32} {m : dM} {Q : dM → Prop} (ht : 0 ≤ tt m ∧ tt m ≤ 400) (hf : 0 ≤ flt m) (hx : 0 ≤ x1.toInt ∧ x1.toInt ≤ 400) (hn : flt m = 0 → 0 ≤ nms m ∧ nms m ≤ 14) (hQ1 : ∀ m', Mv 1 m m' → 0 < flt m' → Q m') (hQ2 : ∀ m', Mv 1 m m' → flt m' = 0 → flt m = 0 → Q (dSet (dSet (dSetL m' 78 (m'.1 70 20).toNatClampNeg (m'.2.1 76 x1.toNatClampNeg)) 79 (m'.1 70 20).toNatClampNeg x2) 70 20 ((m'.1 70 20) + (1 : Int32)))) : c_X12_endsName_70 4 x1 x2 m Q := by
  refine v_X12_endsName_70 ?_
  refine p_must ht hf (fun m1 h1 => ⟨fun hc => ?_, fun hc => hQ1 m1 h1 hc⟩)
  have hc : flt m1 ≤ 0 := hc
  have h0 : flt m1 = 0 := by have := h1.fl; omega
  have hm : flt m = 0 := by rcases h1.2.2.2.1 with q | q <;> omega
  have e : (m1.1 70 20).toInt = nms m := by rw [h1.2.1 20 (by decide) (by decide) (by decide) (by decide) (by decide)]; rfl
  have hn := hn hm
  exact ⟨by omega, ⟨by omega, ⟨by omega, hQ2 m1 h1 h0 hm⟩⟩⟩
theorem p_areWired {x1 x2 : Int32} {m : dM} {s : Nat} {Q : Int32 → dM → Prop} (hs : s ≤ 1) (hsd : (m.1 70 19).toInt = s ∧ (m.1 70 19).toNatClampNeg = s) (hw : 0 ≤ (m.1 82 s).toInt ∧ (m.1 82 s).toInt ≤ 10) (hQ : ∀ r, Q r m) : c_X12_areWired_70 1 x1 x2 m Q := by
  have fm := dMulE (X := 10) (Y := (s : Int)) (x := (10 : Int32)) (y := m.1 70 19) (by decide) hsd.1 (by omega) (by omega)
  have fa := dAddE (X := 10 * (s : Int)) (Y := (m.1 82 s).toInt) (x := (10 : Int32) * m.1 70 19) (y := m.1 82 s) fm rfl (by omega) (by omega)
  have H : ∀ (n : Nat) (x3 : Int32), 0 ≤ x3.toInt → x3.toInt ≤ 10 * s + (m.1 82 s).toInt → 20 - x3.toInt < n → j_X12_areWired_70_8 1 x1 x2 x3 m Q := by
    intro n
    induction n with
    | zero => intro x3 h1 h2 h3; exfalso; omega
    | succ n ih =>
      intro x3 h1 h2 h3
      refine v_X12_areWired_70_8 ⟨by omega, ?_⟩
      rw [hsd.2]
      have last : j_X12_areWired_70_69 1 m Q := v_X12_areWired_70_69 (hQ _)
      refine ⟨fun _ => hQ _, fun hc => ?_⟩
      have f3 := dAddE (X := x3.toInt) (Y := 1) (x := x3) (y := (1 : Int32)) rfl (by decide) (by omega) (by omega)
      have nx : j_X12_areWired_70_71 1 x1 x2 x3 m Q := v_X12_areWired_70_71 (ih _ (by omega) (by omega) (by omega))
      have md : j_X12_areWired_70_49 1 x1 x2 x3 m Q := v_X12_areWired_70_49 ⟨by omega, fun _ => nx, fun _ => ⟨by omega, fun _ => nx, fun _ => last⟩⟩
      exact ⟨by omega, fun _ => md, fun _ => ⟨by omega, fun _ => last, fun _ => md⟩⟩
  refine v_X12_areWired_70 (H 21 _ (by omega) (by omega) (by omega))
end
section
/-! THE REFERENCE's read, 8: one TELL (by hand) -/
section TEL
variable {m0 : dM} {L s : Nat}
theorem PF.b79 {m : dM} (h : PF m0 L s m) : ∀ j, -1 ≤ (m.1 79 j).toInt ∧ (m.1 79 j).toInt ≤ 6 := fun j => h.2.2.2 79 j (-1) 6 (by decide) rfl
theorem PF.b75 {m : dM} (h : PF m0 L s m) : ∀ j, 0 ≤ (m.1 75 j).toInt ∧ (m.1 75 j).toInt ≤ 9999 := fun j => h.2.2.2 75 j 0 9999 (by decide) rfl
theorem PF.b80 {m : dM} (h : PF m0 L s m) : 0 ≤ (m.1 80 s).toInt ∧ (m.1 80 s).toInt ≤ 7 := h.2.2.2 80 s 0 7 (by decide) rfl
theorem PF.b82 {m : dM} (h : PF m0 L s m) : 0 ≤ (m.1 82 s).toInt ∧ (m.1 82 s).toInt ≤ 10 := h.2.2.2 82 s 0 10 (by decide) rfl
theorem PF.b86 {m : dM} (h : PF m0 L s m) : 0 ≤ (m.1 86 s).toInt ∧ (m.1 86 s).toInt ≤ 8 := h.2.2.2 86 s 0 8 (by decide) rfl
/-- a state in which a fault stands is well -/
theorem PI.bad {m : dM} (h : PF m0 L s m) (ht : 0 ≤ tt m ∧ tt m ≤ 400) (hf : 0 < flt m) : PI m0 L s m := ⟨h, ht, by omega, fun q => by exfalso; omega⟩
/-- a flat -/
theorem t_flat {m : dM} {Q : dM → Prop} (hL : L + s = 1) (hsd : (m0.1 70 19).toInt = s) (hF : PF m0 L s m) (ht : 0 ≤ tt m ∧ tt m ≤ 400) (h0 : flt m = 0) (hG : PG m s) (hQ : ∀ m', PI m0 L s m' → tt m + 1 ≤ tt m' ∨ 0 < flt m' → Q m') (fin : ∀ m', Q m' → j_X12_tellOne_70_371 8 m' Q) :
    c_X12_roomFor_70 7 (m.1 80 (m.1 70 19).toNatClampNeg) (7 : Int32) m (fun m1 => (((m1.1 70 13).toInt ≤ 0 → c_X12_named_70 7 m1 (fun r2 m2 => ((0 ≤ (m2.1 70 19).toInt ∧ (m2.1 70 19).toInt < 2) ∧ c_X12_bounded_70 7 (0 : Int32) (9 : Int32) m2 (fun r3 m3 => ((0 ≤ (((7 : Int32) * (m2.1 70 19)) + (m2.1 80 (m2.1 70 19).toNatClampNeg)).toInt ∧ (((7 : Int32) * (m2.1 70 19)) + (m2.1 80 (m2.1 70 19).toNatClampNeg)).toInt < 14) ∧ ((0 ≤ (m3.1 70 19).toInt ∧ (m3.1 70 19).toInt < 2) ∧ c_X12_endsName_70 7 r2 (m3.1 80 (m3.1 70 19).toNatClampNeg) (dSet m3 81 (((7 : Int32) * (m2.1 70 19)) + (m2.1 80 (m2.1 70 19).toNatClampNeg)).toNatClampNeg r3) (fun m4 => (((m4.1 70 13).toInt ≠ 0 → j_X12_tellOne_70_371 (7 + 1) m4 Q) ∧ ((m4.1 70 13).toInt = 0 → ((0 ≤ (m4.1 70 19).toInt ∧ (m4.1 70 19).toInt < 2) ∧ ((0 ≤ (m4.1 70 19).toInt ∧ (m4.1 70 19).toInt < 2) ∧ j_X12_tellOne_70_371 (7 + 1) (dSet m4 80 (m4.1 70 19).toNatClampNeg ((m4.1 80 (m4.1 70 19).toNatClampNeg) + (1 : Int32))) Q)))))))))) ) ∧ (0 < (m1.1 70 13).toInt → Q m1))) := by
  have hs : s ≤ 1 := by omega
  have e7 := ti_7
  have sd := hF.sd hsd
  rw [sd.2]
  refine Wp.deep (p_roomFor ht (by omega) (fun m1 h1 hne => ⟨fun hc => ?_, fun hc => ?_⟩)) (Nat.le_of_ble_eq_true rfl)
  · have hc : flt m1 ≤ 0 := hc
    have f1 : flt m1 = 0 := by have := h1.fl; omega
    have t1 : tt m1 = tt m + 1 := by rcases h1.2.2.2.1 with q | q <;> omega
    have F1 := hF.mv h1
    have G1 := hG.mv h1 (by decide)
    have b80 := F1.b80
    have b86 := F1.b86
    have hne := hne f1
    have e80 : m1.1 80 s = m.1 80 s := by rw [h1.1 80 (by decide)]
    rw [← e80] at hne
    have n1 := G1.1
    refine Wp.deep (p_named h1.2.2.1 h1.fl (by omega) (fun r2 m2 h2 hr2 => ?_)) (Nat.le_of_ble_eq_true rfl)
    have F2 := F1.mv h2
    have sd2 := F2.sd hsd
    have b80_2 : m2.1 80 s = m1.1 80 s := by rw [h2.1 80 (by decide)]
    refine ⟨by omega, ?_⟩
    refine Wp.deep (p_bounded h2.2.2.1 h2.fl F2.b75 (by decide) (fun r3 m3 h3 hr3 => ?_)) (Nat.le_of_ble_eq_true rfl)
    have F3 := F2.mv h3
    have sd3 := F3.sd hsd
    have h23 := h2.tr h3 (by decide) (by decide)
    rw [sd2.2, sd3.2]
    have fm := dMulE (X := 7) (Y := (s : Int)) (x := (7 : Int32)) (y := m2.1 70 19) (by decide) sd2.1 (by omega) (by omega)
    have fa := dAddE (X := 7 * (s : Int)) (Y := (m2.1 80 s).toInt) (x := (7 : Int32) * m2.1 70 19) (y := m2.1 80 s) fm rfl (by rw [b80_2]; omega) (by rw [b80_2]; omega)
    rw [b80_2] at fa
    refine ⟨by rw [b80_2]; omega, ⟨by omega, ?_⟩⟩
    have e80_3 : m3.1 80 s = m1.1 80 s := by rw [h23.1 80 (by decide)]
    have F3' : PF m0 L s (dSet m3 81 (((7 : Int32) * (m2.1 70 19)) + (m2.1 80 s)).toNatClampNeg r3) := F3.set hL (by decide) (by decide) (Or.inl rfl) (fun lo hi q => by cases q)
    generalize hM3 : dSet m3 81 (((7 : Int32) * (m2.1 70 19)) + (m2.1 80 s)).toNatClampNeg r3 = M3 at F3' ⊢
    have k3 : ∀ k : Nat, k ≠ 81 → M3.1 k = m3.1 k := fun k hk => by rw [← hM3, dSet_k hk]
    have tM : tt M3 = tt m3 := by unfold tt; rw [k3 70 (by decide)]
    have fM : flt M3 = flt m3 := by unfold flt; rw [k3 70 (by decide)]
    have nM : nms M3 = nms m3 := by unfold nms; rw [k3 70 (by decide)]
    have n3 : nms m3 = nms m1 := by unfold nms; rw [h23.2.1 20 (by decide) (by decide) (by decide) (by decide) (by decide)]
    have hk4 := h23.2.2.2.1
    refine Wp.deep (p_endsName (by rw [tM]; exact h3.2.2.1) (by rw [fM]; exact h3.fl) hr2 (fun _ => by omega) (fun m4 h4 hf4 => ?_) (fun m4 h4 hf4 hfM => ?_)) (Nat.le_of_ble_eq_true rfl)
    · have F4 := F3'.mv h4
      refine ⟨fun _ => fin m4 (hQ m4 (PI.bad F4 h4.2.2.1 hf4) (Or.inr hf4)), fun q => ?_⟩
      have q : flt m4 = 0 := q
      exfalso; omega
    · have F4 := F3'.mv h4
      have G3 : PG M3 s := by
        refine (G1.mv h23 (by decide)).cg (fun k e => k3 k (by omega)) (fun j e => by rw [k3 70 (by decide)]) (by omega) (Wz.eq (by unfold wst; rw [k3 70 (by decide)]))
      have G4 := G3.mv h4 (by decide)
      have n4 : nms m4 = nms M3 := by unfold nms; rw [h4.2.1 20 (by decide) (by decide) (by decide) (by decide) (by decide)]
      have e20 : (m4.1 70 20).toInt = nms m4 := rfl
      have fn := dAddE (X := nms m4) (Y := 1) (x := m4.1 70 20) (y := (1 : Int32)) rfl (by decide) (by omega) (by omega)
      have e80_4 : m4.1 80 s = m1.1 80 s := by rw [h4.1 80 (by decide), k3 80 (by decide), e80_3]
      have f80 := dAddE (X := (m1.1 80 s).toInt) (Y := 1) (x := m4.1 80 s) (y := (1 : Int32)) (by rw [e80_4]) (by decide) (by omega) (by omega)
      have F5 : PF m0 L s (dSet (dSet (dSetL m4 78 (m4.1 70 20).toNatClampNeg (m4.2.1 76 r2.toNatClampNeg)) 79 (m4.1 70 20).toNatClampNeg (m3.1 80 s)) 70 20 ((m4.1 70 20) + (1 : Int32))) := by
        refine PF.set70 (PF.set (show PF m0 L s (dSetL m4 78 (m4.1 70 20).toNatClampNeg (m4.2.1 76 r2.toNatClampNeg)) from F4) hL (by decide) (by decide) (Or.inl rfl) (fun lo hi q => ?_)) (by decide) (by decide) (by decide) (by decide)
        cases q
        rw [e80_3]
        omega
      have sd5 := F5.sd hsd
      refine ⟨fun q => absurd hf4 q, fun _ => ⟨by omega, ⟨by omega, fin _ (hQ _ ?_ ?_)⟩⟩⟩
      · rw [sd5.2]
        refine ⟨F5.set hL (by decide) (by decide) (Or.inr (by show 1 * s ≤ s ∧ s < 1 * s + 1; omega)) (fun lo hi q => ?_), h4.2.2.1, by show 0 ≤ flt m4; omega, fun _ => ?_⟩
        · cases q
          show 0 ≤ (m4.1 80 s + (1 : Int32)).toInt ∧ (m4.1 80 s + (1 : Int32)).toInt ≤ 7
          omega
        · have hq : PG m4 s := G4
          obtain ⟨g1, g2, g3, g4, g5, g6⟩ := hq
          refine ⟨?_, g2, g3, g4, ?_, ⟨g6.1, fun w => ?_⟩⟩
          · show (m4.1 70 20 + (1 : Int32)).toInt = _ + (m4.1 86 s).toInt
            rw [dSet_s]
            show (m4.1 70 20 + (1 : Int32)).toInt = (m4.1 80 s + (1 : Int32)).toInt + (m4.1 86 s).toInt
            have e86 : (m4.1 80 s).toInt = (m1.1 80 s).toInt := by rw [e80_4]
            omega
          · exact LB.up (m := m4) (fun k e1 e2 j _ => by rw [dSet_k (by omega), dSet_k (by omega), dSet_k (by omega)]; rfl) (fun j _ => ⟨rfl, rfl⟩) (Int.le_refl _) (Int.le_refl _) g5
          · exact g6.2 w
      · left
        show tt m + 1 ≤ tt m4
        have hk44 := h4.2.2.2.1
        rcases hk44 with q | q <;> rcases hk4 with z | z <;> omega
  · exact hQ m1 (PI.bad (hF.mv h1) h1.2.2.1 hc) (Or.inr hc)
end TEL
end
section
/-! THE REFERENCE's read, 9: a wire, a use told (by hand) -/
section TEW
variable {m0 : dM} {L s : Nat}
theorem t_wire {m : dM} {Q : dM → Prop} (hL : L + s = 1) (hsd : (m0.1 70 19).toInt = s) (hF : PF m0 L s m) (ht : 0 ≤ tt m ∧ tt m ≤ 400) (h0 : flt m = 0) (hG : PG m s) (hw9 : (m.1 82 s).toInt ≤ 9) (hQ : ∀ m', PI m0 L s m' → tt m ≤ tt m' → Q m') : c_X12_tellWire_70 6 m Q := by
  have hs : s ≤ 1 := by omega
  have sd := hF.sd hsd
  have b82 := hF.b82
  have b80 := hF.b80
  have b86 := hF.b86
  have nm := hG.1
  have fm := dMulE (X := 10) (Y := (s : Int)) (x := (10 : Int32)) (y := m.1 70 19) (by decide) sd.1 (by omega) (by omega)
  have fx := dAddE (X := 10 * (s : Int)) (Y := (m.1 82 s).toInt) (x := (10 : Int32) * m.1 70 19) (y := m.1 82 s) fm rfl (by omega) (by omega)
  refine v_X12_tellWire_70 ⟨by omega, ?_⟩
  rw [sd.2]
  generalize hX : (10 : Int32) * m.1 70 19 + m.1 82 s = X at fx ⊢
  have eX : X.toNatClampNeg = 10 * s + (m.1 82 s).toInt.toNat := by
    have := d_cl (x := X) (by omega)
    omega
  have w72 : ∀ (mm : dM) (r1 r2 : Int32), Mv 2 m mm → (-1 ≤ r1.toInt ∧ r1.toInt ≤ 6) → (-1 ≤ r2.toInt ∧ r2.toInt ≤ 6) → (flt mm = 0 → wst mm = 0 → 0 ≤ r1.toInt ∧ 0 ≤ r2.toInt) → j_X12_tellWire_70_72 6 X r1 r2 mm Q := by
    intro mm r1 r2 hm hr1 hr2 hz
    have Fm := hF.mv hm
    have Gm := hG.mv hm (by decide)
    refine v_X12_tellWire_70_72 ⟨by omega, ⟨by omega, ?_⟩⟩
    rw [eX]
    have F1 : PF m0 L s (dSet (dSet mm 83 (10 * s + (m.1 82 s).toInt.toNat) r1) 84 (10 * s + (m.1 82 s).toInt.toNat) r2) := by
      refine PF.set (PF.set Fm hL (by decide) (by decide) (Or.inr ?_) (fun lo hi q => by cases q)) hL (by decide) (by decide) (Or.inr ?_) (fun lo hi q => by cases q)
      · show 10 * s ≤ _ ∧ _ < 10 * s + 10; omega
      · show 10 * s ≤ _ ∧ _ < 10 * s + 10; omega
    generalize hM : dSet (dSet mm 83 (10 * s + (m.1 82 s).toInt.toNat) r1) 84 (10 * s + (m.1 82 s).toInt.toNat) r2 = M at F1 ⊢
    have kM : ∀ k : Nat, k ≠ 83 → k ≠ 84 → M.1 k = mm.1 k := fun k h1 h2 => by rw [← hM, dSet_k h2, dSet_k h1]
    have tM : tt M = tt mm := by unfold tt; rw [kM 70 (by decide) (by decide)]
    have fM : flt M = flt mm := by unfold flt; rw [kM 70 (by decide) (by decide)]
    have uM : wst M = wst mm := by unfold wst; rw [kM 70 (by decide) (by decide)]
    have m83 : ∀ j, M.1 83 j = if j = 10 * s + (m.1 82 s).toInt.toNat then r1 else mm.1 83 j := fun j => by
      rw [← hM, dSet_k (by decide), dSet_e]
      by_cases q : j = 10 * s + (m.1 82 s).toInt.toNat
      · rw [if_pos ⟨rfl, q⟩, if_pos q]
      · rw [if_neg (fun z => q z.2), if_neg q]
    have m84 : ∀ j, M.1 84 j = if j = 10 * s + (m.1 82 s).toInt.toNat then r2 else mm.1 84 j := fun j => by
      rw [← hM, dSet_e]
      by_cases q : j = 10 * s + (m.1 82 s).toInt.toNat
      · rw [if_pos ⟨rfl, q⟩, if_pos q]
      · rw [if_neg (fun z => q z.2), if_neg q, dSet_k (by decide)]
    refine Wp.deep (p_bounded (by rw [tM]; exact hm.2.2.1) (by rw [fM]; exact hm.fl) F1.b75 (by decide) (fun r m1 h1 hr => ⟨by omega, ?_⟩)) (Nat.le_of_ble_eq_true rfl)
    have F2 : PF m0 L s (dSet m1 85 (10 * s + (m.1 82 s).toInt.toNat) r) := PF.set (F1.mv h1) hL (by decide) (by decide) (Or.inr (by show 10 * s ≤ _ ∧ _ < 10 * s + 10; omega)) (fun lo hi q => by cases q)
    have t2 : tt (dSet m1 85 (10 * s + (m.1 82 s).toInt.toNat) r) = tt m1 := rfl
    have f2 : flt (dSet m1 85 (10 * s + (m.1 82 s).toInt.toNat) r) = flt m1 := rfl
    have u2 : wst (dSet m1 85 (10 * s + (m.1 82 s).toInt.toNat) r) = wst m1 := rfl
    refine Wp.deep (p_must (m := dSet m1 85 (10 * s + (m.1 82 s).toInt.toNat) r) h1.2.2.1 h1.fl (fun m2 h2 => ?_)) (Nat.le_of_ble_eq_true rfl)
    have F3 := F2.mv h2
    have q1 := h1.2.2.2.1
    have q2 := h2.2.2.2.1
    have q0 := hm.2.2.2.1
    have tle : tt m ≤ tt m2 := by rcases q0 with a | a <;> rcases q1 with b | b <;> rcases q2 with c | c <;> omega
    refine ⟨fun hf => ?_, fun hf => ?_⟩
    · have hf : flt m2 ≠ 0 := hf
      refine v_X12_tellWire_70_125 (hQ m2 (PI.bad F3 h2.2.2.1 ?_) tle)
      have := h2.fl
      omega
    · have hf : flt m2 = 0 := hf
      have sd3 := F3.sd hsd
      have fmm : flt mm = 0 := by rcases q1 with b | b <;> rcases q2 with c | c <;> omega
      have kk : ∀ k : Nat, k ≠ 70 → k ≠ 83 → k ≠ 84 → k ≠ 85 → m2.1 k = mm.1 k := fun k e1 e2 e3 e4 => by rw [h2.1 k e1, dSet_k e4, h1.1 k e1, kM k e2 e3]
      have k83 : m2.1 83 = M.1 83 := by rw [h2.1 83 (by decide), dSet_k (by decide), h1.1 83 (by decide)]
      have k84 : m2.1 84 = M.1 84 := by rw [h2.1 84 (by decide), dSet_k (by decide), h1.1 84 (by decide)]
      have jj : ∀ j : Nat, j = 12 ∨ j = 20 ∨ j = 40 ∨ j = 46 → m2.1 70 j = mm.1 70 j := fun j e => by rw [h2.2.1 j (by omega) (by omega) (by omega) (by omega) (by omega), dSet_k (by decide), h1.2.1 j (by omega) (by omega) (by omega) (by omega) (by omega), kM 70 (by decide) (by decide)]
      have e82 : m2.1 82 s = m.1 82 s := by rw [kk 82 (by decide) (by decide) (by decide) (by decide), hm.1 82 (by decide)]
      have f82 := dAddE (X := (m.1 82 s).toInt) (Y := 1) (x := m2.1 82 s) (y := (1 : Int32)) (by rw [e82]) (by decide) (by omega) (by omega)
      refine ⟨by omega, ⟨by omega, v_X12_tellWire_70_125 (hQ _ ?_ ?_)⟩⟩
      · rw [sd3.2]
        refine ⟨F3.set hL (by decide) (by decide) (Or.inr (by show 1 * s ≤ s ∧ s < 1 * s + 1; omega)) (fun lo hi q => ?_), h2.2.2.1, by show 0 ≤ flt m2; omega, fun _ => ?_⟩
        · cases q
          omega
        · obtain ⟨g1, g2, g3, g4, g5, g6⟩ := Gm
          have n2 : nms m2 = nms mm := by unfold nms; rw [jj 20 (by omega)]
          have o2 : opn m2 = opn mm := by unfold opn; rw [jj 12 (by omega)]
          have c2 : cds m2 = cds mm := by unfold cds; rw [jj 46 (by omega)]
          have b2 : brs m2 = brs mm := by unfold brs; rw [jj 40 (by omega)]
          have tmm : tt mm ≤ tt m2 := by rcases q1 with b | b <;> rcases q2 with c | c <;> omega
          have W : Wz mm m2 := (Wz.eq uM).tr (h1.2.2.2.2.tr ((Wz.eq u2).tr h2.2.2.2.2))
          refine ⟨?_, by show opn m2 = 0; omega, by show 420 * (s : Int) ≤ cds m2 ∧ cds m2 ≤ 420 * s + tt m2; omega, by show 130 * (s : Int) ≤ brs m2 ∧ 4 * (brs m2 - 130 * s) ≤ tt m2; omega, ?_, ⟨(show 0 ≤ wst m2 from W.2 g6.1), fun w => ?_⟩⟩
          · show nms m2 = (m2.1 80 s).toInt + (m2.1 86 s).toInt
            rw [kk 80 (by decide) (by decide) (by decide) (by decide), kk 86 (by decide) (by decide) (by decide) (by decide)]
            omega
          · exact LB.up (m := mm) (fun k e1 e2 j _ => by rw [dSet_k (by omega), kk k (by omega) (by omega) (by omega) (by omega)]) (fun j _ => by rw [dSet_k (by decide), dSet_k (by decide), kk 102 (by decide) (by decide) (by decide) (by decide), kk 103 (by decide) (by decide) (by decide) (by decide)]; exact ⟨rfl, rfl⟩) (by show brs mm ≤ brs m2; omega) (by show cds mm ≤ cds m2; omega) g5
          · have wm : wst mm = 0 := W.1 w
            have hz := hz fmm wm
            have g6 := g6.2 wm
            refine ⟨fun a ha => ?_, fun a ha => ?_⟩
            · rw [dSet_s] at ha
              rw [dSet_k (by decide), dSet_k (by decide), k83, k84, m83, m84]
              by_cases q : 10 * s + a = 10 * s + (m.1 82 s).toInt.toNat
              · rw [if_pos q, if_pos q]
                omega
              · rw [if_neg q, if_neg q]
                refine g6.1 a ?_
                rw [hm.1 82 (by decide)]
                omega
            · have ha : (a : Int) < (m2.1 86 s).toInt := ha
              rw [kk 86 (by decide) (by decide) (by decide) (by decide)] at ha
              have := g6.2 a ha
              rw [dSet_k (by decide), kk 87 (by decide) (by decide) (by decide) (by decide)]
              exact this
      · exact tle
  refine Wp.deep (p_knownFlat ht (by omega) (by omega) hF.b79 (fun r1 m1 h1 hr1 hz1 => ?_)) (Nat.le_of_ble_eq_true rfl)
  have F1 := hF.mv h1
  have n1 : nms m1 = nms m := by unfold nms; rw [h1.2.1 20 (by decide) (by decide) (by decide) (by decide) (by decide)]
  refine Wp.deep (p_knownFlat h1.2.2.1 h1.fl (by omega) F1.b79 (fun r2 m2 h2 hr2 hz2 => ?_)) (Nat.le_of_ble_eq_true rfl)
  have F2 := F1.mv h2
  have h12 := h1.tr h2 (by decide) (by decide)
  have hz : flt m2 = 0 → wst m2 = 0 → 0 ≤ r1.toInt ∧ 0 ≤ r2.toInt := fun a b => ⟨hz1 (by rcases h2.2.2.2.1 with q | q <;> omega) (h2.2.2.2.2.1 b), hz2 a b⟩
  have go := w72 m2 r1 r2 h12 hr1 hr2 hz
  have h66 : j_X12_tellWire_70_66 6 X r1 (m1.1 70 11) r2 m2 Q := by
    refine v_X12_tellWire_70_66 ?_
    refine Wp.deep (p_wrong h2.2.2.1 h2.fl (by decide) h1.2.2.1 (fun m3 h3 _ => ?_)) (Nat.le_of_ble_eq_true rfl)
    exact w72 m3 r1 r2 (h12.tr h3 (by decide) (by decide)) hr1 hr2 (fun a b => hz (by rcases h3.2.2.2.1 with q | q <;> omega) (h3.2.2.2.2.1 b))
  refine ⟨fun _ => go, fun _ => ⟨fun _ => go, fun _ => ⟨fun _ => go, fun _ => ⟨fun _ => h66, fun _ => ?_⟩⟩⟩⟩
  exact Wp.deep (p_areWired hs (F2.sd hsd) F2.b82 (fun r3 => ⟨fun _ => go, fun _ => h66⟩)) (Nat.le_of_ble_eq_true rfl)
theorem t_use {m : dM} {Q : dM → Prop} (hL : L + s = 1) (hsd : (m0.1 70 19).toInt = s) (hF : PF m0 L s m) (ht : 0 ≤ tt m ∧ tt m ≤ 400) (h0 : flt m = 0) (hG : PG m s) (hw9 : (m.1 86 s).toInt ≤ 7) (hQ : ∀ m', PI m0 L s m' → tt m ≤ tt m' → Q m') : c_X12_tellUse_70 6 m Q := by
  have hs : s ≤ 1 := by omega
  have sd := hF.sd hsd
  have b82 := hF.b82
  have b80 := hF.b80
  have b86 := hF.b86
  have nm := hG.1
  have fm := dMulE (X := 8) (Y := (s : Int)) (x := (8 : Int32)) (y := m.1 70 19) (by decide) sd.1 (by omega) (by omega)
  have fx := dAddE (X := 8 * (s : Int)) (Y := (m.1 86 s).toInt) (x := (8 : Int32) * m.1 70 19) (y := m.1 86 s) fm rfl (by omega) (by omega)
  refine v_X12_tellUse_70 ⟨by omega, ?_⟩
  rw [sd.2]
  generalize hX : (8 : Int32) * m.1 70 19 + m.1 86 s = X at fx ⊢
  have eX : X.toNatClampNeg = 8 * s + (m.1 86 s).toInt.toNat := by
    have := d_cl (x := X) (by omega)
    omega
  refine Wp.deep (p_named ht (by omega) (by omega) (fun r1 m1 h1 hr1 => ?_)) (Nat.le_of_ble_eq_true rfl)
  have F1 := hF.mv h1
  have n1 : nms m1 = nms m := by unfold nms; rw [h1.2.1 20 (by decide) (by decide) (by decide) (by decide) (by decide)]
  refine Wp.deep (p_knownFlat h1.2.2.1 h1.fl (by omega) F1.b79 (fun r2 m2 h2 hr2 hz2 => ?_)) (Nat.le_of_ble_eq_true rfl)
  have F2 := F1.mv h2
  have h12 := h1.tr h2 (by decide) (by decide)
  have G2 := hG.mv h12 (by decide)
  rw [eX]
  have inr : 8 * s ≤ 8 * s + (m.1 86 s).toInt.toNat ∧ 8 * s + (m.1 86 s).toInt.toNat < 8 * s + 8 := by omega
  refine ⟨by omega, ?_⟩
  have F2' : PF m0 L s (dSet m2 87 (8 * s + (m.1 86 s).toInt.toNat) r2) := F2.set hL (by decide) (by decide) (Or.inr inr) (fun lo hi q => by cases q)
  refine Wp.deep (p_bounded (m := dSet m2 87 (8 * s + (m.1 86 s).toInt.toNat) r2) h2.2.2.1 h2.fl F2'.b75 (by decide) (fun r3 m3 h3 hr3 => ⟨by omega, ?_⟩)) (Nat.le_of_ble_eq_true rfl)
  have F3 : PF m0 L s (dSet m3 88 (8 * s + (m.1 86 s).toInt.toNat) r3) := (F2'.mv h3).set hL (by decide) (by decide) (Or.inr inr) (fun lo hi q => by cases q)
  refine Wp.deep (p_bounded (m := dSet m3 88 (8 * s + (m.1 86 s).toInt.toNat) r3) h3.2.2.1 h3.fl F3.b75 (by decide) (fun r4 m4 h4 hr4 => ⟨by omega, ⟨by omega, ?_⟩⟩)) (Nat.le_of_ble_eq_true rfl)
  have F4 : PF m0 L s (dSet m4 89 (8 * s + (m.1 86 s).toInt.toNat) r4) := (F3.mv h4).set hL (by decide) (by decide) (Or.inr inr) (fun lo hi q => by cases q; exact hr4)
  have q3 := h3.2.2.2.1
  have q4 := h4.2.2.2.1
  have k3 : (flt m2 = 0 ∧ flt m3 = 0 ∧ tt m3 = tt m2 + 1) ∨ (0 < flt m3 ∧ tt m2 ≤ tt m3 ∧ tt m3 ≤ tt m2 + 1) := q3
  have k4 : (flt m3 = 0 ∧ flt m4 = 0 ∧ tt m4 = tt m3 + 1) ∨ (0 < flt m4 ∧ tt m3 ≤ tt m4 ∧ tt m4 ≤ tt m3 + 1) := q4
  have kk4 : ∀ k : Nat, k ≠ 70 → k ≠ 87 → k ≠ 88 → m4.1 k = m2.1 k := fun k e1 e2 e3 => by rw [h4.1 k e1, dSet_k e3, h3.1 k e1, dSet_k e2]
  have k87 : m4.1 87 = (dSet m2 87 (8 * s + (m.1 86 s).toInt.toNat) r2).1 87 := by rw [h4.1 87 (by decide), dSet_k (by decide), h3.1 87 (by decide)]
  have jj4 : ∀ j : Nat, j = 12 ∨ j = 20 ∨ j = 40 ∨ j = 46 → m4.1 70 j = m2.1 70 j := fun j e => by rw [h4.2.1 j (by omega) (by omega) (by omega) (by omega) (by omega), dSet_k (by decide), h3.2.1 j (by omega) (by omega) (by omega) (by omega) (by omega), dSet_k (by decide)]
  have w4 : Wz m2 m4 := (show Wz m2 m3 from h3.2.2.2.2).tr (show Wz m3 m4 from h4.2.2.2.2)
  have tail : ∀ x : Int32, 0 ≤ x.toInt ∧ x.toInt ≤ 9999 → c_X12_bounded_70 5 x (23 : Int32) (dSet m4 89 (8 * s + (m.1 86 s).toInt.toNat) r4) (fun r5 m5 => ((0 ≤ X.toInt ∧ X.toInt < 16) ∧ c_X12_endsName_70 5 r1 (-1 : Int32) (dSet m5 90 (8 * s + (m.1 86 s).toInt.toNat) r5) (fun m6 => (((m6.1 70 13).toInt ≠ 0 → j_X12_tellUse_70_118 (5 + 1) m6 Q) ∧ ((m6.1 70 13).toInt = 0 → ((0 ≤ (m6.1 70 19).toInt ∧ (m6.1 70 19).toInt < 2) ∧ ((0 ≤ (m6.1 70 19).toInt ∧ (m6.1 70 19).toInt < 2) ∧ j_X12_tellUse_70_118 (5 + 1) (dSet m6 86 (m6.1 70 19).toNatClampNeg ((m6.1 86 (m6.1 70 19).toNatClampNeg) + (1 : Int32))) Q))))))) := by
    intro x hx
    refine Wp.deep (p_bounded (m := dSet m4 89 (8 * s + (m.1 86 s).toInt.toNat) r4) h4.2.2.1 h4.fl F4.b75 hx (fun r5 m5 h5 hr5 => ⟨by omega, ?_⟩)) (Nat.le_of_ble_eq_true rfl)
    have F5 : PF m0 L s (dSet m5 90 (8 * s + (m.1 86 s).toInt.toNat) r5) := (F4.mv h5).set hL (by decide) (by decide) (Or.inr inr) (fun lo hi q => by cases q; exact hr5)
    have k5 : (flt m4 = 0 ∧ flt m5 = 0 ∧ tt m5 = tt m4 + 1) ∨ (0 < flt m5 ∧ tt m4 ≤ tt m5 ∧ tt m5 ≤ tt m4 + 1) := h5.2.2.2.1
    have kk5 : ∀ k : Nat, k ≠ 70 → k ≠ 87 → k ≠ 88 → k ≠ 89 → m5.1 k = m2.1 k := fun k e1 e2 e3 e4 => by rw [h5.1 k e1, dSet_k e4, kk4 k e1 e2 e3]
    have jj5 : ∀ j : Nat, j = 12 ∨ j = 20 ∨ j = 40 ∨ j = 46 → m5.1 70 j = m2.1 70 j := fun j e => by rw [h5.2.1 j (by omega) (by omega) (by omega) (by omega) (by omega), dSet_k (by decide), jj4 j e]
    have n5 : nms (dSet m5 90 (8 * s + (m.1 86 s).toInt.toNat) r5) = nms m := by
      show (m5.1 70 20).toInt = _
      rw [jj5 20 (by omega), h12.2.1 20 (by decide) (by decide) (by decide) (by decide) (by decide)]
      rfl
    have q12 := h12.2.2.2.1
    refine Wp.deep (p_endsName (m := dSet m5 90 (8 * s + (m.1 86 s).toInt.toNat) r5) h5.2.2.1 h5.fl hr1 (fun _ => by omega) (fun m6 h6 hf6 => ?_) (fun m6 h6 hf6 hfM => ?_)) (Nat.le_of_ble_eq_true rfl)
    · have F6 := F5.mv h6
      have k6 : (flt m5 = 0 ∧ flt m6 = 0 ∧ tt m6 = tt m5 + 1) ∨ (0 < flt m6 ∧ tt m5 ≤ tt m6 ∧ tt m6 ≤ tt m5 + 1) := h6.2.2.2.1
      refine ⟨fun _ => v_X12_tellUse_70_118 (hQ m6 (PI.bad F6 h6.2.2.1 hf6) ?_), fun q => ?_⟩
      · rcases q12 with a | a <;> rcases k3 with b | b <;> rcases k4 with c | c <;> rcases k5 with d | d <;> rcases k6 with e | e <;> omega
      · have q : flt m6 = 0 := q
        exfalso; omega
    · have F6 := F5.mv h6
      have k6 : (flt m5 = 0 ∧ flt m6 = 0 ∧ tt m6 = tt m5 + 1) ∨ (0 < flt m6 ∧ tt m5 ≤ tt m6 ∧ tt m6 ≤ tt m5 + 1) := h6.2.2.2.1
      have f5 : flt m5 = 0 := by rcases k6 with e | e <;> omega
      have f4 : flt m4 = 0 := by rcases k5 with e | e <;> omega
      have f3 : flt m3 = 0 := by rcases k4 with e | e <;> omega
      have f2 : flt m2 = 0 := by rcases k3 with e | e <;> omega
      have tt2 : tt m2 ≤ tt m6 := by rcases k3 with b | b <;> rcases k4 with c | c <;> rcases k5 with d | d <;> rcases k6 with e | e <;> omega
      have tt0 : tt m ≤ tt m6 := by rcases q12 with a | a <;> omega
      have kk6 : ∀ k : Nat, k ≠ 70 → k ≠ 87 → k ≠ 88 → k ≠ 89 → k ≠ 90 → m6.1 k = m2.1 k := fun k e1 e2 e3 e4 e5 => by rw [h6.1 k e1, dSet_k e5, kk5 k e1 e2 e3 e4]
      have k87' : m6.1 87 = (dSet m2 87 (8 * s + (m.1 86 s).toInt.toNat) r2).1 87 := by rw [h6.1 87 (by decide), dSet_k (by decide), h5.1 87 (by decide), dSet_k (by decide), k87]
      have jj6 : ∀ j : Nat, j = 12 ∨ j = 20 ∨ j = 40 ∨ j = 46 → m6.1 70 j = m2.1 70 j := fun j e => by rw [h6.2.1 j (by omega) (by omega) (by omega) (by omega) (by omega), dSet_k (by decide), jj5 j e]
      have w6 : Wz m2 m6 := w4.tr ((show Wz m4 m5 from h5.2.2.2.2).tr (show Wz m5 m6 from h6.2.2.2.2))
      have n6 : nms m6 = nms m := by
        have : m6.1 70 20 = m2.1 70 20 := jj6 20 (by omega)
        unfold nms
        rw [this, h12.2.1 20 (by decide) (by decide) (by decide) (by decide) (by decide)]
      have e20 : (m6.1 70 20).toInt = nms m6 := rfl
      have fn := dAddE (X := nms m6) (Y := 1) (x := m6.1 70 20) (y := (1 : Int32)) rfl (by decide) (by omega) (by omega)
      have e86 : m6.1 86 s = m.1 86 s := by rw [kk6 86 (by decide) (by decide) (by decide) (by decide) (by decide), h12.1 86 (by decide)]
      have f86 := dAddE (X := (m.1 86 s).toInt) (Y := 1) (x := m6.1 86 s) (y := (1 : Int32)) (by rw [e86]) (by decide) (by omega) (by omega)
      have F7 : PF m0 L s (dSet (dSet (dSetL m6 78 (m6.1 70 20).toNatClampNeg (m6.2.1 76 r1.toNatClampNeg)) 79 (m6.1 70 20).toNatClampNeg (-1 : Int32)) 70 20 ((m6.1 70 20) + (1 : Int32))) := by
        refine PF.set70 (PF.set (show PF m0 L s (dSetL m6 78 (m6.1 70 20).toNatClampNeg (m6.2.1 76 r1.toNatClampNeg)) from F6) hL (by decide) (by decide) (Or.inl rfl) (fun lo hi q => ?_)) (by decide) (by decide) (by decide) (by decide)
        cases q
        decide
      have sd7 := F7.sd hsd
      refine ⟨fun q => absurd hf6 q, fun _ => ⟨by omega, ⟨by omega, v_X12_tellUse_70_118 (hQ _ ?_ ?_)⟩⟩⟩
      · rw [sd7.2]
        refine ⟨F7.set hL (by decide) (by decide) (Or.inr (by show 1 * s ≤ s ∧ s < 1 * s + 1; omega)) (fun lo hi q => ?_), h6.2.2.1, by show 0 ≤ flt m6; omega, fun _ => ?_⟩
        · cases q
          show 0 ≤ (m6.1 86 s + (1 : Int32)).toInt ∧ (m6.1 86 s + (1 : Int32)).toInt ≤ 8
          omega
        · obtain ⟨g1, g2, g3, g4, g5, g6⟩ := G2
          have o2 : opn m6 = opn m2 := by unfold opn; rw [jj6 12 (by omega)]
          have c2 : cds m6 = cds m2 := by unfold cds; rw [jj6 46 (by omega)]
          have b2 : brs m6 = brs m2 := by unfold brs; rw [jj6 40 (by omega)]
          refine ⟨?_, by show opn m6 = 0; omega, by show 420 * (s : Int) ≤ cds m6 ∧ cds m6 ≤ 420 * s + tt m6; omega, by show 130 * (s : Int) ≤ brs m6 ∧ 4 * (brs m6 - 130 * s) ≤ tt m6; omega, ?_, ⟨(show 0 ≤ wst m6 from w6.2 g6.1), fun w => ?_⟩⟩
          · show (m6.1 70 20 + (1 : Int32)).toInt = (m6.1 80 s).toInt + _
            rw [dSet_s]
            show (m6.1 70 20 + (1 : Int32)).toInt = (m6.1 80 s).toInt + (m6.1 86 s + (1 : Int32)).toInt
            have e80 : m6.1 80 s = m.1 80 s := by rw [kk6 80 (by decide) (by decide) (by decide) (by decide) (by decide), h12.1 80 (by decide)]
            rw [e80]
            omega
          · exact LB.up (m := m2) (fun k e1 e2 j _ => by rw [dSet_k (by omega), dSet_k (by omega), dSet_k (by omega)]; show m6.1 k j = _; rw [kk6 k (by omega) (by omega) (by omega) (by omega) (by omega)]) (fun j _ => by show m6.1 102 j = _ ∧ m6.1 103 j = _; rw [kk6 102 (by decide) (by decide) (by decide) (by decide) (by decide), kk6 103 (by decide) (by decide) (by decide) (by decide) (by decide)]; exact ⟨rfl, rfl⟩) (by show brs m2 ≤ brs m6; omega) (by show cds m2 ≤ cds m6; omega) g5
          · have w : wst m6 = 0 := w
            have g6 := g6.2 (w6.1 w)
            have hz := hz2 f2 (w6.1 w)
            refine ⟨fun a ha => ?_, fun a ha => ?_⟩
            · have ha : (a : Int) < (m6.1 82 s).toInt := ha
              rw [kk6 82 (by decide) (by decide) (by decide) (by decide) (by decide)] at ha
              have := g6.1 a ha
              show (0 ≤ (m6.1 83 _).toInt ∧ (m6.1 83 _).toInt ≤ 6) ∧ (0 ≤ (m6.1 84 _).toInt ∧ (m6.1 84 _).toInt ≤ 6)
              rw [kk6 83 (by decide) (by decide) (by decide) (by decide) (by decide), kk6 84 (by decide) (by decide) (by decide) (by decide) (by decide)]
              exact this
            · rw [dSet_s] at ha
              have ha : (a : Int) < (m6.1 86 s + (1 : Int32)).toInt := ha
              show 0 ≤ (m6.1 87 (8 * s + a)).toInt ∧ (m6.1 87 (8 * s + a)).toInt ≤ 6
              rw [k87', dSet_e]
              by_cases q : 8 * s + a = 8 * s + (m.1 86 s).toInt.toNat
              · rw [if_pos ⟨rfl, q⟩]
                omega
              · rw [if_neg (fun z => q z.2)]
                refine g6.2 a ?_
                rw [h12.1 86 (by decide)]
                omega
      · exact tt0
  exact ⟨fun hc => ⟨by omega, tail r4 hr4⟩, fun _ => tail 0 (by decide)⟩
end TEW
end
