/-! THE REFERENCE's read, 2: an expression (by hand) -/
def gDp (g : gM) : Nat → Nat → Nat → Nat → Prop
  | 0, _, t, t' => t = t'
  | n + 1, p, t, t' => ((g 102 p).toInt < 2 ∧ ((g 102 p).toInt ≠ 0 → 0 ≤ (g 103 p).toInt ∧ (g 103 p).toInt ≤ 8) ∧ gDp g n (p + 1) (t + 1) t') ∨ ((2 ≤ (g 102 p).toInt ∧ (g 102 p).toInt ≤ 5) ∧ 2 ≤ t ∧ gDp g n (p + 1) (t - 1) t')
theorem gDp_seg {g : gM} : ∀ {n p t t' : Nat}, gDp g n p t t' → gSeg g n p t
  | 0, _, _, _, _ => trivial
  | n + 1, p, t, t', h => by
    rcases h with ⟨a, b, c⟩ | ⟨a, b, c⟩
    · exact Or.inl ⟨a, b, gDp_seg c⟩
    · exact Or.inr ⟨a, b, gDp_seg c⟩
theorem gDp_congr {g g' : gM} : ∀ {n p t t' : Nat}, (∀ j, p ≤ j → j < p + n → g' 102 j = g 102 j ∧ g' 103 j = g 103 j) → gDp g n p t t' → gDp g' n p t t'
  | 0, _, _, _, _, h => h
  | n + 1, p, t, t', hc, h => by
    have e := hc p (Nat.le_refl _) (by omega)
    have hc' : ∀ j, p + 1 ≤ j → j < p + 1 + n → g' 102 j = g 102 j ∧ g' 103 j = g 103 j := fun j h1 h2 => hc j (by omega) (by omega)
    rcases h with ⟨a, b, c⟩ | ⟨a, b, c⟩
    · left; rw [e.1, e.2]; exact ⟨a, b, gDp_congr hc' c⟩
    · right; rw [e.1]; exact ⟨a, b, gDp_congr hc' c⟩
theorem gDp_push {g : gM} : ∀ {n p t t' : Nat}, gDp g n p t t' → (g 102 (p + n)).toInt < 2 → ((g 102 (p + n)).toInt ≠ 0 → 0 ≤ (g 103 (p + n)).toInt ∧ (g 103 (p + n)).toInt ≤ 8) → gDp g (n + 1) p t (t' + 1)
  | 0, p, t, t', h, a, b => by
    have h : t = t' := h
    subst h
    exact Or.inl ⟨a, b, rfl⟩
  | n + 1, p, t, t', h, a, b => by
    have e : p + (n + 1) = (p + 1) + n := by omega
    rw [e] at a b
    rcases h with ⟨a1, b1, c⟩ | ⟨a1, b1, c⟩
    · exact Or.inl ⟨a1, b1, gDp_push c a b⟩
    · exact Or.inr ⟨a1, b1, gDp_push c a b⟩
theorem gDp_op {g : gM} : ∀ {n p t t' : Nat}, gDp g n p t (t' + 1) → (2 ≤ (g 102 (p + n)).toInt ∧ (g 102 (p + n)).toInt ≤ 5) → 1 ≤ t' → gDp g (n + 1) p t t'
  | 0, p, t, t', h, a, b => by
    have h : t = t' + 1 := h
    subst h
    exact Or.inr ⟨a, by omega, rfl⟩
  | n + 1, p, t, t', h, a, b => by
    have e : p + (n + 1) = (p + 1) + n := by omega
    rw [e] at a
    rcases h with ⟨a1, b1, c⟩ | ⟨a1, b1, c⟩
    · exact Or.inl ⟨a1, b1, gDp_op c a b⟩
    · exact Or.inr ⟨a1, b1, gDp_op c a b⟩
/-- what waits: o opens, p signs, and what is on top (0 nothing or an open, 1 a weak sign, 2 a strong one) -/
def Wk (f : Nat → Int32) : Nat → Nat → Nat → Nat → Prop
  | 0, o, p, c => o = 0 ∧ p = 0 ∧ c = 0
  | n + 1, o, p, c => ((f n).toInt = 6 ∧ c = 0 ∧ ∃ o' c', o = o' + 1 ∧ Wk f n o' p c') ∨ (((f n).toInt = 8 ∨ (f n).toInt = 9) ∧ c = 1 ∧ ∃ p', p = p' + 1 ∧ Wk f n o p' 0) ∨ (((f n).toInt = 10 ∨ (f n).toInt = 15) ∧ c = 2 ∧ ∃ p' c', p = p' + 1 ∧ c' ≤ 1 ∧ Wk f n o p' c')
theorem Wk_congr {f f' : Nat → Int32} : ∀ {n o p c : Nat}, (∀ j, j < n → f' j = f j) → Wk f n o p c → Wk f' n o p c
  | 0, _, _, _, _, h => h
  | n + 1, o, p, c, hc, h => by
    have e := hc n (by omega)
    have hc' : ∀ j, j < n → f' j = f j := fun j hj => hc j (by omega)
    unfold Wk at h ⊢
    rw [e]
    rcases h with ⟨a, b, o', c', d, w⟩ | ⟨a, b, p', d, w⟩ | ⟨a, b, p', c', d, i, w⟩
    · exact Or.inl ⟨a, b, o', c', d, Wk_congr hc' w⟩
    · exact Or.inr (Or.inl ⟨a, b, p', d, Wk_congr hc' w⟩)
    · exact Or.inr (Or.inr ⟨a, b, p', c', d, i, Wk_congr hc' w⟩)
theorem Wk_len {f : Nat → Int32} : ∀ {n o p c : Nat}, Wk f n o p c → n = o + p ∧ p ≤ 2 * o + c ∧ c ≤ 2
  | 0, o, p, c, h => by obtain ⟨a, b, d⟩ := h; omega
  | n + 1, o, p, c, h => by
    unfold Wk at h
    rcases h with ⟨a, b, o', c', d, w⟩ | ⟨a, b, p', d, w⟩ | ⟨a, b, p', c', d, i, w⟩ <;> (have := Wk_len w; omega)
def CoF (m : dM) (p : Nat) (m' : dM) : Prop := (∀ k : Nat, k ≠ 70 → k ≠ 102 → k ≠ 103 → m'.1 k = m.1 k) ∧ (∀ j : Nat, j ≠ 46 → j ≠ 50 → m'.1 70 j = m.1 70 j) ∧ (∀ j : Nat, ((j : Int) < cds m ∨ cds m + p ≤ j) → m'.1 102 j = m.1 102 j ∧ m'.1 103 j = m.1 103 j)
theorem co_0 {x1 : Int32} {Q : dM → Prop} {c0 : Nat} {B : Int} (hB : B ≤ 839) : ∀ (n : Nat) (m : dM) (o p c q : Nat), n ≤ 64 → wtg m = n → Wk (m.1 104) n o p c → cds m = c0 + q → gDp m.1 q c0 0 (p + 1) → cds m + p ≤ B →
    (∀ (m' : dM) (n' p' c' q' : Nat), CoF m p m' → wtg m' = n' → Wk (m'.1 104) n' o p' c' → c' ≤ 1 → (x1.toInt = 0 → c' = 0) → cds m' = c0 + q' → gDp m'.1 q' c0 0 (p' + 1) → cds m' + p' = cds m + p → q ≤ q' → Q m') → j_X12_comesOut_70_0 2 x1 m Q := by
  intro n
  induction n with
  | zero =>
    intro m o p c q hn hw hW hc hD hB' hQ
    have hW' : o = 0 ∧ p = 0 ∧ c = 0 := hW
    refine v_X12_comesOut_70_0 ⟨fun _ => hQ m 0 p c q ⟨fun _ _ _ _ => rfl, fun _ _ _ => rfl, fun _ _ => ⟨rfl, rfl⟩⟩ hw hW (by omega) (fun _ => hW'.2.2) hc hD rfl (Nat.le_refl _), fun h => ?_⟩
    have h : 0 < wtg m := h
    exfalso; omega
  | succ n ih =>
    intro m o p c q hn hw hW hc hD hB' hQ
    have ew : (m.1 70 50).toInt = wtg m := rfl
    have ec : (m.1 70 46).toInt = cds m := rfl
    have f := dSubE (X := wtg m) (Y := 1) (x := m.1 70 50) (y := (1 : Int32)) rfl (by decide) (by omega) (by omega)
    have ei : (m.1 70 50 - (1 : Int32)).toNatClampNeg = n := by
      have := d_cl (x := m.1 70 50 - (1 : Int32)) (by omega)
      omega
    have stay : c ≤ 1 → (x1.toInt = 0 → c = 0) → j_X12_comesOut_70_41 2 m Q := fun h1 h2 => v_X12_comesOut_70_41 (hQ m (n + 1) p c q ⟨fun _ _ _ _ => rfl, fun _ _ _ => rfl, fun _ _ => ⟨rfl, rfl⟩⟩ hw hW h1 h2 hc hD rfl (Nat.le_refl _))
    have out : ∀ (p1 c1 : Nat), p = p1 + 1 → Wk (m.1 104) n o p1 c1 → ∀ code : Int32, 2 ≤ code.toInt ∧ code.toInt ≤ 5 → c_X12_emit_70 1 code (0 : Int32) (dSet m 70 50 ((m.1 70 50) - (1 : Int32))) (fun m1 => j_X12_comesOut_70_0 2 x1 m1 Q) := by
      intro p1 c1 hp hW1 code hcode
      refine v_X12_emit_70 ?_
      have ec' : ((dSet m 70 50 ((m.1 70 50) - (1 : Int32))).1 70 46) = m.1 70 46 := rfl
      rw [ec']
      have fc := dAddE (X := cds m) (Y := 1) (x := m.1 70 46) (y := (1 : Int32)) rfl (by decide) (by omega) (by omega)
      have eC : (m.1 70 46).toNatClampNeg = c0 + q := by
        have := d_cl (x := m.1 70 46) (by omega)
        omega
      refine ⟨by omega, ⟨by omega, ?_⟩⟩
      rw [eC]
      have r2 : ∀ j, j ≠ c0 + q → (dSet (dSet (dSet (dSet m 70 50 ((m.1 70 50) - (1 : Int32))) 102 (c0 + q) code) 103 (c0 + q) (0 : Int32)) 70 46 ((m.1 70 46) + (1 : Int32))).1 102 j = m.1 102 j ∧ (dSet (dSet (dSet (dSet m 70 50 ((m.1 70 50) - (1 : Int32))) 102 (c0 + q) code) 103 (c0 + q) (0 : Int32)) 70 46 ((m.1 70 46) + (1 : Int32))).1 103 j = m.1 103 j := fun j hj => by
        constructor
        · rw [dSet_k (by decide), dSet_k (by decide), dSet_j hj, dSet_k (by decide)]
        · rw [dSet_k (by decide), dSet_j hj, dSet_k (by decide), dSet_k (by decide)]
      have r1 : (dSet (dSet (dSet (dSet m 70 50 ((m.1 70 50) - (1 : Int32))) 102 (c0 + q) code) 103 (c0 + q) (0 : Int32)) 70 46 ((m.1 70 46) + (1 : Int32))).1 102 (c0 + q) = code := by rw [dSet_k (by decide), dSet_k (by decide), dSet_s]
      generalize hM : (dSet (dSet (dSet (dSet m 70 50 ((m.1 70 50) - (1 : Int32))) 102 (c0 + q) code) 103 (c0 + q) (0 : Int32)) 70 46 ((m.1 70 46) + (1 : Int32))) = M at r1 r2 ⊢
      have w1 : wtg M = n := by rw [← hM]; show (m.1 70 50 - (1 : Int32)).toInt = n; omega
      have w2 : cds M = c0 + (q + 1 : Nat) := by rw [← hM]; show (m.1 70 46 + (1 : Int32)).toInt = _; omega
      have w3 : ∀ k : Nat, k ≠ 70 → k ≠ 102 → k ≠ 103 → M.1 k = m.1 k := fun k h1 h2 h3 => by rw [← hM, dSet_k h1, dSet_k h3, dSet_k h2, dSet_k h1]
      have w4 : ∀ j : Nat, j ≠ 46 → j ≠ 50 → M.1 70 j = m.1 70 j := fun j h1 h2 => by rw [← hM, dSet_j h1, dSet_k (by decide), dSet_k (by decide), dSet_j h2]
      have hD1 : gDp M.1 (q + 1) c0 0 (p1 + 1) := by
        refine gDp_op (gDp_congr (fun j h1 h2 => r2 j (by omega)) (by rw [← hp]; exact hD)) ?_ (by omega)
        rw [r1]; exact hcode
      refine ih M o p1 c1 (q + 1) (by omega) w1 (by rw [w3 104 (by decide) (by decide) (by decide)]; exact hW1) w2 hD1 (by omega) ?_
      intro m' n' p' c' q' hF a1 a2 a3 a4 a5 a6 a7 a8
      refine hQ m' n' p' c' q' ⟨fun k h1 h2 h3 => (hF.1 k h1 h2 h3).trans (w3 k h1 h2 h3), fun j h1 h2 => (hF.2.1 j h1 h2).trans (w4 j h1 h2), fun j hj => ?_⟩ a1 a2 a3 a4 a5 a6 (by omega) (by omega)
      have g1 := hF.2.2 j (by omega)
      have g2 := r2 j (by omega)
      exact ⟨g1.1.trans g2.1, g1.2.trans g2.2⟩
    refine v_X12_comesOut_70_0 ⟨fun h => by have h : wtg m ≤ 0 := h; exfalso; omega, fun _ => ⟨by omega, ?_⟩⟩
    rw [ei]
    have hW0 := hW
    unfold Wk at hW0
    rcases hW0 with ⟨a, b, o', c', d, w⟩ | ⟨a, b, p', d, w⟩ | ⟨a, b, p', c', d, i, w⟩
    · exact ⟨fun _ => stay (by omega) (fun _ => b), fun h => absurd a h⟩
    · have em : ∀ y : Int32, y = m.1 104 n → j_X12_comesOut_70_42 2 x1 y m Q := fun y hy => by
        subst hy
        refine v_X12_comesOut_70_42 ⟨fun _ => ⟨fun _ => ⟨fun _ => out p' 0 d w _ (by decide), fun _ => out p' 0 d w _ (by decide)⟩, fun _ => out p' 0 d w _ (by decide)⟩, fun _ => out p' 0 d w _ (by decide)⟩
      refine ⟨fun h => by exfalso; omega, fun _ => ⟨fun _ => em _ rfl, fun hx => ⟨fun _ => stay (by omega) (fun h => absurd h hx), fun h8 => ⟨fun h9 => by exfalso; omega, fun _ => stay (by omega) (fun h => absurd h hx)⟩⟩⟩⟩
    · have em : ∀ y : Int32, y = m.1 104 n → j_X12_comesOut_70_42 2 x1 y m Q := fun y hy => by
        subst hy
        refine v_X12_comesOut_70_42 ⟨fun _ => ⟨fun _ => ⟨fun _ => out p' c' d w _ (by decide), fun _ => out p' c' d w _ (by decide)⟩, fun _ => out p' c' d w _ (by decide)⟩, fun _ => out p' c' d w _ (by decide)⟩
      refine ⟨fun h => by exfalso; omega, fun _ => ⟨fun _ => em _ rfl, fun hx => ⟨fun h => by exfalso; omega, fun h8 => ⟨fun h9 => em _ rfl, fun h => by exfalso; omega⟩⟩⟩⟩
