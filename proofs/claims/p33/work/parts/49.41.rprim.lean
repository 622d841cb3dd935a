/-! THE REFERENCE's parser, exactly: names and numbers -/
section RNA
variable {K : Nat → Int} {V : Nat → Int64} {P : Nat → Nat} {m : dM} {r W : gR}
theorem wadd_w {W w : gR} : wadd (wadd W w) w = wadd W w := by
  unfold wadd
  by_cases z : W.1 = 0
  · rw [if_pos z]
    by_cases z2 : w.1 = 0
    · rw [if_pos z2]
    · rw [if_neg z2]
  · rw [if_neg z, if_neg z]
theorem q_named {n N : Nat} {Q : Int32 → dM → Prop} (hv : ∀ i, vk (K i)) (hP : ∀ i j : Nat, i < j → lvK K j → P i < P j) (hR : RM K V P m) (h : ST K P m (0, n) W) (hN : nms m = (N : Int)) (hN2 : N ≤ 15) (hW : W.1 ≠ 0 → W.2 < n) (hQ : ∀ (m' : dM) (W' : gR), Cx m m' → ST K P m' (gnd K 22 n) W' → ((gnd K 22 n).1 = 0 → ((∃ k : Nat, k < N ∧ m.2.1 78 k = V n) ∧ W' = wadd W (3, n)) ∨ ((∀ k : Nat, k < N → m.2.1 78 k ≠ V n) ∧ W' = W)) → Q (m.1 70 11) m') : c_X12_named_70 4 m Q := by
  obtain ⟨a1, a2, a3, a4, a5⟩ := h.1 rfl
  have a2 : (m.1 70 11).toInt = (n : Int) := a2
  have a3 : n ≤ 400 := a3
  refine v_X12_named_70 (q_must hv hR h (k := 22) (by decide) (Or.inl (by decide)) (by decide) (fun m1 c1 h1 => ?_))
  have h1 : ST K P m1 (gnd K 22 n) W := h1
  have eN : ∀ m' : dM, Cx m m' → (m'.1 70 20).toInt = (N : Int) := fun m' c => by rw [c.2.1 20 (by decide) (by decide) (by decide) (by decide) (by decide)]; exact hN
  by_cases z : (gnd K 22 n).1 = 0
  · have hk : K n = 22 := (gnd_0 z).2.1
    have loop : ∀ (f i : Nat) (x2 : Int32) (m' : dM) (W' : gR), i + f = N → x2.toInt = i → Cx m m' → ST K P m' (gnd K 22 n) W' → (((∃ k : Nat, k < i ∧ m.2.1 78 k = V n) ∧ W' = wadd W (3, n)) ∨ ((∀ k : Nat, k < i → m.2.1 78 k ≠ V n) ∧ W' = W)) → j_X12_named_70_12 4 (m.1 70 11) x2 m' Q := by
      intro f
      induction f with
      | zero =>
        intro i x2 m' W' hi h2 hc h' hw
        have e := eN m' hc
        refine v_X12_named_70_12 ⟨fun _ => v_X12_named_70_55 (hQ m' W' hc h' (fun _ => ?_)), fun q => by exfalso; omega⟩
        rw [show N = i by omega]
        exact hw
      | succ f ih =>
        intro i x2 m' W' hi h2 hc h' hw
        have e := eN m' hc
        have hf := h'.fl
        refine v_X12_named_70_12 ⟨fun q => by exfalso; omega, fun _ => ⟨fun q => absurd (hf.2.mpr z) q, fun _ => ⟨by omega, by omega, ?_⟩⟩⟩
        rw [d_cn h2, d_cn a2]
        have e76 : m'.2.1 76 n = V n := by rw [hc.2.2]; exact (hR n a3 a4).2.2.1 (by omega)
        have e78 : m'.2.1 78 i = m.2.1 78 i := by rw [hc.2.2]
        rw [e76, e78]
        have hcm := dCmpE (m.2.1 78 i) (V n)
        refine ⟨fun q => v_X12_named_70_49 (ih (i + 1) _ m' W' (by omega) (d_inc h2 (by omega)) hc h' ?_), fun q => ?_⟩
        · have ne : m.2.1 78 i ≠ V n := fun e => q (hcm.2.2.mpr e)
          rcases hw with ⟨⟨k, k1, k2⟩, w⟩ | ⟨k1, w⟩
          · exact Or.inl ⟨⟨k, by omega, k2⟩, w⟩
          · refine Or.inr ⟨fun k hk => ?_, w⟩
            by_cases ek : k = i
            · rw [ek]; exact ne
            · exact k1 k (by omega)
        · have eq : m.2.1 78 i = V n := hcm.2.2.mp q
          refine Wp.deep (q_wrong (c := 3) (tok := n) hP (hR.cx hc) h' (by decide) (by decide) a2 a3 (fun _ => a4) (fun _ w0 => ?_) (fun m2 c2 _ h2' => v_X12_named_70_49 (ih (i + 1) _ m2 (wadd W' (3, n)) (by omega) (d_inc h2 (by omega)) (hc.tr c2) h2' (Or.inl ⟨⟨i, by omega, eq⟩, ?_⟩)))) (Nat.le_of_ble_eq_true rfl)
          · rcases hw with ⟨-, w⟩ | ⟨-, w⟩
            · rw [w] at w0 ⊢
              unfold wadd at w0 ⊢
              by_cases q0 : W.1 = 0
              · rw [if_pos q0]; exact Or.inr ⟨rfl, Nat.le_refl _⟩
              · rw [if_neg q0] at w0 ⊢; exact Or.inl (hW w0)
            · rw [w] at w0 ⊢; exact Or.inl (hW w0)
          · rcases hw with ⟨-, w⟩ | ⟨-, w⟩
            · rw [w]; exact wadd_w
            · rw [w]
    exact loop N 0 _ m1 W (by omega) (by decide) c1 h1 (Or.inr ⟨fun k hk => by omega, rfl⟩)
  · have hf := h1.fl
    have e := eN m1 c1
    have fin : j_X12_named_70_55 4 (m.1 70 11) m1 Q := v_X12_named_70_55 (hQ m1 W c1 h1 (fun q => absurd q z))
    exact v_X12_named_70_12 ⟨fun _ => fin, fun _ => ⟨fun _ => fin, fun q => absurd (hf.2.mp q) z⟩⟩
theorem q_knownFlat {N : Nat} {Q : Int32 → dM → Prop} (hv : ∀ i, vk (K i)) (hP : ∀ i j : Nat, i < j → lvK K j → P i < P j) (hR : RM K V P m) (h : ST K P m r W) (hN : nms m = (N : Int)) (hN2 : N ≤ 15) (hW : r.1 = 0 → W.1 ≠ 0 → W.2 < r.2) (hQ : ∀ (v : Int32) (m' : dM) (W' : gR), Cx m m' → ST K P m' (rb r (gnd K 22)) W' → ((rb r (gnd K 22)).1 = 0 → ((∃ k : Nat, k < N ∧ m.2.1 78 k = V r.2 ∧ 0 ≤ (m.1 79 k).toInt ∧ v = m.1 79 k) ∧ W' = W) ∨ ((∀ k : Nat, k < N → m.2.1 78 k = V r.2 → (m.1 79 k).toInt < 0) ∧ v = -1 ∧ W' = wadd W (4, r.2))) → Q v m') : c_X12_knownFlat_70 4 m Q := by
  refine v_X12_knownFlat_70 (q_must hv hR h (k := 22) (by decide) (Or.inl (by decide)) (by decide) (fun m1 c1 h1 => ?_))
  have hf := h1.fl
  have ef : (m1.1 70 13).toInt = flt m1 := rfl
  have eN : (m1.1 70 20).toInt = (N : Int) := by rw [c1.2.1 20 (by decide) (by decide) (by decide) (by decide) (by decide)]; exact hN
  refine ⟨fun q => ?_, fun q => hQ _ m1 W c1 h1 (fun z => by have := hf.2.mpr z; exfalso; omega)⟩
  have z : (rb r (gnd K 22)).1 = 0 := hf.2.mp (by omega)
  have zr := (rb_z z).1
  obtain ⟨a1, a2, a3, a4, a5⟩ := h.1 zr
  have a2 : (m.1 70 11).toInt = (r.2 : Int) := a2
  have hk : K r.2 = 22 := by
    have z2 := z
    rw [(rb_z z).2] at z2
    exact (gnd_0 z2).2.1
  have loop : ∀ (f i : Nat) (x2 : Int32), i + f = N → x2.toInt = i → (∀ k : Nat, k < i → m.2.1 78 k = V r.2 → (m.1 79 k).toInt < 0) → j_X12_knownFlat_70_21 4 (m.1 70 11) x2 m1 Q := by
    intro f
    induction f with
    | zero =>
      intro i x2 hi h2 hw
      refine v_X12_knownFlat_70_21 ⟨fun _ => Wp.deep (q_wrong (c := 4) (tok := r.2) hP (hR.cx c1) h1 (by decide) (by decide) a2 a3 (fun _ => a4) (fun _ w0 => Or.inl (hW zr w0)) (fun m2 c2 _ h2' => hQ _ m2 _ (c1.tr c2) h2' (fun _ => Or.inr ⟨?_, rfl, rfl⟩))) (Nat.le_of_ble_eq_true rfl), fun q => by exfalso; omega⟩
      rw [show N = i by omega]
      exact hw
    | succ f ih =>
      intro i x2 hi h2 hw
      refine v_X12_knownFlat_70_21 ⟨fun q => by exfalso; omega, fun _ => ⟨by omega, by omega, ?_⟩⟩
      rw [d_cn h2, d_cn a2]
      have e76 : m1.2.1 76 r.2 = V r.2 := by rw [c1.2.2]; exact (hR r.2 a3 a4).2.2.1 (by omega)
      have e78 : m1.2.1 78 i = m.2.1 78 i := by rw [c1.2.2]
      have e79 : m1.1 79 i = m.1 79 i := by rw [c1.1 79 (by decide)]
      rw [e76, e78, e79]
      have hcm := dCmpE (m.2.1 78 i) (V r.2)
      have next : (m.2.1 78 i = V r.2 → (m.1 79 i).toInt < 0) → j_X12_knownFlat_70_61 4 (m.1 70 11) x2 m1 Q := fun hn => v_X12_knownFlat_70_61 (ih (i + 1) _ (by omega) (d_inc h2 (by omega)) (fun k hk2 he => by
        by_cases ek : k = i
        · rw [ek] at he ⊢; exact hn he
        · exact hw k (by omega) he))
      refine ⟨fun q => next (fun e => absurd (hcm.2.2.mpr e) q), fun q => ⟨by omega, fun q2 => next (fun _ => q2), fun q2 => ⟨by omega, ?_⟩⟩⟩
      exact hQ _ m1 W c1 h1 (fun _ => Or.inl ⟨⟨i, by omega, hcm.2.2.mp q, q2, rfl⟩, rfl⟩)
  exact loop N 0 _ (by omega) (by decide) (fun k hk => by omega)
theorem q_bounded {x1 x2 : Int32} {Q : Int32 → dM → Prop} (hv : ∀ i, vk (K i)) (hP : ∀ i j : Nat, i < j → lvK K j → P i < P j) (hR : RM K V P m) (h : ST K P m r W) (hW : r.1 = 0 → W.1 ≠ 0 → W.2 < r.2) (hQ : ∀ (v : Int32) (m' : dM) (W' : gR), Cx m m' → ST K P m' (rb r (gnd K 23)) W' → ((rb r (gnd K 23)).1 = 0 → v = (V r.2).toInt32 ∧ W' = (if x1.toInt ≤ iV V r.2 ∧ iV V r.2 ≤ x2.toInt then W else wadd W (5, r.2))) → Q v m') : c_X12_bounded_70 3 x1 x2 m Q := by
  have hf := h.fl
  have ef : (m.1 70 13).toInt = flt m := rfl
  have no : (r.1 = 0 → K r.2 ≠ 23) → j_X12_bounded_70_15 3 x1 m Q := fun hn => by
    refine v_X12_bounded_70_15 (Wp.deep (q_fail hR h (c := 1) (by decide) (by decide) (fun m' hc _ h' => hQ _ m' W hc ?_ (fun z => ?_))) (Nat.le_of_ble_eq_true rfl))
    · by_cases z : r.1 = 0
      · rw [rb_k z]
        rw [if_pos z] at h'
        unfold gnd
        rw [if_neg (hn z)]
        exact h'
      · rw [rb_f z]
        rw [if_neg z] at h'
        exact h'
    · exfalso
      have z1 := (rb_z z).1
      rw [(rb_z z).2] at z
      exact hn z1 (gnd_0 z).2.1
  refine v_X12_bounded_70 ⟨fun q => no (fun z => by have := hf.2.mpr z; exfalso; omega), fun q => ?_⟩
  have zr : r.1 = 0 := hf.2.mp (by omega)
  obtain ⟨a1, a2, a3, a4, a5⟩ := h.1 zr
  have a2' : (m.1 70 11).toInt = (r.2 : Int) := a2
  refine Wp.deep (q_is hv hR h (k := 23) (by decide) (Or.inl (by decide)) (fun _ hk => ⟨fun _ => ⟨by omega, ?_⟩, fun q => absurd q (by decide)⟩) (fun hk => ⟨fun q => absurd rfl q, fun _ => no (fun z hk2 => hk ⟨z, hk2⟩)⟩)) (Nat.le_of_ble_eq_true rfl)
  rw [d_cn a2', (hR r.2 a3 a4).2.2.2 hk]
  have go : ∀ (m1 : dM) (W1 : gR), Cx m m1 → ST K P m1 r W1 → (W1 = if x1.toInt ≤ iV V r.2 ∧ iV V r.2 ≤ x2.toInt then W else wadd W (5, r.2)) → j_X12_bounded_70_51 3 (V r.2).toInt32 m1 Q := fun m1 W1 c1 h1 e => by
    refine v_X12_bounded_70_51 (q_goesOn (hR.cx c1) h1 (fun _ => by omega) (fun m2 c2 h2 => hQ _ m2 W1 (c1.tr c2) ?_ (fun _ => ⟨rfl, e⟩)))
    rw [rb_k zr] at h2 ⊢
    unfold gnd
    rw [if_pos hk]
    exact h2
  have bad : ¬ (x1.toInt ≤ iV V r.2 ∧ iV V r.2 ≤ x2.toInt) → j_X12_bounded_70_42 3 (V r.2).toInt32 m Q := fun hb => v_X12_bounded_70_42 (Wp.deep (q_wrong (c := 5) (tok := r.2) hP hR h (by decide) (by decide) a2' a3 (fun _ => a4) (fun _ w0 => Or.inl (hW zr w0)) (fun m1 c1 _ h1 => go m1 _ c1 h1 (by rw [if_neg hb]))) (Nat.le_of_ble_eq_true rfl))
  unfold iV at bad go
  exact ⟨fun q => bad (by omega), fun q => ⟨fun q2 => go m W (Cx.rf m) h (by rw [if_pos ⟨q, q2⟩]), fun q2 => bad (by omega)⟩⟩
/-- a name more -/
def EN (N : Nat) (y : Int64) (v : Int32) (m m' : dM) : Prop := (∀ k : Nat, k ≠ 70 → k ≠ 79 → m'.1 k = m.1 k) ∧ (∀ j : Nat, j ≠ 11 → j ≠ 13 → j ≠ 14 → j ≠ 15 → j ≠ 16 → j ≠ 20 → m'.1 70 j = m.1 70 j) ∧ (m'.1 70 20).toInt = ((N + 1 : Nat) : Int) ∧ (∀ j : Nat, m'.1 79 j = if j = N then v else m.1 79 j) ∧ (∀ k : Nat, k ≠ 78 → m'.2.1 k = m.2.1 k) ∧ (∀ j : Nat, m'.2.1 78 j = if j = N then y else m.2.1 78 j) ∧ m'.2.2 = m.2.2
theorem q_endsName {x1 x2 : Int32} {tok N : Nat} {Q : dM → Prop} (hv : ∀ i, vk (K i)) (hR : RM K V P m) (h : ST K P m r W) (h1 : x1.toInt = tok) (ht : tok ≤ 400) (hN : nms m = (N : Int)) (hN2 : N < 15) (hQ0 : (rb r (gnd K 59)).1 ≠ 0 → ∀ m' : dM, Cx m m' → ST K P m' (rb r (gnd K 59)) W → Q m') (hQ1 : (rb r (gnd K 59)).1 = 0 → ∀ m' : dM, EN N (m.2.1 76 tok) x2 m m' → ST K P m' (rb r (gnd K 59)) W → Q m') : c_X12_endsName_70 4 x1 x2 m Q := by
  refine v_X12_endsName_70 (q_must hv hR h (k := 59) (by decide) (by unfold vk; omega) (by decide) (fun m1 c1 h1' => ?_))
  have hf := h1'.fl
  have ef : (m1.1 70 13).toInt = flt m1 := rfl
  have eN : (m1.1 70 20).toInt = (N : Int) := by rw [c1.2.1 20 (by decide) (by decide) (by decide) (by decide) (by decide)]; exact hN
  refine ⟨fun q => ⟨by omega, by omega, by omega, ?_⟩, fun q => hQ0 (fun z => by have := hf.2.mpr z; omega) m1 c1 h1'⟩
  have z : (rb r (gnd K 59)).1 = 0 := hf.2.mp (by omega)
  rw [d_cn h1, d_cn eN]
  have e76 : m1.2.1 76 tok = m.2.1 76 tok := by rw [c1.2.2]
  rw [e76]
  refine hQ1 z _ ⟨fun k b1 b2 => ?_, fun j b1 b2 b3 b4 b5 b6 => ?_, ?_, fun j => ?_, fun k b1 => ?_, fun j => ?_, ?_⟩ ?_
  · rw [dSet_k b1, dSet_k b2]; exact c1.1 k b1
  · rw [dSet_j b6, dSet_k (by decide)]; exact c1.2.1 j b1 b2 b3 b4 b5
  · rw [dSet_s]; exact d_inc eN (by omega)
  · rw [dSet_k (by decide), dSet_e]
    by_cases q : j = N
    · rw [if_pos ⟨rfl, q⟩, if_pos q]
    · rw [if_neg (fun w => q w.2), if_neg q]
      show m1.1 79 j = _
      rw [c1.1 79 (by decide)]
  · show (dSetL m1 78 N (m.2.1 76 tok)).2.1 k = _
    rw [← c1.2.2]
    funext j
    rw [dSetL_e, if_neg (fun w => b1 w.1)]
  · show (dSetL m1 78 N (m.2.1 76 tok)).2.1 78 j = _
    rw [dSetL_e, c1.2.2]
    by_cases q : j = N
    · rw [if_pos ⟨rfl, q⟩, if_pos q]
    · rw [if_neg (fun w => q w.2), if_neg q]
  · show m1.2.2 = m.2.2
    rw [c1.2.2]
  · exact ST.j (ST.k (m := dSetL m1 78 N (m.2.1 76 tok)) (h1'.of rfl rfl rfl rfl rfl) (by decide)) (by decide)
end RNA
