/-! THE CLASS: an empty draft's laws; the draft copied; how it stands at first -/
theorem dw_b {B : Nat → Int32} {p : Nat} : ∀ k : Nat, k ≤ 4 → (∀ j : Nat, j < k → 48 ≤ (B (p + j)).toInt ∧ (B (p + j)).toInt ≤ 57) → 0 ≤ (dw B p k).toInt ∧ (dw B p k).toInt < (10 : Int) ^ k
  | 0, _, _ => by show 0 ≤ (0 : Int32).toInt ∧ (0 : Int32).toInt < 1; decide
  | k + 1, hk, h => by
    have ih := dw_b k (by omega) (fun j hj => h j (by omega))
    have hb := h k (by omega)
    have p4 : (10 : Int) ^ k ≤ 1000 := by
      match k, hk with
      | 0, _ | 1, _ | 2, _ | 3, _ => decide
      | k + 4, hk => omega
    have f1 := dMulE (X := 10) (Y := (dw B p k).toInt) (x := (10 : Int32)) (y := dw B p k) (by decide) rfl (by omega) (by omega)
    have f2 := dAddE (X := 10 * (dw B p k).toInt) (Y := (B (p + k)).toInt) (x := 10 * dw B p k) (y := B (p + k)) f1 rfl (by omega) (by omega)
    have f3 := dSubE (X := 10 * (dw B p k).toInt + (B (p + k)).toInt) (Y := 48) (x := 10 * dw B p k + B (p + k)) (y := (48 : Int32)) f2 (by decide) (by omega) (by omega)
    have e : (10 : Int) ^ (k + 1) = 10 * (10 : Int) ^ k := by rw [Int.pow_succ]; omega
    show 0 ≤ ((10 * dw B p k + B (p + k)) - 48).toInt ∧ ((10 * dw B p k + B (p + k)) - 48).toInt < (10 : Int) ^ (k + 1)
    omega
theorem tV9 {B : Nat → Int32} {n i : Nat} (h : tK B n i = 23) : 0 ≤ (tV B n i).toInt32.toInt ∧ (tV B n i).toInt32.toInt ≤ 9999 := by
  unfold tK kd at h
  unfold tV
  by_cases q : n ≤ tP B n i
  · rw [if_pos q] at h; exact absurd h (by decide)
  · rw [if_neg q] at h
    cases e : bL B (tP B n i) with
    | true =>
      rw [e, cond_true] at h
      split at h
      · have := wk_le (nm B (tP B n i) (rnn (bL B) n (tP B n i))); omega
      · exact absurd h (by decide)
    | false =>
      rw [e, cond_false] at h
      rw [cond_false]
      cases e2 : bD B (tP B n i) with
      | true =>
        rw [e2, cond_true] at h
        by_cases q4 : rnn (bD B) n (tP B n i) ≤ 4
        · rw [dw_eq]
          have b := dw_b (B := B) (p := tP B n i) (rnn (bD B) n (tP B n i)) q4 (fun j hj => by
            have := (rnn_in _ (tP B n i) j rfl hj).1
            unfold bD at this
            exact of_decide_eq_true this)
          have p4 : (10 : Int) ^ (rnn (bD B) n (tP B n i)) ≤ 10000 := by
            generalize rnn (bD B) n (tP B n i) = k at q4
            match k, q4 with
            | 0, _ | 1, _ | 2, _ | 3, _ | 4, _ => decide
            | k + 5, hk => omega
          omega
        · rw [if_neg q4] at h; exact absurd h (by decide)
      | false =>
        rw [e2, cond_false] at h
        unfold sg at h
        split at h
        · omega
        · exact absurd h (by decide)
section UCL
variable {mb m : dM}
theorem u_put {x1 : Int32} {L : lC} {Q : dM → Prop} (h : GG mb m) (hL : LG m L) (hl' : L.length < 406) (hQ : ∀ m' : dM, GG mb m' → LG m' (L ++ [x1]) → FXl m m' → Q m') : c_X4_put_29 1 x1 m Q := by
  have hGL := h.2.2
  have e29 : (m.1 29 1).toNatClampNeg = L.length := d_cn hL.1
  have hl2 := hL.1
  refine v_X4_put_29 ⟨fun q => by exfalso; omega, fun q => ⟨by omega, v_X4_put_29_32 (hQ _ ?_ ?_ (fun k a b => by rw [dSet_k (by omega), dSet_k (by omega)]))⟩⟩
  · have h30 : GG mb (dSet m 30 (m.1 29 1).toNatClampNeg x1) := h.law (by decide) (by
      unfold GL
      rw [dSet_k (by decide), dSet_k (by decide)]
      exact hGL)
    refine h30.law (by decide) ⟨?_, fun j => ?_⟩
    · rw [dSet_s]
      have := dAddE (X := (m.1 29 1).toInt) (Y := 1) (x := m.1 29 1) (y := (1 : Int32)) rfl (by decide) (by omega) (by omega)
      omega
    · rw [dSet_k (by decide), dSet_k (by decide)]
      exact hGL.2 j
  · rw [e29]
    have f := d_inc hl2 (by omega)
    refine ⟨by rw [dSet_s, List.length_append]; exact f, by rw [List.length_append]; show L.length + 1 ≤ 406; omega, fun i hi => ?_⟩
    rw [List.length_append] at hi
    have hi : i < L.length + 1 := hi
    rw [dSet_k (by decide)]
    by_cases e : i = L.length
    · subst e
      rw [dSet_s, getD_last]
    · rw [dSet_j e, getD_app (by omega)]
      exact hL.2.2 i (by omega)
theorem u_begin {x1 : Int32} {k : Nat} {L : lC} {Q : dM → Prop} (h : GG mb m) (hx : x1.toInt = (k : Int)) (hk : k < 4) (hL : LG m L) (hQ : ∀ m' : dM, GG mb m' → LG m' L → PRo m' L.length k [] → FKl k m m' → Q m') : c_X4_begin_29 1 x1 m Q := by
  have hGL := h.2.2
  have ec := d_cn hx
  have h36 : GG mb (dSet m 36 k (0 : Int32)) := h.law (by decide) ⟨by rw [dSet_k (by decide)]; exact hGL.1, fun j => by
    rw [dSet_e]
    split
    · decide
    · exact hGL.2 j⟩
  have go : ∀ c : Nat, c = 32 + k → Q (dSet (dSet m 36 k (0 : Int32)) c 0 (m.1 29 1)) := fun c hc => by
    subst hc
    refine hQ _ (h36.law (by omega) ?_) (hL.of (by rw [dSet_k (by omega), dSet_k (by decide)]) (by rw [dSet_k (by omega), dSet_k (by decide)])) ⟨?_, Nat.zero_le _, fun i hi => ?_⟩ (fun j hj hne => ⟨by rw [dSet_k (by omega), dSet_k (by omega)], by rw [dSet_k (by omega), dSet_j hne]⟩)
    · have := h36.2.2
      unfold GL
      rw [dSet_k (show 29 ≠ 32 + k by omega), dSet_k (show 36 ≠ 32 + k by omega)]
      exact this
    · rw [dSet_k (by omega), dSet_s]; rfl
    · have : i = 0 := by have : i ≤ 0 := hi; omega
      subst this
      rw [dSet_s]
      exact hL.1
  refine v_X4_begin_29 ?_
  rw [ec]
  exact ⟨by omega, by omega, fun q => go 32 (by omega), fun q => go 33 (by omega), fun q => go 34 (by omega), fun q => go 35 (by omega)⟩
theorem u_piece {x1 : Int32} {k a : Nat} {c : lC} {L : lC} {Q : dM → Prop} (h : GG mb m) (hx : x1.toInt = (k : Int)) (hk : k < 4) (hL : LG m L) (hP : PRo m a k []) (hlen : L.length = a + c.length) (hQ : ∀ m' : dM, GG mb m' → LG m' L → PRo m' a k [c] → FKl k m m' → Q m') : c_X4_endPiece_29 1 x1 m Q := by
  have hGL := h.2.2
  have ec := d_cn hx
  obtain ⟨p1, p2, p3⟩ := hP
  have p1 : (m.1 36 k).toInt = 0 := p1
  have f1 := d_inc (i := 0) p1 (by omega)
  have f1' := d_cn f1
  have h36 : GG mb (dSet m 36 k (m.1 36 k + 1)) := h.law (by decide) ⟨by rw [dSet_k (by decide)]; exact hGL.1, fun j => by
    rw [dSet_e]
    split
    · omega
    · exact hGL.2 j⟩
  have go : ∀ b : Nat, b = 32 + k → j_X4_endPiece_29_38 1 (dSet (dSet m 36 k (m.1 36 k + 1)) b (0 + 1) (m.1 29 1)) Q := fun b hb => by
    subst hb
    refine v_X4_endPiece_29_38 (hQ _ (h36.law (by omega) ?_) (hL.of (by rw [dSet_k (by omega), dSet_k (by decide)]) (by rw [dSet_k (by omega), dSet_k (by decide)])) ⟨?_, by show 1 ≤ 13; omega, fun i hi => ?_⟩ (fun j hj hne => ⟨by rw [dSet_k (by omega), dSet_k (by omega)], by rw [dSet_k (by omega), dSet_j hne]⟩))
    · have := h36.2.2
      unfold GL
      rw [dSet_k (show 29 ≠ 32 + k by omega), dSet_k (show 36 ≠ 32 + k by omega)]
      exact this
    · rw [dSet_k (by omega), dSet_s]; exact f1
    · have hi : i ≤ 1 := hi
      by_cases e : i = 1
      · subst e
        rw [dSet_s, hL.1, hlen]
        show _ = ((a + ([c].flatten).length : Nat) : Int)
        rw [List.flatten_cons, List.flatten_nil, List.append_nil]
      · have : i = 0 := by omega
        subst this
        rw [dSet_j (by decide), dSet_k (by omega)]
        exact p3 0 (Nat.le_refl _)
  have b14 : 0 ≤ (m.1 36 k + 1).toInt ∧ (m.1 36 k + 1).toInt < 14 := by omega
  refine v_X4_endPiece_29 ?_
  rw [ec, f1']
  exact ⟨by omega, fun q => by exfalso; omega, fun q => ⟨by omega, by omega, by omega, fun q => ⟨by omega, b14, go 32 (by omega)⟩, fun q => ⟨by omega, b14, go 33 (by omega)⟩, fun q => ⟨by omega, b14, go 34 (by omega)⟩, fun q => ⟨by omega, b14, go 35 (by omega)⟩⟩⟩
theorem wf_dfl (k : Nat) : wfL (dfl k) 0 := by
  unfold dfl
  split
  · exact ⟨by decide, fun _ => ⟨by decide, ⟨by decide, fun _ => ⟨by decide, ⟨by decide, fun q => absurd q (by decide), fun _ => ⟨by decide, rfl⟩⟩⟩, fun q => absurd q (by decide)⟩⟩, fun q => absurd q (by decide)⟩
  · split
    · exact ⟨by decide, fun _ => ⟨by decide, rfl⟩, fun q => absurd q (by decide)⟩
    · split
      · exact ⟨by decide, fun _ => ⟨by decide, rfl⟩, fun q => absurd q (by decide)⟩
      · exact ⟨by decide, fun _ => ⟨by decide, rfl⟩, fun q => absurd q (by decide)⟩
/-- one piece alone -/
theorem PRo.l1 {a k : Nat} {c L : lC} (h : PRo m a k [c]) (hw : wfL c 0) (hS : SGL L a c) : LDL m L k (lDf [c]) := by
  obtain ⟨p1, p2, p3⟩ := h
  have e0 : (lDf [c]).1 = 0 := by show ([c].length - 1) / 3 = 0; rw [List.length_singleton]
  unfold LDL lOk
  rw [e0]
  refine ⟨p1, ⟨Nat.zero_le _, fun i hi => ?_⟩, fun i hi => ?_⟩
  · have : i = 0 := by omega
    subst this
    exact hw
  · have : i = 0 := by omega
    subst this
    refine ⟨a, p3 0 (Nat.zero_le _), ?_, hS⟩
    have := p3 1 (Nat.le_refl _)
    rw [this]
    show ((a + ([c].flatten).length : Nat) : Int) = _
    rw [List.flatten_cons, List.flatten_nil, List.append_nil]
    rfl
theorem PRo.fk {m' : dM} {a k j : Nat} {p : List lC} (h : PRo m a k p) (hF : FKl j m m') (hk : k < 4) (hne : k ≠ j) : PRo m' a k p := by
  have := hF k hk hne
  unfold PRo
  rw [this.1, this.2]
  exact h
theorem u_clear {Q : dM → Prop} (h : GL m) (hQ : ∀ m' : dM, GG m m' → LT m' 0 lD0 → Q m') : c_X4_clear_29 2 m Q := by
  have h0 : GG m (dSet m 29 1 (0 : Int32)) := GG.law ⟨fun _ _ => rfl, rfl, h⟩ (by decide) ⟨by rw [dSet_s]; decide, fun j => by rw [dSet_k (by decide)]; exact h.2 j⟩
  have l0 : LG (dSet m 29 1 (0 : Int32)) [] := ⟨by rw [dSet_s]; rfl, by decide, fun i hi => absurd hi (Nat.not_lt_zero i)⟩
  refine v_X4_clear_29 (u_begin (k := 0) h0 (by decide) (by decide) l0 (fun m1 g1 l1 p1 f1 => u_put g1 l1 (by decide) (fun m2 g2 l2 f2 => u_put g2 l2 (by decide) (fun m3 g3 l3 f3 => u_put g3 l3 (by decide) (fun m4 g4 l4 f4 => ?_)))))
  refine u_piece (k := 0) (a := 0) (c := [4, 5, 1]) g4 (by decide) (by decide) l4 (((p1.of f2 (by decide)).of f3 (by decide)).of f4 (by decide)) rfl (fun m5 g5 l5 p5 f5 => ?_)
  refine u_begin (k := 1) g5 (by decide) (by decide) l5 (fun m6 g6 l6 p6 f6 => u_put g6 l6 (by decide) (fun m7 g7 l7 f7 => ?_))
  refine u_piece (k := 1) (a := 3) (c := [13]) g7 (by decide) (by decide) l7 (p6.of f7 (by decide)) rfl (fun m8 g8 l8 p8 f8 => ?_)
  refine u_begin (k := 2) g8 (by decide) (by decide) l8 (fun m9 g9 l9 p9 f9 => u_put g9 l9 (by decide) (fun m10 g10 l10 f10 => ?_))
  refine u_piece (k := 2) (a := 4) (c := [5]) g10 (by decide) (by decide) l10 (p9.of f10 (by decide)) rfl (fun m11 g11 l11 p11 f11 => ?_)
  refine u_begin (k := 3) g11 (by decide) (by decide) l11 (fun m12 g12 l12 p12 f12 => u_put g12 l12 (by decide) (fun m13 g13 l13 f13 => ?_))
  refine u_piece (k := 3) (a := 5) (c := [9]) g13 (by decide) (by decide) l13 (p12.of f13 (by decide)) rfl (fun m14 g14 l14 p14 f14 => hQ m14 g14 ?_)
  have k0 : PRo m14 0 0 [[4, 5, 1]] := ((((((((p5.fk f6 (by decide) (by decide)).of f7 (by decide)).fk f8 (by decide) (by decide)).fk f9 (by decide) (by decide)).of f10 (by decide)).fk f11 (by decide) (by decide)).fk f12 (by decide) (by decide)).of f13 (by decide)).fk f14 (by decide) (by decide)
  have k1 : PRo m14 3 1 [[13]] := (((((p8.fk f9 (by decide) (by decide)).of f10 (by decide)).fk f11 (by decide) (by decide)).fk f12 (by decide) (by decide)).of f13 (by decide)).fk f14 (by decide) (by decide)
  have k2 : PRo m14 4 2 [[5]] := ((p11.fk f12 (by decide) (by decide)).of f13 (by decide)).fk f14 (by decide) (by decide)
  refine ⟨_, l14, by decide, fun k hk => ?_⟩
  match k, hk with
  | 0, _ => exact k0.l1 (wf_dfl 0) ⟨by decide, fun j hj => by match j, hj with | 0, _ | 1, _ | 2, _ => rfl | j + 3, hj => exact absurd hj (by show ¬ j + 3 < 3; omega)⟩
  | 1, _ => exact k1.l1 (wf_dfl 1) ⟨by decide, fun j hj => by match j, hj with | 0, _ => rfl | j + 1, hj => exact absurd hj (by show ¬ j + 1 < 1; omega)⟩
  | 2, _ => exact k2.l1 (wf_dfl 2) ⟨by decide, fun j hj => by match j, hj with | 0, _ => rfl | j + 1, hj => exact absurd hj (by show ¬ j + 1 < 1; omega)⟩
  | 3, _ => exact p14.l1 (wf_dfl 3) ⟨by decide, fun j hj => by match j, hj with | 0, _ => rfl | j + 1, hj => exact absurd hj (by show ¬ j + 1 < 1; omega)⟩
  | k + 4, h => omega
end UCL
