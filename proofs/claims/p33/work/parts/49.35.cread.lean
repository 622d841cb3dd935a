/-! THE CLASS's read, exactly: its fault and where -/
/-- laws alone have changed -/
def GG (mb m : dM) : Prop := (∀ k : Nat, (k < 29 ∨ k = 31 ∨ 36 < k) → m.1 k = mb.1 k) ∧ m.2 = mb.2 ∧ GL m
section CRE
variable {mb m : dM}
theorem GG.law {k j : Nat} {v : Int32} (h : GG mb m) (hk : k = 29 ∨ k = 30 ∨ (32 ≤ k ∧ k ≤ 36)) (hL : GL (dSet m k j v)) : GG mb (dSet m k j v) := ⟨fun a ha => by rw [dSet_k (by omega)]; exact h.1 a ha, h.2.1, hL⟩
theorem l_put {x1 : Int32} {Q : dM → Prop} (h : GG mb m) (hQ : ∀ m' : dM, GG mb m' → Q m') : c_X4_put_29 1 x1 m Q := by
  have hL := h.2.2
  have hb := hL.1
  refine v_X4_put_29 ⟨fun q => v_X4_put_29_32 (hQ _ h), fun q => ⟨by omega, v_X4_put_29_32 (hQ _ ?_)⟩⟩
  have h30 : GG mb (dSet m 30 (m.1 29 1).toNatClampNeg x1) := h.law (by decide) (by
    unfold GL
    rw [dSet_k (by decide), dSet_k (by decide)]
    exact hL)
  refine h30.law (by decide) ⟨?_, fun j => ?_⟩
  · rw [dSet_s]
    have := dAddE (X := (m.1 29 1).toInt) (Y := 1) (x := m.1 29 1) (y := (1 : Int32)) rfl (by decide) (by omega) (by omega)
    omega
  · rw [dSet_k (by decide), dSet_k (by decide)]
    exact hL.2 j
theorem l_begin {x1 : Int32} {Q : dM → Prop} (h : GG mb m) (hx : 0 ≤ x1.toInt ∧ x1.toInt < 4) (hQ : ∀ m' : dM, GG mb m' → Q m') : c_X4_begin_29 1 x1 m Q := by
  have hL := h.2.2
  have h36 : GG mb (dSet m 36 x1.toNatClampNeg (0 : Int32)) := h.law (by decide) ⟨by rw [dSet_k (by decide)]; exact hL.1, fun j => by
    rw [dSet_e]
    split
    · decide
    · exact hL.2 j⟩
  have go : ∀ k : Nat, 32 ≤ k → k ≤ 35 → GG mb (dSet (dSet m 36 x1.toNatClampNeg (0 : Int32)) k 0 (m.1 29 1)) := fun k h1 h2 => h36.law (by omega) (by
    have := h36.2.2
    unfold GL
    rw [dSet_k (show 29 ≠ k by omega), dSet_k (show 36 ≠ k by omega)]
    exact this)
  exact v_X4_begin_29 ⟨hx, hx, fun _ => hQ _ (go 32 (by decide) (by decide)), fun _ => hQ _ (go 33 (by decide) (by decide)), fun _ => hQ _ (go 34 (by decide) (by decide)), fun _ => hQ _ (go 35 (by decide) (by decide))⟩
theorem l_piece {x1 : Int32} {Q : dM → Prop} (h : GG mb m) (hx : 0 ≤ x1.toInt ∧ x1.toInt < 4) (hQ : ∀ m' : dM, GG mb m' → Q m') : c_X4_endPiece_29 1 x1 m Q := by
  have hL := h.2.2
  have hj := hL.2 x1.toNatClampNeg
  refine v_X4_endPiece_29 ⟨hx, fun q => v_X4_endPiece_29_38 (hQ _ h), fun q => ?_⟩
  have f1 := dAddE (X := (m.1 36 x1.toNatClampNeg).toInt) (Y := 1) (x := m.1 36 x1.toNatClampNeg) (y := (1 : Int32)) rfl (by decide) (by omega) (by omega)
  have h36 : GG mb (dSet m 36 x1.toNatClampNeg (m.1 36 x1.toNatClampNeg + 1)) := h.law (by decide) ⟨by rw [dSet_k (by decide)]; exact hL.1, fun j => by
    rw [dSet_e]
    split
    · omega
    · exact hL.2 j⟩
  have go : ∀ k j : Nat, 32 ≤ k → k ≤ 35 → GG mb (dSet (dSet m 36 x1.toNatClampNeg (m.1 36 x1.toNatClampNeg + 1)) k j (m.1 29 1)) := fun k j h1 h2 => h36.law (by omega) (by
    have := h36.2.2
    unfold GL
    rw [dSet_k (show 29 ≠ k by omega), dSet_k (show 36 ≠ k by omega)]
    exact this)
  have b14 : 0 ≤ (m.1 36 x1.toNatClampNeg + 1).toInt ∧ (m.1 36 x1.toNatClampNeg + 1).toInt < 14 := by omega
  exact ⟨hx, hx, hx, fun _ => ⟨hx, b14, v_X4_endPiece_29_38 (hQ _ (go 32 _ (by decide) (by decide)))⟩, fun _ => ⟨hx, b14, v_X4_endPiece_29_38 (hQ _ (go 33 _ (by decide) (by decide)))⟩, fun _ => ⟨hx, b14, v_X4_endPiece_29_38 (hQ _ (go 34 _ (by decide) (by decide)))⟩, fun _ => ⟨hx, b14, v_X4_endPiece_29_38 (hQ _ (go 35 _ (by decide) (by decide)))⟩⟩
theorem l_clear {Q : dM → Prop} (h : GL m) (hQ : ∀ m' : dM, GG m m' → Q m') : c_X4_clear_29 2 m Q := by
  have h0 : GG m (dSet m 29 1 (0 : Int32)) := GG.law ⟨fun _ _ => rfl, rfl, h⟩ (by decide) ⟨by rw [dSet_s]; decide, fun j => by rw [dSet_k (by decide)]; exact h.2 j⟩
  exact v_X4_clear_29 (l_begin h0 (by decide) (fun m1 h1 => l_put h1 (fun m2 h2 => l_put h2 (fun m3 h3 => l_put h3 (fun m4 h4 => l_piece h4 (by decide) (fun m5 h5 => l_begin h5 (by decide) (fun m6 h6 => l_put h6 (fun m7 h7 => l_piece h7 (by decide) (fun m8 h8 => l_begin h8 (by decide) (fun m9 h9 => l_put h9 (fun m10 h10 => l_piece h10 (by decide) (fun m11 h11 => l_begin h11 (by decide) (fun m12 h12 => l_put h12 (fun m13 h13 => l_piece h13 (by decide) (fun m14 h14 => hQ m14 h14)))))))))))))))
/-- an empty draft -/
theorem l_draft {Q : dM → Prop} (h : GL m) (hQ : ∀ m' : dM, (∀ k : Nat, (k < 20 ∨ (20 < k ∧ k < 29) ∨ k = 31 ∨ 36 < k) → m'.1 k = m.1 k) → m'.2 = m.2 → GL m' → (∀ V : Nat → Int64, MS V mS0 m') → Q m') : c_X3_clear_20 3 m Q := by
  refine v_X3_clear_20 (l_clear (m := dSet (dSet (dSet (dSet (dSet (dSet (dSet m 20 0 (0 : Int32)) 20 1 (0 : Int32)) 20 2 (0 : Int32)) 20 3 (0 : Int32)) 20 4 (0 : Int32)) 20 5 (100 : Int32)) 20 6 (0 : Int32)) ?_ (fun m' h' => hQ m' (fun k hk => ?_) h'.2.1 h'.2.2 (fun V => ?_)))
  · unfold GL
    rw [dSet_k (by decide), dSet_k (by decide), dSet_k (by decide), dSet_k (by decide), dSet_k (by decide), dSet_k (by decide), dSet_k (by decide), dSet_k (by decide), dSet_k (by decide), dSet_k (by decide), dSet_k (by decide), dSet_k (by decide), dSet_k (by decide), dSet_k (by decide)]
    exact h
  · rw [h'.1 k (by omega), dSet_k (by omega), dSet_k (by omega), dSet_k (by omega), dSet_k (by omega), dSet_k (by omega), dSet_k (by omega), dSet_k (by omega)]
  · have e20 := h'.1 20 (by omega)
    unfold MS
    rw [e20]
    exact ⟨⟨rfl, by decide⟩, ⟨rfl, by decide⟩, ⟨rfl, by decide⟩, fun i hi => absurd hi (Nat.not_lt_zero i), fun i hi => absurd hi (Nat.not_lt_zero i), fun i hi => absurd hi (Nat.not_lt_zero i), rfl, rfl, rfl, rfl⟩
theorem n_lcopy_27 {m0 : dM} {Q : dM → Prop} (hQ : ∀ m' : dM, (∀ k : Nat, (k < 11 ∨ 18 < k) → m'.1 k = m0.1 k) → m'.2 = m0.2 → Q m') : ∀ (f : Nat) (x2 : Int32) (m : dM), (∀ k : Nat, (k < 11 ∨ 18 < k) → m.1 k = m0.1 k) → m.2 = m0.2 → 0 ≤ x2.toInt ∧ x2.toInt ≤ 4 → 4 - x2.toInt < (f : Int) → j_X4_copy_11_29_27 1 x2 m Q := by
  intro f
  induction f with
  | zero => intro x2 m hF h2 hx hμ; exfalso; omega
  | succ f ih =>
    intro x2 m hF h2 hx hμ
    refine v_X4_copy_11_29_27 ?_
    refine ⟨fun hc => hQ _ hF h2, fun hc => ?_⟩
    have f1 := dAddE (X := x2.toInt) (Y := 1) (x := x2) (y := (1 : Int32)) rfl (by decide) (by omega) (by omega)
    have go : ∀ a b : Nat, (b = 14 ∨ b = 15 ∨ b = 16 ∨ b = 17) → j_X4_copy_11_29_27 1 (x2 + 1) (dCpy (dSet m 18 x2.toNatClampNeg (m.1 36 x2.toNatClampNeg)) a (0 : Int).toNat b (0 : Int).toNat (14 : Int).toNat) Q := fun a b hb => ih _ _ (fun k hk => by rw [dCpy_k (by omega), dSet_k (by omega)]; exact hF k hk) h2 (by omega) (by omega)
    refine ⟨by omega, ⟨by omega, ⟨by omega, ?_⟩⟩⟩
    refine ⟨fun _ => ⟨by omega, fun _ => ?_, fun _ => ?_, fun _ => ?_, fun _ => ?_⟩, fun _ => ⟨by omega, fun _ => ?_, fun _ => ?_, fun _ => ?_, fun _ => ?_⟩, fun _ => ⟨by omega, fun _ => ?_, fun _ => ?_, fun _ => ?_, fun _ => ?_⟩, fun _ => ⟨by omega, fun _ => ?_, fun _ => ?_, fun _ => ?_, fun _ => ?_⟩⟩
    all_goals exact go _ _ (by decide)
theorem n_copy {Q : dM → Prop} (hL : GL m) (hQ : ∀ m' : dM, (∀ k : Nat, (k < 2 ∨ 18 < k) → m'.1 k = m.1 k) → m'.2 = m.2 → (∀ j : Nat, j < 7 → m'.1 2 j = m.1 20 j) → Q m') : c_X3_copy_2_20 2 m Q := by
  refine v_X3_copy_2_20 ?_
  have e2 : ∀ j : Nat, j < 7 → (dSet (dSet (dSet (dSet (dSet (dSet (dSet m 2 0 (m.1 20 0)) 2 1 (m.1 20 1)) 2 2 (m.1 20 2)) 2 3 (m.1 20 3)) 2 4 (m.1 20 4)) 2 5 (m.1 20 5)) 2 6 (m.1 20 6)).1 2 j = m.1 20 j := fun j hj => by
    match j, hj with
    | 0, _ | 1, _ | 2, _ | 3, _ | 4, _ | 5, _ | 6, _ => rfl
    | j + 7, hj => omega
  have ek : ∀ k : Nat, k ≠ 2 → (dSet (dSet (dSet (dSet (dSet (dSet (dSet m 2 0 (m.1 20 0)) 2 1 (m.1 20 1)) 2 2 (m.1 20 2)) 2 3 (m.1 20 3)) 2 4 (m.1 20 4)) 2 5 (m.1 20 5)) 2 6 (m.1 20 6)).1 k = m.1 k := fun k hk => by rw [dSet_k hk, dSet_k hk, dSet_k hk, dSet_k hk, dSet_k hk, dSet_k hk, dSet_k hk]
  have e2' : (dSet (dSet (dSet (dSet (dSet (dSet (dSet m 2 0 (m.1 20 0)) 2 1 (m.1 20 1)) 2 2 (m.1 20 2)) 2 3 (m.1 20 3)) 2 4 (m.1 20 4)) 2 5 (m.1 20 5)) 2 6 (m.1 20 6)).2 = m.2 := rfl
  generalize dSet (dSet (dSet (dSet (dSet (dSet (dSet m 2 0 (m.1 20 0)) 2 1 (m.1 20 1)) 2 2 (m.1 20 2)) 2 3 (m.1 20 3)) 2 4 (m.1 20 4)) 2 5 (m.1 20 5)) 2 6 (m.1 20 6) = M at e2 ek e2' ⊢
  have ck : ∀ k : Nat, (k < 3 ∨ 10 < k) → (dCpy (dCpy (dCpy (dCpy (dCpy (dCpy (dCpy (dCpy M 21 (0 : Int).toNat 3 (0 : Int).toNat (7 : Int).toNat) 22 (0 : Int).toNat 4 (0 : Int).toNat (10 : Int).toNat) 23 (0 : Int).toNat 5 (0 : Int).toNat (10 : Int).toNat) 24 (0 : Int).toNat 6 (0 : Int).toNat (10 : Int).toNat) 25 (0 : Int).toNat 7 (0 : Int).toNat (8 : Int).toNat) 26 (0 : Int).toNat 8 (0 : Int).toNat (8 : Int).toNat) 27 (0 : Int).toNat 9 (0 : Int).toNat (8 : Int).toNat) 28 (0 : Int).toNat 10 (0 : Int).toNat (8 : Int).toNat).1 k = M.1 k := fun k hk => by rw [dCpy_k (by omega), dCpy_k (by omega), dCpy_k (by omega), dCpy_k (by omega), dCpy_k (by omega), dCpy_k (by omega), dCpy_k (by omega), dCpy_k (by omega)]
  have c2 : (dCpy (dCpy (dCpy (dCpy (dCpy (dCpy (dCpy (dCpy M 21 (0 : Int).toNat 3 (0 : Int).toNat (7 : Int).toNat) 22 (0 : Int).toNat 4 (0 : Int).toNat (10 : Int).toNat) 23 (0 : Int).toNat 5 (0 : Int).toNat (10 : Int).toNat) 24 (0 : Int).toNat 6 (0 : Int).toNat (10 : Int).toNat) 25 (0 : Int).toNat 7 (0 : Int).toNat (8 : Int).toNat) 26 (0 : Int).toNat 8 (0 : Int).toNat (8 : Int).toNat) 27 (0 : Int).toNat 9 (0 : Int).toNat (8 : Int).toNat) 28 (0 : Int).toNat 10 (0 : Int).toNat (8 : Int).toNat).2 = M.2 := rfl
  generalize dCpy (dCpy (dCpy (dCpy (dCpy (dCpy (dCpy (dCpy M 21 (0 : Int).toNat 3 (0 : Int).toNat (7 : Int).toNat) 22 (0 : Int).toNat 4 (0 : Int).toNat (10 : Int).toNat) 23 (0 : Int).toNat 5 (0 : Int).toNat (10 : Int).toNat) 24 (0 : Int).toNat 6 (0 : Int).toNat (10 : Int).toNat) 25 (0 : Int).toNat 7 (0 : Int).toNat (8 : Int).toNat) 26 (0 : Int).toNat 8 (0 : Int).toNat (8 : Int).toNat) 27 (0 : Int).toNat 9 (0 : Int).toNat (8 : Int).toNat) 28 (0 : Int).toNat 10 (0 : Int).toNat (8 : Int).toNat = N at ck c2 ⊢
  have b := hL.1
  have e29 : N.1 29 1 = m.1 29 1 := by rw [ck 29 (by omega), ek 29 (by decide)]
  refine v_X4_copy_11_29 ⟨by rw [e29]; omega, ?_⟩
  refine n_lcopy_27 (m0 := N) (fun m' hF h2 => hQ m' (fun k hk => ?_) (by rw [h2, c2, e2']) (fun j hj => ?_)) 6 _ _ (fun k hk => ?_) rfl (by decide) (by decide)
  · rw [hF k (by omega), ck k (by omega), ek k (by omega)]
  · rw [hF 2 (by omega), ck 2 (by omega)]; exact e2 j hj
  · rw [dSet_k (by omega), dCpy_k (by omega)]
theorem n_fill49 {x1 : Int32} {Q : dM → Prop} (hQ : ∀ m' : dM, (∀ k : Nat, k ≠ 49 → m'.1 k = m.1 k) → m'.2 = m.2 → Q m') : c_J7_fill_49 1 x1 m Q := by
  have loop : ∀ (f i : Nat) (x3 : Int32) (M : dM), i + f = 10 → x3.toInt = i → (∀ k : Nat, k ≠ 49 → M.1 k = m.1 k) → M.2 = m.2 → j_J7_fill_49_5 1 x1 x3 (10 : Int32) M Q := by
    intro f
    induction f with
    | zero => intro i x3 M hi h3 hF h2; exact v_J7_fill_49_5 ⟨fun _ => hQ M hF h2, fun q => by
      have e : (10 : Int32).toInt = 10 := by decide
      exfalso; omega⟩
    | succ f ih =>
      intro i x3 M hi h3 hF h2
      have e : (10 : Int32).toInt = 10 := by decide
      exact v_J7_fill_49_5 ⟨fun q => by exfalso; omega, fun _ => ⟨by omega, ih (i + 1) _ _ (by omega) (d_inc h3 (by omega)) (fun k hk => by rw [dSet_k hk]; exact hF k hk) h2⟩⟩
  exact v_J7_fill_49 (loop 10 0 _ m rfl (by decide) (fun _ _ => rfl) rfl)
theorem n_fill50 {x1 : Int32} {Q : dM → Prop} (hQ : ∀ m' : dM, (∀ k : Nat, k ≠ 50 → m'.1 k = m.1 k) → m'.2 = m.2 → Q m') : c_J7_fill_50 1 x1 m Q := by
  have loop : ∀ (f i : Nat) (x3 : Int32) (M : dM), i + f = 7 → x3.toInt = i → (∀ k : Nat, k ≠ 50 → M.1 k = m.1 k) → M.2 = m.2 → j_J7_fill_50_5 1 x1 x3 (7 : Int32) M Q := by
    intro f
    induction f with
    | zero => intro i x3 M hi h3 hF h2; exact v_J7_fill_50_5 ⟨fun _ => hQ M hF h2, fun q => by
      have e : (7 : Int32).toInt = 7 := by decide
      exfalso; omega⟩
    | succ f ih =>
      intro i x3 M hi h3 hF h2
      have e : (7 : Int32).toInt = 7 := by decide
      exact v_J7_fill_50_5 ⟨fun q => by exfalso; omega, fun _ => ⟨by omega, ih (i + 1) _ _ (by omega) (d_inc h3 (by omega)) (fun k hk => by rw [dSet_k hk]; exact hF k hk) h2⟩⟩
  exact v_J7_fill_50 (loop 7 0 _ m rfl (by decide) (fun _ _ => rfl) rfl)
theorem n_begin {Q : dM → Prop} (hQ : ∀ m' : dM, (∀ k : Nat, (k < 47 ∨ 50 < k) → m'.1 k = m.1 k) → m'.2 = m.2 → Q m') : c_X7_begin_47_2 2 m Q := by
  refine v_X7_begin_47_2 (n_fill49 (fun m1 h1 e1 => n_fill50 (fun m2 h2 e2 => hQ m2 (fun k hk => ?_) (by rw [e2, e1]; rfl))))
  rw [h2 k (by omega), h1 k (by omega), dCpy_k (by omega), dSet_k (by omega), dSet_k (by omega), dSet_k (by omega), dSet_k (by omega), dSet_k (by omega), dSet_k (by omega)]
end CRE
