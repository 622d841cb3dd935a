/-! rows filled with one value -/
theorem y_fill49 {x1 : Int32} {m : dM} {Q : dM → Prop} (hQ : ∀ m' : dM, (∀ k : Nat, k ≠ 49 → m'.1 k = m.1 k) → m'.2 = m.2 → (∀ j : Nat, j < 10 → m'.1 49 j = x1) → Q m') : c_J7_fill_49 1 x1 m Q := by
  have e : (10 : Int32).toInt = 10 := by decide
  have loop : ∀ (f i : Nat) (x3 : Int32) (M : dM), i + f = 10 → x3.toInt = i → (∀ k : Nat, k ≠ 49 → M.1 k = m.1 k) → M.2 = m.2 → (∀ j : Nat, j < i → M.1 49 j = x1) → j_J7_fill_49_5 1 x1 x3 (10 : Int32) M Q := by
    intro f
    induction f with
    | zero => intro i x3 M hi h3 hF h2 hv; exact v_J7_fill_49_5 ⟨fun _ => hQ M hF h2 (fun j hj => hv j (by omega)), fun q => by exfalso; omega⟩
    | succ f ih =>
      intro i x3 M hi h3 hF h2 hv
      refine v_J7_fill_49_5 ⟨fun q => by exfalso; omega, fun _ => ⟨by omega, ?_⟩⟩
      rw [d_cn h3]
      refine ih (i + 1) _ _ (by omega) (d_inc h3 (by omega)) (fun k hk => by rw [dSet_k hk]; exact hF k hk) h2 (fun j hj => ?_)
      by_cases q : j = i
      · subst q; rw [dSet_s]
      · rw [dSet_j q]; exact hv j (by omega)
  exact v_J7_fill_49 (loop 10 0 _ m (by omega) (by decide) (fun _ _ => rfl) rfl (fun j hj => absurd hj (Nat.not_lt_zero j)))
theorem y_fill50 {x1 : Int32} {m : dM} {Q : dM → Prop} (hQ : ∀ m' : dM, (∀ k : Nat, k ≠ 50 → m'.1 k = m.1 k) → m'.2 = m.2 → (∀ j : Nat, j < 7 → m'.1 50 j = x1) → Q m') : c_J7_fill_50 1 x1 m Q := by
  have e : (7 : Int32).toInt = 7 := by decide
  have loop : ∀ (f i : Nat) (x3 : Int32) (M : dM), i + f = 7 → x3.toInt = i → (∀ k : Nat, k ≠ 50 → M.1 k = m.1 k) → M.2 = m.2 → (∀ j : Nat, j < i → M.1 50 j = x1) → j_J7_fill_50_5 1 x1 x3 (7 : Int32) M Q := by
    intro f
    induction f with
    | zero => intro i x3 M hi h3 hF h2 hv; exact v_J7_fill_50_5 ⟨fun _ => hQ M hF h2 (fun j hj => hv j (by omega)), fun q => by exfalso; omega⟩
    | succ f ih =>
      intro i x3 M hi h3 hF h2 hv
      refine v_J7_fill_50_5 ⟨fun q => by exfalso; omega, fun _ => ⟨by omega, ?_⟩⟩
      rw [d_cn h3]
      refine ih (i + 1) _ _ (by omega) (d_inc h3 (by omega)) (fun k hk => by rw [dSet_k hk]; exact hF k hk) h2 (fun j hj => ?_)
      by_cases q : j = i
      · subst q; rw [dSet_s]
      · rw [dSet_j q]; exact hv j (by omega)
  exact v_J7_fill_50 (loop 7 0 _ m (by omega) (by decide) (fun _ _ => rfl) rfl (fun j hj => absurd hj (Nat.not_lt_zero j)))
theorem y_fill55 {x1 : Int32} {m : dM} {Q : dM → Prop} (hQ : ∀ m' : dM, (∀ k : Nat, k ≠ 55 → m'.1 k = m.1 k) → m'.2 = m.2 → (∀ j : Nat, j < 9 → m'.1 55 j = x1) → Q m') : c_J7_fill_55 1 x1 m Q := by
  have e : (9 : Int32).toInt = 9 := by decide
  have loop : ∀ (f i : Nat) (x3 : Int32) (M : dM), i + f = 9 → x3.toInt = i → (∀ k : Nat, k ≠ 55 → M.1 k = m.1 k) → M.2 = m.2 → (∀ j : Nat, j < i → M.1 55 j = x1) → j_J7_fill_55_5 1 x1 x3 (9 : Int32) M Q := by
    intro f
    induction f with
    | zero => intro i x3 M hi h3 hF h2 hv; exact v_J7_fill_55_5 ⟨fun _ => hQ M hF h2 (fun j hj => hv j (by omega)), fun q => by exfalso; omega⟩
    | succ f ih =>
      intro i x3 M hi h3 hF h2 hv
      refine v_J7_fill_55_5 ⟨fun q => by exfalso; omega, fun _ => ⟨by omega, ?_⟩⟩
      rw [d_cn h3]
      refine ih (i + 1) _ _ (by omega) (d_inc h3 (by omega)) (fun k hk => by rw [dSet_k hk]; exact hF k hk) h2 (fun j hj => ?_)
      by_cases q : j = i
      · subst q; rw [dSet_s]
      · rw [dSet_j q]; exact hv j (by omega)
  exact v_J7_fill_55 (loop 9 0 _ m (by omega) (by decide) (fun _ _ => rfl) rfl (fun j hj => absurd hj (Nat.not_lt_zero j)))
theorem y_fill56 {x1 : Int32} {m : dM} {Q : dM → Prop} (hQ : ∀ m' : dM, (∀ k : Nat, k ≠ 56 → m'.1 k = m.1 k) → m'.2 = m.2 → (∀ j : Nat, j < 10 → m'.1 56 j = x1) → Q m') : c_J7_fill_56 1 x1 m Q := by
  have e : (10 : Int32).toInt = 10 := by decide
  have loop : ∀ (f i : Nat) (x3 : Int32) (M : dM), i + f = 10 → x3.toInt = i → (∀ k : Nat, k ≠ 56 → M.1 k = m.1 k) → M.2 = m.2 → (∀ j : Nat, j < i → M.1 56 j = x1) → j_J7_fill_56_5 1 x1 x3 (10 : Int32) M Q := by
    intro f
    induction f with
    | zero => intro i x3 M hi h3 hF h2 hv; exact v_J7_fill_56_5 ⟨fun _ => hQ M hF h2 (fun j hj => hv j (by omega)), fun q => by exfalso; omega⟩
    | succ f ih =>
      intro i x3 M hi h3 hF h2 hv
      refine v_J7_fill_56_5 ⟨fun q => by exfalso; omega, fun _ => ⟨by omega, ?_⟩⟩
      rw [d_cn h3]
      refine ih (i + 1) _ _ (by omega) (d_inc h3 (by omega)) (fun k hk => by rw [dSet_k hk]; exact hF k hk) h2 (fun j hj => ?_)
      by_cases q : j = i
      · subst q; rw [dSet_s]
      · rw [dSet_j q]; exact hv j (by omega)
  exact v_J7_fill_56 (loop 10 0 _ m (by omega) (by decide) (fun _ _ => rfl) rfl (fun j hj => absurd hj (Nat.not_lt_zero j)))
theorem y_fill59 {x1 : Int32} {m : dM} {Q : dM → Prop} (hQ : ∀ m' : dM, (∀ k : Nat, k ≠ 59 → m'.1 k = m.1 k) → m'.2 = m.2 → (∀ j : Nat, j < 7 → m'.1 59 j = x1) → Q m') : c_J7_fill_59 1 x1 m Q := by
  have e : (7 : Int32).toInt = 7 := by decide
  have loop : ∀ (f i : Nat) (x3 : Int32) (M : dM), i + f = 7 → x3.toInt = i → (∀ k : Nat, k ≠ 59 → M.1 k = m.1 k) → M.2 = m.2 → (∀ j : Nat, j < i → M.1 59 j = x1) → j_J7_fill_59_5 1 x1 x3 (7 : Int32) M Q := by
    intro f
    induction f with
    | zero => intro i x3 M hi h3 hF h2 hv; exact v_J7_fill_59_5 ⟨fun _ => hQ M hF h2 (fun j hj => hv j (by omega)), fun q => by exfalso; omega⟩
    | succ f ih =>
      intro i x3 M hi h3 hF h2 hv
      refine v_J7_fill_59_5 ⟨fun q => by exfalso; omega, fun _ => ⟨by omega, ?_⟩⟩
      rw [d_cn h3]
      refine ih (i + 1) _ _ (by omega) (d_inc h3 (by omega)) (fun k hk => by rw [dSet_k hk]; exact hF k hk) h2 (fun j hj => ?_)
      by_cases q : j = i
      · subst q; rw [dSet_s]
      · rw [dSet_j q]; exact hv j (by omega)
  exact v_J7_fill_59 (loop 7 0 _ m (by omega) (by decide) (fun _ _ => rfl) rfl (fun j hj => absurd hj (Nat.not_lt_zero j)))
theorem y_fill60 {x1 : Int32} {m : dM} {Q : dM → Prop} (hQ : ∀ m' : dM, (∀ k : Nat, k ≠ 60 → m'.1 k = m.1 k) → m'.2 = m.2 → (∀ j : Nat, j < 7 → m'.1 60 j = x1) → Q m') : c_J7_fill_60 1 x1 m Q := by
  have e : (7 : Int32).toInt = 7 := by decide
  have loop : ∀ (f i : Nat) (x3 : Int32) (M : dM), i + f = 7 → x3.toInt = i → (∀ k : Nat, k ≠ 60 → M.1 k = m.1 k) → M.2 = m.2 → (∀ j : Nat, j < i → M.1 60 j = x1) → j_J7_fill_60_5 1 x1 x3 (7 : Int32) M Q := by
    intro f
    induction f with
    | zero => intro i x3 M hi h3 hF h2 hv; exact v_J7_fill_60_5 ⟨fun _ => hQ M hF h2 (fun j hj => hv j (by omega)), fun q => by exfalso; omega⟩
    | succ f ih =>
      intro i x3 M hi h3 hF h2 hv
      refine v_J7_fill_60_5 ⟨fun q => by exfalso; omega, fun _ => ⟨by omega, ?_⟩⟩
      rw [d_cn h3]
      refine ih (i + 1) _ _ (by omega) (d_inc h3 (by omega)) (fun k hk => by rw [dSet_k hk]; exact hF k hk) h2 (fun j hj => ?_)
      by_cases q : j = i
      · subst q; rw [dSet_s]
      · rw [dSet_j q]; exact hv j (by omega)
  exact v_J7_fill_60 (loop 7 0 _ m (by omega) (by decide) (fun _ _ => rfl) rfl (fun j hj => absurd hj (Nat.not_lt_zero j)))
