/-! THE REFERENCE's table of names, and its wires, exactly -/
def NM (V : Nat → Int64) (s : Nat) (st : mSt) (m : dM) : Prop :=
  (∀ k : Nat, k < st.1.length + st.2.2.1.length → (∃ i : Nat, i < st.1.length ∧ m.2.1 78 k = fN V st i ∧ (m.1 79 k).toInt = (i : Int)) ∨ (∃ u : Nat, u < st.2.2.1.length ∧ m.2.1 78 k = uN V st u ∧ (m.1 79 k).toInt < 0)) ∧
  (∀ i : Nat, i < st.1.length → ∃ k : Nat, k < st.1.length + st.2.2.1.length ∧ m.2.1 78 k = fN V st i ∧ (m.1 79 k).toInt = (i : Int)) ∧
  (∀ u : Nat, u < st.2.2.1.length → ∃ k : Nat, k < st.1.length + st.2.2.1.length ∧ m.2.1 78 k = uN V st u) ∧
  (∀ i j : Nat, i < st.1.length → j < st.1.length → fN V st i = fN V st j → i = j) ∧
  (∀ w : Nat, w < st.2.1.length → (m.1 83 (10 * s + w)).toInt = ((wE st w).1 : Int) ∧ (m.1 84 (10 * s + w)).toInt = ((wE st w).2 : Int))
section RTB
variable {V : Nat → Int64} {s : Nat} {st : mSt} {m m' : dM}
theorem NM.of (h : NM V s st m) (h79 : m'.1 79 = m.1 79) (h83 : m'.1 83 = m.1 83) (h84 : m'.1 84 = m.1 84) (h78 : m'.2.1 78 = m.2.1 78) : NM V s st m' := by
  unfold NM
  rw [h79, h83, h84, h78]
  exact h
theorem NM.cx (h : NM V s st m) (hc : Cx m m') : NM V s st m' := h.of (hc.1 79 (by decide)) (hc.1 83 (by decide)) (hc.1 84 (by decide)) (by rw [hc.2.2])
theorem fF_is {y : Int64} {a : Nat} (ha : a < st.1.length) (e : fN V st a = y) (inj : ∀ i j : Nat, i < st.1.length → j < st.1.length → fN V st i = fN V st j → i = j) : fF V st y = some a := by
  cases h : fF V st y with
  | none =>
    have := (ix_none _ _).mp h
    exact absurd e (this a (Nat.zero_le _) (by omega))
  | some b =>
    have hb := ix_some _ _ h
    rw [inj a b ha (by omega) (by rw [e, hb.2.2])]
theorem NM.kn (h : NM V s st m) {y : Int64} : (∃ k : Nat, k < st.1.length + st.2.2.1.length ∧ m.2.1 78 k = y) ↔ knw V st y = true := by
  obtain ⟨h1, h2, h3, h4, -⟩ := h
  constructor
  · rintro ⟨k, hk, e⟩
    rcases h1 k hk with ⟨i, hi, e1, -⟩ | ⟨u, hu, e1, -⟩
    · have : fF V st y = some i := fF_is hi (by rw [← e1, e]) h4
      unfold knw
      rw [this]
      rfl
    · unfold knw
      cases hu2 : uF V st y with
      | none =>
        have := (ix_none _ _).mp hu2
        exact absurd (by rw [← e1, e]) (this u (Nat.zero_le _) (by omega))
      | some b => rw [Bool.or_eq_true]; exact Or.inr rfl
  · intro hy
    unfold knw at hy
    rw [Bool.or_eq_true] at hy
    rcases hy with q | q
    · cases hf : fF V st y with
      | none => rw [hf] at q; cases q
      | some b =>
        have hb := ix_some _ _ hf
        obtain ⟨k, hk, e, -⟩ := h2 b (by omega)
        exact ⟨k, hk, by rw [e, hb.2.2]⟩
    · cases hf : uF V st y with
      | none => rw [hf] at q; cases q
      | some b =>
        have hb := ix_some _ _ hf
        obtain ⟨k, hk, e⟩ := h3 b (by omega)
        exact ⟨k, hk, by rw [e, hb.2.2]⟩
theorem NM.sm (h : NM V s st m) {y : Int64} {k : Nat} (hk : k < st.1.length + st.2.2.1.length) (e : m.2.1 78 k = y) (h0 : 0 ≤ (m.1 79 k).toInt) : ∃ a : Nat, fF V st y = some a ∧ (m.1 79 k).toInt = (a : Int) := by
  obtain ⟨h1, h2, h3, h4, -⟩ := h
  rcases h1 k hk with ⟨i, hi, e1, e2⟩ | ⟨u, hu, e1, e2⟩
  · exact ⟨i, fF_is hi (by rw [← e1, e]) h4, e2⟩
  · exfalso; omega
theorem NM.nn (h : NM V s st m) {y : Int64} (hn : ∀ k : Nat, k < st.1.length + st.2.2.1.length → m.2.1 78 k = y → (m.1 79 k).toInt < 0) : fF V st y = none := by
  cases hf : fF V st y with
  | none => rfl
  | some b =>
    have hb := ix_some _ _ hf
    obtain ⟨k, hk, e, e2⟩ := h.2.1 b (by omega)
    have := hn k hk (by rw [e, hb.2.2])
    omega
/-- a flat more -/
theorem NM.flat {n N : Nat} {v : Int32} (h : NM V s st m) (hN : N = st.1.length + st.2.2.1.length) (hv : v.toInt = (st.1.length : Int)) (hk : knw V st (V (n + 1)) = false) (h79 : ∀ j : Nat, m'.1 79 j = if j = N then v else m.1 79 j) (h83 : m'.1 83 = m.1 83) (h84 : m'.1 84 = m.1 84) (h78 : ∀ j : Nat, m'.2.1 78 j = if j = N then V (n + 1) else m.2.1 78 j) : NM V s (st.1 ++ [n], st.2) m' := by
  have hnk : ∀ i : Nat, i < st.1.length → fN V st i ≠ V (n + 1) := fun i hi e => by
    have : knw V st (V (n + 1)) = true := by
      obtain ⟨k, hk, e1, -⟩ := h.2.1 i hi
      exact h.kn.mp ⟨k, hk, by rw [e1, e]⟩
    rw [hk] at this
    cases this
  obtain ⟨h1, h2, h3, h4, h5⟩ := h
  have l1 : (st.1 ++ [n]).length = st.1.length + 1 := by rw [List.length_append]; rfl
  have f1 : ∀ i : Nat, i < st.1.length → fN V (st.1 ++ [n], st.2) i = fN V st i := fun i hi => by
    show V ((st.1 ++ [n]).getD i 0 + 1) = _
    rw [getD_app hi]
    rfl
  have f2 : fN V (st.1 ++ [n], st.2) st.1.length = V (n + 1) := by
    show V ((st.1 ++ [n]).getD st.1.length 0 + 1) = _
    rw [getD_last]
  unfold NM
  rw [h83, h84]
  show (∀ k : Nat, k < (st.1 ++ [n]).length + st.2.2.1.length → (∃ i : Nat, i < (st.1 ++ [n]).length ∧ m'.2.1 78 k = fN V (st.1 ++ [n], st.2) i ∧ (m'.1 79 k).toInt = (i : Int)) ∨ (∃ u : Nat, u < st.2.2.1.length ∧ m'.2.1 78 k = uN V st u ∧ (m'.1 79 k).toInt < 0)) ∧ (∀ i : Nat, i < (st.1 ++ [n]).length → ∃ k : Nat, k < (st.1 ++ [n]).length + st.2.2.1.length ∧ m'.2.1 78 k = fN V (st.1 ++ [n], st.2) i ∧ (m'.1 79 k).toInt = (i : Int)) ∧ (∀ u : Nat, u < st.2.2.1.length → ∃ k : Nat, k < (st.1 ++ [n]).length + st.2.2.1.length ∧ m'.2.1 78 k = uN V st u) ∧ (∀ i j : Nat, i < (st.1 ++ [n]).length → j < (st.1 ++ [n]).length → fN V (st.1 ++ [n], st.2) i = fN V (st.1 ++ [n], st.2) j → i = j) ∧ (∀ w : Nat, w < st.2.1.length → (m.1 83 (10 * s + w)).toInt = ((wE st w).1 : Int) ∧ (m.1 84 (10 * s + w)).toInt = ((wE st w).2 : Int))
  rw [l1]
  refine ⟨fun k hk => ?_, fun i hi => ?_, fun u hu => ?_, fun i j hi hj e => ?_, h5⟩
  · rw [h78, h79]
    by_cases q : k = N
    · rw [if_pos q, if_pos q]
      exact Or.inl ⟨st.1.length, by omega, f2.symm, hv⟩
    · rw [if_neg q, if_neg q]
      rcases h1 k (by omega) with ⟨i, hi, e1, e2⟩ | w
      · exact Or.inl ⟨i, by omega, by rw [f1 i hi]; exact e1, e2⟩
      · exact Or.inr w
  · by_cases q : i = st.1.length
    · refine ⟨N, by omega, ?_, ?_⟩
      · rw [h78, if_pos rfl, q, f2]
      · rw [h79, if_pos rfl, q]; exact hv
    · obtain ⟨k, hk, e1, e2⟩ := h2 i (by omega)
      refine ⟨k, by omega, ?_, ?_⟩
      · rw [h78, if_neg (by omega), f1 i (by omega)]; exact e1
      · rw [h79, if_neg (by omega)]; exact e2
  · obtain ⟨k, hk, e1⟩ := h3 u hu
    exact ⟨k, by omega, by rw [h78, if_neg (by omega)]; exact e1⟩
  · by_cases qi : i = st.1.length
    · by_cases qj : j = st.1.length
      · omega
      · exfalso
        rw [qi, f2, f1 j (by omega)] at e
        exact hnk j (by omega) e.symm
    · by_cases qj : j = st.1.length
      · exfalso
        rw [qj, f2, f1 i (by omega)] at e
        exact hnk i (by omega) e
      · rw [f1 i (by omega), f1 j (by omega)] at e
        exact h4 i j (by omega) (by omega) e
/-- a use more -/
theorem NM.use {n N a : Nat} {v : Int32} {z : Option Nat × Option Nat × Option Nat} (h : NM V s st m) (hN : N = st.1.length + st.2.2.1.length) (hv : v.toInt < 0) (h79 : ∀ j : Nat, m'.1 79 j = if j = N then v else m.1 79 j) (h83 : m'.1 83 = m.1 83) (h84 : m'.1 84 = m.1 84) (h78 : ∀ j : Nat, m'.2.1 78 j = if j = N then V (n + 1) else m.2.1 78 j) : NM V s (st.1, st.2.1, st.2.2.1 ++ [(n, a)], z) m' := by
  obtain ⟨h1, h2, h3, h4, h5⟩ := h
  have l1 : (st.2.2.1 ++ [(n, a)]).length = st.2.2.1.length + 1 := by rw [List.length_append]; rfl
  have f1 : ∀ u : Nat, u < st.2.2.1.length → uN V (st.1, st.2.1, st.2.2.1 ++ [(n, a)], z) u = uN V st u := fun i hi => by
    show V (((st.2.2.1 ++ [(n, a)]).getD i (0, 0)).1 + 1) = _
    rw [getD_app hi]
    rfl
  have f2 : uN V (st.1, st.2.1, st.2.2.1 ++ [(n, a)], z) st.2.2.1.length = V (n + 1) := by
    show V (((st.2.2.1 ++ [(n, a)]).getD st.2.2.1.length (0, 0)).1 + 1) = _
    rw [getD_last]
  unfold NM
  rw [h83, h84]
  show (∀ k : Nat, k < st.1.length + (st.2.2.1 ++ [(n, a)]).length → (∃ i : Nat, i < st.1.length ∧ m'.2.1 78 k = fN V st i ∧ (m'.1 79 k).toInt = (i : Int)) ∨ (∃ u : Nat, u < (st.2.2.1 ++ [(n, a)]).length ∧ m'.2.1 78 k = uN V (st.1, st.2.1, st.2.2.1 ++ [(n, a)], z) u ∧ (m'.1 79 k).toInt < 0)) ∧ (∀ i : Nat, i < st.1.length → ∃ k : Nat, k < st.1.length + (st.2.2.1 ++ [(n, a)]).length ∧ m'.2.1 78 k = fN V st i ∧ (m'.1 79 k).toInt = (i : Int)) ∧ (∀ u : Nat, u < (st.2.2.1 ++ [(n, a)]).length → ∃ k : Nat, k < st.1.length + (st.2.2.1 ++ [(n, a)]).length ∧ m'.2.1 78 k = uN V (st.1, st.2.1, st.2.2.1 ++ [(n, a)], z) u) ∧ (∀ i j : Nat, i < st.1.length → j < st.1.length → fN V st i = fN V st j → i = j) ∧ (∀ w : Nat, w < st.2.1.length → (m.1 83 (10 * s + w)).toInt = ((wE st w).1 : Int) ∧ (m.1 84 (10 * s + w)).toInt = ((wE st w).2 : Int))
  rw [l1]
  refine ⟨fun k hk => ?_, fun i hi => ?_, fun u hu => ?_, h4, h5⟩
  · rw [h78, h79]
    by_cases q : k = N
    · rw [if_pos q, if_pos q]
      exact Or.inr ⟨st.2.2.1.length, by omega, f2.symm, hv⟩
    · rw [if_neg q, if_neg q]
      rcases h1 k (by omega) with w | ⟨u, hu, e1, e2⟩
      · exact Or.inl w
      · exact Or.inr ⟨u, by omega, by rw [f1 u hu]; exact e1, e2⟩
  · obtain ⟨k, hk, e1, e2⟩ := h2 i hi
    exact ⟨k, by omega, by rw [h78, if_neg (by omega)]; exact e1, by rw [h79, if_neg (by omega)]; exact e2⟩
  · by_cases q : u = st.2.2.1.length
    · exact ⟨N, by omega, by rw [h78, if_pos rfl, q, f2]⟩
    · obtain ⟨k, hk, e1⟩ := h3 u (by omega)
      exact ⟨k, by omega, by rw [h78, if_neg (by omega), f1 u (by omega)]; exact e1⟩
/-- a wire more -/
theorem NM.wire {n a b : Nat} {v1 v2 : Int32} (h : NM V s st m) (h1 : v1.toInt = (a : Int)) (h2 : v2.toInt = (b : Int)) (h79 : m'.1 79 = m.1 79) (h83 : ∀ j : Nat, m'.1 83 j = if j = 10 * s + st.2.1.length then v1 else m.1 83 j) (h84 : ∀ j : Nat, m'.1 84 j = if j = 10 * s + st.2.1.length then v2 else m.1 84 j) (h78 : m'.2.1 78 = m.2.1 78) : NM V s (st.1, st.2.1 ++ [(n, a, b)], st.2.2) m' := by
  obtain ⟨g1, g2, g3, g4, g5⟩ := h
  have l1 : (st.2.1 ++ [(n, a, b)]).length = st.2.1.length + 1 := by rw [List.length_append]; rfl
  unfold NM
  rw [h79, h78]
  show (∀ k : Nat, k < st.1.length + st.2.2.1.length → (∃ i : Nat, i < st.1.length ∧ m.2.1 78 k = fN V st i ∧ (m.1 79 k).toInt = (i : Int)) ∨ (∃ u : Nat, u < st.2.2.1.length ∧ m.2.1 78 k = uN V st u ∧ (m.1 79 k).toInt < 0)) ∧ (∀ i : Nat, i < st.1.length → ∃ k : Nat, k < st.1.length + st.2.2.1.length ∧ m.2.1 78 k = fN V st i ∧ (m.1 79 k).toInt = (i : Int)) ∧ (∀ u : Nat, u < st.2.2.1.length → ∃ k : Nat, k < st.1.length + st.2.2.1.length ∧ m.2.1 78 k = uN V st u) ∧ (∀ i j : Nat, i < st.1.length → j < st.1.length → fN V st i = fN V st j → i = j) ∧ (∀ w : Nat, w < (st.2.1 ++ [(n, a, b)]).length → (m'.1 83 (10 * s + w)).toInt = ((wE (st.1, st.2.1 ++ [(n, a, b)], st.2.2) w).1 : Int) ∧ (m'.1 84 (10 * s + w)).toInt = ((wE (st.1, st.2.1 ++ [(n, a, b)], st.2.2) w).2 : Int))
  rw [l1]
  refine ⟨g1, g2, g3, g4, fun w hw => ?_⟩
  rw [h83, h84]
  by_cases q : w = st.2.1.length
  · have e : wE (st.1, st.2.1 ++ [(n, a, b)], st.2.2) w = (a, b) := by
      show ((st.2.1 ++ [(n, a, b)]).getD w (0, 0, 0)).2 = _
      rw [q, getD_last]
    rw [e, if_pos (by omega), if_pos (by omega)]
    exact ⟨h1, h2⟩
  · have e : wE (st.1, st.2.1 ++ [(n, a, b)], st.2.2) w = wE st w := by
      show ((st.2.1 ++ [(n, a, b)]).getD w (0, 0, 0)).2 = _
      rw [getD_app (by omega)]
      rfl
    rw [e, if_neg (by omega), if_neg (by omega)]
    exact g5 w (by omega)
/-- areWired -/
theorem q_areWired {x1 x2 : Int32} {a b : Nat} {Q : Int32 → dM → Prop} (hs : s ≤ 1) (hsd : (m.1 70 19).toInt = (s : Int)) (hw : (m.1 82 s).toInt = (st.2.1.length : Int)) (h10 : st.2.1.length ≤ 10) (hW : ∀ w : Nat, w < st.2.1.length → (m.1 83 (10 * s + w)).toInt = ((wE st w).1 : Int) ∧ (m.1 84 (10 * s + w)).toInt = ((wE st w).2 : Int)) (h1 : x1.toInt = (a : Int)) (h2 : x2.toInt = (b : Int)) (hy : wx (wE st) a b st.2.1.length 0 = true → Q 1 m) (hn : wx (wE st) a b st.2.1.length 0 = false → Q 0 m) : c_X12_areWired_70 1 x1 x2 m Q := by
  have fm := dMulE (X := 10) (Y := (s : Int)) (x := (10 : Int32)) (y := m.1 70 19) (by decide) hsd (by omega) (by omega)
  have fa := dAddE (X := 10 * (s : Int)) (Y := (st.2.1.length : Int)) (x := (10 : Int32) * m.1 70 19) (y := m.1 82 s) fm hw (by omega) (by omega)
  have H : ∀ (f i : Nat) (x3 : Int32), i + f = st.2.1.length → x3.toInt = ((10 * s + i : Nat) : Int) → (wx (wE st) a b f i = true → Q 1 m) → (wx (wE st) a b f i = false → Q 0 m) → j_X12_areWired_70_8 1 x1 x2 x3 m Q := by
    intro f
    induction f with
    | zero =>
      intro i x3 hi h3 y n
      refine v_X12_areWired_70_8 ⟨by omega, ?_⟩
      rw [d_cn hsd]
      exact ⟨fun _ => n rfl, fun q => by exfalso; omega⟩
    | succ f ih =>
      intro i x3 hi h3 y n
      have w := hW i (by omega)
      rw [wx_s] at y n
      have last : (wE st i = (a, b) ∨ wE st i = (b, a)) → j_X12_areWired_70_69 1 m Q := fun q => v_X12_areWired_70_69 (y (by rw [if_pos q]))
      have nx : ¬ (wE st i = (a, b) ∨ wE st i = (b, a)) → j_X12_areWired_70_71 1 x1 x2 x3 m Q := fun q => v_X12_areWired_70_71 (ih (i + 1) _ (by omega) (by
        have := d_inc h3 (by omega)
        rw [this]; omega) (fun z => y (by rw [if_neg q]; exact z)) (fun z => n (by rw [if_neg q]; exact z)))
      have eE : ∀ c d : Nat, ((wE st i).1 : Int) = (c : Int) → ((wE st i).2 : Int) = (d : Int) → wE st i = (c, d) := fun c d e1 e2 => Prod.ext (by omega) (by omega)
      have neE : ∀ c d : Nat, ¬ (((wE st i).1 : Int) = (c : Int) ∧ ((wE st i).2 : Int) = (d : Int)) → wE st i ≠ (c, d) := fun c d e1 e2 => e1 (by rw [e2]; exact ⟨rfl, rfl⟩)
      have md : wE st i ≠ (a, b) → j_X12_areWired_70_49 1 x1 x2 x3 m Q := fun q => by
        refine v_X12_areWired_70_49 ⟨by omega, ?_⟩
        rw [d_cn h3]
        refine ⟨fun z => nx (fun o => ?_), fun z => ⟨by omega, fun z2 => nx (fun o => ?_), fun z2 => last (Or.inr (eE b a (by omega) (by omega)))⟩⟩
        · rcases o with o | o
          · exact q o
          · rw [o] at w; exact z (by rw [w.1, h2])
        · rcases o with o | o
          · exact q o
          · rw [o] at w; exact z2 (by rw [w.2, h1])
      refine v_X12_areWired_70_8 ⟨by omega, ?_⟩
      rw [d_cn hsd]
      refine ⟨fun q => by exfalso; omega, fun _ => ⟨by omega, ?_⟩⟩
      rw [d_cn h3]
      refine ⟨fun z => md (neE a b (by omega)), fun z => ⟨by omega, fun z2 => last (Or.inl (eE a b (by omega) (by omega))), fun z2 => md (neE a b (by omega))⟩⟩
  exact v_X12_areWired_70 (H st.2.1.length 0 _ (by omega) (by rw [fm]; omega) hy hn)
end RTB
