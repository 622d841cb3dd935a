/-! THE CLASS's grammar, exactly -/
def GF (mb m : dM) : Prop := (∀ k : Nat, (k < 29 ∨ k = 31 ∨ (36 < k ∧ k ≠ 43)) → m.1 k = mb.1 k) ∧ (∀ j : Nat, j ≠ 2 → j ≠ 3 → m.1 43 j = mb.1 43 j) ∧ m.2.1 = mb.2.1 ∧ m.2.2 = mb.2.2
def GL (m : dM) : Prop := (0 ≤ (m.1 29 1).toInt ∧ (m.1 29 1).toInt ≤ 406) ∧ ∀ j : Nat, 0 ≤ (m.1 36 j).toInt ∧ (m.1 36 j).toInt ≤ 13
def GO (K : Nat → Int) (mb m : dM) (r : gR) : Prop := GF mb m ∧ GL m ∧ ((m.1 43 2).toInt = (r.2 : Int) ∧ (m.1 43 3).toInt = (r.1 : Int)) ∧ r.2 ≤ 400 ∧ lvK K r.2
def RT (r : Int32) (g : gR) : Prop := (g.1 = 0 → r = 1) ∧ (g.1 ≠ 0 → r = 0)
theorem RT.b {r : Int32} {g : gR} (h : RT r g) : r = 0 ∨ r = 1 := by
  by_cases e : g.1 = 0
  · exact Or.inr (h.1 e)
  · exact Or.inl (h.2 e)
theorem RT.z {r : Int32} {g : gR} (h : RT r g) (hr : r.toInt = 0) : g.1 ≠ 0 := fun e => by
  rw [h.1 e] at hr
  exact absurd hr (by decide)
theorem RT.nz {r : Int32} {g : gR} (h : RT r g) (hr : r.toInt ≠ 0) : g.1 = 0 := by
  by_cases e : g.1 = 0
  · exact e
  · rw [h.2 e] at hr
    exact absurd rfl hr
/-- what the tokens' rows say -/
def KM (K : Nat → Int) (m : dM) : Prop := ∀ i : Nat, i ≤ 400 → lvK K i → (m.1 39 i).toInt = K i
section CGR
variable {K : Nat → Int} {mb m : dM} {n : Nat}
theorem GO.at (h : GO K mb m (0, n)) : (m.1 43 2).toInt = (n : Int) ∧ (m.1 43 3).toInt = 0 ∧ n ≤ 400 ∧ lvK K n := ⟨h.2.2.1.1, h.2.2.1.2, h.2.2.2.1, h.2.2.2.2⟩
theorem GF.set43 {j : Nat} {v : Int32} (h : GF mb m) (hj : j = 2 ∨ j = 3) : GF mb (dSet m 43 j v) := ⟨fun k hk => by rw [dSet_k (by omega)]; exact h.1 k hk, fun i h2 h3 => by rw [dSet_j (by omega)]; exact h.2.1 i h2 h3, h.2.2.1, h.2.2.2⟩
theorem GL.set43 {j : Nat} {v : Int32} (h : GL m) : GL (dSet m 43 j v) := by
  unfold GL
  rw [dSet_k (by decide), dSet_k (by decide)]
  exact h
theorem GO.set2 (h : GO K mb m (0, n)) (hn : n < 400) (hk : K n ≠ 24 ∧ K n ≠ 25) : GO K mb (dSet m 43 2 (m.1 43 2 + 1)) (0, n + 1) := by
  obtain ⟨h1, h2, ⟨h3, h4⟩, h5, h6⟩ := h
  refine ⟨h1.set43 (Or.inl rfl), h2.set43, ⟨?_, h4⟩, by show n + 1 ≤ 400; omega, h6.up hk⟩
  rw [dSet_s]
  exact d_add h3 (by decide) (by show n + 1 ≤ _; omega)
theorem GO.set3 {c : Nat} {v : Int32} (h : GO K mb m (0, n)) (hv : v.toInt = c) : GO K mb (dSet m 43 3 v) (c, n) := by
  obtain ⟨h1, h2, ⟨h3, h4⟩, h5, h6⟩ := h
  exact ⟨h1.set43 (Or.inr rfl), h2.set43, ⟨h3, hv⟩, h5, h6⟩
/-- a store into the laws -/
theorem GO.law {g : gR} {k j : Nat} {v : Int32} (h : GO K mb m g) (hk : k = 29 ∨ k = 30 ∨ (32 ≤ k ∧ k ≤ 36)) (hL : GL (dSet m k j v)) : GO K mb (dSet m k j v) g := by
  obtain ⟨h1, h2, h3, h5, h6⟩ := h
  refine ⟨⟨fun a ha => by rw [dSet_k (by omega)]; exact h1.1 a ha, fun i a b => by rw [dSet_k (by omega)]; exact h1.2.1 i a b, h1.2.2.1, h1.2.2.2⟩, hL, ?_, h5, h6⟩
  rw [dSet_k (show 43 ≠ k by omega)]
  exact h3
theorem k_kind {Q : Int32 → dM → Prop} (hK : KM K mb) (h : GO K mb m (0, n)) (hQ : ∀ r : Int32, r.toInt = K n → Q r m) : c_X2_kind_43 1 m Q := by
  obtain ⟨e2, e3, h4, h5⟩ := h.at
  refine v_X2_kind_43 ⟨fun q => by exfalso; omega, fun q => ⟨fun q => by exfalso; omega, fun q => ⟨by omega, hQ _ ?_⟩⟩⟩
  rw [d_cn e2, h.1.1 39 (by omega)]
  exact hK n h4 h5
theorem k_step {Q : Int32 → dM → Prop} (h : GO K mb m (0, n)) (hk : K n ≠ 24 ∧ K n ≠ 25) (hQ : ∀ (r : Int32) (m' : dM), GO K mb m' (gst n) → RT r (gst n) → Q r m') : c_X2_step_43 1 m Q := by
  obtain ⟨e2, e3, h4, h5⟩ := h.at
  refine v_X2_step_43 ⟨fun q => hQ _ _ ?_ ?_, fun q => hQ _ _ ?_ ?_⟩
  · unfold gst
    rw [if_neg (by omega)]
    exact h.set2 (by omega) hk
  · unfold gst
    rw [if_neg (by omega)]
    exact ⟨fun _ => rfl, fun z => absurd rfl z⟩
  · unfold gst
    rw [if_pos (by omega)]
    exact h.set3 (by decide)
  · unfold gst
    rw [if_pos (by omega)]
    exact ⟨fun z => absurd z (by first | decide | exact Nat.succ_ne_zero _), fun _ => rfl⟩
theorem k_fail {x1 : Int32} {c : Nat} {Q : Int32 → dM → Prop} (h : GO K mb m (0, n)) (hx : x1.toInt = c) (hQ : ∀ m' : dM, GO K mb m' (c, n) → Q 0 m') : c_X2_fail_43 1 x1 m Q := v_X2_fail_43 (hQ _ (h.set3 hx))
theorem k_need {x1 : Int32} {k : Int} {Q : Int32 → dM → Prop} (hK : KM K mb) (h : GO K mb m (0, n)) (hx : x1.toInt = k) (hk : k ≠ 24 ∧ k ≠ 25) (hQ : ∀ (r : Int32) (m' : dM), GO K mb m' (gnd K k n) → RT r (gnd K k n) → Q r m') : c_X2_need_43 2 x1 m Q := by
  refine v_X2_need_43 (k_kind hK h (fun r hr => ⟨fun q => k_fail h (c := 1) (by decide) (fun m' h' => ⟨Or.inl rfl, hQ _ _ ?_ ?_⟩), fun q => k_step h (by rw [← hr, q, hx]; exact hk) (fun r' m' h' hr' => ⟨hr'.b, hQ _ _ ?_ ?_⟩)⟩))
  · unfold gnd
    rw [if_neg (by omega)]
    exact h'
  · unfold gnd
    rw [if_neg (by omega)]
    exact ⟨fun z => absurd z (by first | decide | exact Nat.succ_ne_zero _), fun _ => rfl⟩
  · unfold gnd
    rw [if_pos (by omega)]
    exact h'
  · unfold gnd
    rw [if_pos (by omega)]
    exact hr'
theorem k_put {x1 : Int32} {g : gR} {Q : dM → Prop} (h : GO K mb m g) (hQ : ∀ m' : dM, GO K mb m' g → Q m') : c_X4_put_29 1 x1 m Q := by
  have hL := h.2.1
  refine v_X4_put_29 ⟨fun q => v_X4_put_29_32 (hQ _ h), fun q => ⟨by have := hL.1; omega, v_X4_put_29_32 (hQ _ ?_)⟩⟩
  have h30 : GO K mb (dSet m 30 (m.1 29 1).toNatClampNeg x1) g := h.law (by decide) (by
    unfold GL
    rw [dSet_k (by decide), dSet_k (by decide)]
    exact hL)
  refine h30.law (by decide) ⟨?_, fun j => ?_⟩
  · rw [dSet_s]
    have hb := hL.1
    have := dAddE (X := (m.1 29 1).toInt) (Y := 1) (x := m.1 29 1) (y := (1 : Int32)) rfl (by decide) (by omega) (by omega)
    omega
  · rw [dSet_k (by decide), dSet_k (by decide)]
    exact hL.2 j
theorem k_begin {x1 : Int32} {g : gR} {Q : dM → Prop} (h : GO K mb m g) (hx : 0 ≤ x1.toInt ∧ x1.toInt < 4) (hQ : ∀ m' : dM, GO K mb m' g → Q m') : c_X4_begin_29 1 x1 m Q := by
  have hL := h.2.1
  have h36 : GO K mb (dSet m 36 x1.toNatClampNeg (0 : Int32)) g := h.law (by decide) ⟨by rw [dSet_k (by decide)]; exact hL.1, fun j => by
    rw [dSet_e]
    split
    · decide
    · exact hL.2 j⟩
  have go : ∀ k : Nat, 32 ≤ k → k ≤ 35 → GO K mb (dSet (dSet m 36 x1.toNatClampNeg (0 : Int32)) k 0 (m.1 29 1)) g := fun k h1 h2 => h36.law (by omega) (by
    have := h36.2.1
    unfold GL
    rw [dSet_k (show 29 ≠ k by omega), dSet_k (show 36 ≠ k by omega)]
    exact this)
  exact v_X4_begin_29 ⟨hx, hx, fun _ => hQ _ (go 32 (by decide) (by decide)), fun _ => hQ _ (go 33 (by decide) (by decide)), fun _ => hQ _ (go 34 (by decide) (by decide)), fun _ => hQ _ (go 35 (by decide) (by decide))⟩
theorem k_piece {x1 : Int32} {g : gR} {Q : dM → Prop} (h : GO K mb m g) (hx : 0 ≤ x1.toInt ∧ x1.toInt < 4) (hQ : ∀ m' : dM, GO K mb m' g → Q m') : c_X4_endPiece_29 1 x1 m Q := by
  have hL := h.2.1
  have hj := hL.2 x1.toNatClampNeg
  refine v_X4_endPiece_29 ⟨hx, fun q => v_X4_endPiece_29_38 (hQ _ h), fun q => ?_⟩
  have f1 := dAddE (X := (m.1 36 x1.toNatClampNeg).toInt) (Y := 1) (x := m.1 36 x1.toNatClampNeg) (y := (1 : Int32)) rfl (by decide) (by omega) (by omega)
  have h36 : GO K mb (dSet m 36 x1.toNatClampNeg (m.1 36 x1.toNatClampNeg + 1)) g := h.law (by decide) ⟨by rw [dSet_k (by decide)]; exact hL.1, fun j => by
    rw [dSet_e]
    split
    · omega
    · exact hL.2 j⟩
  have go : ∀ k j : Nat, 32 ≤ k → k ≤ 35 → GO K mb (dSet (dSet m 36 x1.toNatClampNeg (m.1 36 x1.toNatClampNeg + 1)) k j (m.1 29 1)) g := fun k j h1 h2 => h36.law (by omega) (by
    have := h36.2.1
    unfold GL
    rw [dSet_k (show 29 ≠ k by omega), dSet_k (show 36 ≠ k by omega)]
    exact this)
  have b14 : 0 ≤ (m.1 36 x1.toNatClampNeg + 1).toInt ∧ (m.1 36 x1.toNatClampNeg + 1).toInt < 14 := by omega
  exact ⟨hx, hx, hx, fun _ => ⟨hx, b14, v_X4_endPiece_29_38 (hQ _ (go 32 _ (by decide) (by decide)))⟩, fun _ => ⟨hx, b14, v_X4_endPiece_29_38 (hQ _ (go 33 _ (by decide) (by decide)))⟩, fun _ => ⟨hx, b14, v_X4_endPiece_29_38 (hQ _ (go 34 _ (by decide) (by decide)))⟩, fun _ => ⟨hx, b14, v_X4_endPiece_29_38 (hQ _ (go 35 _ (by decide) (by decide)))⟩⟩
theorem k_endPiece {x1 x2 : Int32} {k : Int} {Q : Int32 → dM → Prop} (hK : KM K mb) (h : GO K mb m (0, n)) (hx : 0 ≤ x1.toInt ∧ x1.toInt < 4) (h2 : x2.toInt = k) (hk : k ≠ 24 ∧ k ≠ 25) (hQ : ∀ (r : Int32) (m' : dM), GO K mb m' (gnd K k n) → RT r (gnd K k n) → Q r m') : c_X2_endPiece_43 3 x1 x2 m Q :=
  v_X2_endPiece_43 (Wp.deep (k_piece h hx (fun m1 h1 => k_need hK h1 h2 hk (fun r m' h' hr => ⟨hr.b, hQ r m' h' hr⟩))) (Nat.le_of_ble_eq_true rfl))
theorem k_numberAt {x1 : Int32} {Q : Int32 → dM → Prop} (hx : x1.toInt = n) (hn : n ≤ 400) (hQ : Q (m.2.1 41 n).toInt32 m) : c_X8_numberAt_38 2 x1 m Q := by
  refine v_X8_numberAt_38 (v_X8_nameAt_38 ⟨fun q => by exfalso; omega, fun q => ⟨fun q => by exfalso; omega, fun q => ⟨by omega, ?_⟩⟩⟩)
  rw [d_cn hx]
  exact hQ
end CGR
/-! sums -/
def cU (K : Nat → Int) (mb : dM) (o d : Nat) : Prop := ∀ (n : Nat) (m : dM) (x1 : Int32) (Q : Int32 → dM → Prop), GO K mb m (0, n) → x1.toInt = o → (∀ (r : Int32) (m' : dM) (g : gR), GO K mb m' g → RT r g → (g.1 = 0 → gX K o o false n = gX K o o true g.2 ∧ n < g.2) → (g.1 ≠ 0 → gX K o o false n = g) → Q r m') → c_X2_unit_43 d x1 m Q
def cP (K : Nat → Int) (mb : dM) (o d : Nat) : Prop := ∀ (n : Nat) (m : dM) (x1 : Int32) (Q : Int32 → dM → Prop), GO K mb m (0, n) → x1.toInt = o → (∀ (r : Int32) (m' : dM) (g : gR), GO K mb m' g → RT r g → (g.1 = 0 → gX K o o false n = gX K o o true g.2 ∧ n < g.2 ∧ K g.2 ≠ 42 ∧ K g.2 ≠ 47) → (g.1 ≠ 0 → gX K o o false n = g) → Q r m') → c_X2_product_43 d x1 m Q
def cSm (K : Nat → Int) (mb : dM) (o d : Nat) : Prop := ∀ (n : Nat) (m : dM) (x1 : Int32) (Q : Int32 → dM → Prop), GO K mb m (0, n) → x1.toInt = o → (∀ (r : Int32) (m' : dM), GO K mb m' (gX K o o false n) → RT r (gX K o o false n) → Q r m') → c_X2_sum_43 d x1 m Q
section CSU
variable {K : Nat → Int} {mb : dM}
theorem k_unit {o d : Nat} (hK : KM K mb) (ho : o ≤ 6) (hd : 2 ≤ d) (hS : o < 6 → cSm K mb (o + 1) d) : cU K mb o (d + 1) := by
  intro n m x1 Q h hx hQ
  obtain ⟨e2, e3, h4, h5⟩ := h.at
  have eU := gX_U (K := K) (b := o) (d := o) h4
  have bad : ∀ (m' : dM) (c : Nat), GO K mb m' (c, n) → c ≠ 0 → gX K o o false n = (c, n) → Q 0 m' := fun m' c h' hc e => hQ 0 m' (c, n) h' ⟨fun z => absurd z hc, fun _ => rfl⟩ (fun z => absurd z hc) (fun _ => e)
  have st : ∀ (r : Int32) (m' : dM), GO K mb m' (gst n) → RT r (gst n) → (K n = 23 ∨ (13 ≤ K n ∧ K n ≤ 21)) → Q r m' := fun r m' h' hr hu => by
    rw [if_pos hu] at eU
    refine hQ r m' (gst n) h' hr (fun z => ?_) (fun z => ?_)
    · unfold gst at z ⊢
      by_cases q : 400 ≤ n
      · rw [if_pos q] at z; exact absurd z (by first | decide | exact Nat.succ_ne_zero _)
      · rw [if_neg q] at eU ⊢
        exact ⟨eU, Nat.lt_succ_self n⟩
    · unfold gst at z ⊢
      by_cases q : 400 ≤ n
      · rw [if_pos q] at eU ⊢
        exact eU
      · rw [if_neg q] at z; exact absurd rfl z
  refine v_X2_unit_43 (Wp.deep (k_kind hK h (fun r hr => ?_)) (by omega))
  have h67 : ¬ (K n = 23 ∨ (13 ≤ K n ∧ K n ≤ 21)) → j_X2_unit_43_67 (d + 1) x1 r m Q := fun hu => by
    rw [if_neg hu] at eU
    refine v_X2_unit_43_67 ⟨fun q40 => ⟨fun q6 => ?_, fun q6 => ?_⟩, fun q40 => ?_⟩
    · rw [if_pos (by omega), if_neg (by omega)] at eU
      refine Wp.deep (k_step h (by omega) (fun r1 m1 h1 hr1 => ⟨fun z => ?_, fun z => ?_⟩)) (by omega)
      · have z := hr1.z z
        unfold gst at z h1
        by_cases q : 400 ≤ n
        · rw [if_pos q] at eU h1
          exact v_X2_unit_43_123 (bad _ 2 h1 (by first | decide | exact Nat.succ_ne_zero _) eU)
        · rw [if_neg q] at z; exact absurd rfl z
      · have z := hr1.nz z
        unfold gst at z h1
        by_cases q : 400 ≤ n
        · rw [if_pos q] at z; exact absurd z (by first | decide | exact Nat.succ_ne_zero _)
        · rw [if_neg q] at eU h1
          have eS := gX_seg (K := K) (b := o) (b' := o + 1) (by omega) _ (o + 1) false (n + 1) rfl (by omega) (by omega)
          rw [← eU] at eS
          have hok := gX_ok (K := K) (b := o + 1) _ (o + 1) false (n + 1) rfl (by omega)
          have hnp := gX_nop (K := K) (b := o + 1) _ (o + 1) false (n + 1) rfl (by omega)
          refine hS (by omega) (n + 1) m1 _ _ h1 (d_add hx (by decide) (by omega)) (fun r2 m2 h2 hr2 => ⟨fun z2 => ?_, fun z2 => ?_⟩)
          · have z2 := hr2.z z2
            rw [rb_f z2] at eS
            generalize gX K (o + 1) (o + 1) false (n + 1) = g at *
            exact v_X2_unit_43_123 (hQ 0 m2 g h2 ⟨fun q => absurd q z2, fun _ => rfl⟩ (fun q => absurd q z2) (fun _ => eS))
          · have z2 := hr2.nz z2
            rw [rb_k z2] at eS
            have hnp := hnp z2
            generalize gX K (o + 1) (o + 1) false (n + 1) = g at *
            obtain ⟨g1, g2⟩ := g
            have z2 : g1 = 0 := z2
            subst z2
            have hok1 : n + 1 ≤ g2 ∧ g2 ≤ 400 := hok.1
            have hnp : K g2 ≠ 43 ∧ K g2 ≠ 45 ∧ K g2 ≠ 42 ∧ K g2 ≠ 47 := hnp
            have eO := gX_O (K := K) (b := o) (d := o + 1) hok1.2
            rw [if_neg (by omega), if_pos (by omega)] at eO
            have eS : gX K o o false n = gX K o (o + 1) true g2 := eS
            rw [eO] at eS
            refine Wp.deep (k_need hK h2 (k := 41) (by decide) (by decide) (fun r3 m3 h3 hr3 => ⟨fun z3 => ?_, fun z3 => ?_⟩)) hd
            · have z3 := hr3.z z3
              have e : gnd K 41 g2 = gX K o o false n := by
                rw [eS]
                unfold gnd gst at z3 ⊢
                by_cases q4 : K g2 = 41
                · rw [if_pos q4] at z3 ⊢
                  rw [if_pos q4]
                  by_cases q5 : 400 ≤ g2
                  · rw [if_pos q5, if_pos q5]
                  · rw [if_neg q5] at z3; exact absurd rfl z3
                · rw [if_neg q4, if_neg q4]
              exact v_X2_unit_43_123 (hQ 0 m3 _ h3 ⟨fun q => absurd q z3, fun _ => rfl⟩ (fun q => absurd q z3) (fun _ => e.symm))
            · have z3 := hr3.nz z3
              have e : gX K o o false n = gX K o o true (gnd K 41 g2).2 ∧ n < (gnd K 41 g2).2 := by
                rw [eS]
                unfold gnd gst at z3 ⊢
                by_cases q4 : K g2 = 41
                · rw [if_pos q4] at z3 ⊢
                  rw [if_pos q4]
                  by_cases q5 : 400 ≤ g2
                  · rw [if_pos q5] at z3; exact absurd z3 (by first | decide | exact Nat.succ_ne_zero _)
                  · rw [if_neg q5, if_neg q5]
                    exact ⟨rfl, by show n < g2 + 1; omega⟩
                · rw [if_neg q4] at z3; exact absurd z3 (by first | decide | exact Nat.succ_ne_zero _)
              exact hQ 1 m3 _ h3 ⟨fun _ => rfl, fun q => absurd z3 q⟩ (fun _ => e) (fun q => absurd z3 q)
    · rw [if_pos (by omega), if_pos (by omega)] at eU
      exact Wp.deep (k_fail h (c := 2) (by decide) (fun m' h' => ⟨Or.inl rfl, bad m' 2 h' (by first | decide | exact Nat.succ_ne_zero _) eU⟩)) (by omega)
    · rw [if_neg (by omega)] at eU
      exact Wp.deep (k_fail h (c := 1) (by decide) (fun m' h' => ⟨Or.inl rfl, bad m' 1 h' (by first | decide | exact Nat.succ_ne_zero _) eU⟩)) (by omega)
  refine ⟨fun q23 => ⟨fun q => h67 (by omega), fun q => ⟨fun q => h67 (by omega), fun q => ?_⟩⟩, fun q23 => ?_⟩
  · exact Wp.deep (k_put h (fun m2 h2 => Wp.deep (k_step h2 (by omega) (fun r3 m3 h3 hr3 => ⟨hr3.b, st r3 m3 h3 hr3 (by omega)⟩)) (by omega))) (by omega)
  · refine Wp.deep (k_numberAt (n := n) e2 h4 ?_) hd
    exact Wp.deep (k_put h (fun m2 h2 => Wp.deep (k_step h2 (by omega) (fun r3 m3 h3 hr3 => ⟨hr3.b, st r3 m3 h3 hr3 (by omega)⟩)) (by omega))) (by omega)
theorem k_product {o d : Nat} (hK : KM K mb) (hd : 1 ≤ d) (hU : cU K mb o d) : cP K mb o (d + 1) := by
  intro n m x1 Q h hx hQ
  have bad : ∀ (m' : dM) (g : gR), GO K mb m' g → g.1 ≠ 0 → gX K o o false n = g → Q 0 m' := fun m' g h' hc e => hQ 0 m' g h' ⟨fun z => absurd z hc, fun _ => rfl⟩ (fun z => absurd z hc) (fun _ => e)
  have loop : ∀ (f i n1 : Nat) (x2 : Int32) (m1 : dM), 401 - n1 ≤ f → x2.toInt = i → 2 * i ≤ n1 → n < n1 → GO K mb m1 (0, n1) → gX K o o false n = gX K o o true n1 → j_X2_product_43_12 (d + 1) x1 x2 m1 Q := by
    intro f
    induction f with
    | zero => intro i n1 x2 m1 hf h2 hi hn h1 e; have := h1.at.2.2.1; omega
    | succ f ih =>
      intro i n1 x2 m1 hf h2 hi hn h1 e
      obtain ⟨a2, a3, a4, a5⟩ := h1.at
      have eO := gX_O (K := K) (b := o) (d := o) a4
      have fin : K n1 ≠ 42 → K n1 ≠ 47 → j_X2_product_43_83 (d + 1) m1 Q := fun q1 q2 => v_X2_product_43_83 (hQ 1 m1 (0, n1) h1 ⟨fun _ => rfl, fun z => absurd rfl z⟩ (fun _ => ⟨e, hn, q1, q2⟩) (fun z => absurd rfl z))
      have body : (K n1 = 42 ∨ K n1 = 47) → ∀ v : Int32, c_X2_step_43 d m1 (fun r2 m2 => ((r2.toInt = 0 → j_X2_product_43_67 (d + 1) m2 Q) ∧ (r2.toInt ≠ 0 → c_X2_unit_43 d x1 m2 (fun r3 m3 => ((r3.toInt ≠ 0 → c_X4_put_29 d v m3 (fun m4 => j_X2_product_43_12 (d + 1) x1 (x2 + (1 : Int32)) m4 Q)) ∧ (r3.toInt = 0 → j_X2_product_43_67 (d + 1) m3 Q)))))) := fun hk v => by
        rw [if_pos (by omega)] at eO
        refine Wp.deep (k_step h1 (by omega) (fun r2 m2 h2' hr2 => ⟨fun z => ?_, fun z => ?_⟩)) hd
        · have z := hr2.z z
          unfold gst at z h2'
          by_cases q : 400 ≤ n1
          · rw [if_pos q] at eO h2'
            exact v_X2_product_43_67 (bad _ (2, n1) h2' (by first | decide | exact Nat.succ_ne_zero _) (e.trans eO))
          · rw [if_neg q] at z; exact absurd rfl z
        · have z := hr2.nz z
          unfold gst at z h2'
          by_cases q : 400 ≤ n1
          · rw [if_pos q] at z; exact absurd z (by first | decide | exact Nat.succ_ne_zero _)
          · rw [if_neg q] at eO h2'
            refine hU (n1 + 1) m2 x1 _ h2' hx (fun r3 m3 g h3 hr3 ok3 no3 => ⟨fun z3 => ?_, fun z3 => ?_⟩)
            · have z3 := hr3.nz z3
              obtain ⟨g1, g2⟩ := g
              have z3 : g1 = 0 := z3
              subst z3
              obtain ⟨p1, p2⟩ := ok3 rfl
              have p2 : n1 + 1 < g2 := p2
              refine Wp.deep (k_put h3 (fun m4 h4 => ih (i + 1) g2 _ m4 ?_ (d_add h2 (by decide) (by omega)) (by omega) (by omega) h4 ((e.trans eO).trans p1))) hd
              have := h3.at.2.2.1
              omega
            · exact v_X2_product_43_67 (bad _ g h3 (hr3.z z3) ((e.trans eO).trans (no3 (hr3.z z3))))
      have h37 : (K n1 = 42 ∨ K n1 = 47) → j_X2_product_43_37 (d + 1) x1 x2 m1 Q := fun q => v_X2_product_43_37 (Wp.deep (k_kind hK h1 (fun r hr => ⟨fun _ => body q 3, fun _ => body q 2⟩)) hd)
      exact v_X2_product_43_12 ⟨fun q => by exfalso; omega, fun _ => Wp.deep (k_kind hK h1 (fun r hr => ⟨fun q => h37 (by omega), fun q => Wp.deep (k_kind hK h1 (fun r' hr' => ⟨fun q' => fin (by omega) (by omega), fun q' => h37 (by omega)⟩)) hd⟩)) hd⟩
  refine v_X2_product_43 (hU n m x1 _ h hx (fun r m1 g h1 hr ok no => ⟨fun z => ?_, fun z => bad _ g h1 (hr.z z) (no (hr.z z))⟩))
  have z := hr.nz z
  obtain ⟨g1, g2⟩ := g
  have z : g1 = 0 := z
  subst z
  obtain ⟨p1, p2⟩ := ok rfl
  have p2 : n < g2 := p2
  exact loop 401 0 g2 _ m1 (by omega) (by decide) (by omega) p2 h1 p1
theorem k_sum {o d : Nat} (hK : KM K mb) (hd : 1 ≤ d) (hU : cP K mb o d) : cSm K mb o (d + 1) := by
  intro n m x1 Q h hx hQ
  have bad : ∀ (m' : dM) (g : gR), GO K mb m' g → g.1 ≠ 0 → gX K o o false n = g → Q 0 m' := fun m' g h' hc e => hQ 0 m' (by rw [e]; exact h') (by rw [e]; exact ⟨fun z => absurd z hc, fun _ => rfl⟩)
  have loop : ∀ (f i n1 : Nat) (x2 : Int32) (m1 : dM), 401 - n1 ≤ f → x2.toInt = i → 2 * i ≤ n1 → (K n1 ≠ 42 ∧ K n1 ≠ 47) → GO K mb m1 (0, n1) → gX K o o false n = gX K o o true n1 → j_X2_sum_43_12 (d + 1) x1 x2 m1 Q := by
    intro f
    induction f with
    | zero => intro i n1 x2 m1 hf h2 hi hn h1 e; have := h1.at.2.2.1; omega
    | succ f ih =>
      intro i n1 x2 m1 hf h2 hi hn h1 e
      obtain ⟨a2, a3, a4, a5⟩ := h1.at
      have eO := gX_O (K := K) (b := o) (d := o) a4
      have fin : K n1 ≠ 43 → K n1 ≠ 45 → j_X2_sum_43_83 (d + 1) m1 Q := fun q1 q2 => by
        rw [if_neg (by omega), if_neg (Nat.lt_irrefl o)] at eO
        have e2 := e.trans eO
        exact v_X2_sum_43_83 (hQ 1 m1 (by rw [e2]; exact h1) (by rw [e2]; exact ⟨fun _ => rfl, fun z => absurd rfl z⟩))
      have body : (K n1 = 43 ∨ K n1 = 45) → ∀ v : Int32, c_X2_step_43 d m1 (fun r2 m2 => ((r2.toInt = 0 → j_X2_sum_43_67 (d + 1) m2 Q) ∧ (r2.toInt ≠ 0 → c_X2_product_43 d x1 m2 (fun r3 m3 => ((r3.toInt ≠ 0 → c_X4_put_29 d v m3 (fun m4 => j_X2_sum_43_12 (d + 1) x1 (x2 + (1 : Int32)) m4 Q)) ∧ (r3.toInt = 0 → j_X2_sum_43_67 (d + 1) m3 Q)))))) := fun hk v => by
        rw [if_pos (by omega)] at eO
        refine Wp.deep (k_step h1 (by omega) (fun r2 m2 h2' hr2 => ⟨fun z => ?_, fun z => ?_⟩)) hd
        · have z := hr2.z z
          unfold gst at z h2'
          by_cases q : 400 ≤ n1
          · rw [if_pos q] at eO h2'
            exact v_X2_sum_43_67 (bad _ (2, n1) h2' (by first | decide | exact Nat.succ_ne_zero _) (e.trans eO))
          · rw [if_neg q] at z; exact absurd rfl z
        · have z := hr2.nz z
          unfold gst at z h2'
          by_cases q : 400 ≤ n1
          · rw [if_pos q] at z; exact absurd z (by first | decide | exact Nat.succ_ne_zero _)
          · rw [if_neg q] at eO h2'
            refine hU (n1 + 1) m2 x1 _ h2' hx (fun r3 m3 g h3 hr3 ok3 no3 => ⟨fun z3 => ?_, fun z3 => ?_⟩)
            · have z3 := hr3.nz z3
              obtain ⟨g1, g2⟩ := g
              have z3 : g1 = 0 := z3
              subst z3
              obtain ⟨p1, p2, p3⟩ := ok3 rfl
              have p2 : n1 + 1 < g2 := p2
              refine Wp.deep (k_put h3 (fun m4 h4 => ih (i + 1) g2 _ m4 ?_ (d_add h2 (by decide) (by omega)) (by omega) p3 h4 ((e.trans eO).trans p1))) hd
              have := h3.at.2.2.1
              omega
            · exact v_X2_sum_43_67 (bad _ g h3 (hr3.z z3) ((e.trans eO).trans (no3 (hr3.z z3))))
      have h37 : (K n1 = 43 ∨ K n1 = 45) → j_X2_sum_43_37 (d + 1) x1 x2 m1 Q := fun q => v_X2_sum_43_37 (Wp.deep (k_kind hK h1 (fun r hr => ⟨fun _ => body q 1, fun _ => body q 0⟩)) hd)
      exact v_X2_sum_43_12 ⟨fun q => by exfalso; omega, fun _ => Wp.deep (k_kind hK h1 (fun r hr => ⟨fun q => h37 (by omega), fun q => Wp.deep (k_kind hK h1 (fun r' hr' => ⟨fun q' => fin (by omega) (by omega), fun q' => h37 (by omega)⟩)) hd⟩)) hd⟩
  refine v_X2_sum_43 (hU n m x1 _ h hx (fun r m1 g h1 hr ok no => ⟨fun z => ?_, fun z => bad _ g h1 (hr.z z) (no (hr.z z))⟩))
  have z := hr.nz z
  obtain ⟨g1, g2⟩ := g
  have z : g1 = 0 := z
  subst z
  obtain ⟨p1, p2, p3⟩ := ok rfl
  have p2 : n < g2 := p2
  exact loop 401 0 g2 _ m1 (by omega) (by decide) (by omega) p3 h1 p1
theorem k_sums (hK : KM K mb) : ∀ (e o : Nat), o + e = 6 → cSm K mb o (3 * e + 8) := by
  intro e
  induction e with
  | zero => intro o ho; exact k_sum hK (by omega) (k_product hK (by omega) (k_unit (d := 5) hK (by omega) (by omega) (fun q => by exfalso; omega)))
  | succ e ih =>
    intro o ho
    have hS := ih (o + 1) (by omega)
    have := k_sum hK (by omega) (k_product hK (by omega) (k_unit (o := o) (d := 3 * e + 8) hK (by omega) (by omega) (fun _ => hS)))
    rw [show 3 * (e + 1) + 8 = 3 * e + 8 + 1 + 1 + 1 by omega]
    exact this
theorem k_expr {n : Nat} {m : dM} {Q : Int32 → dM → Prop} (hK : KM K mb) (h : GO K mb m (0, n)) (hQ : ∀ (r : Int32) (m' : dM), GO K mb m' (gE K n) → RT r (gE K n) → Q r m') : c_X2_sum_43 26 (0 : Int32) m Q := k_sums hK 6 0 rfl n m _ Q h (by decide) hQ
end CSU
section CRO
variable {K : Nat → Int} {mb : dM}
theorem RT.of {r : Int32} {g : gR} (h0 : g.1 = 0 → r = 1) (h1 : g.1 ≠ 0 → r = 0) : RT r g := ⟨h0, h1⟩
/-- names, then numbers, then its end -/
theorem k_row {a b : Nat} {x1 x2 : Int32} {n : Nat} {m : dM} {Q : dM → Prop} (hK : KM K mb) (h : GO K mb m (0, n)) (hk : K n ≠ 24 ∧ K n ≠ 25) (h1 : x1.toInt = a) (h2 : x2.toInt = b) (ha : a ≤ 3) (hb : b ≤ 3) (hQ : ∀ m' : dM, GO K mb m' (rb (gst n) (gsq K (List.replicate a 22 ++ (List.replicate b 23 ++ [59])))) → Q m') : c_X2_checkRow_43 3 x1 x2 m Q := by
  generalize hR : rb (gst n) (gsq K (List.replicate a 22 ++ (List.replicate b 23 ++ [59]))) = R at hQ
  have l57 : ∀ (x3 : Int32) (m' : dM) (g : gR), GO K mb m' g → RT x3 g → rb g (gsq K [59]) = R → j_X2_checkRow_43_57 3 x3 m' Q := by
    intro x3 m' g h' hr e
    refine v_X2_checkRow_43_57 ⟨fun z => v_X2_checkRow_43_68 (hQ _ ?_), fun z => ?_⟩
    · rw [rb_f (hr.z z)] at e
      rw [← e]; exact h'
    · have z := hr.nz z
      rw [rb_k z] at e
      obtain ⟨g1, g2⟩ := g
      have z : g1 = 0 := z
      subst z
      refine k_need hK h' (k := 59) (by decide) (by decide) (fun r m2 h2 hr2 => v_X2_checkRow_43_68 (hQ _ ?_))
      have e : rb (gnd K 59 g2) (fun n => (0, n)) = R := e
      by_cases q : (gnd K 59 g2).1 = 0
      · rw [rb_k q] at e
        rw [← e, ← q]; exact h2
      · rw [rb_f q] at e
        rw [← e]; exact h2
  have l34 : ∀ (f i : Nat) (x3 x4 : Int32) (m' : dM) (g : gR), i + f = b → x4.toInt = i → GO K mb m' g → RT x3 g → rb g (gsq K (List.replicate f 23 ++ [59])) = R → j_X2_checkRow_43_34 3 x2 x3 x4 m' Q := by
    intro f
    induction f with
    | zero =>
      intro i x3 x4 m' g hi h4 h' hr e
      exact v_X2_checkRow_43_34 ⟨fun _ => l57 x3 m' g h' hr e, fun q => by exfalso; omega⟩
    | succ f ih =>
      intro i x3 x4 m' g hi h4 h' hr e
      refine v_X2_checkRow_43_34 ⟨fun q => by exfalso; omega, fun _ => ⟨fun z => l57 x3 m' g h' hr ?_, fun z => ?_⟩⟩
      · rw [rb_f (hr.z z)] at e ⊢
        exact e
      · have z := hr.nz z
        rw [rb_k z] at e
        obtain ⟨g1, g2⟩ := g
        have z : g1 = 0 := z
        subst z
        exact k_need hK h' (k := 23) (by decide) (by decide) (fun r m2 h2 hr2 => ih (i + 1) r _ m2 (gnd K 23 g2) (by omega) (d_add h4 (by decide) (by omega)) h2 hr2 e)
  have l8 : ∀ (f i : Nat) (x3 x4 : Int32) (m' : dM) (g : gR), i + f = a → x4.toInt = i → GO K mb m' g → RT x3 g → rb g (gsq K (List.replicate f 22 ++ (List.replicate b 23 ++ [59]))) = R → j_X2_checkRow_43_8 3 x1 x2 x3 x4 m' Q := by
    intro f
    induction f with
    | zero =>
      intro i x3 x4 m' g hi h4 h' hr e
      exact v_X2_checkRow_43_8 ⟨fun _ => v_X2_checkRow_43_31 (l34 b 0 x3 _ m' g (by omega) (by decide) h' hr e), fun q => by exfalso; omega⟩
    | succ f ih =>
      intro i x3 x4 m' g hi h4 h' hr e
      refine v_X2_checkRow_43_8 ⟨fun q => by exfalso; omega, fun _ => ⟨fun z => v_X2_checkRow_43_31 (l34 b 0 x3 _ m' g (by omega) (by decide) h' hr ?_), fun z => ?_⟩⟩
      · rw [rb_f (hr.z z)] at e ⊢
        exact e
      · have z := hr.nz z
        rw [rb_k z] at e
        obtain ⟨g1, g2⟩ := g
        have z : g1 = 0 := z
        subst z
        exact k_need hK h' (k := 22) (by decide) (by decide) (fun r m2 h2 hr2 => ih (i + 1) r _ m2 (gnd K 22 g2) (by omega) (d_add h4 (by decide) (by omega)) h2 hr2 e)
  exact v_X2_checkRow_43 (Wp.deep (k_step h hk (fun r m1 h1' hr => l8 a 0 r _ m1 (gst n) (by omega) (by decide) h1' hr hR)) (Nat.le_of_ble_eq_true rfl))
theorem k_counted {a b c most : Nat} {x1 x2 x3 x4 : Int32} {n : Nat} {m : dM} {Q : dM → Prop} (hK : KM K mb) (h : GO K mb m (0, n)) (hk : K n ≠ 24 ∧ K n ≠ 25) (h1 : x1.toInt = ((c + 1 : Nat) : Int)) (h2 : x2.toInt = most) (h3 : x3.toInt = a) (h4 : x4.toInt = b) (ha : a ≤ 3) (hb : b ≤ 3) (hQ : ∀ m' : dM, GO K mb m' (if most ≤ c then (2, n) else rb (gst n) (gsq K (List.replicate a 22 ++ (List.replicate b 23 ++ [59])))) → Q m') : c_X2_checkCounted_43 4 x1 x2 x3 x4 m Q := by
  refine v_X2_checkCounted_43 ⟨fun q => k_row hK h hk h3 h4 ha hb (fun m' h' => v_X2_checkCounted_43_20 (hQ _ ?_)), fun q => v_X2_checkCounted_43_20 (hQ _ ?_)⟩
  · rw [if_neg (by omega)]; exact h'
  · rw [if_pos (by omega)]; exact h.set3 (by decide)
end CRO
section CLA
variable {K : Nat → Int} {mb : dM}
theorem gnd_z {k : Int} {n : Nat} {g : gR} (h : g = gnd K k n) (hz : g.1 = 0) : g = (0, n + 1) ∧ K n = k ∧ n < 400 := by
  unfold gnd gst at h
  by_cases q : K n = k
  · rw [if_pos q] at h
    by_cases q2 : 400 ≤ n
    · rw [if_pos q2] at h; rw [h] at hz; exact absurd hz (by first | decide | exact Nat.succ_ne_zero _)
    · rw [if_neg q2] at h; exact ⟨h, q, by omega⟩
  · rw [if_neg q] at h; rw [h] at hz; exact absurd hz (by first | decide | exact Nat.succ_ne_zero _)
/-- a law, from behind its sign of setting -/
theorem k_ifs {x1 : Int32} {Q : Int32 → dM → Prop} (hK : KM K mb) (hx : 0 ≤ x1.toInt ∧ x1.toInt < 4) : ∀ (r i n : Nat) (x2 : Int32) (m : dM), i + r = 4 → x2.toInt = i → GO K mb m (0, n) → (∀ (v : Int32) (m' : dM), GO K mb m' (gIf K r n) → Q v m') → j_X2_checkLaw_43_28 27 x1 x2 m Q := by
  have l122 : ∀ (n : Nat) (m : dM), GO K mb m (0, n) → (∀ (v : Int32) (m' : dM), GO K mb m' (rb (gE K n) (gnd K 59)) → Q v m') → j_X2_checkLaw_43_122 27 x1 m Q := by
    intro n m h hQ
    refine v_X2_checkLaw_43_122 (k_expr hK h (fun r1 m1 h1 hr1 => ⟨fun z => v_X2_checkLaw_43_144 (hQ _ _ ?_), fun z => ?_⟩))
    · rw [rb_f (hr1.z z)]; exact h1
    · have z := hr1.nz z
      rw [rb_k z] at hQ
      generalize gE K n = g at *
      obtain ⟨g1, g2⟩ := g
      have z : g1 = 0 := z
      subst z
      exact Wp.deep (k_endPiece hK h1 hx (k := 59) (by decide) (by decide) (fun r2 m2 h2 hr2 => ⟨fun _ => v_X2_checkLaw_43_144 (hQ _ _ h2), fun _ => hQ _ _ h2⟩)) (Nat.le_of_ble_eq_true rfl)
  have l114 : ∀ (m : dM) (g : gR), GO K mb m g → (∀ (v : Int32) (m' : dM), GO K mb m' g → Q v m') → j_X2_checkLaw_43_114 27 m Q := fun m g h hQ => v_X2_checkLaw_43_114 (hQ _ _ h)
  intro r
  induction r with
  | zero =>
    intro i n x2 m hi h2 h hQ
    refine v_X2_checkLaw_43_28 ⟨fun q => by exfalso; omega, fun _ => Wp.deep (k_kind hK h (fun v hv => ⟨fun q => l122 n m h (fun v m' h' => hQ v m' ?_), fun q => ⟨fun q4 => by exfalso; omega, fun q4 => Wp.deep (k_fail h (c := 2) (by decide) (fun m' h' => ⟨Or.inl rfl, hQ _ _ ?_⟩)) (Nat.le_of_ble_eq_true rfl)⟩⟩)) (Nat.le_of_ble_eq_true rfl)⟩
    · unfold gIf
      rw [if_neg (by omega)]; exact h'
    · unfold gIf
      rw [if_pos (by omega)]; exact h'
  | succ r ih =>
    intro i n x2 m hi h2 h hQ
    refine v_X2_checkLaw_43_28 ⟨fun q => by exfalso; omega, fun _ => Wp.deep (k_kind hK h (fun v hv => ⟨fun q => l122 n m h (fun v m' h' => hQ v m' ?_), fun q => ⟨fun q4 => ?_, fun q4 => by exfalso; omega⟩⟩)) (Nat.le_of_ble_eq_true rfl)⟩
    · unfold gIf
      rw [if_neg (by omega)]; exact h'
    · unfold gIf at hQ
      rw [if_pos (by omega)] at hQ
      refine Wp.deep (k_step h (by omega) (fun r2 m2 h2' hr2 => ⟨fun z => ?_, fun z => ?_⟩)) (Nat.le_of_ble_eq_true rfl)
      · rw [rb_f (hr2.z z)] at hQ
        exact l114 _ _ h2' hQ
      · have z := hr2.nz z
        rw [rb_k z] at hQ
        generalize gst n = g at *
        obtain ⟨g1, n2⟩ := g
        have z : g1 = 0 := z
        subst z
        have hQ : ∀ (v : Int32) (m' : dM), GO K mb m' (rb (gE K n2) (fun n => rb (gnd K 60 n) (fun n => rb (gE K n) (fun n => rb (gnd K 11 n) (fun n => rb (gE K n) (fun n => rb (gnd K 12 n) (gIf K r))))))) → Q v m' := hQ
        refine k_expr hK h2' (fun r3 m3 h3 hr3 => ⟨fun z => ?_, fun z => ?_⟩)
        · rw [rb_f (hr3.z z)] at hQ
          exact l114 _ _ h3 hQ
        · have z := hr3.nz z
          rw [rb_k z] at hQ
          generalize gE K n2 = g at *
          obtain ⟨g1, n3⟩ := g
          have z : g1 = 0 := z
          subst z
          have hQ : ∀ (v : Int32) (m' : dM), GO K mb m' (rb (gnd K 60 n3) (fun n => rb (gE K n) (fun n => rb (gnd K 11 n) (fun n => rb (gE K n) (fun n => rb (gnd K 12 n) (gIf K r)))))) → Q v m' := hQ
          refine Wp.deep (k_endPiece hK h3 hx (k := 60) (by decide) (by decide) (fun r4 m4 h4 hr4 => ⟨fun z => ?_, fun z => ?_⟩)) (Nat.le_of_ble_eq_true rfl)
          · rw [rb_f (hr4.z z)] at hQ
            exact l114 _ _ h4 hQ
          · have z := hr4.nz z
            rw [rb_k z] at hQ
            generalize gnd K 60 n3 = g at *
            obtain ⟨g1, n4⟩ := g
            have z : g1 = 0 := z
            subst z
            have hQ : ∀ (v : Int32) (m' : dM), GO K mb m' (rb (gE K n4) (fun n => rb (gnd K 11 n) (fun n => rb (gE K n) (fun n => rb (gnd K 12 n) (gIf K r))))) → Q v m' := hQ
            refine k_expr hK h4 (fun r5 m5 h5 hr5 => ⟨fun z => ?_, fun z => ?_⟩)
            · rw [rb_f (hr5.z z)] at hQ
              exact l114 _ _ h5 hQ
            · have z := hr5.nz z
              rw [rb_k z] at hQ
              generalize gE K n4 = g at *
              obtain ⟨g1, n5⟩ := g
              have z : g1 = 0 := z
              subst z
              have hQ : ∀ (v : Int32) (m' : dM), GO K mb m' (rb (gnd K 11 n5) (fun n => rb (gE K n) (fun n => rb (gnd K 12 n) (gIf K r)))) → Q v m' := hQ
              refine Wp.deep (k_endPiece hK h5 hx (k := 11) (by decide) (by decide) (fun r6 m6 h6 hr6 => ⟨fun z => ?_, fun z => ?_⟩)) (Nat.le_of_ble_eq_true rfl)
              · rw [rb_f (hr6.z z)] at hQ
                exact l114 _ _ h6 hQ
              · have z := hr6.nz z
                rw [rb_k z] at hQ
                generalize gnd K 11 n5 = g at *
                obtain ⟨g1, n6⟩ := g
                have z : g1 = 0 := z
                subst z
                have hQ : ∀ (v : Int32) (m' : dM), GO K mb m' (rb (gE K n6) (fun n => rb (gnd K 12 n) (gIf K r))) → Q v m' := hQ
                refine k_expr hK h6 (fun r7 m7 h7 hr7 => ⟨fun z => ?_, fun z => ?_⟩)
                · rw [rb_f (hr7.z z)] at hQ
                  exact l114 _ _ h7 hQ
                · have z := hr7.nz z
                  rw [rb_k z] at hQ
                  generalize gE K n6 = g at *
                  obtain ⟨g1, n7⟩ := g
                  have z : g1 = 0 := z
                  subst z
                  have hQ : ∀ (v : Int32) (m' : dM), GO K mb m' (rb (gnd K 12 n7) (gIf K r)) → Q v m' := hQ
                  refine Wp.deep (k_endPiece hK h7 hx (k := 12) (by decide) (by decide) (fun r8 m8 h8 hr8 => ⟨fun z => ?_, fun z => ?_⟩)) (Nat.le_of_ble_eq_true rfl)
                  · have z := hr8.nz z
                    rw [rb_k z] at hQ
                    generalize gnd K 12 n7 = g at *
                    obtain ⟨g1, n8⟩ := g
                    have z : g1 = 0 := z
                    subst z
                    exact ih (i + 1) n8 _ m8 (by omega) (d_add h2 (by decide) (by omega)) h8 hQ
                  · rw [rb_f (hr8.z z)] at hQ
                    exact l114 _ _ h8 hQ
theorem k_law {x1 : Int32} {n : Nat} {m : dM} {Q : Int32 → dM → Prop} (hK : KM K mb) (hx : 0 ≤ x1.toInt ∧ x1.toInt < 4) (h : GO K mb m (0, n)) (hk : K n ≠ 24 ∧ K n ≠ 25) (hQ : ∀ (v : Int32) (m' : dM), GO K mb m' (gLaw K n) → Q v m') : c_X2_checkLaw_43 27 x1 m Q := by
  unfold gLaw at hQ
  refine v_X2_checkLaw_43 (Wp.deep (k_begin h hx (fun m1 h1 => Wp.deep (k_step h1 hk (fun r2 m2 h2 hr2 => ⟨fun z => ?_, fun z => ?_⟩)) (Nat.le_of_ble_eq_true rfl))) (Nat.le_of_ble_eq_true rfl))
  · rw [rb_f (hr2.z z)] at hQ
    exact v_X2_checkLaw_43_24 (hQ _ _ h2)
  · have z := hr2.nz z
    rw [rb_k z] at hQ
    generalize gst n = g at *
    obtain ⟨g1, n2⟩ := g
    have z : g1 = 0 := z
    subst z
    have hQ : ∀ (v : Int32) (m' : dM), GO K mb m' (rb (gnd K 61 n2) (gIf K 4)) → Q v m' := hQ
    refine Wp.deep (k_need hK h2 (k := 61) (by decide) (by decide) (fun r3 m3 h3 hr3 => ⟨fun z => ?_, fun z => ?_⟩)) (Nat.le_of_ble_eq_true rfl)
    · have z := hr3.nz z
      rw [rb_k z] at hQ
      generalize gnd K 61 n2 = g at *
      obtain ⟨g1, n3⟩ := g
      have z : g1 = 0 := z
      subst z
      exact k_ifs hK hx 4 0 n3 _ m3 rfl (by decide) h3 hQ
    · rw [rb_f (hr3.z z)] at hQ
      exact v_X2_checkLaw_43_24 (hQ _ _ h3)
end CLA
