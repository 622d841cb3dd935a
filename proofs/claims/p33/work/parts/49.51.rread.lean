/-! THE REFERENCE's read, exactly, 2 -/
section RR2
variable {K : Nat → Int} {V : Nat → Int64} {P : Nat → Nat} {m0 m : dM} {L s : Nat}
theorem q_plain {x1 : Int32} {Q : dM → Prop} (hs : s ≤ 1) (hx : x1.toInt = (s : Int)) (hQ : ∀ m' : dM, (∀ k : Nat, k ≠ 80 → k ≠ 82 → k ≠ 86 → ¬ (91 ≤ k ∧ k ≤ 96) → m'.1 k = m.1 k) → m'.2 = m.2 → (∀ j : Nat, j ≠ s → m'.1 80 j = m.1 80 j) → m'.1 80 s = 0 ∧ m'.1 82 s = 0 ∧ m'.1 86 s = 0 → Q m') : c_X12_plain_70 1 x1 m Q := by
  have loop : ∀ (f i : Nat) (x2 : Int32) (M : dM), i + f = 4 → x2.toInt = (i : Int) → (∀ k : Nat, k ≠ 80 → k ≠ 82 → k ≠ 86 → ¬ (91 ≤ k ∧ k ≤ 96) → M.1 k = m.1 k) → M.2 = m.2 → (∀ j : Nat, j ≠ s → M.1 80 j = m.1 80 j) → M.1 80 s = 0 ∧ M.1 82 s = 0 ∧ M.1 86 s = 0 → j_X12_plain_70_52 1 x1 x2 M Q := by
    intro f
    induction f with
    | zero =>
      intro i x2 M hi h2 a b c d
      exact v_X12_plain_70_52 ⟨fun _ => hQ M a b c d, fun q => by exfalso; omega⟩
    | succ f ih =>
      intro i x2 M hi h2 a b c d
      have fm := dMulE (X := 4) (Y := (s : Int)) (x := (4 : Int32)) (y := x1) (by decide) hx (by omega) (by omega)
      have fa := dAddE (X := 4 * (s : Int)) (Y := (i : Int)) (x := (4 : Int32) * x1) (y := x2) fm h2 (by omega) (by omega)
      refine v_X12_plain_70_52 ⟨fun q => by exfalso; omega, fun _ => ⟨by omega, by omega, ih (i + 1) _ _ (by omega) (d_inc h2 (by omega)) (fun k e1 e2 e3 e4 => by rw [dSet_k (by omega), dSet_k (by omega)]; exact a k e1 e2 e3 e4) b (fun j e => by rw [dSet_k (by decide), dSet_k (by decide)]; exact c j e) ?_⟩⟩
      rw [dSet_k (by decide), dSet_k (by decide), dSet_k (by decide), dSet_k (by decide), dSet_k (by decide), dSet_k (by decide)]
      exact d
  refine v_X12_plain_70 ⟨by omega, by omega, by omega, by omega, by omega, by omega, by omega, ?_⟩
  rw [d_cn hx]
  refine loop 4 0 _ _ rfl (by decide) (fun k e1 e2 e3 e4 => ?_) rfl (fun j e => ?_) ⟨?_, ?_, ?_⟩
  · rw [dSet_k (by omega), dSet_k (by omega), dSet_k (by omega), dSet_k (by omega), dSet_k e3, dSet_k e2, dSet_k e1]
  · rw [dSet_k (by decide), dSet_k (by decide), dSet_k (by decide), dSet_k (by decide), dSet_k (by decide), dSet_k (by decide), dSet_j e]
  · rw [dSet_k (by decide), dSet_k (by decide), dSet_k (by decide), dSet_k (by decide), dSet_k (by decide), dSet_k (by decide), dSet_s]
  · rw [dSet_k (by decide), dSet_k (by decide), dSet_k (by decide), dSet_k (by decide), dSet_k (by decide), dSet_s]
  · rw [dSet_k (by decide), dSet_k (by decide), dSet_k (by decide), dSet_k (by decide), dSet_s]
/-- the state's cells: 107, 108, and two fields -/
def BG (m m' : dM) : Prop := (∀ k : Nat, k ≠ 70 → k ≠ 107 → k ≠ 108 → m'.1 k = m.1 k) ∧ (∀ j : Nat, j ≠ 56 → j ≠ 57 → m'.1 70 j = m.1 70 j) ∧ m'.2 = m.2
theorem BG.set {M : dM} {k j : Nat} {v : Int32} (h : BG m M) (hk : k = 107 ∨ k = 108) : BG m (dSet M k j v) := ⟨fun a e1 e2 e3 => by rw [dSet_k (by omega)]; exact h.1 a e1 e2 e3, fun a e1 e2 => by rw [dSet_k (by omega)]; exact h.2.1 a e1 e2, h.2.2⟩
theorem q_begins {Q : dM → Prop} (hs : s ≤ 1) (h18 : (m.1 70 18).toInt = (s : Int)) (h82 : 0 ≤ (m.1 82 s).toInt ∧ (m.1 82 s).toInt ≤ 10) (h86 : 0 ≤ (m.1 86 s).toInt ∧ (m.1 86 s).toInt ≤ 8) (hQ : ∀ m' : dM, BG m m' → Q m') : c_X12_begins_70 1 m Q := by
  have l64 : ∀ (f i : Nat) (x1 : Int32) (M : dM), 8 < i + f → i ≤ 8 → x1.toInt = (i : Int) → BG m M → j_X12_begins_70_64 1 x1 M Q := by
    intro f
    induction f with
    | zero => intro i x1 M a b; exfalso; omega
    | succ f ih =>
      intro i x1 M hf hi h1 hB
      have e18 : (M.1 70 18).toInt = (s : Int) := by rw [hB.2.1 18 (by decide) (by decide)]; exact h18
      have e86 : M.1 86 s = m.1 86 s := by rw [hB.1 86 (by decide) (by decide) (by decide)]
      refine v_X12_begins_70_64 ⟨by omega, ?_⟩
      rw [d_cn e18, e86]
      have f47 := dAddE (X := 47) (Y := (i : Int)) (x := (47 : Int32)) (y := x1) (by decide) h1 (by omega) (by omega)
      refine ⟨fun q => ⟨by omega, by omega, hQ _ ?_⟩, fun q => ⟨by omega, ih (i + 1) _ _ (by omega) (by omega) (d_inc h1 (by omega)) (hB.set (Or.inr rfl))⟩⟩
      have h2 := hB.set (j := 56) (v := M.1 93 s) (k := 108) (Or.inr rfl)
      exact ⟨fun a e1 e2 e3 => by rw [dSet_k e1, dSet_k e1]; exact h2.1 a e1 e2 e3, fun a e1 e2 => by rw [dSet_j e2, dSet_j e1]; exact h2.2.1 a e1 e2, h2.2.2⟩
  have l23 : ∀ (f i : Nat) (x1 : Int32) (M : dM), 10 < i + f → i ≤ 10 → x1.toInt = (i : Int) → BG m M → j_X12_begins_70_23 1 x1 M Q := by
    intro f
    induction f with
    | zero => intro i x1 M a b; exfalso; omega
    | succ f ih =>
      intro i x1 M hf hi h1 hB
      have e18 : (M.1 70 18).toInt = (s : Int) := by rw [hB.2.1 18 (by decide) (by decide)]; exact h18
      have e82 : M.1 82 s = m.1 82 s := by rw [hB.1 82 (by decide) (by decide) (by decide)]
      refine v_X12_begins_70_23 ⟨by omega, ?_⟩
      rw [d_cn e18, e82]
      have fm := dMulE (X := 10) (Y := (s : Int)) (x := (10 : Int32)) (y := M.1 70 18) (by decide) e18 (by omega) (by omega)
      have fa := dAddE (X := 10 * (s : Int)) (Y := (i : Int)) (x := (10 : Int32) * M.1 70 18) (y := x1) fm h1 (by omega) (by omega)
      exact ⟨fun q => l64 9 0 _ M (by omega) (by omega) (by decide) hB, fun q => ⟨by omega, by omega, ih (i + 1) _ _ (by omega) (by omega) (d_inc h1 (by omega)) (hB.set (Or.inr rfl))⟩⟩
  have l2 : ∀ (f i : Nat) (x1 : Int32) (M : dM), i + f = 58 → x1.toInt = (i : Int) → BG m M → j_X12_begins_70_2 1 x1 M Q := by
    intro f
    induction f with
    | zero =>
      intro i x1 M hi h1 hB
      exact v_X12_begins_70_2 ⟨fun _ => l23 11 0 _ M (by omega) (by omega) (by decide) hB, fun q => by exfalso; omega⟩
    | succ f ih =>
      intro i x1 M hi h1 hB
      exact v_X12_begins_70_2 ⟨fun q => by exfalso; omega, fun _ => ⟨by omega, ih (i + 1) _ _ (by omega) (d_inc h1 (by omega)) (hB.set (Or.inr rfl))⟩⟩
  exact v_X12_begins_70 (l2 58 0 _ m rfl (by decide) ⟨fun _ _ _ _ => rfl, fun _ _ _ => rfl, rfl⟩)
theorem q_keepsRow {mb : dM} {Q : dM → Prop} (hB0 : BG mb m) (hQ : ∀ m' : dM, BG mb m' → Q m') : c_X12_keepsRow_70 1 m Q := by
  have l2 : ∀ (f i : Nat) (x1 : Int32) (M : dM), i + f = 58 → x1.toInt = (i : Int) → BG mb M → j_X12_keepsRow_70_2 1 x1 M Q := by
    intro f
    induction f with
    | zero => intro i x1 M hi h1 hB; exact v_X12_keepsRow_70_2 ⟨fun _ => hQ M hB, fun q => by exfalso; omega⟩
    | succ f ih =>
      intro i x1 M hi h1 hB
      exact v_X12_keepsRow_70_2 ⟨fun q => by exfalso; omega, fun _ => ⟨by omega, by omega, ih (i + 1) _ _ (by omega) (d_inc h1 (by omega)) (hB.set (Or.inl rfl))⟩⟩
  exact v_X12_keepsRow_70 (l2 58 0 _ m rfl (by decide) hB0)
/-- what the reference's read has done -/
def RE (K : Nat → Int) (V : Nat → Int64) (P : Nat → Nat) (L s : Nat) (r : Int32) (m m' : dM) : Prop :=
  (∀ k : Nat, k < 70 ∨ k = 71 → m'.1 k = m.1 k) ∧ m'.1 70 2 = 0 ∧ r.toInt = ((rdR K V).1.1 : Int) ∧ (m'.1 70 17).toInt = (if (rdR K V).1.1 = 0 then -1 else ((P (rdR K V).1.2 : Nat) : Int)) ∧
  ((rdR K V).1.1 = 0 → (m'.1 70 18).toInt = (s : Int) ∧ (m'.1 80 s).toInt = ((rdR K V).2.1.length : Int) ∧ m'.1 70 63 = 0 ∧ ∀ j : Nat, j < 3 → m'.1 115 j = 0) ∧
  ((rdR K V).1.1 ≠ 0 → m'.1 70 18 = m.1 70 18 ∧ m'.1 80 L = m.1 80 L ∧ m'.1 70 63 = m.1 70 63 ∧ m'.1 115 = m.1 115 ∧ m'.1 112 = m.1 112 ∧ m'.1 113 = m.1 113)
theorem e_134 {Q : Int32 → dM → Prop} (hL : L + s = 1) (hsd : (m0.1 70 19).toInt = (s : Int)) (h0 : ∀ k : Nat, k < 70 ∨ k = 71 ∨ k = 80 ∨ 105 ≤ k → m0.1 k = m.1 k) (h2 : m0.1 70 2 = 0) (h18 : m0.1 70 18 = m.1 70 18) (h63 : m0.1 70 63 = m.1 70 63) (hQ : ∀ (r : Int32) (m' : dM), RE K V P L s r m m' → Q r m') {M : dM} (hT : TF K V P m0 L s (gAll K 401 0 0 0 0) (mAll K V 401 0 mS0) M) : j_X12_read_70_134 9 M Q := by
  have hs : s ≤ 1 := by omega
  obtain ⟨W, hS, hF, hG⟩ := hT
  have sd := hF.sd hsd
  have f := hS.fl
  have ef : (M.1 70 13).toInt = flt M := rfl
  have fr : ∀ k : Nat, k < 70 ∨ k = 71 → M.1 k = m.1 k := fun k hk => by rw [hF.1 k (by omega), h0 k (by omega)]
  have f2 : M.1 70 2 = 0 := by rw [hF.2.1 2 (by omega)]; exact h2
  have f18 : M.1 70 18 = m.1 70 18 := by rw [hF.2.1 18 (by omega)]; exact h18
  have f63 : M.1 70 63 = m.1 70 63 := by rw [hF.2.1 63 (by omega)]; exact h63
  have f115 : M.1 115 = m.1 115 := by rw [hF.1 115 (by omega), h0 115 (by omega)]
  have f112 : M.1 112 = m.1 112 := by rw [hF.1 112 (by omega), h0 112 (by omega)]
  have f113 : M.1 113 = m.1 113 := by rw [hF.1 113 (by omega), h0 113 (by omega)]
  have f80 : M.1 80 L = m.1 80 L := by rw [hF.2.2, h0 80 (by omega)]
  have bad : ∀ (r v : Int32), r.toInt = ((rdR K V).1.1 : Int) → (rdR K V).1.1 ≠ 0 → v.toInt = ((P (rdR K V).1.2 : Nat) : Int) → Q r (dSet M 70 17 v) := fun r v a b c => by
    refine hQ r _ ⟨fun k hk => by rw [dSet_k (by omega)]; exact fr k hk, by rw [dSet_j (by decide)]; exact f2, a, by rw [dSet_s, if_neg b]; exact c, fun q => absurd q b, fun _ => ⟨?_, ?_, ?_, ?_, ?_, ?_⟩⟩
    · rw [dSet_j (by decide)]; exact f18
    · rw [dSet_k (by decide)]; exact f80
    · rw [dSet_j (by decide)]; exact f63
    · rw [dSet_k (by decide)]; exact f115
    · rw [dSet_k (by decide)]; exact f112
    · rw [dSet_k (by decide)]; exact f113
  by_cases z : (gAll K 401 0 0 0 0).1 = 0
  · have eR : rdR K V = mAll K V 401 0 mS0 := by unfold rdR; rw [if_pos z]
    obtain ⟨⟨b82, b86⟩, g0, g1⟩ := hG z
    obtain ⟨a1, a2, a3, a4, a5⟩ := hS.1 z
    have e15 := a5.1
    rw [← eR] at g0 g1
    by_cases w : (rdR K V).1.1 = 0
    · obtain ⟨w0, e80⟩ := g0 w
      have good : c_X12_begins_70 8 (dSet (dSet M 70 17 (-1 : Int32)) 70 18 (M.1 70 19)) (fun m1 => c_X12_keepsRow_70 8 m1 (fun m2 => j_X12_read_70_219 9 (0 : Int32) (dSet (dSet m2 70 61 (0 : Int32)) 70 63 (0 : Int32)) Q)) := by
        refine Wp.deep (q_begins (s := s) hs (by rw [dSet_s]; exact sd.1) b82 b86 (fun m1 B1 => Wp.deep (q_keepsRow B1 (fun m2 B2 => ?_)) (Nat.le_of_ble_eq_true rfl))) (Nat.le_of_ble_eq_true rfl)
        have l219 : ∀ (f i : Nat) (x1 : Int32) (X : dM), i + f = 3 → x1.toInt = (i : Int) → (∀ k : Nat, k ≠ 115 → X.1 k = (dSet (dSet m2 70 61 (0 : Int32)) 70 63 (0 : Int32)).1 k) → (∀ j : Nat, j < i → X.1 115 j = 0) → j_X12_read_70_219 9 x1 X Q := by
          intro f
          induction f with
          | zero =>
            intro i x1 X hi h1 hX hz
            refine v_X12_read_70_219 ⟨fun _ => hQ _ X ⟨fun k hk => ?_, ?_, ?_, ?_, fun _ => ⟨?_, ?_, ?_, fun j hj => hz j (by omega)⟩, fun q => absurd w q⟩, fun q => by exfalso; omega⟩
            · rw [hX k (by omega), dSet_k (by omega), dSet_k (by omega), B2.1 k (by omega) (by omega) (by omega), dSet_k (by omega), dSet_k (by omega)]; exact fr k hk
            · rw [hX 70 (by decide), dSet_j (by decide), dSet_j (by decide), B2.2.1 2 (by decide) (by decide), dSet_j (by decide), dSet_j (by decide)]; exact f2
            · rw [w]; decide
            · rw [if_pos w, hX 70 (by decide), dSet_j (by decide), dSet_j (by decide), B2.2.1 17 (by decide) (by decide), dSet_j (by decide), dSet_s]; decide
            · rw [hX 70 (by decide), dSet_j (by decide), dSet_j (by decide), B2.2.1 18 (by decide) (by decide), dSet_s]; exact sd.1
            · rw [hX 80 (by decide), dSet_k (by decide), dSet_k (by decide), B2.1 80 (by decide) (by decide) (by decide), dSet_k (by decide), dSet_k (by decide)]; exact e80
            · rw [hX 70 (by decide), dSet_s]
          | succ f ih =>
            intro i x1 X hi h1 hX hz
            refine v_X12_read_70_219 ⟨fun q => by exfalso; omega, fun _ => ⟨by omega, ih (i + 1) _ _ (by omega) (d_inc h1 (by omega)) (fun k hk => by rw [dSet_k hk]; exact hX k hk) (fun j hj => ?_)⟩⟩
            rw [d_cn h1]
            by_cases q : j = i
            · rw [q, dSet_s]
            · rw [dSet_j q]; exact hz j (by omega)
        exact l219 3 0 _ _ rfl (by decide) (fun _ _ => rfl) (fun j hj => by omega)
      exact v_X12_read_70_134 ⟨fun _ => ⟨fun _ => ⟨fun _ => ⟨fun _ => good, fun q => by exfalso; omega⟩, fun q => by exfalso; omega⟩, fun q => by exfalso; omega⟩, fun q => by exfalso; omega⟩
    · have eW := g1 w
      have w1 : W.1 ≠ 0 := by rw [eW]; exact w
      have e16 := a5.2 w1
      rw [eW] at e15 e16
      have bd := bad (M.1 70 15) (M.1 70 16) e15 w e16
      exact v_X12_read_70_134 ⟨fun _ => ⟨fun q => by exfalso; omega, fun _ => ⟨fun _ => ⟨fun q => by exfalso; omega, fun _ => bd⟩, fun q => by exfalso; omega⟩⟩, fun q => by exfalso; omega⟩
  · have eR : rdR K V = (gAll K 401 0 0 0 0, mS0) := by unfold rdR; rw [if_neg z]
    obtain ⟨a1, a2⟩ := hS.2.1 z
    have bd := bad (M.1 70 13) (M.1 70 14) (by rw [eR]; exact a1) (by rw [eR]; exact z) (by rw [eR]; exact a2)
    exact v_X12_read_70_134 ⟨fun q => by exfalso; omega, fun _ => ⟨fun q => by exfalso; omega, fun _ => bd⟩⟩
theorem e_read {m : dM} {B : Nat → Int32} {n : Nat} {Q : Int32 → dM → Prop} (hL : L + s = 1) (h18 : (m.1 70 18).toInt = (L : Int)) (hn : (m.1 70 2).toInt = (n : Int)) (h2000 : n ≤ 2000) (hB : ∀ i : Nat, B i = if i < n then (m.1 71 i) &&& 255 else 0) (hQ : ∀ (r : Int32) (m' : dM), RE (tK B n) (tV B n) (tP B n) L s r m m' → Q r m') : c_X12_read_70 9 m Q := by
  have hs : s ≤ 1 := by omega
  have fs := dSubE (X := 1) (Y := (L : Int)) (x := (1 : Int32)) (y := m.1 70 18) (by decide) h18 (by omega) (by omega)
  have l10 : ∀ (f i : Nat) (x1 : Int32) (M : dM), i + f = n → x1.toInt = (i : Int) → (∀ k : Nat, k ≠ 70 → k ≠ 72 → M.1 k = m.1 k) → (∀ j : Nat, j ≠ 4 → M.1 70 j = m.1 70 j) → M.1 70 4 = m.1 70 2 → M.2 = m.2 → (∀ j : Nat, j < i → M.1 72 j = (m.1 71 j).toInt8.toInt32) → j_X12_read_70_10 9 x1 M Q := by
    intro f
    induction f with
    | succ f ih =>
      intro i x1 M hi h1 a b c d e
      have e4 : (M.1 70 4).toInt = (n : Int) := by rw [c]; exact hn
      refine v_X12_read_70_10 ⟨fun q => by exfalso; omega, fun _ => ⟨by omega, by omega, ih (i + 1) _ _ (by omega) (d_inc h1 (by omega)) (fun k e1 e2 => by rw [dSet_k e2]; exact a k e1 e2) (fun j e1 => by rw [dSet_k (by decide)]; exact b j e1) (by rw [dSet_k (by decide)]; exact c) d (fun j hj => ?_)⟩⟩
      rw [d_cn h1]
      by_cases q : j = i
      · rw [q, dSet_s, a 71 (by decide) (by decide)]
      · rw [dSet_j q]; exact e j (by omega)
    | zero =>
      intro i x1 M hi h1 a b c d e
      have e4 : (M.1 70 4).toInt = (n : Int) := by rw [c]; exact hn
      refine v_X12_read_70_10 ⟨fun _ => ?_, fun q => by exfalso; omega⟩
      have hRX : RX B n (dSet M 70 2 (0 : Int32)) := by
        refine ⟨by rw [dSet_j (by decide)]; exact e4, h2000, fun j => ?_⟩
        rw [hB j, dSet_k (by decide)]
        by_cases q : j < n
        · rw [if_pos q, if_pos q, e j (by omega), i8_and]
        · rw [if_neg q, if_neg q]
      refine Wp.deep (g_cutsUp hRX (fun m1 hF hK => ?_)) (Nat.le_of_ble_eq_true rfl)
      have k1 : ∀ k : Nat, k ≠ 70 → k ≠ 72 → k ≠ 73 → k ≠ 74 → k ≠ 75 → m1.1 k = m.1 k := fun k e1 e2 e3 e4 e5 => by rw [hF.1 k e1 e3 e4 e5, dSet_k e1, a k e1 e2]
      have j1 : ∀ j : Nat, j ≠ 2 → j ≠ 4 → j ≠ 10 → m1.1 70 j = m.1 70 j := fun j e1 e2 e3 => by rw [hF.2.1 j e3, dSet_j e1, b j e2]
      have j2 : m1.1 70 2 = 0 := by rw [hF.2.1 2 (by decide), dSet_s]
      have e18 : m1.1 70 18 = m.1 70 18 := j1 18 (by decide) (by decide) (by decide)
      rw [e18]
      have X70 : ∀ k : Nat, k ≠ 70 → (dSet (dSet (dSet (dSet (dSet (dSet m1 70 11 (0 : Int32)) 70 12 (0 : Int32)) 70 13 (0 : Int32)) 70 15 (0 : Int32)) 70 19 ((1 : Int32) - (m.1 70 18))) 70 20 (0 : Int32)).1 k = m1.1 k := fun k hk => by rw [dSet_k hk, dSet_k hk, dSet_k hk, dSet_k hk, dSet_k hk, dSet_k hk]
      have Xj : ∀ j : Nat, j ≠ 11 → j ≠ 12 → j ≠ 13 → j ≠ 15 → j ≠ 19 → j ≠ 20 → (dSet (dSet (dSet (dSet (dSet (dSet m1 70 11 (0 : Int32)) 70 12 (0 : Int32)) 70 13 (0 : Int32)) 70 15 (0 : Int32)) 70 19 ((1 : Int32) - (m.1 70 18))) 70 20 (0 : Int32)).1 70 j = m1.1 70 j := fun j b1 b2 b3 b4 b5 b6 => by rw [dSet_j b6, dSet_j b5, dSet_j b4, dSet_j b3, dSet_j b2, dSet_j b1]
      have Xz : ∀ j : Nat, j = 11 ∨ j = 12 ∨ j = 13 ∨ j = 15 ∨ j = 20 → ((dSet (dSet (dSet (dSet (dSet (dSet m1 70 11 (0 : Int32)) 70 12 (0 : Int32)) 70 13 (0 : Int32)) 70 15 (0 : Int32)) 70 19 ((1 : Int32) - (m.1 70 18))) 70 20 (0 : Int32)).1 70 j).toInt = 0 := fun j hj => by rcases hj with rfl | rfl | rfl | rfl | rfl <;> rfl
      have X19 : (dSet (dSet (dSet (dSet (dSet (dSet m1 70 11 (0 : Int32)) 70 12 (0 : Int32)) 70 13 (0 : Int32)) 70 15 (0 : Int32)) 70 19 ((1 : Int32) - (m.1 70 18))) 70 20 (0 : Int32)).1 70 19 = (1 : Int32) - (m.1 70 18) := rfl
      have X2 : (dSet (dSet (dSet (dSet (dSet (dSet m1 70 11 (0 : Int32)) 70 12 (0 : Int32)) 70 13 (0 : Int32)) 70 15 (0 : Int32)) 70 19 ((1 : Int32) - (m.1 70 18))) 70 20 (0 : Int32)).2 = m1.2 := rfl
      generalize dSet (dSet (dSet (dSet (dSet (dSet m1 70 11 (0 : Int32)) 70 12 (0 : Int32)) 70 13 (0 : Int32)) 70 15 (0 : Int32)) 70 19 ((1 : Int32) - (m.1 70 18))) 70 20 (0 : Int32) = X at X70 Xj Xz X19 X2 ⊢
      refine Wp.deep (q_plain (s := s) (m := X) hs (by omega) (fun m2 p1 p2 p3 p4 => ?_)) (Nat.le_of_ble_eq_true rfl)
      have e70 : m2.1 70 = X.1 70 := p1 70 (by decide) (by decide) (by decide) (by decide)
      have v19 : (m2.1 70 19).toInt = (s : Int) := by rw [e70, X19]; omega
      have fb := dMulE (X := 130) (Y := (s : Int)) (x := (130 : Int32)) (y := m2.1 70 19) (by decide) v19 (by omega) (by omega)
      have fc := dMulE (X := 420) (Y := (s : Int)) (x := (420 : Int32)) (y := m2.1 70 19) (by decide) v19 (by omega) (by omega)
      have Y70 : ∀ k : Nat, k ≠ 70 → (dSet (dSet m2 70 40 ((130 : Int32) * (m2.1 70 19))) 70 46 ((420 : Int32) * (m2.1 70 19))).1 k = m2.1 k := fun k hk => by rw [dSet_k hk, dSet_k hk]
      have Yj : ∀ j : Nat, j ≠ 40 → j ≠ 46 → (dSet (dSet m2 70 40 ((130 : Int32) * (m2.1 70 19))) 70 46 ((420 : Int32) * (m2.1 70 19))).1 70 j = X.1 70 j := fun j b1 b2 => by rw [dSet_j b2, dSet_j b1, e70]
      have Yb : brs (dSet (dSet m2 70 40 ((130 : Int32) * (m2.1 70 19))) 70 46 ((420 : Int32) * (m2.1 70 19))) = 130 * s := fb
      have Yc : cds (dSet (dSet m2 70 40 ((130 : Int32) * (m2.1 70 19))) 70 46 ((420 : Int32) * (m2.1 70 19))) = 420 * s := fc
      have Y2 : (dSet (dSet m2 70 40 ((130 : Int32) * (m2.1 70 19))) 70 46 ((420 : Int32) * (m2.1 70 19))).2 = m1.2 := by show m2.2 = m1.2; rw [p2, X2]
      generalize dSet (dSet m2 70 40 ((130 : Int32) * (m2.1 70 19))) 70 46 ((420 : Int32) * (m2.1 70 19)) = Y at Y70 Yj Yb Yc Y2 ⊢
      have Yz : ∀ j : Nat, j = 11 ∨ j = 12 ∨ j = 13 ∨ j = 15 ∨ j = 20 → (Y.1 70 j).toInt = 0 := fun j hj => by rw [Yj j (by omega) (by omega)]; exact Xz j hj
      have t0 : tt Y = 0 := Yz 11 (by decide)
      have f0 : flt Y = 0 := Yz 13 (by decide)
      have o0 : opn Y = 0 := Yz 12 (by decide)
      have n0 : nms Y = 0 := Yz 20 (by decide)
      have w0 := Yz 15 (by decide)
      have Yk : ∀ k : Nat, k ≠ 70 → k ≠ 72 → k ≠ 73 → k ≠ 74 → k ≠ 75 → k ≠ 80 → k ≠ 82 → k ≠ 86 → ¬ (91 ≤ k ∧ k ≤ 96) → Y.1 k = m.1 k := fun k b1 b2 b3 b4 b5 b6 b7 b8 b9 => by rw [Y70 k b1, p1 k b6 b7 b8 b9, X70 k b1, k1 k b1 b2 b3 b4 b5]
      have Yt : ∀ k : Nat, 73 ≤ k → k ≤ 75 → Y.1 k = m1.1 k := fun k b1 b2 => by rw [Y70 k (by omega), p1 k (by omega) (by omega) (by omega) (by omega), X70 k (by omega)]
      have hRM : RM (tK B n) (tV B n) (tP B n) Y := fun i hi hl => by
        have := hK i hi hl
        unfold RK at this
        rw [Yt 73 (by decide) (by decide), Yt 74 (by decide) (by decide), Yt 75 (by decide) (by decide), Y2]
        exact this
      have Y80 : (Y.1 80 s).toInt = 0 := by rw [Y70 80 (by decide), p4.1]; decide
      have Y82 : (Y.1 82 s).toInt = 0 := by rw [Y70 82 (by decide), p4.2.1]; decide
      have Y86 : (Y.1 86 s).toInt = 0 := by rw [Y70 86 (by decide), p4.2.2]; decide
      -- m0: as it was, its tape empty, the side of the text told
      have hTI : TI (tK B n) (tV B n) (tP B n) (dSet (dSet m 70 2 (0 : Int32)) 70 19 ((1 : Int32) - (m.1 70 18))) L s 0 0 0 0 (0, 0) mS0 Y := by
        refine ⟨⟨fun _ => ⟨f0, t0, by decide, fun j hj => by exfalso; exact Nat.not_lt_zero j hj, w0, fun q => absurd rfl q⟩, fun q => absurd rfl q, by omega⟩, hRM, ⟨fun k hk => ?_, fun j hj => ?_, ?_⟩, ⟨Y80, Y82, Y86, n0, by decide, by decide, by decide⟩, ⟨o0, by omega, by omega⟩, fun q => absurd rfl q, fun _ => ⟨⟨fun k hk => ?_, fun i hi => absurd hi (Nat.not_lt_zero i), fun i hi => absurd hi (Nat.not_lt_zero i), fun i j hi => absurd hi (Nat.not_lt_zero i), fun i hi => absurd hi (Nat.not_lt_zero i)⟩, rfl, rfl, rfl⟩⟩
        · rw [dSet_k (by omega), dSet_k (by omega)]
          exact Yk k (by omega) (by omega) (by omega) (by omega) (by omega) (by omega) (by omega) (by omega) (by omega)
        · by_cases q19 : j = 19
          · rw [q19, dSet_s, Yj 19 (by decide) (by decide), X19]
          · rw [dSet_j q19, Yj j (by omega) (by omega), Xj j (by omega) (by omega) (by omega) (by omega) q19 (by omega)]
            by_cases q2 : j = 2
            · rw [q2, dSet_s, j2]
            · rw [dSet_j q2, j1 j q2 (by omega) (by omega)]
        · rw [dSet_k (by decide), dSet_k (by decide), Y70 80 (by decide), p3 L (by omega), X70 80 (by decide), k1 80 (by decide) (by decide) (by decide) (by decide) (by decide)]
        · exact absurd hk (Nat.not_lt_zero k)
      have sd0 : ((dSet (dSet m 70 2 (0 : Int32)) 70 19 ((1 : Int32) - (m.1 70 18))).1 70 19).toInt = (s : Int) := by rw [dSet_s]; omega
      refine e_112 hL sd0 (tK_vk B n) (fun i j hij hl => tP_mono hij hl) (fun M' hM' => e_134 hL sd0 (fun k hk => by rw [dSet_k (by omega), dSet_k (by omega)]) (by rw [dSet_j (by decide), dSet_s]) (by rw [dSet_j (by decide), dSet_j (by decide)]) (by rw [dSet_j (by decide), dSet_j (by decide)]) hQ hM') 401 0 0 0 0 (0, 0) mS0 Y (by omega) hTI rfl (fun _ => rfl) (fun q => absurd rfl q)
  refine v_X12_read_70 (l10 n 0 _ _ (by omega) (by decide) (fun k e1 e2 => dSet_k e1) (fun j e1 => dSet_j e1) (dSet_s _ _ _ _) rfl (fun j hj => by omega))
end RR2
