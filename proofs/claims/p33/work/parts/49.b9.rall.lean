/-! THE REFERENCE's read: all of a text told -/
section RAV
variable {K : Nat → Int} {V : Nat → Int64} {P : Nat → Nat} {m0 m : dM} {L s : Nat} {Q : Int32 → dM → Prop}
def TFv (K : Nat → Int) (V : Nat → Int64) (P : Nat → Nat) (m0 : dM) (L s : Nat) (G : gR) (M : gR × mSt) (DX : Nat → lD) (m : dM) : Prop := ∃ W : gR, ST K P m G W ∧ FXv m0 L m ∧ (G.1 = 0 → ((0 ≤ (m.1 82 s).toInt ∧ (m.1 82 s).toInt ≤ 10) ∧ (0 ≤ (m.1 86 s).toInt ∧ (m.1 86 s).toInt ≤ 8)) ∧ (M.1.1 = 0 → W.1 = 0 ∧ (m.1 80 s).toInt = (M.2.1.length : Int) ∧ NH V s M.2 m ∧ (m.1 82 s).toInt = (M.2.2.1.length : Int) ∧ (m.1 86 s).toInt = (M.2.2.2.1.length : Int)) ∧ (M.1.1 ≠ 0 → W = M.1) ∧ LDs m s DX ∧ (m.1 80 s).toInt ≤ 7)
theorem x_112 (hL : L + s = 1) (hsd : (m0.1 70 19).toInt = (s : Int)) (hv : ∀ i, vk (K i)) (hP : ∀ i j : Nat, i < j → lvK K j → P i < P j) (hV : ∀ n : Nat, K n = 23 → 0 ≤ (V n).toInt32.toInt ∧ (V n).toInt32.toInt ≤ 9999) {DX : Nat → lD} {G : gR} {M : gR × mSt} (hE : ∀ m', TFv K V P m0 L s G M DX m' → j_X12_read_70_134 9 m' Q) : ∀ (f cf cw cu n : Nat) (W : gR) (st : mSt) (Ds : Nat → lD) (m : dM), 401 ≤ f + n → TIv K V P m0 L s cf cw cu n W st Ds m → lAll K V f cf cw cu n Ds = DX → gAll K f cf cw cu n = G → (W.1 = 0 → mAll K V f n st = M) → (W.1 ≠ 0 → W = M.1) → j_X12_read_70_112 9 m Q := by
  intro f
  induction f with
  | zero =>
    intro cf cw cu n W st Ds m hf hT hA hg hm1 hm2
    have : n ≤ 400 := (hT.1.1 rfl).2.2.1
    exfalso; omega
  | succ f ih =>
    intro cf cw cu n W st Ds m hf hT hA hg hm1 hm2
    have hT' := hT
    obtain ⟨hS, hR, hF, hC, hLQ, hW, hN, hD⟩ := hT'
    have f0 : flt m = 0 := hS.fl.2.mpr rfl
    have hC5 := hC.2.2.2.2
    refine v_X12_read_70_112 ⟨fun q => absurd f0 q, fun _ => ?_⟩
    refine Wp.deep (q_is (k := 24) hv hR hS (by decide) (by unfold vk; omega) (fun _ h24 => ⟨fun _ => hE m ⟨W, ?_⟩, fun q => absurd q (by decide)⟩) (fun h24 => ⟨fun q => absurd rfl q, fun _ => ?_⟩)) (Nat.le_of_ble_eq_true rfl)
    · have h24 : K n = 24 := h24
      have eG : G = (0, n) := by rw [← hg]; show (if K n = 24 then _ else _) = _; rw [if_pos h24]
      rw [eG]
      refine ⟨hS, hF, fun _ => ⟨⟨by have := hC.2.1; omega, by have := hC.2.2.1; omega⟩, fun z => ?_, fun z => ?_, ?_, by have := hC.1; omega⟩⟩
      rotate_left 2
      · have eA : lAll K V (f + 1) cf cw cu n Ds = Ds := by show (if K n = 24 then _ else _) = _; rw [if_pos h24]
        rw [← hA, eA]; exact hD
      · by_cases w0 : W.1 = 0
        · have eM : M = ((0, 0), st) := by rw [← hm1 w0]; show (if K n = 24 then _ else _) = _; rw [if_pos h24]
          rw [eM]
          exact ⟨w0, by show (m.1 80 s).toInt = (st.1.length : Int); rw [(hN w0).2.1]; exact hC.1, (hN w0).1, by show (m.1 82 s).toInt = (st.2.1.length : Int); rw [(hN w0).2.2.1]; exact hC.2.1, by show (m.1 86 s).toInt = (st.2.2.1.length : Int); rw [(hN w0).2.2.2]; exact hC.2.2.1⟩
        · have := hm2 w0
          rw [this] at w0
          exact absurd z w0
      · by_cases w0 : W.1 = 0
        · have eM : M = ((0, 0), st) := by rw [← hm1 w0]; show (if K n = 24 then _ else _) = _; rw [if_pos h24]
          rw [eM] at z
          exact absurd rfl z
        · exact hm2 w0
    · have h24 : K n ≠ 24 := fun e => h24 ⟨rfl, e⟩
      have eG : G = rb (gTell K cf cw cu n) (fun n' => gAll K f (cf + ct (K n) 0) (cw + ct (K n) 1) (cu + ct (K n) 2) n') := by rw [← hg]; show (if K n = 24 then _ else _) = _; rw [if_neg h24]
      have eA : lAll K V (f + 1) cf cw cu n Ds = lAll K V f (cf + ct (K n) 0) (cw + ct (K n) 1) (cu + ct (K n) 2) (gTell K cf cw cu n).2 (lTl K V n Ds) := by show (if K n = 24 then _ else _) = _; rw [if_neg h24]
      refine x_one hL hsd hv hP hV hT (fun z m' W' s' F' => ?_) (fun z m' W' st' T' wn => ?_)
      · rw [rb_f z] at eG
        rw [← eG] at s' z
        have f1 := s'.fl
        exact v_X12_read_70_112 ⟨fun _ => hE m' ⟨W', s', F', fun q => absurd q z⟩, fun q => absurd (f1.2.mp q) z⟩
      · rw [rb_k z] at eG
        have nlt : n < (gTell K cf cw cu n).2 := gTell_lt z
        refine ih _ _ _ _ W' st' _ m' (by omega) T' (by rw [← eA]; exact hA) eG.symm (fun w => ?_) (fun w => ?_)
        · by_cases w0 : W.1 = 0
          · have hm := hm1 w0
            have hl := (hN w0).2
            have e2 := wn.2 w0
            have eM : mAll K V (f + 1) n st = mGo (mTell K V n st) (fun s' => mAll K V f (gTell K st.1.length st.2.1.length st.2.2.1.length n).2 s') := by show (if K n = 24 then _ else _) = _; rw [if_neg h24]
            by_cases z2 : (mTell K V n st).1.1 = 0
            · rw [eM, mGo_k z2, hl.1, hl.2.1, hl.2.2] at hm
              rw [(e2.1 z2).2]
              exact hm
            · have := e2.2 z2
              rw [this] at w
              exact absurd w z2
          · have := wn.1 w0
            rw [this] at w
            exact absurd w w0
        · by_cases w0 : W.1 = 0
          · have hm := hm1 w0
            have e2 := wn.2 w0
            have eM : mAll K V (f + 1) n st = mGo (mTell K V n st) (fun s' => mAll K V f (gTell K st.1.length st.2.1.length st.2.2.1.length n).2 s') := by show (if K n = 24 then _ else _) = _; rw [if_neg h24]
            by_cases z2 : (mTell K V n st).1.1 = 0
            · exact absurd (e2.1 z2).1 w
            · rw [eM, mGo_f z2] at hm
              rw [← hm]
              exact e2.2 z2
          · rw [wn.1 w0]
            exact hm2 w0
end RAV
section RPL
variable {m : dM} {L s : Nat}
/-- the side s laid empty -/
theorem x_plain {x1 : Int32} {Q : dM → Prop} (hs : s ≤ 1) (hx : x1.toInt = (s : Int)) (hQ : ∀ m' : dM, (∀ k : Nat, k ≠ 80 → k ≠ 82 → k ≠ 86 → ¬ (91 ≤ k ∧ k ≤ 96) → m'.1 k = m.1 k) → m'.2 = m.2 → (∀ k j : Nat, k < 95 → j ≠ s → m'.1 k j = m.1 k j) → (∀ k j : Nat, k = 95 ∨ k = 96 → ¬ (4 * s ≤ j ∧ j < 4 * s + 4) → m'.1 k j = m.1 k j) → (m'.1 80 s = 0 ∧ m'.1 82 s = 0 ∧ m'.1 86 s = 0) ∧ (m'.1 91 s = 0 ∧ m'.1 92 s = 0 ∧ m'.1 93 s = 100 ∧ m'.1 94 s = 0) → (∀ j : Nat, j < 4 → m'.1 95 (4 * s + j) = 0 ∧ m'.1 96 (4 * s + j) = 0) → Q m') : c_X12_plain_70 1 x1 m Q := by
  have loop : ∀ (f i : Nat) (x2 : Int32) (M : dM), i + f = 4 → x2.toInt = (i : Int) → (∀ k : Nat, k ≠ 80 → k ≠ 82 → k ≠ 86 → ¬ (91 ≤ k ∧ k ≤ 96) → M.1 k = m.1 k) → M.2 = m.2 → (∀ k j : Nat, k < 95 → j ≠ s → M.1 k j = m.1 k j) → (∀ k j : Nat, k = 95 ∨ k = 96 → ¬ (4 * s ≤ j ∧ j < 4 * s + 4) → M.1 k j = m.1 k j) → (M.1 80 s = 0 ∧ M.1 82 s = 0 ∧ M.1 86 s = 0) ∧ (M.1 91 s = 0 ∧ M.1 92 s = 0 ∧ M.1 93 s = 100 ∧ M.1 94 s = 0) → (∀ j : Nat, j < i → M.1 95 (4 * s + j) = 0 ∧ M.1 96 (4 * s + j) = 0) → j_X12_plain_70_52 1 x1 x2 M Q := by
    intro f
    induction f with
    | zero =>
      intro i x2 M hi h2 a b c c2 d e
      exact v_X12_plain_70_52 ⟨fun _ => hQ M a b c c2 d (fun j hj => e j (by omega)), fun q => by exfalso; omega⟩
    | succ f ih =>
      intro i x2 M hi h2 a b c c2 d e
      have fa := y_idx (C := 4) (c := (4 : Int32)) (by decide) hx hs h2 (by decide) (by omega)
      refine v_X12_plain_70_52 ⟨fun q => by exfalso; omega, fun _ => ⟨by omega, by omega, ?_⟩⟩
      rw [d_cn fa]
      refine ih (i + 1) _ _ (by omega) (d_inc h2 (by omega)) (fun k e1 e2 e3 e4 => by rw [dSet_k (by omega), dSet_k (by omega)]; exact a k e1 e2 e3 e4) b (fun k j e1 e2 => by rw [dSet_k (by omega), dSet_k (by omega)]; exact c k j e1 e2) (fun k j e1 e2 => ?_) ?_ (fun j hj => ?_)
      · rw [dSet_e, dSet_e, if_neg (fun w => e2 (by omega)), if_neg (fun w => e2 (by omega))]
        exact c2 k j e1 e2
      · have fr : ∀ k : Nat, k ≠ 95 → k ≠ 96 → ∀ (a b : Nat) (v w : Int32), (dSet (dSet M 95 a v) 96 b w).1 k = M.1 k := fun k e1 e2 a b v w => by rw [dSet_k e2, dSet_k e1]
        rw [fr 80 (by decide) (by decide), fr 82 (by decide) (by decide), fr 86 (by decide) (by decide), fr 91 (by decide) (by decide), fr 92 (by decide) (by decide), fr 93 (by decide) (by decide), fr 94 (by decide) (by decide)]
        exact d
      · by_cases q : j = i
        · subst q
          rw [dSet_k (show 95 ≠ 96 by decide), dSet_s, dSet_s]
          exact ⟨rfl, rfl⟩
        · have := e j (by omega)
          rw [dSet_k (show 95 ≠ 96 by decide), dSet_j (by omega), dSet_j (by omega), dSet_k (show 96 ≠ 95 by decide)]
          exact this
  refine v_X12_plain_70 ⟨by omega, by omega, by omega, by omega, by omega, by omega, by omega, ?_⟩
  rw [d_cn hx]
  refine loop 4 0 _ _ rfl (by decide) (fun k e1 e2 e3 e4 => ?_) rfl (fun k j e1 e2 => ?_) (fun k j e1 _ => ?_) ⟨⟨?_, ?_, ?_⟩, ?_, ?_, ?_, ?_⟩ (fun j hj => absurd hj (Nat.not_lt_zero j))
  · rw [dSet_k (by omega), dSet_k (by omega), dSet_k (by omega), dSet_k (by omega), dSet_k e3, dSet_k e2, dSet_k e1]
  · rw [dSet_j e2, dSet_j e2, dSet_j e2, dSet_j e2, dSet_j e2, dSet_j e2, dSet_j e2]
  · rw [dSet_k (by omega), dSet_k (by omega), dSet_k (by omega), dSet_k (by omega), dSet_k (by omega), dSet_k (by omega), dSet_k (by omega)]
  · rw [dSet_k (by decide), dSet_k (by decide), dSet_k (by decide), dSet_k (by decide), dSet_k (by decide), dSet_k (by decide), dSet_s]
  · rw [dSet_k (by decide), dSet_k (by decide), dSet_k (by decide), dSet_k (by decide), dSet_k (by decide), dSet_s]
  · rw [dSet_k (by decide), dSet_k (by decide), dSet_k (by decide), dSet_k (by decide), dSet_s]
  · rw [dSet_k (by decide), dSet_k (by decide), dSet_k (by decide), dSet_s]
  · rw [dSet_k (by decide), dSet_k (by decide), dSet_s]
  · rw [dSet_k (by decide), dSet_s]
  · rw [dSet_s]
/-- the row of a beginning -/
def beR (m : dM) (s j : Nat) : Int32 := if (j : Int) < (m.1 82 s).toInt then m.1 85 (10 * s + j) else if j = 56 then m.1 93 s else if 47 ≤ j ∧ (j : Int) < 47 + (m.1 86 s).toInt then 1 else 0
theorem x_begins {Q : dM → Prop} (hs : s ≤ 1) (h18 : (m.1 70 18).toInt = (s : Int)) (h82 : 0 ≤ (m.1 82 s).toInt ∧ (m.1 82 s).toInt ≤ 10) (h86 : 0 ≤ (m.1 86 s).toInt ∧ (m.1 86 s).toInt ≤ 8) (hQ : ∀ m' : dM, BG m m' → m'.1 107 = m.1 107 → (∀ j : Nat, j < 58 → m'.1 108 j = beR m s j) → (m'.1 70 56 = m.1 94 s ∧ m'.1 70 57 = 0) → Q m') : c_X12_begins_70 1 m Q := by
  have l64 : ∀ (f i : Nat) (x1 : Int32) (M : dM), 8 < i + f → (i : Int) ≤ (m.1 86 s).toInt → x1.toInt = (i : Int) → BG m M → M.1 107 = m.1 107 → (∀ j : Nat, j < 58 → M.1 108 j = if (j : Int) < (m.1 82 s).toInt then m.1 85 (10 * s + j) else if 47 ≤ j ∧ j < 47 + i then 1 else 0) → j_X12_begins_70_64 1 x1 M Q := by
    intro f
    induction f with
    | zero => intro i x1 M a b; exfalso; omega
    | succ f ih =>
      intro i x1 M hf hi h1 hB h107 hR
      have e18 : (M.1 70 18).toInt = (s : Int) := by rw [hB.2.1 18 (by decide) (by decide)]; exact h18
      have e86 : M.1 86 s = m.1 86 s := by rw [hB.1 86 (by decide) (by decide) (by decide)]
      refine v_X12_begins_70_64 ⟨by omega, ?_⟩
      rw [d_cn e18, e86]
      have f47 := dAddE (X := 47) (Y := (i : Int)) (x := (47 : Int32)) (y := x1) (by decide) h1 (by omega) (by omega)
      refine ⟨fun q => ⟨by omega, by omega, hQ _ ?_ ?_ (fun j hj => ?_) ⟨?_, ?_⟩⟩, fun q => ⟨by omega, ?_⟩⟩
      · have h2 := hB.set (j := 56) (v := M.1 93 s) (k := 108) (Or.inr rfl)
        exact ⟨fun a e1 e2 e3 => by rw [dSet_k e1, dSet_k e1]; exact h2.1 a e1 e2 e3, fun a e1 e2 => by rw [dSet_j e2, dSet_j e1]; exact h2.2.1 a e1 e2, h2.2.2⟩
      · rw [dSet_k (by decide), dSet_k (by decide), dSet_k (by decide)]; exact h107
      · rw [dSet_k (by decide), dSet_k (by decide)]
        unfold beR
        by_cases q56 : j = 56
        · subst q56
          rw [dSet_s, if_neg (by omega), if_pos rfl, hB.1 93 (by decide) (by decide) (by decide)]
        · rw [dSet_j q56, hR j hj, if_neg q56]
          by_cases q1 : (j : Int) < (m.1 82 s).toInt
          · rw [if_pos q1, if_pos q1]
          · rw [if_neg q1, if_neg q1]
            by_cases q2 : 47 ≤ j ∧ j < 47 + i
            · rw [if_pos q2, if_pos (by omega)]
            · rw [if_neg q2, if_neg (by omega)]
      · rw [dSet_j (by decide), dSet_s]
        rw [hB.1 94 (by decide) (by decide) (by decide)]
      · rw [dSet_s]
      · have e47 : ((47 : Int32) + x1).toNatClampNeg = 47 + i := d_cn (by rw [f47]; omega)
        rw [e47]
        refine ih (i + 1) _ _ (by omega) (by omega) (d_inc h1 (by omega)) (hB.set (Or.inr rfl)) (by rw [dSet_k (by decide)]; exact h107) (fun j hj => ?_)
        by_cases qj : j = 47 + i
        · subst qj
          rw [dSet_s, if_neg (by omega), if_pos (by omega)]
        · rw [dSet_j qj, hR j hj]
          by_cases q1 : (j : Int) < (m.1 82 s).toInt
          · rw [if_pos q1, if_pos q1]
          · rw [if_neg q1, if_neg q1]
            by_cases q2 : 47 ≤ j ∧ j < 47 + i
            · rw [if_pos q2, if_pos (by omega)]
            · rw [if_neg q2, if_neg (by omega)]
  have l23 : ∀ (f i : Nat) (x1 : Int32) (M : dM), 10 < i + f → (i : Int) ≤ (m.1 82 s).toInt → x1.toInt = (i : Int) → BG m M → M.1 107 = m.1 107 → (∀ j : Nat, j < 58 → M.1 108 j = if j < i then m.1 85 (10 * s + j) else 0) → j_X12_begins_70_23 1 x1 M Q := by
    intro f
    induction f with
    | zero => intro i x1 M a b; exfalso; omega
    | succ f ih =>
      intro i x1 M hf hi h1 hB h107 hR
      have e18 : (M.1 70 18).toInt = (s : Int) := by rw [hB.2.1 18 (by decide) (by decide)]; exact h18
      have e82 : M.1 82 s = m.1 82 s := by rw [hB.1 82 (by decide) (by decide) (by decide)]
      refine v_X12_begins_70_23 ⟨by omega, ?_⟩
      rw [d_cn e18, e82]
      have fa := y_idx (C := 10) (c := (10 : Int32)) (by decide) e18 hs h1 (by decide) (by omega)
      refine ⟨fun q => l64 9 0 _ M (by omega) (by omega) (by decide) hB h107 (fun j hj => ?_), fun q => ⟨by omega, by omega, ?_⟩⟩
      · rw [hR j hj]
        by_cases q1 : j < i
        · rw [if_pos q1, if_pos (by omega)]
        · rw [if_neg q1, if_neg (by omega), if_neg (by omega)]
      · rw [d_cn fa, d_cn h1, hB.1 85 (by decide) (by decide) (by decide)]
        refine ih (i + 1) _ _ (by omega) (by omega) (d_inc h1 (by omega)) (hB.set (Or.inr rfl)) (by rw [dSet_k (by decide)]; exact h107) (fun j hj => ?_)
        by_cases qj : j = i
        · subst qj
          rw [dSet_s, if_pos (by omega)]
        · rw [dSet_j qj, hR j hj]
          by_cases q1 : j < i
          · rw [if_pos q1, if_pos (by omega)]
          · rw [if_neg q1, if_neg (by omega)]
  have l2 : ∀ (f i : Nat) (x1 : Int32) (M : dM), i + f = 58 → x1.toInt = (i : Int) → BG m M → M.1 107 = m.1 107 → (∀ j : Nat, j < i → M.1 108 j = 0) → j_X12_begins_70_2 1 x1 M Q := by
    intro f
    induction f with
    | zero =>
      intro i x1 M hi h1 hB h107 hR
      exact v_X12_begins_70_2 ⟨fun _ => l23 11 0 _ M (by omega) (by omega) (by decide) hB h107 (fun j hj => by rw [if_neg (Nat.not_lt_zero j)]; exact hR j (by omega)), fun q => by exfalso; omega⟩
    | succ f ih =>
      intro i x1 M hi h1 hB h107 hR
      refine v_X12_begins_70_2 ⟨fun q => by exfalso; omega, fun _ => ⟨by omega, ?_⟩⟩
      rw [d_cn h1]
      refine ih (i + 1) _ _ (by omega) (d_inc h1 (by omega)) (hB.set (Or.inr rfl)) (by rw [dSet_k (by decide)]; exact h107) (fun j hj => ?_)
      by_cases q : j = i
      · rw [q, dSet_s]
      · rw [dSet_j q]; exact hR j (by omega)
  exact v_X12_begins_70 (l2 58 0 _ m rfl (by decide) ⟨fun _ _ _ _ => rfl, fun _ _ _ => rfl, rfl⟩ rfl (fun j hj => absurd hj (Nat.not_lt_zero j)))
theorem x_keepsRow {Q : dM → Prop} (hQ : ∀ m' : dM, (∀ k : Nat, k ≠ 107 → m'.1 k = m.1 k) → m'.2 = m.2 → (∀ j : Nat, j < 58 → m'.1 107 j = m.1 108 j) → Q m') : c_X12_keepsRow_70 1 m Q := by
  have l2 : ∀ (f i : Nat) (x1 : Int32) (M : dM), i + f = 58 → x1.toInt = (i : Int) → (∀ k : Nat, k ≠ 107 → M.1 k = m.1 k) → M.2 = m.2 → (∀ j : Nat, j < i → M.1 107 j = m.1 108 j) → j_X12_keepsRow_70_2 1 x1 M Q := by
    intro f
    induction f with
    | zero => intro i x1 M hi h1 a b c; exact v_X12_keepsRow_70_2 ⟨fun _ => hQ M a b (fun j hj => c j (by omega)), fun q => by exfalso; omega⟩
    | succ f ih =>
      intro i x1 M hi h1 a b c
      refine v_X12_keepsRow_70_2 ⟨fun q => by exfalso; omega, fun _ => ⟨by omega, by omega, ?_⟩⟩
      rw [d_cn h1]
      refine ih (i + 1) _ _ (by omega) (d_inc h1 (by omega)) (fun k hk => by rw [dSet_k hk]; exact a k hk) b (fun j hj => ?_)
      by_cases q : j = i
      · rw [q, dSet_s, a 108 (by decide)]
      · rw [dSet_j q]; exact c j (by omega)
  exact v_X12_keepsRow_70 (l2 58 0 _ m rfl (by decide) (fun _ _ => rfl) rfl (fun j hj => absurd hj (Nat.not_lt_zero j)))
end RPL
