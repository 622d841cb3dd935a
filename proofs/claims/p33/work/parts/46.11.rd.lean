/-! THE REFERENCE's read, 12: all of it (by hand) -/
theorem w70_lo : ∀ j : Fin 51, wT 70 j = none ∨ wT 70 j = fR := by decide
theorem s70 {j : Nat} {lo hi : Int} (h : sT 70 j = some (lo, hi)) : (j = 2 ∧ lo = 0 ∧ hi = 2000) ∨ (j = 18 ∧ lo = 0 ∧ hi = 1) ∨ (j = 63 ∧ lo = 0 ∧ hi = 20) := by
  by_cases h2 : j = 2
  · subst h2; cases h; exact Or.inl ⟨rfl, rfl, rfl⟩
  · by_cases h3 : j = 18
    · subst h3; cases h; exact Or.inr (Or.inl ⟨rfl, rfl, rfl⟩)
    · by_cases h4 : j = 63
      · subst h4; cases h; exact Or.inr (Or.inr ⟨rfl, rfl, rfl⟩)
      exfalso
      unfold sT at h
      split at h
      all_goals first
        | (rename_i q; exact absurd q (by decide))
        | skip
      all_goals first | (cases h; done) | (split at h <;> first | omega | (cases h; done))
theorem w_mid2 {k : Nat} (h1 : 71 ≤ k) (h2 : k ≤ 104) : ∀ j, wT k j = none ∨ wT k j = fR := by
  have H : ∀ n : Nat, n < 34 → ∀ j, wT (71 + n) j = none ∨ wT (71 + n) j = fR := by
    intro n hn j
    match n, hn with
    | 5, _ | 6, _ | 7, _ => exact Or.inr rfl
    | 0, _ | 1, _ | 2, _ | 3, _ | 4, _ | 8, _ | 9, _ | 10, _ | 11, _ | 12, _ | 13, _ | 14, _ | 15, _ | 16, _ | 17, _ | 18, _ | 19, _ | 20, _ | 21, _ | 22, _ | 23, _ | 24, _ | 25, _ | 26, _ | 27, _ | 28, _ | 29, _ | 30, _ | 31, _ | 32, _ | 33, _ => exact Or.inl rfl
    | n + 34, hn => omega
  have := H (k - 71) (by omega)
  rw [show 71 + (k - 71) = k by omega] at this
  exact this
/-- what was told is bounded -/
theorem PF.okb {m m0 M : dM} {L s : Nat} (hO : Ok m) (h1 : ∀ k : Nat, k ≠ 70 → m0.1 k = m.1 k) (h2 : ∀ j : Nat, j ≠ 2 → j ≠ 19 → m0.1 70 j = m.1 70 j) (h3 : (m0.1 70 2).toInt = 0) (h : PF m0 L s M) : OkB M := by
  obtain ⟨a1, a2, a3, a4⟩ := h
  intro k j lo hi q
  by_cases hk : k < 70 ∨ 105 ≤ k
  · rw [a1 k hk, h1 k (by omega)]
    exact hO.b k j lo hi q
  · by_cases hk2 : k = 70
    · subst hk2
      by_cases hj : 51 ≤ j
      · rw [a2 j (by omega), h2 j (by omega) (by omega)]
        exact hO.b 70 j lo hi q
      · rcases q with q | q
        · have w := w70_lo ⟨j, by omega⟩
          have w : wT 70 j = none ∨ wT 70 j = fR := w
          rcases w with w | w
          · rw [w] at q; cases q
          · rw [w] at q; cases q
            exact ⟨e_lo _, e_hi _⟩
        · rcases s70 q with ⟨rfl, rfl, rfl⟩ | ⟨rfl, rfl, rfl⟩ | ⟨rfl, rfl, rfl⟩
          · rw [a2 2 (by omega)]; omega
          · rw [a2 18 (by omega), h2 18 (by omega) (by omega)]
            exact hO.b 70 18 0 1 (Or.inr rfl)
          · exfalso; omega
    · rcases q with q | q
      · rcases w_mid2 (k := k) (by omega) (by omega) j with w | w
        · rw [w] at q; cases q
        · rw [w] at q; cases q
          exact ⟨e_lo _, e_hi _⟩
      · exact a4 k j lo hi (by omega) q
theorem gPc_side {g g' : gM} {L : Nat} {a b : Int} (hc : ∀ k j : Nat, k = 102 ∨ k = 103 → 420 * L ≤ j → j < 420 * L + 420 → g' k j = g k j) (h : gPc g L a b) : gPc g' L a b := by
  obtain ⟨h1, h2, h3, h4, h5⟩ := h
  exact ⟨h1, h2, h3, h4, gSeg_congr2 (fun j e1 e2 => ⟨hc 102 j (Or.inl rfl) (by omega) (by omega), hc 103 j (Or.inr rfl) (by omega) (by omega)⟩) h5⟩
/-- the live side as it was -/
theorem Gx_side {g g' : gM} (hb : (0 ≤ (g 86 (gL g)).toInt ∧ (g 86 (gL g)).toInt ≤ 8) ∧ (0 ≤ (g 82 (gL g)).toInt ∧ (g 82 (gL g)).toInt ≤ 10)) (h18 : g' 70 18 = g 70 18) (h2 : g' 2 = g 2) (h7 : g' 7 = g 7) (hc : ∀ k j : Nat, 71 ≤ k → rg k * gL g ≤ j → j < rg k * gL g + rg k → g' k j = g k j) (hG : Gx g) : Gx g' := by
  have eL : gL g' = gL g := by unfold gL; rw [h18]
  obtain ⟨x1, x2, x3, x4⟩ := hG
  unfold Gx
  rw [eL]
  generalize gL g = L at *
  have e86 : g' 86 L = g 86 L := hc 86 L (by decide) (by show 1 * L ≤ L; omega) (by show L < 1 * L + 1; omega)
  have e82 : g' 82 L = g 82 L := hc 82 L (by decide) (by show 1 * L ≤ L; omega) (by show L < 1 * L + 1; omega)
  refine ⟨by rw [h2, h7]; exact x1, fun u hu => ?_, fun w hw => ?_, fun k hk => ?_⟩
  · rw [e86] at hu
    rw [hc 87 (8 * L + u) (by decide) (by show 8 * L ≤ 8 * L + u; omega) (by show 8 * L + u < 8 * L + 8; omega)]
    exact x2 u hu
  · rw [e82] at hw
    rw [hc 83 (10 * L + w) (by decide) (by show 10 * L ≤ 10 * L + w; omega) (by show 10 * L + w < 10 * L + 10; omega), hc 84 (10 * L + w) (by decide) (by show 10 * L ≤ 10 * L + w; omega) (by show 10 * L + w < 10 * L + 10; omega)]
    exact x3 w hw
  · rw [hc 95 (4 * L + k) (by decide) (by show 4 * L ≤ 4 * L + k; omega) (by show 4 * L + k < 4 * L + 4; omega), hc 96 (4 * L + k) (by decide) (by show 4 * L ≤ 4 * L + k; omega) (by show 4 * L + k < 4 * L + 4; omega)]
    have up : ∀ a b : Int, gPc g L a b → gPc g' L a b := fun a b q => gPc_side (fun k j e1 e2 e3 => by
      rcases e1 with rfl | rfl
      · exact hc 102 j (by decide) e2 e3
      · exact hc 103 j (by decide) e2 e3) q
    rcases x4 k hk with q | ⟨q1, q2, q3, q4⟩
    · exact Or.inl q
    · refine Or.inr ⟨q1, q2, q3, fun j e1 e2 => ?_⟩
      have w := q4 j e1 e2
      have e : ∀ c : Nat, c = 97 ∨ c = 98 ∨ c = 99 ∨ c = 100 ∨ c = 101 → g' c j = g c j := fun c hc' => by
        rcases hc' with rfl | rfl | rfl | rfl | rfl
        all_goals exact hc _ j (by decide) (by show 130 * L ≤ j; omega) (by show j < 130 * L + 130; omega)
      unfold gBr at w ⊢
      rw [e 97 (by omega), e 98 (by omega), e 99 (by omega), e 100 (by omega), e 101 (by omega)]
      exact ⟨fun z => ⟨up _ _ (w.1 z).1, up _ _ (w.1 z).2⟩, up _ _ w.2⟩
/-- a side made plain -/
theorem u_plain_52 {m0 : dM} {L s : Nat} {x1 : Int32} {Q : dM → Prop} (hL : L + s = 1) (hx : x1.toInt = s) (mb : dM) (hQ : ∀ m', PF m0 L s m' → m'.1 70 = mb.1 70 → (∀ k : Nat, k ≠ 95 → k ≠ 96 → m'.1 k = mb.1 k) → (∀ k : Nat, k < 4 → (m'.1 95 (4 * s + k)).toInt = (m'.1 96 (4 * s + k)).toInt) → Q m') : ∀ (n : Nat) (x2 : Int32) (m : dM), PF m0 L s m → (∀ k : Nat, k ≠ 95 → k ≠ 96 → m.1 k = mb.1 k) → 0 ≤ x2.toInt ∧ x2.toInt ≤ 4 → (∀ k : Nat, (k : Int) < x2.toInt → (m.1 95 (4 * s + k)).toInt = (m.1 96 (4 * s + k)).toInt) → 4 - x2.toInt < n → j_X12_plain_70_52 1 x1 x2 m Q := by
  intro n
  induction n with
  | zero => intro x2 m hF hk h2 hz hμ; exfalso; omega
  | succ n ih =>
    intro x2 m hF hk h2 hz hμ
    refine v_X12_plain_70_52 ⟨fun hc => hQ m hF (hk 70 (by decide) (by decide)) hk (fun k h4 => hz k (by omega)), fun hc => ?_⟩
    have fm := dMulE (X := 4) (Y := (s : Int)) (x := (4 : Int32)) (y := x1) (by decide) hx (by omega) (by omega)
    have fa := dAddE (X := 4 * (s : Int)) (Y := x2.toInt) (x := (4 : Int32) * x1) (y := x2) fm rfl (by omega) (by omega)
    have f2 := dAddE (X := x2.toInt) (Y := 1) (x := x2) (y := (1 : Int32)) rfl (by decide) (by omega) (by omega)
    have eI : ((4 : Int32) * x1 + x2).toNatClampNeg = 4 * s + x2.toInt.toNat := by
      have := d_cl (x := (4 : Int32) * x1 + x2) (by omega)
      omega
    refine ⟨by omega, ⟨by omega, ?_⟩⟩
    rw [eI]
    refine ih _ _ ?_ (fun k e1 e2 => by rw [dSet_k e2, dSet_k e1]; exact hk k e1 e2) (by omega) (fun k hk2 => ?_) (by omega)
    · refine PF.set (PF.set hF hL (by decide) (by decide) (Or.inr ?_) (fun lo hi q => by cases q)) hL (by decide) (by decide) (Or.inr ?_) (fun lo hi q => by cases q)
      · show 4 * s ≤ _ ∧ _ < 4 * s + 4; omega
      · show 4 * s ≤ _ ∧ _ < 4 * s + 4; omega
    · by_cases q : k = x2.toInt.toNat
      · rw [q, dSet_s, dSet_k (show (95 : Nat) ≠ 96 by decide), dSet_s]
      · have eA : (dSet (dSet m 95 (4 * s + x2.toInt.toNat) (0 : Int32)) 96 (4 * s + x2.toInt.toNat) (0 : Int32)).1 95 (4 * s + k) = m.1 95 (4 * s + k) := by rw [dSet_k (show (95 : Nat) ≠ 96 by decide), dSet_j (by omega)]
        have eB : (dSet (dSet m 95 (4 * s + x2.toInt.toNat) (0 : Int32)) 96 (4 * s + x2.toInt.toNat) (0 : Int32)).1 96 (4 * s + k) = m.1 96 (4 * s + k) := by rw [dSet_j (by omega), dSet_k (show (96 : Nat) ≠ 95 by decide)]
        rw [eA, eB]
        exact hz k (by omega)
theorem u_plain {m0 m : dM} {L s : Nat} {x1 : Int32} {Q : dM → Prop} (hL : L + s = 1) (hx : x1.toInt = s) (hF : PF m0 L s m) (hQ : ∀ m', PF m0 L s m' → m'.1 70 = m.1 70 → ((m'.1 80 s).toInt = 0 ∧ (m'.1 82 s).toInt = 0 ∧ (m'.1 86 s).toInt = 0) → (∀ k : Nat, k < 4 → (m'.1 95 (4 * s + k)).toInt = (m'.1 96 (4 * s + k)).toInt) → Q m') : c_X12_plain_70 1 x1 m Q := by
  have eI : x1.toNatClampNeg = s := by
    have := d_cl (x := x1) (by omega)
    omega
  refine v_X12_plain_70 ⟨by omega, ⟨by omega, ⟨by omega, ⟨by omega, ⟨by omega, ⟨by omega, ⟨by omega, ?_⟩⟩⟩⟩⟩⟩⟩
  rw [eI]
  have one : ∀ (k : Nat) (v : Int32) (X : dM), (k = 80 ∨ k = 82 ∨ k = 86 ∨ k = 91 ∨ k = 92 ∨ k = 93 ∨ k = 94) → ((k = 80 ∨ k = 82 ∨ k = 86) → v = 0) → PF m0 L s X → PF m0 L s (dSet X k s v) := fun k v X hk hv F => by
    refine F.set hL (by omega) (by omega) (Or.inr ?_) (fun lo hi q => ?_)
    · rcases hk with rfl | rfl | rfl | rfl | rfl | rfl | rfl <;> (show 1 * s ≤ s ∧ s < 1 * s + 1; omega)
    · rcases hk with rfl | rfl | rfl | rfl | rfl | rfl | rfl
      · cases q; rw [hv (by decide)]; decide
      · cases q; rw [hv (by decide)]; decide
      · cases q; rw [hv (by decide)]; decide
      all_goals cases q
  refine u_plain_52 hL hx (dSet (dSet (dSet (dSet (dSet (dSet (dSet m 80 s (0 : Int32)) 82 s (0 : Int32)) 86 s (0 : Int32)) 91 s (0 : Int32)) 92 s (0 : Int32)) 93 s (100 : Int32)) 94 s (0 : Int32)) (fun m' F e70 ek ez => hQ m' F e70 ?_ ez) 5 (0 : Int32) _ (one 94 _ _ (by decide) (fun q => by exfalso; omega) (one 93 _ _ (by decide) (fun q => by exfalso; omega) (one 92 _ _ (by decide) (fun q => by exfalso; omega) (one 91 _ _ (by decide) (fun q => by exfalso; omega) (one 86 _ _ (by decide) (fun _ => rfl) (one 82 _ _ (by decide) (fun _ => rfl) (one 80 _ _ (by decide) (fun _ => rfl) hF))))))) (fun _ _ _ => rfl) (by decide) (fun k hk => by have h0 : (0 : Int32).toInt = 0 := rfl; exfalso; omega) (by decide)
  rw [ek 80 (by decide) (by decide), ek 82 (by decide) (by decide), ek 86 (by decide) (by decide)]
  refine ⟨?_, ?_, ?_⟩
  · rw [dSet_k (by decide), dSet_k (by decide), dSet_k (by decide), dSet_k (by decide), dSet_k (by decide), dSet_k (by decide), dSet_s]; decide
  · rw [dSet_k (by decide), dSet_k (by decide), dSet_k (by decide), dSet_k (by decide), dSet_k (by decide), dSet_s]; decide
  · rw [dSet_k (by decide), dSet_k (by decide), dSet_k (by decide), dSet_k (by decide), dSet_s]; decide
