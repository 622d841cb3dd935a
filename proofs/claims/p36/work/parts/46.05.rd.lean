section
/-! THE REFERENCE's read, 6: a law from its start to its end (by hand) -/
theorem LSt.weak {mb m : dM} {s : Nat} {e e' bm bm' : Int} (h : LSt mb s e bm m) (he : e' ≤ e) (hb : bm ≤ bm') : LSt mb s e' bm' m := by
  obtain ⟨h1, h2, h3, h4, h5, h6⟩ := h
  refine ⟨h1, h2, h3, h4, by omega, fun h0 => ?_⟩
  have h6 := h6 h0
  exact ⟨h6.1, h6.2.1, h6.2.2.1, by omega, h6.2.2.2.2⟩
theorem LSt.bad {mb m : dM} {s : Nat} {e e' bm : Int} (h : LSt mb s e bm m) (hf : 0 < flt m) : LSt mb s e' bm m := by
  obtain ⟨h1, h2, h3, h4, h5, h6⟩ := h
  exact ⟨h1, h2, h3, h4, h5, fun h0 => by exfalso; omega⟩
/-- the two first pieces of the branch under way -/
def P98 (m : dM) (s : Nat) : Prop := PW m s (m.1 98 (m.1 70 40).toNatClampNeg).toInt (m.1 99 (m.1 70 40).toNatClampNeg).toInt ∧ PW m s (m.1 99 (m.1 70 40).toNatClampNeg).toInt (cds m)
theorem tl_main {mb : dM} {s : Nat} {x1 x2 : Int32} {Q : dM → Prop} (hs : s ≤ 1) (hcb : 420 * (s : Int) ≤ cds mb) (hbb : 130 * (s : Int) ≤ brs mb) (hx1 : 0 ≤ x1.toInt ∧ x1.toInt ≤ 3) (hsd : (mb.1 70 19).toInt = s)
    (hQ1 : ∀ m', LSt mb s 0 101 m' → 0 < flt m' → Q m') (hQ2 : ∀ m', LSt mb s 0 101 m' → flt m' = 0 → Q (dSet (dSet m' 95 (((4 : Int32) * (m'.1 70 19)) + x1).toNatClampNeg x2) 96 (((4 : Int32) * (m'.1 70 19)) + x1).toNatClampNeg (m'.1 70 40))) : ∀ n : Nat,
    (∀ (x3 : Int32) (m : dM), LSt mb s 2 100 m → 0 ≤ x3.toInt ∧ x3.toInt ≤ 4 → mu m 6 1 n → j_X12_tellLaw_70_12 6 x1 x2 x3 m Q) ∧
    (∀ (x3 : Int32) (m : dM), LSt mb s 2 99 m → 0 ≤ x3.toInt ∧ x3.toInt ≤ 4 → (flt m = 0 → x3.toInt ≤ 3) → mu m 5 0 n → j_X12_tellLaw_70_38 6 x1 x2 x3 m Q) ∧
    (∀ (x3 : Int32) (m : dM), LSt mb s 6 99 m → 0 ≤ x3.toInt ∧ x3.toInt ≤ 4 → (flt m = 0 → P98 m s) → mu m 7 2 n → j_X12_tellLaw_70_110 6 x1 x2 x3 m Q) := by
  have last : ∀ m : dM, LSt mb s 2 100 m → j_X12_tellLaw_70_129 6 x1 x2 m Q := by
    intro m h
    have hb5 := h.2.2.2.2.1
    have eb0 : (m.1 70 40).toInt = brs m := rfl
    have g := h.br (k := 97) (v := (0 : Int32)) (by omega) (by omega) (by omega) (by omega)
    refine v_X12_tellLaw_70_129 ⟨by omega, ?_⟩
    refine p_term hs hcb hbb (by omega) g (fun _ hne => ?_) (fun m1 h1 _ _ => ?_)
    · have e : (dSet m 97 (m.1 70 40).toNatClampNeg (0 : Int32)).1 97 ((dSet m 97 (m.1 70 40).toNatClampNeg (0 : Int32)).1 70 40).toNatClampNeg = 0 := dSet_s _ _ _ _
      rw [e] at hne
      exact absurd rfl hne
    · refine Wp.deep (p_must h1.2.1 h1.2.2.2.1 (fun m2 h2 => ?_)) (Nat.le_of_ble_eq_true rfl)
      have g2 : LSt mb s 0 101 m2 := (h1.mv h2 (by decide)).weak (by decide) (by decide)
      have e19 : (m2.1 70 19).toInt = s := by rw [g2.1.2.1 19 (by decide) (by decide) (by decide) (by decide) (by decide) (by decide) (by decide) (by decide) (by decide)]; exact hsd
      have fm := dMulE (X := 4) (Y := (s : Int)) (x := (4 : Int32)) (y := m2.1 70 19) (by decide) e19 (by omega) (by omega)
      have fa := dAddE (X := 4 * (s : Int)) (Y := x1.toInt) (x := (4 : Int32) * m2.1 70 19) (y := x1) fm rfl (by omega) (by omega)
      refine ⟨fun hc => ⟨by omega, ⟨by omega, hQ2 m2 g2 ?_⟩⟩, fun hc => hQ1 m2 g2 hc⟩
      have hc : flt m2 ≤ 0 := hc
      have := g2.2.2.2.1
      omega
  intro n
  induction n with
  | zero =>
    refine ⟨fun x3 m h h3 hμ => ?_, fun x3 m h h3 h4 hμ => ?_, fun x3 m h h3 hP hμ => ?_⟩ <;> (have := h.2.1; exfalso; rcases hμ with q | q <;> omega)
  | succ n ih =>
    refine ⟨fun x3 m h h3 hμ => ?_, fun x3 m h h3 h4 hμ => ?_, fun x3 m h h3 hP hμ => ?_⟩
    · refine v_X12_tellLaw_70_12 ⟨fun _ => last m h, fun h0 => ?_⟩
      have h0 : flt m = 0 := h0
      have h6 := h.2.2.2.2.2 h0
      have hb5 := h.2.2.2.2.1
      have h' : LSt mb s 2 99 m := ⟨h.1, h.2.1, h.2.2.1, h.2.2.2.1, by have := h.2.1; omega, h.2.2.2.2.2⟩
      refine Wp.deep (p_is h.2.1 (fun h1 h2 => ⟨fun q => absurd q (by decide), fun _ => ⟨fun hne => ?_, fun he => ?_⟩⟩) (fun h1 => ⟨fun _ => last m h, fun q => absurd rfl q⟩)) (Nat.le_of_ble_eq_true rfl)
      · refine ih.2.1 x3 m h' h3 (fun _ => by omega) ?_
        left
        rcases hμ with q | q <;> omega
      · refine Wp.deep (p_fail h.2.1 (by decide) (fun m2 h2 hf2 => ?_)) (Nat.le_of_ble_eq_true rfl)
        refine ih.2.1 x3 m2 ((h'.mv h2 (by decide)).weak (by decide) (by decide)) h3 (fun q => by exfalso; omega) ?_
        right
        have := h.2.1
        rcases hμ with q | q <;> omega
    · refine v_X12_tellLaw_70_38 ⟨fun hc => ?_, fun hc => hQ1 m ((LSt.bad h hc).weak (Int.le_refl _) (by decide)) hc⟩
      have h0 : flt m = 0 := by
        have hc : flt m ≤ 0 := hc
        have := h.2.2.2.1
        omega
      have h34 := h4 h0
      have f3 := dAddE (X := x3.toInt) (Y := 1) (x := x3) (y := (1 : Int32)) rfl (by decide) (by omega) (by omega)
      refine Wp.deep (p_goesOn h.2.1 h.2.2.2.1 (fun m1 h1 => ?_)) (Nat.le_of_ble_eq_true rfl)
      have k4 := h1.2.2.2.1
      have g1 : LSt mb s 3 99 m1 := h.mv h1 (by decide)
      have hb5 := g1.2.2.2.2.1
      have eb0 : (m1.1 70 40).toInt = brs m1 := rfl
      have eb1 : ((m1.1 70 40).toNatClampNeg : Int) = brs m1 := d_cl (show 0 ≤ brs m1 by omega)
      refine ⟨by omega, ⟨by omega, ?_⟩⟩
      have g2 : LSt mb s 3 99 (dSet (dSet m1 97 (m1.1 70 40).toNatClampNeg (1 : Int32)) 98 (m1.1 70 40).toNatClampNeg (m1.1 70 46)) :=
        (g1.br (k := 97) (v := (1 : Int32)) (by omega) (by omega) (by omega) (by omega)).br (k := 98) (v := m1.1 70 46) (by omega) (by omega) (by omega) (by omega)
      refine Wp.deep (g2.ex hs hcb (fun m2 g3 hk hb ht2 hz => ?_)) (Nat.le_of_ble_eq_true rfl)
      have hb' : brs m2 = brs m1 := hb
      refine Wp.deep (p_must g3.2.1 g3.2.2.2.1 (fun m3 h3' => ?_)) (Nat.le_of_ble_eq_true rfl)
      have g4 : LSt mb s 5 99 m3 := g3.mv h3' (by decide)
      have hb6 := g4.2.2.2.2.1
      have b3 : m3.1 70 40 = m2.1 70 40 := h3'.2.1 40 (by decide) (by decide) (by decide) (by decide) (by decide)
      have c3 : m3.1 70 46 = m2.1 70 46 := h3'.2.1 46 (by decide) (by decide) (by decide) (by decide) (by decide)
      have eb3 : (m3.1 70 40).toNatClampNeg = (m1.1 70 40).toNatClampNeg := by
        have w1 := d_cl (show 0 ≤ (m3.1 70 40).toInt by show 0 ≤ brs m3; omega)
        have w2 : (m3.1 70 40).toInt = brs m2 := by rw [b3]; rfl
        omega
      have w3 : (m3.1 70 40).toInt = brs m3 := rfl
      refine ⟨by omega, ?_⟩
      have g5 : LSt mb s 5 99 (dSet m3 99 (m3.1 70 40).toNatClampNeg (m3.1 70 46)) := g4.br (k := 99) (by omega) (by omega) (by omega) (by omega)
      have k43 := h3'.2.2.2.1
      refine ⟨fun hf => ?_, fun hf => ?_⟩
      · have hf : flt m3 ≠ 0 := hf
        have hf2 : 0 < flt (dSet m3 99 (m3.1 70 40).toNatClampNeg (m3.1 70 46)) := by
          have w4 : flt (dSet m3 99 (m3.1 70 40).toNatClampNeg (m3.1 70 46)) = flt m3 := rfl
          have := g4.2.2.2.1
          omega
        refine ih.2.2 _ _ (LSt.bad g5 hf2) (by omega) (fun q => by exfalso; omega) ?_
        right
        have := h.2.1
        rcases hμ with q | q <;> omega
      · have hf : flt m3 = 0 := hf
        have f2 : flt m2 = 0 := by rcases k43 with q | q <;> omega
        have hz := hz f2
        have hz1 : flt m1 = 0 := hz.1
        refine Wp.deep (g5.ex hs hcb (fun m4 g6 hk4 hb4 ht4 hz4 => ?_)) (Nat.le_of_ble_eq_true rfl)
        refine ih.2.2 _ _ g6 (by omega) (fun h04 => ?_) ?_
        · have hz4 := hz4 h04
          have b4 : brs m4 = brs m3 := hb4
          have eb4 : (m4.1 70 40).toNatClampNeg = (m3.1 70 40).toNatClampNeg := by
            have w1 := d_cl (show 0 ≤ (m4.1 70 40).toInt by show 0 ≤ brs m4; omega)
            have w5 := d_cl (show 0 ≤ (m3.1 70 40).toInt by omega)
            have w2 : (m4.1 70 40).toInt = brs m4 := rfl
            omega
          have e98 : m4.1 98 (m4.1 70 40).toNatClampNeg = m1.1 70 46 := by
            rw [hk4 98 (by omega) (by omega), dSet_k (by decide), h3'.1 98 (by decide), hk 98 (by omega) (by omega), eb4, eb3, dSet_s]
          have e99 : m4.1 99 (m4.1 70 40).toNatClampNeg = m3.1 70 46 := by
            rw [hk4 99 (by omega) (by omega), eb4, dSet_s]
          have cc3 : (m3.1 70 46).toInt = cds m2 := by rw [c3]; rfl
          have cd3 : cds (dSet m3 99 (m3.1 70 40).toNatClampNeg (m3.1 70 46)) = cds m2 := cc3
          have hz42 := hz4.2.1
          have hz43 := hz4.2.2.1
          have hz44 := hz4.2.2.2
          rw [cd3] at hz42 hz43 hz44
          unfold P98
          rw [e98, e99, cc3]
          refine ⟨⟨?_, by omega⟩, ⟨hz43, Int.le_refl _⟩⟩
          refine gPc_congr (g := m2.1) (c := cds m2) (fun j hj => ?_) (Int.le_refl _) hz.2.2.1
          have w := hz44 j hj
          have e3 : (dSet m3 99 (m3.1 70 40).toNatClampNeg (m3.1 70 46)).1 102 j = m2.1 102 j ∧ (dSet m3 99 (m3.1 70 40).toNatClampNeg (m3.1 70 46)).1 103 j = m2.1 103 j := by
            rw [dSet_k (by decide), dSet_k (by decide), h3'.1 102 (by decide), h3'.1 103 (by decide)]
            exact ⟨rfl, rfl⟩
          exact ⟨w.1.trans e3.1, w.2.trans e3.2⟩
        · have k41 := h1.2.2.2.1
          have t4 := g6.2.1
          have s4 := g6.2.2.2.1
          have a1 : tt m1 ≤ tt m2 := ht2
          have a2 : tt m3 ≤ tt m4 := ht4
          have a3 := h.2.1
          unfold mu
          by_cases q0 : flt m4 = 0
          · left
            rcases k43 with y | y <;> rcases hμ with q | q <;> rcases k41 with z | z <;> omega
          · right
            rcases hμ with q | q <;> omega
    · refine v_X12_tellLaw_70_110 ?_
      refine Wp.deep (p_must h.2.1 h.2.2.2.1 (fun m1 h1 => ?_)) (Nat.le_of_ble_eq_true rfl)
      have g1 : LSt mb s 7 99 m1 := h.mv h1 (by decide)
      have k41 := h1.2.2.2.1
      have b1 : m1.1 70 40 = m.1 70 40 := h1.2.1 40 (by decide) (by decide) (by decide) (by decide) (by decide)
      have c1 : cds m1 = cds m := by unfold cds; rw [h1.2.1 46 (by decide) (by decide) (by decide) (by decide) (by decide)]
      refine p_term hs hcb hbb (by omega) g1 (fun f1 _ => ?_) (fun m2 g2 a1 a2 => ?_)
      · have f0 : flt m = 0 := by rcases k41 with z | z <;> omega
        have hP := hP f0
        unfold P98 at hP
        rw [b1, h1.1 98 (by decide), h1.1 99 (by decide), c1]
        exact ⟨hP.1.up (fun j _ => by rw [h1.1 102 (by decide), h1.1 103 (by decide)]; exact ⟨rfl, rfl⟩) (by omega), hP.2.up (fun j _ => by rw [h1.1 102 (by decide), h1.1 103 (by decide)]; exact ⟨rfl, rfl⟩) (by omega)⟩
      · refine Wp.deep (p_must g2.2.1 g2.2.2.2.1 (fun m3 h3' => ?_)) (Nat.le_of_ble_eq_true rfl)
        have g3 : LSt mb s 5 100 m3 := g2.mv h3' (by decide)
        refine ih.1 x3 m3 (g3.weak (by decide) (by decide)) h3 ?_
        have k43 := h3'.2.2.2.1
        have a3 := h.2.1
        have a4 := g3.2.2.2.1
        unfold mu
        by_cases q0 : flt m3 = 0
        · left
          rcases k43 with y | y <;> rcases k41 with z | z <;> rcases hμ with q | q <;> omega
        · right
          rcases hμ with q | q <;> omega
end
section
/-! THE REFERENCE's read, 7: what holds while a text is told (by hand) -/
def rg (k : Nat) : Nat := match k with
  | 80 => 1
  | 82 => 1
  | 83 => 10
  | 84 => 10
  | 85 => 10
  | 86 => 1
  | 87 => 8
  | 88 => 8
  | 89 => 8
  | 90 => 8
  | 91 => 1
  | 92 => 1
  | 93 => 1
  | 94 => 1
  | 95 => 4
  | 96 => 4
  | 97 => 130
  | 98 => 130
  | 99 => 130
  | 100 => 130
  | 101 => 130
  | 102 => 420
  | 103 => 420
  | _ => 0
theorem rg_lo {k : Nat} (h : k < 80 ∨ 103 < k) : rg k = 0 := by
  unfold rg
  split <;> first | rfl | (exfalso; omega)
theorem sT_lt {k j : Nat} {b : Int × Int} (h0 : 71 ≤ k) (h : sT k j = some b) : k < 97 := by
  unfold sT at h
  split at h
  all_goals first
    | omega
    | cases h
def PF (m0 : dM) (L s : Nat) (m : dM) : Prop := (∀ k : Nat, k < 70 ∨ 105 ≤ k → m.1 k = m0.1 k) ∧ (∀ j : Nat, (j = 2 ∨ j = 18 ∨ j = 19 ∨ 51 ≤ j) → m.1 70 j = m0.1 70 j) ∧ (∀ k j : Nat, 71 ≤ k → rg k * L ≤ j → j < rg k * L + rg k → m.1 k j = m0.1 k j) ∧ (∀ (k j : Nat) (lo hi : Int), 71 ≤ k → sT k j = some (lo, hi) → lo ≤ (m.1 k j).toInt ∧ (m.1 k j).toInt ≤ hi)
section PFS
variable {m0 m m' : dM} {L s : Nat}
theorem PF.mv {k : Int} (h : PF m0 L s m) (hm : Mv k m m') : PF m0 L s m' := by
  obtain ⟨h1, h2, h3, h4⟩ := h
  obtain ⟨k1, k2, k3, k4, k5⟩ := hm
  refine ⟨fun k e => (k1 k (by omega)).trans (h1 k e), fun j e => (k2 j (by omega) (by omega) (by omega) (by omega) (by omega)).trans (h2 j e), fun k j e0 e1 e2 => by rw [k1 k (by omega)]; exact h3 k j e0 e1 e2, fun k j lo hi e0 e1 => by rw [k1 k (by omega)]; exact h4 k j lo hi e0 e1⟩
theorem PF.set {k j : Nat} {v : Int32} (h : PF m0 L s m) (hL : L + s = 1) (hk : 71 ≤ k) (hk2 : k ≤ 104) (hj : rg k = 0 ∨ (rg k * s ≤ j ∧ j < rg k * s + rg k)) (hb : ∀ lo hi, sT k j = some (lo, hi) → lo ≤ v.toInt ∧ v.toInt ≤ hi) : PF m0 L s (dSet m k j v) := by
  obtain ⟨h1, h2, h3, h4⟩ := h
  refine ⟨fun a e => by rw [dSet_k (by omega)]; exact h1 a e, fun a e => by rw [dSet_k (by omega)]; exact h2 a e, fun a b e0 e1 e2 => ?_, fun a b lo hi e0 e1 => ?_⟩
  · rw [dSet_e]
    by_cases hc : a = k ∧ b = j
    · exfalso
      obtain ⟨rfl, rfl⟩ := hc
      have hLs : (L = 0 ∧ s = 1) ∨ (L = 1 ∧ s = 0) := by omega
      rcases hLs with ⟨rfl, rfl⟩ | ⟨rfl, rfl⟩
      · simp only [Nat.mul_zero, Nat.mul_one] at hj e1 e2
        omega
      · simp only [Nat.mul_zero, Nat.mul_one] at hj e1 e2
        omega
    · rw [if_neg hc]
      exact h3 a b e0 e1 e2
  · rw [dSet_e]
    by_cases hc : a = k ∧ b = j
    · rw [if_pos hc]
      rw [hc.1, hc.2] at e1
      exact hb lo hi e1
    · rw [if_neg hc]
      exact h4 a b lo hi e0 e1
theorem PF.set70 {j : Nat} {v : Int32} (h : PF m0 L s m) (h1 : j ≠ 2) (h2 : j ≠ 18) (h3 : j ≠ 19) (h4 : j < 51) : PF m0 L s (dSet m 70 j v) := by
  obtain ⟨g1, g2, g3, g4⟩ := h
  exact ⟨fun a e => by rw [dSet_k (by omega)]; exact g1 a e, fun a e => by rw [dSet_j (by omega)]; exact g2 a e, fun a b e0 e1 e2 => by rw [dSet_k (by omega)]; exact g3 a b e0 e1 e2, fun a b lo hi e0 e1 => by rw [dSet_k (by omega)]; exact g4 a b lo hi e0 e1⟩
theorem PF.lf {mb : dM} (h : PF m0 L s mb) (hL : L + s = 1) (hb : 130 * (s : Int) ≤ brs mb) (hc : 420 * (s : Int) ≤ cds mb) (hl : LF mb s m) : PF m0 L s m := by
  obtain ⟨g1, g2, g3, g4⟩ := h
  obtain ⟨k1, k2, k3, k4, k5⟩ := hl
  have hLs : (L = 0 ∧ s = 1) ∨ (L = 1 ∧ s = 0) := by omega
  refine ⟨fun a e => (k1 a (by omega) (by omega)).trans (g1 a e), fun a e => (k2 a (by omega) (by omega) (by omega) (by omega) (by omega) (by omega) (by omega) (by omega) (by omega)).trans (g2 a e), fun a b e0 e1 e2 => ?_, fun a b lo hi e0 e1 => ?_⟩
  · by_cases q1 : a < 97
    · rw [k1 a (by omega) (Or.inl q1)]; exact g3 a b e0 e1 e2
    · by_cases q2 : a ≤ 101
      · have er : rg a = 130 := by
          have : a = 97 ∨ a = 98 ∨ a = 99 ∨ a = 100 ∨ a = 101 := by omega
          rcases this with rfl | rfl | rfl | rfl | rfl <;> rfl
        have e1' := e1
        have e2' := e2
        rw [er] at e1' e2'
        rw [k3 a b (by omega) q2 (by rcases hLs with ⟨rfl, rfl⟩ | ⟨rfl, rfl⟩ <;> omega)]
        exact g3 a b e0 e1 e2
      · by_cases q3 : a ≤ 103
        · have er : rg a = 420 := by
            have : a = 102 ∨ a = 103 := by omega
            rcases this with rfl | rfl <;> rfl
          have e1' := e1
          have e2' := e2
          rw [er] at e1' e2'
          have w := k4 b (by rcases hLs with ⟨rfl, rfl⟩ | ⟨rfl, rfl⟩ <;> omega)
          have w2 : m.1 a b = mb.1 a b := by
            have : a = 102 ∨ a = 103 := by omega
            rcases this with rfl | rfl
            · exact w.1
            · exact w.2
          rw [w2]
          exact g3 a b e0 e1 e2
        · exfalso
          rw [rg_lo (Or.inr (by omega))] at e1 e2
          omega
  · rw [k1 a (by omega) (Or.inl (sT_lt e0 e1))]
    exact g4 a b lo hi e0 e1
theorem PF.sd (h : PF m0 L s m) (h0 : (m0.1 70 19).toInt = s) : (m.1 70 19).toInt = s ∧ (m.1 70 19).toNatClampNeg = s := by
  have e : (m.1 70 19).toInt = s := by rw [h.2.1 19 (by omega)]; exact h0
  refine ⟨e, ?_⟩
  have := d_cl (x := m.1 70 19) (by omega)
  omega
end PFS
def EH (m : dM) (s : Nat) : Prop := (∀ w : Nat, (w : Int) < (m.1 82 s).toInt → (0 ≤ (m.1 83 (10 * s + w)).toInt ∧ (m.1 83 (10 * s + w)).toInt ≤ 6) ∧ (0 ≤ (m.1 84 (10 * s + w)).toInt ∧ (m.1 84 (10 * s + w)).toInt ≤ 6)) ∧ (∀ u : Nat, (u : Int) < (m.1 86 s).toInt → 0 ≤ (m.1 87 (8 * s + u)).toInt ∧ (m.1 87 (8 * s + u)).toInt ≤ 6)
def LW (m : dM) (s : Nat) (a b : Int) : Prop := a = b ∨ (130 * (s : Int) ≤ a ∧ a ≤ b ∧ b ≤ brs m ∧ ∀ j : Nat, a ≤ j → (j : Int) < b → BW m s j)
def LB (m : dM) (s : Nat) : Prop := ∀ k : Nat, k < 4 → LW m s (m.1 95 (4 * s + k)).toInt (m.1 96 (4 * s + k)).toInt
def PG (m : dM) (s : Nat) : Prop := nms m = (m.1 80 s).toInt + (m.1 86 s).toInt ∧ opn m = 0 ∧ (420 * (s : Int) ≤ cds m ∧ cds m ≤ 420 * s + tt m) ∧ (130 * (s : Int) ≤ brs m ∧ 4 * (brs m - 130 * s) ≤ tt m) ∧ LB m s ∧ (0 ≤ wst m ∧ (wst m = 0 → EH m s))
def PI (m0 : dM) (L s : Nat) (m : dM) : Prop := PF m0 L s m ∧ (0 ≤ tt m ∧ tt m ≤ 400) ∧ 0 ≤ flt m ∧ (flt m = 0 → PG m s)
theorem LB.up {m m' : dM} {s : Nat} (hk : ∀ k : Nat, 95 ≤ k → k ≤ 101 → ∀ j : Nat, (97 ≤ k → (j : Int) < brs m) → m'.1 k j = m.1 k j) (hc : ∀ j : Nat, (j : Int) < cds m → m'.1 102 j = m.1 102 j ∧ m'.1 103 j = m.1 103 j) (hb : brs m ≤ brs m') (hd : cds m ≤ cds m') (h : LB m s) : LB m' s := by
  intro k hk4
  rw [hk 95 (by omega) (by omega) _ (fun q => by omega), hk 96 (by omega) (by omega) _ (fun q => by omega)]
  rcases h k hk4 with q | ⟨q1, q2, q3, q4⟩
  · exact Or.inl q
  · exact Or.inr ⟨q1, q2, by omega, fun j e1 e2 => (q4 j e1 e2).up hc hd (fun a b1 b2 => hk a (by omega) b2 j (fun _ => by omega))⟩
/-- what PG reads is as it was, and it has gone on -/
theorem PG.cg {m m' : dM} {s : Nat} (h : PG m s) (hk : ∀ k : Nat, k = 80 ∨ k = 82 ∨ k = 83 ∨ k = 84 ∨ k = 86 ∨ k = 87 ∨ (95 ≤ k ∧ k ≤ 103) → m'.1 k = m.1 k) (hj : ∀ j : Nat, j = 12 ∨ j = 20 ∨ j = 40 ∨ j = 46 → m'.1 70 j = m.1 70 j) (ht : tt m ≤ tt m') (hw : Wz m m') : PG m' s := by
  obtain ⟨h1, h2, h3, h4, h5, h6⟩ := h
  have n1 : nms m' = nms m := by unfold nms; rw [hj 20 (by omega)]
  have o1 : opn m' = opn m := by unfold opn; rw [hj 12 (by omega)]
  have c1 : cds m' = cds m := by unfold cds; rw [hj 46 (by omega)]
  have b1 : brs m' = brs m := by unfold brs; rw [hj 40 (by omega)]
  refine ⟨by rw [n1, hk 80 (by omega), hk 86 (by omega)]; exact h1, by omega, by omega, by omega, LB.up (fun k e1 e2 j _ => by rw [hk k (by omega)]) (fun j _ => by rw [hk 102 (by omega), hk 103 (by omega)]; exact ⟨rfl, rfl⟩) (by omega) (by omega) h5, ⟨hw.2 h6.1, fun q => ?_⟩⟩
  have := h6.2 (hw.1 q)
  unfold EH
  rw [hk 82 (by omega), hk 83 (by omega), hk 84 (by omega), hk 86 (by omega), hk 87 (by omega)]
  exact this
theorem PG.mv {m m' : dM} {s : Nat} {k : Int} (h : PG m s) (hm : Mv k m m') (hk : 0 ≤ k) : PG m' s := h.cg (fun k e => hm.1 k (by omega)) (fun j e => hm.2.1 j (by omega) (by omega) (by omega) (by omega) (by omega)) (by rcases hm.2.2.2.1 with q | q <;> omega) hm.2.2.2.2
theorem p_roomFor {x1 x2 : Int32} {m : dM} {Q : dM → Prop} (ht : 0 ≤ tt m ∧ tt m ≤ 400) (hf : 0 ≤ flt m) (hQ : ∀ m', Mv 1 m m' → (flt m' = 0 → x1.toInt ≠ x2.toInt) → Q m') : c_X12_roomFor_70 3 x1 x2 m Q := by
  have nx : ∀ m1 : dM, Mv 0 m m1 → (flt m1 = 0 → x1.toInt ≠ x2.toInt) → j_X12_roomFor_70_10 3 m1 Q := by
    intro m1 h1 hd
    refine v_X12_roomFor_70_10 ⟨fun hc => ?_, fun hc => ?_⟩
    · have hc : flt m1 ≠ 0 := hc
      have := h1.fl
      refine v_X12_roomFor_70_21 (hQ m1 ⟨h1.1, h1.2.1, h1.2.2.1, ?_, h1.2.2.2.2⟩ hd)
      right
      rcases h1.2.2.2.1 with q | q <;> omega
    · have hc : flt m1 = 0 := hc
      refine p_goesOn h1.2.2.1 h1.fl (fun m2 h2 => v_X12_roomFor_70_21 (hQ m2 ?_ (fun _ => hd hc)))
      exact h1.tr h2 (by decide) (by decide)
  refine v_X12_roomFor_70 ⟨fun hne => nx m (Mv.rf ht hf) (fun _ => hne), fun he => ?_⟩
  exact Wp.deep (p_fail ht (by decide) (fun m1 h1 hf1 => nx m1 h1 (fun q => by exfalso; omega))) (Nat.le_of_ble_eq_true rfl)
theorem p_endsName {x1 x2 : Int32} {m : dM} {Q : dM → Prop} (ht : 0 ≤ tt m ∧ tt m ≤ 400) (hf : 0 ≤ flt m) (hx : 0 ≤ x1.toInt ∧ x1.toInt ≤ 400) (hn : flt m = 0 → 0 ≤ nms m ∧ nms m ≤ 14) (hQ1 : ∀ m', Mv 1 m m' → 0 < flt m' → Q m') (hQ2 : ∀ m', Mv 1 m m' → flt m' = 0 → flt m = 0 → Q (dSet (dSet (dSetL m' 78 (m'.1 70 20).toNatClampNeg (m'.2.1 76 x1.toNatClampNeg)) 79 (m'.1 70 20).toNatClampNeg x2) 70 20 ((m'.1 70 20) + (1 : Int32)))) : c_X12_endsName_70 4 x1 x2 m Q := by
  refine v_X12_endsName_70 ?_
  refine p_must ht hf (fun m1 h1 => ⟨fun hc => ?_, fun hc => hQ1 m1 h1 hc⟩)
  have hc : flt m1 ≤ 0 := hc
  have h0 : flt m1 = 0 := by have := h1.fl; omega
  have hm : flt m = 0 := by rcases h1.2.2.2.1 with q | q <;> omega
  have e : (m1.1 70 20).toInt = nms m := by rw [h1.2.1 20 (by decide) (by decide) (by decide) (by decide) (by decide)]; rfl
  have hn := hn hm
  exact ⟨by omega, ⟨by omega, ⟨by omega, hQ2 m1 h1 h0 hm⟩⟩⟩
theorem p_areWired {x1 x2 : Int32} {m : dM} {s : Nat} {Q : Int32 → dM → Prop} (hs : s ≤ 1) (hsd : (m.1 70 19).toInt = s ∧ (m.1 70 19).toNatClampNeg = s) (hw : 0 ≤ (m.1 82 s).toInt ∧ (m.1 82 s).toInt ≤ 10) (hQ : ∀ r, Q r m) : c_X12_areWired_70 1 x1 x2 m Q := by
  have fm := dMulE (X := 10) (Y := (s : Int)) (x := (10 : Int32)) (y := m.1 70 19) (by decide) hsd.1 (by omega) (by omega)
  have fa := dAddE (X := 10 * (s : Int)) (Y := (m.1 82 s).toInt) (x := (10 : Int32) * m.1 70 19) (y := m.1 82 s) fm rfl (by omega) (by omega)
  have H : ∀ (n : Nat) (x3 : Int32), 0 ≤ x3.toInt → x3.toInt ≤ 10 * s + (m.1 82 s).toInt → 20 - x3.toInt < n → j_X12_areWired_70_8 1 x1 x2 x3 m Q := by
    intro n
    induction n with
    | zero => intro x3 h1 h2 h3; exfalso; omega
    | succ n ih =>
      intro x3 h1 h2 h3
      refine v_X12_areWired_70_8 ⟨by omega, ?_⟩
      rw [hsd.2]
      have last : j_X12_areWired_70_69 1 m Q := v_X12_areWired_70_69 (hQ _)
      refine ⟨fun _ => hQ _, fun hc => ?_⟩
      have f3 := dAddE (X := x3.toInt) (Y := 1) (x := x3) (y := (1 : Int32)) rfl (by decide) (by omega) (by omega)
      have nx : j_X12_areWired_70_71 1 x1 x2 x3 m Q := v_X12_areWired_70_71 (ih _ (by omega) (by omega) (by omega))
      have md : j_X12_areWired_70_49 1 x1 x2 x3 m Q := v_X12_areWired_70_49 ⟨by omega, fun _ => nx, fun _ => ⟨by omega, fun _ => nx, fun _ => last⟩⟩
      exact ⟨by omega, fun _ => md, fun _ => ⟨by omega, fun _ => last, fun _ => md⟩⟩
  refine v_X12_areWired_70 (H 21 _ (by omega) (by omega) (by omega))
end
section
/-! THE REFERENCE's read, 8: one TELL (by hand) -/
section TEL
variable {m0 : dM} {L s : Nat}
theorem PF.b79 {m : dM} (h : PF m0 L s m) : ∀ j, -1 ≤ (m.1 79 j).toInt ∧ (m.1 79 j).toInt ≤ 6 := fun j => h.2.2.2 79 j (-1) 6 (by decide) rfl
theorem PF.b75 {m : dM} (h : PF m0 L s m) : ∀ j, 0 ≤ (m.1 75 j).toInt ∧ (m.1 75 j).toInt ≤ 9999 := fun j => h.2.2.2 75 j 0 9999 (by decide) rfl
theorem PF.b80 {m : dM} (h : PF m0 L s m) : 0 ≤ (m.1 80 s).toInt ∧ (m.1 80 s).toInt ≤ 7 := h.2.2.2 80 s 0 7 (by decide) rfl
theorem PF.b82 {m : dM} (h : PF m0 L s m) : 0 ≤ (m.1 82 s).toInt ∧ (m.1 82 s).toInt ≤ 10 := h.2.2.2 82 s 0 10 (by decide) rfl
theorem PF.b86 {m : dM} (h : PF m0 L s m) : 0 ≤ (m.1 86 s).toInt ∧ (m.1 86 s).toInt ≤ 8 := h.2.2.2 86 s 0 8 (by decide) rfl
/-- a state in which a fault stands is well -/
theorem PI.bad {m : dM} (h : PF m0 L s m) (ht : 0 ≤ tt m ∧ tt m ≤ 400) (hf : 0 < flt m) : PI m0 L s m := ⟨h, ht, by omega, fun q => by exfalso; omega⟩
/-- a flat -/
theorem t_flat {m : dM} {Q : dM → Prop} (hL : L + s = 1) (hsd : (m0.1 70 19).toInt = s) (hF : PF m0 L s m) (ht : 0 ≤ tt m ∧ tt m ≤ 400) (h0 : flt m = 0) (hG : PG m s) (hQ : ∀ m', PI m0 L s m' → tt m + 1 ≤ tt m' ∨ 0 < flt m' → Q m') (fin : ∀ m', Q m' → j_X12_tellOne_70_371 8 m' Q) :
    c_X12_roomFor_70 7 (m.1 80 (m.1 70 19).toNatClampNeg) (7 : Int32) m (fun m1 => (((m1.1 70 13).toInt ≤ 0 → c_X12_named_70 7 m1 (fun r2 m2 => ((0 ≤ (m2.1 70 19).toInt ∧ (m2.1 70 19).toInt < 2) ∧ c_X12_bounded_70 7 (0 : Int32) (9 : Int32) m2 (fun r3 m3 => ((0 ≤ (((7 : Int32) * (m2.1 70 19)) + (m2.1 80 (m2.1 70 19).toNatClampNeg)).toInt ∧ (((7 : Int32) * (m2.1 70 19)) + (m2.1 80 (m2.1 70 19).toNatClampNeg)).toInt < 14) ∧ ((0 ≤ (m3.1 70 19).toInt ∧ (m3.1 70 19).toInt < 2) ∧ c_X12_endsName_70 7 r2 (m3.1 80 (m3.1 70 19).toNatClampNeg) (dSet m3 81 (((7 : Int32) * (m2.1 70 19)) + (m2.1 80 (m2.1 70 19).toNatClampNeg)).toNatClampNeg r3) (fun m4 => (((m4.1 70 13).toInt ≠ 0 → j_X12_tellOne_70_371 (7 + 1) m4 Q) ∧ ((m4.1 70 13).toInt = 0 → ((0 ≤ (m4.1 70 19).toInt ∧ (m4.1 70 19).toInt < 2) ∧ ((0 ≤ (m4.1 70 19).toInt ∧ (m4.1 70 19).toInt < 2) ∧ j_X12_tellOne_70_371 (7 + 1) (dSet m4 80 (m4.1 70 19).toNatClampNeg ((m4.1 80 (m4.1 70 19).toNatClampNeg) + (1 : Int32))) Q)))))))))) ) ∧ (0 < (m1.1 70 13).toInt → Q m1))) := by
  have hs : s ≤ 1 := by omega
  have e7 := ti_7
  have sd := hF.sd hsd
  rw [sd.2]
  refine Wp.deep (p_roomFor ht (by omega) (fun m1 h1 hne => ⟨fun hc => ?_, fun hc => ?_⟩)) (Nat.le_of_ble_eq_true rfl)
  · have hc : flt m1 ≤ 0 := hc
    have f1 : flt m1 = 0 := by have := h1.fl; omega
    have t1 : tt m1 = tt m + 1 := by rcases h1.2.2.2.1 with q | q <;> omega
    have F1 := hF.mv h1
    have G1 := hG.mv h1 (by decide)
    have b80 := F1.b80
    have b86 := F1.b86
    have hne := hne f1
    have e80 : m1.1 80 s = m.1 80 s := by rw [h1.1 80 (by decide)]
    rw [← e80] at hne
    have n1 := G1.1
    refine Wp.deep (p_named h1.2.2.1 h1.fl (by omega) (fun r2 m2 h2 hr2 => ?_)) (Nat.le_of_ble_eq_true rfl)
    have F2 := F1.mv h2
    have sd2 := F2.sd hsd
    have b80_2 : m2.1 80 s = m1.1 80 s := by rw [h2.1 80 (by decide)]
    refine ⟨by omega, ?_⟩
    refine Wp.deep (p_bounded h2.2.2.1 h2.fl F2.b75 (by decide) (fun r3 m3 h3 hr3 => ?_)) (Nat.le_of_ble_eq_true rfl)
    have F3 := F2.mv h3
    have sd3 := F3.sd hsd
    have h23 := h2.tr h3 (by decide) (by decide)
    rw [sd2.2, sd3.2]
    have fm := dMulE (X := 7) (Y := (s : Int)) (x := (7 : Int32)) (y := m2.1 70 19) (by decide) sd2.1 (by omega) (by omega)
    have fa := dAddE (X := 7 * (s : Int)) (Y := (m2.1 80 s).toInt) (x := (7 : Int32) * m2.1 70 19) (y := m2.1 80 s) fm rfl (by rw [b80_2]; omega) (by rw [b80_2]; omega)
    rw [b80_2] at fa
    refine ⟨by rw [b80_2]; omega, ⟨by omega, ?_⟩⟩
    have e80_3 : m3.1 80 s = m1.1 80 s := by rw [h23.1 80 (by decide)]
    have F3' : PF m0 L s (dSet m3 81 (((7 : Int32) * (m2.1 70 19)) + (m2.1 80 s)).toNatClampNeg r3) := F3.set hL (by decide) (by decide) (Or.inl rfl) (fun lo hi q => by cases q)
    generalize hM3 : dSet m3 81 (((7 : Int32) * (m2.1 70 19)) + (m2.1 80 s)).toNatClampNeg r3 = M3 at F3' ⊢
    have k3 : ∀ k : Nat, k ≠ 81 → M3.1 k = m3.1 k := fun k hk => by rw [← hM3, dSet_k hk]
    have tM : tt M3 = tt m3 := by unfold tt; rw [k3 70 (by decide)]
    have fM : flt M3 = flt m3 := by unfold flt; rw [k3 70 (by decide)]
    have nM : nms M3 = nms m3 := by unfold nms; rw [k3 70 (by decide)]
    have n3 : nms m3 = nms m1 := by unfold nms; rw [h23.2.1 20 (by decide) (by decide) (by decide) (by decide) (by decide)]
    have hk4 := h23.2.2.2.1
    refine Wp.deep (p_endsName (by rw [tM]; exact h3.2.2.1) (by rw [fM]; exact h3.fl) hr2 (fun _ => by omega) (fun m4 h4 hf4 => ?_) (fun m4 h4 hf4 hfM => ?_)) (Nat.le_of_ble_eq_true rfl)
    · have F4 := F3'.mv h4
      refine ⟨fun _ => fin m4 (hQ m4 (PI.bad F4 h4.2.2.1 hf4) (Or.inr hf4)), fun q => ?_⟩
      have q : flt m4 = 0 := q
      exfalso; omega
    · have F4 := F3'.mv h4
      have G3 : PG M3 s := by
        refine (G1.mv h23 (by decide)).cg (fun k e => k3 k (by omega)) (fun j e => by rw [k3 70 (by decide)]) (by omega) (Wz.eq (by unfold wst; rw [k3 70 (by decide)]))
      have G4 := G3.mv h4 (by decide)
      have n4 : nms m4 = nms M3 := by unfold nms; rw [h4.2.1 20 (by decide) (by decide) (by decide) (by decide) (by decide)]
      have e20 : (m4.1 70 20).toInt = nms m4 := rfl
      have fn := dAddE (X := nms m4) (Y := 1) (x := m4.1 70 20) (y := (1 : Int32)) rfl (by decide) (by omega) (by omega)
      have e80_4 : m4.1 80 s = m1.1 80 s := by rw [h4.1 80 (by decide), k3 80 (by decide), e80_3]
      have f80 := dAddE (X := (m1.1 80 s).toInt) (Y := 1) (x := m4.1 80 s) (y := (1 : Int32)) (by rw [e80_4]) (by decide) (by omega) (by omega)
      have F5 : PF m0 L s (dSet (dSet (dSetL m4 78 (m4.1 70 20).toNatClampNeg (m4.2.1 76 r2.toNatClampNeg)) 79 (m4.1 70 20).toNatClampNeg (m3.1 80 s)) 70 20 ((m4.1 70 20) + (1 : Int32))) := by
        refine PF.set70 (PF.set (show PF m0 L s (dSetL m4 78 (m4.1 70 20).toNatClampNeg (m4.2.1 76 r2.toNatClampNeg)) from F4) hL (by decide) (by decide) (Or.inl rfl) (fun lo hi q => ?_)) (by decide) (by decide) (by decide) (by decide)
        cases q
        rw [e80_3]
        omega
      have sd5 := F5.sd hsd
      refine ⟨fun q => absurd hf4 q, fun _ => ⟨by omega, ⟨by omega, fin _ (hQ _ ?_ ?_)⟩⟩⟩
      · rw [sd5.2]
        refine ⟨F5.set hL (by decide) (by decide) (Or.inr (by show 1 * s ≤ s ∧ s < 1 * s + 1; omega)) (fun lo hi q => ?_), h4.2.2.1, by show 0 ≤ flt m4; omega, fun _ => ?_⟩
        · cases q
          show 0 ≤ (m4.1 80 s + (1 : Int32)).toInt ∧ (m4.1 80 s + (1 : Int32)).toInt ≤ 7
          omega
        · have hq : PG m4 s := G4
          obtain ⟨g1, g2, g3, g4, g5, g6⟩ := hq
          refine ⟨?_, g2, g3, g4, ?_, ⟨g6.1, fun w => ?_⟩⟩
          · show (m4.1 70 20 + (1 : Int32)).toInt = _ + (m4.1 86 s).toInt
            rw [dSet_s]
            show (m4.1 70 20 + (1 : Int32)).toInt = (m4.1 80 s + (1 : Int32)).toInt + (m4.1 86 s).toInt
            have e86 : (m4.1 80 s).toInt = (m1.1 80 s).toInt := by rw [e80_4]
            omega
          · exact LB.up (m := m4) (fun k e1 e2 j _ => by rw [dSet_k (by omega), dSet_k (by omega), dSet_k (by omega)]; rfl) (fun j _ => ⟨rfl, rfl⟩) (Int.le_refl _) (Int.le_refl _) g5
          · exact g6.2 w
      · left
        show tt m + 1 ≤ tt m4
        have hk44 := h4.2.2.2.1
        rcases hk44 with q | q <;> rcases hk4 with z | z <;> omega
  · exact hQ m1 (PI.bad (hF.mv h1) h1.2.2.1 hc) (Or.inr hc)
end TEL
end
section
/-! THE REFERENCE's read, 9: a wire, a use told (by hand) -/
section TEW
variable {m0 : dM} {L s : Nat}
theorem t_wire {m : dM} {Q : dM → Prop} (hL : L + s = 1) (hsd : (m0.1 70 19).toInt = s) (hF : PF m0 L s m) (ht : 0 ≤ tt m ∧ tt m ≤ 400) (h0 : flt m = 0) (hG : PG m s) (hw9 : (m.1 82 s).toInt ≤ 9) (hQ : ∀ m', PI m0 L s m' → tt m ≤ tt m' → Q m') : c_X12_tellWire_70 6 m Q := by
  have hs : s ≤ 1 := by omega
  have sd := hF.sd hsd
  have b82 := hF.b82
  have b80 := hF.b80
  have b86 := hF.b86
  have nm := hG.1
  have fm := dMulE (X := 10) (Y := (s : Int)) (x := (10 : Int32)) (y := m.1 70 19) (by decide) sd.1 (by omega) (by omega)
  have fx := dAddE (X := 10 * (s : Int)) (Y := (m.1 82 s).toInt) (x := (10 : Int32) * m.1 70 19) (y := m.1 82 s) fm rfl (by omega) (by omega)
  refine v_X12_tellWire_70 ⟨by omega, ?_⟩
  rw [sd.2]
  generalize hX : (10 : Int32) * m.1 70 19 + m.1 82 s = X at fx ⊢
  have eX : X.toNatClampNeg = 10 * s + (m.1 82 s).toInt.toNat := by
    have := d_cl (x := X) (by omega)
    omega
  have w72 : ∀ (mm : dM) (r1 r2 : Int32), Mv 2 m mm → (-1 ≤ r1.toInt ∧ r1.toInt ≤ 6) → (-1 ≤ r2.toInt ∧ r2.toInt ≤ 6) → (flt mm = 0 → wst mm = 0 → 0 ≤ r1.toInt ∧ 0 ≤ r2.toInt) → j_X12_tellWire_70_72 6 X r1 r2 mm Q := by
    intro mm r1 r2 hm hr1 hr2 hz
    have Fm := hF.mv hm
    have Gm := hG.mv hm (by decide)
    refine v_X12_tellWire_70_72 ⟨by omega, ⟨by omega, ?_⟩⟩
    rw [eX]
    have F1 : PF m0 L s (dSet (dSet mm 83 (10 * s + (m.1 82 s).toInt.toNat) r1) 84 (10 * s + (m.1 82 s).toInt.toNat) r2) := by
      refine PF.set (PF.set Fm hL (by decide) (by decide) (Or.inr ?_) (fun lo hi q => by cases q)) hL (by decide) (by decide) (Or.inr ?_) (fun lo hi q => by cases q)
      · show 10 * s ≤ _ ∧ _ < 10 * s + 10; omega
      · show 10 * s ≤ _ ∧ _ < 10 * s + 10; omega
    generalize hM : dSet (dSet mm 83 (10 * s + (m.1 82 s).toInt.toNat) r1) 84 (10 * s + (m.1 82 s).toInt.toNat) r2 = M at F1 ⊢
    have kM : ∀ k : Nat, k ≠ 83 → k ≠ 84 → M.1 k = mm.1 k := fun k h1 h2 => by rw [← hM, dSet_k h2, dSet_k h1]
    have tM : tt M = tt mm := by unfold tt; rw [kM 70 (by decide) (by decide)]
    have fM : flt M = flt mm := by unfold flt; rw [kM 70 (by decide) (by decide)]
    have uM : wst M = wst mm := by unfold wst; rw [kM 70 (by decide) (by decide)]
    have m83 : ∀ j, M.1 83 j = if j = 10 * s + (m.1 82 s).toInt.toNat then r1 else mm.1 83 j := fun j => by
      rw [← hM, dSet_k (by decide), dSet_e]
      by_cases q : j = 10 * s + (m.1 82 s).toInt.toNat
      · rw [if_pos ⟨rfl, q⟩, if_pos q]
      · rw [if_neg (fun z => q z.2), if_neg q]
    have m84 : ∀ j, M.1 84 j = if j = 10 * s + (m.1 82 s).toInt.toNat then r2 else mm.1 84 j := fun j => by
      rw [← hM, dSet_e]
      by_cases q : j = 10 * s + (m.1 82 s).toInt.toNat
      · rw [if_pos ⟨rfl, q⟩, if_pos q]
      · rw [if_neg (fun z => q z.2), if_neg q, dSet_k (by decide)]
    refine Wp.deep (p_bounded (by rw [tM]; exact hm.2.2.1) (by rw [fM]; exact hm.fl) F1.b75 (by decide) (fun r m1 h1 hr => ⟨by omega, ?_⟩)) (Nat.le_of_ble_eq_true rfl)
    have F2 : PF m0 L s (dSet m1 85 (10 * s + (m.1 82 s).toInt.toNat) r) := PF.set (F1.mv h1) hL (by decide) (by decide) (Or.inr (by show 10 * s ≤ _ ∧ _ < 10 * s + 10; omega)) (fun lo hi q => by cases q)
    have t2 : tt (dSet m1 85 (10 * s + (m.1 82 s).toInt.toNat) r) = tt m1 := rfl
    have f2 : flt (dSet m1 85 (10 * s + (m.1 82 s).toInt.toNat) r) = flt m1 := rfl
    have u2 : wst (dSet m1 85 (10 * s + (m.1 82 s).toInt.toNat) r) = wst m1 := rfl
    refine Wp.deep (p_must (m := dSet m1 85 (10 * s + (m.1 82 s).toInt.toNat) r) h1.2.2.1 h1.fl (fun m2 h2 => ?_)) (Nat.le_of_ble_eq_true rfl)
    have F3 := F2.mv h2
    have q1 := h1.2.2.2.1
    have q2 := h2.2.2.2.1
    have q0 := hm.2.2.2.1
    have tle : tt m ≤ tt m2 := by rcases q0 with a | a <;> rcases q1 with b | b <;> rcases q2 with c | c <;> omega
    refine ⟨fun hf => ?_, fun hf => ?_⟩
    · have hf : flt m2 ≠ 0 := hf
      refine v_X12_tellWire_70_125 (hQ m2 (PI.bad F3 h2.2.2.1 ?_) tle)
      have := h2.fl
      omega
    · have hf : flt m2 = 0 := hf
      have sd3 := F3.sd hsd
      have fmm : flt mm = 0 := by rcases q1 with b | b <;> rcases q2 with c | c <;> omega
      have kk : ∀ k : Nat, k ≠ 70 → k ≠ 83 → k ≠ 84 → k ≠ 85 → m2.1 k = mm.1 k := fun k e1 e2 e3 e4 => by rw [h2.1 k e1, dSet_k e4, h1.1 k e1, kM k e2 e3]
      have k83 : m2.1 83 = M.1 83 := by rw [h2.1 83 (by decide), dSet_k (by decide), h1.1 83 (by decide)]
      have k84 : m2.1 84 = M.1 84 := by rw [h2.1 84 (by decide), dSet_k (by decide), h1.1 84 (by decide)]
      have jj : ∀ j : Nat, j = 12 ∨ j = 20 ∨ j = 40 ∨ j = 46 → m2.1 70 j = mm.1 70 j := fun j e => by rw [h2.2.1 j (by omega) (by omega) (by omega) (by omega) (by omega), dSet_k (by decide), h1.2.1 j (by omega) (by omega) (by omega) (by omega) (by omega), kM 70 (by decide) (by decide)]
      have e82 : m2.1 82 s = m.1 82 s := by rw [kk 82 (by decide) (by decide) (by decide) (by decide), hm.1 82 (by decide)]
      have f82 := dAddE (X := (m.1 82 s).toInt) (Y := 1) (x := m2.1 82 s) (y := (1 : Int32)) (by rw [e82]) (by decide) (by omega) (by omega)
      refine ⟨by omega, ⟨by omega, v_X12_tellWire_70_125 (hQ _ ?_ ?_)⟩⟩
      · rw [sd3.2]
        refine ⟨F3.set hL (by decide) (by decide) (Or.inr (by show 1 * s ≤ s ∧ s < 1 * s + 1; omega)) (fun lo hi q => ?_), h2.2.2.1, by show 0 ≤ flt m2; omega, fun _ => ?_⟩
        · cases q
          omega
        · obtain ⟨g1, g2, g3, g4, g5, g6⟩ := Gm
          have n2 : nms m2 = nms mm := by unfold nms; rw [jj 20 (by omega)]
          have o2 : opn m2 = opn mm := by unfold opn; rw [jj 12 (by omega)]
          have c2 : cds m2 = cds mm := by unfold cds; rw [jj 46 (by omega)]
          have b2 : brs m2 = brs mm := by unfold brs; rw [jj 40 (by omega)]
          have tmm : tt mm ≤ tt m2 := by rcases q1 with b | b <;> rcases q2 with c | c <;> omega
          have W : Wz mm m2 := (Wz.eq uM).tr (h1.2.2.2.2.tr ((Wz.eq u2).tr h2.2.2.2.2))
          refine ⟨?_, by show opn m2 = 0; omega, by show 420 * (s : Int) ≤ cds m2 ∧ cds m2 ≤ 420 * s + tt m2; omega, by show 130 * (s : Int) ≤ brs m2 ∧ 4 * (brs m2 - 130 * s) ≤ tt m2; omega, ?_, ⟨(show 0 ≤ wst m2 from W.2 g6.1), fun w => ?_⟩⟩
          · show nms m2 = (m2.1 80 s).toInt + (m2.1 86 s).toInt
            rw [kk 80 (by decide) (by decide) (by decide) (by decide), kk 86 (by decide) (by decide) (by decide) (by decide)]
            omega
          · exact LB.up (m := mm) (fun k e1 e2 j _ => by rw [dSet_k (by omega), kk k (by omega) (by omega) (by omega) (by omega)]) (fun j _ => by rw [dSet_k (by decide), dSet_k (by decide), kk 102 (by decide) (by decide) (by decide) (by decide), kk 103 (by decide) (by decide) (by decide) (by decide)]; exact ⟨rfl, rfl⟩) (by show brs mm ≤ brs m2; omega) (by show cds mm ≤ cds m2; omega) g5
          · have wm : wst mm = 0 := W.1 w
            have hz := hz fmm wm
            have g6 := g6.2 wm
            refine ⟨fun a ha => ?_, fun a ha => ?_⟩
            · rw [dSet_s] at ha
              rw [dSet_k (by decide), dSet_k (by decide), k83, k84, m83, m84]
              by_cases q : 10 * s + a = 10 * s + (m.1 82 s).toInt.toNat
              · rw [if_pos q, if_pos q]
                omega
              · rw [if_neg q, if_neg q]
                refine g6.1 a ?_
                rw [hm.1 82 (by decide)]
                omega
            · have ha : (a : Int) < (m2.1 86 s).toInt := ha
              rw [kk 86 (by decide) (by decide) (by decide) (by decide)] at ha
              have := g6.2 a ha
              rw [dSet_k (by decide), kk 87 (by decide) (by decide) (by decide) (by decide)]
              exact this
      · exact tle
  refine Wp.deep (p_knownFlat ht (by omega) (by omega) hF.b79 (fun r1 m1 h1 hr1 hz1 => ?_)) (Nat.le_of_ble_eq_true rfl)
  have F1 := hF.mv h1
  have n1 : nms m1 = nms m := by unfold nms; rw [h1.2.1 20 (by decide) (by decide) (by decide) (by decide) (by decide)]
  refine Wp.deep (p_knownFlat h1.2.2.1 h1.fl (by omega) F1.b79 (fun r2 m2 h2 hr2 hz2 => ?_)) (Nat.le_of_ble_eq_true rfl)
  have F2 := F1.mv h2
  have h12 := h1.tr h2 (by decide) (by decide)
  have hz : flt m2 = 0 → wst m2 = 0 → 0 ≤ r1.toInt ∧ 0 ≤ r2.toInt := fun a b => ⟨hz1 (by rcases h2.2.2.2.1 with q | q <;> omega) (h2.2.2.2.2.1 b), hz2 a b⟩
  have go := w72 m2 r1 r2 h12 hr1 hr2 hz
  have h66 : j_X12_tellWire_70_66 6 X r1 (m1.1 70 11) r2 m2 Q := by
    refine v_X12_tellWire_70_66 ?_
    refine Wp.deep (p_wrong h2.2.2.1 h2.fl (by decide) h1.2.2.1 (fun m3 h3 _ => ?_)) (Nat.le_of_ble_eq_true rfl)
    exact w72 m3 r1 r2 (h12.tr h3 (by decide) (by decide)) hr1 hr2 (fun a b => hz (by rcases h3.2.2.2.1 with q | q <;> omega) (h3.2.2.2.2.1 b))
  refine ⟨fun _ => go, fun _ => ⟨fun _ => go, fun _ => ⟨fun _ => go, fun _ => ⟨fun _ => h66, fun _ => ?_⟩⟩⟩⟩
  exact Wp.deep (p_areWired hs (F2.sd hsd) F2.b82 (fun r3 => ⟨fun _ => go, fun _ => h66⟩)) (Nat.le_of_ble_eq_true rfl)
theorem t_use {m : dM} {Q : dM → Prop} (hL : L + s = 1) (hsd : (m0.1 70 19).toInt = s) (hF : PF m0 L s m) (ht : 0 ≤ tt m ∧ tt m ≤ 400) (h0 : flt m = 0) (hG : PG m s) (hw9 : (m.1 86 s).toInt ≤ 7) (hQ : ∀ m', PI m0 L s m' → tt m ≤ tt m' → Q m') : c_X12_tellUse_70 6 m Q := by
  have hs : s ≤ 1 := by omega
  have sd := hF.sd hsd
  have b82 := hF.b82
  have b80 := hF.b80
  have b86 := hF.b86
  have nm := hG.1
  have fm := dMulE (X := 8) (Y := (s : Int)) (x := (8 : Int32)) (y := m.1 70 19) (by decide) sd.1 (by omega) (by omega)
  have fx := dAddE (X := 8 * (s : Int)) (Y := (m.1 86 s).toInt) (x := (8 : Int32) * m.1 70 19) (y := m.1 86 s) fm rfl (by omega) (by omega)
  refine v_X12_tellUse_70 ⟨by omega, ?_⟩
  rw [sd.2]
  generalize hX : (8 : Int32) * m.1 70 19 + m.1 86 s = X at fx ⊢
  have eX : X.toNatClampNeg = 8 * s + (m.1 86 s).toInt.toNat := by
    have := d_cl (x := X) (by omega)
    omega
  refine Wp.deep (p_named ht (by omega) (by omega) (fun r1 m1 h1 hr1 => ?_)) (Nat.le_of_ble_eq_true rfl)
  have F1 := hF.mv h1
  have n1 : nms m1 = nms m := by unfold nms; rw [h1.2.1 20 (by decide) (by decide) (by decide) (by decide) (by decide)]
  refine Wp.deep (p_knownFlat h1.2.2.1 h1.fl (by omega) F1.b79 (fun r2 m2 h2 hr2 hz2 => ?_)) (Nat.le_of_ble_eq_true rfl)
  have F2 := F1.mv h2
  have h12 := h1.tr h2 (by decide) (by decide)
  have G2 := hG.mv h12 (by decide)
  rw [eX]
  have inr : 8 * s ≤ 8 * s + (m.1 86 s).toInt.toNat ∧ 8 * s + (m.1 86 s).toInt.toNat < 8 * s + 8 := by omega
  refine ⟨by omega, ?_⟩
  have F2' : PF m0 L s (dSet m2 87 (8 * s + (m.1 86 s).toInt.toNat) r2) := F2.set hL (by decide) (by decide) (Or.inr inr) (fun lo hi q => by cases q)
  refine Wp.deep (p_bounded (m := dSet m2 87 (8 * s + (m.1 86 s).toInt.toNat) r2) h2.2.2.1 h2.fl F2'.b75 (by decide) (fun r3 m3 h3 hr3 => ⟨by omega, ?_⟩)) (Nat.le_of_ble_eq_true rfl)
  have F3 : PF m0 L s (dSet m3 88 (8 * s + (m.1 86 s).toInt.toNat) r3) := (F2'.mv h3).set hL (by decide) (by decide) (Or.inr inr) (fun lo hi q => by cases q)
  refine Wp.deep (p_bounded (m := dSet m3 88 (8 * s + (m.1 86 s).toInt.toNat) r3) h3.2.2.1 h3.fl F3.b75 (by decide) (fun r4 m4 h4 hr4 => ⟨by omega, ⟨by omega, ?_⟩⟩)) (Nat.le_of_ble_eq_true rfl)
  have F4 : PF m0 L s (dSet m4 89 (8 * s + (m.1 86 s).toInt.toNat) r4) := (F3.mv h4).set hL (by decide) (by decide) (Or.inr inr) (fun lo hi q => by cases q; exact hr4)
  have q3 := h3.2.2.2.1
  have q4 := h4.2.2.2.1
  have k3 : (flt m2 = 0 ∧ flt m3 = 0 ∧ tt m3 = tt m2 + 1) ∨ (0 < flt m3 ∧ tt m2 ≤ tt m3 ∧ tt m3 ≤ tt m2 + 1) := q3
  have k4 : (flt m3 = 0 ∧ flt m4 = 0 ∧ tt m4 = tt m3 + 1) ∨ (0 < flt m4 ∧ tt m3 ≤ tt m4 ∧ tt m4 ≤ tt m3 + 1) := q4
  have kk4 : ∀ k : Nat, k ≠ 70 → k ≠ 87 → k ≠ 88 → m4.1 k = m2.1 k := fun k e1 e2 e3 => by rw [h4.1 k e1, dSet_k e3, h3.1 k e1, dSet_k e2]
  have k87 : m4.1 87 = (dSet m2 87 (8 * s + (m.1 86 s).toInt.toNat) r2).1 87 := by rw [h4.1 87 (by decide), dSet_k (by decide), h3.1 87 (by decide)]
  have jj4 : ∀ j : Nat, j = 12 ∨ j = 20 ∨ j = 40 ∨ j = 46 → m4.1 70 j = m2.1 70 j := fun j e => by rw [h4.2.1 j (by omega) (by omega) (by omega) (by omega) (by omega), dSet_k (by decide), h3.2.1 j (by omega) (by omega) (by omega) (by omega) (by omega), dSet_k (by decide)]
  have w4 : Wz m2 m4 := (show Wz m2 m3 from h3.2.2.2.2).tr (show Wz m3 m4 from h4.2.2.2.2)
  have tail : ∀ x : Int32, 0 ≤ x.toInt ∧ x.toInt ≤ 9999 → c_X12_bounded_70 5 x (23 : Int32) (dSet m4 89 (8 * s + (m.1 86 s).toInt.toNat) r4) (fun r5 m5 => ((0 ≤ X.toInt ∧ X.toInt < 16) ∧ c_X12_endsName_70 5 r1 (-1 : Int32) (dSet m5 90 (8 * s + (m.1 86 s).toInt.toNat) r5) (fun m6 => (((m6.1 70 13).toInt ≠ 0 → j_X12_tellUse_70_118 (5 + 1) m6 Q) ∧ ((m6.1 70 13).toInt = 0 → ((0 ≤ (m6.1 70 19).toInt ∧ (m6.1 70 19).toInt < 2) ∧ ((0 ≤ (m6.1 70 19).toInt ∧ (m6.1 70 19).toInt < 2) ∧ j_X12_tellUse_70_118 (5 + 1) (dSet m6 86 (m6.1 70 19).toNatClampNeg ((m6.1 86 (m6.1 70 19).toNatClampNeg) + (1 : Int32))) Q))))))) := by
    intro x hx
    refine Wp.deep (p_bounded (m := dSet m4 89 (8 * s + (m.1 86 s).toInt.toNat) r4) h4.2.2.1 h4.fl F4.b75 hx (fun r5 m5 h5 hr5 => ⟨by omega, ?_⟩)) (Nat.le_of_ble_eq_true rfl)
    have F5 : PF m0 L s (dSet m5 90 (8 * s + (m.1 86 s).toInt.toNat) r5) := (F4.mv h5).set hL (by decide) (by decide) (Or.inr inr) (fun lo hi q => by cases q; exact hr5)
    have k5 : (flt m4 = 0 ∧ flt m5 = 0 ∧ tt m5 = tt m4 + 1) ∨ (0 < flt m5 ∧ tt m4 ≤ tt m5 ∧ tt m5 ≤ tt m4 + 1) := h5.2.2.2.1
    have kk5 : ∀ k : Nat, k ≠ 70 → k ≠ 87 → k ≠ 88 → k ≠ 89 → m5.1 k = m2.1 k := fun k e1 e2 e3 e4 => by rw [h5.1 k e1, dSet_k e4, kk4 k e1 e2 e3]
    have jj5 : ∀ j : Nat, j = 12 ∨ j = 20 ∨ j = 40 ∨ j = 46 → m5.1 70 j = m2.1 70 j := fun j e => by rw [h5.2.1 j (by omega) (by omega) (by omega) (by omega) (by omega), dSet_k (by decide), jj4 j e]
    have n5 : nms (dSet m5 90 (8 * s + (m.1 86 s).toInt.toNat) r5) = nms m := by
      show (m5.1 70 20).toInt = _
      rw [jj5 20 (by omega), h12.2.1 20 (by decide) (by decide) (by decide) (by decide) (by decide)]
      rfl
    have q12 := h12.2.2.2.1
    refine Wp.deep (p_endsName (m := dSet m5 90 (8 * s + (m.1 86 s).toInt.toNat) r5) h5.2.2.1 h5.fl hr1 (fun _ => by omega) (fun m6 h6 hf6 => ?_) (fun m6 h6 hf6 hfM => ?_)) (Nat.le_of_ble_eq_true rfl)
    · have F6 := F5.mv h6
      have k6 : (flt m5 = 0 ∧ flt m6 = 0 ∧ tt m6 = tt m5 + 1) ∨ (0 < flt m6 ∧ tt m5 ≤ tt m6 ∧ tt m6 ≤ tt m5 + 1) := h6.2.2.2.1
      refine ⟨fun _ => v_X12_tellUse_70_118 (hQ m6 (PI.bad F6 h6.2.2.1 hf6) ?_), fun q => ?_⟩
      · rcases q12 with a | a <;> rcases k3 with b | b <;> rcases k4 with c | c <;> rcases k5 with d | d <;> rcases k6 with e | e <;> omega
      · have q : flt m6 = 0 := q
        exfalso; omega
    · have F6 := F5.mv h6
      have k6 : (flt m5 = 0 ∧ flt m6 = 0 ∧ tt m6 = tt m5 + 1) ∨ (0 < flt m6 ∧ tt m5 ≤ tt m6 ∧ tt m6 ≤ tt m5 + 1) := h6.2.2.2.1
      have f5 : flt m5 = 0 := by rcases k6 with e | e <;> omega
      have f4 : flt m4 = 0 := by rcases k5 with e | e <;> omega
      have f3 : flt m3 = 0 := by rcases k4 with e | e <;> omega
      have f2 : flt m2 = 0 := by rcases k3 with e | e <;> omega
      have tt2 : tt m2 ≤ tt m6 := by rcases k3 with b | b <;> rcases k4 with c | c <;> rcases k5 with d | d <;> rcases k6 with e | e <;> omega
      have tt0 : tt m ≤ tt m6 := by rcases q12 with a | a <;> omega
      have kk6 : ∀ k : Nat, k ≠ 70 → k ≠ 87 → k ≠ 88 → k ≠ 89 → k ≠ 90 → m6.1 k = m2.1 k := fun k e1 e2 e3 e4 e5 => by rw [h6.1 k e1, dSet_k e5, kk5 k e1 e2 e3 e4]
      have k87' : m6.1 87 = (dSet m2 87 (8 * s + (m.1 86 s).toInt.toNat) r2).1 87 := by rw [h6.1 87 (by decide), dSet_k (by decide), h5.1 87 (by decide), dSet_k (by decide), k87]
      have jj6 : ∀ j : Nat, j = 12 ∨ j = 20 ∨ j = 40 ∨ j = 46 → m6.1 70 j = m2.1 70 j := fun j e => by rw [h6.2.1 j (by omega) (by omega) (by omega) (by omega) (by omega), dSet_k (by decide), jj5 j e]
      have w6 : Wz m2 m6 := w4.tr ((show Wz m4 m5 from h5.2.2.2.2).tr (show Wz m5 m6 from h6.2.2.2.2))
      have n6 : nms m6 = nms m := by
        have : m6.1 70 20 = m2.1 70 20 := jj6 20 (by omega)
        unfold nms
        rw [this, h12.2.1 20 (by decide) (by decide) (by decide) (by decide) (by decide)]
      have e20 : (m6.1 70 20).toInt = nms m6 := rfl
      have fn := dAddE (X := nms m6) (Y := 1) (x := m6.1 70 20) (y := (1 : Int32)) rfl (by decide) (by omega) (by omega)
      have e86 : m6.1 86 s = m.1 86 s := by rw [kk6 86 (by decide) (by decide) (by decide) (by decide) (by decide), h12.1 86 (by decide)]
      have f86 := dAddE (X := (m.1 86 s).toInt) (Y := 1) (x := m6.1 86 s) (y := (1 : Int32)) (by rw [e86]) (by decide) (by omega) (by omega)
      have F7 : PF m0 L s (dSet (dSet (dSetL m6 78 (m6.1 70 20).toNatClampNeg (m6.2.1 76 r1.toNatClampNeg)) 79 (m6.1 70 20).toNatClampNeg (-1 : Int32)) 70 20 ((m6.1 70 20) + (1 : Int32))) := by
        refine PF.set70 (PF.set (show PF m0 L s (dSetL m6 78 (m6.1 70 20).toNatClampNeg (m6.2.1 76 r1.toNatClampNeg)) from F6) hL (by decide) (by decide) (Or.inl rfl) (fun lo hi q => ?_)) (by decide) (by decide) (by decide) (by decide)
        cases q
        decide
      have sd7 := F7.sd hsd
      refine ⟨fun q => absurd hf6 q, fun _ => ⟨by omega, ⟨by omega, v_X12_tellUse_70_118 (hQ _ ?_ ?_)⟩⟩⟩
      · rw [sd7.2]
        refine ⟨F7.set hL (by decide) (by decide) (Or.inr (by show 1 * s ≤ s ∧ s < 1 * s + 1; omega)) (fun lo hi q => ?_), h6.2.2.1, by show 0 ≤ flt m6; omega, fun _ => ?_⟩
        · cases q
          show 0 ≤ (m6.1 86 s + (1 : Int32)).toInt ∧ (m6.1 86 s + (1 : Int32)).toInt ≤ 8
          omega
        · obtain ⟨g1, g2, g3, g4, g5, g6⟩ := G2
          have o2 : opn m6 = opn m2 := by unfold opn; rw [jj6 12 (by omega)]
          have c2 : cds m6 = cds m2 := by unfold cds; rw [jj6 46 (by omega)]
          have b2 : brs m6 = brs m2 := by unfold brs; rw [jj6 40 (by omega)]
          refine ⟨?_, by show opn m6 = 0; omega, by show 420 * (s : Int) ≤ cds m6 ∧ cds m6 ≤ 420 * s + tt m6; omega, by show 130 * (s : Int) ≤ brs m6 ∧ 4 * (brs m6 - 130 * s) ≤ tt m6; omega, ?_, ⟨(show 0 ≤ wst m6 from w6.2 g6.1), fun w => ?_⟩⟩
          · show (m6.1 70 20 + (1 : Int32)).toInt = (m6.1 80 s).toInt + _
            rw [dSet_s]
            show (m6.1 70 20 + (1 : Int32)).toInt = (m6.1 80 s).toInt + (m6.1 86 s + (1 : Int32)).toInt
            have e80 : m6.1 80 s = m.1 80 s := by rw [kk6 80 (by decide) (by decide) (by decide) (by decide) (by decide), h12.1 80 (by decide)]
            rw [e80]
            omega
          · exact LB.up (m := m2) (fun k e1 e2 j _ => by rw [dSet_k (by omega), dSet_k (by omega), dSet_k (by omega)]; show m6.1 k j = _; rw [kk6 k (by omega) (by omega) (by omega) (by omega) (by omega)]) (fun j _ => by show m6.1 102 j = _ ∧ m6.1 103 j = _; rw [kk6 102 (by decide) (by decide) (by decide) (by decide) (by decide), kk6 103 (by decide) (by decide) (by decide) (by decide) (by decide)]; exact ⟨rfl, rfl⟩) (by show brs m2 ≤ brs m6; omega) (by show cds m2 ≤ cds m6; omega) g5
          · have w : wst m6 = 0 := w
            have g6 := g6.2 (w6.1 w)
            have hz := hz2 f2 (w6.1 w)
            refine ⟨fun a ha => ?_, fun a ha => ?_⟩
            · have ha : (a : Int) < (m6.1 82 s).toInt := ha
              rw [kk6 82 (by decide) (by decide) (by decide) (by decide) (by decide)] at ha
              have := g6.1 a ha
              show (0 ≤ (m6.1 83 _).toInt ∧ (m6.1 83 _).toInt ≤ 6) ∧ (0 ≤ (m6.1 84 _).toInt ∧ (m6.1 84 _).toInt ≤ 6)
              rw [kk6 83 (by decide) (by decide) (by decide) (by decide) (by decide), kk6 84 (by decide) (by decide) (by decide) (by decide) (by decide)]
              exact this
            · rw [dSet_s] at ha
              have ha : (a : Int) < (m6.1 86 s + (1 : Int32)).toInt := ha
              show 0 ≤ (m6.1 87 (8 * s + a)).toInt ∧ (m6.1 87 (8 * s + a)).toInt ≤ 6
              rw [k87', dSet_e]
              by_cases q : 8 * s + a = 8 * s + (m.1 86 s).toInt.toNat
              · rw [if_pos ⟨rfl, q⟩]
                omega
              · rw [if_neg (fun z => q z.2)]
                refine g6.2 a ?_
                rw [h12.1 86 (by decide)]
                omega
      · exact tt0
  exact ⟨fun hc => ⟨by omega, tail r4 hr4⟩, fun _ => tail 0 (by decide)⟩
end TEW
end
section
/-! THE REFERENCE's read, 10: a law, and any TELL (by hand) -/
section TEO
variable {m0 : dM} {L s : Nat}
theorem t_law {mb : dM} {x1 : Int32} {Q : dM → Prop} (hL : L + s = 1) (hsd : (m0.1 70 19).toInt = s) (hF : PF m0 L s mb) (ht : 0 ≤ tt mb ∧ tt mb ≤ 400) (hf : 0 ≤ flt mb) (hx1 : 0 ≤ x1.toInt ∧ x1.toInt ≤ 3) (hb : 130 * (s : Int) ≤ brs mb ∧ brs mb ≤ 130 * s + 100) (hc : 420 * (s : Int) ≤ cds mb) (hG : flt mb = 0 → PG mb s ∧ 4 * (brs mb - 130 * s) + 1 ≤ tt mb) (hQ : ∀ m', PI m0 L s m' → tt mb ≤ tt m' → (flt m' = 0 → flt mb = 0) → Q m') : c_X12_tellLaw_70 6 x1 mb Q := by
  have hs : s ≤ 1 := by omega
  have sd := hF.sd hsd
  have st0 : LSt mb s 1 100 mb := by
    refine ⟨⟨fun _ _ _ => rfl, fun _ _ _ _ _ _ _ _ _ _ => rfl, fun _ _ _ _ _ => rfl, fun _ _ => ⟨rfl, rfl⟩, Wz.eq rfl⟩, ht, Int.le_refl _, hf, ⟨Int.le_refl _, hb.2⟩, fun h0 => ?_⟩
    have g := hG h0
    exact ⟨h0, g.1.2.1, ⟨Int.le_refl _, g.1.2.2.1.2⟩, g.2, fun j e1 e2 => by exfalso; omega⟩
  refine v_X12_tellLaw_70 ?_
  refine Wp.deep (p_must ht hf (fun m1 h1 => ?_)) (Nat.le_of_ble_eq_true rfl)
  have e40 : m1.1 70 40 = mb.1 70 40 := h1.2.1 40 (by decide) (by decide) (by decide) (by decide) (by decide)
  rw [e40]
  have st1 : LSt mb s 2 100 m1 := st0.mv h1 (by decide)
  refine (tl_main (x2 := mb.1 70 40) hs hc hb.1 hx1 sd.1 (fun m' h' hf' => ?_) (fun m' h' hf' => ?_) 5000).1 (0 : Int32) m1 st1 (by decide) ?_
  · exact hQ m' (PI.bad (hF.lf hL hb.1 hc h'.1) h'.2.1 hf') h'.2.2.1 (fun q => by exfalso; omega)
  · have F' := hF.lf hL hb.1 hc h'.1
    have sd' := F'.sd hsd
    have h6 := h'.2.2.2.2.2 hf'
    have g := (hG h6.1).1
    have fm := dMulE (X := 4) (Y := (s : Int)) (x := (4 : Int32)) (y := m'.1 70 19) (by decide) sd'.1 (by omega) (by omega)
    have fa := dAddE (X := 4 * (s : Int)) (Y := x1.toInt) (x := (4 : Int32) * m'.1 70 19) (y := x1) fm rfl (by omega) (by omega)
    have eI : ((4 : Int32) * m'.1 70 19 + x1).toNatClampNeg = 4 * s + x1.toInt.toNat := by
      have := d_cl (x := (4 : Int32) * m'.1 70 19 + x1) (by omega)
      omega
    rw [eI]
    have inr : 4 * s ≤ 4 * s + x1.toInt.toNat ∧ 4 * s + x1.toInt.toNat < 4 * s + 4 := by omega
    refine hQ _ ⟨PF.set (PF.set F' hL (by decide) (by decide) (Or.inr inr) (fun lo hi q => by cases q)) hL (by decide) (by decide) (Or.inr inr) (fun lo hi q => by cases q), h'.2.1, by show 0 ≤ flt m'; omega, fun _ => ?_⟩ h'.2.2.1 (fun _ => h6.1)
    have lf := h'.1
    have kk : ∀ k : Nat, k ≠ 70 → k < 97 → m'.1 k = mb.1 k := fun k e1 e2 => lf.1 k e1 (Or.inl e2)
    have LB' : LB m' s := LB.up (m := mb) (fun k e1 e2 j hj => by
      by_cases q : k < 97
      · rw [kk k (by omega) q]
      · exact lf.2.2.1 k j (by omega) e2 (Or.inl (hj (by omega)))) (fun j hj => lf.2.2.2.1 j (Or.inl hj)) h'.2.2.2.2.1.1 h6.2.2.1.1 g.2.2.2.2.1
    refine ⟨?_, h6.2.1, ⟨by show 420 * (s : Int) ≤ cds m'; omega, h6.2.2.1.2⟩, ⟨by show 130 * (s : Int) ≤ brs m'; have := h'.2.2.2.2.1; omega, by have w := h6.2.2.2.1; show 4 * (brs m' - 130 * s) ≤ tt m'; omega⟩, ?_, ⟨lf.2.2.2.2.2 g.2.2.2.2.2.1, fun w => ?_⟩⟩
    · show (m'.1 70 20).toInt = (m'.1 80 s).toInt + (m'.1 86 s).toInt
      rw [lf.2.1 20 (by decide) (by decide) (by decide) (by decide) (by decide) (by decide) (by decide) (by decide) (by decide), kk 80 (by decide) (by decide), kk 86 (by decide) (by decide)]
      exact g.1
    · have upB : ∀ j, BW m' s j → BW (dSet (dSet m' 95 (4 * s + x1.toInt.toNat) (mb.1 70 40)) 96 (4 * s + x1.toInt.toNat) (m'.1 70 40)) s j := fun j hj => BW.up (m := m') (fun j _ => ⟨rfl, rfl⟩) (Int.le_refl _) (fun a b1 b2 => by rw [dSet_k (by omega), dSet_k (by omega)]) hj
      intro k hk4
      rw [dSet_k (show (95 : Nat) ≠ 96 by decide)]
      by_cases q : k = x1.toInt.toNat
      · rw [q, dSet_s, dSet_s]
        refine Or.inr ⟨hb.1, h'.2.2.2.2.1.1, Int.le_refl _, fun j e1 e2 => upB j (h6.2.2.2.2 j e1 e2)⟩
      · rw [dSet_j (by omega), dSet_j (by omega), dSet_k (show (96 : Nat) ≠ 95 by decide)]
        rcases LB' k hk4 with z | ⟨z1, z2, z3, z4⟩
        · exact Or.inl z
        · exact Or.inr ⟨z1, z2, z3, fun j e1 e2 => upB j (z4 j e1 e2)⟩
    · have w : wst m' = 0 := w
      have g6 := g.2.2.2.2.2.2 (lf.2.2.2.2.1 w)
      show (∀ w : Nat, (w : Int) < (m'.1 82 s).toInt → (0 ≤ (m'.1 83 (10 * s + w)).toInt ∧ (m'.1 83 (10 * s + w)).toInt ≤ 6) ∧ (0 ≤ (m'.1 84 (10 * s + w)).toInt ∧ (m'.1 84 (10 * s + w)).toInt ≤ 6)) ∧ (∀ u : Nat, (u : Int) < (m'.1 86 s).toInt → 0 ≤ (m'.1 87 (8 * s + u)).toInt ∧ (m'.1 87 (8 * s + u)).toInt ≤ 6)
      rw [kk 82 (by decide) (by decide), kk 83 (by decide) (by decide), kk 84 (by decide) (by decide), kk 86 (by decide) (by decide), kk 87 (by decide) (by decide)]
      exact g6
  · have k4 := h1.2.2.2.1
    unfold mu
    have := h1.2.2.1
    rcases k4 with z | z
    · left; omega
    · right; omega
theorem p_tellOne {m : dM} {Q : dM → Prop} (hL : L + s = 1) (hsd : (m0.1 70 19).toInt = s) (hF : PF m0 L s m) (ht : 0 ≤ tt m ∧ tt m ≤ 400) (h0 : flt m = 0) (hG : PG m s) (hQ : ∀ m', PI m0 L s m' → (flt m' = 0 → tt m + 1 ≤ tt m') → Q m') : c_X12_tellOne_70 8 m Q := by
  have hs : s ≤ 1 := by omega
  have sd := hF.sd hsd
  have tr : (0 ≤ (m.1 70 11).toInt ∧ (m.1 70 11).toInt < 403) := ⟨ht.1, by have := ht.2; unfold tt at this; omega⟩
  have fin : ∀ m', Q m' → j_X12_tellOne_70_371 8 m' Q := fun m' h => v_X12_tellOne_70_371 h
  have b82 := hF.b82
  have b86 := hF.b86
  have l354 : ∀ (x1 : Int32) (mm : dM), Mv 0 m mm → (flt mm = 0 → 0 ≤ x1.toInt ∧ x1.toInt ≤ 3) → j_X12_tellOne_70_354 8 x1 mm Q := by
    intro x1 mm hm hx
    refine v_X12_tellOne_70_354 ⟨fun hc => ?_, fun hc => hQ mm (PI.bad (hF.mv hm) hm.2.2.1 hc) (fun q => by have hc : 0 < flt mm := hc; exfalso; omega)⟩
    have f0 : flt mm = 0 := by
      have hc : flt mm ≤ 0 := hc
      have := hm.fl
      omega
    have G := hG.mv hm (by decide)
    refine Wp.deep (p_goesOn hm.2.2.1 hm.fl (fun m1 h1 => ?_)) (Nat.le_of_ble_eq_true rfl)
    have k1 := h1.2.2.2.1
    have G1 := G.mv h1 (by decide)
    have b1 : brs m1 = brs mm := by unfold brs; rw [h1.2.1 40 (by decide) (by decide) (by decide) (by decide) (by decide)]
    have g4 := G.2.2.2.1
    have tm := hm.2.2.1
    refine Wp.deep (t_law hL hsd ((hF.mv hm).mv h1) h1.2.2.1 h1.fl (hx f0) ⟨by omega, by omega⟩ G1.2.2.1.1 (fun f1 => ⟨G1, by rcases k1 with z | z <;> omega⟩) (fun m2 h2 ht2 hf2 => fin m2 (hQ m2 h2 (fun q => ?_)))) (Nat.le_of_ble_eq_true rfl)
    have k0 := hm.2.2.2.1
    have f1 := hf2 q
    rcases k1 with z | z <;> rcases k0 with y | y <;> omega
  have l349 : ∀ x1 : Int32, j_X12_tellOne_70_349 8 x1 m Q := fun x1 => by
    refine v_X12_tellOne_70_349 ?_
    exact Wp.deep (p_fail ht (by decide) (fun m1 h1 hf1 => l354 x1 m1 h1 (fun q => by exfalso; omega))) (Nat.le_of_ble_eq_true rfl)
  have kind : (23 ≤ (m.1 73 (m.1 70 11).toNatClampNeg).toInt ∧ (m.1 73 (m.1 70 11).toNatClampNeg).toInt ≤ 26) → j_X12_tellOne_70_354 8 ((m.1 73 (m.1 70 11).toNatClampNeg) - (23 : Int32)) m Q := fun hk => by
    have f := dSubE (X := (m.1 73 (m.1 70 11).toNatClampNeg).toInt) (Y := 23) (x := m.1 73 (m.1 70 11).toNatClampNeg) (y := (23 : Int32)) rfl (by decide) (by omega) (by omega)
    exact l354 _ m (Mv.rf ht (by omega)) (fun _ => by omega)
  have law : ((0 ≤ (m.1 70 11).toInt ∧ (m.1 70 11).toInt < 403) ∧ ((((m.1 73 (m.1 70 11).toNatClampNeg) - (23 : Int32)).toInt < 0 → j_X12_tellOne_70_349 (7 + 1) ((m.1 73 (m.1 70 11).toNatClampNeg) - (23 : Int32)) m Q) ∧ (0 ≤ ((m.1 73 (m.1 70 11).toNatClampNeg) - (23 : Int32)).toInt → ((0 ≤ (m.1 70 11).toInt ∧ (m.1 70 11).toInt < 403) ∧ (((m.1 73 (m.1 70 11).toNatClampNeg).toInt ≤ 26 → j_X12_tellOne_70_354 (7 + 1) ((m.1 73 (m.1 70 11).toNatClampNeg) - (23 : Int32)) m Q) ∧ (26 < (m.1 73 (m.1 70 11).toNatClampNeg).toInt → j_X12_tellOne_70_349 (7 + 1) ((m.1 73 (m.1 70 11).toNatClampNeg) - (23 : Int32)) m Q)))))) := by
    refine ⟨tr, fun _ => l349 _, fun hn => ⟨tr, fun h26 => ?_, fun _ => l349 _⟩⟩
    have b73 := hF.2.2.2 73 (m.1 70 11).toNatClampNeg 0 41 (by decide) rfl
    have f := dSubE (X := (m.1 73 (m.1 70 11).toNatClampNeg).toInt) (Y := 23) (x := m.1 73 (m.1 70 11).toNatClampNeg) (y := (23 : Int32)) rfl (by decide) (by omega) (by omega)
    exact kind ⟨by omega, h26⟩
  have gset : ∀ (k j : Nat) (v : Int32) (mm : dM), (k = 91 ∨ k = 92 ∨ k = 93 ∨ k = 94) → PG mm s → PG (dSet mm k j v) s := fun k j v mm hk g => by
    refine g.cg (fun a e => dSet_k (by omega)) (fun a e => by rw [dSet_k (by omega)]) ?_ (Wz.eq ?_)
    · unfold tt; rw [dSet_k (by omega)]; exact Int.le_refl _
    · unfold wst; rw [dSet_k (by omega)]
  have fset : ∀ (k : Nat) (v : Int32) (mm : dM), (k = 91 ∨ k = 92 ∨ k = 93 ∨ k = 94) → PF m0 L s mm → PF m0 L s (dSet mm k s v) := fun k v mm hk F => by
    refine F.set hL (by omega) (by omega) (Or.inr ?_) (fun lo hi q => ?_)
    · rcases hk with rfl | rfl | rfl | rfl <;> (show 1 * s ≤ s ∧ s < 1 * s + 1; omega)
    · rcases hk with rfl | rfl | rfl | rfl <;> cases q
  have last : ∀ mm : dM, PF m0 L s mm → (0 ≤ tt mm ∧ tt mm ≤ 400) → 0 ≤ flt mm → (flt mm = 0 → PG mm s ∧ tt m + 1 ≤ tt mm) → c_X12_must_70 7 (4 : Int32) mm (fun m12 => j_X12_tellOne_70_371 (7 + 1) m12 Q) := fun mm F t0 f0 g => by
    refine Wp.deep (p_must t0 f0 (fun m12 h12 => fin m12 (hQ m12 ⟨F.mv h12, h12.2.2.1, h12.fl, fun q => ?_⟩ (fun q => ?_)))) (Nat.le_of_ble_eq_true rfl)
    · have : flt mm = 0 := by rcases h12.2.2.2.1 with z | z <;> omega
      exact (g this).1.mv h12 (by decide)
    · have k12 := h12.2.2.2.1
      have : flt mm = 0 := by rcases k12 with z | z <;> omega
      have := (g this).2
      rcases k12 with z | z <;> omega
  have one : ∀ (k : Nat) (hi : Int32), (k = 93 ∨ k = 94) → c_X12_goesOn_70 7 m (fun m13 => c_X12_bounded_70 7 (0 : Int32) hi m13 (fun r14 m14 => ((0 ≤ (m13.1 70 19).toInt ∧ (m13.1 70 19).toInt < 2) ∧ c_X12_must_70 7 (4 : Int32) (dSet m14 k (m13.1 70 19).toNatClampNeg r14) (fun m15 => j_X12_tellOne_70_371 (7 + 1) m15 Q)))) := fun k hi hk => by
    refine Wp.deep (p_goesOn ht (by omega) (fun m1 h1 => ?_)) (Nat.le_of_ble_eq_true rfl)
    have F1 := hF.mv h1
    have sd1 := F1.sd hsd
    refine Wp.deep (p_bounded h1.2.2.1 h1.fl F1.b75 (by decide) (fun r2 m2 h2 hr2 => ⟨by omega, ?_⟩)) (Nat.le_of_ble_eq_true rfl)
    rw [sd1.2]
    have h12 := h1.tr h2 (by decide) (by decide)
    have e1 : flt (dSet m2 k s r2) = flt m2 := by unfold flt; rw [dSet_k (by omega)]
    have e2 : tt (dSet m2 k s r2) = tt m2 := by unfold tt; rw [dSet_k (by omega)]
    refine last _ (fset k r2 m2 (by omega) (hF.mv h12)) (by rw [e2]; exact h12.2.2.1) (by rw [e1]; exact h12.fl) (fun q => ⟨gset k s r2 m2 (by omega) (hG.mv h12 (by decide)), ?_⟩)
    rw [e1] at q
    rw [e2]
    rcases h12.2.2.2.1 with z | z <;> omega
  refine v_X12_tellOne_70 ⟨tr, fun _ => ⟨by omega, t_flat hL hsd hF ht h0 hG (fun m' h hd => hQ m' h (fun q => by omega)) fin⟩, fun _ => ⟨by omega, ?_⟩, fun _ => ⟨by omega, ?_⟩, fun _ => law, fun _ => law, fun _ => law, fun _ => law, fun _ => ?_, fun _ => one 93 _ (by decide), fun _ => one 94 _ (by decide), fun _ => law⟩
  · rw [sd.2]
    have e10 := ti_10
    refine Wp.deep (p_roomFor ht (by omega) (fun m1 h1 hne => ⟨fun hf => ?_, fun hf => ?_⟩)) (Nat.le_of_ble_eq_true rfl)
    · have hf : flt m1 ≠ 0 := hf
      have hp : 0 < flt m1 := by have := h1.fl; omega
      exact fin m1 (hQ m1 (PI.bad (hF.mv h1) h1.2.2.1 hp) (fun q => absurd q hf))
    · have hf : flt m1 = 0 := hf
      have hne := hne hf
      have e82 : m1.1 82 s = m.1 82 s := by rw [h1.1 82 (by decide)]
      refine Wp.deep (t_wire hL hsd (hF.mv h1) h1.2.2.1 hf (hG.mv h1 (by decide)) (by rw [e82]; omega) (fun m2 h2 t2 => fin m2 (hQ m2 h2 (fun q => ?_)))) (Nat.le_of_ble_eq_true rfl)
      rcases h1.2.2.2.1 with z | z <;> omega
  · rw [sd.2]
    have e8 := ti_8
    refine Wp.deep (p_roomFor ht (by omega) (fun m1 h1 hne => ⟨fun hf => ?_, fun hf => ?_⟩)) (Nat.le_of_ble_eq_true rfl)
    · have hf : flt m1 ≠ 0 := hf
      have hp : 0 < flt m1 := by have := h1.fl; omega
      exact fin m1 (hQ m1 (PI.bad (hF.mv h1) h1.2.2.1 hp) (fun q => absurd q hf))
    · have hf : flt m1 = 0 := hf
      have hne := hne hf
      have e86 : m1.1 86 s = m.1 86 s := by rw [h1.1 86 (by decide)]
      refine Wp.deep (t_use hL hsd (hF.mv h1) h1.2.2.1 hf (hG.mv h1 (by decide)) (by rw [e86]; omega) (fun m2 h2 t2 => fin m2 (hQ m2 h2 (fun q => ?_)))) (Nat.le_of_ble_eq_true rfl)
      rcases h1.2.2.2.1 with z | z <;> omega
  · refine Wp.deep (p_goesOn ht (by omega) (fun m1 h1 => ?_)) (Nat.le_of_ble_eq_true rfl)
    have F1 := hF.mv h1
    have sd1 := F1.sd hsd
    refine Wp.deep (p_bounded h1.2.2.1 h1.fl F1.b75 (by decide) (fun r2 m2 h2 hr2 => ⟨by omega, ?_⟩)) (Nat.le_of_ble_eq_true rfl)
    have h12 := h1.tr h2 (by decide) (by decide)
    have F2 := hF.mv h12
    have sd2 := F2.sd hsd
    rw [sd1.2]
    have F3 := fset 91 r2 m2 (by decide) F2
    refine Wp.deep (p_bounded (m := dSet m2 91 s r2) h12.2.2.1 h12.fl F3.b75 (by decide) (fun r4 m4 h4 hr4 => ⟨by omega, ?_⟩)) (Nat.le_of_ble_eq_true rfl)
    rw [sd2.2]
    have k4 : (flt m2 = 0 ∧ flt m4 = 0 ∧ tt m4 = tt m2 + 1) ∨ (0 < flt m4 ∧ tt m2 ≤ tt m4 ∧ tt m4 ≤ tt m2 + 1) := h4.2.2.2.1
    refine last (dSet m4 92 s r4) (fset 92 r4 m4 (by decide) (F3.mv h4)) h4.2.2.1 h4.fl (fun q => ⟨gset 92 s r4 m4 (by decide) ((gset 91 s r2 m2 (by decide) (hG.mv h12 (by decide))).mv h4 (by decide)), ?_⟩)
    have q : flt m4 = 0 := q
    show tt m + 1 ≤ tt m4
    rcases h12.2.2.2.1 with z | z <;> rcases k4 with y | y <;> omega
end TEO
end
section
/-! THE REFERENCE's read, 11: the tokens (by hand) -/
def siz (m : dM) : Int := (m.1 70 4).toInt
def toks (m : dM) : Int := (m.1 70 10).toInt
def CU (me m : dM) : Prop := (∀ k : Nat, k ≠ 70 → k ≠ 73 → k ≠ 74 → k ≠ 75 → m.1 k = me.1 k) ∧ (∀ j : Nat, j ≠ 10 → m.1 70 j = me.1 70 j) ∧ (∀ j : Nat, 0 ≤ (m.1 75 j).toInt ∧ (m.1 75 j).toInt ≤ 9999) ∧ (∀ j : Nat, 0 ≤ (m.1 73 j).toInt ∧ (m.1 73 j).toInt ≤ 41) ∧ (0 ≤ toks m ∧ toks m ≤ 401)
theorem CU.sz {me m : dM} (h : CU me m) : siz m = siz me := by unfold siz; rw [h.2.1 4 (by decide)]
theorem u_byteAt {x1 : Int32} {m : dM} {Q : Int32 → dM → Prop} (hx : 0 ≤ x1.toInt) (hs : siz m ≤ 2000) (h0 : siz m ≤ x1.toInt → Q 0 m) (h1 : x1.toInt < siz m → Q ((m.1 72 x1.toNatClampNeg) &&& (255 : Int32)) m) : c_X12_byteAt_70 1 x1 m Q := by
  refine v_X12_byteAt_70 ⟨fun h => h0 h, fun h => ⟨?_, h1 h⟩⟩
  have h : x1.toInt < siz m := h
  omega
theorem u_isLetter {x0 : Int32} {m : dM} {Q : Int32 → dM → Prop} (h1 : 97 ≤ x0.toInt ∧ x0.toInt ≤ 122 → Q 1 m) (h0 : ¬ (97 ≤ x0.toInt ∧ x0.toInt ≤ 122) → Q 0 m) : c_X12_isLetter 1 x0 m Q :=
  v_X12_isLetter ⟨fun h => v_X12_isLetter_16 (h0 (by omega)), fun h => ⟨fun h' => v_X12_isLetter_16 (h0 (by omega)), fun h' => h1 ⟨h, h'⟩⟩⟩
theorem u_isDigit {x0 : Int32} {m : dM} {Q : Int32 → dM → Prop} (h1 : 48 ≤ x0.toInt ∧ x0.toInt ≤ 57 → Q 1 m) (h0 : ¬ (48 ≤ x0.toInt ∧ x0.toInt ≤ 57) → Q 0 m) : c_X12_isDigit 1 x0 m Q :=
  v_X12_isDigit ⟨fun h => v_X12_isDigit_16 (h0 (by omega)), fun h => ⟨fun h' => v_X12_isDigit_16 (h0 (by omega)), fun h' => h1 ⟨h, h'⟩⟩⟩
theorem u_token {x1 x2 x3 : Int32} {y4 : Int64} {me m : dM} {Q : dM → Prop} (h : CU me m) (ht : toks m ≤ 400) (h1 : 0 ≤ x1.toInt ∧ x1.toInt ≤ 41) (h3 : 0 ≤ x3.toInt ∧ x3.toInt ≤ 9999) (hQ : ∀ m', CU me m' → Q m') : c_X12_token_70 1 x1 x2 x3 y4 m Q := by
  obtain ⟨a1, a2, a3, a4, a5⟩ := h
  have e : (m.1 70 10).toInt = toks m := rfl
  have f := dAddE (X := toks m) (Y := 1) (x := m.1 70 10) (y := (1 : Int32)) rfl (by decide) (by omega) (by omega)
  refine v_X12_token_70 ⟨by omega, ⟨by omega, ⟨by omega, ⟨by omega, hQ _ ⟨fun k e1 e2 e3 e4 => ?_, fun j e1 => ?_, fun j => ?_, fun j => ?_, ?_⟩⟩⟩⟩⟩
  · rw [dSet_k e1]
    show (dSet (dSet (dSet m 73 _ x1) 74 _ x2) 75 _ x3).1 k = _
    rw [dSet_k e4, dSet_k e3, dSet_k e2]; exact a1 k e1 e2 e3 e4
  · rw [dSet_j e1]; exact a2 j e1
  · show 0 ≤ ((dSet (dSet (dSet m 73 _ x1) 74 _ x2) 75 _ x3).1 75 j).toInt ∧ ((dSet (dSet (dSet m 73 _ x1) 74 _ x2) 75 _ x3).1 75 j).toInt ≤ 9999
    rw [dSet_e]
    by_cases q : j = (m.1 70 10).toNatClampNeg
    · rw [if_pos ⟨rfl, q⟩]; exact h3
    · rw [if_neg (fun z => q z.2)]; exact a3 j
  · show 0 ≤ ((dSet m 73 _ x1).1 73 j).toInt ∧ ((dSet m 73 _ x1).1 73 j).toInt ≤ 41
    rw [dSet_e]
    by_cases q : j = (m.1 70 10).toNatClampNeg
    · rw [if_pos ⟨rfl, q⟩]; exact h1
    · rw [if_neg (fun z => q z.2)]; exact a4 j
  · show 0 ≤ (m.1 70 10 + (1 : Int32)).toInt ∧ (m.1 70 10 + (1 : Int32)).toInt ≤ 401
    omega
theorem u_sign {x1 x2 x3 : Int32} {me m : dM} {Q : Int32 → dM → Prop} (h : CU me m) (ht : toks m ≤ 400) (hQ : ∀ m', CU me m' → Q 1 m') : c_X12_sign_70 2 x1 x2 x3 m Q := by
  have l95 : ∀ x4 : Int32, 0 ≤ x4.toInt ∧ x4.toInt ≤ 41 → j_X12_sign_70_95 2 x1 x4 m Q := fun x4 h4 => v_X12_sign_70_95 (u_token h ht h4 (by decide) hQ)
  have l85 : ∀ x4 : Int32, 0 ≤ x4.toInt ∧ x4.toInt ≤ 41 → j_X12_sign_70_85 2 x1 x2 x4 m Q := fun x4 h4 => v_X12_sign_70_85 ⟨fun _ => l95 x4 h4, fun _ => l95 _ (by decide)⟩
  have l75 : ∀ x4 : Int32, 0 ≤ x4.toInt ∧ x4.toInt ≤ 41 → j_X12_sign_70_75 2 x1 x2 x4 m Q := fun x4 h4 => v_X12_sign_70_75 ⟨fun _ => l85 x4 h4, fun _ => l85 _ (by decide)⟩
  have l65 : ∀ x4 : Int32, 0 ≤ x4.toInt ∧ x4.toInt ≤ 41 → j_X12_sign_70_65 2 x1 x2 x4 m Q := fun x4 h4 => v_X12_sign_70_65 ⟨fun _ => l75 x4 h4, fun _ => l75 _ (by decide)⟩
  have l55 : ∀ x4 : Int32, 0 ≤ x4.toInt ∧ x4.toInt ≤ 41 → j_X12_sign_70_55 2 x1 x2 x4 m Q := fun x4 h4 => v_X12_sign_70_55 ⟨fun _ => l65 x4 h4, fun _ => l65 _ (by decide)⟩
  exact v_X12_sign_70 ⟨fun _ => ⟨fun _ => ⟨fun _ => ⟨fun _ => ⟨fun _ => l55 _ (by decide), fun _ => l55 _ (by decide)⟩, fun _ => ⟨fun _ => l55 _ (by decide), fun _ => l55 _ (by decide)⟩⟩, fun _ => ⟨fun _ => l55 _ (by decide), fun _ => l55 _ (by decide)⟩⟩, fun _ => ⟨fun _ => l55 _ (by decide), fun _ => l55 _ (by decide)⟩⟩, fun _ => ⟨fun _ => l55 _ (by decide), fun _ => l55 _ (by decide)⟩⟩
def lt1 (m : dM) (x : Int32) : Prop := x.toInt < siz m ∧ 97 ≤ ((m.1 72 x.toNatClampNeg) &&& (255 : Int32)).toInt ∧ ((m.1 72 x.toNatClampNeg) &&& (255 : Int32)).toInt ≤ 122
def dg1 (m : dM) (x : Int32) : Prop := x.toInt < siz m ∧ 48 ≤ ((m.1 72 x.toNatClampNeg) &&& (255 : Int32)).toInt ∧ ((m.1 72 x.toNatClampNeg) &&& (255 : Int32)).toInt ≤ 57
def pwr (n v : Int) : Prop := 0 ≤ v ∧ ((n = 0 ∧ v = 0) ∨ (n = 1 ∧ v ≤ 9) ∨ (n = 2 ∧ v ≤ 99) ∨ (n = 3 ∧ v ≤ 999) ∨ (4 ≤ n ∧ v ≤ 9999))
theorem u_main {me : dM} {Q : dM → Prop} (hsz : 0 ≤ siz me ∧ siz me ≤ 2000) (hQ : ∀ m', CU me m' → Q m') : ∀ n : Nat,
    (∀ (x1 : Int32) (m : dM), CU me m → 0 ≤ x1.toInt ∧ x1.toInt ≤ 2000 → 5000 * (2001 - x1.toInt) + 4990 < (n : Int) → j_X12_cutsUp_70_7 3 x1 m Q) ∧
    (∀ (x1 x3 : Int32) (y4 : Int64) (m : dM), CU me m → toks m ≤ 400 → 0 ≤ x1.toInt → 0 ≤ x3.toInt → x1.toInt + x3.toInt ≤ siz me → (x3.toInt = 0 → lt1 m x1) → 5000 * (2001 - x1.toInt) + 100 + 2 * (2000 - (x1.toInt + x3.toInt)) < (n : Int) → j_X12_cutsUp_70_85 3 x1 x3 y4 m Q) ∧
    (∀ (x1 x3 : Int32) (y4 : Int64) (x6 x7 : Int32) (m : dM), CU me m → toks m ≤ 400 → 0 ≤ x1.toInt → 1 ≤ x3.toInt → x1.toInt + x3.toInt ≤ siz me → 0 ≤ x6.toInt ∧ x6.toInt ≤ 41 → 0 ≤ x7.toInt ∧ x7.toInt ≤ 22 → 5000 * (2001 - x1.toInt) + 2 + (22 - x7.toInt) < (n : Int) → j_X12_cutsUp_70_146 3 x1 x3 y4 x6 x7 m Q) ∧
    (∀ (x1 x3 : Int32) (y4 : Int64) (x6 : Int32) (m : dM), CU me m → toks m ≤ 400 → 0 ≤ x1.toInt → 1 ≤ x3.toInt → x1.toInt + x3.toInt ≤ siz me → 0 ≤ x6.toInt ∧ x6.toInt ≤ 41 → 5000 * (2001 - x1.toInt) + 1 < (n : Int) → j_X12_cutsUp_70_179 3 x1 x3 y4 x6 m Q) ∧
    (∀ (x1 x3 x4 : Int32) (m : dM), CU me m → toks m ≤ 400 → 0 ≤ x1.toInt → 0 ≤ x3.toInt → x1.toInt + x3.toInt ≤ siz me → (x3.toInt = 0 → dg1 m x1) → pwr x3.toInt x4.toInt → 5000 * (2001 - x1.toInt) + 100 + 2 * (2000 - (x1.toInt + x3.toInt)) < (n : Int) → j_X12_cutsUp_70_208 3 x1 x3 x4 m Q) := by
  intro n
  induction n with
  | zero => exact ⟨fun x1 m h h1 hμ => by exfalso; omega, fun x1 x3 y4 m h ht h1 h3 h4 h5 hμ => by exfalso; omega, fun x1 x3 y4 x6 x7 m h ht h1 h3 h4 h6 h7 hμ => by exfalso; omega, fun x1 x3 y4 x6 m h ht h1 h3 h4 h6 hμ => by exfalso; omega, fun x1 x3 x4 m h ht h1 h3 h4 h5 hp hμ => by exfalso; omega⟩
  | succ n ih =>
    have e0 := ti_0
    have e1 := ti_1
    have e255 : (255 : Int32).toInt = 255 := by decide
    have l291 : ∀ (x1 : Int32) (m : dM), CU me m → 0 ≤ x1.toInt ∧ x1.toInt ≤ 2000 → 5000 * (2001 - x1.toInt) + 4990 < (n : Int) → j_X12_cutsUp_70_291 3 x1 m Q := fun x1 m h h1 hμ => v_X12_cutsUp_70_291 (ih.1 x1 m h h1 hμ)
    refine ⟨fun x1 m h h1 hμ => ?_, fun x1 x3 y4 m h ht h1 h3 h4 h5 hμ => ?_, fun x1 x3 y4 x6 x7 m h ht h1 h3 h4 h6 h7 hμ => ?_, fun x1 x3 y4 x6 m h ht h1 h3 h4 h6 hμ => ?_, fun x1 x3 x4 m h ht h1 h3 h4 h5 hp hμ => ?_⟩
    · have hz := h.sz
      refine v_X12_cutsUp_70_7 ⟨fun _ => hQ m h, fun ht => ?_⟩
      have ht : toks m ≤ 400 := ht
      have stop : siz m ≤ x1.toInt → c_X12_token_70 2 (0 : Int32) (m.1 70 4) (0 : Int32) (0 : Int64) m (fun m6 => Q m6) := fun _ => Wp.deep (u_token h ht (by decide) (by decide) hQ) (Nat.le_of_ble_eq_true rfl)
      refine Wp.deep (u_byteAt h1.1 (by omega) (fun hq => ⟨fun q => ?_, fun q => stop q⟩) (fun hq => ⟨fun _ => ?_, fun q => ?_⟩)) (Nat.le_of_ble_eq_true rfl)
      · have q : x1.toInt < siz m := q
        exfalso; omega
      · have f1 := dAddE (X := x1.toInt) (Y := 1) (x := x1) (y := (1 : Int32)) rfl (by decide) (by omega) (by omega)
        have l67 : j_X12_cutsUp_70_67 3 x1 m Q := v_X12_cutsUp_70_67 (l291 _ m h (by omega) (by omega))
        refine ⟨fun _ => l67, fun _ => ⟨fun _ => l67, fun _ => ⟨fun _ => l67, fun _ => ⟨fun _ => ?_, fun _ => l67⟩⟩⟩⟩
        refine Wp.deep (u_isLetter (fun hl => ⟨fun q => absurd q (by decide), fun _ => ?_⟩) (fun hl => ⟨fun _ => ?_, fun q => absurd rfl q⟩)) (Nat.le_of_ble_eq_true rfl)
        · exact ih.2.1 x1 0 0 m h ht h1.1 (by decide) (by omega) (fun _ => ⟨hq, hl.1, hl.2⟩) (by omega)
        · refine Wp.deep (u_isDigit (fun hl => ⟨fun q => absurd q (by decide), fun _ => ?_⟩) (fun hl => ⟨fun _ => ?_, fun q => absurd rfl q⟩)) (Nat.le_of_ble_eq_true rfl)
          · exact ih.2.2.2.2 x1 0 0 m h ht h1.1 (by decide) (by omega) (fun _ => ⟨hq, hl.1, hl.2⟩) ⟨by decide, Or.inl ⟨by decide, by decide⟩⟩ (by omega)
          · have sg : ∀ r : Int32, c_X12_sign_70 2 x1 ((m.1 72 x1.toNatClampNeg) &&& (255 : Int32)) r m (fun r5 m5 => j_X12_cutsUp_70_291 3 (x1 + r5) m5 Q) := fun r => u_sign h ht (fun m' h' => l291 _ m' h' (by omega) (by omega))
            exact Wp.deep (u_byteAt (by omega) (by omega) (fun _ => sg _) (fun _ => sg _)) (Nat.le_of_ble_eq_true rfl)
      · have q : siz m ≤ x1.toInt := q
        exfalso; omega
    · have hz := h.sz
      have fx := dAddE (X := x1.toInt) (Y := x3.toInt) (x := x1) (y := x3) rfl rfl (by omega) (by omega)
      refine v_X12_cutsUp_70_85 ?_
      have stop : 1 ≤ x3.toInt → ((x3.toInt ≤ 8 → ((8 < x3.toInt → j_X12_cutsUp_70_179 3 x1 x3 y4 (1 : Int32) m Q) ∧ (x3.toInt ≤ 8 → j_X12_cutsUp_70_146 3 x1 x3 y4 (1 : Int32) (0 : Int32) m Q))) ∧ (8 < x3.toInt → ((8 < x3.toInt → j_X12_cutsUp_70_179 3 x1 x3 y4 (3 : Int32) m Q) ∧ (x3.toInt ≤ 8 → j_X12_cutsUp_70_146 3 x1 x3 y4 (3 : Int32) (0 : Int32) m Q)))) := fun hx =>
        ⟨fun _ => ⟨fun _ => ih.2.2.2.1 _ _ _ _ m h ht h1 hx h4 (by decide) (by omega), fun _ => ih.2.2.1 _ _ _ _ _ m h ht h1 hx h4 (by decide) (by decide) (by omega)⟩, fun _ => ⟨fun _ => ih.2.2.2.1 _ _ _ _ m h ht h1 hx h4 (by decide) (by omega), fun _ => ih.2.2.1 _ _ _ _ _ m h ht h1 hx h4 (by decide) (by decide) (by omega)⟩⟩
      have ex0 : x3.toInt = 0 → x1 + x3 = x1 := fun q => Int32.toInt_inj.mp (by omega)
      refine Wp.deep (u_byteAt (x1 := x1 + x3) (by omega) (by omega) (fun hq => ?_) (fun hq => ?_)) (Nat.le_of_ble_eq_true rfl)
      · refine Wp.deep (u_isLetter (fun hl => by exfalso; omega) (fun hl => ⟨fun _ => stop ?_, fun q => absurd rfl q⟩)) (Nat.le_of_ble_eq_true rfl)
        by_cases q : x3.toInt = 0
        · have := (h5 q).1
          exfalso; omega
        · omega
      · refine Wp.deep (u_isLetter (fun hl => ⟨fun q => absurd q (by decide), fun _ => ?_⟩) (fun hl => ⟨fun _ => stop ?_, fun q => absurd rfl q⟩)) (Nat.le_of_ble_eq_true rfl)
        · have f3 := dAddE (X := x3.toInt) (Y := 1) (x := x3) (y := (1 : Int32)) rfl (by decide) (by omega) (by omega)
          have l118 : ∀ y : Int64, j_X12_cutsUp_70_118 3 x1 x3 y m Q := fun y => v_X12_cutsUp_70_118 (ih.2.1 x1 _ y m h ht h1 (by omega) (by omega) (fun q => by exfalso; omega) (by omega))
          refine ⟨fun _ => l118 y4, fun _ => ?_⟩
          have ap : ∀ r : Int32, c_X12_appends 2 y4 r m (fun r4 m4 => j_X12_cutsUp_70_118 3 x1 x3 r4 m4 Q) := fun r => Wp.deep (v_X12_appends (d := 0) ⟨fun _ => l118 _, fun _ => l118 _⟩) (Nat.le_of_ble_eq_true rfl)
          exact Wp.deep (u_byteAt (x1 := x1 + x3) (by omega) (by omega) (fun _ => ap _) (fun _ => ap _)) (Nat.le_of_ble_eq_true rfl)
        · by_cases q : x3.toInt = 0
          · have w := h5 q
            rw [ex0 q] at hl
            exact absurd ⟨w.2.1, w.2.2⟩ hl
          · omega
    · have f7 := dAddE (X := x7.toInt) (Y := 1) (x := x7) (y := (1 : Int32)) rfl (by decide) (by omega) (by omega)
      have f20 := dAddE (X := 20) (Y := x7.toInt) (x := (20 : Int32)) (y := x7) (by decide) rfl (by omega) (by omega)
      have l173 : ∀ y : Int32, 0 ≤ y.toInt ∧ y.toInt ≤ 41 → x7.toInt < 22 → j_X12_cutsUp_70_173 3 x1 x3 y4 y x7 m Q := fun y hy hc => v_X12_cutsUp_70_173 (ih.2.2.1 _ _ _ _ _ m h ht h1 h3 h4 hy (by omega) (by omega))
      refine v_X12_cutsUp_70_146 ⟨fun _ => ih.2.2.2.1 _ _ _ _ m h ht h1 h3 h4 h6 (by omega), fun hc => ⟨by omega, fun _ => l173 _ h6 hc, fun _ => l173 _ (by omega) hc⟩⟩
    · have fx := dAddE (X := x1.toInt) (Y := x3.toInt) (x := x1) (y := x3) rfl rfl (by omega) (by omega)
      refine v_X12_cutsUp_70_179 ?_
      exact Wp.deep (u_token h ht h6 (by decide) (fun m' h' => l291 _ m' h' (by omega) (by omega))) (Nat.le_of_ble_eq_true rfl)
    · have hz := h.sz
      have fx := dAddE (X := x1.toInt) (Y := x3.toInt) (x := x1) (y := x3) rfl rfl (by omega) (by omega)
      refine v_X12_cutsUp_70_208 ?_
      have hv : 0 ≤ x4.toInt ∧ x4.toInt ≤ 9999 := by
        obtain ⟨p1, p2⟩ := hp
        rcases p2 with q | q | q | q | q <;> omega
      have stop : 1 ≤ x3.toInt → ((x3.toInt ≤ 4 → c_X12_token_70 2 (2 : Int32) x1 x4 (0 : Int64) m (fun m3 => j_X12_cutsUp_70_291 3 (x1 + x3) m3 Q)) ∧ (4 < x3.toInt → c_X12_token_70 2 (3 : Int32) x1 x4 (0 : Int64) m (fun m4 => j_X12_cutsUp_70_291 3 (x1 + x3) m4 Q))) := fun hx =>
        ⟨fun _ => Wp.deep (u_token h ht (by decide) hv (fun m' h' => l291 _ m' h' (by omega) (by omega))) (Nat.le_of_ble_eq_true rfl), fun _ => Wp.deep (u_token h ht (by decide) hv (fun m' h' => l291 _ m' h' (by omega) (by omega))) (Nat.le_of_ble_eq_true rfl)⟩
      have ex0 : x3.toInt = 0 → x1 + x3 = x1 := fun q => Int32.toInt_inj.mp (by omega)
      refine Wp.deep (u_byteAt (x1 := x1 + x3) (by omega) (by omega) (fun hq => ?_) (fun hq => ?_)) (Nat.le_of_ble_eq_true rfl)
      · refine Wp.deep (u_isDigit (fun hl => by exfalso; omega) (fun hl => ⟨fun _ => stop ?_, fun q => absurd rfl q⟩)) (Nat.le_of_ble_eq_true rfl)
        by_cases q : x3.toInt = 0
        · have := (h5 q).1
          exfalso; omega
        · omega
      · refine Wp.deep (u_isDigit (fun hl => ⟨fun q => absurd q (by decide), fun _ => ?_⟩) (fun hl => ⟨fun _ => stop ?_, fun q => absurd rfl q⟩)) (Nat.le_of_ble_eq_true rfl)
        · have f3 := dAddE (X := x3.toInt) (Y := 1) (x := x3) (y := (1 : Int32)) rfl (by decide) (by omega) (by omega)
          have l244 : ∀ y : Int32, pwr (x3.toInt + 1) y.toInt → j_X12_cutsUp_70_244 3 x1 x3 y m Q := fun y hy => v_X12_cutsUp_70_244 (ih.2.2.2.2 x1 _ y m h ht h1 (by omega) (by omega) (fun q => by exfalso; omega) (by rw [f3]; exact hy) (by omega))
          refine ⟨fun h4' => l244 x4 ⟨hv.1, Or.inr (Or.inr (Or.inr (Or.inr ⟨by omega, hv.2⟩)))⟩, fun h4' => ?_⟩
          refine Wp.deep (u_byteAt (x1 := x1 + x3) (by omega) (by omega) (fun q => by exfalso; omega) (fun _ => ?_)) (Nat.le_of_ble_eq_true rfl)
          have fa := dMulE (X := 10) (Y := x4.toInt) (x := (10 : Int32)) (y := x4) (by decide) rfl (by omega) (by omega)
          have fb := dAddE (X := 10 * x4.toInt) (Y := ((m.1 72 (x1 + x3).toNatClampNeg) &&& (255 : Int32)).toInt) (x := (10 : Int32) * x4) (y := (m.1 72 (x1 + x3).toNatClampNeg) &&& (255 : Int32)) fa rfl (by omega) (by omega)
          have fc := dSubE (X := 10 * x4.toInt + ((m.1 72 (x1 + x3).toNatClampNeg) &&& (255 : Int32)).toInt) (Y := 48) (x := (10 : Int32) * x4 + ((m.1 72 (x1 + x3).toNatClampNeg) &&& (255 : Int32))) (y := (48 : Int32)) fb (by decide) (by omega) (by omega)
          refine l244 _ ?_
          rw [fc]
          obtain ⟨p1, p2⟩ := hp
          refine ⟨by omega, ?_⟩
          omega
        · by_cases q : x3.toInt = 0
          · have w := h5 q
            rw [ex0 q] at hl
            exact absurd ⟨w.2.1, w.2.2⟩ hl
          · omega
theorem u_cutsUp {m : dM} {Q : dM → Prop} (hsz : 0 ≤ siz m ∧ siz m ≤ 2000) (h75 : ∀ j : Nat, 0 ≤ (m.1 75 j).toInt ∧ (m.1 75 j).toInt ≤ 9999) (h73 : ∀ j : Nat, 0 ≤ (m.1 73 j).toInt ∧ (m.1 73 j).toInt ≤ 41) (hQ : ∀ m', CU m m' → Q m') : c_X12_cutsUp_70 3 m Q := by
  refine v_X12_cutsUp_70 ?_
  refine (u_main (me := m) hsz hQ 20000000).1 _ _ ⟨fun k e1 _ _ _ => dSet_k e1, fun j e1 => dSet_j e1, h75, h73, by show 0 ≤ (0 : Int32).toInt ∧ (0 : Int32).toInt ≤ 401; decide⟩ (by decide) (by decide)
end
section
/-! THE REFERENCE's read, 12: all of it (by hand) -/
theorem w70_lo : ∀ j : Fin 51, wT 70 j = none ∨ wT 70 j = fR := by decide
theorem s70 {j : Nat} {lo hi : Int} (h : sT 70 j = some (lo, hi)) : (j = 2 ∧ lo = 0 ∧ hi = 2000) ∨ (j = 18 ∧ lo = 0 ∧ hi = 1) ∨ (j = 63 ∧ lo = 0 ∧ hi = 20) := by
  by_cases h2 : j = 2
  · subst h2; cases h; exact Or.inl ⟨rfl, rfl, rfl⟩
  · by_cases h3 : j = 18
    · subst h3; cases h; exact Or.inr (Or.inl ⟨rfl, rfl, rfl⟩)
    · by_cases h4 : j = 63
      · subst h4; cases h; exact Or.inr (Or.inr ⟨rfl, rfl, rfl⟩)
      exfalso
      unfold sT at h
      split at h
      all_goals first
        | (rename_i q; exact absurd q (by decide))
        | skip
      all_goals first | (cases h; done) | (split at h <;> first | omega | (cases h; done))
theorem w_mid2 {k : Nat} (h1 : 71 ≤ k) (h2 : k ≤ 104) : ∀ j, wT k j = none ∨ wT k j = fR := by
  have H : ∀ n : Nat, n < 34 → ∀ j, wT (71 + n) j = none ∨ wT (71 + n) j = fR := by
    intro n hn j
    match n, hn with
    | 5, _ | 6, _ | 7, _ => exact Or.inr rfl
    | 0, _ | 1, _ | 2, _ | 3, _ | 4, _ | 8, _ | 9, _ | 10, _ | 11, _ | 12, _ | 13, _ | 14, _ | 15, _ | 16, _ | 17, _ | 18, _ | 19, _ | 20, _ | 21, _ | 22, _ | 23, _ | 24, _ | 25, _ | 26, _ | 27, _ | 28, _ | 29, _ | 30, _ | 31, _ | 32, _ | 33, _ => exact Or.inl rfl
    | n + 34, hn => omega
  have := H (k - 71) (by omega)
  rw [show 71 + (k - 71) = k by omega] at this
  exact this
/-- what was told is bounded -/
theorem PF.okb {m m0 M : dM} {L s : Nat} (hO : Ok m) (h1 : ∀ k : Nat, k ≠ 70 → m0.1 k = m.1 k) (h2 : ∀ j : Nat, j ≠ 2 → j ≠ 19 → m0.1 70 j = m.1 70 j) (h3 : (m0.1 70 2).toInt = 0) (h : PF m0 L s M) : OkB M := by
  obtain ⟨a1, a2, a3, a4⟩ := h
  intro k j lo hi q
  by_cases hk : k < 70 ∨ 105 ≤ k
  · rw [a1 k hk, h1 k (by omega)]
    exact hO.b k j lo hi q
  · by_cases hk2 : k = 70
    · subst hk2
      by_cases hj : 51 ≤ j
      · rw [a2 j (by omega), h2 j (by omega) (by omega)]
        exact hO.b 70 j lo hi q
      · rcases q with q | q
        · have w := w70_lo ⟨j, by omega⟩
          have w : wT 70 j = none ∨ wT 70 j = fR := w
          rcases w with w | w
          · rw [w] at q; cases q
          · rw [w] at q; cases q
            exact ⟨e_lo _, e_hi _⟩
        · rcases s70 q with ⟨rfl, rfl, rfl⟩ | ⟨rfl, rfl, rfl⟩ | ⟨rfl, rfl, rfl⟩
          · rw [a2 2 (by omega)]; omega
          · rw [a2 18 (by omega), h2 18 (by omega) (by omega)]
            exact hO.b 70 18 0 1 (Or.inr rfl)
          · exfalso; omega
    · rcases q with q | q
      · rcases w_mid2 (k := k) (by omega) (by omega) j with w | w
        · rw [w] at q; cases q
        · rw [w] at q; cases q
          exact ⟨e_lo _, e_hi _⟩
      · exact a4 k j lo hi (by omega) q
theorem gPc_side {g g' : gM} {L : Nat} {a b : Int} (hc : ∀ k j : Nat, k = 102 ∨ k = 103 → 420 * L ≤ j → j < 420 * L + 420 → g' k j = g k j) (h : gPc g L a b) : gPc g' L a b := by
  obtain ⟨h1, h2, h3, h4, h5⟩ := h
  exact ⟨h1, h2, h3, h4, gSeg_congr2 (fun j e1 e2 => ⟨hc 102 j (Or.inl rfl) (by omega) (by omega), hc 103 j (Or.inr rfl) (by omega) (by omega)⟩) h5⟩
/-- the live side as it was -/
theorem Gx_side {g g' : gM} (hb : (0 ≤ (g 86 (gL g)).toInt ∧ (g 86 (gL g)).toInt ≤ 8) ∧ (0 ≤ (g 82 (gL g)).toInt ∧ (g 82 (gL g)).toInt ≤ 10)) (h18 : g' 70 18 = g 70 18) (h2 : g' 2 = g 2) (h7 : g' 7 = g 7) (hc : ∀ k j : Nat, 71 ≤ k → rg k * gL g ≤ j → j < rg k * gL g + rg k → g' k j = g k j) (hG : Gx g) : Gx g' := by
  have eL : gL g' = gL g := by unfold gL; rw [h18]
  obtain ⟨x1, x2, x3, x4⟩ := hG
  unfold Gx
  rw [eL]
  generalize gL g = L at *
  have e86 : g' 86 L = g 86 L := hc 86 L (by decide) (by show 1 * L ≤ L; omega) (by show L < 1 * L + 1; omega)
  have e82 : g' 82 L = g 82 L := hc 82 L (by decide) (by show 1 * L ≤ L; omega) (by show L < 1 * L + 1; omega)
  refine ⟨by rw [h2, h7]; exact x1, fun u hu => ?_, fun w hw => ?_, fun k hk => ?_⟩
  · rw [e86] at hu
    rw [hc 87 (8 * L + u) (by decide) (by show 8 * L ≤ 8 * L + u; omega) (by show 8 * L + u < 8 * L + 8; omega)]
    exact x2 u hu
  · rw [e82] at hw
    rw [hc 83 (10 * L + w) (by decide) (by show 10 * L ≤ 10 * L + w; omega) (by show 10 * L + w < 10 * L + 10; omega), hc 84 (10 * L + w) (by decide) (by show 10 * L ≤ 10 * L + w; omega) (by show 10 * L + w < 10 * L + 10; omega)]
    exact x3 w hw
  · rw [hc 95 (4 * L + k) (by decide) (by show 4 * L ≤ 4 * L + k; omega) (by show 4 * L + k < 4 * L + 4; omega), hc 96 (4 * L + k) (by decide) (by show 4 * L ≤ 4 * L + k; omega) (by show 4 * L + k < 4 * L + 4; omega)]
    have up : ∀ a b : Int, gPc g L a b → gPc g' L a b := fun a b q => gPc_side (fun k j e1 e2 e3 => by
      rcases e1 with rfl | rfl
      · exact hc 102 j (by decide) e2 e3
      · exact hc 103 j (by decide) e2 e3) q
    rcases x4 k hk with q | ⟨q1, q2, q3, q4⟩
    · exact Or.inl q
    · refine Or.inr ⟨q1, q2, q3, fun j e1 e2 => ?_⟩
      have w := q4 j e1 e2
      have e : ∀ c : Nat, c = 97 ∨ c = 98 ∨ c = 99 ∨ c = 100 ∨ c = 101 → g' c j = g c j := fun c hc' => by
        rcases hc' with rfl | rfl | rfl | rfl | rfl
        all_goals exact hc _ j (by decide) (by show 130 * L ≤ j; omega) (by show j < 130 * L + 130; omega)
      unfold gBr at w ⊢
      rw [e 97 (by omega), e 98 (by omega), e 99 (by omega), e 100 (by omega), e 101 (by omega)]
      exact ⟨fun z => ⟨up _ _ (w.1 z).1, up _ _ (w.1 z).2⟩, up _ _ w.2⟩
/-- a side made plain -/
theorem u_plain_52 {m0 : dM} {L s : Nat} {x1 : Int32} {Q : dM → Prop} (hL : L + s = 1) (hx : x1.toInt = s) (mb : dM) (hQ : ∀ m', PF m0 L s m' → m'.1 70 = mb.1 70 → (∀ k : Nat, k ≠ 95 → k ≠ 96 → m'.1 k = mb.1 k) → (∀ k : Nat, k < 4 → (m'.1 95 (4 * s + k)).toInt = (m'.1 96 (4 * s + k)).toInt) → Q m') : ∀ (n : Nat) (x2 : Int32) (m : dM), PF m0 L s m → (∀ k : Nat, k ≠ 95 → k ≠ 96 → m.1 k = mb.1 k) → 0 ≤ x2.toInt ∧ x2.toInt ≤ 4 → (∀ k : Nat, (k : Int) < x2.toInt → (m.1 95 (4 * s + k)).toInt = (m.1 96 (4 * s + k)).toInt) → 4 - x2.toInt < n → j_X12_plain_70_52 1 x1 x2 m Q := by
  intro n
  induction n with
  | zero => intro x2 m hF hk h2 hz hμ; exfalso; omega
  | succ n ih =>
    intro x2 m hF hk h2 hz hμ
    refine v_X12_plain_70_52 ⟨fun hc => hQ m hF (hk 70 (by decide) (by decide)) hk (fun k h4 => hz k (by omega)), fun hc => ?_⟩
    have fm := dMulE (X := 4) (Y := (s : Int)) (x := (4 : Int32)) (y := x1) (by decide) hx (by omega) (by omega)
    have fa := dAddE (X := 4 * (s : Int)) (Y := x2.toInt) (x := (4 : Int32) * x1) (y := x2) fm rfl (by omega) (by omega)
    have f2 := dAddE (X := x2.toInt) (Y := 1) (x := x2) (y := (1 : Int32)) rfl (by decide) (by omega) (by omega)
    have eI : ((4 : Int32) * x1 + x2).toNatClampNeg = 4 * s + x2.toInt.toNat := by
      have := d_cl (x := (4 : Int32) * x1 + x2) (by omega)
      omega
    refine ⟨by omega, ⟨by omega, ?_⟩⟩
    rw [eI]
    refine ih _ _ ?_ (fun k e1 e2 => by rw [dSet_k e2, dSet_k e1]; exact hk k e1 e2) (by omega) (fun k hk2 => ?_) (by omega)
    · refine PF.set (PF.set hF hL (by decide) (by decide) (Or.inr ?_) (fun lo hi q => by cases q)) hL (by decide) (by decide) (Or.inr ?_) (fun lo hi q => by cases q)
      · show 4 * s ≤ _ ∧ _ < 4 * s + 4; omega
      · show 4 * s ≤ _ ∧ _ < 4 * s + 4; omega
    · by_cases q : k = x2.toInt.toNat
      · rw [q, dSet_s, dSet_k (show (95 : Nat) ≠ 96 by decide), dSet_s]
      · have eA : (dSet (dSet m 95 (4 * s + x2.toInt.toNat) (0 : Int32)) 96 (4 * s + x2.toInt.toNat) (0 : Int32)).1 95 (4 * s + k) = m.1 95 (4 * s + k) := by rw [dSet_k (show (95 : Nat) ≠ 96 by decide), dSet_j (by omega)]
        have eB : (dSet (dSet m 95 (4 * s + x2.toInt.toNat) (0 : Int32)) 96 (4 * s + x2.toInt.toNat) (0 : Int32)).1 96 (4 * s + k) = m.1 96 (4 * s + k) := by rw [dSet_j (by omega), dSet_k (show (96 : Nat) ≠ 95 by decide)]
        rw [eA, eB]
        exact hz k (by omega)
theorem u_plain {m0 m : dM} {L s : Nat} {x1 : Int32} {Q : dM → Prop} (hL : L + s = 1) (hx : x1.toInt = s) (hF : PF m0 L s m) (hQ : ∀ m', PF m0 L s m' → m'.1 70 = m.1 70 → ((m'.1 80 s).toInt = 0 ∧ (m'.1 82 s).toInt = 0 ∧ (m'.1 86 s).toInt = 0) → (∀ k : Nat, k < 4 → (m'.1 95 (4 * s + k)).toInt = (m'.1 96 (4 * s + k)).toInt) → Q m') : c_X12_plain_70 1 x1 m Q := by
  have eI : x1.toNatClampNeg = s := by
    have := d_cl (x := x1) (by omega)
    omega
  refine v_X12_plain_70 ⟨by omega, ⟨by omega, ⟨by omega, ⟨by omega, ⟨by omega, ⟨by omega, ⟨by omega, ?_⟩⟩⟩⟩⟩⟩⟩
  rw [eI]
  have one : ∀ (k : Nat) (v : Int32) (X : dM), (k = 80 ∨ k = 82 ∨ k = 86 ∨ k = 91 ∨ k = 92 ∨ k = 93 ∨ k = 94) → ((k = 80 ∨ k = 82 ∨ k = 86) → v = 0) → PF m0 L s X → PF m0 L s (dSet X k s v) := fun k v X hk hv F => by
    refine F.set hL (by omega) (by omega) (Or.inr ?_) (fun lo hi q => ?_)
    · rcases hk with rfl | rfl | rfl | rfl | rfl | rfl | rfl <;> (show 1 * s ≤ s ∧ s < 1 * s + 1; omega)
    · rcases hk with rfl | rfl | rfl | rfl | rfl | rfl | rfl
      · cases q; rw [hv (by decide)]; decide
      · cases q; rw [hv (by decide)]; decide
      · cases q; rw [hv (by decide)]; decide
      all_goals cases q
  refine u_plain_52 hL hx (dSet (dSet (dSet (dSet (dSet (dSet (dSet m 80 s (0 : Int32)) 82 s (0 : Int32)) 86 s (0 : Int32)) 91 s (0 : Int32)) 92 s (0 : Int32)) 93 s (100 : Int32)) 94 s (0 : Int32)) (fun m' F e70 ek ez => hQ m' F e70 ?_ ez) 5 (0 : Int32) _ (one 94 _ _ (by decide) (fun q => by exfalso; omega) (one 93 _ _ (by decide) (fun q => by exfalso; omega) (one 92 _ _ (by decide) (fun q => by exfalso; omega) (one 91 _ _ (by decide) (fun q => by exfalso; omega) (one 86 _ _ (by decide) (fun _ => rfl) (one 82 _ _ (by decide) (fun _ => rfl) (one 80 _ _ (by decide) (fun _ => rfl) hF))))))) (fun _ _ _ => rfl) (by decide) (fun k hk => by have h0 : (0 : Int32).toInt = 0 := rfl; exfalso; omega) (by decide)
  rw [ek 80 (by decide) (by decide), ek 82 (by decide) (by decide), ek 86 (by decide) (by decide)]
  refine ⟨?_, ?_, ?_⟩
  · rw [dSet_k (by decide), dSet_k (by decide), dSet_k (by decide), dSet_k (by decide), dSet_k (by decide), dSet_k (by decide), dSet_s]; decide
  · rw [dSet_k (by decide), dSet_k (by decide), dSet_k (by decide), dSet_k (by decide), dSet_k (by decide), dSet_s]; decide
  · rw [dSet_k (by decide), dSet_k (by decide), dSet_k (by decide), dSet_k (by decide), dSet_s]; decide
end
section
/-! THE REFERENCE's read, 13: read (by hand) -/
section READ
variable {m m0 : dM} {L s : Nat} {Q : Int32 → dM → Prop}
theorem r_219 {mb : dM} (hQ : ∀ (r : Int32) (m' : dM), Ok m' → (∀ k : Nat, k ≠ 115 → m'.1 k = mb.1 k) → Q r m') : ∀ (n : Nat) (x1 : Int32) (M : dM), Ok M → (∀ k : Nat, k ≠ 115 → M.1 k = mb.1 k) → 0 ≤ x1.toInt ∧ x1.toInt ≤ 3 → 3 - x1.toInt < n → j_X12_read_70_219 9 x1 M Q := by
  intro n
  induction n with
  | zero => intro x1 M hI hb h1 hμ; exfalso; omega
  | succ n ih =>
    intro x1 M hI hb h1 hμ
    have f1 := dAddE (X := x1.toInt) (Y := 1) (x := x1) (y := (1 : Int32)) rfl (by decide) (by omega) (by omega)
    exact v_X12_read_70_219 ⟨fun _ => hQ _ _ hI hb, fun hc => ⟨by omega, ih _ _ (Ok.gen0 hI (by decide) rfl rfl) (fun k hk => by rw [dSet_k hk]; exact hb k hk) (by omega) (by omega)⟩⟩
/-- told to the end -/
theorem r_134 (hO : Ok m) (hL : L + s = 1) (hL0 : (m.1 70 18).toInt = L) (h1 : ∀ k : Nat, k ≠ 70 → m0.1 k = m.1 k) (h2 : ∀ j : Nat, j ≠ 2 → j ≠ 19 → m0.1 70 j = m.1 70 j) (h3 : (m0.1 70 2).toInt = 0) (h4 : (m0.1 70 19).toInt = s) (hQ : ∀ (r : Int32) (m' : dM), Ok m' → (m'.1 70 2).toInt = 0 → m'.1 0 1 = m.1 0 1 → Q r m') {M : dM} (hI : PI m0 L s M) : j_X12_read_70_134 9 M Q := by
  obtain ⟨hF, ht, hf, hG⟩ := hI
  have B := PF.okb hO h1 h2 h3 hF
  have sd := hF.sd h4
  have eL : gL m.1 = L := by unfold gL; omega
  have e18 : M.1 70 18 = m.1 70 18 := by rw [hF.2.1 18 (by omega), h2 18 (by omega) (by omega)]
  have kk : ∀ k : Nat, k < 70 → M.1 k = m.1 k := fun k hk => by rw [hF.1 k (Or.inl hk), h1 k (by omega)]
  have e2 : (M.1 70 2).toInt = 0 := by rw [hF.2.1 2 (by omega)]; exact h3
  have set17 : ∀ v : Int32, OkB (dSet M 70 17 v) := fun v => OkB.set B (fun lo hi h => by rcases h with h | h <;> cases h)
  have bad : ∀ r v : Int32, Q r (dSet M 70 17 v) := fun r v => by
    refine hQ r _ (Ok.mk (set17 v) (Gx_side (g := m.1) ?_ e18 ?_ ?_ (fun k j e0 e1 e3 => ?_) hO.1.2)) e2 ?_
    · rw [eL]
      exact ⟨hO.s (k := 86) (j := L) rfl, hO.s (k := 82) (j := L) rfl⟩
    · rw [dSet_k (by decide)]; exact kk 2 (by decide)
    · rw [dSet_k (by decide)]; exact kk 7 (by decide)
    · rw [dSet_k (by omega)]
      rw [eL] at e1 e3
      rw [hF.2.2.1 k j e0 e1 e3, h1 k (by omega)]
    · rw [dSet_k (by decide), kk 0 (by decide)]
  have good : ∀ v : Int32, flt M ≤ 0 → wst M ≤ 0 → c_X12_begins_70 8 (dSet (dSet M 70 17 v) 70 18 (M.1 70 19)) (fun m1 => c_X12_keepsRow_70 8 m1 (fun m2 => j_X12_read_70_219 9 (0 : Int32) (dSet (dSet m2 70 61 (0 : Int32)) 70 63 (0 : Int32)) Q)) := fun v hf0 hw0 => by
    have g := hG (by omega)
    obtain ⟨g1, g2, g3, g4, g5, g6, g7⟩ := g
    have g7 := g7 (by omega)
    have O : Ok (dSet (dSet M 70 17 v) 70 18 (M.1 70 19)) := by
      refine Ok.mk (OkB.set (set17 v) (fun lo hi h => ?_)) ?_
      · rcases h with h | h
        · cases h
        · cases h; omega
      · have eL2 : gL (dSet (dSet M 70 17 v) 70 18 (M.1 70 19)).1 = s := by
          show (M.1 70 19).toInt.toNat = s
          omega
        have ek : ∀ k : Nat, k ≠ 70 → (dSet (dSet M 70 17 v) 70 18 (M.1 70 19)).1 k = M.1 k := fun k hk => by rw [dSet_k hk, dSet_k hk]
        unfold Gx
        rw [eL2]
        refine ⟨?_, ?_, ?_, fun k hk => ?_⟩
        · rw [ek 2 (by decide), ek 7 (by decide), kk 2 (by decide), kk 7 (by decide)]
          exact hO.1.2.1
        · rw [ek 86 (by decide), ek 87 (by decide)]
          exact g7.2
        · rw [ek 82 (by decide), ek 83 (by decide), ek 84 (by decide)]
          exact g7.1
        · rw [ek 95 (by decide), ek 96 (by decide)]
          have up : ∀ a b : Int, gPc M.1 s a b → gPc (dSet (dSet M 70 17 v) 70 18 (M.1 70 19)).1 s a b := fun a b q => gPc_side (fun k j e1 _ _ => by rw [ek k (by omega)]) q
          rcases g5 k hk with q | ⟨q1, q2, q3, q4⟩
          · exact Or.inl q
          · refine Or.inr ⟨q1, q2, by omega, fun j e1 e3 => ?_⟩
            have w := q4 j e1 e3
            unfold gBr
            rw [ek 97 (by decide), ek 98 (by decide), ek 99 (by decide), ek 100 (by decide), ek 101 (by decide)]
            exact ⟨fun z => ⟨up _ _ (w.1 z).1.1, up _ _ (w.1 z).2.1⟩, up _ _ w.2.1⟩
    refine Wp.deep (s_X12_begins_70 O.1 O.2 (fun m1 I1 => ?_)) (Nat.le_of_ble_eq_true rfl)
    refine Wp.deep (s_X12_keepsRow_70 O.1 I1 (fun m2 I2 => ?_)) (Nat.le_of_ble_eq_true rfl)
    have O3 : Ok (dSet (dSet m2 70 61 (0 : Int32)) 70 63 (0 : Int32)) := Ok.set70 (Ok.of O.1 (Inv.set I2 (lo := 0) (hi := 40) rfl (by decide) (by decide))) (by decide) (fun lo hi h => by
      rcases h with h | h
      · cases h
      · cases h; decide)
    refine r_219 (mb := dSet (dSet m2 70 61 (0 : Int32)) 70 63 (0 : Int32)) (fun r m' O' hb => hQ r m' O' ?_ ?_) 4 _ _ O3 (fun _ _ => rfl) (by decide) (by decide)
    · rw [hb 70 (by decide)]
      show (m2.1 70 2).toInt = 0
      rw [I2.2 70 2 rfl]; exact e2
    · rw [hb 0 (by decide)]
      show m2.1 0 1 = m.1 0 1
      rw [I2.2 0 1 rfl, dSet_k (by decide), dSet_k (by decide), kk 0 (by decide)]
  refine v_X12_read_70_134 ⟨fun a => ⟨fun b => ⟨fun c => ⟨fun d => good _ c d, fun _ => bad _ _⟩, fun _ => bad _ _⟩, fun b => ⟨fun c => ⟨fun d => good _ c d, fun _ => bad _ _⟩, fun _ => bad _ _⟩⟩, fun a => ⟨fun b => ⟨fun d => good _ b d, fun _ => bad _ _⟩, fun _ => bad _ _⟩⟩
theorem r_112 (hL : L + s = 1) (h4 : (m0.1 70 19).toInt = s) (hQ : ∀ M, PI m0 L s M → j_X12_read_70_134 9 M Q) : ∀ (n : Nat) (M : dM), PI m0 L s M → (flt M = 0 → 400 - tt M < n) → j_X12_read_70_112 9 M Q := by
  intro n
  induction n with
  | zero =>
    intro M hI hμ
    refine v_X12_read_70_112 ⟨fun _ => hQ M hI, fun h0 => ?_⟩
    have := hμ h0
    have := hI.2.1
    exfalso; omega
  | succ n ih =>
    intro M hI hμ
    refine v_X12_read_70_112 ⟨fun _ => hQ M hI, fun h0 => ?_⟩
    have h0 : flt M = 0 := h0
    have hm := hμ h0
    refine Wp.deep (p_is hI.2.1 (fun _ _ => ⟨fun _ => hQ M hI, fun q => absurd q (by decide)⟩) (fun _ => ⟨fun q => absurd rfl q, fun _ => ?_⟩)) (Nat.le_of_ble_eq_true rfl)
    exact p_tellOne hL h4 hI.1 hI.2.1 h0 (hI.2.2.2 h0) (fun m' hI' ht' => ih m' hI' (fun q => by have := ht' q; omega))
/-- the tape over -/
theorem r_10 (hL : L + s = 1) (hz : (m.1 70 2).toInt ≤ 2000) (hQ : ∀ M, PF m L s M → M.1 70 4 = m.1 70 2 → c_X12_cutsUp_70 8 (dSet M 70 2 (0 : Int32)) (fun m1 => c_X12_plain_70 8 ((1 : Int32) - (m1.1 70 18)) (dSet (dSet (dSet (dSet (dSet (dSet m1 70 11 (0 : Int32)) 70 12 (0 : Int32)) 70 13 (0 : Int32)) 70 15 (0 : Int32)) 70 19 ((1 : Int32) - (m1.1 70 18))) 70 20 (0 : Int32)) (fun m2 => j_X12_read_70_112 9 (dSet (dSet m2 70 40 ((130 : Int32) * (m2.1 70 19))) 70 46 ((420 : Int32) * (m2.1 70 19))) Q))) : ∀ (n : Nat) (x1 : Int32) (M : dM), PF m L s M → M.1 70 4 = m.1 70 2 → 0 ≤ x1.toInt ∧ x1.toInt ≤ 2000 → 2000 - x1.toInt < n → j_X12_read_70_10 9 x1 M Q := by
  intro n
  induction n with
  | zero => intro x1 M hF h4 h1 hμ; exfalso; omega
  | succ n ih =>
    intro x1 M hF h4 h1 hμ
    refine v_X12_read_70_10 ⟨fun _ => hQ M hF h4, fun hc => ?_⟩
    rw [h4] at hc
    have f1 := dAddE (X := x1.toInt) (Y := 1) (x := x1) (y := (1 : Int32)) rfl (by decide) (by omega) (by omega)
    exact ⟨by omega, ⟨by omega, ih _ _ (hF.set hL (by decide) (by decide) (Or.inl rfl) (fun lo hi q => by cases q)) h4 (by omega) (by omega)⟩⟩
end READ
theorem m_X12_read {m : dM} {Q : Int32 → dM → Prop} (hO : Ok m) (hQ : ∀ (r : Int32) (m' : dM), Ok m' → (m'.1 70 2).toInt = 0 → m'.1 0 1 = m.1 0 1 → Q r m') : c_X12_read_70 9 m Q := by
  have b2 := hO.s (k := 70) (j := 2) rfl
  have b18 := hO.s (k := 70) (j := 18) rfl
  obtain ⟨L, s, hL, hL0⟩ : ∃ L s : Nat, L + s = 1 ∧ (m.1 70 18).toInt = L := ⟨(m.1 70 18).toInt.toNat, 1 - (m.1 70 18).toInt.toNat, by omega, by omega⟩
  have fs := dSubE (X := 1) (Y := (L : Int)) (x := (1 : Int32)) (y := m.1 70 18) (by decide) hL0 (by omega) (by omega)
  have F0 : PF m L s m := ⟨fun _ _ => rfl, fun _ _ => rfl, fun _ _ _ _ _ => rfl, fun k j lo hi _ h => hO.s h⟩
  refine v_X12_read_70 (r_10 (L := L) (s := s) hL b2.2 (fun M hF e4 => ?_) 2001 (0 : Int32) _ (F0.set70 (by decide) (by decide) (by decide) (by decide)) rfl (by decide) (by decide))
  have eM18 : M.1 70 18 = m.1 70 18 := hF.2.1 18 (by omega)
  refine Wp.deep (u_cutsUp (m := dSet M 70 2 (0 : Int32)) ?_ (fun j => hF.2.2.2 75 j 0 9999 (by decide) rfl) (fun j => hF.2.2.2 73 j 0 41 (by decide) rfl) (fun m1 hC => ?_)) (Nat.le_of_ble_eq_true rfl)
  · show 0 ≤ (M.1 70 4).toInt ∧ (M.1 70 4).toInt ≤ 2000
    rw [e4]; exact b2
  have e18 : m1.1 70 18 = m.1 70 18 := by rw [hC.2.1 18 (by decide), dSet_j (by decide)]; exact eM18
  rw [e18]
  have F3 : PF (dSet (dSet m 70 2 (0 : Int32)) 70 19 ((1 : Int32) - m.1 70 18)) L s (dSet (dSet (dSet (dSet (dSet (dSet m1 70 11 (0 : Int32)) 70 12 (0 : Int32)) 70 13 (0 : Int32)) 70 15 (0 : Int32)) 70 19 ((1 : Int32) - (m.1 70 18))) 70 20 (0 : Int32)) := by
    have ek : ∀ k : Nat, k ≠ 70 → (dSet (dSet (dSet (dSet (dSet (dSet m1 70 11 (0 : Int32)) 70 12 (0 : Int32)) 70 13 (0 : Int32)) 70 15 (0 : Int32)) 70 19 ((1 : Int32) - (m.1 70 18))) 70 20 (0 : Int32)).1 k = m1.1 k := fun k hk => by rw [dSet_k hk, dSet_k hk, dSet_k hk, dSet_k hk, dSet_k hk, dSet_k hk]
    have e1k : ∀ k : Nat, k ≠ 70 → k ≠ 73 → k ≠ 74 → k ≠ 75 → m1.1 k = M.1 k := fun k h1 h2 h3 h4 => by rw [hC.1 k h1 h2 h3 h4, dSet_k h1]
    refine ⟨fun k h => ?_, fun j h => ?_, fun k j e0 e1 e2 => ?_, fun k j lo hi e0 h => ?_⟩
    · rw [ek k (by omega), e1k k (by omega) (by omega) (by omega) (by omega), dSet_k (by omega), dSet_k (by omega)]
      exact hF.1 k h
    · by_cases q2 : j = 2
      · subst q2
        rw [dSet_j (by decide), dSet_j (by decide), dSet_j (by decide), dSet_j (by decide), dSet_j (by decide), dSet_j (by decide), hC.2.1 2 (by decide), dSet_s, dSet_j (by decide), dSet_s]
      · by_cases q19 : j = 19
        · subst q19
          rw [dSet_j (by decide), dSet_s, dSet_s]
        · rw [dSet_j (by omega), dSet_j q19, dSet_j (by omega), dSet_j (by omega), dSet_j (by omega), dSet_j (by omega), hC.2.1 j (by omega), dSet_j q2, dSet_j q19, dSet_j q2]
          exact hF.2.1 j h
    · have h80 : 80 ≤ k := by
        by_cases q : k < 80
        · rw [rg_lo (Or.inl q)] at e1 e2
          exfalso; omega
        · omega
      rw [ek k (by omega), e1k k (by omega) (by omega) (by omega) (by omega), dSet_k (by omega), dSet_k (by omega)]
      exact hF.2.2.1 k j e0 e1 e2
    · rw [ek k (by omega)]
      by_cases q73 : k = 73
      · subst q73; cases h; exact hC.2.2.2.1 j
      · by_cases q75 : k = 75
        · subst q75; cases h; exact hC.2.2.1 j
        · by_cases q74 : k = 74
          · subst q74; cases h
          · rw [e1k k (by omega) q73 q74 q75]
            exact hF.2.2.2 k j lo hi e0 h
  refine Wp.deep (u_plain hL (by omega) F3 (fun m2 F4 e70 hz hl => ?_)) (Nat.le_of_ble_eq_true rfl)
  have e19 : m2.1 70 19 = (1 : Int32) - m.1 70 18 := by rw [e70]; rfl
  have v19 : (m2.1 70 19).toInt = s := by rw [e19]; omega
  have fb := dMulE (X := 130) (Y := (s : Int)) (x := (130 : Int32)) (y := m2.1 70 19) (by decide) v19 (by omega) (by omega)
  have fc := dMulE (X := 420) (Y := (s : Int)) (x := (420 : Int32)) (y := m2.1 70 19) (by decide) v19 (by omega) (by omega)
  have F5 := (F4.set70 (j := 40) (v := (130 : Int32) * (m2.1 70 19)) (by decide) (by decide) (by decide) (by decide)).set70 (j := 46) (v := (420 : Int32) * (m2.1 70 19)) (by decide) (by decide) (by decide) (by decide)
  have z : ∀ j : Nat, j = 11 ∨ j = 12 ∨ j = 13 ∨ j = 15 ∨ j = 20 → (m2.1 70 j).toInt = 0 := fun j hj => by
    rw [e70]
    rcases hj with rfl | rfl | rfl | rfl | rfl <;> rfl
  have z11 := z 11 (by decide)
  have z12 := z 12 (by decide)
  have z13 := z 13 (by decide)
  have z15 := z 15 (by decide)
  have z20 := z 20 (by decide)
  generalize hM5 : dSet (dSet m2 70 40 ((130 : Int32) * (m2.1 70 19))) 70 46 ((420 : Int32) * (m2.1 70 19)) = M5 at F5 ⊢
  have t5 : tt M5 = 0 := by rw [← hM5]; exact z11
  have f5 : flt M5 = 0 := by rw [← hM5]; exact z13
  have w5 : wst M5 = 0 := by rw [← hM5]; exact z15
  have o5 : opn M5 = 0 := by rw [← hM5]; exact z12
  have n5 : nms M5 = 0 := by rw [← hM5]; exact z20
  have c5 : cds M5 = 420 * s := by rw [← hM5]; exact fc
  have b5 : brs M5 = 130 * s := by rw [← hM5]; exact fb
  have k5 : ∀ k : Nat, k ≠ 70 → M5.1 k = m2.1 k := fun k hk => by rw [← hM5, dSet_k hk, dSet_k hk]
  have h4 : ((dSet (dSet m 70 2 (0 : Int32)) 70 19 ((1 : Int32) - m.1 70 18)).1 70 19).toInt = s := by rw [dSet_s]; omega
  refine r_112 hL h4 (fun X hX => r_134 hO hL hL0 (fun k hk => by rw [dSet_k hk, dSet_k hk]) (fun j e1 e2 => by rw [dSet_j e2, dSet_j e1]) (by rw [dSet_j (by decide), dSet_s]; decide) h4 hQ hX) 401 M5 ⟨F5, by omega, by omega, fun _ => ?_⟩ (fun _ => by omega)
  refine ⟨?_, o5, by omega, by omega, fun k hk => Or.inl ?_, by omega, fun _ => ⟨fun w hw => ?_, fun u hu => ?_⟩⟩
  · rw [k5 80 (by decide), k5 86 (by decide)]; omega
  · rw [k5 95 (by decide), k5 96 (by decide)]; exact hl k hk
  · rw [k5 82 (by decide)] at hw; exfalso; omega
  · rw [k5 86 (by decide)] at hu; exfalso; omega
end
section
/-! THE TEXT OF WORDS: String.length and charAt of the one literal, by hand; they only read -/
def tTx : String := "flat wire use goes quarrel costs pays surge coins seed if then else load rating age hour day amps temper dark which "
def tLen : List Nat := [116]
def tByt : List (List Int32) := [[102, 108, 97, 116, 32, 119, 105, 114, 101, 32, 117, 115, 101, 32, 103, 111, 101, 115, 32, 113, 117, 97, 114, 114, 101, 108, 32, 99, 111, 115, 116, 115, 32, 112, 97, 121, 115, 32, 115, 117, 114, 103, 101, 32, 99, 111, 105, 110, 115, 32, 115, 101, 101, 100, 32, 105, 102, 32, 116, 104, 101, 110, 32, 101, 108, 115, 101, 32, 108, 111, 97, 100, 32, 114, 97, 116, 105, 110, 103, 32, 97, 103, 101, 32, 104, 111, 117, 114, 32, 100, 97, 121, 32, 97, 109, 112, 115, 32, 116, 101, 109, 112, 101, 114, 32, 100, 97, 114, 107, 32, 119, 104, 105, 99, 104, 32]]
abbrev jB_len : ByteArray := prog_17_method_54_code
def jY_len : MethodName := ⟨"java/lang/String", "length", "()I"⟩
theorem jC_len : Cond.code jY_len jB_len 1 (some .int) ∈ lw_g := List.mem_filter.mpr ⟨kW_ok (c := 1178) rfl, rfl⟩
theorem jD_len_0 : decode jB_len 0 = .ok (.aload_n 0, 1) := by decide +kernel
theorem jD_len_1 : decode jB_len 1 = .ok (.getfield 9, 3) := by decide +kernel
theorem jD_len_4 : decode jB_len 4 = .ok (.arraylength, 1) := by decide +kernel
theorem jD_len_5 : decode jB_len 5 = .ok (.aload_n 0, 1) := by decide +kernel
theorem jD_len_6 : decode jB_len 6 = .ok (.invokevirtual 335, 3) := by decide +kernel
theorem jD_len_9 : decode jB_len 9 = .ok (.ishr, 1) := by decide +kernel
theorem jD_len_10 : decode jB_len 10 = .ok (.ireturn, 1) := by decide +kernel
theorem jI_len : Cond.instanceMethod jY_len ∈ lw_g := kIs_ok (c := 1176) (by decide +kernel)
theorem jV_len : Cond.selects jY_len.cls jY_len jY_len ∈ lw_g := kIs_ok (c := 1177) (by decide +kernel)
theorem jN_len : Cond.initialized jY_len.cls ∈ lw_g := kIs_ok (c := 1005) (by decide +kernel)
abbrev jB_chr : ByteArray := prog_17_method_56_code
def jY_chr : MethodName := ⟨"java/lang/String", "charAt", "(I)C"⟩
theorem jC_chr : Cond.code jY_chr jB_chr 2 (some .char) ∈ lw_g := List.mem_filter.mpr ⟨kW_ok (c := 1188) rfl, rfl⟩
theorem jD_chr_0 : decode jB_chr 0 = .ok (.aload_n 0, 1) := by decide +kernel
theorem jD_chr_1 : decode jB_chr 1 = .ok (.invokevirtual 492, 3) := by decide +kernel
theorem jD_chr_4 : decode jB_chr 4 = .ok (.ifCond .eq 12, 3) := by decide +kernel
theorem jD_chr_7 : decode jB_chr 7 = .ok (.aload_n 0, 1) := by decide +kernel
theorem jD_chr_8 : decode jB_chr 8 = .ok (.getfield 9, 3) := by decide +kernel
theorem jD_chr_11 : decode jB_chr 11 = .ok (.iload_n 1, 1) := by decide +kernel
theorem jD_chr_12 : decode jB_chr 12 = .ok (.invokestatic 495, 3) := by decide +kernel
theorem jD_chr_15 : decode jB_chr 15 = .ok (.ireturn, 1) := by decide +kernel
theorem jD_chr_16 : decode jB_chr 16 = .ok (.aload_n 0, 1) := by decide +kernel
theorem jD_chr_17 : decode jB_chr 17 = .ok (.getfield 9, 3) := by decide +kernel
theorem jD_chr_20 : decode jB_chr 20 = .ok (.iload_n 1, 1) := by decide +kernel
theorem jD_chr_21 : decode jB_chr 21 = .ok (.invokestatic 498, 3) := by decide +kernel
theorem jD_chr_24 : decode jB_chr 24 = .ok (.ireturn, 1) := by decide +kernel
theorem jI_chr : Cond.instanceMethod jY_chr ∈ lw_g := kIs_ok (c := 1186) (by decide +kernel)
theorem jV_chr : Cond.selects jY_chr.cls jY_chr jY_chr ∈ lw_g := kIs_ok (c := 1187) (by decide +kernel)
theorem jN_chr : Cond.initialized jY_chr.cls ∈ lw_g := kIs_ok (c := 1005) (by decide +kernel)
abbrev jB_cod : ByteArray := prog_17_method_152_code
def jY_cod : MethodName := ⟨"java/lang/String", "coder", "()B"⟩
theorem jC_cod : Cond.code jY_cod jB_cod 1 (some .byte) ∈ lw_g := List.mem_filter.mpr ⟨kW_ok (c := 1182) rfl, rfl⟩
theorem jD_cod_0 : decode jB_cod 0 = .ok (.getstatic 38, 3) := by decide +kernel
theorem jD_cod_3 : decode jB_cod 3 = .ok (.ifCond .eq 10, 3) := by decide +kernel
theorem jD_cod_6 : decode jB_cod 6 = .ok (.aload_n 0, 1) := by decide +kernel
theorem jD_cod_7 : decode jB_cod 7 = .ok (.getfield 15, 3) := by decide +kernel
theorem jD_cod_10 : decode jB_cod 10 = .ok (.goto 4, 3) := by decide +kernel
theorem jD_cod_13 : decode jB_cod 13 = .ok (.iconst 1, 1) := by decide +kernel
theorem jD_cod_14 : decode jB_cod 14 = .ok (.ireturn, 1) := by decide +kernel
theorem jI_cod : Cond.instanceMethod jY_cod ∈ lw_g := kIs_ok (c := 1180) (by decide +kernel)
theorem jV_cod : Cond.selects jY_cod.cls jY_cod jY_cod ∈ lw_g := kIs_ok (c := 1181) (by decide +kernel)
theorem jN_cod : Cond.initialized jY_cod.cls ∈ lw_g := kIs_ok (c := 1005) (by decide +kernel)
abbrev jB_lat : ByteArray := prog_17_method_154_code
def jY_lat : MethodName := ⟨"java/lang/String", "isLatin1", "()Z"⟩
theorem jC_lat : Cond.code jY_lat jB_lat 1 (some .boolean) ∈ lw_g := List.mem_filter.mpr ⟨kW_ok (c := 1192) rfl, rfl⟩
theorem jD_lat_0 : decode jB_lat 0 = .ok (.getstatic 38, 3) := by decide +kernel
theorem jD_lat_3 : decode jB_lat 3 = .ok (.ifCond .eq 14, 3) := by decide +kernel
theorem jD_lat_6 : decode jB_lat 6 = .ok (.aload_n 0, 1) := by decide +kernel
theorem jD_lat_7 : decode jB_lat 7 = .ok (.getfield 15, 3) := by decide +kernel
theorem jD_lat_10 : decode jB_lat 10 = .ok (.ifCond .ne 7, 3) := by decide +kernel
theorem jD_lat_13 : decode jB_lat 13 = .ok (.iconst 1, 1) := by decide +kernel
theorem jD_lat_14 : decode jB_lat 14 = .ok (.goto 4, 3) := by decide +kernel
theorem jD_lat_17 : decode jB_lat 17 = .ok (.iconst 0, 1) := by decide +kernel
theorem jD_lat_18 : decode jB_lat 18 = .ok (.ireturn, 1) := by decide +kernel
theorem jI_lat : Cond.instanceMethod jY_lat ∈ lw_g := kIs_ok (c := 1190) (by decide +kernel)
theorem jV_lat : Cond.selects jY_lat.cls jY_lat jY_lat ∈ lw_g := kIs_ok (c := 1191) (by decide +kernel)
theorem jN_lat : Cond.initialized jY_lat.cls ∈ lw_g := kIs_ok (c := 1005) (by decide +kernel)
abbrev jB_chk : ByteArray := prog_17_method_155_code
def jY_chk : MethodName := ⟨"java/lang/String", "checkIndex", "(II)V"⟩
theorem jC_chk : Cond.code jY_chk jB_chk 2 none ∈ lw_g := List.mem_filter.mpr ⟨kW_ok (c := 1198) rfl, rfl⟩
theorem jD_chk_0 : decode jB_chk 0 = .ok (.iload_n 0, 1) := by decide +kernel
theorem jD_chk_1 : decode jB_chk 1 = .ok (.iload_n 1, 1) := by decide +kernel
theorem jD_chk_2 : decode jB_chk 2 = .ok (.getstatic 1053, 3) := by decide +kernel
theorem jD_chk_5 : decode jB_chk 5 = .ok (.invokestatic 1059, 3) := by decide +kernel
theorem jD_chk_8 : decode jB_chk 8 = .ok (.pop, 1) := by decide +kernel
theorem jD_chk_9 : decode jB_chk 9 = .ok (.return_, 1) := by decide +kernel
theorem jS_chk : Cond.static jY_chk ∈ lw_g := kIs_ok (c := 1197) (by decide +kernel)
theorem jN_chk : Cond.initialized jY_chk.cls ∈ lw_g := kIs_ok (c := 1005) (by decide +kernel)
abbrev jB_lch : ByteArray := prog_18_method_2_code
def jY_lch : MethodName := ⟨"java/lang/StringLatin1", "charAt", "([BI)C"⟩
theorem jC_lch : Cond.code jY_lch jB_lch 2 (some .char) ∈ lw_g := List.mem_filter.mpr ⟨kW_ok (c := 1195) rfl, rfl⟩
theorem jD_lch_0 : decode jB_lch 0 = .ok (.iload_n 1, 1) := by decide +kernel
theorem jD_lch_1 : decode jB_lch 1 = .ok (.aload_n 0, 1) := by decide +kernel
theorem jD_lch_2 : decode jB_lch 2 = .ok (.arraylength, 1) := by decide +kernel
theorem jD_lch_3 : decode jB_lch 3 = .ok (.invokestatic 9, 3) := by decide +kernel
theorem jD_lch_6 : decode jB_lch 6 = .ok (.aload_n 0, 1) := by decide +kernel
theorem jD_lch_7 : decode jB_lch 7 = .ok (.iload_n 1, 1) := by decide +kernel
theorem jD_lch_8 : decode jB_lch 8 = .ok (.baload, 1) := by decide +kernel
theorem jD_lch_9 : decode jB_lch 9 = .ok (.sipush 255, 3) := by decide +kernel
theorem jD_lch_12 : decode jB_lch 12 = .ok (.iand, 1) := by decide +kernel
theorem jD_lch_13 : decode jB_lch 13 = .ok (.i2c, 1) := by decide +kernel
theorem jD_lch_14 : decode jB_lch 14 = .ok (.ireturn, 1) := by decide +kernel
theorem jS_lch : Cond.static jY_lch ∈ lw_g := kIs_ok (c := 1194) (by decide +kernel)
theorem jN_lch : Cond.initialized jY_lch.cls ∈ lw_g := kIs_ok (c := 1006) (by decide +kernel)
abbrev jB_pre : ByteArray := prog_22_method_11_code
def jY_pre : MethodName := ⟨"jdk/internal/util/Preconditions", "checkIndex", "(IILjava/util/function/BiFunction;)I"⟩
theorem jC_pre : Cond.code jY_pre jB_pre 3 (some .int) ∈ lw_g := List.mem_filter.mpr ⟨kW_ok (c := 1203) rfl, rfl⟩
theorem jD_pre_0 : decode jB_pre 0 = .ok (.iload_n 0, 1) := by decide +kernel
theorem jD_pre_1 : decode jB_pre 1 = .ok (.ifCond .lt 8, 3) := by decide +kernel
theorem jD_pre_4 : decode jB_pre 4 = .ok (.iload_n 0, 1) := by decide +kernel
theorem jD_pre_5 : decode jB_pre 5 = .ok (.iload_n 1, 1) := by decide +kernel
theorem jD_pre_6 : decode jB_pre 6 = .ok (.if_icmp .lt 10, 3) := by decide +kernel
theorem jD_pre_9 : decode jB_pre 9 = .ok (.aload_n 2, 1) := by decide +kernel
theorem jD_pre_10 : decode jB_pre 10 = .ok (.iload_n 0, 1) := by decide +kernel
theorem jD_pre_11 : decode jB_pre 11 = .ok (.iload_n 1, 1) := by decide +kernel
theorem jD_pre_12 : decode jB_pre 12 = .ok (.invokestatic 95, 3) := by decide +kernel
theorem jD_pre_15 : decode jB_pre 15 = .ok (.athrow, 1) := by decide +kernel
theorem jD_pre_16 : decode jB_pre 16 = .ok (.iload_n 0, 1) := by decide +kernel
theorem jD_pre_17 : decode jB_pre 17 = .ok (.ireturn, 1) := by decide +kernel
theorem jS_pre : Cond.static jY_pre ∈ lw_g := kIs_ok (c := 1202) (by decide +kernel)
theorem jN_pre : Cond.initialized jY_pre.cls ∈ lw_g := kIs_ok (c := 1007) (by decide +kernel)
theorem jF_38 : Cond.fieldLink "java/lang/String" 38 "java/lang/String" "COMPACT_STRINGS" "Z" ∈ lw_g := kIs_ok (c := 1183) (by decide +kernel)
theorem jF_1053 : Cond.fieldLink "java/lang/String" 1053 "jdk/internal/util/Preconditions" "SIOOBE_FORMATTER" "Ljava/util/function/BiFunction;" ∈ lw_g := kIs_ok (c := 1199) (by decide +kernel)
theorem jF_9 : Cond.fieldLink "java/lang/String" 9 "java/lang/String" "value" "[B" ∈ lw_g := kIs_ok (c := 8183) (by decide +kernel)
theorem jF_15 : Cond.fieldLink "java/lang/String" 15 "java/lang/String" "coder" "B" ∈ lw_g := kIs_ok (c := 8184) (by decide +kernel)
theorem jM_len_31 : Cond.methodLink "FuseTreaty$Tokens" 31 jY_len ∈ lw_g := kIs_ok (c := 1175) (by decide +kernel)
theorem jM_chr_36 : Cond.methodLink "FuseTreaty$Tokens" 36 jY_chr ∈ lw_g := kIs_ok (c := 1185) (by decide +kernel)
theorem jM_cod_335 : Cond.methodLink "java/lang/String" 335 jY_cod ∈ lw_g := kIs_ok (c := 1179) (by decide +kernel)
theorem jM_lat_492 : Cond.methodLink "java/lang/String" 492 jY_lat ∈ lw_g := kIs_ok (c := 1189) (by decide +kernel)
theorem jM_lch_495 : Cond.methodLink "java/lang/String" 495 jY_lch ∈ lw_g := kIs_ok (c := 1193) (by decide +kernel)
theorem jM_chk_9 : Cond.methodLink "java/lang/StringLatin1" 9 jY_chk ∈ lw_g := kIs_ok (c := 1196) (by decide +kernel)
theorem jM_pre_1059 : Cond.methodLink "java/lang/String" 1059 jY_pre ∈ lw_g := kIs_ok (c := 1201) (by decide +kernel)
def tFz (adK adV : Nat → Nat) : (Nat → Prop) → State → Heap → Prop := fun A U H => vk_S 1 tLen tByt adK adV A U H ∧ va_Z "java/lang/String" "COMPACT_STRINGS" "Z" (.int 1) A U H ∧ va_Zq "jdk/internal/util/Preconditions" "SIOOBE_FORMATTER" "Ljava/util/function/BiFunction;" A U H ∧ vk_R "FuseTreaty$Tokens" 29 tTx (adK 0) U
theorem tFzOk (adK adV : Nat → Nat) : eFzOk (tFz adK adV) := by
  refine ⟨fun A B U U' H H' h hW hq hAB => ?_, fun A U U' H h hv => ?_⟩
  · obtain ⟨h1, h2, h3, h4⟩ := h
    exact ⟨((h1.moved hW.alike).kept hq).narrow hAB, ((h2.moved hW.alike).kept hq).narrow hAB, ((h3.moved hW.alike).kept hq).narrow hAB, h4.warm hW⟩
  · obtain ⟨h1, h2, h3, h4⟩ := h
    have hal : U.vm.Alike U'.vm := by rw [hv]; exact Vm.Alike.refl _
    exact ⟨h1.moved hal, h2.moved hal, h3.moved hal, h4.same hv.symm⟩
def jRm (d : Nat) : Room := { frames := d, cells := 0, slots := 0, locals := 128 * d }
def jP (adK adV : Nat → Nat) (U : State) : Prop := tFz adK adV (fun _ => False) U U.heap
theorem jBl (adK adV : Nat → Nat) (av : List Value) : FrameBlind (va_Pc av (jP adK adV)) := fun a U g mk q => ⟨q.1, (tFzOk adK adV).2 _ U _ _ q.2 rfl⟩
theorem jPre {adK adV : Nat → Nat} {s U : State} (h : jP adK adV s) (hU : U.heap = s.heap) (hW : s.WarmedH U.vm) : jP adK adV U := (tFzOk adK adV).1 _ _ s U _ _ h hW (fun q _ _ => by rw [hU]) (fun _ q => q)
theorem jG {y : MethodName} {b : ByteArray} {n : Nat} {r : Option FieldType} (h : Cond.code y b n r ∈ lw_g) : GoodIn lw_g (Cond.code y b n r :: lw_g) := fun w hw => by
  rcases List.mem_cons.mp hw with rfl | hw
  · exact ⟨h, lw_g_good _ h⟩
  · exact ⟨hw, lw_g_good _ hw⟩
set_option maxRecDepth 20000 in
theorem c_cod (l0 : Launch) (adK adV : Nat → Nat) : Met l0 jY_cod (Cond.code jY_cod jB_cod 1 (some .byte) :: lw_g) (jRm 1) (va_Pc [.ref (adK 0)] (jP adK adV)) (vp_Si (fun r => r = 0)) 0 0 (fun _ => False) := by
  refine Met.ofW (cc := jB_cod) (maxL := 1) (ret := (some .byte)) (by decide) rfl ?_
  intro p e s m args below meth c s₁ B hml hv
  obtain ⟨rfl, hF⟩ := hv
  have hx := B.exec
  have hb := B.bytes
  have hr := B.returns
  have hts : ∀ w ∈ lw_g, w.before _ s = true := fun w hw => atoms_spec (ws := Cond.code jY_cod jB_cod 1 (some .byte) :: lw_g) B.pre w (List.mem_cons_of_mem _ hw)
  have hown : s.vm.findClass "java/lang/String" = some m.cls := findClass_of_methodNamed B.named
  have hlocks := B.notSynchronized
  have hS : va_S (fun _ => False) s.heap s.heap [] := va_S.rf
  have hF0 := hF
  obtain ⟨hSt, hCo, hZq, hR⟩ := hF
  have hl := lv_entry [.ref (adK 0)] (n := 1) (Nat.le_of_ble_eq_true rfl)
  rw [lg_entry_eq]
  generalize (lg_sl [.ref (adK 0)] ++ List.replicate (1 - (lg_sl [.ref (adK 0)]).length) Slot.unset).toArray = ls at hl ⊢
  have hl : lv_has ls 1 [(0, .ref (adK 0))] := hl
  refine va_gets hx hb hCo hS hown (hts _ jF_38) (fun _ z => z) jD_cod_0 ?_
  refine lv_if_eq (tgt := 13) hx hb jD_cod_3 (by decide) (fun q => absurd q (by decide)) (fun _ => ?_)
  refine lv_aload_n hx hb jD_cod_6 rfl (lv_at hl 0 rfl) ?_
  refine vk_getf hx hb ((hSt.1 0 (by decide)).2.1) hS hown (hts _ jF_15) (fun _ z => z) jD_cod_7 ?_
  refine lv_goto (tgt := 14) hx hb jD_cod_10 (by decide) ?_
  exact W.zret hx hb hr (by decide) (fun t ht _ => ⟨0, rfl, rfl, ht⟩) (fun q h => by cases h) jD_cod_14
set_option maxRecDepth 20000 in
theorem c_lat (l0 : Launch) (adK adV : Nat → Nat) : Met l0 jY_lat (Cond.code jY_lat jB_lat 1 (some .boolean) :: lw_g) (jRm 1) (va_Pc [.ref (adK 0)] (jP adK adV)) (vp_Si (fun r => r = 1)) 0 0 (fun _ => False) := by
  refine Met.ofW (cc := jB_lat) (maxL := 1) (ret := (some .boolean)) (by decide) rfl ?_
  intro p e s m args below meth c s₁ B hml hv
  obtain ⟨rfl, hF⟩ := hv
  have hx := B.exec
  have hb := B.bytes
  have hr := B.returns
  have hts : ∀ w ∈ lw_g, w.before _ s = true := fun w hw => atoms_spec (ws := Cond.code jY_lat jB_lat 1 (some .boolean) :: lw_g) B.pre w (List.mem_cons_of_mem _ hw)
  have hown : s.vm.findClass "java/lang/String" = some m.cls := findClass_of_methodNamed B.named
  have hlocks := B.notSynchronized
  have hS : va_S (fun _ => False) s.heap s.heap [] := va_S.rf
  have hF0 := hF
  obtain ⟨hSt, hCo, hZq, hR⟩ := hF
  have hl := lv_entry [.ref (adK 0)] (n := 1) (Nat.le_of_ble_eq_true rfl)
  rw [lg_entry_eq]
  generalize (lg_sl [.ref (adK 0)] ++ List.replicate (1 - (lg_sl [.ref (adK 0)]).length) Slot.unset).toArray = ls at hl ⊢
  have hl : lv_has ls 1 [(0, .ref (adK 0))] := hl
  refine va_gets hx hb hCo hS hown (hts _ jF_38) (fun _ z => z) jD_lat_0 ?_
  refine lv_if_eq (tgt := 17) hx hb jD_lat_3 (by decide) (fun q => absurd q (by decide)) (fun _ => ?_)
  refine lv_aload_n hx hb jD_lat_6 rfl (lv_at hl 0 rfl) ?_
  refine vk_getf hx hb ((hSt.1 0 (by decide)).2.1) hS hown (hts _ jF_15) (fun _ z => z) jD_lat_7 ?_
  refine lv_if_ne (tgt := 17) hx hb jD_lat_10 (by decide) (fun q => absurd rfl q) (fun _ => ?_)
  refine lv_iconst (v := 1) hx hb jD_lat_13 (by decide) ?_
  refine lv_goto (tgt := 18) hx hb jD_lat_14 (by decide) ?_
  exact W.zret hx hb hr (by decide) (fun t ht _ => ⟨1, rfl, rfl, ht⟩) (fun q h => by cases h) jD_lat_18
set_option maxRecDepth 20000 in
theorem c_len (l0 : Launch) (adK adV : Nat → Nat) : Met l0 jY_len (Cond.code jY_len jB_len 1 (some .int) :: lw_g) (jRm 2) (va_Pc [.ref (adK 0)] (jP adK adV)) (vp_Si (fun r => r = 116)) 0 0 (fun _ => False) := by
  refine Met.ofW (cc := jB_len) (maxL := 1) (ret := (some .int)) (by decide) rfl ?_
  intro p e s m args below meth c s₁ B hml hv
  obtain ⟨rfl, hF⟩ := hv
  have hx := B.exec
  have hb := B.bytes
  have hr := B.returns
  have hts : ∀ w ∈ lw_g, w.before _ s = true := fun w hw => atoms_spec (ws := Cond.code jY_len jB_len 1 (some .int) :: lw_g) B.pre w (List.mem_cons_of_mem _ hw)
  have hown : s.vm.findClass "java/lang/String" = some m.cls := findClass_of_methodNamed B.named
  have hlocks := B.notSynchronized
  have hS : va_S (fun _ => False) s.heap s.heap [] := va_S.rf
  have hF0 := hF
  obtain ⟨hSt, hCo, hZq, hR⟩ := hF
  have hl := lv_entry [.ref (adK 0)] (n := 1) (Nat.le_of_ble_eq_true rfl)
  rw [lg_entry_eq]
  generalize (lg_sl [.ref (adK 0)] ++ List.replicate (1 - (lg_sl [.ref (adK 0)]).length) Slot.unset).toArray = ls at hl ⊢
  have hl : lv_has ls 1 [(0, .ref (adK 0))] := hl
  refine lv_aload_n hx hb jD_len_0 rfl (lv_at hl 0 rfl) ?_
  refine vk_getf hx hb ((hSt.1 0 (by decide)).2.2.1) hS hown (hts _ jF_9) (fun _ z => z) jD_len_1 ?_
  refine va_tlen hx hb ((hSt.1 0 (by decide)).2.2.2) hS rfl jD_len_4 ?_
  refine lv_aload_n hx hb jD_len_5 rfl (lv_at hl 0 rfl) ?_
  refine vp_callSi (W.runV (As := []) (rest := [.int (Int32.ofNat (tLen.getD 0 0))]) ⟨hx, hb, hml, hown, hts⟩ (c_cod l0 adK adV) ⟨callB_of 0 hts (jG jC_cod) rfl rfl rfl (hts _ jN_cod) (hts _ jM_cod_335) (by decide +kernel) ⟨by decide, by decide⟩, hts _ jI_cod, hts _ jV_cod⟩ ⟨jBl adK adV _, vk_recv hSt (by decide) hS, fun U hU hW => ⟨rfl, jPre hF0 hU hW⟩⟩ rfl rfl hl.1 rfl (lv_room (by decide)) jD_len_6 ⟨Nat.le_refl _, Nat.le_refl _⟩) (fun r hr0 => ?_)
  subst hr0
  refine lv_ishr hx hb jD_len_9 ?_
  exact W.iret hx hb hr (fun t ht _ => ⟨_, rfl, by decide, ht⟩) (fun q h => by cases h) jD_len_10
set_option maxRecDepth 20000 in
theorem c_pre (l0 : Launch) (adK adV : Nat → Nat) (i n : Int32) (w : Value) (h1 : ¬ i < 0) (h2 : i < n) (hw : w.category = 1) : Met l0 jY_pre (Cond.code jY_pre jB_pre 3 (some .int) :: lw_g) (jRm 1) (va_Pc [.int i, .int n, w] (jP adK adV)) (vp_Si (fun _ => True)) 0 0 (fun _ => False) := by
  refine Met.ofW (cc := jB_pre) (maxL := 3) (ret := (some .int)) (by decide) rfl ?_
  intro p e s m args below meth c s₁ B hml hv
  obtain ⟨rfl, hF⟩ := hv
  have hx := B.exec
  have hb := B.bytes
  have hr := B.returns
  have hts : ∀ w ∈ lw_g, w.before _ s = true := fun w hw => atoms_spec (ws := Cond.code jY_pre jB_pre 3 (some .int) :: lw_g) B.pre w (List.mem_cons_of_mem _ hw)
  have hown : s.vm.findClass "jdk/internal/util/Preconditions" = some m.cls := findClass_of_methodNamed B.named
  have hlocks := B.notSynchronized
  have hS : va_S (fun _ => False) s.heap s.heap [] := va_S.rf
  have hF0 := hF
  obtain ⟨hSt, hCo, hZq, hR⟩ := hF
  have hl := lv_entry [.int i, .int n, w] (n := 3) (by simp only [lg_sl, List.flatMap_cons, List.flatMap_nil, hw]; simp [Value.category])
  rw [lg_entry_eq]
  generalize (lg_sl [.int i, .int n, w] ++ List.replicate (3 - (lg_sl [.int i, .int n, w]).length) Slot.unset).toArray = ls at hl ⊢
  have hl : lv_has ls 3 [(0, .int i), (1, .int n), (2, w)] := hl
  refine lv_iload_n hx hb jD_pre_0 rfl (lv_at hl 0 rfl) ?_
  refine lv_if_lt (tgt := 9) hx hb jD_pre_1 (by decide) (fun q => absurd q h1) (fun _ => ?_)
  refine lv_iload_n hx hb jD_pre_4 rfl (lv_at hl 0 rfl) ?_
  refine lv_iload_n hx hb jD_pre_5 rfl (lv_at hl 1 rfl) ?_
  refine lv_icmp_lt (tgt := 16) hx hb jD_pre_6 (by decide) (fun _ => ?_) (fun q => absurd h2 q)
  refine lv_iload_n hx hb jD_pre_16 rfl (lv_at hl 0 rfl) ?_
  exact W.iret hx hb hr (fun t ht _ => ⟨_, rfl, trivial, ht⟩) (fun q h => by cases h) jD_pre_17
set_option maxRecDepth 20000 in
theorem c_chk (l0 : Launch) (adK adV : Nat → Nat) (i n : Int32) (h1 : ¬ i < 0) (h2 : i < n) : Met l0 jY_chk (Cond.code jY_chk jB_chk 2 none :: lw_g) (jRm 2) (va_Pc [.int i, .int n] (jP adK adV)) (va_Sv (fun _ => True)) 0 0 (fun _ => False) := by
  refine Met.ofW (cc := jB_chk) (maxL := 2) (ret := none) (by decide) rfl ?_
  intro p e s m args below meth c s₁ B hml hv
  obtain ⟨rfl, hF⟩ := hv
  have hx := B.exec
  have hb := B.bytes
  have hr := B.returns
  have hts : ∀ w ∈ lw_g, w.before _ s = true := fun w hw => atoms_spec (ws := Cond.code jY_chk jB_chk 2 none :: lw_g) B.pre w (List.mem_cons_of_mem _ hw)
  have hown : s.vm.findClass "java/lang/String" = some m.cls := findClass_of_methodNamed B.named
  have hlocks := B.notSynchronized
  have hS : va_S (fun _ => False) s.heap s.heap [] := va_S.rf
  have hF0 := hF
  obtain ⟨hSt, hCo, hZq, hR⟩ := hF
  have hl := lv_entry [.int i, .int n] (n := 2) (Nat.le_of_ble_eq_true rfl)
  rw [lg_entry_eq]
  generalize (lg_sl [.int i, .int n] ++ List.replicate (2 - (lg_sl [.int i, .int n]).length) Slot.unset).toArray = ls at hl ⊢
  have hl : lv_has ls 2 [(0, .int i), (1, .int n)] := hl
  refine lv_iload_n hx hb jD_chk_0 rfl (lv_at hl 0 rfl) ?_
  refine lv_iload_n hx hb jD_chk_1 rfl (lv_at hl 1 rfl) ?_
  rcases hZq with hZ | ⟨t, hZ⟩
  · refine va_gets hx hb hZ hS hown (hts _ jF_1053) (fun _ z => z) jD_chk_2 ?_
    refine vp_callSi (W.runS (As := [.int i, .int n, .null]) (rest := []) ⟨hx, hb, hml, hown, hts⟩ (c_pre l0 adK adV i n _ h1 h2 rfl) ⟨callB_of 3 hts (jG jC_pre) rfl rfl rfl (hts _ jN_pre) (hts _ jM_pre_1059) (by decide +kernel) ⟨by decide, by decide⟩, hts _ jS_pre⟩ ⟨jBl adK adV _, fun U hU hW => ⟨rfl, jPre hF0 hU hW⟩⟩ rfl rfl hl.1 rfl (lv_room (by decide)) jD_chk_5 ⟨Nat.le_refl _, Nat.le_refl _⟩) (fun r _ => ?_)
    refine lv_pop hx hb jD_chk_8 rfl ?_
    exact W.vret hx hb hr (fun t ht _ => ⟨rfl, trivial, ht⟩) (fun q h => by cases h) jD_chk_9
  · refine va_gets hx hb hZ hS hown (hts _ jF_1053) (fun _ z => z) jD_chk_2 ?_
    refine vp_callSi (W.runS (As := [.int i, .int n, .ref t]) (rest := []) ⟨hx, hb, hml, hown, hts⟩ (c_pre l0 adK adV i n _ h1 h2 rfl) ⟨callB_of 3 hts (jG jC_pre) rfl rfl rfl (hts _ jN_pre) (hts _ jM_pre_1059) (by decide +kernel) ⟨by decide, by decide⟩, hts _ jS_pre⟩ ⟨jBl adK adV _, fun U hU hW => ⟨rfl, jPre hF0 hU hW⟩⟩ rfl rfl hl.1 rfl (lv_room (by decide)) jD_chk_5 ⟨Nat.le_refl _, Nat.le_refl _⟩) (fun r _ => ?_)
    refine lv_pop hx hb jD_chk_8 rfl ?_
    exact W.vret hx hb hr (fun t ht _ => ⟨rfl, trivial, ht⟩) (fun q h => by cases h) jD_chk_9
def tCh (v : Nat) : Int32 := ((((tByt.getD 0 []).getD v 0) &&& 255).toUInt32 % 65536).toInt32
set_option maxRecDepth 20000 in
theorem c_lch (l0 : Launch) (adK adV : Nat → Nat) (i : Int32) (h1 : ¬ i < 0) (h2 : i < 116) : Met l0 jY_lch (Cond.code jY_lch jB_lch 2 (some .char) :: lw_g) (jRm 3) (va_Pc [.ref (adV 0), .int i] (jP adK adV)) (vp_Si (fun r => r = tCh i.toNatClampNeg ∧ narrow .char (.int r) = .int r)) 0 0 (fun _ => False) := by
  refine Met.ofW (cc := jB_lch) (maxL := 2) (ret := (some .char)) (by decide) rfl ?_
  intro p e s m args below meth c s₁ B hml hv
  obtain ⟨rfl, hF⟩ := hv
  have hx := B.exec
  have hb := B.bytes
  have hr := B.returns
  have hts : ∀ w ∈ lw_g, w.before _ s = true := fun w hw => atoms_spec (ws := Cond.code jY_lch jB_lch 2 (some .char) :: lw_g) B.pre w (List.mem_cons_of_mem _ hw)
  have hown : s.vm.findClass "java/lang/StringLatin1" = some m.cls := findClass_of_methodNamed B.named
  have hlocks := B.notSynchronized
  have hS : va_S (fun _ => False) s.heap s.heap [] := va_S.rf
  have hF0 := hF
  obtain ⟨hSt, hCo, hZq, hR⟩ := hF
  have hl := lv_entry [.ref (adV 0), .int i] (n := 2) (Nat.le_of_ble_eq_true rfl)
  rw [lg_entry_eq]
  generalize (lg_sl [.ref (adV 0), .int i] ++ List.replicate (2 - (lg_sl [.ref (adV 0), .int i]).length) Slot.unset).toArray = ls at hl ⊢
  have hl : lv_has ls 2 [(0, .ref (adV 0)), (1, .int i)] := hl
  have hin : vp_in i (tLen.getD 0 0) := vp_in_iff.mpr ⟨by have := Int32.not_lt.mp h1; simpa using Int32.le_iff_toInt_le.mp this, by have := Int32.lt_iff_toInt_lt.mp h2; exact this⟩
  refine lv_iload_n hx hb jD_lch_0 rfl (lv_at hl 1 rfl) ?_
  refine lv_aload_n hx hb jD_lch_1 rfl (lv_at hl 0 rfl) ?_
  refine va_tlen hx hb ((hSt.1 0 (by decide)).2.2.2) hS rfl jD_lch_2 ?_
  refine va_csv (W.runS (As := [.int i, .int (Int32.ofNat (tLen.getD 0 0))]) (rest := []) ⟨hx, hb, hml, hown, hts⟩ (c_chk l0 adK adV i (Int32.ofNat (tLen.getD 0 0)) h1 h2) ⟨callB_of 2 hts (jG jC_chk) rfl rfl rfl (hts _ jN_chk) (hts _ jM_chk_9) (by decide +kernel) ⟨by decide, by decide⟩, hts _ jS_chk⟩ ⟨jBl adK adV _, fun U hU hW => ⟨rfl, jPre hF0 hU hW⟩⟩ rfl rfl hl.1 rfl (lv_room (by decide)) jD_lch_3 ⟨Nat.le_refl _, Nat.le_refl _⟩) (fun _ => ?_)
  refine lv_aload_n hx hb jD_lch_6 rfl (lv_at hl 0 rfl) ?_
  refine lv_iload_n hx hb jD_lch_7 rfl (lv_at hl 1 rfl) ?_
  refine va_tb hx hb ((hSt.1 0 (by decide)).2.2.2) hS hin rfl jD_lch_8 ?_
  refine lv_sipush (v := 255) hx hb jD_lch_9 (by decide) ?_
  refine lv_iand hx hb jD_lch_12 ?_
  refine lv_i2c hx hb jD_lch_13 rfl ?_
  exact W.zret hx hb hr (pk_nc _) (fun t ht _ => ⟨_, rfl, ⟨rfl, pk_nc _⟩, ht⟩) (fun q h => by cases h) jD_lch_14
set_option maxRecDepth 20000 in
theorem c_chr (l0 : Launch) (adK adV : Nat → Nat) (i : Int32) (h1 : ¬ i < 0) (h2 : i < 116) : Met l0 jY_chr (Cond.code jY_chr jB_chr 2 (some .char) :: lw_g) (jRm 4) (va_Pc [.ref (adK 0), .int i] (jP adK adV)) (vp_Si (fun r => r = tCh i.toNatClampNeg)) 0 0 (fun _ => False) := by
  refine Met.ofW (cc := jB_chr) (maxL := 2) (ret := (some .char)) (by decide) rfl ?_
  intro p e s m args below meth c s₁ B hml hv
  obtain ⟨rfl, hF⟩ := hv
  have hx := B.exec
  have hb := B.bytes
  have hr := B.returns
  have hts : ∀ w ∈ lw_g, w.before _ s = true := fun w hw => atoms_spec (ws := Cond.code jY_chr jB_chr 2 (some .char) :: lw_g) B.pre w (List.mem_cons_of_mem _ hw)
  have hown : s.vm.findClass "java/lang/String" = some m.cls := findClass_of_methodNamed B.named
  have hlocks := B.notSynchronized
  have hS : va_S (fun _ => False) s.heap s.heap [] := va_S.rf
  have hF0 := hF
  obtain ⟨hSt, hCo, hZq, hR⟩ := hF
  have hl := lv_entry [.ref (adK 0), .int i] (n := 2) (Nat.le_of_ble_eq_true rfl)
  rw [lg_entry_eq]
  generalize (lg_sl [.ref (adK 0), .int i] ++ List.replicate (2 - (lg_sl [.ref (adK 0), .int i]).length) Slot.unset).toArray = ls at hl ⊢
  have hl : lv_has ls 2 [(0, .ref (adK 0)), (1, .int i)] := hl
  refine lv_aload_n hx hb jD_chr_0 rfl (lv_at hl 0 rfl) ?_
  refine vp_callSi (W.runV (As := []) (rest := []) ⟨hx, hb, hml, hown, hts⟩ (c_lat l0 adK adV) ⟨callB_of 0 hts (jG jC_lat) rfl rfl rfl (hts _ jN_lat) (hts _ jM_lat_492) (by decide +kernel) ⟨by decide, by decide⟩, hts _ jI_lat, hts _ jV_lat⟩ ⟨jBl adK adV _, vk_recv hSt (by decide) hS, fun U hU hW => ⟨rfl, jPre hF0 hU hW⟩⟩ rfl rfl hl.1 rfl (lv_room (by decide)) jD_chr_1 ⟨Nat.le_refl _, Nat.le_refl _⟩) (fun r hr0 => ?_)
  subst hr0
  refine lv_if_eq (tgt := 16) hx hb jD_chr_4 (by decide) (fun q => absurd q (by decide)) (fun _ => ?_)
  refine lv_aload_n hx hb jD_chr_7 rfl (lv_at hl 0 rfl) ?_
  refine vk_getf hx hb ((hSt.1 0 (by decide)).2.2.1) hS hown (hts _ jF_9) (fun _ z => z) jD_chr_8 ?_
  refine lv_iload_n hx hb jD_chr_11 rfl (lv_at hl 1 rfl) ?_
  refine vp_callSi (W.runS (As := [.ref (adV 0), .int i]) (rest := []) ⟨hx, hb, hml, hown, hts⟩ (c_lch l0 adK adV i h1 h2) ⟨callB_of 2 hts (jG jC_lch) rfl rfl rfl (hts _ jN_lch) (hts _ jM_lch_495) (by decide +kernel) ⟨by decide, by decide⟩, hts _ jS_lch⟩ ⟨jBl adK adV _, fun U hU hW => ⟨rfl, jPre hF0 hU hW⟩⟩ rfl rfl hl.1 rfl (lv_room (by decide)) jD_chr_12 ⟨Nat.le_refl _, Nat.le_refl _⟩) (fun r hq => ?_)
  exact W.zret hx hb hr hq.2 (fun t ht _ => ⟨_, rfl, hq.1, ht⟩) (fun q h => by cases h) jD_chr_15
end
section
/-! THE TOKENS START: the loop over the text of words -/
theorem dT_51 : decode tY214.2.1 51 = .ok (.iload 4, 2) := by decide +kernel
theorem dT_53 : decode tY214.2.1 53 = .ok (.ldc 29, 2) := by decide +kernel
theorem dT_55 : decode tY214.2.1 55 = .ok (.invokevirtual 31, 3) := by decide +kernel
theorem dT_58 : decode tY214.2.1 58 = .ok (.if_icmp .ge 53, 3) := by decide +kernel
theorem dT_61 : decode tY214.2.1 61 = .ok (.iload_n 1, 1) := by decide +kernel
theorem dT_62 : decode tY214.2.1 62 = .ok (.bipush 22, 2) := by decide +kernel
theorem dT_64 : decode tY214.2.1 64 = .ok (.if_icmp .ge 47, 3) := by decide +kernel
theorem dT_67 : decode tY214.2.1 67 = .ok (.ldc 29, 2) := by decide +kernel
theorem dT_69 : decode tY214.2.1 69 = .ok (.iload 4, 2) := by decide +kernel
theorem dT_71 : decode tY214.2.1 71 = .ok (.invokevirtual 36, 3) := by decide +kernel
section TOK
variable {l0 : Launch} {adK adV : Nat → Nat} {sr : List (Int × Int)}
theorem tTok_go {d cs sl : Nat} {l : eL} {h : eH} {q4 q1 : eI} {y4 y1 : Int32} (hdd : 6 ≤ d) (hcs : cs ≤ tM214.2.2.1) (hsl : sl ≤ tM214.2.2.2.1) (hM : tMs[214]? = some tM214) (hY : tYs[214]? = some tY214)
    (h4 : eGet l 4 = some (.inl q4)) (hq4 : eOne q4 = some y4) (h1 : eGet l 1 = some (.inl q1)) (hq1 : eOne q1 = some y1) (b0 : 0 ≤ y4.toInt) (b1 : y4.toInt < 116) (b2 : y1.toInt < 22) :
    eGl (tFz adK adV) l0 tCl lw_g tNs sr tMs tYs d 214 (51, l, [], h, cs, sl) [(74, l, [.inl (ePt (tCh y4.toNatClampNeg))], h, cs, sl)] := by
  intro M Y hM' hY' p e R s m args below meth c hcx D A H0 σ ad0 hs hA hFs Q K
  have e0 := Option.some.inj (hM.symm.trans hM')
  have e1 := Option.some.inj (hY.symm.trans hY')
  subst e0
  subst e1
  obtain ⟨hx, hb, hown, hts, hml, hini, hXt, hR1, hR2, hRc, hRs⟩ := id hcx
  have hown : s.vm.findClass "FuseTreaty$Tokens" = some m.cls := hown
  have hR := hFs.2.2.2
  intro H locs ws tys ls lv stk hc
  obtain ⟨hK, hP, hD, hS, hpre, hh, hl, hlv, hsk⟩ := hc
  have e2 := eAll_nil hsk
  subst e2
  show W p l0 e R s m args below meth c H locs cs sl Q (F0 m 51 ls [])
  obtain ⟨w4, g4, ⟨x4, rfl, hx4⟩, -⟩ := eGet_at hl hlv h4
  have ex := eOne_ok hs.1 hx4 hq4
  subst ex
  have hrec : ∃ cell : Cell, H[adK 0]? = some cell ∧ cell.vm.isStatics = false ∧ s.vm.findClass "java/lang/String" = some cell.cls := by
    obtain ⟨cell, q1, q2, q3, -⟩ := (hFs.1.1 0 (by decide)).1.kept hS.2.1
    exact ⟨cell, q1, q2, q3⟩
  have hjP : ∀ U : State, U.heap = H → s.WarmedH U.vm → jP adK adV U := fun U hU hW => by
    unfold jP
    rw [hU]
    exact (tFzOk adK adV).1 A _ s U H0 H hFs hW hS.2.1 (fun _ z => z.elim)
  refine lv_iload hx hb dT_51 g4 ?_
  refine va_ldcS hx hb hown hR dT_53 ?_
  refine vp_callSi (W.runV (As := []) (rest := [.int x4]) ⟨hx, hb, hml, hown, hts⟩ (c_len l0 adK adV) ⟨callB_of 0 hts (jG jC_len) rfl rfl rfl (hts _ jN_len) (hts _ jM_len_31) (by decide +kernel) ⟨by show 2 + 1 ≤ R.frames; omega, by show 8 + (1 + 11) + 128 * 2 ≤ R.locals; omega⟩, hts _ jI_len, hts _ jV_len⟩ ⟨jBl adK adV _, hrec, fun U hU hW => ⟨rfl, hjP U hU hW⟩⟩ rfl rfl hl.1 rfl (lv_room (by simp [Value.category])) dT_55 ⟨by omega, by omega⟩) (fun r hr => ?_)
  subst hr
  have e116 : (116 : Int32).toInt = 116 := by decide
  have e22 : (22 : Int32).toInt = 22 := by decide
  have ez : (0 : Int32).toInt = 0 := by decide
  obtain ⟨w1, g1, ⟨x1, rfl, hx1⟩, -⟩ := eGet_at hl hlv h1
  have ex1 := eOne_ok hs.1 hx1 hq1
  subst ex1
  refine lv_icmp_ge (tgt := 111) hx hb dT_58 (by decide) (fun q => absurd (Int32.le_iff_toInt_le.mp q) (by omega)) (fun q => ?_)
  refine lv_iload_n hx hb dT_61 rfl g1 ?_
  refine lv_bipush (v := 22) hx hb dT_62 (by decide) ?_
  refine lv_icmp_ge (tgt := 111) hx hb dT_64 (by decide) (fun q => absurd (Int32.le_iff_toInt_le.mp q) (by omega)) (fun q2 => ?_)
  refine va_ldcS hx hb hown hR dT_67 ?_
  refine lv_iload hx hb dT_69 g4 ?_
  refine vp_callSi (W.runV (As := [.int x4]) (rest := []) ⟨hx, hb, hml, hown, hts⟩ (c_chr l0 adK adV x4 (fun z => by have := Int32.lt_iff_toInt_lt.mp z; omega) (Int32.lt_iff_toInt_lt.mpr (by omega))) ⟨callB_of 1 hts (jG jC_chr) rfl rfl rfl (hts _ jN_chr) (hts _ jM_chr_36) (by decide +kernel) ⟨by show 4 + 1 ≤ R.frames; omega, by show 8 + (2 + 11) + 128 * 4 ≤ R.locals; omega⟩, hts _ jI_chr, hts _ jV_chr⟩ ⟨jBl adK adV _, hrec, fun U hU hW => ⟨rfl, hjP U hU hW⟩⟩ rfl rfl hl.1 rfl (lv_room (by simp [Value.category])) dT_71 ⟨by omega, by omega⟩) (fun r hr => ?_)
  exact K _ List.mem_cons_self H locs ws tys ls lv [.int r] ⟨hK, hP, hD, hS, hpre, hh, hl, hlv, ⟨r, rfl, by rw [hr]; exact ePt_ok hs.1 _⟩, trivial⟩
theorem tTok_end {d cs sl : Nat} {l : eL} {h : eH} {q4 : eI} {y4 : Int32} (hdd : 6 ≤ d) (hcs : cs ≤ tM214.2.2.1) (hsl : sl ≤ tM214.2.2.2.1) (hM : tMs[214]? = some tM214) (hY : tYs[214]? = some tY214)
    (h4 : eGet l 4 = some (.inl q4)) (hq4 : eOne q4 = some y4) (b1 : 116 ≤ y4.toInt) :
    eGl (tFz adK adV) l0 tCl lw_g tNs sr tMs tYs d 214 (51, l, [], h, cs, sl) [(111, l, [], h, cs, sl)] := by
  intro M Y hM' hY' p e R s m args below meth c hcx D A H0 σ ad0 hs hA hFs Q K
  have e0 := Option.some.inj (hM.symm.trans hM')
  have e1 := Option.some.inj (hY.symm.trans hY')
  subst e0
  subst e1
  obtain ⟨hx, hb, hown, hts, hml, hini, hXt, hR1, hR2, hRc, hRs⟩ := id hcx
  have hown : s.vm.findClass "FuseTreaty$Tokens" = some m.cls := hown
  have hR := hFs.2.2.2
  intro H locs ws tys ls lv stk hc
  obtain ⟨hK, hP, hD, hS, hpre, hh, hl, hlv, hsk⟩ := hc
  have e2 := eAll_nil hsk
  subst e2
  show W p l0 e R s m args below meth c H locs cs sl Q (F0 m 51 ls [])
  obtain ⟨w4, g4, ⟨x4, rfl, hx4⟩, -⟩ := eGet_at hl hlv h4
  have ex := eOne_ok hs.1 hx4 hq4
  subst ex
  have hrec : ∃ cell : Cell, H[adK 0]? = some cell ∧ cell.vm.isStatics = false ∧ s.vm.findClass "java/lang/String" = some cell.cls := by
    obtain ⟨cell, q1, q2, q3, -⟩ := (hFs.1.1 0 (by decide)).1.kept hS.2.1
    exact ⟨cell, q1, q2, q3⟩
  have hjP : ∀ U : State, U.heap = H → s.WarmedH U.vm → jP adK adV U := fun U hU hW => by
    unfold jP
    rw [hU]
    exact (tFzOk adK adV).1 A _ s U H0 H hFs hW hS.2.1 (fun _ z => z.elim)
  refine lv_iload hx hb dT_51 g4 ?_
  refine va_ldcS hx hb hown hR dT_53 ?_
  refine vp_callSi (W.runV (As := []) (rest := [.int x4]) ⟨hx, hb, hml, hown, hts⟩ (c_len l0 adK adV) ⟨callB_of 0 hts (jG jC_len) rfl rfl rfl (hts _ jN_len) (hts _ jM_len_31) (by decide +kernel) ⟨by show 2 + 1 ≤ R.frames; omega, by show 8 + (1 + 11) + 128 * 2 ≤ R.locals; omega⟩, hts _ jI_len, hts _ jV_len⟩ ⟨jBl adK adV _, hrec, fun U hU hW => ⟨rfl, hjP U hU hW⟩⟩ rfl rfl hl.1 rfl (lv_room (by simp [Value.category])) dT_55 ⟨by omega, by omega⟩) (fun r hr => ?_)
  subst hr
  have e116 : (116 : Int32).toInt = 116 := by decide
  refine lv_icmp_ge (tgt := 111) hx hb dT_58 (by decide) (fun q => ?_) (fun q => absurd (Int32.le_iff_toInt_le.mpr (by omega)) q)
  exact K _ List.mem_cons_self H locs ws tys ls lv [] ⟨hK, hP, hD, hS, hpre, hh, hl, hlv, trivial⟩
end TOK
end
section
/-! THE TOKENS START as a known call -/
def tNo : Nat → Nat → List eV → eH → Option (List (Option eV × eH)) := fun _ _ _ _ => none
theorem tRun {l0 : Launch} {adK adV : Nat → Nat} {sr : List (Int × Int)} {orc : Nat → Nat → List eV → eH → Option (List (Option eV × eH))} (horc : ∀ (d b : Nat) (as : List eV) (h : eH) (os : List (Option eV × eH)), orc d b as h = some os → eCon (tFz adK adV) l0 tCl lw_g tNs sr tMs tYs d b as h os) (n : Nat) : eIH (tFz adK adV) l0 tCl lw_g tNs sr tMs tYs (eExec sr tDf tMs orc n) := eExec_ok (tFzOk adK adV) tOk lw_g_good tKl horc n
theorem tRun0 {l0 : Launch} {adK adV : Nat → Nat} {sr : List (Int × Int)} (n : Nat) : eIH (tFz adK adV) l0 tCl lw_g tNs sr tMs tYs (eExec sr tDf tMs tNo n) := tRun (fun _ _ _ _ _ h => by cases h) n
/-- the loop over the words, run -/
def tWl (sr : List (Int × Int)) (d : Nat) : Nat → eS → Option eS
  | 0, _ => none
  | n + 1, S => match eGet S.2.1 4, eGet S.2.1 1, S.2.2.1 with
    | some (.inl q4), some (.inl q1), [] => match eOne q4, eOne q1 with
      | some y4, some y1 => cond (Nat.beq S.1 51 && Nat.ble 6 d && Nat.ble S.2.2.2.2.1 tM214.2.2.1 && Nat.ble S.2.2.2.2.2 tM214.2.2.2.1)
        (cond (eLe 116 y4.toInt) (some (111, S.2.1, [], S.2.2.2))
          (cond (eLe 0 y4.toInt && eLe y1.toInt 21) (match eExec sr tDf tMs tNo 200 d 214 [51] (74, S.2.1, [.inl (ePt (tCh y4.toNatClampNeg))], S.2.2.2) with
            | some [f] => tWl sr d n f
            | _ => none) none)) none
      | _, _ => none
    | _, _, _ => none
theorem tWl_ok {l0 : Launch} {adK adV : Nat → Nat} {sr : List (Int × Int)} {d : Nat} : ∀ {n : Nat} {S E : eS}, tWl sr d n S = some E → eGl (tFz adK adV) l0 tCl lw_g tNs sr tMs tYs d 214 S [E]
  | 0, S, E, h => by cases h
  | n + 1, (pc, l, st, hp, cs, sl), E, h => by
    unfold tWl at h
    split at h
    · rename_i q4 q1 h4 h1 h0
      have h4 : eGet l 4 = some (.inl q4) := h4
      have h1 : eGet l 1 = some (.inl q1) := h1
      have h0 : st = [] := h0
      subst h0
      split at h
      · rename_i y4 y1 e4 e1
        obtain ⟨hb, h⟩ := eCond h
        simp only [Bool.and_eq_true] at hb
        obtain ⟨⟨⟨b1, b2⟩, b3⟩, b4⟩ := hb
        have b1 : pc = 51 := Nat.eq_of_beq_eq_true b1
        subst b1
        have b2 := Nat.le_of_ble_eq_true b2
        have b3 : cs ≤ tM214.2.2.1 := Nat.le_of_ble_eq_true b3
        have b4 : sl ≤ tM214.2.2.2.1 := Nat.le_of_ble_eq_true b4
        cases hc : eLe 116 y4.toInt with
        | true =>
          rw [hc] at h
          cases h
          exact tTok_end b2 b3 b4 rfl rfl h4 e4 (eLe_ok hc)
        | false =>
          rw [hc] at h
          obtain ⟨hb, h⟩ := eCond (show cond _ _ none = some E from h)
          rw [Bool.and_eq_true] at hb
          have c1 := eLe_ok hb.1
          have c2 := eLe_ok hb.2
          have c3 := eLe_no hc
          split at h
          · rename_i f hf
            refine eGl_trans (tTok_go b2 b3 b4 rfl rfl h4 e4 h1 e1 c1 c3 (by omega)) (fun T hT => ?_)
            rw [List.mem_singleton] at hT
            subst hT
            refine eGl_trans (tRun0 (l0 := l0) (adK := adK) (adV := adV) 200 d 214 [51] _ _ hf) (fun T hT => ?_)
            rw [List.mem_singleton] at hT
            subst hT
            exact tWl_ok h
          · cases h
      · cases h
    · cases h
def tTokO (sr : List (Int × Int)) (d : Nat) (as : List eV) (h : eH) : Option (List (Option eV × eH)) := match as with
  | [.inr (.inl (some k))] => match eExec sr tDf tMs tNo 200 d 214 [51] (0, eArgs 0 [.inr (.inl (some k))], [], h, 0, 0) with
    | some [f] => match tWl sr d 120 f with
      | some E => eOuts tM214 [E]
      | none => none
    | _ => none
  | _ => none
theorem tTokO_ok {l0 : Launch} {adK adV : Nat → Nat} {sr : List (Int × Int)} {d : Nat} {as : List eV} {hp : eH} {os : List (Option eV × eH)} (h : tTokO sr d as hp = some os) : eCon (tFz adK adV) l0 tCl lw_g tNs sr tMs tYs d 214 as hp os := by
  unfold tTokO at h
  split at h
  · rename_i k
    split at h
    · rename_i f hf
      split at h
      · rename_i E hE
        have hrun := tRun0 (l0 := l0) (adK := adK) (adV := adV) 200 d 214 [51] _ _ hf
        refine eCon_of tOk (N := tM214) (fs := [E]) rfl (by show 1 + 0 ≤ _; decide) (eGl_trans hrun (fun T hT => ?_)) h
        rw [List.mem_singleton] at hT
        subst hT
        exact tWl_ok hE
      · cases h
    · cases h
  · cases h
/-- the known calls: the Tokens start -/
def tOrc (sr : List (Int × Int)) : Nat → Nat → List eV → eH → Option (List (Option eV × eH)) := fun d b as h => cond (Nat.beq b 214) (tTokO sr d as h) none
theorem tOrc_ok {l0 : Launch} {adK adV : Nat → Nat} {sr : List (Int × Int)} : ∀ (d b : Nat) (as : List eV) (h : eH) (os : List (Option eV × eH)), tOrc sr d b as h = some os → eCon (tFz adK adV) l0 tCl lw_g tNs sr tMs tYs d b as h os := by
  intro d b as h os hq
  obtain ⟨h1, h2⟩ := eCond hq
  have e := Nat.eq_of_beq_eq_true h1
  subst e
  exact tTokO_ok h2
/-- a call, run to its ends -/
def tCall (sr : List (Int × Int)) (orc : Nat → Nat → List eV → eH → Option (List (Option eV × eH))) (d b : Nat) (as : List eV) (h : eH) : Option (List (Option eV × eH)) := match tMs[b]? with
  | none => none
  | some N => cond (Nat.ble (eCats as) N.2.1) (match eExec sr tDf tMs orc 100000 d b [] (0, eArgs 0 as, [], h, 0, 0) with
    | some fs => eOuts N fs
    | none => none) none
theorem tCall_ok {l0 : Launch} {adK adV : Nat → Nat} {sr : List (Int × Int)} {orc : Nat → Nat → List eV → eH → Option (List (Option eV × eH))} (horc : ∀ (d b : Nat) (as : List eV) (h : eH) (os : List (Option eV × eH)), orc d b as h = some os → eCon (tFz adK adV) l0 tCl lw_g tNs sr tMs tYs d b as h os) {d b : Nat} {as : List eV} {h : eH} {os : List (Option eV × eH)} (hc : tCall sr orc d b as h = some os) : eCon (tFz adK adV) l0 tCl lw_g tNs sr tMs tYs d b as h os := by
  unfold tCall at hc
  split at hc
  · cases hc
  · rename_i N hN
    obtain ⟨h1, h2⟩ := eCond hc
    split at h2
    · rename_i fs hfs
      exact eCon_of tOk hN (Nat.le_of_ble_eq_true h1) (tRun horc _ _ _ _ _ _ hfs) h2
    · cases h2
/-- all, as it is behind the two starts -/
def hFresh : eH := [
  .inl (11, [.inr (.inl (some 1)), eZero, .inl (0, -1, -1), .inr (.inl (some 2)), .inr (.inl (some 20)), .inr (.inl (some 38)), .inr (.inl (some 43)), .inr (.inl (some 44)), .inr (.inl (some 47)), .inr (.inl (some 51)), .inr (.inl (some 54)), .inr (.inl (some 61)), .inr (.inl (some 67))]),
  .inr (1, 2000, .inr (-128, 127)),
  .inl (3, [eZero, eZero, eZero, eZero, eZero, .inl (0, 100, 100), eZero, .inr (.inl (some 3)), .inr (.inl (some 4)), .inr (.inl (some 5)), .inr (.inl (some 6)), .inr (.inl (some 7)), .inr (.inl (some 8)), .inr (.inl (some 9)), .inr (.inl (some 10)), .inr (.inl (some 11))]),
  .inr (0, 7, .inl ([eZero, eZero, eZero, eZero, eZero, eZero, eZero])),
  .inr (0, 10, .inl ([eZero, eZero, eZero, eZero, eZero, eZero, eZero, eZero, eZero, eZero])),
  .inr (0, 10, .inl ([eZero, eZero, eZero, eZero, eZero, eZero, eZero, eZero, eZero, eZero])),
  .inr (0, 10, .inl ([eZero, eZero, eZero, eZero, eZero, eZero, eZero, eZero, eZero, eZero])),
  .inr (0, 8, .inl ([eZero, eZero, eZero, eZero, eZero, eZero, eZero, eZero])),
  .inr (0, 8, .inl ([eZero, eZero, eZero, eZero, eZero, eZero, eZero, eZero])),
  .inr (0, 8, .inl ([eZero, eZero, eZero, eZero, eZero, eZero, eZero, eZero])),
  .inr (0, 8, .inl ([eZero, eZero, eZero, eZero, eZero, eZero, eZero, eZero])),
  .inl (4, [.inr (.inl (some 12)), .inl (0, 6, 6), .inr (.inl (some 13)), .inr (.inl (some 18)), .inr (.inl (some 19)), eZero]),
  .inr (0, 406, .inl (([.inl (0, 4, 4), .inl (0, 5, 5), .inl (0, 1, 1), .inl (0, 13, 13), .inl (0, 5, 5), .inl (0, 9, 9)] ++ (List.replicate 400 (eZero))))),
  .inr (4, 4, .inl ([.inr (.inl (some 14)), .inr (.inl (some 15)), .inr (.inl (some 16)), .inr (.inl (some 17))])),
  .inr (0, 14, .inl (([eZero, .inl (0, 3, 3)] ++ (List.replicate 12 (eZero))))),
  .inr (0, 14, .inl (([.inl (0, 3, 3), .inl (0, 4, 4)] ++ (List.replicate 12 (eZero))))),
  .inr (0, 14, .inl (([.inl (0, 4, 4), .inl (0, 5, 5)] ++ (List.replicate 12 (eZero))))),
  .inr (0, 14, .inl (([.inl (0, 5, 5), .inl (0, 6, 6)] ++ (List.replicate 12 (eZero))))),
  .inr (0, 4, .inl ([.inl (0, 1, 1), .inl (0, 1, 1), .inl (0, 1, 1), .inl (0, 1, 1)])),
  .inr (0, 32, .inl (List.replicate 32 (eZero))),
  .inl (3, [eZero, eZero, eZero, eZero, eZero, eZero, eZero, .inr (.inl (some 21)), .inr (.inl (some 22)), .inr (.inl (some 23)), .inr (.inl (some 24)), .inr (.inl (some 25)), .inr (.inl (some 26)), .inr (.inl (some 27)), .inr (.inl (some 28)), .inr (.inl (some 29))]),
  .inr (0, 7, .inl ([eZero, eZero, eZero, eZero, eZero, eZero, eZero])),
  .inr (0, 10, .inl ([eZero, eZero, eZero, eZero, eZero, eZero, eZero, eZero, eZero, eZero])),
  .inr (0, 10, .inl ([eZero, eZero, eZero, eZero, eZero, eZero, eZero, eZero, eZero, eZero])),
  .inr (0, 10, .inl ([eZero, eZero, eZero, eZero, eZero, eZero, eZero, eZero, eZero, eZero])),
  .inr (0, 8, .inl ([eZero, eZero, eZero, eZero, eZero, eZero, eZero, eZero])),
  .inr (0, 8, .inl ([eZero, eZero, eZero, eZero, eZero, eZero, eZero, eZero])),
  .inr (0, 8, .inl ([eZero, eZero, eZero, eZero, eZero, eZero, eZero, eZero])),
  .inr (0, 8, .inl ([eZero, eZero, eZero, eZero, eZero, eZero, eZero, eZero])),
  .inl (4, [.inr (.inl (some 30)), eZero, .inr (.inl (some 31)), .inr (.inl (some 36)), .inr (.inl (some 37)), eZero]),
  .inr (0, 406, .inl (List.replicate 406 (eZero))),
  .inr (4, 4, .inl ([.inr (.inl (some 32)), .inr (.inl (some 33)), .inr (.inl (some 34)), .inr (.inl (some 35))])),
  .inr (0, 14, .inl (List.replicate 14 (eZero))),
  .inr (0, 14, .inl (List.replicate 14 (eZero))),
  .inr (0, 14, .inl (List.replicate 14 (eZero))),
  .inr (0, 14, .inl (List.replicate 14 (eZero))),
  .inr (0, 4, .inl ([eZero, eZero, eZero, eZero])),
  .inr (0, 32, .inl (List.replicate 32 (eZero))),
  .inl (8, [.inr (.inl (some 39)), .inr (.inl (some 40)), .inr (.inl (some 41)), .inr (.inl (some 42)), .inr (.inl none), eZero]),
  .inr (0, 401, .inl (List.replicate 401 (eZero))),
  .inr (0, 401, .inl (List.replicate 401 (eZero))),
  .inr (3, 401, .inr (0, 0)),
  .inr (3, 22, .inl (tWd.map (fun x => .inr (.inr (some x))))),
  .inl (2, [.inr (.inl (some 38)), .inr (.inl (some 29)), eZero, eZero, eZero, eZero, eZero]),
  .inl (5, [.inr (.inl (some 38)), .inr (.inl (some 20)), .inr (.inl (some 45)), .inr (.inl (some 46)), eZero, eZero]),
  .inr (3, 7, .inr (0, 0)),
  .inr (3, 8, .inr (0, 0)),
  .inl (7, [eZero, .inl (0, 100, 100), eZero, eZero, eZero, eZero, .inr (.inl (some 48)), .inr (.inl (some 49)), .inr (.inl (some 50))]),
  .inr (0, 10, .inl ([eZero, eZero, eZero, eZero, eZero, eZero, eZero, eZero, eZero, eZero])),
  .inr (0, 10, .inl ([eZero, eZero, eZero, eZero, eZero, eZero, eZero, eZero, eZero, eZero])),
  .inr (0, 7, .inl ([eZero, eZero, eZero, eZero, eZero, eZero, eZero])),
  .inl (6, [.inr (.inl (some 52)), .inr (.inl (some 53)), eZero, eZero, eZero]),
  .inr (0, 1320, .inr (0, 0)),
  .inr (0, 99, .inl (List.replicate 99 (eZero))),
  .inl (0, [.inr (.inl (some 2)), .inr (.inl (some 57)), .inr (.inl (some 55)), .inr (.inl (some 56))]),
  .inr (0, 9, .inl ([eZero, eZero, eZero, eZero, eZero, eZero, eZero, eZero, eZero])),
  .inr (0, 10, .inl ([eZero, eZero, eZero, eZero, eZero, eZero, eZero, eZero, eZero, eZero])),
  .inl (10, [.inr (.inl (some 2)), .inl (0, -1, -1), .inr (.inl (some 58)), .inr (.inl (some 59)), .inr (.inl (some 60)), eZero]),
  .inr (0, 7, .inl ([eZero, eZero, eZero, eZero, eZero, eZero, eZero])),
  .inr (0, 7, .inl ([eZero, eZero, eZero, eZero, eZero, eZero, eZero])),
  .inr (0, 7, .inl ([eZero, eZero, eZero, eZero, eZero, eZero, eZero])),
  .inl (1, [.inr (.inl (some 2)), .inr (.inl (some 54)), .inr (.inl (some 62)), .inr (.inl (some 66)), eZero]),
  .inl (7, [eZero, eZero, eZero, eZero, eZero, eZero, .inr (.inl (some 63)), .inr (.inl (some 64)), .inr (.inl (some 65))]),
  .inr (0, 10, .inl ([eZero, eZero, eZero, eZero, eZero, eZero, eZero, eZero, eZero, eZero])),
  .inr (0, 10, .inl ([eZero, eZero, eZero, eZero, eZero, eZero, eZero, eZero, eZero, eZero])),
  .inr (0, 7, .inl ([eZero, eZero, eZero, eZero, eZero, eZero, eZero])),
  .inr (0, 8, .inl ([eZero, eZero, eZero, eZero, eZero, eZero, eZero, eZero])),
  .inl (9, [.inr (.inl (some 2)), .inr (.inl (some 68)), .inr (.inl (some 69)), eZero]),
  .inr (0, 20, .inl (List.replicate 20 (eZero))),
  .inr (2, 20, .inl (List.replicate 20 (eZero))),
  .inl (12, [eZero, .inr (.inl (some 71)), eZero, .inr (.inl (some 72)), eZero, .inr (.inl (some 73)), .inr (.inl (some 74)), .inr (.inl (some 75)), .inr (.inl (some 76)), .inr (.inl (some 77)), eZero, eZero, eZero, eZero, eZero, eZero, eZero, .inl (0, -1, -1), eZero, eZero, eZero, .inr (.inl (some 78)), .inr (.inl (some 79)), .inr (.inl (some 80)), .inr (.inl (some 81)), .inr (.inl (some 82)), .inr (.inl (some 83)), .inr (.inl (some 84)), .inr (.inl (some 85)), .inr (.inl (some 86)), .inr (.inl (some 87)), .inr (.inl (some 88)), .inr (.inl (some 89)), .inr (.inl (some 90)), .inr (.inl (some 91)), .inr (.inl (some 92)), .inr (.inl (some 93)), .inr (.inl (some 94)), .inr (.inl (some 95)), .inr (.inl (some 96)), eZero, .inr (.inl (some 97)), .inr (.inl (some 98)), .inr (.inl (some 99)), .inr (.inl (some 100)), .inr (.inl (some 101)), eZero, .inr (.inl (some 102)), .inr (.inl (some 103)), .inr (.inl (some 104)), eZero, .inr (.inl (some 105)), .inr (.inl (some 106)), eZero, .inr (.inl (some 107)), .inr (.inl (some 108)), eZero, eZero, .inr (.inl (some 109)), .inr (.inl (some 110)), eZero, eZero, .inr (.inl (some 111)), eZero, .inr (.inl (some 112)), .inr (.inl (some 113)), .inr (.inl (some 114)), .inr (.inl (some 115)), .inr (.inl (some 116))]),
  .inr (1, 2000, .inr (-128, 127)),
  .inr (1, 2000, .inr (-128, 127)),
  .inr (0, 403, .inl (List.replicate 403 (eZero))),
  .inr (0, 403, .inl (List.replicate 403 (eZero))),
  .inr (0, 403, .inl (List.replicate 403 (eZero))),
  .inr (3, 403, .inr (0, 0)),
  .inr (3, 22, .inl (tWd.map (fun x => .inr (.inr (some x))))),
  .inr (3, 15, .inr (0, 0)),
  .inr (0, 15, .inl (List.replicate 15 (eZero))),
  .inr (0, 2, .inl ([eZero, eZero])),
  .inr (0, 14, .inl (List.replicate 14 (eZero))),
  .inr (0, 2, .inl ([eZero, eZero])),
  .inr (0, 20, .inl (List.replicate 20 (eZero))),
  .inr (0, 20, .inl (List.replicate 20 (eZero))),
  .inr (0, 20, .inl (List.replicate 20 (eZero))),
  .inr (0, 2, .inl ([eZero, eZero])),
  .inr (0, 16, .inl (List.replicate 16 (eZero))),
  .inr (0, 16, .inl (List.replicate 16 (eZero))),
  .inr (0, 16, .inl (List.replicate 16 (eZero))),
  .inr (0, 16, .inl (List.replicate 16 (eZero))),
  .inr (0, 2, .inl ([eZero, eZero])),
  .inr (0, 2, .inl ([eZero, eZero])),
  .inr (0, 2, .inl ([.inl (0, 100, 100), eZero])),
  .inr (0, 2, .inl ([eZero, eZero])),
  .inr (0, 8, .inl ([eZero, eZero, eZero, eZero, eZero, eZero, eZero, eZero])),
  .inr (0, 8, .inl ([eZero, eZero, eZero, eZero, eZero, eZero, eZero, eZero])),
  .inr (2, 260, .inl (List.replicate 260 (eZero))),
  .inr (0, 260, .inl (List.replicate 260 (eZero))),
  .inr (0, 260, .inl (List.replicate 260 (eZero))),
  .inr (0, 260, .inl (List.replicate 260 (eZero))),
  .inr (0, 260, .inl (List.replicate 260 (eZero))),
  .inr (0, 840, .inr (0, 0)),
  .inr (0, 840, .inr (0, 0)),
  .inr (0, 64, .inl (List.replicate 64 (eZero))),
  .inr (0, 9, .inl ([eZero, eZero, eZero, eZero, eZero, eZero, eZero, eZero, eZero])),
  .inr (0, 400, .inl (List.replicate 400 (eZero))),
  .inr (0, 58, .inl ((List.replicate 56 (eZero) ++ ([.inl (0, 100, 100), eZero])))),
  .inr (0, 58, .inl ((List.replicate 56 (eZero) ++ ([.inl (0, 100, 100), eZero])))),
  .inr (0, 7, .inl ([eZero, eZero, eZero, eZero, eZero, eZero, eZero])),
  .inr (0, 7, .inl ([eZero, eZero, eZero, eZero, eZero, eZero, eZero])),
  .inr (0, 2320, .inr (0, 0)),
  .inr (0, 20, .inl (List.replicate 20 (eZero))),
  .inr (0, 20, .inl (List.replicate 20 (eZero))),
  .inr (0, 10, .inl ([eZero, eZero, eZero, eZero, eZero, eZero, eZero, eZero, eZero, eZero])),
  .inr (2, 3, .inl ([eZero, eZero, eZero])),
  .inr (0, 174, .inl (List.replicate 174 (eZero)))]
def hClass : eH := [
  .inl (11, [.inr (.inl (some 1)), eZero, .inl (0, -1, -1), .inr (.inl (some 2)), .inr (.inl (some 20)), .inr (.inl (some 38)), .inr (.inl (some 43)), .inr (.inl (some 44)), .inr (.inl (some 47)), .inr (.inl (some 51)), .inr (.inl (some 54)), .inr (.inl (some 61)), .inr (.inl (some 67))]),
  .inr (1, 2000, .inr (-128, 127)),
  .inl (3, [eZero, eZero, eZero, eZero, eZero, .inl (0, 100, 100), eZero, .inr (.inl (some 3)), .inr (.inl (some 4)), .inr (.inl (some 5)), .inr (.inl (some 6)), .inr (.inl (some 7)), .inr (.inl (some 8)), .inr (.inl (some 9)), .inr (.inl (some 10)), .inr (.inl (some 11))]),
  .inr (0, 7, .inl ([eZero, eZero, eZero, eZero, eZero, eZero, eZero])),
  .inr (0, 10, .inl ([eZero, eZero, eZero, eZero, eZero, eZero, eZero, eZero, eZero, eZero])),
  .inr (0, 10, .inl ([eZero, eZero, eZero, eZero, eZero, eZero, eZero, eZero, eZero, eZero])),
  .inr (0, 10, .inl ([eZero, eZero, eZero, eZero, eZero, eZero, eZero, eZero, eZero, eZero])),
  .inr (0, 8, .inl ([eZero, eZero, eZero, eZero, eZero, eZero, eZero, eZero])),
  .inr (0, 8, .inl ([eZero, eZero, eZero, eZero, eZero, eZero, eZero, eZero])),
  .inr (0, 8, .inl ([eZero, eZero, eZero, eZero, eZero, eZero, eZero, eZero])),
  .inr (0, 8, .inl ([eZero, eZero, eZero, eZero, eZero, eZero, eZero, eZero])),
  .inl (4, [.inr (.inl (some 12)), .inl (0, 6, 6), .inr (.inl (some 13)), .inr (.inl (some 18)), .inr (.inl (some 19)), eZero]),
  .inr (0, 406, .inl (([.inl (0, 4, 4), .inl (0, 5, 5), .inl (0, 1, 1), .inl (0, 13, 13), .inl (0, 5, 5), .inl (0, 9, 9)] ++ (List.replicate 400 (eZero))))),
  .inr (4, 4, .inl ([.inr (.inl (some 14)), .inr (.inl (some 15)), .inr (.inl (some 16)), .inr (.inl (some 17))])),
  .inr (0, 14, .inl (([eZero, .inl (0, 3, 3)] ++ (List.replicate 12 (eZero))))),
  .inr (0, 14, .inl (([.inl (0, 3, 3), .inl (0, 4, 4)] ++ (List.replicate 12 (eZero))))),
  .inr (0, 14, .inl (([.inl (0, 4, 4), .inl (0, 5, 5)] ++ (List.replicate 12 (eZero))))),
  .inr (0, 14, .inl (([.inl (0, 5, 5), .inl (0, 6, 6)] ++ (List.replicate 12 (eZero))))),
  .inr (0, 4, .inl ([.inl (0, 1, 1), .inl (0, 1, 1), .inl (0, 1, 1), .inl (0, 1, 1)])),
  .inr (0, 32, .inl (List.replicate 32 (eZero))),
  .inl (3, [eZero, eZero, eZero, eZero, eZero, eZero, eZero, .inr (.inl (some 21)), .inr (.inl (some 22)), .inr (.inl (some 23)), .inr (.inl (some 24)), .inr (.inl (some 25)), .inr (.inl (some 26)), .inr (.inl (some 27)), .inr (.inl (some 28)), .inr (.inl (some 29))]),
  .inr (0, 7, .inl ([eZero, eZero, eZero, eZero, eZero, eZero, eZero])),
  .inr (0, 10, .inl ([eZero, eZero, eZero, eZero, eZero, eZero, eZero, eZero, eZero, eZero])),
  .inr (0, 10, .inl ([eZero, eZero, eZero, eZero, eZero, eZero, eZero, eZero, eZero, eZero])),
  .inr (0, 10, .inl ([eZero, eZero, eZero, eZero, eZero, eZero, eZero, eZero, eZero, eZero])),
  .inr (0, 8, .inl ([eZero, eZero, eZero, eZero, eZero, eZero, eZero, eZero])),
  .inr (0, 8, .inl ([eZero, eZero, eZero, eZero, eZero, eZero, eZero, eZero])),
  .inr (0, 8, .inl ([eZero, eZero, eZero, eZero, eZero, eZero, eZero, eZero])),
  .inr (0, 8, .inl ([eZero, eZero, eZero, eZero, eZero, eZero, eZero, eZero])),
  .inl (4, [.inr (.inl (some 30)), eZero, .inr (.inl (some 31)), .inr (.inl (some 36)), .inr (.inl (some 37)), eZero]),
  .inr (0, 406, .inl (List.replicate 406 (eZero))),
  .inr (4, 4, .inl ([.inr (.inl (some 32)), .inr (.inl (some 33)), .inr (.inl (some 34)), .inr (.inl (some 35))])),
  .inr (0, 14, .inl (List.replicate 14 (eZero))),
  .inr (0, 14, .inl (List.replicate 14 (eZero))),
  .inr (0, 14, .inl (List.replicate 14 (eZero))),
  .inr (0, 14, .inl (List.replicate 14 (eZero))),
  .inr (0, 4, .inl ([eZero, eZero, eZero, eZero])),
  .inr (0, 32, .inl (List.replicate 32 (eZero))),
  .inl (8, [.inr (.inl (some 39)), .inr (.inl (some 40)), .inr (.inl (some 41)), .inr (.inl (some 42)), .inr (.inl none), eZero]),
  .inr (0, 401, .inl (List.replicate 401 (eZero))),
  .inr (0, 401, .inl (List.replicate 401 (eZero))),
  .inr (3, 401, .inr (0, 0)),
  .inr (3, 22, .inl (tWd.map (fun x => .inr (.inr (some x))))),
  .inl (2, [.inr (.inl (some 38)), .inr (.inl (some 29)), eZero, eZero, eZero, eZero, eZero]),
  .inl (5, [.inr (.inl (some 38)), .inr (.inl (some 20)), .inr (.inl (some 45)), .inr (.inl (some 46)), eZero, eZero]),
  .inr (3, 7, .inr (0, 0)),
  .inr (3, 8, .inr (0, 0)),
  .inl (7, [eZero, .inl (0, 100, 100), eZero, eZero, eZero, eZero, .inr (.inl (some 48)), .inr (.inl (some 49)), .inr (.inl (some 50))]),
  .inr (0, 10, .inl ([eZero, eZero, eZero, eZero, eZero, eZero, eZero, eZero, eZero, eZero])),
  .inr (0, 10, .inl ([eZero, eZero, eZero, eZero, eZero, eZero, eZero, eZero, eZero, eZero])),
  .inr (0, 7, .inl ([eZero, eZero, eZero, eZero, eZero, eZero, eZero])),
  .inl (6, [.inr (.inl (some 52)), .inr (.inl (some 53)), eZero, eZero, eZero]),
  .inr (0, 1320, .inr (0, 0)),
  .inr (0, 99, .inl (List.replicate 99 (eZero))),
  .inl (0, [.inr (.inl (some 2)), .inr (.inl (some 57)), .inr (.inl (some 55)), .inr (.inl (some 56))]),
  .inr (0, 9, .inl ([eZero, eZero, eZero, eZero, eZero, eZero, eZero, eZero, eZero])),
  .inr (0, 10, .inl ([eZero, eZero, eZero, eZero, eZero, eZero, eZero, eZero, eZero, eZero])),
  .inl (10, [.inr (.inl (some 2)), .inl (0, -1, -1), .inr (.inl (some 58)), .inr (.inl (some 59)), .inr (.inl (some 60)), eZero]),
  .inr (0, 7, .inl ([eZero, eZero, eZero, eZero, eZero, eZero, eZero])),
  .inr (0, 7, .inl ([eZero, eZero, eZero, eZero, eZero, eZero, eZero])),
  .inr (0, 7, .inl ([eZero, eZero, eZero, eZero, eZero, eZero, eZero])),
  .inl (1, [.inr (.inl (some 2)), .inr (.inl (some 54)), .inr (.inl (some 62)), .inr (.inl (some 66)), eZero]),
  .inl (7, [eZero, eZero, eZero, eZero, eZero, eZero, .inr (.inl (some 63)), .inr (.inl (some 64)), .inr (.inl (some 65))]),
  .inr (0, 10, .inl ([eZero, eZero, eZero, eZero, eZero, eZero, eZero, eZero, eZero, eZero])),
  .inr (0, 10, .inl ([eZero, eZero, eZero, eZero, eZero, eZero, eZero, eZero, eZero, eZero])),
  .inr (0, 7, .inl ([eZero, eZero, eZero, eZero, eZero, eZero, eZero])),
  .inr (0, 8, .inl ([eZero, eZero, eZero, eZero, eZero, eZero, eZero, eZero])),
  .inl (9, [.inr (.inl (some 2)), .inr (.inl (some 68)), .inr (.inl (some 69)), eZero]),
  .inr (0, 20, .inl (List.replicate 20 (eZero))),
  .inr (2, 20, .inl (List.replicate 20 (eZero)))]
theorem eGl_le {Fz : (Nat → Prop) → State → Heap → Prop} {l0 : Launch} {cl : List vw_C} {Ts : List Cond} {nst : List (String × Nat × MethodName × String)} {sr : List (Int × Int)} {ms : List eM} {yt : List eY} {d y : Nat} {S : eS} {fs gs : List eS} (h : eGl Fz l0 cl Ts nst sr ms yt d y S fs) (hle : fs.all (fun f => gs.any (fun g => eLeS sr (eId sr.length) f g)) = true) : eGl Fz l0 cl Ts nst sr ms yt d y S gs := by
  intro M Y hM hY p e R s m args below meth c hcx D A H0 σ ad0 hs hA hFs Q K
  refine h M Y hM hY p e R s m args below meth c hcx D A H0 σ ad0 hs hA hFs Q (fun f hf H locs ws tys ls lv stk hc => ?_)
  obtain ⟨g, hg, hfg⟩ := List.any_eq_true.mp (List.all_eq_true.mp hle f hf)
  obtain ⟨g1, g2, g3, lv', g4⟩ := eLeS_ok hs hs.1 (eId_ok (fun _ _ => rfl)) hfg hc
  have := K g hg H locs ws tys ls lv' stk g4
  rw [← g1, ← g2, ← g3] at this
  exact this
def tEnds (sr : List (Int × Int)) (orc : Nat → Nat → List eV → eH → Option (List (Option eV × eH))) (d b : Nat) (as : List eV) (h : eH) (gs : List eS) : Bool := match tMs[b]? with
  | none => false
  | some N => Nat.ble (eCats as) N.2.1 && (match eExec sr tDf tMs orc 100000 d b [] (0, eArgs 0 as, [], h, 0, 0) with
    | some fs => fs.all (fun f => gs.any (fun g => eLeS sr (eId sr.length) f g))
    | none => false)
theorem tEnds_ok {l0 : Launch} {adK adV : Nat → Nat} {sr : List (Int × Int)} {orc : Nat → Nat → List eV → eH → Option (List (Option eV × eH))} (horc : ∀ (d b : Nat) (as : List eV) (h : eH) (os : List (Option eV × eH)), orc d b as h = some os → eCon (tFz adK adV) l0 tCl lw_g tNs sr tMs tYs d b as h os) {d b : Nat} {as : List eV} {h : eH} {gs : List eS} {os : List (Option eV × eH)} {N : eM} (hc : tEnds sr orc d b as h gs = true) (hN : tMs[b]? = some N) (ho : eOuts N gs = some os) : eCon (tFz adK adV) l0 tCl lw_g tNs sr tMs tYs d b as h os := by
  unfold tEnds at hc
  rw [hN] at hc
  simp only [Bool.and_eq_true] at hc
  obtain ⟨h1, h2⟩ := hc
  split at h2
  · rename_i fs hfs
    exact eCon_of tOk hN (Nat.le_of_ble_eq_true h1) (eGl_le (tRun horc _ _ _ _ _ _ hfs) h2) ho
  · cases h2
set_option maxRecDepth 1000000 in
theorem tInit1 : tEnds [(0, 0)] (tOrc [(0, 0)]) 600 242 [.inr (.inl (some 0))] [.inl (11, (tDf[11]?).getD [])] [(183, [], [], hClass, 69, 6048)] = true := by decide +kernel
set_option maxRecDepth 1000000 in
theorem tInit2 : tEnds [(0, 0)] tNo 600 0 [.inr (.inl (some 70))] (hClass ++ [.inl (12, (tDf[12]?).getD [])]) [(860, [], [], hFresh, 46, 11962)] = true := by decide +kernel
theorem tInit1_ok (l0 : Launch) (adK adV : Nat → Nat) : eCon (tFz adK adV) l0 tCl lw_g tNs [(0, 0)] tMs tYs 600 242 [.inr (.inl (some 0))] [.inl (11, (tDf[11]?).getD [])] [(none, hClass)] := tEnds_ok tOrc_ok tInit1 rfl rfl
theorem tInit2_ok (l0 : Launch) (adK adV : Nat → Nat) : eCon (tFz adK adV) l0 tCl lw_g tNs [(0, 0)] tMs tYs 600 0 [.inr (.inl (some 70))] (hClass ++ [.inl (12, (tDf[12]?).getD [])]) [(none, hFresh)] := tEnds_ok (fun _ _ _ _ _ h => by cases h) tInit2 rfl rfl
end
section
/-! BEHIND THE TWO STARTS: the cells as a plain memory, and Ok -/
def zOe (e : va_E) (j : Nat) : Int32 := match e with
  | .inr o => match o.2[j]? with
    | some (.int x) => x
    | _ => 0
  | .inl (_, n, .inl f) => if j < n then f j else 0
  | _ => 0
def zLe (e : va_E) (j : Nat) : Int64 := match e with
  | .inl (_, n, .inr (.inl f)) => if j < n then f j else 0
  | _ => 0
def zE (e : va_E) : va_E := match e with
  | .inl (cA, n, .inl f) => .inl (cA, n, .inl (fun j => if j < n then f j else 0))
  | .inl (cA, n, .inr (.inl f)) => .inl (cA, n, .inr (.inl (fun j => if j < n then f j else 0)))
  | e => e
def zW (ws : va_W) : va_W := ws.map (fun q => (q.1, zE q.2))
def zM (ws : va_W) : dM := (fun k j => match ws[k]? with
    | some q => zOe q.2 j
    | none => 0, fun k j => match ws[k]? with
    | some q => zLe q.2 j
    | none => 0, false)
theorem zW_fst (ws : va_W) : (zW ws).map Prod.fst = ws.map Prod.fst := by
  unfold zW
  rw [List.map_map]
  rfl
theorem zW_at {ws : va_W} {k : Nat} {q : Nat × va_E} (h : (zW ws)[k]? = some q) : ∃ q0, ws[k]? = some q0 ∧ q = (q0.1, zE q0.2) := by
  unfold zW at h
  rw [List.getElem?_map] at h
  cases hq : ws[k]? with
  | none => rw [hq] at h; cases h
  | some q0 => rw [hq] at h; exact ⟨q0, rfl, (Option.some.inj h).symm⟩
theorem zW_P {D : va_G} {cl : List vw_C} {ws : va_W} {H : Heap} (h : va_P D cl ws H) : va_P D cl (zW ws) H := by
  intro k q hq
  obtain ⟨⟨a, e⟩, h0, rfl⟩ := zW_at hq
  have g := h k _ h0
  match e, g with
  | .inl (cA, n, .inl f), g =>
    have g : H[a]? = some (arrV cA n (fun j => .int (f j))) := g
    show H[a]? = some (arrV cA n (fun j => .int (if j < n then f j else 0)))
    rw [g]
    congr 1
    unfold arrV
    congr 2
    funext j
    show Value.int (f j) = Value.int (if j.val < n then f j else 0)
    rw [if_pos j.isLt]
  | .inl (cA, n, .inr (.inl f)), g =>
    have g : H[a]? = some (arrV cA n (fun j => .long (f j))) := g
    show H[a]? = some (arrV cA n (fun j => .long (if j < n then f j else 0)))
    rw [g]
    congr 1
    unfold arrV
    congr 2
    funext j
    show Value.long (f j) = Value.long (if j.val < n then f j else 0)
    rw [if_pos j.isLt]
  | .inl (cA, n, .inr (.inr c)), g => exact g
  | .inr o, g => exact g
theorem zW_D {A : Nat → Prop} {ws : va_W} (h : va_D A ws) : va_D A (zW ws) := by
  refine ⟨fun i j p q hp hq e => ?_, fun k q hq => ?_⟩
  · obtain ⟨p0, h1, rfl⟩ := zW_at hp
    obtain ⟨q0, h2, rfl⟩ := zW_at hq
    exact h.1 i j p0 q0 h1 h2 e
  · obtain ⟨q0, h1, rfl⟩ := zW_at hq
    exact h.2 k q0 h1
/-! the shape -/
def zF : List (Option (Option Nat)) → List eV → Bool
  | [], [] => true
  | none :: fs, .inl _ :: es => zF fs es
  | some none :: fs, .inr (.inl none) :: es => zF fs es
  | some (some r) :: fs, .inr (.inl (some k)) :: es => Nat.beq r k && zF fs es
  | _, _ => false
def zR : List Nat → List eV → Bool
  | [], [] => true
  | r :: rs, .inr (.inl (some k)) :: es => Nat.beq r k && zR rs es
  | _, _ => false
def zC (s : dS) (c : eC) : Bool := match s, c with
  | .inl o, .inl p => Nat.beq o.1 p.1 && zF o.2 p.2
  | .inr (.inl a), .inr b => Nat.beq a.1 b.1 && (Nat.blt a.1 3 && Nat.beq a.2 b.2.1)
  | .inr (.inr (.inl n)), .inr b => Nat.beq b.1 3 && Nat.beq n b.2.1
  | .inr (.inr (.inr rs)), .inr b => Nat.beq b.1 4 && (Nat.beq rs.length b.2.1 && (match b.2.2 with
    | .inl es => zR rs es
    | _ => false))
  | _, _ => false
def zS : List dS → eH → Bool
  | [], [] => true
  | s :: sh, c :: h => zC s c && zS sh h
  | _, _ => false
section ZED
variable {ad : List Nat} {σ : Nat → Int} {tys : List (ClassId × FieldType)} {m : dM} {k : Nat}
theorem z_fs (hf : m.2.2 = false) : ∀ (fs : List (Option (Option Nat))) (es : List eV) (vs : List Value) (j : Nat), zF fs es = true → eAll (eOk ad σ) es vs → (∀ (i : Nat) (x : Int32), vs[i]? = some (.int x) → m.1 k (j + i) = x) → eAll (cOk ad) (dFs m k j fs) vs
  | [], [], vs, j, _, h, _ => by
    have := eAll_nil h
    subst this
    exact trivial
  | none :: fs, .inl q :: es, vs, j, hz, h, hv => by
    obtain ⟨b, bs, rfl, h1, h2⟩ := eAll_cons h
    obtain ⟨x, hx, -⟩ := h1
    refine ⟨?_, z_fs hf fs es bs (j + 1) hz h2 (fun i x hi => ?_)⟩
    · show b = .int (m.1 k j)
      have e0 : m.1 k j = x := hv 0 x (by rw [hx]; rfl)
      rw [hx, e0]
    · rw [show j + 1 + i = j + (i + 1) by omega]
      exact hv (i + 1) x hi
  | some none :: fs, .inr (.inl none) :: es, vs, j, hz, h, hv => by
    obtain ⟨b, bs, rfl, h1, h2⟩ := eAll_cons h
    refine ⟨?_, z_fs hf fs es bs (j + 1) hz h2 (fun i x hi => ?_)⟩
    · have h1 : b = .null := h1
      show cOk ad (.inr (.inr (cond m.2.2 (some 1) none))) b
      rw [hf]
      exact h1
    · rw [show j + 1 + i = j + (i + 1) by omega]
      exact hv (i + 1) x hi
  | some (some r) :: fs, .inr (.inl (some k')) :: es, vs, j, hz, h, hv => by
    obtain ⟨b, bs, rfl, h1, h2⟩ := eAll_cons h
    have hz : (Nat.beq r k' && zF fs es) = true := hz
    simp only [Bool.and_eq_true] at hz
    have e := Nat.eq_of_beq_eq_true hz.1
    subst e
    refine ⟨h1, z_fs hf fs es bs (j + 1) hz.2 h2 (fun i x hi => ?_)⟩
    rw [show j + 1 + i = j + (i + 1) by omega]
    exact hv (i + 1) x hi
theorem z_rs : ∀ (rs : List Nat) (es : List eV), zR rs es = true → ∀ (j : Nat) (v : eV), es[j]? = some v → ∃ r, rs[j]? = some r ∧ v = .inr (.inl (some r))
  | [], [], _, j, v, h => by simp at h
  | r :: rs, .inr (.inl (some k)) :: es, hz, j, v, h => by
    have hz : (Nat.beq r k && zR rs es) = true := hz
    simp only [Bool.and_eq_true] at hz
    have e := Nat.eq_of_beq_eq_true hz.1
    subst e
    match j, h with
    | 0, h => exact ⟨r, rfl, (Option.some.inj h).symm⟩
    | j + 1, h => exact z_rs rs es hz.2 j v h
theorem z_cell {s : dS} {c : eC} {q : Nat × va_E} (hf : m.2.2 = false) (h : eCk ad σ tys c q) (hz : zC s c = true) (h1 : m.1 k = zOe q.2) (h2 : dLg m k = zLe q.2) : cCk ad tys (dC m k s) (q.1, zE q.2) := by
  match s, c, h, hz with
  | .inl o, .inl p, h, hz =>
    have hz : (Nat.beq o.1 p.1 && zF o.2 p.2) = true := hz
    simp only [Bool.and_eq_true] at hz
    obtain ⟨vs, e, ha⟩ := h
    have e1 := Nat.eq_of_beq_eq_true hz.1
    refine ⟨vs, ?_, z_fs hf _ _ _ 0 hz.2 ha (fun i x hi => ?_)⟩
    · show zE q.2 = _
      rw [e, e1]
      rfl
    · rw [h1, e, Nat.zero_add]
      show (match vs[i]? with
        | some (.int x) => x
        | _ => 0) = x
      rw [hi]
  | .inr (.inl a), .inr b, h, hz =>
    have hz : (Nat.beq a.1 b.1 && (Nat.blt a.1 3 && Nat.beq a.2 b.2.1)) = true := hz
    simp only [Bool.and_eq_true] at hz
    have e1 := Nat.eq_of_beq_eq_true hz.1
    have e2 := Nat.eq_of_beq_eq_true hz.2.2
    have e3 : a.1 < 3 := Nat.le_of_ble_eq_true hz.2.1
    obtain ⟨cA, t0, g1, g2, g3⟩ := h
    have g3 : ∃ f : Nat → Int32, q.2 = .inl (cA, b.2.1, .inl f) := by
      unfold eAr at g3
      split at g3
      · rename_i he; omega
      · rename_i he; omega
      · obtain ⟨f, hf, -⟩ := g3; exact ⟨f, hf⟩
    obtain ⟨f, g3⟩ := g3
    refine ⟨cA, t0, by show tys[t0]? = some (cA, eTy a.1); rw [e1]; exact g1, e3, by show a.2 < 2 ^ 31; rw [e2]; exact g2, ?_⟩
    show zE q.2 = .inl (cA, a.2, .inl (m.1 k))
    rw [h1, g3, e2]
    rfl
  | .inr (.inr (.inl n)), .inr b, h, hz =>
    have hz : (Nat.beq b.1 3 && Nat.beq n b.2.1) = true := hz
    simp only [Bool.and_eq_true] at hz
    have e1 := Nat.eq_of_beq_eq_true hz.1
    have e2 := Nat.eq_of_beq_eq_true hz.2
    obtain ⟨cA, t0, g1, g2, g3⟩ := h
    rw [e1] at g1 g3
    obtain ⟨f, g3, -⟩ := g3
    refine ⟨cA, t0, g1, by show n < 2 ^ 31; rw [e2]; exact g2, ?_⟩
    show zE q.2 = .inl (cA, n, .inr (.inl (dLg m k)))
    rw [h2, g3, e2]
    rfl
  | .inr (.inr (.inr rs)), .inr (b1, b2, .inl es), h, hz =>
    have hz : (Nat.beq b1 4 && (Nat.beq rs.length b2 && zR rs es)) = true := hz
    simp only [Bool.and_eq_true] at hz
    have e1 := Nat.eq_of_beq_eq_true hz.1
    have e2 := Nat.eq_of_beq_eq_true hz.2.1
    subst e1
    subst e2
    obtain ⟨cA, t0, g1, g2, f, g3, g4⟩ := h
    refine ⟨cA, t0, f, g1, g2, ?_, fun j hj => ?_⟩
    · show zE q.2 = _
      rw [g3]
      rfl
    · obtain ⟨v, hv, ho⟩ := g4 j hj
      obtain ⟨r, hr, e⟩ := z_rs rs es hz.2.2 j v hv
      subst e
      show cOk ad (.inr (.inr rs[j]?)) _
      rw [hr]
      exact ho
  | .inr (.inr (.inr rs)), .inr (b1, b2, .inr z), h, hz =>
    have hz : (Nat.beq b1 4 && (Nat.beq rs.length b2 && false)) = true := hz
    simp at hz
  | .inl o, .inr p, h, hz => cases hz
  | .inr (.inl a), .inl p, h, hz => cases hz
  | .inr (.inr (.inl a)), .inl p, h, hz => cases hz
  | .inr (.inr (.inr a)), .inl p, h, hz => cases hz
theorem z_all (hf : m.2.2 = false) : ∀ (sh : List dS) (h : eH) (ws : va_W) (k0 : Nat), zS sh h = true → eAll (eCk ad σ tys) h ws → (∀ (i : Nat) (q : Nat × va_E), ws[i]? = some q → m.1 (k0 + i) = zOe q.2 ∧ dLg m (k0 + i) = zLe q.2) → eAll (cCk ad tys) (dCs m k0 sh) (zW ws)
  | [], [], ws, k0, _, h, _ => by
    have := eAll_nil h
    subst this
    exact trivial
  | s :: sh, c :: h, ws, k0, hz, ha, hm => by
    obtain ⟨q, qs, rfl, h1, h2⟩ := eAll_cons ha
    have hz : (zC s c && zS sh h) = true := hz
    simp only [Bool.and_eq_true] at hz
    refine ⟨z_cell hf h1 hz.1 (hm 0 q rfl).1 (hm 0 q rfl).2, z_all hf sh h qs (k0 + 1) hz.2 h2 (fun i q hi => ?_)⟩
    rw [show k0 + 1 + i = k0 + (i + 1) by omega]
    exact hm (i + 1) q hi
/-! the bounds -/
def zAi (c : List eV ⊕ (Int × Int)) (j : Nat) : Option (Int × Int) := match c with
  | .inl es => match es[j]? with
    | some (.inl q) => cond (Nat.beq q.1 0) (some q.2) none
    | _ => none
  | .inr q => some q
def zAb (c : eC) (j : Nat) : Option (Int × Int) := match c with
  | .inl o => match o.2[j]? with
    | some (.inl q) => cond (Nat.beq q.1 0) (some q.2) none
    | _ => some (0, 0)
  | .inr a => cond (Nat.blt a.1 3) (cond (Nat.blt j a.2.1) (zAi a.2.2 j) (some (0, 0))) (cond (Nat.beq a.1 3 || Nat.beq a.1 4) (some (0, 0)) none)
theorem z_ab {c : eC} {q : Nat × va_E} {j : Nat} {b : Int × Int} (hs : σ 0 = 0) (h : eCk ad σ tys c q) (hz : zAb c j = some b) : b.1 ≤ (zOe q.2 j).toInt ∧ (zOe q.2 j).toInt ≤ b.2 := by
  have inn : ∀ (w : eI) (x : Int32), Nat.beq w.1 0 = true → eIn σ w x → w.2.1 ≤ x.toInt ∧ x.toInt ≤ w.2.2 := fun w x e g => by
    have e := Nat.eq_of_beq_eq_true e
    unfold eIn at g
    rw [e, hs] at g
    omega
  match c, h, hz with
  | .inl o, h, hz =>
    obtain ⟨vs, e, ha⟩ := h
    rw [e]
    have hz : (match o.2[j]? with
      | some (.inl q) => cond (Nat.beq q.1 0) (some q.2) none
      | _ => some (0, 0)) = some b := hz
    show b.1 ≤ (match vs[j]? with
        | some (.int x) => x
        | _ => 0).toInt ∧ (match vs[j]? with
        | some (.int x) => x
        | _ => 0).toInt ≤ b.2
    cases hv : vs[j]? with
    | none =>
      have hl := eAll_len ha
      have : o.2[j]? = none := by
        rw [List.getElem?_eq_none_iff] at hv ⊢
        omega
      rw [this] at hz
      cases hz
      decide
    | some w =>
      cases ho : o.2[j]? with
      | none =>
        have hl := eAll_len ha
        rw [List.getElem?_eq_none_iff] at ho
        have := (List.getElem?_eq_some_iff.mp hv).1
        exfalso; omega
      | some v =>
        obtain ⟨w', g1, g2⟩ := eAll_get ha ho
        have ew := Option.some.inj (hv.symm.trans g1)
        subst ew
        rw [ho] at hz
        match v, g2, hz with
        | .inl w0, ⟨x, hx, hi⟩, hz =>
          have hz : cond (Nat.beq w0.1 0) (some w0.2) none = some b := hz
          obtain ⟨e1, e2⟩ := eCond hz
          cases e2
          rw [hx]
          exact inn w0 x e1 hi
        | .inr (.inl none), g2, hz =>
          have g2 : w = .null := g2
          cases hz
          rw [g2]; decide
        | .inr (.inl (some r)), ⟨a, _, g2⟩, hz =>
          cases hz
          rw [g2]; show (0 : Int) ≤ (0 : Int32).toInt ∧ (0 : Int32).toInt ≤ 0; decide
        | .inr (.inr _), ⟨x, g2, _⟩, hz =>
          cases hz
          rw [g2]; show (0 : Int) ≤ (0 : Int32).toInt ∧ (0 : Int32).toInt ≤ 0; decide
  | .inr (kd, n, c), h, hz =>
    obtain ⟨cA, t0, g1, g2, g3⟩ := h
    by_cases hk : kd < 3
    · have g3 : ∃ f : Nat → Int32, q.2 = .inl (cA, n, .inl f) ∧ eCt ad σ n f c := by
        unfold eAr at g3
        split at g3
        · rename_i he; have he : kd = 3 := he; omega
        · rename_i he; have he : kd = 4 := he; omega
        · exact g3
      obtain ⟨f, g3, g4⟩ := g3
      rw [g3]
      show b.1 ≤ (if j < n then f j else 0).toInt ∧ (if j < n then f j else 0).toInt ≤ b.2
      have hb : Nat.blt kd 3 = true := Nat.ble_eq_true_of_le hk
      have hz : cond (Nat.blt kd 3) (cond (Nat.blt j n) (zAi c j) (some (0, 0))) (cond (Nat.beq kd 3 || Nat.beq kd 4) (some (0, 0)) none) = some b := hz
      rw [hb] at hz
      by_cases hj : j < n
      · have hb2 : Nat.blt j n = true := Nat.ble_eq_true_of_le hj
        rw [hb2] at hz
        rw [if_pos hj]
        match c, g4, hz with
        | .inl es, g4, hz =>
          obtain ⟨v, hv, ho⟩ := g4 j hj
          simp only [cond_true, zAi, hv] at hz
          match v, ho, hz with
          | .inl w0, ⟨x, hx, hi⟩, hz =>
            obtain ⟨e1, e2⟩ := eCond hz
            cases e2
            cases hx
            exact inn w0 _ e1 hi
          | .inr (.inl none), _, hz => cases hz
          | .inr (.inl (some r)), _, hz => cases hz
          | .inr (.inr _), _, hz => cases hz
        | .inr z, g4, hz =>
          cases hz
          exact g4 j hj
      · have hb2 : Nat.blt j n = false := by
          cases hq : Nat.blt j n with
          | false => rfl
          | true => exact absurd (Nat.le_of_ble_eq_true hq) hj
        rw [hb2] at hz
        rw [if_neg hj]
        cases hz
        decide
    · have hb : Nat.blt kd 3 = false := by
        cases hq : Nat.blt kd 3 with
        | false => rfl
        | true => exact absurd (Nat.le_of_ble_eq_true hq) hk
      have hz : cond (Nat.blt kd 3) (cond (Nat.blt j n) (zAi c j) (some (0, 0))) (cond (Nat.beq kd 3 || Nat.beq kd 4) (some (0, 0)) none) = some b := hz
      rw [hb] at hz
      obtain ⟨e1, e2⟩ := eCond (show cond (Nat.beq kd 3 || Nat.beq kd 4) (some (0, 0)) none = some b from hz)
      cases e2
      rw [Bool.or_eq_true] at e1
      have e0 : zOe q.2 j = 0 := by
        rcases e1 with e1 | e1
        · have e1 := Nat.eq_of_beq_eq_true e1
          subst e1
          obtain ⟨f, g3, -⟩ := g3; rw [g3]; rfl
        · have e1 := Nat.eq_of_beq_eq_true e1
          subst e1
          obtain ⟨f, g3, -⟩ := g3; rw [g3]; rfl
      rw [e0]; show (0 : Int) ≤ (0 : Int32).toInt ∧ (0 : Int32).toInt ≤ 0; decide
theorem z_lg {n : Nat} {es : List eV} {q : Nat × va_E} {j : Nat} {y : Int64} (h : eCk ad σ tys (.inr (3, n, .inl es)) q) (hj : j < n) (he : es[j]? = some (.inr (.inr (some y)))) : zLe q.2 j = y := by
  obtain ⟨cA, t0, g1, g2, f, g3, g4⟩ := h
  obtain ⟨v, h1, x, h2, h3⟩ := (show ∃ v, es[j]? = some v ∧ ∃ x : Int64, True ∧ eOk ad σ v (.long (f j)) from by
    obtain ⟨v, k1, k2⟩ := g4 j hj
    exact ⟨v, k1, 0, trivial, k2⟩)
  rw [he] at h1
  cases h1
  obtain ⟨x, hx, hy⟩ := h3
  have g3 : q.2 = .inl (cA, n, .inr (.inl f)) := g3
  rw [g3]
  show (if j < n then f j else 0) = y
  rw [if_pos hj]
  cases hx
  exact hy y rfl
theorem z_lg0 {n : Nat} {es : List eV} {q : Nat × va_E} {j : Nat} (h : eCk ad σ tys (.inr (3, n, .inl es)) q) (hj : ¬ j < n) : zLe q.2 j = 0 := by
  obtain ⟨cA, t0, g1, g2, f, g3, g4⟩ := h
  have g3 : q.2 = .inl (cA, n, .inr (.inl f)) := g3
  rw [g3]
  show (if j < n then f j else 0) = 0
  rw [if_neg hj]
end ZED
end
