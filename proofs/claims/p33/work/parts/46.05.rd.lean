/-! THE REFERENCE's read, 6: a law from its start to its end (by hand) -/
theorem LSt.weak {mb m : dM} {s : Nat} {e e' bm bm' : Int} (h : LSt mb s e bm m) (he : e' ≤ e) (hb : bm ≤ bm') : LSt mb s e' bm' m := by
  obtain ⟨h1, h2, h3, h4, h5, h6⟩ := h
  refine ⟨h1, h2, h3, h4, by omega, fun h0 => ?_⟩
  have h6 := h6 h0
  exact ⟨h6.1, h6.2.1, h6.2.2.1, by omega, h6.2.2.2.2⟩
theorem LSt.bad {mb m : dM} {s : Nat} {e e' bm : Int} (h : LSt mb s e bm m) (hf : 0 < flt m) : LSt mb s e' bm m := by
  obtain ⟨h1, h2, h3, h4, h5, h6⟩ := h
  exact ⟨h1, h2, h3, h4, h5, fun h0 => by exfalso; omega⟩
/-- the two first pieces of the branch under way -/
def P98 (m : dM) (s : Nat) : Prop := PW m s (m.1 98 (m.1 70 40).toNatClampNeg).toInt (m.1 99 (m.1 70 40).toNatClampNeg).toInt ∧ PW m s (m.1 99 (m.1 70 40).toNatClampNeg).toInt (cds m)
theorem tl_main {mb : dM} {s : Nat} {x1 x2 : Int32} {Q : dM → Prop} (hs : s ≤ 1) (hcb : 420 * (s : Int) ≤ cds mb) (hbb : 130 * (s : Int) ≤ brs mb) (hx1 : 0 ≤ x1.toInt ∧ x1.toInt ≤ 3) (hsd : (mb.1 70 19).toInt = s)
    (hQ1 : ∀ m', LSt mb s 0 101 m' → 0 < flt m' → Q m') (hQ2 : ∀ m', LSt mb s 0 101 m' → flt m' = 0 → Q (dSet (dSet m' 95 (((4 : Int32) * (m'.1 70 19)) + x1).toNatClampNeg x2) 96 (((4 : Int32) * (m'.1 70 19)) + x1).toNatClampNeg (m'.1 70 40))) : ∀ n : Nat,
    (∀ (x3 : Int32) (m : dM), LSt mb s 2 100 m → 0 ≤ x3.toInt ∧ x3.toInt ≤ 4 → mu m 6 1 n → j_X12_tellLaw_70_12 6 x1 x2 x3 m Q) ∧
    (∀ (x3 : Int32) (m : dM), LSt mb s 2 99 m → 0 ≤ x3.toInt ∧ x3.toInt ≤ 4 → (flt m = 0 → x3.toInt ≤ 3) → mu m 5 0 n → j_X12_tellLaw_70_38 6 x1 x2 x3 m Q) ∧
    (∀ (x3 : Int32) (m : dM), LSt mb s 6 99 m → 0 ≤ x3.toInt ∧ x3.toInt ≤ 4 → (flt m = 0 → P98 m s) → mu m 7 2 n → j_X12_tellLaw_70_110 6 x1 x2 x3 m Q) := by
  have last : ∀ m : dM, LSt mb s 2 100 m → j_X12_tellLaw_70_129 6 x1 x2 m Q := by
    intro m h
    have hb5 := h.2.2.2.2.1
    have eb0 : (m.1 70 40).toInt = brs m := rfl
    have g := h.br (k := 97) (v := (0 : Int32)) (by omega) (by omega) (by omega) (by omega)
    refine v_X12_tellLaw_70_129 ⟨by omega, ?_⟩
    refine p_term hs hcb hbb (by omega) g (fun _ hne => ?_) (fun m1 h1 _ _ => ?_)
    · have e : (dSet m 97 (m.1 70 40).toNatClampNeg (0 : Int32)).1 97 ((dSet m 97 (m.1 70 40).toNatClampNeg (0 : Int32)).1 70 40).toNatClampNeg = 0 := dSet_s _ _ _ _
      rw [e] at hne
      exact absurd rfl hne
    · refine Wp.deep (p_must h1.2.1 h1.2.2.2.1 (fun m2 h2 => ?_)) (Nat.le_of_ble_eq_true rfl)
      have g2 : LSt mb s 0 101 m2 := (h1.mv h2 (by decide)).weak (by decide) (by decide)
      have e19 : (m2.1 70 19).toInt = s := by rw [g2.1.2.1 19 (by decide) (by decide) (by decide) (by decide) (by decide) (by decide) (by decide) (by decide) (by decide)]; exact hsd
      have fm := dMulE (X := 4) (Y := (s : Int)) (x := (4 : Int32)) (y := m2.1 70 19) (by decide) e19 (by omega) (by omega)
      have fa := dAddE (X := 4 * (s : Int)) (Y := x1.toInt) (x := (4 : Int32) * m2.1 70 19) (y := x1) fm rfl (by omega) (by omega)
      refine ⟨fun hc => ⟨by omega, ⟨by omega, hQ2 m2 g2 ?_⟩⟩, fun hc => hQ1 m2 g2 hc⟩
      have hc : flt m2 ≤ 0 := hc
      have := g2.2.2.2.1
      omega
  intro n
  induction n with
  | zero =>
    refine ⟨fun x3 m h h3 hμ => ?_, fun x3 m h h3 h4 hμ => ?_, fun x3 m h h3 hP hμ => ?_⟩ <;> (have := h.2.1; exfalso; rcases hμ with q | q <;> omega)
  | succ n ih =>
    refine ⟨fun x3 m h h3 hμ => ?_, fun x3 m h h3 h4 hμ => ?_, fun x3 m h h3 hP hμ => ?_⟩
    · refine v_X12_tellLaw_70_12 ⟨fun _ => last m h, fun h0 => ?_⟩
      have h0 : flt m = 0 := h0
      have h6 := h.2.2.2.2.2 h0
      have hb5 := h.2.2.2.2.1
      have h' : LSt mb s 2 99 m := ⟨h.1, h.2.1, h.2.2.1, h.2.2.2.1, by have := h.2.1; omega, h.2.2.2.2.2⟩
      refine Wp.deep (p_is h.2.1 (fun h1 h2 => ⟨fun q => absurd q (by decide), fun _ => ⟨fun hne => ?_, fun he => ?_⟩⟩) (fun h1 => ⟨fun _ => last m h, fun q => absurd rfl q⟩)) (Nat.le_of_ble_eq_true rfl)
      · refine ih.2.1 x3 m h' h3 (fun _ => by omega) ?_
        left
        rcases hμ with q | q <;> omega
      · refine Wp.deep (p_fail h.2.1 (by decide) (fun m2 h2 hf2 => ?_)) (Nat.le_of_ble_eq_true rfl)
        refine ih.2.1 x3 m2 ((h'.mv h2 (by decide)).weak (by decide) (by decide)) h3 (fun q => by exfalso; omega) ?_
        right
        have := h.2.1
        rcases hμ with q | q <;> omega
    · refine v_X12_tellLaw_70_38 ⟨fun hc => ?_, fun hc => hQ1 m ((LSt.bad h hc).weak (Int.le_refl _) (by decide)) hc⟩
      have h0 : flt m = 0 := by
        have hc : flt m ≤ 0 := hc
        have := h.2.2.2.1
        omega
      have h34 := h4 h0
      have f3 := dAddE (X := x3.toInt) (Y := 1) (x := x3) (y := (1 : Int32)) rfl (by decide) (by omega) (by omega)
      refine Wp.deep (p_goesOn h.2.1 h.2.2.2.1 (fun m1 h1 => ?_)) (Nat.le_of_ble_eq_true rfl)
      have k4 := h1.2.2.2.1
      have g1 : LSt mb s 3 99 m1 := h.mv h1 (by decide)
      have hb5 := g1.2.2.2.2.1
      have eb0 : (m1.1 70 40).toInt = brs m1 := rfl
      have eb1 : ((m1.1 70 40).toNatClampNeg : Int) = brs m1 := d_cl (show 0 ≤ brs m1 by omega)
      refine ⟨by omega, ⟨by omega, ?_⟩⟩
      have g2 : LSt mb s 3 99 (dSet (dSet m1 97 (m1.1 70 40).toNatClampNeg (1 : Int32)) 98 (m1.1 70 40).toNatClampNeg (m1.1 70 46)) :=
        (g1.br (k := 97) (v := (1 : Int32)) (by omega) (by omega) (by omega) (by omega)).br (k := 98) (v := m1.1 70 46) (by omega) (by omega) (by omega) (by omega)
      refine Wp.deep (g2.ex hs hcb (fun m2 g3 hk hb ht2 hz => ?_)) (Nat.le_of_ble_eq_true rfl)
      have hb' : brs m2 = brs m1 := hb
      refine Wp.deep (p_must g3.2.1 g3.2.2.2.1 (fun m3 h3' => ?_)) (Nat.le_of_ble_eq_true rfl)
      have g4 : LSt mb s 5 99 m3 := g3.mv h3' (by decide)
      have hb6 := g4.2.2.2.2.1
      have b3 : m3.1 70 40 = m2.1 70 40 := h3'.2.1 40 (by decide) (by decide) (by decide) (by decide) (by decide)
      have c3 : m3.1 70 46 = m2.1 70 46 := h3'.2.1 46 (by decide) (by decide) (by decide) (by decide) (by decide)
      have eb3 : (m3.1 70 40).toNatClampNeg = (m1.1 70 40).toNatClampNeg := by
        have w1 := d_cl (show 0 ≤ (m3.1 70 40).toInt by show 0 ≤ brs m3; omega)
        have w2 : (m3.1 70 40).toInt = brs m2 := by rw [b3]; rfl
        omega
      have w3 : (m3.1 70 40).toInt = brs m3 := rfl
      refine ⟨by omega, ?_⟩
      have g5 : LSt mb s 5 99 (dSet m3 99 (m3.1 70 40).toNatClampNeg (m3.1 70 46)) := g4.br (k := 99) (by omega) (by omega) (by omega) (by omega)
      have k43 := h3'.2.2.2.1
      refine ⟨fun hf => ?_, fun hf => ?_⟩
      · have hf : flt m3 ≠ 0 := hf
        have hf2 : 0 < flt (dSet m3 99 (m3.1 70 40).toNatClampNeg (m3.1 70 46)) := by
          have w4 : flt (dSet m3 99 (m3.1 70 40).toNatClampNeg (m3.1 70 46)) = flt m3 := rfl
          have := g4.2.2.2.1
          omega
        refine ih.2.2 _ _ (LSt.bad g5 hf2) (by omega) (fun q => by exfalso; omega) ?_
        right
        have := h.2.1
        rcases hμ with q | q <;> omega
      · have hf : flt m3 = 0 := hf
        have f2 : flt m2 = 0 := by rcases k43 with q | q <;> omega
        have hz := hz f2
        have hz1 : flt m1 = 0 := hz.1
        refine Wp.deep (g5.ex hs hcb (fun m4 g6 hk4 hb4 ht4 hz4 => ?_)) (Nat.le_of_ble_eq_true rfl)
        refine ih.2.2 _ _ g6 (by omega) (fun h04 => ?_) ?_
        · have hz4 := hz4 h04
          have b4 : brs m4 = brs m3 := hb4
          have eb4 : (m4.1 70 40).toNatClampNeg = (m3.1 70 40).toNatClampNeg := by
            have w1 := d_cl (show 0 ≤ (m4.1 70 40).toInt by show 0 ≤ brs m4; omega)
            have w5 := d_cl (show 0 ≤ (m3.1 70 40).toInt by omega)
            have w2 : (m4.1 70 40).toInt = brs m4 := rfl
            omega
          have e98 : m4.1 98 (m4.1 70 40).toNatClampNeg = m1.1 70 46 := by
            rw [hk4 98 (by omega) (by omega), dSet_k (by decide), h3'.1 98 (by decide), hk 98 (by omega) (by omega), eb4, eb3, dSet_s]
          have e99 : m4.1 99 (m4.1 70 40).toNatClampNeg = m3.1 70 46 := by
            rw [hk4 99 (by omega) (by omega), eb4, dSet_s]
          have cc3 : (m3.1 70 46).toInt = cds m2 := by rw [c3]; rfl
          have cd3 : cds (dSet m3 99 (m3.1 70 40).toNatClampNeg (m3.1 70 46)) = cds m2 := cc3
          have hz42 := hz4.2.1
          have hz43 := hz4.2.2.1
          have hz44 := hz4.2.2.2
          rw [cd3] at hz42 hz43 hz44
          unfold P98
          rw [e98, e99, cc3]
          refine ⟨⟨?_, by omega⟩, ⟨hz43, Int.le_refl _⟩⟩
          refine gPc_congr (g := m2.1) (c := cds m2) (fun j hj => ?_) (Int.le_refl _) hz.2.2.1
          have w := hz44 j hj
          have e3 : (dSet m3 99 (m3.1 70 40).toNatClampNeg (m3.1 70 46)).1 102 j = m2.1 102 j ∧ (dSet m3 99 (m3.1 70 40).toNatClampNeg (m3.1 70 46)).1 103 j = m2.1 103 j := by
            rw [dSet_k (by decide), dSet_k (by decide), h3'.1 102 (by decide), h3'.1 103 (by decide)]
            exact ⟨rfl, rfl⟩
          exact ⟨w.1.trans e3.1, w.2.trans e3.2⟩
        · have k41 := h1.2.2.2.1
          have t4 := g6.2.1
          have s4 := g6.2.2.2.1
          have a1 : tt m1 ≤ tt m2 := ht2
          have a2 : tt m3 ≤ tt m4 := ht4
          have a3 := h.2.1
          unfold mu
          by_cases q0 : flt m4 = 0
          · left
            rcases k43 with y | y <;> rcases hμ with q | q <;> rcases k41 with z | z <;> omega
          · right
            rcases hμ with q | q <;> omega
    · refine v_X12_tellLaw_70_110 ?_
      refine Wp.deep (p_must h.2.1 h.2.2.2.1 (fun m1 h1 => ?_)) (Nat.le_of_ble_eq_true rfl)
      have g1 : LSt mb s 7 99 m1 := h.mv h1 (by decide)
      have k41 := h1.2.2.2.1
      have b1 : m1.1 70 40 = m.1 70 40 := h1.2.1 40 (by decide) (by decide) (by decide) (by decide) (by decide)
      have c1 : cds m1 = cds m := by unfold cds; rw [h1.2.1 46 (by decide) (by decide) (by decide) (by decide) (by decide)]
      refine p_term hs hcb hbb (by omega) g1 (fun f1 _ => ?_) (fun m2 g2 a1 a2 => ?_)
      · have f0 : flt m = 0 := by rcases k41 with z | z <;> omega
        have hP := hP f0
        unfold P98 at hP
        rw [b1, h1.1 98 (by decide), h1.1 99 (by decide), c1]
        exact ⟨hP.1.up (fun j _ => by rw [h1.1 102 (by decide), h1.1 103 (by decide)]; exact ⟨rfl, rfl⟩) (by omega), hP.2.up (fun j _ => by rw [h1.1 102 (by decide), h1.1 103 (by decide)]; exact ⟨rfl, rfl⟩) (by omega)⟩
      · refine Wp.deep (p_must g2.2.1 g2.2.2.2.1 (fun m3 h3' => ?_)) (Nat.le_of_ble_eq_true rfl)
        have g3 : LSt mb s 5 100 m3 := g2.mv h3' (by decide)
        refine ih.1 x3 m3 (g3.weak (by decide) (by decide)) h3 ?_
        have k43 := h3'.2.2.2.1
        have a3 := h.2.1
        have a4 := g3.2.2.2.1
        unfold mu
        by_cases q0 : flt m3 = 0
        · left
          rcases k43 with y | y <;> rcases k41 with z | z <;> rcases hμ with q | q <;> omega
        · right
          rcases hμ with q | q <;> omega
