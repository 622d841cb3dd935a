/-! THE REFERENCE: what a law tells (by hand) -/
section LAWT
variable {g : gM}
theorem l_term {Q : Int32 → dM → Prop} (hG : Gd g) (hQ : ∀ (r : Int32) (m' : dM), Inv g m' → Q r m') : ∀ n : Nat,
    (∀ (x2 x3 x4 : Int32) (m : dM), Inv g m → 0 ≤ x4.toInt → x4.toInt ≤ x2.toInt → x2.toInt ≤ 840 → 0 ≤ x3.toInt → x3.toInt + (x2.toInt - x4.toInt) ≤ 400 → gSeg g (x2.toInt - x4.toInt).toNat x4.toInt.toNat x3.toInt.toNat → 3 * (x2.toInt - x4.toInt) < (n : Int) → j_X12_termOf_70_5 1 x2 x3 x4 m Q) ∧
    (∀ (x2 x3 x4 x5 x6 x7 : Int32) (m : dM), Inv g m → 0 ≤ x4.toInt → x4.toInt < x2.toInt → x2.toInt ≤ 840 → 1 ≤ x3.toInt → x3.toInt + (x2.toInt - x4.toInt - 1) ≤ 400 → gSeg g (x2.toInt - x4.toInt - 1).toNat (x4.toInt.toNat + 1) x3.toInt.toNat → 2 ≤ x5.toInt ∧ x5.toInt ≤ 5 → (x5.toInt = 5 → x7.toInt ≠ 0) → 3 * (x2.toInt - x4.toInt) - 1 < (n : Int) → j_X12_termOf_70_104 1 x2 x3 x4 x5 x6 x7 m Q) ∧
    (∀ (x2 x3 x4 : Int32) (m : dM), Inv g m → 0 ≤ x4.toInt → x4.toInt < x2.toInt → x2.toInt ≤ 840 → 0 ≤ x3.toInt → x3.toInt + (x2.toInt - x4.toInt - 1) ≤ 400 → gSeg g (x2.toInt - x4.toInt - 1).toNat (x4.toInt.toNat + 1) x3.toInt.toNat → 3 * (x2.toInt - x4.toInt) - 2 < (n : Int) → j_X12_termOf_70_159 1 x2 x3 x4 m Q) := by
  intro n
  induction n with
  | zero => exact ⟨fun x2 x3 x4 m hI h1 h2 h3 h4 h5 h6 hμ => by exfalso; omega, fun x2 x3 x4 x5 x6 x7 m hI h1 h2 h3 h4 h5 h6 h7 h8 hμ => by exfalso; omega, fun x2 x3 x4 m hI h1 h2 h3 h4 h5 h6 hμ => by exfalso; omega⟩
  | succ n ih =>
    refine ⟨fun x2 x3 x4 m hI h1 h2 h3 h4 h5 h6 hμ => ?_, fun x2 x3 x4 x5 x6 x7 m hI h1 h2 h3 h4 h5 h6 h7 h8 hμ => ?_, fun x2 x3 x4 m hI h1 h2 h3 h4 h5 h6 hμ => ?_⟩
    · refine v_X12_termOf_70_5 ⟨fun _ => hQ _ _ hI, fun hc => ⟨by omega, ?_⟩⟩
      have ec : m.1 102 x4.toNatClampNeg = g 102 x4.toInt.toNat := hI.2 102 _ rfl
      have ei : m.1 103 x4.toNatClampNeg = g 103 x4.toInt.toNat := hI.2 103 _ rfl
      have e1 : (x2.toInt - x4.toInt).toNat = (x2.toInt - x4.toInt - 1).toNat + 1 := by omega
      rw [e1] at h6
      have fm := dAddE (X := x3.toInt) (Y := -1) (x := x3) (y := (-1 : Int32)) rfl (by decide) (by omega) (by omega)
      have fp := dAddE (X := x3.toInt) (Y := 1) (x := x3) (y := (1 : Int32)) rfl (by decide) (by omega) (by omega)
      have fs := dSubE (X := x3.toInt + -1) (Y := 1) (x := x3 + (-1 : Int32)) (y := (1 : Int32)) fm (by decide) (by omega) (by omega)
      have e3 : ∀ y : Int32, y.toInt = x3.toInt + -1 → y.toInt.toNat = x3.toInt.toNat - 1 := fun y h => by omega
      have e4 : ∀ y : Int32, y.toInt = x3.toInt + 1 → y.toInt.toNat = x3.toInt.toNat + 1 := fun y h => by omega
      rcases h6 with ⟨k1, k2, k3⟩ | ⟨k1, k2, k3⟩
      · rw [ec, ei]
        refine ⟨fun h => by exfalso; omega, fun _ => ⟨fun hz => ⟨by omega, ⟨by have := k2 hz; omega, ⟨by omega, ?_⟩⟩⟩, fun hz => ⟨by omega, ⟨by omega, ?_⟩⟩⟩⟩
        · exact ih.2.2 _ _ _ _ (Inv.setA hI rfl) h1 hc h3 (by omega) (by omega) (by rw [e4 _ fp]; exact k3) (by omega)
        · exact ih.2.2 _ _ _ _ (Inv.setA hI rfl) h1 hc h3 (by omega) (by omega) (by rw [e4 _ fp]; exact k3) (by omega)
      · rw [ec]
        have k3' : gSeg g (x2.toInt - x4.toInt - 1).toNat (x4.toInt.toNat + 1) (x3 + (-1 : Int32)).toInt.toNat := by rw [e3 _ fm]; exact k3
        refine ⟨fun _ => ⟨by omega, ⟨by omega, fun hz => ?_, fun hz => ⟨fun hy => ?_, fun hy => hQ _ _ (Inv.setA hI rfl)⟩⟩⟩, fun h => by exfalso; omega⟩
        · exact ih.2.1 _ _ _ _ _ _ _ hI h1 hc h3 (by omega) (by omega) k3' k1 (fun q => absurd q hz) (by omega)
        · exact ih.2.1 _ _ _ _ _ _ _ hI h1 hc h3 (by omega) (by omega) k3' k1 (fun _ => hy) (by omega)
    · have fs := dSubE (X := x3.toInt) (Y := 1) (x := x3) (y := (1 : Int32)) rfl (by decide) (by omega) (by omega)
      have go : ∀ v : Int32, j_X12_termOf_70_159 1 x2 x3 x4 (dSet m 106 (x3 - (1 : Int32)).toNatClampNeg v) Q := fun v => ih.2.2 _ _ _ _ (Inv.setA hI rfl) h1 h2 h3 (by omega) h5 h6 (by omega)
      refine v_X12_termOf_70_104 ⟨fun a1 => ⟨fun a2 => ⟨fun a3 => ⟨fun hz => ?_, ⟨by omega, go _⟩⟩, fun _ => ⟨by omega, go _⟩⟩, fun _ => ⟨by omega, go _⟩⟩, fun _ => ⟨by omega, go _⟩⟩
      have := h8 (by omega)
      rw [hz] at this
      exact this rfl
    · have fp := dAddE (X := x4.toInt) (Y := 1) (x := x4) (y := (1 : Int32)) rfl (by decide) (by omega) (by omega)
      refine v_X12_termOf_70_159 ?_
      refine ih.1 _ _ _ _ hI (by omega) (by omega) h3 h4 (by omega) ?_ (by omega)
      have e4 : ∀ y : Int32, y.toInt = x4.toInt + 1 → y.toInt.toNat = x4.toInt.toNat + 1 ∧ (x2.toInt - y.toInt).toNat = (x2.toInt - x4.toInt - 1).toNat := fun y h => ⟨by omega, by omega⟩
      rw [(e4 _ fp).1, (e4 _ fp).2]
      exact h6
theorem l_termOf {L : Nat} {x1 x2 : Int32} {m : dM} {Q : Int32 → dM → Prop} (hG : Gd g) (hI : Inv g m) (hL : L ≤ 1) (hp : gPc g L x1.toInt x2.toInt) (hQ : ∀ (r : Int32) (m' : dM), Inv g m' → Q r m') : c_X12_termOf_70 1 x1 x2 m Q := by
  refine v_X12_termOf_70 ?_
  obtain ⟨p1, p2, p3, p4, p5⟩ := hp
  have e0 := ti_0
  exact (l_term hG hQ 3000).1 _ _ _ _ hI (by omega) p2 (by omega) (by decide) (by omega) p5 (by omega)
theorem l_law {L : Nat} {x3 : Int32} {Q : Int32 → dM → Prop} (hG : Gd g) (hL1 : L ≤ 1) (h3 : 0 ≤ x3.toInt ∧ x3.toInt ≤ 7) (hb : (g 96 x3.toNatClampNeg).toInt ≤ 260) (hL : ∀ j : Nat, (g 95 x3.toNatClampNeg).toInt ≤ j → (j : Int) < (g 96 x3.toNatClampNeg).toInt → gBr g L j) (hQ : ∀ (r : Int32) (m' : dM), Inv g m' → Q r m') : ∀ n : Nat,
    (∀ (x4 : Int32) (m : dM), Inv g m → 0 ≤ x4.toInt → (g 95 x3.toNatClampNeg).toInt ≤ x4.toInt → x4.toInt ≤ (g 96 x3.toNatClampNeg).toInt → 2 * ((g 96 x3.toNatClampNeg).toInt - x4.toInt) + 1 < (n : Int) → j_X12_lawTells_70_39 2 x3 x4 m Q) ∧
    (∀ (x4 : Int32) (m : dM), Inv g m → 0 ≤ x4.toInt → (g 95 x3.toNatClampNeg).toInt ≤ x4.toInt → x4.toInt < (g 96 x3.toNatClampNeg).toInt → 2 * ((g 96 x3.toNatClampNeg).toInt - x4.toInt) < (n : Int) → j_X12_lawTells_70_119 2 x4 m Q) := by
  intro n
  induction n with
  | zero => exact ⟨fun x4 m hI h1 h2 h4 hμ => by exfalso; omega, fun x4 m hI h1 h2 h4 hμ => by exfalso; omega⟩
  | succ n ih =>
    refine ⟨fun x4 m hI h1 h2 h4 hμ => ?_, fun x4 m hI h1 h2 h4 hμ => ?_⟩
    · have e96 : m.1 96 x3.toNatClampNeg = g 96 x3.toNatClampNeg := hI.2 96 _ rfl
      have c4 := d_cl h1
      refine v_X12_lawTells_70_39 ⟨by omega, ?_⟩
      rw [e96]
      refine ⟨fun _ => hQ _ _ hI, fun hc => ⟨by omega, fun _ => ih.2 _ _ hI h1 h2 hc (by omega), fun ht => ⟨by omega, ⟨by omega, ?_⟩⟩⟩⟩
      have br := hL x4.toNatClampNeg (by omega) (by omega)
      rw [hI.2 97 _ rfl] at ht
      have br1 := br.1 ht
      refine l_termOf hG hI hL1 (by rw [hI.2 98 _ rfl, hI.2 99 _ rfl]; exact br1.1) (fun r1 m1 I1 => ⟨by omega, ⟨by omega, ?_⟩⟩)
      refine l_termOf hG I1 hL1 (by rw [I1.2 99 _ rfl, I1.2 100 _ rfl]; exact br1.2) (fun r2 m2 I2 => ⟨fun _ => ⟨fun _ => ih.2 _ _ I2 h1 h2 hc (by omega), fun _ => ?_⟩, fun _ => hQ _ _ I2⟩)
      have fp := dAddE (X := x4.toInt) (Y := 1) (x := x4) (y := (1 : Int32)) rfl (by decide) (by omega) (by omega)
      exact ih.1 _ _ I2 (by omega) (by omega) (by omega) (by omega)
    · have c4 := d_cl h1
      have br := hL x4.toNatClampNeg (by omega) (by omega)
      refine v_X12_lawTells_70_119 ⟨by omega, ⟨by omega, ?_⟩⟩
      exact l_termOf hG hI hL1 (by rw [hI.2 100 _ rfl, hI.2 101 _ rfl]; exact br.2) (fun r1 m1 I1 => ⟨fun _ => hQ _ _ I1, fun _ => hQ _ _ I1⟩)
theorem s_X12_lawTells_70 {x1 : Int32} {x2 : Int32} {m : dM} {Q : Int32 → dM → Prop} (hG : Gd g) (hI : Inv g m) (h1 : 0 ≤ x1.toInt ∧ x1.toInt ≤ 3) (hQ : ∀ (r : Int32) (m' : dM), Inv g m' → Q r m') : c_X12_lawTells_70 20 x1 x2 m Q := by
  obtain ⟨l1, l2, l3, l4, l5⟩ := Inv.live hG hI
  have hl : (m.1 70 18).toInt ≤ 1 := by rw [l1]; exact l3
  have hl0 : 0 ≤ (m.1 70 18).toInt := by rw [l1]; exact l2
  have fm := dMulE (X := 4) (Y := (m.1 70 18).toInt) (x := (4 : Int32)) (y := m.1 70 18) (by decide) rfl (by omega) (by omega)
  have fa := dAddE (X := 4 * (m.1 70 18).toInt) (Y := x1.toInt) (x := (4 : Int32) * m.1 70 18) (y := x1) fm rfl (by omega) (by omega)
  have ix := d_idx (c := 4) (C := 4) (L := gL g) (l := m.1 70 18) (u := x1) (by decide) (by decide) l5 hl h1.1 (by omega)
  have lw := hG.2.2.2.2 x1.toInt.toNat (by omega)
  have ix' : ((4 : Int32) * m.1 70 18 + x1).toNatClampNeg = 4 * gL g + x1.toInt.toNat := ix
  rw [← ix'] at lw
  refine v_X12_lawTells_70 ⟨by omega, ⟨by omega, fun hne => ⟨by omega, ?_⟩, fun _ => hQ _ _ hI⟩⟩
  rw [hI.2 95 _ rfl, hI.2 96 _ rfl] at hne
  rcases lw with lw | ⟨a1, a2, a3, a4⟩
  · exact absurd lw hne
  · rw [hI.2 95 _ rfl]
    have hb := (l_law (L := gL g) (x3 := (4 : Int32) * m.1 70 18 + x1) (Q := Q) hG (by omega) (by omega) (by omega) a4 hQ 1000).1 (g 95 ((4 : Int32) * m.1 70 18 + x1).toNatClampNeg) (dSet m 70 53 (0 : Int32)) (Inv.setA hI rfl) (by omega) (Int.le_refl _) a2 (by omega)
    exact Wp.deep hb (Nat.le_of_ble_eq_true rfl)
end LAWT
