/-! THE REFERENCE's read, 8: one TELL (by hand) -/
section TEL
variable {m0 : dM} {L s : Nat}
theorem PF.b79 {m : dM} (h : PF m0 L s m) : ∀ j, -1 ≤ (m.1 79 j).toInt ∧ (m.1 79 j).toInt ≤ 6 := fun j => h.2.2.2 79 j (-1) 6 (by decide) rfl
theorem PF.b75 {m : dM} (h : PF m0 L s m) : ∀ j, 0 ≤ (m.1 75 j).toInt ∧ (m.1 75 j).toInt ≤ 9999 := fun j => h.2.2.2 75 j 0 9999 (by decide) rfl
theorem PF.b80 {m : dM} (h : PF m0 L s m) : 0 ≤ (m.1 80 s).toInt ∧ (m.1 80 s).toInt ≤ 7 := h.2.2.2 80 s 0 7 (by decide) rfl
theorem PF.b82 {m : dM} (h : PF m0 L s m) : 0 ≤ (m.1 82 s).toInt ∧ (m.1 82 s).toInt ≤ 10 := h.2.2.2 82 s 0 10 (by decide) rfl
theorem PF.b86 {m : dM} (h : PF m0 L s m) : 0 ≤ (m.1 86 s).toInt ∧ (m.1 86 s).toInt ≤ 8 := h.2.2.2 86 s 0 8 (by decide) rfl
/-- a state in which a fault stands is well -/
theorem PI.bad {m : dM} (h : PF m0 L s m) (ht : 0 ≤ tt m ∧ tt m ≤ 400) (hf : 0 < flt m) : PI m0 L s m := ⟨h, ht, by omega, fun q => by exfalso; omega⟩
/-- a flat -/
theorem t_flat {m : dM} {Q : dM → Prop} (hL : L + s = 1) (hsd : (m0.1 70 19).toInt = s) (hF : PF m0 L s m) (ht : 0 ≤ tt m ∧ tt m ≤ 400) (h0 : flt m = 0) (hG : PG m s) (hQ : ∀ m', PI m0 L s m' → tt m + 1 ≤ tt m' ∨ 0 < flt m' → Q m') (fin : ∀ m', Q m' → j_X12_tellOne_70_371 8 m' Q) :
    c_X12_roomFor_70 7 (m.1 80 (m.1 70 19).toNatClampNeg) (7 : Int32) m (fun m1 => (((m1.1 70 13).toInt ≤ 0 → c_X12_named_70 7 m1 (fun r2 m2 => ((0 ≤ (m2.1 70 19).toInt ∧ (m2.1 70 19).toInt < 2) ∧ c_X12_bounded_70 7 (0 : Int32) (9 : Int32) m2 (fun r3 m3 => ((0 ≤ (((7 : Int32) * (m2.1 70 19)) + (m2.1 80 (m2.1 70 19).toNatClampNeg)).toInt ∧ (((7 : Int32) * (m2.1 70 19)) + (m2.1 80 (m2.1 70 19).toNatClampNeg)).toInt < 14) ∧ ((0 ≤ (m3.1 70 19).toInt ∧ (m3.1 70 19).toInt < 2) ∧ c_X12_endsName_70 7 r2 (m3.1 80 (m3.1 70 19).toNatClampNeg) (dSet m3 81 (((7 : Int32) * (m2.1 70 19)) + (m2.1 80 (m2.1 70 19).toNatClampNeg)).toNatClampNeg r3) (fun m4 => (((m4.1 70 13).toInt ≠ 0 → j_X12_tellOne_70_371 (7 + 1) m4 Q) ∧ ((m4.1 70 13).toInt = 0 → ((0 ≤ (m4.1 70 19).toInt ∧ (m4.1 70 19).toInt < 2) ∧ ((0 ≤ (m4.1 70 19).toInt ∧ (m4.1 70 19).toInt < 2) ∧ j_X12_tellOne_70_371 (7 + 1) (dSet m4 80 (m4.1 70 19).toNatClampNeg ((m4.1 80 (m4.1 70 19).toNatClampNeg) + (1 : Int32))) Q)))))))))) ) ∧ (0 < (m1.1 70 13).toInt → Q m1))) := by
  have hs : s ≤ 1 := by omega
  have e7 := ti_7
  have sd := hF.sd hsd
  rw [sd.2]
  refine Wp.deep (p_roomFor ht (by omega) (fun m1 h1 hne => ⟨fun hc => ?_, fun hc => ?_⟩)) (Nat.le_of_ble_eq_true rfl)
  · have hc : flt m1 ≤ 0 := hc
    have f1 : flt m1 = 0 := by have := h1.fl; omega
    have t1 : tt m1 = tt m + 1 := by rcases h1.2.2.2.1 with q | q <;> omega
    have F1 := hF.mv h1
    have G1 := hG.mv h1 (by decide)
    have b80 := F1.b80
    have b86 := F1.b86
    have hne := hne f1
    have e80 : m1.1 80 s = m.1 80 s := by rw [h1.1 80 (by decide)]
    rw [← e80] at hne
    have n1 := G1.1
    refine Wp.deep (p_named h1.2.2.1 h1.fl (by omega) (fun r2 m2 h2 hr2 => ?_)) (Nat.le_of_ble_eq_true rfl)
    have F2 := F1.mv h2
    have sd2 := F2.sd hsd
    have b80_2 : m2.1 80 s = m1.1 80 s := by rw [h2.1 80 (by decide)]
    refine ⟨by omega, ?_⟩
    refine Wp.deep (p_bounded h2.2.2.1 h2.fl F2.b75 (by decide) (fun r3 m3 h3 hr3 => ?_)) (Nat.le_of_ble_eq_true rfl)
    have F3 := F2.mv h3
    have sd3 := F3.sd hsd
    have h23 := h2.tr h3 (by decide) (by decide)
    rw [sd2.2, sd3.2]
    have fm := dMulE (X := 7) (Y := (s : Int)) (x := (7 : Int32)) (y := m2.1 70 19) (by decide) sd2.1 (by omega) (by omega)
    have fa := dAddE (X := 7 * (s : Int)) (Y := (m2.1 80 s).toInt) (x := (7 : Int32) * m2.1 70 19) (y := m2.1 80 s) fm rfl (by rw [b80_2]; omega) (by rw [b80_2]; omega)
    rw [b80_2] at fa
    refine ⟨by rw [b80_2]; omega, ⟨by omega, ?_⟩⟩
    have e80_3 : m3.1 80 s = m1.1 80 s := by rw [h23.1 80 (by decide)]
    have F3' : PF m0 L s (dSet m3 81 (((7 : Int32) * (m2.1 70 19)) + (m2.1 80 s)).toNatClampNeg r3) := F3.set hL (by decide) (by decide) (Or.inl rfl) (fun lo hi q => by cases q)
    generalize hM3 : dSet m3 81 (((7 : Int32) * (m2.1 70 19)) + (m2.1 80 s)).toNatClampNeg r3 = M3 at F3' ⊢
    have k3 : ∀ k : Nat, k ≠ 81 → M3.1 k = m3.1 k := fun k hk => by rw [← hM3, dSet_k hk]
    have tM : tt M3 = tt m3 := by unfold tt; rw [k3 70 (by decide)]
    have fM : flt M3 = flt m3 := by unfold flt; rw [k3 70 (by decide)]
    have nM : nms M3 = nms m3 := by unfold nms; rw [k3 70 (by decide)]
    have n3 : nms m3 = nms m1 := by unfold nms; rw [h23.2.1 20 (by decide) (by decide) (by decide) (by decide) (by decide)]
    have hk4 := h23.2.2.2.1
    refine Wp.deep (p_endsName (by rw [tM]; exact h3.2.2.1) (by rw [fM]; exact h3.fl) hr2 (fun _ => by omega) (fun m4 h4 hf4 => ?_) (fun m4 h4 hf4 hfM => ?_)) (Nat.le_of_ble_eq_true rfl)
    · have F4 := F3'.mv h4
      refine ⟨fun _ => fin m4 (hQ m4 (PI.bad F4 h4.2.2.1 hf4) (Or.inr hf4)), fun q => ?_⟩
      have q : flt m4 = 0 := q
      exfalso; omega
    · have F4 := F3'.mv h4
      have G3 : PG M3 s := by
        refine (G1.mv h23 (by decide)).cg (fun k e => k3 k (by omega)) (fun j e => by rw [k3 70 (by decide)]) (by omega) (Wz.eq (by unfold wst; rw [k3 70 (by decide)]))
      have G4 := G3.mv h4 (by decide)
      have n4 : nms m4 = nms M3 := by unfold nms; rw [h4.2.1 20 (by decide) (by decide) (by decide) (by decide) (by decide)]
      have e20 : (m4.1 70 20).toInt = nms m4 := rfl
      have fn := dAddE (X := nms m4) (Y := 1) (x := m4.1 70 20) (y := (1 : Int32)) rfl (by decide) (by omega) (by omega)
      have e80_4 : m4.1 80 s = m1.1 80 s := by rw [h4.1 80 (by decide), k3 80 (by decide), e80_3]
      have f80 := dAddE (X := (m1.1 80 s).toInt) (Y := 1) (x := m4.1 80 s) (y := (1 : Int32)) (by rw [e80_4]) (by decide) (by omega) (by omega)
      have F5 : PF m0 L s (dSet (dSet (dSetL m4 78 (m4.1 70 20).toNatClampNeg (m4.2.1 76 r2.toNatClampNeg)) 79 (m4.1 70 20).toNatClampNeg (m3.1 80 s)) 70 20 ((m4.1 70 20) + (1 : Int32))) := by
        refine PF.set70 (PF.set (show PF m0 L s (dSetL m4 78 (m4.1 70 20).toNatClampNeg (m4.2.1 76 r2.toNatClampNeg)) from F4) hL (by decide) (by decide) (Or.inl rfl) (fun lo hi q => ?_)) (by decide) (by decide) (by decide) (by decide)
        cases q
        rw [e80_3]
        omega
      have sd5 := F5.sd hsd
      refine ⟨fun q => absurd hf4 q, fun _ => ⟨by omega, ⟨by omega, fin _ (hQ _ ?_ ?_)⟩⟩⟩
      · rw [sd5.2]
        refine ⟨F5.set hL (by decide) (by decide) (Or.inr (by show 1 * s ≤ s ∧ s < 1 * s + 1; omega)) (fun lo hi q => ?_), h4.2.2.1, by show 0 ≤ flt m4; omega, fun _ => ?_⟩
        · cases q
          show 0 ≤ (m4.1 80 s + (1 : Int32)).toInt ∧ (m4.1 80 s + (1 : Int32)).toInt ≤ 7
          omega
        · have hq : PG m4 s := G4
          obtain ⟨g1, g2, g3, g4, g5, g6⟩ := hq
          refine ⟨?_, g2, g3, g4, ?_, ⟨g6.1, fun w => ?_⟩⟩
          · show (m4.1 70 20 + (1 : Int32)).toInt = _ + (m4.1 86 s).toInt
            rw [dSet_s]
            show (m4.1 70 20 + (1 : Int32)).toInt = (m4.1 80 s + (1 : Int32)).toInt + (m4.1 86 s).toInt
            have e86 : (m4.1 80 s).toInt = (m1.1 80 s).toInt := by rw [e80_4]
            omega
          · exact LB.up (m := m4) (fun k e1 e2 j _ => by rw [dSet_k (by omega), dSet_k (by omega), dSet_k (by omega)]; rfl) (fun j _ => ⟨rfl, rfl⟩) (Int.le_refl _) (Int.le_refl _) g5
          · exact g6.2 w
      · left
        show tt m + 1 ≤ tt m4
        have hk44 := h4.2.2.2.1
        rcases hk44 with q | q <;> rcases hk4 with z | z <;> omega
  · exact hQ m1 (PI.bad (hF.mv h1) h1.2.2.1 hc) (Or.inr hc)
end TEL
