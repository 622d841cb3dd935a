/-! THE REFERENCE's read, 10: a law, and any TELL (by hand) -/
section TEO
variable {m0 : dM} {L s : Nat}
theorem t_law {mb : dM} {x1 : Int32} {Q : dM → Prop} (hL : L + s = 1) (hsd : (m0.1 70 19).toInt = s) (hF : PF m0 L s mb) (ht : 0 ≤ tt mb ∧ tt mb ≤ 400) (hf : 0 ≤ flt mb) (hx1 : 0 ≤ x1.toInt ∧ x1.toInt ≤ 3) (hb : 130 * (s : Int) ≤ brs mb ∧ brs mb ≤ 130 * s + 100) (hc : 420 * (s : Int) ≤ cds mb) (hG : flt mb = 0 → PG mb s ∧ 4 * (brs mb - 130 * s) + 1 ≤ tt mb) (hQ : ∀ m', PI m0 L s m' → tt mb ≤ tt m' → (flt m' = 0 → flt mb = 0) → Q m') : c_X12_tellLaw_70 6 x1 mb Q := by
  have hs : s ≤ 1 := by omega
  have sd := hF.sd hsd
  have st0 : LSt mb s 1 100 mb := by
    refine ⟨⟨fun _ _ _ => rfl, fun _ _ _ _ _ _ _ _ _ _ => rfl, fun _ _ _ _ _ => rfl, fun _ _ => ⟨rfl, rfl⟩, Wz.eq rfl⟩, ht, Int.le_refl _, hf, ⟨Int.le_refl _, hb.2⟩, fun h0 => ?_⟩
    have g := hG h0
    exact ⟨h0, g.1.2.1, ⟨Int.le_refl _, g.1.2.2.1.2⟩, g.2, fun j e1 e2 => by exfalso; omega⟩
  refine v_X12_tellLaw_70 ?_
  refine Wp.deep (p_must ht hf (fun m1 h1 => ?_)) (Nat.le_of_ble_eq_true rfl)
  have e40 : m1.1 70 40 = mb.1 70 40 := h1.2.1 40 (by decide) (by decide) (by decide) (by decide) (by decide)
  rw [e40]
  have st1 : LSt mb s 2 100 m1 := st0.mv h1 (by decide)
  refine (tl_main (x2 := mb.1 70 40) hs hc hb.1 hx1 sd.1 (fun m' h' hf' => ?_) (fun m' h' hf' => ?_) 5000).1 (0 : Int32) m1 st1 (by decide) ?_
  · exact hQ m' (PI.bad (hF.lf hL hb.1 hc h'.1) h'.2.1 hf') h'.2.2.1 (fun q => by exfalso; omega)
  · have F' := hF.lf hL hb.1 hc h'.1
    have sd' := F'.sd hsd
    have h6 := h'.2.2.2.2.2 hf'
    have g := (hG h6.1).1
    have fm := dMulE (X := 4) (Y := (s : Int)) (x := (4 : Int32)) (y := m'.1 70 19) (by decide) sd'.1 (by omega) (by omega)
    have fa := dAddE (X := 4 * (s : Int)) (Y := x1.toInt) (x := (4 : Int32) * m'.1 70 19) (y := x1) fm rfl (by omega) (by omega)
    have eI : ((4 : Int32) * m'.1 70 19 + x1).toNatClampNeg = 4 * s + x1.toInt.toNat := by
      have := d_cl (x := (4 : Int32) * m'.1 70 19 + x1) (by omega)
      omega
    rw [eI]
    have inr : 4 * s ≤ 4 * s + x1.toInt.toNat ∧ 4 * s + x1.toInt.toNat < 4 * s + 4 := by omega
    refine hQ _ ⟨PF.set (PF.set F' hL (by decide) (by decide) (Or.inr inr) (fun lo hi q => by cases q)) hL (by decide) (by decide) (Or.inr inr) (fun lo hi q => by cases q), h'.2.1, by show 0 ≤ flt m'; omega, fun _ => ?_⟩ h'.2.2.1 (fun _ => h6.1)
    have lf := h'.1
    have kk : ∀ k : Nat, k ≠ 70 → k < 97 → m'.1 k = mb.1 k := fun k e1 e2 => lf.1 k e1 (Or.inl e2)
    have LB' : LB m' s := LB.up (m := mb) (fun k e1 e2 j hj => by
      by_cases q : k < 97
      · rw [kk k (by omega) q]
      · exact lf.2.2.1 k j (by omega) e2 (Or.inl (hj (by omega)))) (fun j hj => lf.2.2.2.1 j (Or.inl hj)) h'.2.2.2.2.1.1 h6.2.2.1.1 g.2.2.2.2.1
    refine ⟨?_, h6.2.1, ⟨by show 420 * (s : Int) ≤ cds m'; omega, h6.2.2.1.2⟩, ⟨by show 130 * (s : Int) ≤ brs m'; have := h'.2.2.2.2.1; omega, by have w := h6.2.2.2.1; show 4 * (brs m' - 130 * s) ≤ tt m'; omega⟩, ?_, ⟨lf.2.2.2.2.2 g.2.2.2.2.2.1, fun w => ?_⟩⟩
    · show (m'.1 70 20).toInt = (m'.1 80 s).toInt + (m'.1 86 s).toInt
      rw [lf.2.1 20 (by decide) (by decide) (by decide) (by decide) (by decide) (by decide) (by decide) (by decide) (by decide), kk 80 (by decide) (by decide), kk 86 (by decide) (by decide)]
      exact g.1
    · have upB : ∀ j, BW m' s j → BW (dSet (dSet m' 95 (4 * s + x1.toInt.toNat) (mb.1 70 40)) 96 (4 * s + x1.toInt.toNat) (m'.1 70 40)) s j := fun j hj => BW.up (m := m') (fun j _ => ⟨rfl, rfl⟩) (Int.le_refl _) (fun a b1 b2 => by rw [dSet_k (by omega), dSet_k (by omega)]) hj
      intro k hk4
      rw [dSet_k (show (95 : Nat) ≠ 96 by decide)]
      by_cases q : k = x1.toInt.toNat
      · rw [q, dSet_s, dSet_s]
        refine Or.inr ⟨hb.1, h'.2.2.2.2.1.1, Int.le_refl _, fun j e1 e2 => upB j (h6.2.2.2.2 j e1 e2)⟩
      · rw [dSet_j (by omega), dSet_j (by omega), dSet_k (show (96 : Nat) ≠ 95 by decide)]
        rcases LB' k hk4 with z | ⟨z1, z2, z3, z4⟩
        · exact Or.inl z
        · exact Or.inr ⟨z1, z2, z3, fun j e1 e2 => upB j (z4 j e1 e2)⟩
    · have w : wst m' = 0 := w
      have g6 := g.2.2.2.2.2.2 (lf.2.2.2.2.1 w)
      show (∀ w : Nat, (w : Int) < (m'.1 82 s).toInt → (0 ≤ (m'.1 83 (10 * s + w)).toInt ∧ (m'.1 83 (10 * s + w)).toInt ≤ 6) ∧ (0 ≤ (m'.1 84 (10 * s + w)).toInt ∧ (m'.1 84 (10 * s + w)).toInt ≤ 6)) ∧ (∀ u : Nat, (u : Int) < (m'.1 86 s).toInt → 0 ≤ (m'.1 87 (8 * s + u)).toInt ∧ (m'.1 87 (8 * s + u)).toInt ≤ 6)
      rw [kk 82 (by decide) (by decide), kk 83 (by decide) (by decide), kk 84 (by decide) (by decide), kk 86 (by decide) (by decide), kk 87 (by decide) (by decide)]
      exact g6
  · have k4 := h1.2.2.2.1
    unfold mu
    have := h1.2.2.1
    rcases k4 with z | z
    · left; omega
    · right; omega
theorem p_tellOne {m : dM} {Q : dM → Prop} (hL : L + s = 1) (hsd : (m0.1 70 19).toInt = s) (hF : PF m0 L s m) (ht : 0 ≤ tt m ∧ tt m ≤ 400) (h0 : flt m = 0) (hG : PG m s) (hQ : ∀ m', PI m0 L s m' → (flt m' = 0 → tt m + 1 ≤ tt m') → Q m') : c_X12_tellOne_70 8 m Q := by
  have hs : s ≤ 1 := by omega
  have sd := hF.sd hsd
  have tr : (0 ≤ (m.1 70 11).toInt ∧ (m.1 70 11).toInt < 403) := ⟨ht.1, by have := ht.2; unfold tt at this; omega⟩
  have fin : ∀ m', Q m' → j_X12_tellOne_70_371 8 m' Q := fun m' h => v_X12_tellOne_70_371 h
  have b82 := hF.b82
  have b86 := hF.b86
  have l354 : ∀ (x1 : Int32) (mm : dM), Mv 0 m mm → (flt mm = 0 → 0 ≤ x1.toInt ∧ x1.toInt ≤ 3) → j_X12_tellOne_70_354 8 x1 mm Q := by
    intro x1 mm hm hx
    refine v_X12_tellOne_70_354 ⟨fun hc => ?_, fun hc => hQ mm (PI.bad (hF.mv hm) hm.2.2.1 hc) (fun q => by have hc : 0 < flt mm := hc; exfalso; omega)⟩
    have f0 : flt mm = 0 := by
      have hc : flt mm ≤ 0 := hc
      have := hm.fl
      omega
    have G := hG.mv hm (by decide)
    refine Wp.deep (p_goesOn hm.2.2.1 hm.fl (fun m1 h1 => ?_)) (Nat.le_of_ble_eq_true rfl)
    have k1 := h1.2.2.2.1
    have G1 := G.mv h1 (by decide)
    have b1 : brs m1 = brs mm := by unfold brs; rw [h1.2.1 40 (by decide) (by decide) (by decide) (by decide) (by decide)]
    have g4 := G.2.2.2.1
    have tm := hm.2.2.1
    refine Wp.deep (t_law hL hsd ((hF.mv hm).mv h1) h1.2.2.1 h1.fl (hx f0) ⟨by omega, by omega⟩ G1.2.2.1.1 (fun f1 => ⟨G1, by rcases k1 with z | z <;> omega⟩) (fun m2 h2 ht2 hf2 => fin m2 (hQ m2 h2 (fun q => ?_)))) (Nat.le_of_ble_eq_true rfl)
    have k0 := hm.2.2.2.1
    have f1 := hf2 q
    rcases k1 with z | z <;> rcases k0 with y | y <;> omega
  have l349 : ∀ x1 : Int32, j_X12_tellOne_70_349 8 x1 m Q := fun x1 => by
    refine v_X12_tellOne_70_349 ?_
    exact Wp.deep (p_fail ht (by decide) (fun m1 h1 hf1 => l354 x1 m1 h1 (fun q => by exfalso; omega))) (Nat.le_of_ble_eq_true rfl)
  have kind : (23 ≤ (m.1 73 (m.1 70 11).toNatClampNeg).toInt ∧ (m.1 73 (m.1 70 11).toNatClampNeg).toInt ≤ 26) → j_X12_tellOne_70_354 8 ((m.1 73 (m.1 70 11).toNatClampNeg) - (23 : Int32)) m Q := fun hk => by
    have f := dSubE (X := (m.1 73 (m.1 70 11).toNatClampNeg).toInt) (Y := 23) (x := m.1 73 (m.1 70 11).toNatClampNeg) (y := (23 : Int32)) rfl (by decide) (by omega) (by omega)
    exact l354 _ m (Mv.rf ht (by omega)) (fun _ => by omega)
  have law : ((0 ≤ (m.1 70 11).toInt ∧ (m.1 70 11).toInt < 403) ∧ ((((m.1 73 (m.1 70 11).toNatClampNeg) - (23 : Int32)).toInt < 0 → j_X12_tellOne_70_349 (7 + 1) ((m.1 73 (m.1 70 11).toNatClampNeg) - (23 : Int32)) m Q) ∧ (0 ≤ ((m.1 73 (m.1 70 11).toNatClampNeg) - (23 : Int32)).toInt → ((0 ≤ (m.1 70 11).toInt ∧ (m.1 70 11).toInt < 403) ∧ (((m.1 73 (m.1 70 11).toNatClampNeg).toInt ≤ 26 → j_X12_tellOne_70_354 (7 + 1) ((m.1 73 (m.1 70 11).toNatClampNeg) - (23 : Int32)) m Q) ∧ (26 < (m.1 73 (m.1 70 11).toNatClampNeg).toInt → j_X12_tellOne_70_349 (7 + 1) ((m.1 73 (m.1 70 11).toNatClampNeg) - (23 : Int32)) m Q)))))) := by
    refine ⟨tr, fun _ => l349 _, fun hn => ⟨tr, fun h26 => ?_, fun _ => l349 _⟩⟩
    have b73 := hF.2.2.2 73 (m.1 70 11).toNatClampNeg 0 41 (by decide) rfl
    have f := dSubE (X := (m.1 73 (m.1 70 11).toNatClampNeg).toInt) (Y := 23) (x := m.1 73 (m.1 70 11).toNatClampNeg) (y := (23 : Int32)) rfl (by decide) (by omega) (by omega)
    exact kind ⟨by omega, h26⟩
  have gset : ∀ (k j : Nat) (v : Int32) (mm : dM), (k = 91 ∨ k = 92 ∨ k = 93 ∨ k = 94) → PG mm s → PG (dSet mm k j v) s := fun k j v mm hk g => by
    refine g.cg (fun a e => dSet_k (by omega)) (fun a e => by rw [dSet_k (by omega)]) ?_ (Wz.eq ?_)
    · unfold tt; rw [dSet_k (by omega)]; exact Int.le_refl _
    · unfold wst; rw [dSet_k (by omega)]
  have fset : ∀ (k : Nat) (v : Int32) (mm : dM), (k = 91 ∨ k = 92 ∨ k = 93 ∨ k = 94) → PF m0 L s mm → PF m0 L s (dSet mm k s v) := fun k v mm hk F => by
    refine F.set hL (by omega) (by omega) (Or.inr ?_) (fun lo hi q => ?_)
    · rcases hk with rfl | rfl | rfl | rfl <;> (show 1 * s ≤ s ∧ s < 1 * s + 1; omega)
    · rcases hk with rfl | rfl | rfl | rfl <;> cases q
  have last : ∀ mm : dM, PF m0 L s mm → (0 ≤ tt mm ∧ tt mm ≤ 400) → 0 ≤ flt mm → (flt mm = 0 → PG mm s ∧ tt m + 1 ≤ tt mm) → c_X12_must_70 7 (4 : Int32) mm (fun m12 => j_X12_tellOne_70_371 (7 + 1) m12 Q) := fun mm F t0 f0 g => by
    refine Wp.deep (p_must t0 f0 (fun m12 h12 => fin m12 (hQ m12 ⟨F.mv h12, h12.2.2.1, h12.fl, fun q => ?_⟩ (fun q => ?_)))) (Nat.le_of_ble_eq_true rfl)
    · have : flt mm = 0 := by rcases h12.2.2.2.1 with z | z <;> omega
      exact (g this).1.mv h12 (by decide)
    · have k12 := h12.2.2.2.1
      have : flt mm = 0 := by rcases k12 with z | z <;> omega
      have := (g this).2
      rcases k12 with z | z <;> omega
  have one : ∀ (k : Nat) (hi : Int32), (k = 93 ∨ k = 94) → c_X12_goesOn_70 7 m (fun m13 => c_X12_bounded_70 7 (0 : Int32) hi m13 (fun r14 m14 => ((0 ≤ (m13.1 70 19).toInt ∧ (m13.1 70 19).toInt < 2) ∧ c_X12_must_70 7 (4 : Int32) (dSet m14 k (m13.1 70 19).toNatClampNeg r14) (fun m15 => j_X12_tellOne_70_371 (7 + 1) m15 Q)))) := fun k hi hk => by
    refine Wp.deep (p_goesOn ht (by omega) (fun m1 h1 => ?_)) (Nat.le_of_ble_eq_true rfl)
    have F1 := hF.mv h1
    have sd1 := F1.sd hsd
    refine Wp.deep (p_bounded h1.2.2.1 h1.fl F1.b75 (by decide) (fun r2 m2 h2 hr2 => ⟨by omega, ?_⟩)) (Nat.le_of_ble_eq_true rfl)
    rw [sd1.2]
    have h12 := h1.tr h2 (by decide) (by decide)
    have e1 : flt (dSet m2 k s r2) = flt m2 := by unfold flt; rw [dSet_k (by omega)]
    have e2 : tt (dSet m2 k s r2) = tt m2 := by unfold tt; rw [dSet_k (by omega)]
    refine last _ (fset k r2 m2 (by omega) (hF.mv h12)) (by rw [e2]; exact h12.2.2.1) (by rw [e1]; exact h12.fl) (fun q => ⟨gset k s r2 m2 (by omega) (hG.mv h12 (by decide)), ?_⟩)
    rw [e1] at q
    rw [e2]
    rcases h12.2.2.2.1 with z | z <;> omega
  refine v_X12_tellOne_70 ⟨tr, fun _ => ⟨by omega, t_flat hL hsd hF ht h0 hG (fun m' h hd => hQ m' h (fun q => by omega)) fin⟩, fun _ => ⟨by omega, ?_⟩, fun _ => ⟨by omega, ?_⟩, fun _ => law, fun _ => law, fun _ => law, fun _ => law, fun _ => ?_, fun _ => one 93 _ (by decide), fun _ => one 94 _ (by decide), fun _ => law⟩
  · rw [sd.2]
    have e10 := ti_10
    refine Wp.deep (p_roomFor ht (by omega) (fun m1 h1 hne => ⟨fun hf => ?_, fun hf => ?_⟩)) (Nat.le_of_ble_eq_true rfl)
    · have hf : flt m1 ≠ 0 := hf
      have hp : 0 < flt m1 := by have := h1.fl; omega
      exact fin m1 (hQ m1 (PI.bad (hF.mv h1) h1.2.2.1 hp) (fun q => absurd q hf))
    · have hf : flt m1 = 0 := hf
      have hne := hne hf
      have e82 : m1.1 82 s = m.1 82 s := by rw [h1.1 82 (by decide)]
      refine Wp.deep (t_wire hL hsd (hF.mv h1) h1.2.2.1 hf (hG.mv h1 (by decide)) (by rw [e82]; omega) (fun m2 h2 t2 => fin m2 (hQ m2 h2 (fun q => ?_)))) (Nat.le_of_ble_eq_true rfl)
      rcases h1.2.2.2.1 with z | z <;> omega
  · rw [sd.2]
    have e8 := ti_8
    refine Wp.deep (p_roomFor ht (by omega) (fun m1 h1 hne => ⟨fun hf => ?_, fun hf => ?_⟩)) (Nat.le_of_ble_eq_true rfl)
    · have hf : flt m1 ≠ 0 := hf
      have hp : 0 < flt m1 := by have := h1.fl; omega
      exact fin m1 (hQ m1 (PI.bad (hF.mv h1) h1.2.2.1 hp) (fun q => absurd q hf))
    · have hf : flt m1 = 0 := hf
      have hne := hne hf
      have e86 : m1.1 86 s = m.1 86 s := by rw [h1.1 86 (by decide)]
      refine Wp.deep (t_use hL hsd (hF.mv h1) h1.2.2.1 hf (hG.mv h1 (by decide)) (by rw [e86]; omega) (fun m2 h2 t2 => fin m2 (hQ m2 h2 (fun q => ?_)))) (Nat.le_of_ble_eq_true rfl)
      rcases h1.2.2.2.1 with z | z <;> omega
  · refine Wp.deep (p_goesOn ht (by omega) (fun m1 h1 => ?_)) (Nat.le_of_ble_eq_true rfl)
    have F1 := hF.mv h1
    have sd1 := F1.sd hsd
    refine Wp.deep (p_bounded h1.2.2.1 h1.fl F1.b75 (by decide) (fun r2 m2 h2 hr2 => ⟨by omega, ?_⟩)) (Nat.le_of_ble_eq_true rfl)
    have h12 := h1.tr h2 (by decide) (by decide)
    have F2 := hF.mv h12
    have sd2 := F2.sd hsd
    rw [sd1.2]
    have F3 := fset 91 r2 m2 (by decide) F2
    refine Wp.deep (p_bounded (m := dSet m2 91 s r2) h12.2.2.1 h12.fl F3.b75 (by decide) (fun r4 m4 h4 hr4 => ⟨by omega, ?_⟩)) (Nat.le_of_ble_eq_true rfl)
    rw [sd2.2]
    have k4 : (flt m2 = 0 ∧ flt m4 = 0 ∧ tt m4 = tt m2 + 1) ∨ (0 < flt m4 ∧ tt m2 ≤ tt m4 ∧ tt m4 ≤ tt m2 + 1) := h4.2.2.2.1
    refine last (dSet m4 92 s r4) (fset 92 r4 m4 (by decide) (F3.mv h4)) h4.2.2.1 h4.fl (fun q => ⟨gset 92 s r4 m4 (by decide) ((gset 91 s r2 m2 (by decide) (hG.mv h12 (by decide))).mv h4 (by decide)), ?_⟩)
    have q : flt m4 = 0 := q
    show tt m + 1 ≤ tt m4
    rcases h12.2.2.2.1 with z | z <;> rcases k4 with y | y <;> omega
end TEO
