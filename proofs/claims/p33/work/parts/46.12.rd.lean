/-! THE REFERENCE's read, 13: read (by hand) -/
section READ
variable {m m0 : dM} {L s : Nat} {Q : Int32 → dM → Prop}
theorem r_219 {mb : dM} (hQ : ∀ (r : Int32) (m' : dM), Ok m' → (∀ k : Nat, k ≠ 115 → m'.1 k = mb.1 k) → Q r m') : ∀ (n : Nat) (x1 : Int32) (M : dM), Ok M → (∀ k : Nat, k ≠ 115 → M.1 k = mb.1 k) → 0 ≤ x1.toInt ∧ x1.toInt ≤ 3 → 3 - x1.toInt < n → j_X12_read_70_219 9 x1 M Q := by
  intro n
  induction n with
  | zero => intro x1 M hI hb h1 hμ; exfalso; omega
  | succ n ih =>
    intro x1 M hI hb h1 hμ
    have f1 := dAddE (X := x1.toInt) (Y := 1) (x := x1) (y := (1 : Int32)) rfl (by decide) (by omega) (by omega)
    exact v_X12_read_70_219 ⟨fun _ => hQ _ _ hI hb, fun hc => ⟨by omega, ih _ _ (Ok.gen0 hI (by decide) rfl rfl) (fun k hk => by rw [dSet_k hk]; exact hb k hk) (by omega) (by omega)⟩⟩
/-- told to the end -/
theorem r_134 (hO : Ok m) (hL : L + s = 1) (hL0 : (m.1 70 18).toInt = L) (h1 : ∀ k : Nat, k ≠ 70 → m0.1 k = m.1 k) (h2 : ∀ j : Nat, j ≠ 2 → j ≠ 19 → m0.1 70 j = m.1 70 j) (h3 : (m0.1 70 2).toInt = 0) (h4 : (m0.1 70 19).toInt = s) (hQ : ∀ (r : Int32) (m' : dM), Ok m' → (m'.1 70 2).toInt = 0 → m'.1 0 1 = m.1 0 1 → Q r m') {M : dM} (hI : PI m0 L s M) : j_X12_read_70_134 9 M Q := by
  obtain ⟨hF, ht, hf, hG⟩ := hI
  have B := PF.okb hO h1 h2 h3 hF
  have sd := hF.sd h4
  have eL : gL m.1 = L := by unfold gL; omega
  have e18 : M.1 70 18 = m.1 70 18 := by rw [hF.2.1 18 (by omega), h2 18 (by omega) (by omega)]
  have kk : ∀ k : Nat, k < 70 → M.1 k = m.1 k := fun k hk => by rw [hF.1 k (Or.inl hk), h1 k (by omega)]
  have e2 : (M.1 70 2).toInt = 0 := by rw [hF.2.1 2 (by omega)]; exact h3
  have set17 : ∀ v : Int32, OkB (dSet M 70 17 v) := fun v => OkB.set B (fun lo hi h => by rcases h with h | h <;> cases h)
  have bad : ∀ r v : Int32, Q r (dSet M 70 17 v) := fun r v => by
    refine hQ r _ (Ok.mk (set17 v) (Gx_side (g := m.1) ?_ e18 ?_ ?_ (fun k j e0 e1 e3 => ?_) hO.1.2)) e2 ?_
    · rw [eL]
      exact ⟨hO.s (k := 86) (j := L) rfl, hO.s (k := 82) (j := L) rfl⟩
    · rw [dSet_k (by decide)]; exact kk 2 (by decide)
    · rw [dSet_k (by decide)]; exact kk 7 (by decide)
    · rw [dSet_k (by omega)]
      rw [eL] at e1 e3
      rw [hF.2.2.1 k j e0 e1 e3, h1 k (by omega)]
    · rw [dSet_k (by decide), kk 0 (by decide)]
  have good : ∀ v : Int32, flt M ≤ 0 → wst M ≤ 0 → c_X12_begins_70 8 (dSet (dSet M 70 17 v) 70 18 (M.1 70 19)) (fun m1 => c_X12_keepsRow_70 8 m1 (fun m2 => j_X12_read_70_219 9 (0 : Int32) (dSet (dSet m2 70 61 (0 : Int32)) 70 63 (0 : Int32)) Q)) := fun v hf0 hw0 => by
    have g := hG (by omega)
    obtain ⟨g1, g2, g3, g4, g5, g6, g7⟩ := g
    have g7 := g7 (by omega)
    have O : Ok (dSet (dSet M 70 17 v) 70 18 (M.1 70 19)) := by
      refine Ok.mk (OkB.set (set17 v) (fun lo hi h => ?_)) ?_
      · rcases h with h | h
        · cases h
        · cases h; omega
      · have eL2 : gL (dSet (dSet M 70 17 v) 70 18 (M.1 70 19)).1 = s := by
          show (M.1 70 19).toInt.toNat = s
          omega
        have ek : ∀ k : Nat, k ≠ 70 → (dSet (dSet M 70 17 v) 70 18 (M.1 70 19)).1 k = M.1 k := fun k hk => by rw [dSet_k hk, dSet_k hk]
        unfold Gx
        rw [eL2]
        refine ⟨?_, ?_, ?_, fun k hk => ?_⟩
        · rw [ek 2 (by decide), ek 7 (by decide), kk 2 (by decide), kk 7 (by decide)]
          exact hO.1.2.1
        · rw [ek 86 (by decide), ek 87 (by decide)]
          exact g7.2
        · rw [ek 82 (by decide), ek 83 (by decide), ek 84 (by decide)]
          exact g7.1
        · rw [ek 95 (by decide), ek 96 (by decide)]
          have up : ∀ a b : Int, gPc M.1 s a b → gPc (dSet (dSet M 70 17 v) 70 18 (M.1 70 19)).1 s a b := fun a b q => gPc_side (fun k j e1 _ _ => by rw [ek k (by omega)]) q
          rcases g5 k hk with q | ⟨q1, q2, q3, q4⟩
          · exact Or.inl q
          · refine Or.inr ⟨q1, q2, by omega, fun j e1 e3 => ?_⟩
            have w := q4 j e1 e3
            unfold gBr
            rw [ek 97 (by decide), ek 98 (by decide), ek 99 (by decide), ek 100 (by decide), ek 101 (by decide)]
            exact ⟨fun z => ⟨up _ _ (w.1 z).1.1, up _ _ (w.1 z).2.1⟩, up _ _ w.2.1⟩
    refine Wp.deep (s_X12_begins_70 O.1 O.2 (fun m1 I1 => ?_)) (Nat.le_of_ble_eq_true rfl)
    refine Wp.deep (s_X12_keepsRow_70 O.1 I1 (fun m2 I2 => ?_)) (Nat.le_of_ble_eq_true rfl)
    have O3 : Ok (dSet (dSet m2 70 61 (0 : Int32)) 70 63 (0 : Int32)) := Ok.set70 (Ok.of O.1 (Inv.set I2 (lo := 0) (hi := 40) rfl (by decide) (by decide))) (by decide) (fun lo hi h => by
      rcases h with h | h
      · cases h
      · cases h; decide)
    refine r_219 (mb := dSet (dSet m2 70 61 (0 : Int32)) 70 63 (0 : Int32)) (fun r m' O' hb => hQ r m' O' ?_ ?_) 4 _ _ O3 (fun _ _ => rfl) (by decide) (by decide)
    · rw [hb 70 (by decide)]
      show (m2.1 70 2).toInt = 0
      rw [I2.2 70 2 rfl]; exact e2
    · rw [hb 0 (by decide)]
      show m2.1 0 1 = m.1 0 1
      rw [I2.2 0 1 rfl, dSet_k (by decide), dSet_k (by decide), kk 0 (by decide)]
  refine v_X12_read_70_134 ⟨fun a => ⟨fun b => ⟨fun c => ⟨fun d => good _ c d, fun _ => bad _ _⟩, fun _ => bad _ _⟩, fun b => ⟨fun c => ⟨fun d => good _ c d, fun _ => bad _ _⟩, fun _ => bad _ _⟩⟩, fun a => ⟨fun b => ⟨fun d => good _ b d, fun _ => bad _ _⟩, fun _ => bad _ _⟩⟩
theorem r_112 (hL : L + s = 1) (h4 : (m0.1 70 19).toInt = s) (hQ : ∀ M, PI m0 L s M → j_X12_read_70_134 9 M Q) : ∀ (n : Nat) (M : dM), PI m0 L s M → (flt M = 0 → 400 - tt M < n) → j_X12_read_70_112 9 M Q := by
  intro n
  induction n with
  | zero =>
    intro M hI hμ
    refine v_X12_read_70_112 ⟨fun _ => hQ M hI, fun h0 => ?_⟩
    have := hμ h0
    have := hI.2.1
    exfalso; omega
  | succ n ih =>
    intro M hI hμ
    refine v_X12_read_70_112 ⟨fun _ => hQ M hI, fun h0 => ?_⟩
    have h0 : flt M = 0 := h0
    have hm := hμ h0
    refine Wp.deep (p_is hI.2.1 (fun _ _ => ⟨fun _ => hQ M hI, fun q => absurd q (by decide)⟩) (fun _ => ⟨fun q => absurd rfl q, fun _ => ?_⟩)) (Nat.le_of_ble_eq_true rfl)
    exact p_tellOne hL h4 hI.1 hI.2.1 h0 (hI.2.2.2 h0) (fun m' hI' ht' => ih m' hI' (fun q => by have := ht' q; omega))
/-- the tape over -/
theorem r_10 (hL : L + s = 1) (hz : (m.1 70 2).toInt ≤ 2000) (hQ : ∀ M, PF m L s M → M.1 70 4 = m.1 70 2 → c_X12_cutsUp_70 8 (dSet M 70 2 (0 : Int32)) (fun m1 => c_X12_plain_70 8 ((1 : Int32) - (m1.1 70 18)) (dSet (dSet (dSet (dSet (dSet (dSet m1 70 11 (0 : Int32)) 70 12 (0 : Int32)) 70 13 (0 : Int32)) 70 15 (0 : Int32)) 70 19 ((1 : Int32) - (m1.1 70 18))) 70 20 (0 : Int32)) (fun m2 => j_X12_read_70_112 9 (dSet (dSet m2 70 40 ((130 : Int32) * (m2.1 70 19))) 70 46 ((420 : Int32) * (m2.1 70 19))) Q))) : ∀ (n : Nat) (x1 : Int32) (M : dM), PF m L s M → M.1 70 4 = m.1 70 2 → 0 ≤ x1.toInt ∧ x1.toInt ≤ 2000 → 2000 - x1.toInt < n → j_X12_read_70_10 9 x1 M Q := by
  intro n
  induction n with
  | zero => intro x1 M hF h4 h1 hμ; exfalso; omega
  | succ n ih =>
    intro x1 M hF h4 h1 hμ
    refine v_X12_read_70_10 ⟨fun _ => hQ M hF h4, fun hc => ?_⟩
    rw [h4] at hc
    have f1 := dAddE (X := x1.toInt) (Y := 1) (x := x1) (y := (1 : Int32)) rfl (by decide) (by omega) (by omega)
    exact ⟨by omega, ⟨by omega, ih _ _ (hF.set hL (by decide) (by decide) (Or.inl rfl) (fun lo hi q => by cases q)) h4 (by omega) (by omega)⟩⟩
end READ
theorem m_X12_read {m : dM} {Q : Int32 → dM → Prop} (hO : Ok m) (hQ : ∀ (r : Int32) (m' : dM), Ok m' → (m'.1 70 2).toInt = 0 → m'.1 0 1 = m.1 0 1 → Q r m') : c_X12_read_70 9 m Q := by
  have b2 := hO.s (k := 70) (j := 2) rfl
  have b18 := hO.s (k := 70) (j := 18) rfl
  obtain ⟨L, s, hL, hL0⟩ : ∃ L s : Nat, L + s = 1 ∧ (m.1 70 18).toInt = L := ⟨(m.1 70 18).toInt.toNat, 1 - (m.1 70 18).toInt.toNat, by omega, by omega⟩
  have fs := dSubE (X := 1) (Y := (L : Int)) (x := (1 : Int32)) (y := m.1 70 18) (by decide) hL0 (by omega) (by omega)
  have F0 : PF m L s m := ⟨fun _ _ => rfl, fun _ _ => rfl, fun _ _ _ _ _ => rfl, fun k j lo hi _ h => hO.s h⟩
  refine v_X12_read_70 (r_10 (L := L) (s := s) hL b2.2 (fun M hF e4 => ?_) 2001 (0 : Int32) _ (F0.set70 (by decide) (by decide) (by decide) (by decide)) rfl (by decide) (by decide))
  have eM18 : M.1 70 18 = m.1 70 18 := hF.2.1 18 (by omega)
  refine Wp.deep (u_cutsUp (m := dSet M 70 2 (0 : Int32)) ?_ (fun j => hF.2.2.2 75 j 0 9999 (by decide) rfl) (fun j => hF.2.2.2 73 j 0 41 (by decide) rfl) (fun m1 hC => ?_)) (Nat.le_of_ble_eq_true rfl)
  · show 0 ≤ (M.1 70 4).toInt ∧ (M.1 70 4).toInt ≤ 2000
    rw [e4]; exact b2
  have e18 : m1.1 70 18 = m.1 70 18 := by rw [hC.2.1 18 (by decide), dSet_j (by decide)]; exact eM18
  rw [e18]
  have F3 : PF (dSet (dSet m 70 2 (0 : Int32)) 70 19 ((1 : Int32) - m.1 70 18)) L s (dSet (dSet (dSet (dSet (dSet (dSet m1 70 11 (0 : Int32)) 70 12 (0 : Int32)) 70 13 (0 : Int32)) 70 15 (0 : Int32)) 70 19 ((1 : Int32) - (m.1 70 18))) 70 20 (0 : Int32)) := by
    have ek : ∀ k : Nat, k ≠ 70 → (dSet (dSet (dSet (dSet (dSet (dSet m1 70 11 (0 : Int32)) 70 12 (0 : Int32)) 70 13 (0 : Int32)) 70 15 (0 : Int32)) 70 19 ((1 : Int32) - (m.1 70 18))) 70 20 (0 : Int32)).1 k = m1.1 k := fun k hk => by rw [dSet_k hk, dSet_k hk, dSet_k hk, dSet_k hk, dSet_k hk, dSet_k hk]
    have e1k : ∀ k : Nat, k ≠ 70 → k ≠ 73 → k ≠ 74 → k ≠ 75 → m1.1 k = M.1 k := fun k h1 h2 h3 h4 => by rw [hC.1 k h1 h2 h3 h4, dSet_k h1]
    refine ⟨fun k h => ?_, fun j h => ?_, fun k j e0 e1 e2 => ?_, fun k j lo hi e0 h => ?_⟩
    · rw [ek k (by omega), e1k k (by omega) (by omega) (by omega) (by omega), dSet_k (by omega), dSet_k (by omega)]
      exact hF.1 k h
    · by_cases q2 : j = 2
      · subst q2
        rw [dSet_j (by decide), dSet_j (by decide), dSet_j (by decide), dSet_j (by decide), dSet_j (by decide), dSet_j (by decide), hC.2.1 2 (by decide), dSet_s, dSet_j (by decide), dSet_s]
      · by_cases q19 : j = 19
        · subst q19
          rw [dSet_j (by decide), dSet_s, dSet_s]
        · rw [dSet_j (by omega), dSet_j q19, dSet_j (by omega), dSet_j (by omega), dSet_j (by omega), dSet_j (by omega), hC.2.1 j (by omega), dSet_j q2, dSet_j q19, dSet_j q2]
          exact hF.2.1 j h
    · have h80 : 80 ≤ k := by
        by_cases q : k < 80
        · rw [rg_lo (Or.inl q)] at e1 e2
          exfalso; omega
        · omega
      rw [ek k (by omega), e1k k (by omega) (by omega) (by omega) (by omega), dSet_k (by omega), dSet_k (by omega)]
      exact hF.2.2.1 k j e0 e1 e2
    · rw [ek k (by omega)]
      by_cases q73 : k = 73
      · subst q73; cases h; exact hC.2.2.2.1 j
      · by_cases q75 : k = 75
        · subst q75; cases h; exact hC.2.2.1 j
        · by_cases q74 : k = 74
          · subst q74; cases h
          · rw [e1k k (by omega) q73 q74 q75]
            exact hF.2.2.2 k j lo hi e0 h
  refine Wp.deep (u_plain hL (by omega) F3 (fun m2 F4 e70 hz hl => ?_)) (Nat.le_of_ble_eq_true rfl)
  have e19 : m2.1 70 19 = (1 : Int32) - m.1 70 18 := by rw [e70]; rfl
  have v19 : (m2.1 70 19).toInt = s := by rw [e19]; omega
  have fb := dMulE (X := 130) (Y := (s : Int)) (x := (130 : Int32)) (y := m2.1 70 19) (by decide) v19 (by omega) (by omega)
  have fc := dMulE (X := 420) (Y := (s : Int)) (x := (420 : Int32)) (y := m2.1 70 19) (by decide) v19 (by omega) (by omega)
  have F5 := (F4.set70 (j := 40) (v := (130 : Int32) * (m2.1 70 19)) (by decide) (by decide) (by decide) (by decide)).set70 (j := 46) (v := (420 : Int32) * (m2.1 70 19)) (by decide) (by decide) (by decide) (by decide)
  have z : ∀ j : Nat, j = 11 ∨ j = 12 ∨ j = 13 ∨ j = 15 ∨ j = 20 → (m2.1 70 j).toInt = 0 := fun j hj => by
    rw [e70]
    rcases hj with rfl | rfl | rfl | rfl | rfl <;> rfl
  have z11 := z 11 (by decide)
  have z12 := z 12 (by decide)
  have z13 := z 13 (by decide)
  have z15 := z 15 (by decide)
  have z20 := z 20 (by decide)
  generalize hM5 : dSet (dSet m2 70 40 ((130 : Int32) * (m2.1 70 19))) 70 46 ((420 : Int32) * (m2.1 70 19)) = M5 at F5 ⊢
  have t5 : tt M5 = 0 := by rw [← hM5]; exact z11
  have f5 : flt M5 = 0 := by rw [← hM5]; exact z13
  have w5 : wst M5 = 0 := by rw [← hM5]; exact z15
  have o5 : opn M5 = 0 := by rw [← hM5]; exact z12
  have n5 : nms M5 = 0 := by rw [← hM5]; exact z20
  have c5 : cds M5 = 420 * s := by rw [← hM5]; exact fc
  have b5 : brs M5 = 130 * s := by rw [← hM5]; exact fb
  have k5 : ∀ k : Nat, k ≠ 70 → M5.1 k = m2.1 k := fun k hk => by rw [← hM5, dSet_k hk, dSet_k hk]
  have h4 : ((dSet (dSet m 70 2 (0 : Int32)) 70 19 ((1 : Int32) - m.1 70 18)).1 70 19).toInt = s := by rw [dSet_s]; omega
  refine r_112 hL h4 (fun X hX => r_134 hO hL hL0 (fun k hk => by rw [dSet_k hk, dSet_k hk]) (fun j e1 e2 => by rw [dSet_j e2, dSet_j e1]) (by rw [dSet_j (by decide), dSet_s]; decide) h4 hQ hX) 401 M5 ⟨F5, by omega, by omega, fun _ => ?_⟩ (fun _ => by omega)
  refine ⟨?_, o5, by omega, by omega, fun k hk => Or.inl ?_, by omega, fun _ => ⟨fun w hw => ?_, fun u hu => ?_⟩⟩
  · rw [k5 80 (by decide), k5 86 (by decide)]; omega
  · rw [k5 95 (by decide), k5 96 (by decide)]; exact hl k hk
  · rw [k5 82 (by decide)] at hw; exfalso; omega
  · rw [k5 86 (by decide)] at hu; exfalso; omega
