/-! THE CLASS, 2: laws and house copied, read, feed, back -/
def OkB (m : dM) : Prop := ∀ (k j : Nat) (lo hi : Int), wT k j = some (lo, hi) ∨ sT k j = some (lo, hi) → lo ≤ (m.1 k j).toInt ∧ (m.1 k j).toInt ≤ hi
theorem Ok.b {m : dM} (hO : Ok m) : OkB m := fun k j lo hi h => by
  rcases h with h | h
  · exact hO.w h
  · exact hO.s h
theorem Ok.mk {m : dM} (hB : OkB m) (hG : Gx m.1) : Ok m := ⟨⟨fun k j lo hi h => hB k j lo hi (Or.inr h), hG⟩, fun k j lo hi h => hB k j lo hi (Or.inl h), fun _ _ _ => rfl⟩
theorem OkB.set {m : dM} {k j : Nat} {v : Int32} (h : OkB m) (hb : ∀ lo hi, wT k j = some (lo, hi) ∨ sT k j = some (lo, hi) → lo ≤ v.toInt ∧ v.toInt ≤ hi) : OkB (dSet m k j v) := by
  intro k' j' lo hi h'
  rw [dSet_e]
  by_cases hc : k' = k ∧ j' = j
  · rw [if_pos hc]
    rw [hc.1, hc.2] at h'
    exact hb lo hi h'
  · rw [if_neg hc]
    exact h k' j' lo hi h'
theorem OkB.cpy {m : dM} {k0 sp k1 dp n : Nat} (h : OkB m) (hb : ∀ (j : Nat) (lo hi : Int), wT k1 j = some (lo, hi) ∨ sT k1 j = some (lo, hi) → lo ≤ (m.1 k0 (sp + (j - dp))).toInt ∧ (m.1 k0 (sp + (j - dp))).toInt ≤ hi) : OkB (dCpy m k0 sp k1 dp n) := by
  intro k' j' lo hi h'
  rw [dCpy_e]
  by_cases hc : k' = k1 ∧ dp ≤ j' ∧ j' < dp + n
  · rw [if_pos hc]
    rw [hc.1] at h'
    exact hb j' lo hi h'
  · rw [if_neg hc]
    exact h k' j' lo hi h'
theorem Gx_model {g g' : gM} (hl : g' 70 18 = g 70 18) (hc : ∀ k : Nat, 82 ≤ k → k ≤ 103 → g' k = g k) (hG : Gx g) (hh : ∀ u : Nat, (u : Int) < (g' 2 2).toInt → 0 ≤ (g' 7 u).toInt ∧ (g' 7 u).toInt ≤ 6) : Gx g' := by
  have eL : gL g' = gL g := by unfold gL; rw [hl]
  have e : ∀ k : Nat, 82 ≤ k → k ≤ 103 → g' k = g k := hc
  have hs : ∀ (L : Nat) (a b : Int), gPc g' L a b = gPc g L a b := fun L a b => by
    unfold gPc
    rw [gSeg_congr (e 102 (by omega) (by omega)) (e 103 (by omega) (by omega))]
  have hb : ∀ L j : Nat, gBr g' L j = gBr g L j := fun L j => by
    unfold gBr
    simp only [hs]
    rw [e 97 (by omega) (by omega), e 98 (by omega) (by omega), e 99 (by omega) (by omega), e 100 (by omega) (by omega), e 101 (by omega) (by omega)]
  have hw : ∀ (L : Nat) (a b : Int), gLw g' L a b = gLw g L a b := fun L a b => by
    unfold gLw
    simp only [hb]
  refine ⟨hh, ?_⟩
  have hG := hG.2
  rw [eL, e 86 (by omega) (by omega), e 87 (by omega) (by omega), e 82 (by omega) (by omega), e 83 (by omega) (by omega), e 84 (by omega) (by omega), e 95 (by omega) (by omega), e 96 (by omega) (by omega)]
  simp only [hw]
  exact hG
theorem dCpy_k {m : dM} {k0 sp k1 dp n a : Nat} (h : a ≠ k1) : (dCpy m k0 sp k1 dp n).1 a = m.1 a := by
  funext b
  rw [dCpy_e, if_neg (fun q => h q.1)]
/-- one law over -/
theorem m_lawOver {m : dM} {x : Int32} {a b : Nat} (hO : Ok m) (ha : a = 32 ∨ a = 33 ∨ a = 34 ∨ a = 35) (hb : b = 14 ∨ b = 15 ∨ b = 16 ∨ b = 17) : Ok (dCpy (dSet m 18 x.toNatClampNeg (m.1 36 x.toNatClampNeg)) a (0 : Int).toNat b (0 : Int).toNat (14 : Int).toNat) := by
  have B1 : OkB (dSet m 18 x.toNatClampNeg (m.1 36 x.toNatClampNeg)) := OkB.set hO.b (fun lo hi h => by
    rcases h with h | h
    · cases h
    · cases h
      exact hO.w (k := 36) rfl)
  have hne : ∀ c : Nat, c ≠ 18 → c ≠ b → (dCpy (dSet m 18 x.toNatClampNeg (m.1 36 x.toNatClampNeg)) a (0 : Int).toNat b (0 : Int).toNat (14 : Int).toNat).1 c = m.1 c := fun c h1 h2 => by rw [dCpy_k h2, dSet_k h1]
  refine Ok.mk (OkB.cpy B1 (fun j lo hi h => ?_)) ?_
  · have hw : wT b j = none ∧ sT b j = some (0, 406) := by rcases hb with rfl | rfl | rfl | rfl <;> exact ⟨rfl, rfl⟩
    have hw2 : ∀ i, wT a i = some (0, 406) := by intro i; rcases ha with rfl | rfl | rfl | rfl <;> rfl
    have : lo = 0 ∧ hi = 406 := by
      rcases h with h | h
      · rw [hw.1] at h; cases h
      · rw [hw.2] at h; cases h; exact ⟨rfl, rfl⟩
    rw [this.1, this.2]
    exact B1 _ _ _ _ (Or.inl (hw2 _))
  · refine Gx_congr ?_ ?_ (hne 7 (by omega) (by omega)) (fun c h1 h2 => hne c (by omega) (by omega)) hO.1.2
    · rw [hne 2 (by omega) (by omega)]
    · rw [hne 70 (by omega) (by omega)]
theorem m_X4_copy_27 {m0 : dM} {Q : dM → Prop} (hQ : ∀ m', Ok m' → T2 m0 m' → Q m') : ∀ n : Nat, ∀ (x2 : Int32) (m : dM), Ok m → T2 m0 m → 0 ≤ x2.toInt ∧ x2.toInt ≤ 4 → 4 - x2.toInt < (n : Int) → j_X4_copy_11_29_27 1 x2 m Q := by
  intro n
  induction n with
  | zero => intro x2 m hO ht h2 hμ; exfalso; omega
  | succ n ih =>
    intro x2 m hO ht h2 hμ
    refine v_X4_copy_11_29_27 ?_
    refine ⟨fun hc => hQ _ hO ht, fun hc => ?_⟩
    have f := dAddE (X := x2.toInt) (Y := 1) (x := x2) (y := (1 : Int32)) rfl (by decide) (by omega) (by omega)
    have go : ∀ a b : Nat, (a = 32 ∨ a = 33 ∨ a = 34 ∨ a = 35) → (b = 14 ∨ b = 15 ∨ b = 16 ∨ b = 17) → j_X4_copy_11_29_27 1 (x2 + 1) (dCpy (dSet m 18 x2.toNatClampNeg (m.1 36 x2.toNatClampNeg)) a (0 : Int).toNat b (0 : Int).toNat (14 : Int).toNat) Q := fun a b ha hb =>
      ih _ _ (m_lawOver hO ha hb) ⟨by rw [dCpy_k (by omega), dSet_k (by omega)]; exact ht.1, by rw [dCpy_k (by omega), dSet_k (by omega)]; exact ht.2⟩ (by omega) (by omega)
    refine ⟨by omega, ⟨by omega, ⟨by omega, ?_⟩⟩⟩
    refine ⟨fun _ => ⟨by omega, fun _ => ?_, fun _ => ?_, fun _ => ?_, fun _ => ?_⟩, fun _ => ⟨by omega, fun _ => ?_, fun _ => ?_, fun _ => ?_, fun _ => ?_⟩, fun _ => ⟨by omega, fun _ => ?_, fun _ => ?_, fun _ => ?_, fun _ => ?_⟩, fun _ => ⟨by omega, fun _ => ?_, fun _ => ?_, fun _ => ?_, fun _ => ?_⟩⟩
    all_goals exact go _ _ (by decide) (by decide)
theorem m_X4_copy {m : dM} {Q : dM → Prop} (hO : Ok m) (hQ : ∀ m', Ok m' → T2 m m' → Q m') : c_X4_copy_11_29 1 m Q := by
  refine v_X4_copy_11_29 ?_
  have b := hO.w (k := 29) (j := 1) rfl
  refine ⟨by omega, ?_⟩
  refine m_X4_copy_27 (m0 := m) hQ 6 _ _ ?_ ⟨rfl, rfl⟩ (by decide) (by decide)
  have hne : ∀ c : Nat, c ≠ 11 → c ≠ 12 → (dSet (dCpy m 30 (0 : Int).toNat 12 (0 : Int).toNat ((m.1 29 1).toInt).toNat) 11 1 (m.1 29 1)).1 c = m.1 c := fun c h1 h2 => by rw [dSet_k h1, dCpy_k h2]
  refine Ok.mk (OkB.set (OkB.cpy hO.b (fun j lo hi h => ?_)) (fun lo hi h => ?_)) ?_
  · rcases h with h | h <;> cases h
  · rcases h with h | h
    · cases h
    · cases h; exact b
  · refine Gx_congr ?_ ?_ (hne 7 (by omega) (by omega)) (fun c h1 h2 => hne c (by omega) (by omega)) hO.1.2
    · rw [hne 2 (by omega) (by omega)]
    · rw [hne 70 (by omega) (by omega)]
theorem m_X3_copy {m : dM} {Q : dM → Prop} (hO : Ok m) (hH : Hm m) (hQ : ∀ m', Ok m' → T2 m m' → Q m') : c_X3_copy_2_20 2 m Q := by
  refine v_X3_copy_2_20 ?_
  have bnd : ∀ {k j : Nat} {v : Int32} {lo hi : Int}, wT k j = none → sT k j = some (lo, hi) → lo ≤ v.toInt ∧ v.toInt ≤ hi → ∀ lo' hi', wT k j = some (lo', hi') ∨ sT k j = some (lo', hi') → lo' ≤ v.toInt ∧ v.toInt ≤ hi' := fun h1 h2 h3 lo' hi' h => by
    rcases h with h | h
    · rw [h1] at h; cases h
    · rw [h2] at h; cases h; exact h3
  have nob : ∀ {k j : Nat} {v : Int32}, wT k j = none → sT k j = none → ∀ lo' hi', wT k j = some (lo', hi') ∨ sT k j = some (lo', hi') → lo' ≤ v.toInt ∧ v.toInt ≤ hi' := fun h1 h2 lo' hi' h => by
    rcases h with h | h
    · rw [h1] at h; cases h
    · rw [h2] at h; cases h
  have B1 : OkB (dSet (dSet (dSet (dSet (dSet (dSet (dSet m 2 0 (m.1 20 0)) 2 1 (m.1 20 1)) 2 2 (m.1 20 2)) 2 3 (m.1 20 3)) 2 4 (m.1 20 4)) 2 5 (m.1 20 5)) 2 6 (m.1 20 6)) :=
    OkB.set (OkB.set (OkB.set (OkB.set (OkB.set (OkB.set (OkB.set hO.b (bnd rfl rfl (hO.s (k := 20) (j := 0) rfl))) (bnd rfl rfl (hO.s (k := 20) (j := 1) rfl))) (bnd rfl rfl (hO.s (k := 20) (j := 2) rfl))) (nob rfl rfl)) (nob rfl rfl)) (nob rfl rfl)) (nob rfl rfl)
  generalize hM : (dSet (dSet (dSet (dSet (dSet (dSet (dSet m 2 0 (m.1 20 0)) 2 1 (m.1 20 1)) 2 2 (m.1 20 2)) 2 3 (m.1 20 3)) 2 4 (m.1 20 4)) 2 5 (m.1 20 5)) 2 6 (m.1 20 6)) = M at B1 ⊢
  have hMk : ∀ c : Nat, c ≠ 2 → M.1 c = m.1 c := fun c hc => by rw [← hM]; simp only [dSet_k hc]
  have hM22 : M.1 2 2 = m.1 20 2 := by rw [← hM]; rfl
  have O2 : Ok (dCpy (dCpy (dCpy (dCpy (dCpy (dCpy (dCpy (dCpy M 21 (0 : Int).toNat 3 (0 : Int).toNat (7 : Int).toNat) 22 (0 : Int).toNat 4 (0 : Int).toNat (10 : Int).toNat) 23 (0 : Int).toNat 5 (0 : Int).toNat (10 : Int).toNat) 24 (0 : Int).toNat 6 (0 : Int).toNat (10 : Int).toNat) 25 (0 : Int).toNat 7 (0 : Int).toNat (8 : Int).toNat) 26 (0 : Int).toNat 8 (0 : Int).toNat (8 : Int).toNat) 27 (0 : Int).toNat 9 (0 : Int).toNat (8 : Int).toNat) 28 (0 : Int).toNat 10 (0 : Int).toNat (8 : Int).toNat) := by
    refine Ok.mk ?_ (Gx_model ?_ (fun c h1 h2 => ?_) hO.1.2 (fun u hu => ?_))
    · refine OkB.cpy (OkB.cpy (OkB.cpy (OkB.cpy (OkB.cpy (OkB.cpy (OkB.cpy (OkB.cpy B1 (fun j => nob rfl rfl)) (fun j => bnd rfl rfl ?_)) (fun j => bnd rfl rfl ?_)) (fun j => nob rfl rfl)) (fun j => nob rfl rfl)) (fun j => nob rfl rfl)) (fun j => nob rfl rfl)) (fun j => nob rfl rfl)
      · rw [dCpy_k (by omega), hMk 22 (by omega)]
        exact hO.w (k := 22) rfl
      · rw [dCpy_k (by omega), dCpy_k (by omega), hMk 23 (by omega)]
        exact hO.w (k := 23) rfl
    · rw [dCpy_k (by omega), dCpy_k (by omega), dCpy_k (by omega), dCpy_k (by omega), dCpy_k (by omega), dCpy_k (by omega), dCpy_k (by omega), dCpy_k (by omega), hMk 70 (by omega)]
    · rw [dCpy_k (by omega), dCpy_k (by omega), dCpy_k (by omega), dCpy_k (by omega), dCpy_k (by omega), dCpy_k (by omega), dCpy_k (by omega), dCpy_k (by omega), hMk c (by omega)]
    · rw [dCpy_k (by omega), dCpy_k (by omega), dCpy_k (by omega), dCpy_k (by omega), dCpy_k (by omega), dCpy_k (by omega), dCpy_k (by omega), dCpy_k (by omega), hM22] at hu
      have b2 := hO.s (k := 20) (j := 2) rfl
      rw [dCpy_k (by omega), dCpy_k (by omega), dCpy_k (by omega), dCpy_e, if_pos ⟨rfl, by show 0 ≤ u; omega, by show u < 0 + 8; omega⟩, dCpy_k (by omega), dCpy_k (by omega), dCpy_k (by omega), dCpy_k (by omega), hMk 25 (by omega)]
      have e : (0 : Int).toNat + (u - (0 : Int).toNat) = u := by show 0 + (u - 0) = u; omega
      rw [e]
      exact hH u hu
  refine Wp.deep (m_X4_copy O2 (fun m' O' t' => ?_)) (Nat.le_of_ble_eq_true rfl)
  refine hQ _ O' ⟨t'.1.trans ?_, t'.2.trans ?_⟩
  · rw [dCpy_k (by omega), dCpy_k (by omega), dCpy_k (by omega), dCpy_k (by omega), dCpy_k (by omega), dCpy_k (by omega), dCpy_k (by omega), dCpy_k (by omega), hMk 0 (by omega)]
  · rw [dCpy_k (by omega), dCpy_k (by omega), dCpy_k (by omega), dCpy_k (by omega), dCpy_k (by omega), dCpy_k (by omega), dCpy_k (by omega), dCpy_k (by omega), hMk 70 (by omega)]
