/-! THE REFERENCE's read, 7: what holds while a text is told (by hand) -/
def rg (k : Nat) : Nat := match k with
  | 80 => 1
  | 82 => 1
  | 83 => 10
  | 84 => 10
  | 85 => 10
  | 86 => 1
  | 87 => 8
  | 88 => 8
  | 89 => 8
  | 90 => 8
  | 91 => 1
  | 92 => 1
  | 93 => 1
  | 94 => 1
  | 95 => 4
  | 96 => 4
  | 97 => 130
  | 98 => 130
  | 99 => 130
  | 100 => 130
  | 101 => 130
  | 102 => 420
  | 103 => 420
  | _ => 0
theorem rg_lo {k : Nat} (h : k < 80 ∨ 103 < k) : rg k = 0 := by
  unfold rg
  split <;> first | rfl | (exfalso; omega)
theorem sT_lt {k j : Nat} {b : Int × Int} (h0 : 71 ≤ k) (h : sT k j = some b) : k < 97 := by
  unfold sT at h
  split at h
  all_goals first
    | omega
    | cases h
def PF (m0 : dM) (L s : Nat) (m : dM) : Prop := (∀ k : Nat, k < 70 ∨ 105 ≤ k → m.1 k = m0.1 k) ∧ (∀ j : Nat, (j = 2 ∨ j = 18 ∨ j = 19 ∨ 51 ≤ j) → m.1 70 j = m0.1 70 j) ∧ (∀ k j : Nat, 71 ≤ k → rg k * L ≤ j → j < rg k * L + rg k → m.1 k j = m0.1 k j) ∧ (∀ (k j : Nat) (lo hi : Int), 71 ≤ k → sT k j = some (lo, hi) → lo ≤ (m.1 k j).toInt ∧ (m.1 k j).toInt ≤ hi)
section PFS
variable {m0 m m' : dM} {L s : Nat}
theorem PF.mv {k : Int} (h : PF m0 L s m) (hm : Mv k m m') : PF m0 L s m' := by
  obtain ⟨h1, h2, h3, h4⟩ := h
  obtain ⟨k1, k2, k3, k4, k5⟩ := hm
  refine ⟨fun k e => (k1 k (by omega)).trans (h1 k e), fun j e => (k2 j (by omega) (by omega) (by omega) (by omega) (by omega)).trans (h2 j e), fun k j e0 e1 e2 => by rw [k1 k (by omega)]; exact h3 k j e0 e1 e2, fun k j lo hi e0 e1 => by rw [k1 k (by omega)]; exact h4 k j lo hi e0 e1⟩
theorem PF.set {k j : Nat} {v : Int32} (h : PF m0 L s m) (hL : L + s = 1) (hk : 71 ≤ k) (hk2 : k ≤ 104) (hj : rg k = 0 ∨ (rg k * s ≤ j ∧ j < rg k * s + rg k)) (hb : ∀ lo hi, sT k j = some (lo, hi) → lo ≤ v.toInt ∧ v.toInt ≤ hi) : PF m0 L s (dSet m k j v) := by
  obtain ⟨h1, h2, h3, h4⟩ := h
  refine ⟨fun a e => by rw [dSet_k (by omega)]; exact h1 a e, fun a e => by rw [dSet_k (by omega)]; exact h2 a e, fun a b e0 e1 e2 => ?_, fun a b lo hi e0 e1 => ?_⟩
  · rw [dSet_e]
    by_cases hc : a = k ∧ b = j
    · exfalso
      obtain ⟨rfl, rfl⟩ := hc
      have hLs : (L = 0 ∧ s = 1) ∨ (L = 1 ∧ s = 0) := by omega
      rcases hLs with ⟨rfl, rfl⟩ | ⟨rfl, rfl⟩
      · simp only [Nat.mul_zero, Nat.mul_one] at hj e1 e2
        omega
      · simp only [Nat.mul_zero, Nat.mul_one] at hj e1 e2
        omega
    · rw [if_neg hc]
      exact h3 a b e0 e1 e2
  · rw [dSet_e]
    by_cases hc : a = k ∧ b = j
    · rw [if_pos hc]
      rw [hc.1, hc.2] at e1
      exact hb lo hi e1
    · rw [if_neg hc]
      exact h4 a b lo hi e0 e1
theorem PF.set70 {j : Nat} {v : Int32} (h : PF m0 L s m) (h1 : j ≠ 2) (h2 : j ≠ 18) (h3 : j ≠ 19) (h4 : j < 51) : PF m0 L s (dSet m 70 j v) := by
  obtain ⟨g1, g2, g3, g4⟩ := h
  exact ⟨fun a e => by rw [dSet_k (by omega)]; exact g1 a e, fun a e => by rw [dSet_j (by omega)]; exact g2 a e, fun a b e0 e1 e2 => by rw [dSet_k (by omega)]; exact g3 a b e0 e1 e2, fun a b lo hi e0 e1 => by rw [dSet_k (by omega)]; exact g4 a b lo hi e0 e1⟩
theorem PF.lf {mb : dM} (h : PF m0 L s mb) (hL : L + s = 1) (hb : 130 * (s : Int) ≤ brs mb) (hc : 420 * (s : Int) ≤ cds mb) (hl : LF mb s m) : PF m0 L s m := by
  obtain ⟨g1, g2, g3, g4⟩ := h
  obtain ⟨k1, k2, k3, k4, k5⟩ := hl
  have hLs : (L = 0 ∧ s = 1) ∨ (L = 1 ∧ s = 0) := by omega
  refine ⟨fun a e => (k1 a (by omega) (by omega)).trans (g1 a e), fun a e => (k2 a (by omega) (by omega) (by omega) (by omega) (by omega) (by omega) (by omega) (by omega) (by omega)).trans (g2 a e), fun a b e0 e1 e2 => ?_, fun a b lo hi e0 e1 => ?_⟩
  · by_cases q1 : a < 97
    · rw [k1 a (by omega) (Or.inl q1)]; exact g3 a b e0 e1 e2
    · by_cases q2 : a ≤ 101
      · have er : rg a = 130 := by
          have : a = 97 ∨ a = 98 ∨ a = 99 ∨ a = 100 ∨ a = 101 := by omega
          rcases this with rfl | rfl | rfl | rfl | rfl <;> rfl
        have e1' := e1
        have e2' := e2
        rw [er] at e1' e2'
        rw [k3 a b (by omega) q2 (by rcases hLs with ⟨rfl, rfl⟩ | ⟨rfl, rfl⟩ <;> omega)]
        exact g3 a b e0 e1 e2
      · by_cases q3 : a ≤ 103
        · have er : rg a = 420 := by
            have : a = 102 ∨ a = 103 := by omega
            rcases this with rfl | rfl <;> rfl
          have e1' := e1
          have e2' := e2
          rw [er] at e1' e2'
          have w := k4 b (by rcases hLs with ⟨rfl, rfl⟩ | ⟨rfl, rfl⟩ <;> omega)
          have w2 : m.1 a b = mb.1 a b := by
            have : a = 102 ∨ a = 103 := by omega
            rcases this with rfl | rfl
            · exact w.1
            · exact w.2
          rw [w2]
          exact g3 a b e0 e1 e2
        · exfalso
          rw [rg_lo (Or.inr (by omega))] at e1 e2
          omega
  · rw [k1 a (by omega) (Or.inl (sT_lt e0 e1))]
    exact g4 a b lo hi e0 e1
theorem PF.sd (h : PF m0 L s m) (h0 : (m0.1 70 19).toInt = s) : (m.1 70 19).toInt = s ∧ (m.1 70 19).toNatClampNeg = s := by
  have e : (m.1 70 19).toInt = s := by rw [h.2.1 19 (by omega)]; exact h0
  refine ⟨e, ?_⟩
  have := d_cl (x := m.1 70 19) (by omega)
  omega
end PFS
def EH (m : dM) (s : Nat) : Prop := (∀ w : Nat, (w : Int) < (m.1 82 s).toInt → (0 ≤ (m.1 83 (10 * s + w)).toInt ∧ (m.1 83 (10 * s + w)).toInt ≤ 6) ∧ (0 ≤ (m.1 84 (10 * s + w)).toInt ∧ (m.1 84 (10 * s + w)).toInt ≤ 6)) ∧ (∀ u : Nat, (u : Int) < (m.1 86 s).toInt → 0 ≤ (m.1 87 (8 * s + u)).toInt ∧ (m.1 87 (8 * s + u)).toInt ≤ 6)
def LW (m : dM) (s : Nat) (a b : Int) : Prop := a = b ∨ (130 * (s : Int) ≤ a ∧ a ≤ b ∧ b ≤ brs m ∧ ∀ j : Nat, a ≤ j → (j : Int) < b → BW m s j)
def LB (m : dM) (s : Nat) : Prop := ∀ k : Nat, k < 4 → LW m s (m.1 95 (4 * s + k)).toInt (m.1 96 (4 * s + k)).toInt
def PG (m : dM) (s : Nat) : Prop := nms m = (m.1 80 s).toInt + (m.1 86 s).toInt ∧ opn m = 0 ∧ (420 * (s : Int) ≤ cds m ∧ cds m ≤ 420 * s + tt m) ∧ (130 * (s : Int) ≤ brs m ∧ 4 * (brs m - 130 * s) ≤ tt m) ∧ LB m s ∧ (0 ≤ wst m ∧ (wst m = 0 → EH m s))
def PI (m0 : dM) (L s : Nat) (m : dM) : Prop := PF m0 L s m ∧ (0 ≤ tt m ∧ tt m ≤ 400) ∧ 0 ≤ flt m ∧ (flt m = 0 → PG m s)
theorem LB.up {m m' : dM} {s : Nat} (hk : ∀ k : Nat, 95 ≤ k → k ≤ 101 → ∀ j : Nat, (97 ≤ k → (j : Int) < brs m) → m'.1 k j = m.1 k j) (hc : ∀ j : Nat, (j : Int) < cds m → m'.1 102 j = m.1 102 j ∧ m'.1 103 j = m.1 103 j) (hb : brs m ≤ brs m') (hd : cds m ≤ cds m') (h : LB m s) : LB m' s := by
  intro k hk4
  rw [hk 95 (by omega) (by omega) _ (fun q => by omega), hk 96 (by omega) (by omega) _ (fun q => by omega)]
  rcases h k hk4 with q | ⟨q1, q2, q3, q4⟩
  · exact Or.inl q
  · exact Or.inr ⟨q1, q2, by omega, fun j e1 e2 => (q4 j e1 e2).up hc hd (fun a b1 b2 => hk a (by omega) b2 j (fun _ => by omega))⟩
/-- what PG reads is as it was, and it has gone on -/
theorem PG.cg {m m' : dM} {s : Nat} (h : PG m s) (hk : ∀ k : Nat, k = 80 ∨ k = 82 ∨ k = 83 ∨ k = 84 ∨ k = 86 ∨ k = 87 ∨ (95 ≤ k ∧ k ≤ 103) → m'.1 k = m.1 k) (hj : ∀ j : Nat, j = 12 ∨ j = 20 ∨ j = 40 ∨ j = 46 → m'.1 70 j = m.1 70 j) (ht : tt m ≤ tt m') (hw : Wz m m') : PG m' s := by
  obtain ⟨h1, h2, h3, h4, h5, h6⟩ := h
  have n1 : nms m' = nms m := by unfold nms; rw [hj 20 (by omega)]
  have o1 : opn m' = opn m := by unfold opn; rw [hj 12 (by omega)]
  have c1 : cds m' = cds m := by unfold cds; rw [hj 46 (by omega)]
  have b1 : brs m' = brs m := by unfold brs; rw [hj 40 (by omega)]
  refine ⟨by rw [n1, hk 80 (by omega), hk 86 (by omega)]; exact h1, by omega, by omega, by omega, LB.up (fun k e1 e2 j _ => by rw [hk k (by omega)]) (fun j _ => by rw [hk 102 (by omega), hk 103 (by omega)]; exact ⟨rfl, rfl⟩) (by omega) (by omega) h5, ⟨hw.2 h6.1, fun q => ?_⟩⟩
  have := h6.2 (hw.1 q)
  unfold EH
  rw [hk 82 (by omega), hk 83 (by omega), hk 84 (by omega), hk 86 (by omega), hk 87 (by omega)]
  exact this
theorem PG.mv {m m' : dM} {s : Nat} {k : Int} (h : PG m s) (hm : Mv k m m') (hk : 0 ≤ k) : PG m' s := h.cg (fun k e => hm.1 k (by omega)) (fun j e => hm.2.1 j (by omega) (by omega) (by omega) (by omega) (by omega)) (by rcases hm.2.2.2.1 with q | q <;> omega) hm.2.2.2.2
theorem p_roomFor {x1 x2 : Int32} {m : dM} {Q : dM → Prop} (ht : 0 ≤ tt m ∧ tt m ≤ 400) (hf : 0 ≤ flt m) (hQ : ∀ m', Mv 1 m m' → (flt m' = 0 → x1.toInt ≠ x2.toInt) → Q m') : c_X12_roomFor_70 3 x1 x2 m Q := by
  have nx : ∀ m1 : dM, Mv 0 m m1 → (flt m1 = 0 → x1.toInt ≠ x2.toInt) → j_X12_roomFor_70_10 3 m1 Q := by
    intro m1 h1 hd
    refine v_X12_roomFor_70_10 ⟨fun hc => ?_, fun hc => ?_⟩
    · have hc : flt m1 ≠ 0 := hc
      have := h1.fl
      refine v_X12_roomFor_70_21 (hQ m1 ⟨h1.1, h1.2.1, h1.2.2.1, ?_, h1.2.2.2.2⟩ hd)
      right
      rcases h1.2.2.2.1 with q | q <;> omega
    · have hc : flt m1 = 0 := hc
      refine p_goesOn h1.2.2.1 h1.fl (fun m2 h2 => v_X12_roomFor_70_21 (hQ m2 ?_ (fun _ => hd hc)))
      exact h1.tr h2 (by decide) (by decide)
  refine v_X12_roomFor_70 ⟨fun hne => nx m (Mv.rf ht hf) (fun _ => hne), fun he => ?_⟩
  exact Wp.deep (p_fail ht (by decide) (fun m1 h1 hf1 => nx m1 h1 (fun q => by exfalso; omega))) (Nat.le_of_ble_eq_true rfl)
theorem p_endsName {x1 x2 : Int32} {m : dM} {Q : dM → Prop} (ht : 0 ≤ tt m ∧ tt m ≤ 400) (hf : 0 ≤ flt m) (hx : 0 ≤ x1.toInt ∧ x1.toInt ≤ 400) (hn : flt m = 0 → 0 ≤ nms m ∧ nms m ≤ 14) (hQ1 : ∀ m', Mv 1 m m' → 0 < flt m' → Q m') (hQ2 : ∀ m', Mv 1 m m' → flt m' = 0 → flt m = 0 → Q (dSet (dSet (dSetL m' 78 (m'.1 70 20).toNatClampNeg (m'.2.1 76 x1.toNatClampNeg)) 79 (m'.1 70 20).toNatClampNeg x2) 70 20 ((m'.1 70 20) + (1 : Int32)))) : c_X12_endsName_70 4 x1 x2 m Q := by
  refine v_X12_endsName_70 ?_
  refine p_must ht hf (fun m1 h1 => ⟨fun hc => ?_, fun hc => hQ1 m1 h1 hc⟩)
  have hc : flt m1 ≤ 0 := hc
  have h0 : flt m1 = 0 := by have := h1.fl; omega
  have hm : flt m = 0 := by rcases h1.2.2.2.1 with q | q <;> omega
  have e : (m1.1 70 20).toInt = nms m := by rw [h1.2.1 20 (by decide) (by decide) (by decide) (by decide) (by decide)]; rfl
  have hn := hn hm
  exact ⟨by omega, ⟨by omega, ⟨by omega, hQ2 m1 h1 h0 hm⟩⟩⟩
theorem p_areWired {x1 x2 : Int32} {m : dM} {s : Nat} {Q : Int32 → dM → Prop} (hs : s ≤ 1) (hsd : (m.1 70 19).toInt = s ∧ (m.1 70 19).toNatClampNeg = s) (hw : 0 ≤ (m.1 82 s).toInt ∧ (m.1 82 s).toInt ≤ 10) (hQ : ∀ r, Q r m) : c_X12_areWired_70 1 x1 x2 m Q := by
  have fm := dMulE (X := 10) (Y := (s : Int)) (x := (10 : Int32)) (y := m.1 70 19) (by decide) hsd.1 (by omega) (by omega)
  have fa := dAddE (X := 10 * (s : Int)) (Y := (m.1 82 s).toInt) (x := (10 : Int32) * m.1 70 19) (y := m.1 82 s) fm rfl (by omega) (by omega)
  have H : ∀ (n : Nat) (x3 : Int32), 0 ≤ x3.toInt → x3.toInt ≤ 10 * s + (m.1 82 s).toInt → 20 - x3.toInt < n → j_X12_areWired_70_8 1 x1 x2 x3 m Q := by
    intro n
    induction n with
    | zero => intro x3 h1 h2 h3; exfalso; omega
    | succ n ih =>
      intro x3 h1 h2 h3
      refine v_X12_areWired_70_8 ⟨by omega, ?_⟩
      rw [hsd.2]
      have last : j_X12_areWired_70_69 1 m Q := v_X12_areWired_70_69 (hQ _)
      refine ⟨fun _ => hQ _, fun hc => ?_⟩
      have f3 := dAddE (X := x3.toInt) (Y := 1) (x := x3) (y := (1 : Int32)) rfl (by decide) (by omega) (by omega)
      have nx : j_X12_areWired_70_71 1 x1 x2 x3 m Q := v_X12_areWired_70_71 (ih _ (by omega) (by omega) (by omega))
      have md : j_X12_areWired_70_49 1 x1 x2 x3 m Q := v_X12_areWired_70_49 ⟨by omega, fun _ => nx, fun _ => ⟨by omega, fun _ => nx, fun _ => last⟩⟩
      exact ⟨by omega, fun _ => md, fun _ => ⟨by omega, fun _ => last, fun _ => md⟩⟩
  refine v_X12_areWired_70 (H 21 _ (by omega) (by omega) (by omega))
