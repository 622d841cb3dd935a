/-! THE REFERENCE's read, 5: a law (by hand) -/
theorem gSeg_congr2 {g g' : gM} : ∀ {n p t : Nat}, (∀ j, p ≤ j → j < p + n → g' 102 j = g 102 j ∧ g' 103 j = g 103 j) → gSeg g n p t → gSeg g' n p t
  | 0, _, _, _, _ => trivial
  | n + 1, p, t, hc, h => by
    have e := hc p (Nat.le_refl _) (by omega)
    have hc' : ∀ j, p + 1 ≤ j → j < p + 1 + n → g' 102 j = g 102 j ∧ g' 103 j = g 103 j := fun j h1 h2 => hc j (by omega) (by omega)
    rcases h with ⟨a, b, c⟩ | ⟨a, b, c⟩
    · left; rw [e.1, e.2]; exact ⟨a, b, gSeg_congr2 hc' c⟩
    · right; rw [e.1]; exact ⟨a, b, gSeg_congr2 hc' c⟩
theorem gPc_congr {g g' : gM} {s : Nat} {a b c : Int} (hc : ∀ j : Nat, (j : Int) < c → g' 102 j = g 102 j ∧ g' 103 j = g 103 j) (hb : b ≤ c) (h : gPc g s a b) : gPc g' s a b := by
  obtain ⟨h1, h2, h3, h4, h5⟩ := h
  exact ⟨h1, h2, h3, h4, gSeg_congr2 (fun j e1 e2 => hc j (by omega)) h5⟩
def PW (m : dM) (s : Nat) (a b : Int) : Prop := gPc m.1 s a b ∧ b ≤ cds m
def BW (m : dM) (s j : Nat) : Prop := ((m.1 97 j).toInt ≠ 0 → PW m s (m.1 98 j).toInt (m.1 99 j).toInt ∧ PW m s (m.1 99 j).toInt (m.1 100 j).toInt) ∧ PW m s (m.1 100 j).toInt (m.1 101 j).toInt
theorem PW.up {m m' : dM} {s : Nat} {a b : Int} (hc : ∀ j : Nat, (j : Int) < cds m → m'.1 102 j = m.1 102 j ∧ m'.1 103 j = m.1 103 j) (hd : cds m ≤ cds m') (h : PW m s a b) : PW m' s a b := ⟨gPc_congr hc h.2 h.1, Int.le_trans h.2 hd⟩
theorem BW.up {m m' : dM} {s j : Nat} (hc : ∀ j : Nat, (j : Int) < cds m → m'.1 102 j = m.1 102 j ∧ m'.1 103 j = m.1 103 j) (hd : cds m ≤ cds m') (hj : ∀ k : Nat, 97 ≤ k → k ≤ 101 → m'.1 k j = m.1 k j) (h : BW m s j) : BW m' s j := by
  unfold BW at h ⊢
  rw [hj 97 (by omega) (by omega), hj 98 (by omega) (by omega), hj 99 (by omega) (by omega), hj 100 (by omega) (by omega), hj 101 (by omega) (by omega)]
  exact ⟨fun q => ⟨(h.1 q).1.up hc hd, (h.1 q).2.up hc hd⟩, h.2.up hc hd⟩
def LF (mb : dM) (s : Nat) (m : dM) : Prop := (∀ k : Nat, k ≠ 70 → k < 97 ∨ 104 < k → m.1 k = mb.1 k) ∧ (∀ j : Nat, j ≠ 11 → j ≠ 12 → j ≠ 13 → j ≠ 14 → j ≠ 15 → j ≠ 16 → j ≠ 40 → j ≠ 46 → j ≠ 50 → m.1 70 j = mb.1 70 j) ∧ (∀ k j : Nat, 97 ≤ k → k ≤ 101 → ((j : Int) < brs mb ∨ 130 * s + 130 ≤ j) → m.1 k j = mb.1 k j) ∧ (∀ j : Nat, ((j : Int) < cds mb ∨ 420 * s + 402 ≤ j) → m.1 102 j = mb.1 102 j ∧ m.1 103 j = mb.1 103 j) ∧ Wz mb m
theorem LF.mv {mb m m' : dM} {s : Nat} {k : Int} (h : LF mb s m) (hm : Mv k m m') : LF mb s m' := by
  obtain ⟨h1, h2, h3, h4, h5⟩ := h
  obtain ⟨k1, k2, k3, k4, k5⟩ := hm
  refine ⟨fun k e1 e2 => (k1 k e1).trans (h1 k e1 e2), fun j e1 e2 e3 e4 e5 e6 e7 e8 e9 => (k2 j e1 e3 e4 e5 e6).trans (h2 j e1 e2 e3 e4 e5 e6 e7 e8 e9), fun k j e1 e2 e3 => ?_, fun j e1 => ?_, h5.tr k5⟩
  · rw [k1 k (by omega)]; exact h3 k j e1 e2 e3
  · rw [k1 102 (by decide), k1 103 (by decide)]; exact h4 j e1
theorem LF.xf {mb m m' : dM} {s : Nat} (h : LF mb s m) (hc : cds mb ≤ cds m) (hx : XF m s m') : LF mb s m' := by
  obtain ⟨h1, h2, h3, h4, h5⟩ := h
  obtain ⟨k1, k2, k3, k4⟩ := hx
  refine ⟨fun k e1 e2 => (k1 k e1 (by omega) (by omega) (by omega)).trans (h1 k e1 e2), fun j e1 e2 e3 e4 e5 e6 e7 e8 e9 => (k2 j e1 e2 e3 e4 e5 e6 e8 e9).trans (h2 j e1 e2 e3 e4 e5 e6 e7 e8 e9), fun k j e1 e2 e3 => ?_, fun j e1 => ?_, h5.tr k4⟩
  · rw [k1 k (by omega) (by omega) (by omega) (by omega)]; exact h3 k j e1 e2 e3
  · have g1 := k3 j (by omega)
    have g2 := h4 j e1
    exact ⟨g1.1.trans g2.1, g1.2.trans g2.2⟩
/-- a store into the branch that is being told -/
theorem LF.br {mb m : dM} {s k : Nat} {v : Int32} (h : LF mb s m) (hk : 97 ≤ k) (hk2 : k ≤ 101) (hb : brs mb ≤ brs m) (hb0 : 0 ≤ brs m) (hb2 : brs m < 130 * s + 130) : LF mb s (dSet m k (m.1 70 40).toNatClampNeg v) := by
  obtain ⟨h1, h2, h3, h4, h5⟩ := h
  have e : ((m.1 70 40).toNatClampNeg : Int) = brs m := d_cl hb0
  refine ⟨fun a e1 e2 => by rw [dSet_k (by omega)]; exact h1 a e1 e2, fun j e1 e2 e3 e4 e5 e6 e7 e8 e9 => by rw [dSet_k (by omega)]; exact h2 j e1 e2 e3 e4 e5 e6 e7 e8 e9, fun a j e1 e2 e3 => by rw [dSet_j (by omega)]; exact h3 a j e1 e2 e3, fun j e1 => by rw [dSet_k (by omega), dSet_k (by omega)]; exact h4 j e1, h5.tr (Wz.eq (by unfold wst; rw [dSet_k (by omega)]))⟩
/-- what a call of an expression that has failed already does: nothing -/
theorem p_exprBad {m : dM} {Q : dM → Prop} (hf : 0 < flt m) (hQ : Q (dSet m 70 50 (0 : Int32))) : c_X12_expression_70 4 m Q := by
  refine v_X12_expression_70 ?_
  have e : flt (dSet m 70 50 (0 : Int32)) = flt m := rfl
  exact v_X12_expression_70_12 ⟨fun q => absurd q (by decide), fun _ => ⟨fun _ => v_X12_expression_70_272 hQ, fun h0 => by have h0 : flt m = 0 := h0; exfalso; omega⟩⟩
/-- within a law: what holds, with 'e' more tokens gone by than four for each branch -/
def LSt (mb : dM) (s : Nat) (e : Int) (bm : Int) (m : dM) : Prop := LF mb s m ∧ (0 ≤ tt m ∧ tt m ≤ 400) ∧ tt mb ≤ tt m ∧ 0 ≤ flt m ∧ (brs mb ≤ brs m ∧ brs m ≤ 130 * s + bm) ∧ (flt m = 0 → flt mb = 0 ∧ opn m = 0 ∧ (cds mb ≤ cds m ∧ cds m ≤ 420 * s + tt m) ∧ 4 * (brs m - 130 * s) + e ≤ tt m ∧ ∀ j : Nat, brs mb ≤ j → (j : Int) < brs m → BW m s j)
theorem LSt.mv {mb m m' : dM} {s : Nat} {e bm : Int} {k : Int} (h : LSt mb s e bm m) (hm : Mv k m m') (hk : 0 ≤ k) : LSt mb s (e + k) bm m' := by
  obtain ⟨h1, h2, h3, h4, h5, h6⟩ := h
  have hm' := hm
  obtain ⟨k1, k2, k3, k4, k5⟩ := hm
  have b1 : brs m' = brs m := by unfold brs; rw [k2 40 (by decide) (by decide) (by decide) (by decide) (by decide)]
  have c1 : cds m' = cds m := by unfold cds; rw [k2 46 (by decide) (by decide) (by decide) (by decide) (by decide)]
  have o1 : opn m' = opn m := by unfold opn; rw [k2 12 (by decide) (by decide) (by decide) (by decide) (by decide)]
  refine ⟨h1.mv hm', k3, by rcases k4 with q | q <;> omega, by rcases k4 with q | q <;> omega, by omega, fun h0 => ?_⟩
  have z : flt m = 0 ∧ tt m' = tt m + k := by rcases k4 with q | q <;> omega
  have h6 := h6 z.1
  refine ⟨h6.1, by omega, by omega, by omega, fun j e1 e2 => ?_⟩
  exact (h6.2.2.2.2 j e1 (by omega)).up (fun j _ => by rw [k1 102 (by decide), k1 103 (by decide)]; exact ⟨rfl, rfl⟩) (by omega) (fun a e3 e4 => by rw [k1 a (by omega)])
/-- an expression told within a law -/
theorem LSt.ex {mb m : dM} {s : Nat} {e bm : Int} {Q : dM → Prop} (hs : s ≤ 1) (hcb : 420 * (s : Int) ≤ cds mb) (h : LSt mb s e bm m) (hQ : ∀ m', LSt mb s (e + 1) bm m' → (∀ k : Nat, 97 ≤ k → k ≤ 101 → m'.1 k = m.1 k) → brs m' = brs m → tt m ≤ tt m' → (flt m' = 0 → flt m = 0 ∧ cds m ≤ cds m' ∧ gPc m'.1 s (cds m) (cds m') ∧ (∀ j : Nat, (j : Int) < cds m → m'.1 102 j = m.1 102 j ∧ m'.1 103 j = m.1 103 j)) → Q m') : c_X12_expression_70 4 m Q := by
  by_cases h0 : flt m = 0
  · have h6 := h.2.2.2.2.2 h0
    refine p_expression hs h.2.1 h0 h6.2.1 ⟨by omega, h6.2.2.1.2⟩ (fun m' hq => ?_)
    obtain ⟨⟨x, z2, z3, z4, z5, z6⟩, hz⟩ := hq
    have b1 : brs m' = brs m := by unfold brs; rw [x.2.1 40 (by decide) (by decide) (by decide) (by decide) (by decide) (by decide) (by decide) (by decide)]
    refine hQ m' ⟨h.1.xf h6.2.2.1.1 x, z2, by have := h.2.2.1; omega, z4, by have := h.2.2.2.2.1; omega, fun h0' => ?_⟩ (fun k e1 e2 => x.1 k (by omega) (by omega) (by omega) (by omega)) b1 z3 (fun h0' => ⟨h0, z5, (hz h0').2.2.2, fun j e1 => x.2.2.1 j (Or.inl e1)⟩)
    have hz := hz h0'
    refine ⟨h6.1, hz.1, by omega, by omega, fun j e1 e2 => ?_⟩
    exact (h6.2.2.2.2 j e1 (by omega)).up (fun j e3 => x.2.2.1 j (Or.inl e3)) z5 (fun a e3 e4 => by rw [x.1 a (by omega) (by omega) (by omega) (by omega)])
  · have hf : 0 < flt m := by have := h.2.2.2.1; omega
    refine p_exprBad hf ?_
    have f1 : flt (dSet m 70 50 (0 : Int32)) = flt m := rfl
    obtain ⟨⟨h1, h2, h3, h4, h5⟩, t2, t3, t4, t5, t6⟩ := h
    exact hQ _ ⟨⟨fun k e1 e2 => by rw [dSet_k e1]; exact h1 k e1 e2, fun j e1 e2 e3 e4 e5 e6 e7 e8 e9 => by rw [dSet_j e9]; exact h2 j e1 e2 e3 e4 e5 e6 e7 e8 e9, fun k j e1 e2 e3 => by rw [dSet_k (by omega)]; exact h3 k j e1 e2 e3, fun j e1 => h4 j e1, h5⟩, t2, t3, t4, t5, fun q => by exfalso; omega⟩ (fun k e1 e2 => dSet_k (by omega)) rfl (Int.le_refl _) (fun q => by exfalso; omega)
theorem brs_set {m : dM} {k j : Nat} {v : Int32} (hk : k ≠ 70) : brs (dSet m k j v) = brs m ∧ cds (dSet m k j v) = cds m ∧ flt (dSet m k j v) = flt m ∧ tt (dSet m k j v) = tt m ∧ opn (dSet m k j v) = opn m := by
  unfold brs cds flt tt opn
  rw [dSet_k (fun h => hk h.symm)]
  exact ⟨rfl, rfl, rfl, rfl, rfl⟩
/-- a store into the branch under way -/
theorem LSt.br {mb m : dM} {s k : Nat} {e bm : Int} {v : Int32} (h : LSt mb s e bm m) (hk : 97 ≤ k) (hk2 : k ≤ 101) (hb0 : 0 ≤ brs mb) (hb2 : bm < 130) : LSt mb s e bm (dSet m k (m.1 70 40).toNatClampNeg v) := by
  obtain ⟨h1, h2, h3, h4, h5, h6⟩ := h
  obtain ⟨e1, e2, e3, e4, e5⟩ := brs_set (m := m) (j := (m.1 70 40).toNatClampNeg) (v := v) (show k ≠ 70 by omega)
  have eb : ((m.1 70 40).toNatClampNeg : Int) = brs m := d_cl (show 0 ≤ brs m by omega)
  refine ⟨h1.br hk hk2 h5.1 (by omega) (by omega), by omega, by omega, by omega, by omega, fun h0 => ?_⟩
  have h6 := h6 (by omega)
  refine ⟨h6.1, by omega, by omega, by omega, fun j f1 f2 => ?_⟩
  exact (h6.2.2.2.2 j f1 (by omega)).up (fun j _ => by rw [dSet_k (by omega), dSet_k (by omega)]; exact ⟨rfl, rfl⟩) (by omega) (fun a _ _ => dSet_j (by omega))
/-- a term: an expression, and a branch is done -/
theorem p_term {mb m : dM} {s : Nat} {e bm : Int} {Q : dM → Prop} (hs : s ≤ 1) (hcb : 420 * (s : Int) ≤ cds mb) (hbb : 130 * (s : Int) ≤ brs mb) (hbm : bm ≤ 110) (h : LSt mb s e bm m)
    (hbr : flt m = 0 → (m.1 97 (m.1 70 40).toNatClampNeg).toInt ≠ 0 → PW m s (m.1 98 (m.1 70 40).toNatClampNeg).toInt (m.1 99 (m.1 70 40).toNatClampNeg).toInt ∧ PW m s (m.1 99 (m.1 70 40).toNatClampNeg).toInt (cds m)) (hQ : ∀ m', LSt mb s (e - 3) (bm + 1) m' → tt m ≤ tt m' → (flt m' = 0 → flt m = 0) → Q m') : c_X12_term_70 5 m Q := by
  have hb5 := h.2.2.2.2.1
  have eb : ((m.1 70 40).toNatClampNeg : Int) = brs m := d_cl (show 0 ≤ brs m by omega)
  have fin : ∀ m1 : dM, LSt mb s (e + 1) bm m1 → brs m1 = brs m → tt m ≤ tt m1 → (flt m1 = 0 → flt m = 0) → (flt m1 = 0 → BW (dSet m1 101 (m1.1 70 40).toNatClampNeg (m1.1 70 46)) s (m1.1 70 40).toNatClampNeg) → j_X12_term_70_24 5 m1 Q := by
    intro m1 h1 hb htt hff hB
    have eb1 : (m1.1 70 40).toInt = brs m1 := rfl
    have fb := dAddE (X := brs m1) (Y := 1) (x := m1.1 70 40) (y := (1 : Int32)) rfl (by decide) (by omega) (by omega)
    refine v_X12_term_70_24 ⟨by omega, hQ _ ?_ (show tt m ≤ tt m1 from htt) (show flt m1 = 0 → flt m = 0 from hff)⟩
    have g1 := h1.br (k := 101) (v := m1.1 70 46) (by omega) (by omega) (by omega) (by omega)
    have eb2 : ((m1.1 70 40).toNatClampNeg : Int) = brs m1 := d_cl (show 0 ≤ brs m1 by omega)
    generalize hM : dSet m1 101 (m1.1 70 40).toNatClampNeg (m1.1 70 46) = M at g1 hB ⊢
    have e40 : M.1 70 40 = m1.1 70 40 := by rw [← hM]; rfl
    have eF : flt M = flt m1 := by rw [← hM]; rfl
    obtain ⟨⟨h1, h2, h3, h4, h5⟩, t2, t3, t4, t5, t6⟩ := g1
    have bM : brs M = brs m1 := by unfold brs; rw [e40]
    have c1 : cds (dSet M 70 40 (m1.1 70 40 + 1)) = cds M := rfl
    have f1 : flt (dSet M 70 40 (m1.1 70 40 + 1)) = flt M := rfl
    have q1 : tt (dSet M 70 40 (m1.1 70 40 + 1)) = tt M := rfl
    have o1 : opn (dSet M 70 40 (m1.1 70 40 + 1)) = opn M := rfl
    have b1 : brs (dSet M 70 40 (m1.1 70 40 + 1)) = brs m1 + 1 := fb
    refine ⟨⟨fun k a1 a2 => by rw [dSet_k a1]; exact h1 k a1 a2, fun j a1 a2 a3 a4 a5 a6 a7 a8 a9 => by rw [dSet_j a7]; exact h2 j a1 a2 a3 a4 a5 a6 a7 a8 a9, fun k j a1 a2 a3 => by rw [dSet_k (by omega)]; exact h3 k j a1 a2 a3, fun j a1 => h4 j a1, h5⟩, by omega, by omega, by omega, by omega, fun h0 => ?_⟩
    have t6 := t6 (by omega)
    refine ⟨t6.1, by omega, by omega, by omega, fun j a1 a2 => ?_⟩
    have up : ∀ j, BW M s j → BW (dSet M 70 40 (m1.1 70 40 + 1)) s j := fun j hj => BW.up (m := M) (fun j _ => ⟨rfl, rfl⟩) (by omega) (fun a b1 b2 => by rw [dSet_k (by omega)]) hj
    by_cases hj : (j : Int) < brs m1
    · exact up j (t6.2.2.2.2 j a1 (by omega))
    · have : j = (m1.1 70 40).toNatClampNeg := by omega
      rw [this]
      exact up _ (hB (by omega))
  have eb0 : (m.1 70 40).toInt = brs m := rfl
  refine v_X12_term_70 ⟨by omega, fun hf => ?_, fun hf => ?_⟩
  · have hf : flt m ≠ 0 := hf
    have hf2 : 0 < flt m := by have := h.2.2.2.1; omega
    have g1 := h.br (k := 100) (v := m.1 70 46) (by omega) (by omega) (by omega) (by omega)
    have f1 : flt (dSet m 100 (m.1 70 40).toNatClampNeg (m.1 70 46)) = flt m := rfl
    refine fin _ ⟨g1.1, g1.2.1, g1.2.2.1, g1.2.2.2.1, g1.2.2.2.2.1, fun q => by exfalso; omega⟩ rfl (Int.le_refl _) (fun q => q) (fun q => by exfalso; omega)
  · have hf : flt m = 0 := hf
    have g1 := h.br (k := 100) (v := m.1 70 46) (by omega) (by omega) (by omega) (by omega)
    have c1 : cds (dSet m 100 (m.1 70 40).toNatClampNeg (m.1 70 46)) = cds m := rfl
    refine g1.ex hs hcb (fun m1 h1 hk hb htt hz => ?_)
    have hb' : brs m1 = brs m := hb
    refine fin m1 h1 hb' htt (fun _ => hf) (fun h0 => ?_)
    have hz := hz h0
    rw [c1] at hz
    have e40 : (m1.1 70 40).toNatClampNeg = (m.1 70 40).toNatClampNeg := by
      have := d_cl (show 0 ≤ (m1.1 70 40).toInt by show 0 ≤ brs m1; omega)
      have w : (m1.1 70 40).toInt = brs m1 := rfl
      omega
    have r : ∀ a : Nat, 97 ≤ a → a ≤ 100 → (dSet m1 101 (m1.1 70 40).toNatClampNeg (m1.1 70 46)).1 a (m1.1 70 40).toNatClampNeg = (dSet m 100 (m.1 70 40).toNatClampNeg (m.1 70 46)).1 a (m.1 70 40).toNatClampNeg := fun a b1 b2 => by rw [dSet_k (by omega), hk a b1 (by omega), e40]
    have c2 : cds (dSet m1 101 (m1.1 70 40).toNatClampNeg (m1.1 70 46)) = cds m1 := rfl
    have up2 : ∀ a b : Int, PW m s a b → PW (dSet m1 101 (m1.1 70 40).toNatClampNeg (m1.1 70 46)) s a b := fun a b q => q.up (fun j hj => by rw [dSet_k (by decide), dSet_k (by decide)]; exact hz.2.2.2 j hj) (by omega)
    unfold BW
    rw [r 97 (by omega) (by omega), r 98 (by omega) (by omega), r 99 (by omega) (by omega), r 100 (by omega) (by omega), dSet_s, dSet_s, dSet_k (by decide), dSet_k (by decide), dSet_k (by decide)]
    refine ⟨fun q => ?_, ⟨?_, by show cds m1 ≤ _; omega⟩⟩
    · have := hbr hf q
      exact ⟨up2 _ _ this.1, up2 _ _ this.2⟩
    · exact gPc_congr (g := m1.1) (c := cds m1) (fun j _ => ⟨rfl, rfl⟩) (Int.le_refl _) hz.2.2.1
