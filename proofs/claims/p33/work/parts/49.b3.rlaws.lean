/-! THE REFERENCE's laws, as told -/
theorem SR.app {m : dM} {a : Nat} {A B : lC} (h : SR m a A) (h' : SR m (a + A.length) B) : SR m a (A ++ B) := by
  refine ⟨by rw [List.length_append]; have := h'.1; omega, fun j hj => ?_⟩
  rw [List.length_append] at hj
  by_cases q : j < A.length
  · rw [List.getD_eq_getElem?_getD, List.getElem?_append_left q, ← List.getD_eq_getElem?_getD]
    exact h.2 j q
  · rw [List.getD_eq_getElem?_getD, List.getElem?_append_right (by omega), ← List.getD_eq_getElem?_getD]
    have := h'.2 (j - A.length) (by omega)
    rw [show a + A.length + (j - A.length) = a + j by omega] at this
    exact this
theorem SR.spl {m : dM} {a : Nat} {A B C : lC} (h : SR m a (A ++ (B ++ C))) : SR m (a + A.length) B := by
  obtain ⟨h1, h2⟩ := h
  rw [List.length_append, List.length_append] at h1 h2
  refine ⟨by omega, fun j hj => ?_⟩
  have := h2 (A.length + j) (by omega)
  rw [List.getD_eq_getElem?_getD, List.getElem?_append_right (by omega), show A.length + j - A.length = j by omega, List.getElem?_append_left hj, ← List.getD_eq_getElem?_getD, show a + (A.length + j) = a + A.length + j by omega] at this
  exact this
/-- a mark of a branch: behind j pieces -/
def Mk (mb m : dM) (k i : Nat) (p : List lC) (j : Nat) : Prop := (m.1 k ((brs mb).toNat + i)).toInt = cds mb + ((p.take j).flatten.length : Int)
/-- the pieces so far, b branches done -/
def LQw (mb m : dM) (b : Nat) (p : List lC) : Prop := cds m = cds mb + (p.flatten.length : Int) ∧ SR m (cds mb).toNat p.flatten ∧ ∀ i : Nat, i < b → (m.1 97 ((brs mb).toNat + i)).toInt ≠ 0 ∧ Mk mb m 98 i p (3 * i) ∧ Mk mb m 99 i p (3 * i + 1) ∧ Mk mb m 100 i p (3 * i + 2) ∧ Mk mb m 101 i p (3 * i + 3)
section LQSw
variable {mb m m' : dM} {s b k i j : Nat} {p : List lC} {c : lC}
theorem Mk.on (h : Mk mb m k i p j) (e : m'.1 k ((brs mb).toNat + i) = m.1 k ((brs mb).toNat + i)) : Mk mb m' k i p j := by unfold Mk; rw [e]; exact h
theorem Mk.ap (h : Mk mb m k i p j) (hj : j ≤ p.length) : Mk mb m k i (p ++ [c]) j := by unfold Mk; rw [take_app hj]; exact h
theorem LQw.on (h : LQw mb m b p) (e0 : cds m' = cds m) (e : ∀ k i : Nat, 97 ≤ k → k ≤ 101 → i < b → m'.1 k ((brs mb).toNat + i) = m.1 k ((brs mb).toNat + i)) (e2 : m'.1 102 = m.1 102) (e3 : m'.1 103 = m.1 103) : LQw mb m' b p := by
  refine ⟨by rw [e0]; exact h.1, h.2.1.of e2 e3, fun i hi => ?_⟩
  obtain ⟨a1, a2, a3, a4, a5⟩ := h.2.2 i hi
  exact ⟨by rw [e 97 i (by omega) (by omega) hi]; exact a1, a2.on (e 98 i (by omega) (by omega) hi), a3.on (e 99 i (by omega) (by omega) hi), a4.on (e 100 i (by omega) (by omega) hi), a5.on (e 101 i (by omega) (by omega) hi)⟩
theorem LQw.mv {n : Int} (h : LQw mb m b p) (hm : Mv n m m') : LQw mb m' b p := h.on (by unfold cds; rw [hm.2.1 46 (by decide) (by decide) (by decide) (by decide) (by decide)]) (fun k i h1 h2 _ => by rw [hm.1 k (by omega)]) (hm.1 102 (by decide)) (hm.1 103 (by decide))
theorem LQw.st {v : Int32} {q : Nat} (h : LQw mb m b p) (hk : 97 ≤ k ∧ k ≤ 101) (hq : q = (brs mb).toNat + b) : LQw mb (dSet m k q v) b p := h.on (by unfold cds; rw [dSet_k (by omega)]) (fun k' i h1 h2 h3 => by
  rw [dSet_e, if_neg (fun w => by omega)]
  ) (by rw [dSet_k (by omega)]) (by rw [dSet_k (by omega)])
theorem LQw.ex (h : LQw mb m b p) (hb : 3 * b ≤ p.length) (h0 : 0 ≤ cds mb) (hx : XF m s m') (hc : cds m' = cds m + (c.length : Int)) (hS : SR m' (cds m).toNat c) : LQw mb m' b (p ++ [c]) := by
  obtain ⟨a1, a2, a3⟩ := h
  have el : (p ++ [c]).flatten = p.flatten ++ c := by rw [List.flatten_append, List.flatten_cons, List.flatten_nil, List.append_nil]
  unfold LQw
  rw [el]
  refine ⟨by rw [List.length_append]; omega, (a2.on (fun j _ hj => hx.2.2.1 j (by omega))).app (by rw [show (cds mb).toNat + p.flatten.length = (cds m).toNat by omega]; exact hS), fun i hi => ?_⟩
  obtain ⟨b1, b2, b3, b4, b5⟩ := a3 i hi
  have e : ∀ k : Nat, 97 ≤ k → k ≤ 101 → m'.1 k = m.1 k := fun k h1 h2 => hx.1 k (by omega) (by omega) (by omega) (by omega)
  exact ⟨by rw [e 97 (by omega) (by omega)]; exact b1, (b2.on (by rw [e 98 (by omega) (by omega)])).ap (by omega), (b3.on (by rw [e 99 (by omega) (by omega)])).ap (by omega), (b4.on (by rw [e 100 (by omega) (by omega)])).ap (by omega), (b5.on (by rw [e 101 (by omega) (by omega)])).ap (by omega)⟩
theorem LQw.up (h : LQw mb m b p) (h0 : (m.1 97 ((brs mb).toNat + b)).toInt ≠ 0) (h1 : Mk mb m 98 b p (3 * b)) (h2 : Mk mb m 99 b p (3 * b + 1)) (h3 : Mk mb m 100 b p (3 * b + 2)) (h4 : Mk mb m 101 b p (3 * b + 3)) : LQw mb m (b + 1) p := ⟨h.1, h.2.1, fun i hi => by
  by_cases e : i = b
  · subst e; exact ⟨h0, h1, h2, h3, h4⟩
  · exact h.2.2 i (by omega)⟩
/-- a mark set now -/
theorem Mk.now {v : Int32} (hp : p.length = j) (hv : v.toInt = cds mb + (p.flatten.length : Int)) : Mk mb (dSet m k ((brs mb).toNat + b) v) k b p j := by
  unfold Mk
  rw [dSet_s, hv, ← hp, List.take_length]
end LQSw
/-- a law has been told: these pieces -/
def LZ (mb m : dM) (p : List lC) : Prop := ∃ b : Nat, p.length = 3 * b + 1 ∧ brs m = brs mb + (b : Int) + 1 ∧ LQw mb m b p ∧ (m.1 97 ((brs mb).toNat + b)).toInt = 0 ∧ Mk mb m 100 b p (3 * b) ∧ Mk mb m 101 b p (3 * b + 1)
section RLX
variable {K : Nat → Int} {V : Nat → Int64} {P : Nat → Nat} {r W : gR} {mb : dM} {s : Nat} {T : gR} {PX : List lC}
/-- an expression told within a law -/
theorem LY.xx {m : dM} {e bm : Int} {Q : dM → Prop} (hs : s ≤ 1) (hcb : 420 * (s : Int) ≤ cds mb) (hv : ∀ i, vk (K i)) (hR : RM K V P mb) (hV : ∀ n : Nat, K n = 23 → 0 ≤ (V n).toInt32.toInt ∧ (V n).toInt32.toInt ≤ 9999) (h : LY K P mb s e bm m r W) (hQ : ∀ m', LY K P mb s (e + 1) bm m' (rb r (gE K)) W → brs m' = brs m → tt m ≤ tt m' → (flt m' = 0 → flt m = 0) → (flt m' = 0 → XF m s m' ∧ cds m' = cds m + ((cE K V r.2).length : Int) ∧ SR m' (cds m).toNat (cE K V r.2)) → Q m') : c_X12_expression_70 4 m Q := by
  obtain ⟨h, g2, hS⟩ := h
  by_cases z : r.1 = 0
  · have h0 : flt m = 0 := hS.fl.2.mpr z
    have h6 := h.2.2.2.2.2 h0
    have er : r = (0, r.2) := by rw [← z]
    have hS' : ST K P m (0, r.2) W := by rw [← er]; exact hS
    refine xr_expression hs hv (hR.lf h.1 g2) hV hS' h6.2.1 ⟨by omega, h6.2.2.1.2⟩ (fun m' hq g' S' cX => ?_)
    obtain ⟨⟨x, z2, z3, z4, z5, z6⟩, hz⟩ := hq
    have b1 : brs m' = brs m := by unfold brs; rw [x.2.1 40 (by decide) (by decide) (by decide) (by decide) (by decide) (by decide) (by decide) (by decide)]
    refine hQ m' ⟨⟨h.1.xf h6.2.2.1.1 x, z2, by have := h.2.2.1; omega, z4, by have := h.2.2.2.2.1; omega, fun h0' => ?_⟩, g'.trans g2, by rw [rb_k z]; exact S'⟩ b1 z3 (fun _ => h0) (fun q => ⟨x, cX q⟩)
    have hz := hz h0'
    exact ⟨h6.1, hz.1, by omega, by omega⟩
  · have hf : 0 < flt m := by have := h.2.2.2.1; have := hS.fl.2; omega
    refine p_exprBad hf ?_
    have f1 : flt (dSet m 70 50 (0 : Int32)) = flt m := rfl
    obtain ⟨⟨h1, h2, h3, h4, h5⟩, t2, t3, t4, t5, t6⟩ := h
    exact hQ (dSet m 70 50 (0 : Int32)) ⟨⟨⟨fun k e1 e2 => by rw [dSet_k e1]; exact h1 k e1 e2, fun j e1 e2 e3 e4 e5 e6 e7 e8 e9 => by rw [dSet_j e9]; exact h2 j e1 e2 e3 e4 e5 e6 e7 e8 e9, fun k j e1 e2 e3 => by rw [dSet_k (by omega)]; exact h3 k j e1 e2 e3, fun j e1 => h4 j e1, h5⟩, t2, t3, t4, t5, fun q => by exfalso; omega⟩, g2, by rw [rb_f z]; exact hS.of rfl rfl rfl rfl rfl⟩ rfl (Int.le_refl _) (fun q => by exfalso; omega) (fun q => by exfalso; omega)
/-- a term: an expression, and a branch is done -/
theorem LY.tx {m : dM} {e bm : Int} {Q : dM → Prop} (hs : s ≤ 1) (hcb : 420 * (s : Int) ≤ cds mb) (hbb : 130 * (s : Int) ≤ brs mb) (hbm : bm ≤ 110) (hv : ∀ i, vk (K i)) (hR : RM K V P mb) (hV : ∀ n : Nat, K n = 23 → 0 ≤ (V n).toInt32.toInt ∧ (V n).toInt32.toInt ≤ 9999) (h : LY K P mb s e bm m r W) {b : Nat} {p : List lC} (hL : r.1 = 0 → brs m = brs mb + (b : Int) ∧ LQw mb m b p ∧ 3 * b ≤ p.length)
    (hQ : ∀ m', LY K P mb s (e - 3) (bm + 1) m' (rb r (gE K)) W → tt m ≤ tt m' → (flt m' = 0 → flt m = 0) → (flt m' = 0 → brs m' = brs mb + (b : Int) + 1 ∧ LQw mb m' b (p ++ [cE K V r.2]) ∧ Mk mb m' 100 b (p ++ [cE K V r.2]) p.length ∧ Mk mb m' 101 b (p ++ [cE K V r.2]) (p.length + 1) ∧ ∀ k : Nat, 97 ≤ k → k ≤ 99 → m'.1 k ((brs mb).toNat + b) = m.1 k ((brs mb).toNat + b)) → Q m') : c_X12_term_70 5 m Q := by
  have hb5 := h.1.2.2.2.2.1
  have eb : ((m.1 70 40).toNatClampNeg : Int) = brs m := d_cl (show 0 ≤ brs m by omega)
  have fin : ∀ m1 : dM, LY K P mb s (e + 1) bm m1 (rb r (gE K)) W → brs m1 = brs m → tt m ≤ tt m1 → (flt m1 = 0 → flt m = 0) → (flt m1 = 0 → brs m1 = brs mb + (b : Int) ∧ LQw mb m1 b (p ++ [cE K V r.2]) ∧ Mk mb m1 100 b (p ++ [cE K V r.2]) p.length ∧ ∀ k : Nat, 97 ≤ k → k ≤ 99 → m1.1 k ((brs mb).toNat + b) = m.1 k ((brs mb).toNat + b)) → j_X12_term_70_24 5 m1 Q := by
    intro m1 h1 hb htt hff hLL
    have eb1 : (m1.1 70 40).toInt = brs m1 := rfl
    have fb := dAddE (X := brs m1) (Y := 1) (x := m1.1 70 40) (y := (1 : Int32)) rfl (by decide) (by omega) (by omega)
    have g1 := h1.br (k := 101) (v := m1.1 70 46) (by omega) (by omega) (by omega) (by omega)
    have SS := g1.2.2.j (j := 40) (v := m1.1 70 40 + 1) (by decide)
    refine v_X12_term_70_24 ⟨by omega, hQ _ ⟨?_, h1.2.1, SS⟩ (show tt m ≤ tt m1 from htt) (show flt m1 = 0 → flt m = 0 from hff) (fun q => ?_)⟩
    rotate_left
    · obtain ⟨l1, l2, l3, l4⟩ := hLL q
      have ebb := d_cl (x := m1.1 70 40) (show 0 ≤ brs m1 by omega)
      have ei : (m1.1 70 40).toNatClampNeg = (brs mb).toNat + b := by omega
      have el : (p ++ [cE K V r.2]).length = p.length + 1 := by rw [List.length_append]; rfl
      rw [ei]
      have lq := l2.st (k := 101) (v := m1.1 70 46) (by omega) rfl
      refine ⟨by show (m1.1 70 40 + 1).toInt = _; omega, lq.on rfl (fun k i a1 a2 a3 => by rw [dSet_k (by omega)]) (by rw [dSet_k (by omega)]) (by rw [dSet_k (by omega)]), l3.on (by rw [dSet_k (by omega), dSet_k (by omega)]), ?_, fun k a1 a2 => by rw [dSet_k (by omega), dSet_k (by omega)]; exact l4 k a1 a2⟩
      have mk : Mk mb (dSet m1 101 ((brs mb).toNat + b) (m1.1 70 46)) 101 b (p ++ [cE K V r.2]) (p.length + 1) := Mk.now el l2.1
      exact mk.on (by rw [dSet_k (by omega)])
    have eb2 : ((m1.1 70 40).toNatClampNeg : Int) = brs m1 := d_cl (show 0 ≤ brs m1 by omega)
    generalize hM : dSet m1 101 (m1.1 70 40).toNatClampNeg (m1.1 70 46) = M at g1 SS ⊢
    have e40 : M.1 70 40 = m1.1 70 40 := by rw [← hM]; rfl
    obtain ⟨⟨⟨h1, h2, h3, h4, h5⟩, t2, t3, t4, t5, t6⟩, -⟩ := g1
    have bM : brs M = brs m1 := by unfold brs; rw [e40]
    have c1 : cds (dSet M 70 40 (m1.1 70 40 + 1)) = cds M := rfl
    have f1 : flt (dSet M 70 40 (m1.1 70 40 + 1)) = flt M := rfl
    have q1 : tt (dSet M 70 40 (m1.1 70 40 + 1)) = tt M := rfl
    have o1 : opn (dSet M 70 40 (m1.1 70 40 + 1)) = opn M := rfl
    have b1 : brs (dSet M 70 40 (m1.1 70 40 + 1)) = brs m1 + 1 := fb
    refine ⟨⟨fun k a1 a2 => by rw [dSet_k a1]; exact h1 k a1 a2, fun j a1 a2 a3 a4 a5 a6 a7 a8 a9 => by rw [dSet_j a7]; exact h2 j a1 a2 a3 a4 a5 a6 a7 a8 a9, fun k j a1 a2 a3 => by rw [dSet_k (by omega)]; exact h3 k j a1 a2 a3, fun j a1 => h4 j a1, h5⟩, by omega, by omega, by omega, by omega, fun h0 => ?_⟩
    have t6 := t6 (by omega)
    exact ⟨t6.1, by omega, by omega, by omega⟩
  have eb0 : (m.1 70 40).toInt = brs m := rfl
  have g1 := h.br (k := 100) (v := m.1 70 46) (by omega) (by omega) (by omega) (by omega)
  refine v_X12_term_70 ⟨by omega, fun hf => ?_, fun hf => ?_⟩
  · have hf : flt m ≠ 0 := hf
    have z : r.1 ≠ 0 := fun z => hf (h.2.2.fl.2.mpr z)
    have f1 : flt (dSet m 100 (m.1 70 40).toNatClampNeg (m.1 70 46)) = flt m := rfl
    exact fin _ ⟨⟨g1.1.1, g1.1.2.1, g1.1.2.2.1, g1.1.2.2.2.1, g1.1.2.2.2.2.1, fun q => by exfalso; omega⟩, g1.2.1, by rw [rb_f z]; exact g1.2.2⟩ rfl (Int.le_refl _) (fun q => q) (fun q => absurd q hf)
  · have hf : flt m = 0 := hf
    exact g1.xx hs hcb hv hR hV (fun m1 h1 hb htt hz cX => fin m1 h1 hb htt (fun _ => hf) (fun q => by
      obtain ⟨x1', x2', x3'⟩ := cX q
      obtain ⟨l1, l2, l3⟩ := hL (h.2.2.fl.2.mp hf)
      have ebb := d_cl (x := m.1 70 40) (show 0 ≤ brs m by omega)
      have ei : (m.1 70 40).toNatClampNeg = (brs mb).toNat + b := by omega
      have hb : brs m1 = brs m := hb
      rw [ei] at x1' x2' x3'
      have lq := l2.st (k := 100) (v := m.1 70 46) (by omega) rfl
      have mk : Mk mb (dSet m 100 ((brs mb).toNat + b) (m.1 70 46)) 100 b p p.length := Mk.now rfl l2.1
      refine ⟨by omega, lq.ex l3 (by omega) x1' x2' x3', (mk.on (by rw [x1'.1 100 (by omega) (by omega) (by omega) (by omega)])).ap (Nat.le_refl _), fun k a1 a2 => by rw [x1'.1 k (by omega) (by omega) (by omega) (by omega), dSet_k (by omega)]⟩))
theorem xl_main {x1 x2 : Int32} {Q : dM → Prop} (hs : s ≤ 1) (hcb : 420 * (s : Int) ≤ cds mb) (hbb : 130 * (s : Int) ≤ brs mb) (hx1 : 0 ≤ x1.toInt ∧ x1.toInt ≤ 3) (hsd : (mb.1 70 19).toInt = s) (hv : ∀ i, vk (K i)) (hR : RM K V P mb) (hV : ∀ n : Nat, K n = 23 → 0 ≤ (V n).toInt32.toInt ∧ (V n).toInt32.toInt ≤ 9999)
    (hQ1 : ∀ m', LY K P mb s 0 101 m' T W → 0 < flt m' → Q m') (hQ2 : ∀ m', LY K P mb s 0 101 m' T W → flt m' = 0 → LZ mb m' PX → Q (dSet (dSet m' 95 (((4 : Int32) * (m'.1 70 19)) + x1).toNatClampNeg x2) 96 (((4 : Int32) * (m'.1 70 19)) + x1).toNatClampNeg (m'.1 70 40))) : ∀ n : Nat,
    (∀ (x3 : Int32) (b : Nat) (m : dM) (r : gR) (p : List lC), LY K P mb s 2 100 m r W → x3.toInt = b → b ≤ 4 → rb r (gIf K (4 - b)) = T → (r.1 = 0 → brs m = brs mb + (b : Int) ∧ LQw mb m b p ∧ p.length = 3 * b ∧ p ++ lIf K V (4 - b) r.2 = PX) → mu m 6 1 n → j_X12_tellLaw_70_12 6 x1 x2 x3 m Q) ∧
    (∀ (x3 : Int32) (b : Nat) (m : dM) (r : gR) (p : List lC), LY K P mb s 2 99 m r W → x3.toInt = b → b ≤ 4 → rb r (gIf K (4 - b)) = T → (r.1 = 0 → brs m = brs mb + (b : Int) ∧ LQw mb m b p ∧ p.length = 3 * b ∧ p ++ lIf K V (4 - b) r.2 = PX) → (r.1 = 0 → b ≤ 3 ∧ K r.2 = 10) → mu m 5 0 n → j_X12_tellLaw_70_38 6 x1 x2 x3 m Q) ∧
    (∀ (x3 : Int32) (b : Nat) (m : dM) (r : gR) (b0 : Nat) (p : List lC), LY K P mb s 6 99 m r W → x3.toInt = b → b ≤ 4 → rb r (fun n => rb (gnd K 11 n) (fun n => rb (gE K n) (fun n => rb (gnd K 12 n) (gIf K (4 - b))))) = T → (r.1 = 0 → b = b0 + 1 ∧ brs m = brs mb + (b0 : Int) ∧ LQw mb m b0 p ∧ p.length = 3 * b0 + 2 ∧ (m.1 97 ((brs mb).toNat + b0)).toInt ≠ 0 ∧ Mk mb m 98 b0 p (3 * b0) ∧ Mk mb m 99 b0 p (3 * b0 + 1) ∧ p ++ (cE K V (r.2 + 1) :: lIf K V (4 - b) ((gE K (r.2 + 1)).2 + 1)) = PX) → mu m 7 2 n → j_X12_tellLaw_70_110 6 x1 x2 x3 m Q) := by
  have last : ∀ (m : dM) (r : gR) (b : Nat) (p : List lC), LY K P mb s 2 100 m r W → rb (rb r (gE K)) (gnd K 59) = T → (r.1 = 0 → brs m = brs mb + (b : Int) ∧ LQw mb m b p ∧ p.length = 3 * b ∧ p ++ [cE K V r.2] = PX) → j_X12_tellLaw_70_129 6 x1 x2 m Q := by
    intro m r b p h hT hL
    have hb5 := h.1.2.2.2.2.1
    have eb0 : (m.1 70 40).toInt = brs m := rfl
    have g := h.br (k := 97) (v := (0 : Int32)) (by omega) (by omega) (by omega) (by omega)
    refine v_X12_tellLaw_70_129 ⟨by omega, ?_⟩
    have ei : r.1 = 0 → (m.1 70 40).toNatClampNeg = (brs mb).toNat + b := fun z => by
      obtain ⟨l1, _⟩ := hL z
      have ebb := d_cl (x := m.1 70 40) (show 0 ≤ brs m by omega)
      omega
    refine g.tx (b := b) (p := p) hs hcb hbb (by omega) hv hR hV (fun z => ?_) (fun m1 h1 _ hz1 cX => ?_)
    · obtain ⟨l1, l2, l3, l4⟩ := hL z
      exact ⟨l1, by rw [ei z]; exact l2.st (by omega) rfl, by omega⟩
    refine Wp.deep (h1.must (k := 59) hv hR (by decide) (by unfold vk; omega) (by decide) (fun m2 hm2 h2 => ?_)) (Nat.le_of_ble_eq_true rfl)
    rw [hT] at h2
    have g2 : LY K P mb s 0 101 m2 T W := h2.weak (by decide) (by decide)
    have e19 : (m2.1 70 19).toInt = s := by rw [g2.1.1.2.1 19 (by decide) (by decide) (by decide) (by decide) (by decide) (by decide) (by decide) (by decide) (by decide)]; exact hsd
    have fm := dMulE (X := 4) (Y := (s : Int)) (x := (4 : Int32)) (y := m2.1 70 19) (by decide) e19 (by omega) (by omega)
    have fa := dAddE (X := 4 * (s : Int)) (Y := x1.toInt) (x := (4 : Int32) * m2.1 70 19) (y := x1) fm rfl (by omega) (by omega)
    have f2 : flt m2 ≤ 0 → flt m2 = 0 := fun hc => by
      have := g2.1.2.2.2.1
      omega
    refine ⟨fun hc => ⟨by omega, ⟨by omega, hQ2 m2 g2 (f2 hc) ?_⟩⟩, fun hc => hQ1 m2 g2 hc⟩
    have f1 : flt m1 = 0 := by
      have := f2 hc
      rcases hm2.2.2.2.1 with q | q <;> omega
    have z : r.1 = 0 := h.2.2.fl.2.mp (hz1 f1)
    obtain ⟨l1, l2, l3, l4⟩ := hL z
    obtain ⟨y1, y2, y3, y4, y5⟩ := cX f1
    rw [l4] at y2 y3 y4
    rw [l3] at y3 y4
    have k1 : ∀ k : Nat, k ≠ 70 → m2.1 k = m1.1 k := hm2.1
    refine ⟨b, by rw [← l4, List.length_append, l3]; rfl, ?_, y2.mv hm2, ?_, y3.on (by rw [k1 100 (by omega)]), y4.on (by rw [k1 101 (by omega)])⟩
    · unfold brs at y1 ⊢
      rw [hm2.2.1 40 (by decide) (by decide) (by decide) (by decide) (by decide)]
      exact y1
    · rw [k1 97 (by omega), y5 97 (by omega) (by omega), ei z, dSet_s]
      decide
  have gIf_n : ∀ (b n : Nat), K n ≠ 10 → gIf K b n = rb (gE K n) (gnd K 59) := fun b n hn => by
    cases b with
    | zero => show (if K n = 10 then _ else _) = _; rw [if_neg hn]
    | succ b => show (if K n = 10 then _ else _) = _; rw [if_neg hn]
  intro n
  induction n with
  | zero =>
    refine ⟨fun x3 b m r p h h3 hb hT hL hμ => ?_, fun x3 b m r p h h3 hb hT hL h4 hμ => ?_, fun x3 b m r b0 p h h3 hb hT hL hμ => ?_⟩ <;> (have := h.1.2.1; exfalso; rcases hμ with q | q <;> omega)
  | succ n ih =>
    refine ⟨fun x3 b m r p h h3 hb hT hL hμ => ?_, fun x3 b m r p h h3 hb hT hL h4 hμ => ?_, fun x3 b m r b0 p h h3 hb hT hL hμ => ?_⟩
    · have hfl := h.2.2.fl
      have hl : (r.1 = 0 → K r.2 ≠ 10) → rb (rb r (gE K)) (gnd K 59) = T := fun hn => by
        rw [rb_as, ← hT]
        by_cases z : r.1 = 0
        · rw [rb_k z, rb_k z, gIf_n _ _ (hn z)]
        · rw [rb_f z, rb_f z]
      have hl2 : (r.1 = 0 → K r.2 ≠ 10) → (r.1 = 0 → brs m = brs mb + (b : Int) ∧ LQw mb m b p ∧ p.length = 3 * b ∧ p ++ [cE K V r.2] = PX) := fun hn z => by
        obtain ⟨l1, l2, l3, l4⟩ := hL z
        rw [lIf_n (hn z)] at l4
        exact ⟨l1, l2, l3, l4⟩
      refine v_X12_tellLaw_70_12 ⟨fun q => last m r b p h (hl (fun z => absurd (hfl.2.mpr z) q)) (hl2 (fun z => absurd (hfl.2.mpr z) q)), fun h0 => ?_⟩
      have h0 : flt m = 0 := h0
      have h6 := h.1.2.2.2.2.2 h0
      have hb5 := h.1.2.2.2.2.1
      have h' : LY K P mb s 2 99 m r W := ⟨⟨h.1.1, h.1.2.1, h.1.2.2.1, h.1.2.2.2.1, by have := h.1.2.1; omega, h.1.2.2.2.2.2⟩, h.2⟩
      refine Wp.deep (q_is (k := 10) hv (h.rm hR) h.2.2 (by decide) (by unfold vk; omega) (fun z hk => ⟨fun q => absurd q (by decide), fun _ => ⟨fun hne => ?_, fun he => ?_⟩⟩) (fun h1 => ⟨fun _ => last m r b p h (hl (fun z hk => h1 ⟨z, hk⟩)) (hl2 (fun z hk => h1 ⟨z, hk⟩)), fun q => absurd rfl q⟩)) (Nat.le_of_ble_eq_true rfl)
      · have e4 : (4 : Int32).toInt = 4 := by decide
        refine ih.2.1 x3 b m r p h' h3 hb hT hL (fun _ => ⟨by omega, hk⟩) ?_
        left
        rcases hμ with q | q <;> omega
      · have e4 : (4 : Int32).toInt = 4 := by decide
        have b4 : b = 4 := by omega
        refine Wp.deep (r_fail (h.rm hR) h.2.2 (c := 2) (by decide) (by decide) (fun m2 h2 g2 S2 => ?_)) (Nat.le_of_ble_eq_true rfl)
        rw [if_pos z] at S2
        have f2 := S2.fl
        have hf2 : flt m2 ≠ 0 := fun q => absurd (f2.2.mp q) (Nat.succ_ne_zero 1)
        refine ih.2.1 x3 b m2 (2, r.2) p ((h'.mv h2 (by decide) g2 S2).weak (by decide) (by decide)) h3 hb ?_ (fun q => absurd q (Nat.succ_ne_zero 1)) (fun q => absurd q (Nat.succ_ne_zero 1)) ?_
        · rw [← hT, rb_k z, b4, rb_2]
          show _ = (if K r.2 = 10 then _ else _)
          rw [if_pos hk]
        · right
          have := h.1.2.1
          rcases hμ with q | q <;> omega
    · have hfl := h.2.2.fl
      have bd : 0 < flt m → LY K P mb s 0 101 m T W := fun hc => by
        have z : r.1 ≠ 0 := fun z => by have := hfl.2.mpr z; omega
        rw [rb_f z] at hT
        rw [← hT]
        exact ⟨(LSz.bad h.1 hc).weak (Int.le_refl _) (by decide), h.2⟩
      refine v_X12_tellLaw_70_38 ⟨fun hc => ?_, fun hc => hQ1 m (bd hc) hc⟩
      have h0 : flt m = 0 := by
        have hc : flt m ≤ 0 := hc
        have := h.1.2.2.2.1
        omega
      have z := hfl.2.mp h0
      obtain ⟨h34, hk10⟩ := h4 z
      have f3 := dAddE (X := x3.toInt) (Y := 1) (x := x3) (y := (1 : Int32)) rfl (by decide) (by omega) (by omega)
      have hT' : rb (rb (rb (rb (rb r gst) (gE K)) (gnd K 60)) (gE K)) (fun n => rb (gnd K 11 n) (fun n => rb (gE K n) (fun n => rb (gnd K 12 n) (gIf K (4 - (b + 1)))))) = T := by
        rw [rb_as, rb_as, rb_as, rb_as, ← hT, rb_k z, rb_k z, show 4 - b = (4 - (b + 1)) + 1 by omega]
        show _ = (if K r.2 = 10 then _ else _)
        rw [if_pos hk10]
      refine Wp.deep (r_goesOn (h.rm hR) h.2.2 (fun _ => by omega) (fun m1 h1 gg1 S1 => ?_)) (Nat.le_of_ble_eq_true rfl)
      have k41 := h1.2.2.2.1
      have g1 : LY K P mb s 3 99 m1 (rb r gst) W := h.mv h1 (by decide) gg1 S1
      have hb5 := g1.1.2.2.2.2.1
      have eb0 : (m1.1 70 40).toInt = brs m1 := rfl
      refine ⟨by omega, ⟨by omega, ?_⟩⟩
      have g2 : LY K P mb s 3 99 (dSet (dSet m1 97 (m1.1 70 40).toNatClampNeg (1 : Int32)) 98 (m1.1 70 40).toNatClampNeg (m1.1 70 46)) (rb r gst) W :=
        (g1.br (k := 97) (v := (1 : Int32)) (by omega) (by omega) (by omega) (by omega)).br (k := 98) (v := m1.1 70 46) (by omega) (by omega) (by omega) (by omega)
      obtain ⟨l1, l2, l3, l4⟩ := hL z
      have k1 : ∀ k : Nat, k ≠ 70 → m1.1 k = m.1 k := h1.1
      have e40 : m1.1 70 40 = m.1 70 40 := h1.2.1 40 (by decide) (by decide) (by decide) (by decide) (by decide)
      have ei : (m1.1 70 40).toNatClampNeg = (brs mb).toNat + b := by
        have ebb := d_cl (x := m1.1 70 40) (show 0 ≤ brs m1 by omega)
        have : brs m1 = brs m := by unfold brs; rw [e40]
        omega
      have cm1 : cds m1 = cds m := by unfold cds; rw [h1.2.1 46 (by decide) (by decide) (by decide) (by decide) (by decide)]
      refine Wp.deep (g2.xx hs hcb hv hR hV (fun m2 g3 hb ht2 hz cX => ?_)) (Nat.le_of_ble_eq_true rfl)
      have hb' : brs m2 = brs m1 := hb
      refine Wp.deep (g3.must (k := 60) hv hR (by decide) (by unfold vk; omega) (by decide) (fun m3 h3' g4 => ?_)) (Nat.le_of_ble_eq_true rfl)
      have hb6 := g4.1.2.2.2.2.1
      have w3 : (m3.1 70 40).toInt = brs m3 := rfl
      refine ⟨by omega, ?_⟩
      have g5 := g4.br (k := 99) (v := m3.1 70 46) (by omega) (by omega) (by omega) (by omega)
      have k43 := h3'.2.2.2.1
      refine ⟨fun hf => ?_, fun hf => ?_⟩
      · have hf : flt m3 ≠ 0 := hf
        have w4 : flt (dSet m3 99 (m3.1 70 40).toNatClampNeg (m3.1 70 46)) = flt m3 := rfl
        have := g4.1.2.2.2.1
        have z3 : (rb (rb (rb r gst) (gE K)) (gnd K 60)).1 ≠ 0 := fun q => hf (g4.2.2.fl.2.mpr q)
        rw [rb_f z3] at hT'
        refine ih.2.2 _ (b + 1) _ _ b p ⟨LSz.bad g5.1 (by omega), g5.2⟩ (by omega) (by omega) hT' (fun q => absurd q z3) ?_
        right
        have := h.1.2.1
        rcases hμ with q | q <;> omega
      · have hf : flt m3 = 0 := hf
        have f2 : flt m2 = 0 := by rcases k43 with q | q <;> omega
        have z2 : (rb (rb r gst) (gE K)).1 = 0 := g3.2.2.fl.2.mp f2
        obtain ⟨z1, zz1⟩ := rb_z z2
        obtain ⟨y1, y2, y3⟩ := rb_g z1
        obtain ⟨x1', x2', x3'⟩ := cX f2
        rw [y2] at x2' x3'
        rw [ei] at x1' x2' x3'
        have zk : (rb (rb (rb r gst) (gE K)) (gnd K 60)).1 = 0 := g4.2.2.fl.2.mp hf
        have rz : rb (rb (rb r gst) (gE K)) (gnd K 60) = (0, (gE K (r.2 + 1)).2 + 1) := by
          rw [zz1, y2] at zk ⊢
          exact (gEnd_z zk).2.1
        have lA : LQw mb (dSet (dSet m1 97 ((brs mb).toNat + b) (1 : Int32)) 98 ((brs mb).toNat + b) (m1.1 70 46)) b p := ((l2.mv h1).st (by omega) rfl).st (by omega) rfl
        have mA : Mk mb (dSet (dSet m1 97 ((brs mb).toNat + b) (1 : Int32)) 98 ((brs mb).toNat + b) (m1.1 70 46)) 98 b p (3 * b) := Mk.now l3 (by show cds m1 = _; rw [cm1]; exact l2.1)
        have nA : ((dSet (dSet m1 97 ((brs mb).toNat + b) (1 : Int32)) 98 ((brs mb).toNat + b) (m1.1 70 46)).1 97 ((brs mb).toNat + b)).toInt ≠ 0 := by rw [dSet_k (by omega), dSet_s]; decide
        have lB : LQw mb m2 b (p ++ [cE K V (r.2 + 1)]) := lA.ex (by omega) (by omega) x1' x2' x3'
        have xe : ∀ k : Nat, 97 ≤ k → k ≤ 101 → m2.1 k = (dSet (dSet m1 97 ((brs mb).toNat + b) (1 : Int32)) 98 ((brs mb).toNat + b) (m1.1 70 46)).1 k := fun k q1 q2 => x1'.1 k (by omega) (by omega) (by omega) (by omega)
        have mB : Mk mb m2 98 b (p ++ [cE K V (r.2 + 1)]) (3 * b) := (mA.on (by rw [xe 98 (by omega) (by omega)])).ap (by omega)
        have nB : (m2.1 97 ((brs mb).toNat + b)).toInt ≠ 0 := by rw [xe 97 (by omega) (by omega)]; exact nA
        have c3 : cds m3 = cds m2 := by unfold cds; rw [h3'.2.1 46 (by decide) (by decide) (by decide) (by decide) (by decide)]
        have e40' : brs m3 = brs m2 := by unfold brs; rw [h3'.2.1 40 (by decide) (by decide) (by decide) (by decide) (by decide)]
        have e40'' : brs m1 = brs m := by unfold brs; rw [e40]
        have ei3 : (m3.1 70 40).toNatClampNeg = (brs mb).toNat + b := by
          have ebb := d_cl (x := m3.1 70 40) (show 0 ≤ brs m3 by omega)
          omega
        have ll : (p ++ [cE K V (r.2 + 1)]).length = 3 * b + 1 := by rw [List.length_append, l3]; rfl
        have lC' : LQw mb (dSet m3 99 ((brs mb).toNat + b) (m3.1 70 46)) b (p ++ [cE K V (r.2 + 1)]) := (lB.mv h3').st (by omega) rfl
        have mC : Mk mb (dSet m3 99 ((brs mb).toNat + b) (m3.1 70 46)) 98 b (p ++ [cE K V (r.2 + 1)]) (3 * b) := (mB.on (by rw [h3'.1 98 (by omega)])).on (by rw [dSet_k (by omega)])
        have mD : Mk mb (dSet m3 99 ((brs mb).toNat + b) (m3.1 70 46)) 99 b (p ++ [cE K V (r.2 + 1)]) (3 * b + 1) := Mk.now ll (by show cds m3 = _; rw [c3]; exact lB.1)
        have nC : ((dSet m3 99 ((brs mb).toNat + b) (m3.1 70 46)).1 97 ((brs mb).toNat + b)).toInt ≠ 0 := by rw [dSet_k (by omega), h3'.1 97 (by omega)]; exact nB
        have l4' : p ++ [cE K V (r.2 + 1)] ++ [cE K V ((gE K (r.2 + 1)).2 + 1)] ++ (cE K V ((gE K ((gE K (r.2 + 1)).2 + 1)).2 + 1) :: lIf K V (4 - (b + 1)) ((gE K ((gE K ((gE K (r.2 + 1)).2 + 1)).2 + 1)).2 + 1)) = PX := by
          rw [← l4, show 4 - b = (4 - (b + 1)) + 1 by omega, lIf_y hk10]
          simp only [List.append_assoc, List.cons_append, List.nil_append]
        refine Wp.deep (g5.xx hs hcb hv hR hV (fun m4 g6 hb4 ht4 hz4 cX4 => ?_)) (Nat.le_of_ble_eq_true rfl)
        refine ih.2.2 _ (b + 1) _ _ b (p ++ [cE K V (r.2 + 1)] ++ [cE K V ((gE K (r.2 + 1)).2 + 1)]) g6 (by omega) (by omega) hT' (fun z4 => ?_) ?_
        · have f4 : flt m4 = 0 := g6.2.2.fl.2.mpr z4
          obtain ⟨v1, v2, v3⟩ := cX4 f4
          rw [ei3] at v1 v2 v3
          rw [rz] at v2 v3 z4 ⊢
          have ve : ∀ k : Nat, 97 ≤ k → k ≤ 101 → m4.1 k = (dSet m3 99 ((brs mb).toNat + b) (m3.1 70 46)).1 k := fun k q1 q2 => v1.1 k (by omega) (by omega) (by omega) (by omega)
          have hb4 : brs m4 = brs m3 := hb4
          refine ⟨rfl, by omega, lC'.ex (by omega) (by omega) v1 v2 v3, by rw [List.length_append, ll]; rfl, by rw [ve 97 (by omega) (by omega)]; exact nC, (mC.on (by rw [ve 98 (by omega) (by omega)])).ap (by omega), (mD.on (by rw [ve 99 (by omega) (by omega)])).ap (by omega), l4'⟩
        have t4 := g6.1.2.1
        have s4 := g6.1.2.2.2.1
        have a1 : tt m1 ≤ tt m2 := ht2
        have a2 : tt m3 ≤ tt m4 := ht4
        have a3 := h.1.2.1
        unfold mu
        by_cases q0 : flt m4 = 0
        · left
          rcases k43 with y | y <;> rcases hμ with q | q <;> rcases k41 with z | z <;> omega
        · right
          rcases hμ with q | q <;> omega
    · refine v_X12_tellLaw_70_110 ?_
      refine Wp.deep (h.must (k := 11) hv hR (by decide) (by unfold vk; omega) (by decide) (fun m1 h1 g1 => ?_)) (Nat.le_of_ble_eq_true rfl)
      have k41 := h1.2.2.2.1
      have kk : (rb r (gnd K 11)).1 = 0 → r.1 = 0 ∧ (rb r (gnd K 11)).2 = r.2 + 1 := fun q => by
        obtain ⟨q1, q2⟩ := rb_z q
        rw [q2] at q ⊢
        obtain ⟨k1, k2, k3⟩ := gnd_z rfl q
        rw [k1]
        exact ⟨q1, rfl⟩
      refine g1.tx (b := b0) (p := p) hs hcb hbb (by omega) hv hR hV (fun z => ?_) (fun m2 g2 a1 a2 cX => ?_)
      · obtain ⟨l0, l1, l2, l3, -⟩ := hL (kk z).1
        refine ⟨?_, l2.mv h1, by omega⟩
        unfold brs at l1 ⊢
        rw [h1.2.1 40 (by decide) (by decide) (by decide) (by decide) (by decide)]
        exact l1
      refine Wp.deep (g2.must (k := 12) hv hR (by decide) (by unfold vk; omega) (by decide) (fun m3 h3' g3 => ?_)) (Nat.le_of_ble_eq_true rfl)
      refine ih.1 x3 b m3 _ (p ++ [cE K V (r.2 + 1)]) (g3.weak (by decide) (by decide)) h3 hb (by rw [rb_as, rb_as, rb_as]; exact hT) (fun z3 => ?_) ?_
      · have f3 : flt m3 = 0 := g3.2.2.fl.2.mpr z3
        have f2 : flt m2 = 0 := by rcases h3'.2.2.2.1 with q | q <;> omega
        have z1 : (rb r (gnd K 11)).1 = 0 := g1.2.2.fl.2.mp (a2 f2)
        obtain ⟨z0, e1⟩ := kk z1
        obtain ⟨l0, l1, l2, l3, l4, l5, l6, l7⟩ := hL z0
        obtain ⟨y1, y2, y3, y4, y5⟩ := cX f2
        rw [e1] at y2 y3 y4
        subst l0
        have er : rb (rb (rb r (gnd K 11)) (gE K)) (gnd K 12) = (0, (gE K (r.2 + 1)).2 + 1) := by
          rw [rb_k (k := gE K) z1, e1] at z3 ⊢
          exact (gEnd_z z3).2.1
        have kx : ∀ k : Nat, 97 ≤ k → k ≤ 99 → m2.1 k ((brs mb).toNat + b0) = m.1 k ((brs mb).toNat + b0) := fun k q1 q2 => by rw [y5 k q1 q2, h1.1 k (by omega)]
        rw [er]
        rw [l3] at y3 y4
        have e40 : brs m3 = brs m2 := by unfold brs; rw [h3'.2.1 40 (by decide) (by decide) (by decide) (by decide) (by decide)]
        refine ⟨by omega, (y2.up (by rw [kx 97 (by omega) (by omega)]; exact l4) ((l5.on (kx 98 (by omega) (by omega))).ap (by omega)) ((l6.on (kx 99 (by omega) (by omega))).ap (by omega)) y3 y4).mv h3', by rw [List.length_append, l3]; show 3 * b0 + 2 + 1 = _; omega, ?_⟩
        rw [← l7, List.append_assoc]
        rfl
      have k43 := h3'.2.2.2.1
      have a3 := h.1.2.1
      have a4 := g3.1.2.2.2.1
      unfold mu
      by_cases q0 : flt m3 = 0
      · left
        rcases k43 with y | y <;> rcases k41 with z | z <;> rcases hμ with q | q <;> omega
      · right
        rcases hμ with q | q <;> omega
end RLX
