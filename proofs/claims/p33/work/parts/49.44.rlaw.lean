/-! THE REFERENCE's law, exactly -/
theorem rb_as {r : gR} {f g : Nat → gR} : rb (rb r f) g = rb r (fun n => rb (f n) g) := by
  by_cases z : r.1 = 0
  · rw [rb_k z, rb_k z]
  · rw [rb_f z, rb_f z, rb_f z]
section RLW
variable {K : Nat → Int} {V : Nat → Int64} {P : Nat → Nat} {r W : gR}
theorem r_must {x1 : Int32} {k : Int} {m : dM} {Q : dM → Prop} (hv : ∀ i, vk (K i)) (hR : RM K V P m) (h : ST K P m r W) (hx : x1.toInt = rk k) (hk : vk k) (hk2 : k ≠ 24 ∧ k ≠ 25) (hQ : ∀ m' : dM, Mv 1 m m' → m'.2 = m.2 → ST K P m' (rb r (gnd K k)) W → Q m') : c_X12_must_70 3 x1 m Q := by
  refine v_X12_must_70 (Wp.deep (q_is hv hR h hx hk (fun z a => ⟨fun q => absurd q (by decide), fun _ => r_goesOn hR h (fun _ => by rw [a]; exact hk2) (fun m' hc g' h' => v_X12_must_70_20 (hQ m' hc g' ?_))⟩) (fun a => ⟨fun _ => Wp.deep (r_fail hR h (c := 1) (by decide) (by decide) (fun m' hc g' h' => v_X12_must_70_20 (hQ m' ⟨hc.1, hc.2.1, hc.2.2.1, Or.inr ?_, hc.2.2.2.2⟩ g' ?_))) (Nat.le_of_ble_eq_true rfl), fun q => absurd rfl q⟩)) (Nat.le_of_ble_eq_true rfl))
  · rw [rb_k z] at h' ⊢
    unfold gnd
    rw [if_pos a]
    exact h'
  · have hf' := h'.fl
    have : flt m' ≠ 0 := fun e => by
      have := hf'.2.mp e
      by_cases z : r.1 = 0
      · rw [if_pos z] at this; exact absurd this (Nat.succ_ne_zero 0)
      · rw [if_neg z] at this; exact z this
    rcases hc.2.2.2.1 with w | w <;> omega
  · by_cases z : r.1 = 0
    · rw [rb_k z]
      rw [if_pos z] at h'
      unfold gnd
      rw [if_neg (fun q => a ⟨z, q⟩)]
      exact h'
    · rw [rb_f z]
      rw [if_neg z] at h'
      exact h'
variable {mb : dM} {s : Nat} {T : gR}
theorem RM.lf {m : dM} (h : RM K V P mb) (hx : LF mb s m) (h2 : m.2 = mb.2) : RM K V P m := h.of (fun k a b => hx.1 k (by omega) (by omega)) (by rw [h2])
def LSz (mb : dM) (s : Nat) (e : Int) (bm : Int) (m : dM) : Prop := LF mb s m ∧ (0 ≤ tt m ∧ tt m ≤ 400) ∧ tt mb ≤ tt m ∧ 0 ≤ flt m ∧ (brs mb ≤ brs m ∧ brs m ≤ 130 * s + bm) ∧ (flt m = 0 → flt mb = 0 ∧ opn m = 0 ∧ (cds mb ≤ cds m ∧ cds m ≤ 420 * s + tt m) ∧ 4 * (brs m - 130 * s) + e ≤ tt m)
theorem LSz.mv {m m' : dM} {e bm : Int} {k : Int} (h : LSz mb s e bm m) (hm : Mv k m m') (hk : 0 ≤ k) : LSz mb s (e + k) bm m' := by
  obtain ⟨h1, h2, h3, h4, h5, h6⟩ := h
  have hm' := hm
  obtain ⟨k1, k2, k3, k4, k5⟩ := hm
  have b1 : brs m' = brs m := by unfold brs; rw [k2 40 (by decide) (by decide) (by decide) (by decide) (by decide)]
  have c1 : cds m' = cds m := by unfold cds; rw [k2 46 (by decide) (by decide) (by decide) (by decide) (by decide)]
  have o1 : opn m' = opn m := by unfold opn; rw [k2 12 (by decide) (by decide) (by decide) (by decide) (by decide)]
  refine ⟨h1.mv hm', k3, by rcases k4 with q | q <;> omega, by rcases k4 with q | q <;> omega, by omega, fun h0 => ?_⟩
  have z : flt m = 0 ∧ tt m' = tt m + k := by rcases k4 with q | q <;> omega
  have h6 := h6 z.1
  exact ⟨h6.1, by omega, by omega, by omega⟩
theorem LSz.br {m : dM} {k : Nat} {e bm : Int} {v : Int32} (h : LSz mb s e bm m) (hk : 97 ≤ k) (hk2 : k ≤ 101) (hb0 : 0 ≤ brs mb) (hb2 : bm < 130) : LSz mb s e bm (dSet m k (m.1 70 40).toNatClampNeg v) := by
  obtain ⟨h1, h2, h3, h4, h5, h6⟩ := h
  obtain ⟨e1, e2, e3, e4, e5⟩ := brs_set (m := m) (j := (m.1 70 40).toNatClampNeg) (v := v) (show k ≠ 70 by omega)
  refine ⟨h1.br hk hk2 h5.1 (by omega) (by omega), by omega, by omega, by omega, by omega, fun h0 => ?_⟩
  have h6 := h6 (by omega)
  exact ⟨h6.1, by omega, by omega, by omega⟩
theorem LSz.weak {m : dM} {e e' bm bm' : Int} (h : LSz mb s e bm m) (he : e' ≤ e) (hb : bm ≤ bm') : LSz mb s e' bm' m := by
  obtain ⟨h1, h2, h3, h4, h5, h6⟩ := h
  refine ⟨h1, h2, h3, h4, by omega, fun h0 => ?_⟩
  have h6 := h6 h0
  exact ⟨h6.1, h6.2.1, h6.2.2.1, by omega⟩
theorem LSz.bad {m : dM} {e e' bm : Int} (h : LSz mb s e bm m) (hf : 0 < flt m) : LSz mb s e' bm m := by
  obtain ⟨h1, h2, h3, h4, h5, h6⟩ := h
  exact ⟨h1, h2, h3, h4, h5, fun h0 => by exfalso; omega⟩
def LY (K : Nat → Int) (P : Nat → Nat) (mb : dM) (s : Nat) (e bm : Int) (m : dM) (r W : gR) : Prop := LSz mb s e bm m ∧ m.2 = mb.2 ∧ ST K P m r W
/-- an expression told within a law -/
theorem LY.ex {m : dM} {e bm : Int} {Q : dM → Prop} (hs : s ≤ 1) (hcb : 420 * (s : Int) ≤ cds mb) (hv : ∀ i, vk (K i)) (hR : RM K V P mb) (h : LY K P mb s e bm m r W) (hQ : ∀ m', LY K P mb s (e + 1) bm m' (rb r (gE K)) W → brs m' = brs m → tt m ≤ tt m' → (flt m' = 0 → flt m = 0) → Q m') : c_X12_expression_70 4 m Q := by
  obtain ⟨h, g2, hS⟩ := h
  by_cases z : r.1 = 0
  · have h0 : flt m = 0 := hS.fl.2.mpr z
    have h6 := h.2.2.2.2.2 h0
    have er : r = (0, r.2) := by rw [← z]
    have hS' : ST K P m (0, r.2) W := by rw [← er]; exact hS
    refine r_expression hs hv (hR.lf h.1 g2) hS' h6.2.1 ⟨by omega, h6.2.2.1.2⟩ (fun m' hq g' S' => ?_)
    obtain ⟨⟨x, z2, z3, z4, z5, z6⟩, hz⟩ := hq
    have b1 : brs m' = brs m := by unfold brs; rw [x.2.1 40 (by decide) (by decide) (by decide) (by decide) (by decide) (by decide) (by decide) (by decide)]
    refine hQ m' ⟨⟨h.1.xf h6.2.2.1.1 x, z2, by have := h.2.2.1; omega, z4, by have := h.2.2.2.2.1; omega, fun h0' => ?_⟩, g'.trans g2, by rw [rb_k z]; exact S'⟩ b1 z3 (fun _ => h0)
    have hz := hz h0'
    exact ⟨h6.1, hz.1, by omega, by omega⟩
  · have hf : 0 < flt m := by have := h.2.2.2.1; have := hS.fl.2; omega
    refine p_exprBad hf ?_
    have f1 : flt (dSet m 70 50 (0 : Int32)) = flt m := rfl
    obtain ⟨⟨h1, h2, h3, h4, h5⟩, t2, t3, t4, t5, t6⟩ := h
    exact hQ _ ⟨⟨⟨fun k e1 e2 => by rw [dSet_k e1]; exact h1 k e1 e2, fun j e1 e2 e3 e4 e5 e6 e7 e8 e9 => by rw [dSet_j e9]; exact h2 j e1 e2 e3 e4 e5 e6 e7 e8 e9, fun k j e1 e2 e3 => by rw [dSet_k (by omega)]; exact h3 k j e1 e2 e3, fun j e1 => h4 j e1, h5⟩, t2, t3, t4, t5, fun q => by exfalso; omega⟩, g2, by rw [rb_f z]; exact hS.of rfl rfl rfl rfl rfl⟩ rfl (Int.le_refl _) (fun q => by exfalso; omega)
theorem LY.br {m : dM} {k : Nat} {e bm : Int} {v : Int32} (h : LY K P mb s e bm m r W) (hk : 97 ≤ k) (hk2 : k ≤ 101) (hb0 : 0 ≤ brs mb) (hb2 : bm < 130) : LY K P mb s e bm (dSet m k (m.1 70 40).toNatClampNeg v) r W := ⟨h.1.br hk hk2 hb0 hb2, h.2.1, h.2.2.k (by omega)⟩
theorem LY.mv {m m' : dM} {e bm : Int} {k : Int} {r' : gR} (h : LY K P mb s e bm m r W) (hm : Mv k m m') (hk : 0 ≤ k) (h2 : m'.2 = m.2) (hS : ST K P m' r' W) : LY K P mb s (e + k) bm m' r' W := ⟨h.1.mv hm hk, h2.trans h.2.1, hS⟩
theorem LY.rm {m : dM} {e bm : Int} (h : LY K P mb s e bm m r W) (hR : RM K V P mb) : RM K V P m := hR.lf h.1.1 h.2.1
theorem LY.weak {m : dM} {e e' bm bm' : Int} (h : LY K P mb s e bm m r W) (he : e' ≤ e) (hb : bm ≤ bm') : LY K P mb s e' bm' m r W := ⟨h.1.weak he hb, h.2⟩
/-- a term: an expression, and a branch is done -/
theorem LY.term {m : dM} {e bm : Int} {Q : dM → Prop} (hs : s ≤ 1) (hcb : 420 * (s : Int) ≤ cds mb) (hbb : 130 * (s : Int) ≤ brs mb) (hbm : bm ≤ 110) (hv : ∀ i, vk (K i)) (hR : RM K V P mb) (h : LY K P mb s e bm m r W)
    (hQ : ∀ m', LY K P mb s (e - 3) (bm + 1) m' (rb r (gE K)) W → tt m ≤ tt m' → (flt m' = 0 → flt m = 0) → Q m') : c_X12_term_70 5 m Q := by
  have hb5 := h.1.2.2.2.2.1
  have eb : ((m.1 70 40).toNatClampNeg : Int) = brs m := d_cl (show 0 ≤ brs m by omega)
  have fin : ∀ m1 : dM, LY K P mb s (e + 1) bm m1 (rb r (gE K)) W → brs m1 = brs m → tt m ≤ tt m1 → (flt m1 = 0 → flt m = 0) → j_X12_term_70_24 5 m1 Q := by
    intro m1 h1 hb htt hff
    have eb1 : (m1.1 70 40).toInt = brs m1 := rfl
    have fb := dAddE (X := brs m1) (Y := 1) (x := m1.1 70 40) (y := (1 : Int32)) rfl (by decide) (by omega) (by omega)
    have g1 := h1.br (k := 101) (v := m1.1 70 46) (by omega) (by omega) (by omega) (by omega)
    have SS := g1.2.2.j (j := 40) (v := m1.1 70 40 + 1) (by decide)
    refine v_X12_term_70_24 ⟨by omega, hQ _ ⟨?_, h1.2.1, SS⟩ (show tt m ≤ tt m1 from htt) (show flt m1 = 0 → flt m = 0 from hff)⟩
    have eb2 : ((m1.1 70 40).toNatClampNeg : Int) = brs m1 := d_cl (show 0 ≤ brs m1 by omega)
    generalize hM : dSet m1 101 (m1.1 70 40).toNatClampNeg (m1.1 70 46) = M at g1 SS ⊢
    have e40 : M.1 70 40 = m1.1 70 40 := by rw [← hM]; rfl
    obtain ⟨⟨⟨h1, h2, h3, h4, h5⟩, t2, t3, t4, t5, t6⟩, -⟩ := g1
    have bM : brs M = brs m1 := by unfold brs; rw [e40]
    have c1 : cds (dSet M 70 40 (m1.1 70 40 + 1)) = cds M := rfl
    have f1 : flt (dSet M 70 40 (m1.1 70 40 + 1)) = flt M := rfl
    have q1 : tt (dSet M 70 40 (m1.1 70 40 + 1)) = tt M := rfl
    have o1 : opn (dSet M 70 40 (m1.1 70 40 + 1)) = opn M := rfl
    have b1 : brs (dSet M 70 40 (m1.1 70 40 + 1)) = brs m1 + 1 := fb
    refine ⟨⟨fun k a1 a2 => by rw [dSet_k a1]; exact h1 k a1 a2, fun j a1 a2 a3 a4 a5 a6 a7 a8 a9 => by rw [dSet_j a7]; exact h2 j a1 a2 a3 a4 a5 a6 a7 a8 a9, fun k j a1 a2 a3 => by rw [dSet_k (by omega)]; exact h3 k j a1 a2 a3, fun j a1 => h4 j a1, h5⟩, by omega, by omega, by omega, by omega, fun h0 => ?_⟩
    have t6 := t6 (by omega)
    exact ⟨t6.1, by omega, by omega, by omega⟩
  have eb0 : (m.1 70 40).toInt = brs m := rfl
  have g1 := h.br (k := 100) (v := m.1 70 46) (by omega) (by omega) (by omega) (by omega)
  refine v_X12_term_70 ⟨by omega, fun hf => ?_, fun hf => ?_⟩
  · have hf : flt m ≠ 0 := hf
    have z : r.1 ≠ 0 := fun z => hf (h.2.2.fl.2.mpr z)
    have f1 : flt (dSet m 100 (m.1 70 40).toNatClampNeg (m.1 70 46)) = flt m := rfl
    exact fin _ ⟨⟨g1.1.1, g1.1.2.1, g1.1.2.2.1, g1.1.2.2.2.1, g1.1.2.2.2.2.1, fun q => by exfalso; omega⟩, g1.2.1, by rw [rb_f z]; exact g1.2.2⟩ rfl (Int.le_refl _) (fun q => q)
  · have hf : flt m = 0 := hf
    exact g1.ex hs hcb hv hR (fun m1 h1 hb htt hz => fin m1 h1 hb htt (fun _ => hf))
theorem LY.must {x1 : Int32} {k : Int} {m : dM} {e bm : Int} {Q : dM → Prop} (hv : ∀ i, vk (K i)) (hR : RM K V P mb) (h : LY K P mb s e bm m r W) (hx : x1.toInt = rk k) (hk : vk k) (hk2 : k ≠ 24 ∧ k ≠ 25) (hQ : ∀ m' : dM, Mv 1 m m' → LY K P mb s (e + 1) bm m' (rb r (gnd K k)) W → Q m') : c_X12_must_70 3 x1 m Q := r_must hv (h.rm hR) h.2.2 hx hk hk2 (fun m' hm g' S' => hQ m' hm (h.mv hm (by decide) g' S'))
theorem rl_main {x1 x2 : Int32} {Q : dM → Prop} (hs : s ≤ 1) (hcb : 420 * (s : Int) ≤ cds mb) (hbb : 130 * (s : Int) ≤ brs mb) (hx1 : 0 ≤ x1.toInt ∧ x1.toInt ≤ 3) (hsd : (mb.1 70 19).toInt = s) (hv : ∀ i, vk (K i)) (hR : RM K V P mb)
    (hQ1 : ∀ m', LY K P mb s 0 101 m' T W → 0 < flt m' → Q m') (hQ2 : ∀ m', LY K P mb s 0 101 m' T W → flt m' = 0 → Q (dSet (dSet m' 95 (((4 : Int32) * (m'.1 70 19)) + x1).toNatClampNeg x2) 96 (((4 : Int32) * (m'.1 70 19)) + x1).toNatClampNeg (m'.1 70 40))) : ∀ n : Nat,
    (∀ (x3 : Int32) (b : Nat) (m : dM) (r : gR), LY K P mb s 2 100 m r W → x3.toInt = b → b ≤ 4 → rb r (gIf K (4 - b)) = T → mu m 6 1 n → j_X12_tellLaw_70_12 6 x1 x2 x3 m Q) ∧
    (∀ (x3 : Int32) (b : Nat) (m : dM) (r : gR), LY K P mb s 2 99 m r W → x3.toInt = b → b ≤ 4 → rb r (gIf K (4 - b)) = T → (r.1 = 0 → b ≤ 3 ∧ K r.2 = 10) → mu m 5 0 n → j_X12_tellLaw_70_38 6 x1 x2 x3 m Q) ∧
    (∀ (x3 : Int32) (b : Nat) (m : dM) (r : gR), LY K P mb s 6 99 m r W → x3.toInt = b → b ≤ 4 → rb r (fun n => rb (gnd K 11 n) (fun n => rb (gE K n) (fun n => rb (gnd K 12 n) (gIf K (4 - b))))) = T → mu m 7 2 n → j_X12_tellLaw_70_110 6 x1 x2 x3 m Q) := by
  have last : ∀ (m : dM) (r : gR), LY K P mb s 2 100 m r W → rb (rb r (gE K)) (gnd K 59) = T → j_X12_tellLaw_70_129 6 x1 x2 m Q := by
    intro m r h hT
    have hb5 := h.1.2.2.2.2.1
    have eb0 : (m.1 70 40).toInt = brs m := rfl
    have g := h.br (k := 97) (v := (0 : Int32)) (by omega) (by omega) (by omega) (by omega)
    refine v_X12_tellLaw_70_129 ⟨by omega, ?_⟩
    refine g.term hs hcb hbb (by omega) hv hR (fun m1 h1 _ _ => ?_)
    refine Wp.deep (h1.must (k := 59) hv hR (by decide) (by unfold vk; omega) (by decide) (fun m2 hm2 h2 => ?_)) (Nat.le_of_ble_eq_true rfl)
    rw [hT] at h2
    have g2 : LY K P mb s 0 101 m2 T W := h2.weak (by decide) (by decide)
    have e19 : (m2.1 70 19).toInt = s := by rw [g2.1.1.2.1 19 (by decide) (by decide) (by decide) (by decide) (by decide) (by decide) (by decide) (by decide) (by decide)]; exact hsd
    have fm := dMulE (X := 4) (Y := (s : Int)) (x := (4 : Int32)) (y := m2.1 70 19) (by decide) e19 (by omega) (by omega)
    have fa := dAddE (X := 4 * (s : Int)) (Y := x1.toInt) (x := (4 : Int32) * m2.1 70 19) (y := x1) fm rfl (by omega) (by omega)
    refine ⟨fun hc => ⟨by omega, ⟨by omega, hQ2 m2 g2 ?_⟩⟩, fun hc => hQ1 m2 g2 hc⟩
    have hc : flt m2 ≤ 0 := hc
    have := g2.1.2.2.2.1
    omega
  have gIf_n : ∀ (b n : Nat), K n ≠ 10 → gIf K b n = rb (gE K n) (gnd K 59) := fun b n hn => by
    cases b with
    | zero => show (if K n = 10 then _ else _) = _; rw [if_neg hn]
    | succ b => show (if K n = 10 then _ else _) = _; rw [if_neg hn]
  intro n
  induction n with
  | zero =>
    refine ⟨fun x3 b m r h h3 hb hT hμ => ?_, fun x3 b m r h h3 hb hT h4 hμ => ?_, fun x3 b m r h h3 hb hT hμ => ?_⟩ <;> (have := h.1.2.1; exfalso; rcases hμ with q | q <;> omega)
  | succ n ih =>
    refine ⟨fun x3 b m r h h3 hb hT hμ => ?_, fun x3 b m r h h3 hb hT h4 hμ => ?_, fun x3 b m r h h3 hb hT hμ => ?_⟩
    · have hfl := h.2.2.fl
      have hl : (r.1 = 0 → K r.2 ≠ 10) → rb (rb r (gE K)) (gnd K 59) = T := fun hn => by
        rw [rb_as, ← hT]
        by_cases z : r.1 = 0
        · rw [rb_k z, rb_k z, gIf_n _ _ (hn z)]
        · rw [rb_f z, rb_f z]
      refine v_X12_tellLaw_70_12 ⟨fun q => last m r h (hl (fun z => absurd (hfl.2.mpr z) q)), fun h0 => ?_⟩
      have h0 : flt m = 0 := h0
      have h6 := h.1.2.2.2.2.2 h0
      have hb5 := h.1.2.2.2.2.1
      have h' : LY K P mb s 2 99 m r W := ⟨⟨h.1.1, h.1.2.1, h.1.2.2.1, h.1.2.2.2.1, by have := h.1.2.1; omega, h.1.2.2.2.2.2⟩, h.2⟩
      refine Wp.deep (q_is (k := 10) hv (h.rm hR) h.2.2 (by decide) (by unfold vk; omega) (fun z hk => ⟨fun q => absurd q (by decide), fun _ => ⟨fun hne => ?_, fun he => ?_⟩⟩) (fun h1 => ⟨fun _ => last m r h (hl (fun z hk => h1 ⟨z, hk⟩)), fun q => absurd rfl q⟩)) (Nat.le_of_ble_eq_true rfl)
      · have e4 : (4 : Int32).toInt = 4 := by decide
        refine ih.2.1 x3 b m r h' h3 hb hT (fun _ => ⟨by omega, hk⟩) ?_
        left
        rcases hμ with q | q <;> omega
      · have e4 : (4 : Int32).toInt = 4 := by decide
        have b4 : b = 4 := by omega
        refine Wp.deep (r_fail (h.rm hR) h.2.2 (c := 2) (by decide) (by decide) (fun m2 h2 g2 S2 => ?_)) (Nat.le_of_ble_eq_true rfl)
        rw [if_pos z] at S2
        have f2 := S2.fl
        have hf2 : flt m2 ≠ 0 := fun q => absurd (f2.2.mp q) (Nat.succ_ne_zero 1)
        refine ih.2.1 x3 b m2 (2, r.2) ((h'.mv h2 (by decide) g2 S2).weak (by decide) (by decide)) h3 hb ?_ (fun q => absurd q (Nat.succ_ne_zero 1)) ?_
        · rw [← hT, rb_k z, b4, rb_2]
          show _ = (if K r.2 = 10 then _ else _)
          rw [if_pos hk]
        · right
          have := h.1.2.1
          rcases hμ with q | q <;> omega
    · have hfl := h.2.2.fl
      have bd : 0 < flt m → LY K P mb s 0 101 m T W := fun hc => by
        have z : r.1 ≠ 0 := fun z => by have := hfl.2.mpr z; omega
        rw [rb_f z] at hT
        rw [← hT]
        exact ⟨(LSz.bad h.1 hc).weak (Int.le_refl _) (by decide), h.2⟩
      refine v_X12_tellLaw_70_38 ⟨fun hc => ?_, fun hc => hQ1 m (bd hc) hc⟩
      have h0 : flt m = 0 := by
        have hc : flt m ≤ 0 := hc
        have := h.1.2.2.2.1
        omega
      have z := hfl.2.mp h0
      obtain ⟨h34, hk10⟩ := h4 z
      have f3 := dAddE (X := x3.toInt) (Y := 1) (x := x3) (y := (1 : Int32)) rfl (by decide) (by omega) (by omega)
      have hT' : rb (rb (rb (rb (rb r gst) (gE K)) (gnd K 60)) (gE K)) (fun n => rb (gnd K 11 n) (fun n => rb (gE K n) (fun n => rb (gnd K 12 n) (gIf K (4 - (b + 1)))))) = T := by
        rw [rb_as, rb_as, rb_as, rb_as, ← hT, rb_k z, rb_k z, show 4 - b = (4 - (b + 1)) + 1 by omega]
        show _ = (if K r.2 = 10 then _ else _)
        rw [if_pos hk10]
      refine Wp.deep (r_goesOn (h.rm hR) h.2.2 (fun _ => by omega) (fun m1 h1 gg1 S1 => ?_)) (Nat.le_of_ble_eq_true rfl)
      have k41 := h1.2.2.2.1
      have g1 : LY K P mb s 3 99 m1 (rb r gst) W := h.mv h1 (by decide) gg1 S1
      have hb5 := g1.1.2.2.2.2.1
      have eb0 : (m1.1 70 40).toInt = brs m1 := rfl
      refine ⟨by omega, ⟨by omega, ?_⟩⟩
      have g2 : LY K P mb s 3 99 (dSet (dSet m1 97 (m1.1 70 40).toNatClampNeg (1 : Int32)) 98 (m1.1 70 40).toNatClampNeg (m1.1 70 46)) (rb r gst) W :=
        (g1.br (k := 97) (v := (1 : Int32)) (by omega) (by omega) (by omega) (by omega)).br (k := 98) (v := m1.1 70 46) (by omega) (by omega) (by omega) (by omega)
      refine Wp.deep (g2.ex hs hcb hv hR (fun m2 g3 hb ht2 hz => ?_)) (Nat.le_of_ble_eq_true rfl)
      have hb' : brs m2 = brs m1 := hb
      refine Wp.deep (g3.must (k := 60) hv hR (by decide) (by unfold vk; omega) (by decide) (fun m3 h3' g4 => ?_)) (Nat.le_of_ble_eq_true rfl)
      have hb6 := g4.1.2.2.2.2.1
      have w3 : (m3.1 70 40).toInt = brs m3 := rfl
      refine ⟨by omega, ?_⟩
      have g5 := g4.br (k := 99) (v := m3.1 70 46) (by omega) (by omega) (by omega) (by omega)
      have k43 := h3'.2.2.2.1
      refine ⟨fun hf => ?_, fun hf => ?_⟩
      · have hf : flt m3 ≠ 0 := hf
        have w4 : flt (dSet m3 99 (m3.1 70 40).toNatClampNeg (m3.1 70 46)) = flt m3 := rfl
        have := g4.1.2.2.2.1
        have z3 : (rb (rb (rb r gst) (gE K)) (gnd K 60)).1 ≠ 0 := fun q => hf (g4.2.2.fl.2.mpr q)
        rw [rb_f z3] at hT'
        refine ih.2.2 _ (b + 1) _ _ ⟨LSz.bad g5.1 (by omega), g5.2⟩ (by omega) (by omega) hT' ?_
        right
        have := h.1.2.1
        rcases hμ with q | q <;> omega
      · have hf : flt m3 = 0 := hf
        refine Wp.deep (g5.ex hs hcb hv hR (fun m4 g6 hb4 ht4 hz4 => ?_)) (Nat.le_of_ble_eq_true rfl)
        refine ih.2.2 _ (b + 1) _ _ g6 (by omega) (by omega) hT' ?_
        have t4 := g6.1.2.1
        have s4 := g6.1.2.2.2.1
        have a1 : tt m1 ≤ tt m2 := ht2
        have a2 : tt m3 ≤ tt m4 := ht4
        have a3 := h.1.2.1
        unfold mu
        by_cases q0 : flt m4 = 0
        · left
          rcases k43 with y | y <;> rcases hμ with q | q <;> rcases k41 with z | z <;> omega
        · right
          rcases hμ with q | q <;> omega
    · refine v_X12_tellLaw_70_110 ?_
      refine Wp.deep (h.must (k := 11) hv hR (by decide) (by unfold vk; omega) (by decide) (fun m1 h1 g1 => ?_)) (Nat.le_of_ble_eq_true rfl)
      have k41 := h1.2.2.2.1
      refine g1.term hs hcb hbb (by omega) hv hR (fun m2 g2 a1 a2 => ?_)
      refine Wp.deep (g2.must (k := 12) hv hR (by decide) (by unfold vk; omega) (by decide) (fun m3 h3' g3 => ?_)) (Nat.le_of_ble_eq_true rfl)
      refine ih.1 x3 b m3 _ (g3.weak (by decide) (by decide)) h3 hb (by rw [rb_as, rb_as, rb_as]; exact hT) ?_
      have k43 := h3'.2.2.2.1
      have a3 := h.1.2.1
      have a4 := g3.1.2.2.2.1
      unfold mu
      by_cases q0 : flt m3 = 0
      · left
        rcases k43 with y | y <;> rcases k41 with z | z <;> rcases hμ with q | q <;> omega
      · right
        rcases hμ with q | q <;> omega
/-- a law told: what has changed -/
def LX (mb : dM) (s : Nat) (m : dM) : Prop := (∀ k : Nat, k ≠ 70 → k < 95 ∨ 104 < k → m.1 k = mb.1 k) ∧ (∀ j : Nat, j ≠ 11 → j ≠ 12 → j ≠ 13 → j ≠ 14 → j ≠ 15 → j ≠ 16 → j ≠ 40 → j ≠ 46 → j ≠ 50 → m.1 70 j = mb.1 70 j) ∧ m.2 = mb.2 ∧ (flt m = 0 → opn m = 0 ∧ (cds mb ≤ cds m ∧ cds m ≤ 420 * s + tt m) ∧ brs mb ≤ brs m ∧ 4 * (brs m - 130 * s) ≤ tt m)
theorem r_tellLaw {x1 : Int32} {Q : dM → Prop} (hs : s ≤ 1) (hsd : (mb.1 70 19).toInt = s) (hx1 : 0 ≤ x1.toInt ∧ x1.toInt ≤ 3) (hv : ∀ i, vk (K i)) (hR : RM K V P mb) (hS : ST K P mb r W) (hb : 130 * (s : Int) ≤ brs mb ∧ brs mb ≤ 130 * s + 100) (hc : 420 * (s : Int) ≤ cds mb) (hG : r.1 = 0 → opn mb = 0 ∧ cds mb ≤ 420 * s + tt mb ∧ 4 * (brs mb - 130 * s) + 1 ≤ tt mb) (hQ : ∀ m', LX mb s m' → ST K P m' (rb r (fun n => rb (gnd K 61 n) (gIf K 4))) W → Q m') : c_X12_tellLaw_70 6 x1 mb Q := by
  have hfl := hS.fl
  have st0 : LY K P mb s 1 100 mb r W := by
    refine ⟨⟨⟨fun _ _ _ => rfl, fun _ _ _ _ _ _ _ _ _ _ => rfl, fun _ _ _ _ _ => rfl, fun _ _ => ⟨rfl, rfl⟩, Wz.eq rfl⟩, hS.2.2, Int.le_refl _, hfl.1, ⟨Int.le_refl _, hb.2⟩, fun h0 => ?_⟩, rfl, hS⟩
    have g := hG (hfl.2.mp h0)
    exact ⟨h0, g.1, ⟨Int.le_refl _, g.2.1⟩, g.2.2⟩
  refine v_X12_tellLaw_70 ?_
  refine Wp.deep (st0.must (k := 61) hv hR (by decide) (by unfold vk; omega) (by decide) (fun m1 h1 st1 => ?_)) (Nat.le_of_ble_eq_true rfl)
  refine (rl_main (x2 := m1.1 70 40) (T := rb r (fun n => rb (gnd K 61 n) (gIf K 4))) hs hc hb.1 hx1 hsd hv hR (fun m' h' hf' => ?_) (fun m' h' hf' => ?_) 5000).1 (0 : Int32) 0 m1 _ st1 (by decide) (by decide) rb_as ?_
  · exact hQ m' ⟨fun k e1 e2 => h'.1.1.1 k e1 (by omega), h'.1.1.2.1, h'.2.1, fun q => by exfalso; omega⟩ h'.2.2
  · have h6 := h'.1.2.2.2.2.2 hf'
    refine hQ _ ⟨fun k e1 e2 => by rw [dSet_k (by omega), dSet_k (by omega)]; exact h'.1.1.1 k e1 (by omega), h'.1.1.2.1, h'.2.1, fun _ => ⟨h6.2.1, h6.2.2.1, h'.1.2.2.2.2.1.1, ?_⟩⟩ ((h'.2.2.k (by decide)).k (by decide))
    have w := h6.2.2.2
    show 4 * (brs m' - 130 * s) ≤ tt m'
    omega
  · have k4 := h1.2.2.2.1
    unfold mu
    have := h1.2.2.1
    rcases k4 with z | z
    · left; omega
    · right; omega
end RLW
