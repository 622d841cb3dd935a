/-! THE CLASS's laws, as told, 2 -/
section LPO
variable {K : Nat → Int} {V : Nat → Int64}
theorem gEnd_z {e : Int} {n : Nat} (h : (rb (gE K n) (gnd K e)).1 = 0) : (gE K n).1 = 0 ∧ rb (gE K n) (gnd K e) = (0, (gE K n).2 + 1) ∧ (gE K n).2 < 400 := by
  obtain ⟨h1, h2⟩ := rb_z h
  rw [h2] at h ⊢
  obtain ⟨k1, k2, k3⟩ := gnd_z rfl h
  exact ⟨h1, k1, k3⟩
theorem gIf_0 {n : Nat} : gIf K 0 n = if K n = 10 then (2, n) else rb (gE K n) (gnd K 59) := rfl
theorem gIf_s {r n : Nat} : gIf K (r + 1) n = if K n = 10 then rb (gst n) (fun n => rb (rb (gE K n) (gnd K 60)) (fun n => rb (rb (gE K n) (gnd K 11)) (fun n => rb (rb (gE K n) (gnd K 12)) (gIf K r)))) else rb (gE K n) (gnd K 59) := by
  show (if K n = 10 then rb (gst n) (fun n => rb (gE K n) (fun n => rb (gnd K 60 n) (fun n => rb (gE K n) (fun n => rb (gnd K 11 n) (fun n => rb (gE K n) (fun n => rb (gnd K 12 n) (gIf K r))))))) else rb (gE K n) (gnd K 59)) = _
  simp only [rb_as]
theorem lIf_n {r n : Nat} (h : K n ≠ 10) : lIf K V r n = [cE K V n] := by
  cases r with
  | zero => rfl
  | succ r => show (if K n = 10 then _ else [cE K V n]) = _; rw [if_neg h]
theorem lIf_y {r n : Nat} (h : K n = 10) : lIf K V (r + 1) n = cE K V (n + 1) :: cE K V ((gE K (n + 1)).2 + 1) :: cE K V ((gE K ((gE K (n + 1)).2 + 1)).2 + 1) :: lIf K V r ((gE K ((gE K ((gE K (n + 1)).2 + 1)).2 + 1)).2 + 1) := by
  show (if K n = 10 then _ else [cE K V n]) = _
  rw [if_pos h]
/-- a law that is right: its pieces are right, and of the right number -/
theorem lIf_ok (hV : ∀ n : Nat, K n = 23 → 0 ≤ (V n).toInt32.toInt ∧ (V n).toInt32.toInt ≤ 9999) : ∀ (r n : Nat), n ≤ 400 → (gIf K r n).1 = 0 → (∃ q : Nat, q ≤ r ∧ (lIf K V r n).length = 3 * q + 1) ∧ ∀ (i : Nat) (c : lC), (lIf K V r n)[i]? = some c → wfL c 0
  | 0, n, hn, h => by
    rw [gIf_0] at h
    by_cases q : K n = 10
    · rw [if_pos q] at h; exact absurd h (Nat.succ_ne_zero 1)
    · rw [if_neg q] at h
      refine ⟨⟨0, Nat.le_refl _, rfl⟩, fun i c hc => ?_⟩
      match i, hc with
      | 0, hc =>
        have hc : some (cE K V n) = some c := hc
        cases hc
        exact cE_wf hV hn (gEnd_z h).1
      | i + 1, hc => cases hc
  | r + 1, n, hn, h => by
    rw [gIf_s] at h
    by_cases q : K n = 10
    · rw [if_pos q] at h
      obtain ⟨a1, a2⟩ := rb_z h
      rw [a2] at h
      obtain ⟨s1, s2⟩ := gst_z a1
      rw [s1] at h
      have h : (rb (rb (gE K (n + 1)) (gnd K 60)) (fun n => rb (rb (gE K n) (gnd K 11)) (fun n => rb (rb (gE K n) (gnd K 12)) (gIf K r)))).1 = 0 := h
      obtain ⟨b1', b2'⟩ := rb_z h
      rw [b2'] at h
      obtain ⟨c1, c2, c3⟩ := gEnd_z b1'
      rw [c2] at h
      have h : (rb (rb (gE K ((gE K (n + 1)).2 + 1)) (gnd K 11)) (fun n => rb (rb (gE K n) (gnd K 12)) (gIf K r))).1 = 0 := h
      obtain ⟨d1, d2⟩ := rb_z h
      rw [d2] at h
      obtain ⟨e1, e2, e3⟩ := gEnd_z d1
      rw [e2] at h
      have h : (rb (rb (gE K ((gE K ((gE K (n + 1)).2 + 1)).2 + 1)) (gnd K 12)) (gIf K r)).1 = 0 := h
      obtain ⟨f1, f2⟩ := rb_z h
      rw [f2] at h
      obtain ⟨g1, g2, g3⟩ := gEnd_z f1
      rw [g2] at h
      have h : (gIf K r ((gE K ((gE K ((gE K (n + 1)).2 + 1)).2 + 1)).2 + 1)).1 = 0 := h
      obtain ⟨⟨q', q1, q2⟩, w⟩ := lIf_ok hV r _ (by omega) h
      rw [lIf_y q]
      refine ⟨⟨q' + 1, by omega, by rw [List.length_cons, List.length_cons, List.length_cons, q2]; omega⟩, fun i c hc => ?_⟩
      match i, hc with
      | 0, hc =>
        have hc : some (cE K V (n + 1)) = some c := hc
        cases hc
        exact cE_wf hV (by omega) c1
      | 1, hc =>
        have hc : some (cE K V ((gE K (n + 1)).2 + 1)) = some c := hc
        cases hc
        exact cE_wf hV (by omega) e1
      | 2, hc =>
        have hc : some (cE K V ((gE K ((gE K (n + 1)).2 + 1)).2 + 1)) = some c := hc
        cases hc
        exact cE_wf hV (by omega) g1
      | i + 3, hc => exact w i c hc
    · rw [if_neg q] at h
      rw [lIf_n q]
      refine ⟨⟨0, Nat.zero_le _, rfl⟩, fun i c hc => ?_⟩
      match i, hc with
      | 0, hc =>
        have hc : some (cE K V n) = some c := hc
        cases hc
        exact cE_wf hV hn (gEnd_z h).1
      | i + 1, hc => cases hc
end LPO
/-- how a law, from a piece on, came out -/
def LE (m0 : dM) (a k : Nat) (p : List lC) (L : lC) (g : gR) (ps : List lC) (m' : dM) : Prop := g.1 = 0 → LG m' (L ++ ps.flatten) ∧ PRo m' a k (p ++ ps) ∧ FKl k m0 m' ∧ (L ++ ps.flatten).length = a + (p ++ ps).flatten.length ∧ (L ++ ps.flatten).length ≤ 6 + g.2
section CLV
variable {K : Nat → Int} {V : Nat → Int64} {mb : dM}
theorem kk_ifs {x1 : Int32} {k a : Nat} {Q : Int32 → dM → Prop} (hVM : VM K V mb) (hx : x1.toInt = (k : Int)) (hk : k < 4) : ∀ (r i n : Nat) (x2 : Int32) (m : dM) (p : List lC) (L : lC), i + r = 4 → x2.toInt = i → GO K mb m (0, n) → LG m L → PRo m a k p → L.length = a + p.flatten.length → L.length ≤ 6 + n → p.length = 3 * i → (∀ (v : Int32) (m' : dM), GO K mb m' (gIf K r n) → LE m a k p L (gIf K r n) (lIf K V r n) m' → Q v m') → j_X2_checkLaw_43_28 27 x1 x2 m Q := by
  have hK : KM K mb := fun i a b => (hVM i a b).1
  have one : ∀ (p : List lC) (L c : lC), L ++ c = L ++ [c].flatten := fun p L c => by rw [List.flatten_cons, List.flatten_nil, List.append_nil]
  have l122 : ∀ (n : Nat) (m : dM) (p : List lC) (L : lC), GO K mb m (0, n) → LG m L → PRo m a k p → L.length = a + p.flatten.length → L.length ≤ 6 + n → p.length < 13 → (∀ (v : Int32) (m' : dM), GO K mb m' (rb (gE K n) (gnd K 59)) → LE m a k p L (rb (gE K n) (gnd K 59)) [cE K V n] m' → Q v m') → j_X2_checkLaw_43_122 27 x1 m Q := by
    intro n m p L h hL hP hl' h6 hp hQ
    refine v_X2_checkLaw_43_122 (kk_exprPiece (e := 59) hVM h hx hk (by decide) (by decide) hL hP hl' h6 hp (fun r m' h' hr pt => ⟨fun z => v_X2_checkLaw_43_144 (hQ _ _ h' (fun q => absurd q (hr.z z))), fun z => hQ _ _ h' (fun q => ?_)⟩) _ (fun m' h' z => v_X2_checkLaw_43_144 (hQ _ _ h' (fun q => absurd q z))))
    obtain ⟨p1, p2, p3, p4, p5⟩ := pt q
    rw [one p L (cE K V n)] at p1 p4 p5
    exact ⟨p1, p2, p3, p4, p5⟩
  have l114 : ∀ (m m' : dM) (p : List lC) (L : lC) (g : gR) (ps : List lC), GO K mb m' g → g.1 ≠ 0 → (∀ (v : Int32) (m' : dM), GO K mb m' g → LE m a k p L g ps m' → Q v m') → j_X2_checkLaw_43_114 27 m' Q := fun m m' p L g ps h z hQ => v_X2_checkLaw_43_114 (hQ _ _ h (fun q => absurd q z))
  intro r
  induction r with
  | zero =>
    intro i n x2 m p L hi h2 h hL hP hl' h6 hpl hQ
    refine v_X2_checkLaw_43_28 ⟨fun q => by exfalso; omega, fun _ => Wp.deep (k_kind hK h (fun v hv => ⟨fun q => l122 n m p L h hL hP hl' h6 (by omega) (fun v m' h' he => hQ v m' ?_ ?_), fun q => ⟨fun q4 => by exfalso; omega, fun q4 => Wp.deep (k_fail h (c := 2) (by decide) (fun m' h' => ⟨Or.inl rfl, hQ _ _ ?_ (fun z => ?_)⟩)) (Nat.le_of_ble_eq_true rfl)⟩⟩)) (Nat.le_of_ble_eq_true rfl)⟩
    · rw [gIf_0, if_neg (by omega)]; exact h'
    · rw [gIf_0, if_neg (by omega)]; exact he
    · rw [gIf_0, if_pos (by omega)]; exact h'
    · rw [gIf_0, if_pos (by omega)] at z; exact absurd z (Nat.succ_ne_zero 1)
  | succ r ih =>
    intro i n x2 m p L hi h2 h hL hP hl' h6 hpl hQ
    rw [gIf_s] at hQ
    refine v_X2_checkLaw_43_28 ⟨fun q => by exfalso; omega, fun _ => Wp.deep (k_kind hK h (fun v hv => ⟨fun q => l122 n m p L h hL hP hl' h6 (by omega) (fun v m' h' he => hQ v m' ?_ ?_), fun q => ⟨fun q4 => ?_, fun q4 => by exfalso; omega⟩⟩)) (Nat.le_of_ble_eq_true rfl)⟩
    · rw [if_neg (by omega)]; exact h'
    · rw [if_neg (by omega), lIf_n (by omega)]; exact he
    · have k10 : K n = 10 := by omega
      rw [if_pos k10, lIf_y k10] at hQ
      refine Wp.deep (kk_step h (by omega) (fun r2 m2 h2' hr2 hf2 => ⟨fun z => ?_, fun z => ?_⟩)) (Nat.le_of_ble_eq_true rfl)
      · rw [rb_f (hr2.z z)] at hQ
        exact l114 m m2 p L _ _ h2' (hr2.z z) hQ
      · have z := hr2.nz z
        obtain ⟨s1, s2⟩ := gst_z z
        rw [rb_k z, s1] at hQ
        rw [s1] at h2'
        have hQ : ∀ (v : Int32) (m' : dM), GO K mb m' (rb (rb (gE K (n + 1)) (gnd K 60)) (fun n => rb (rb (gE K n) (gnd K 11)) (fun n => rb (rb (gE K n) (gnd K 12)) (gIf K r)))) → LE m a k p L (rb (rb (gE K (n + 1)) (gnd K 60)) (fun n => rb (rb (gE K n) (gnd K 11)) (fun n => rb (rb (gE K n) (gnd K 12)) (gIf K r)))) _ m' → Q v m' := hQ
        have fx2 : FXl m m2 := fun c p q => hf2 c (by omega)
        refine kk_exprPiece (e := 60) hVM h2' hx hk (by decide) (by decide) (hL.of (hf2 29 (by decide)) (hf2 30 (by decide))) (hP.of (fun c p q => hf2 c (by omega)) hk) hl' (by omega) (by omega) (fun r3 m3 h3 hr3 pt3 => ⟨fun z => ?_, fun z => ?_⟩) _ (fun m3 h3 z3 => ?_)
        · rw [rb_f z3] at hQ
          exact l114 m m3 p L _ _ h3 z3 hQ
        · rw [rb_f (hr3.z z)] at hQ
          exact l114 m m3 p L _ _ h3 (hr3.z z) hQ
        · have z := hr3.nz z
          obtain ⟨lg3, pr3, fk3, ll3, l63⟩ := pt3 z
          obtain ⟨c1, c2, c3⟩ := gEnd_z z
          rw [rb_k z, c2] at hQ
          rw [c2] at h3 l63
          have l63 : (L ++ cE K V (n + 1)).length ≤ 6 + ((gE K (n + 1)).2 + 1) := l63
          have hQ : ∀ (v : Int32) (m' : dM), GO K mb m' (rb (rb (gE K ((gE K (n + 1)).2 + 1)) (gnd K 11)) (fun n => rb (rb (gE K n) (gnd K 12)) (gIf K r))) → LE m a k p L (rb (rb (gE K ((gE K (n + 1)).2 + 1)) (gnd K 11)) (fun n => rb (rb (gE K n) (gnd K 12)) (gIf K r))) _ m' → Q v m' := hQ
          refine kk_exprPiece (e := 11) hVM h3 hx hk (by decide) (by decide) lg3 pr3 ll3 l63 (by rw [List.length_append]; show p.length + 1 < 13; omega) (fun r5 m5 h5 hr5 pt5 => ⟨fun z => ?_, fun z => ?_⟩) _ (fun m5 h5 z5 => ?_)
          · rw [rb_f z5] at hQ
            exact l114 m m5 p L _ _ h5 z5 hQ
          · rw [rb_f (hr5.z z)] at hQ
            exact l114 m m5 p L _ _ h5 (hr5.z z) hQ
          · have z := hr5.nz z
            obtain ⟨lg5, pr5, fk5, ll5, l65⟩ := pt5 z
            obtain ⟨d1, d2, d3⟩ := gEnd_z z
            rw [rb_k z, d2] at hQ
            rw [d2] at h5 l65
            have l65 : (L ++ cE K V (n + 1) ++ cE K V ((gE K (n + 1)).2 + 1)).length ≤ 6 + ((gE K ((gE K (n + 1)).2 + 1)).2 + 1) := l65
            have hQ : ∀ (v : Int32) (m' : dM), GO K mb m' (rb (rb (gE K ((gE K ((gE K (n + 1)).2 + 1)).2 + 1)) (gnd K 12)) (gIf K r)) → LE m a k p L (rb (rb (gE K ((gE K ((gE K (n + 1)).2 + 1)).2 + 1)) (gnd K 12)) (gIf K r)) _ m' → Q v m' := hQ
            refine kk_exprPiece (e := 12) hVM h5 hx hk (by decide) (by decide) lg5 pr5 ll5 l65 (by rw [List.length_append, List.length_append]; show p.length + 1 + 1 < 13; omega) (fun r7 m7 h7 hr7 pt7 => ⟨fun z => ?_, fun z => ?_⟩) _ (fun m7 h7 z7 => ?_)
            · rw [rb_f z7] at hQ
              exact l114 m m7 p L _ _ h7 z7 hQ
            · have z := hr7.nz z
              obtain ⟨lg7, pr7, fk7, ll7, l67⟩ := pt7 z
              obtain ⟨e1, e2, e3⟩ := gEnd_z z
              rw [rb_k z, e2] at hQ
              rw [e2] at h7 l67
              have l67 : (L ++ cE K V (n + 1) ++ cE K V ((gE K (n + 1)).2 + 1) ++ cE K V ((gE K ((gE K (n + 1)).2 + 1)).2 + 1)).length ≤ 6 + ((gE K ((gE K ((gE K (n + 1)).2 + 1)).2 + 1)).2 + 1) := l67
              have hQ : ∀ (v : Int32) (m' : dM), GO K mb m' (gIf K r ((gE K ((gE K ((gE K (n + 1)).2 + 1)).2 + 1)).2 + 1)) → LE m a k p L (gIf K r ((gE K ((gE K ((gE K (n + 1)).2 + 1)).2 + 1)).2 + 1)) _ m' → Q v m' := hQ
              refine ih (i + 1) _ _ m7 _ _ (by omega) (d_add h2 (by decide) (by omega)) h7 lg7 pr7 ll7 l67 (by rw [List.length_append, List.length_append, List.length_append]; show p.length + 1 + 1 + 1 = 3 * (i + 1); omega) (fun v m' h' he => hQ v m' h' (fun zz => ?_))
              obtain ⟨x1', x2', x3', x4', x5'⟩ := he zz
              have eL : L ++ cE K V (n + 1) ++ cE K V ((gE K (n + 1)).2 + 1) ++ cE K V ((gE K ((gE K (n + 1)).2 + 1)).2 + 1) ++ (lIf K V r ((gE K ((gE K ((gE K (n + 1)).2 + 1)).2 + 1)).2 + 1)).flatten = L ++ (cE K V (n + 1) :: cE K V ((gE K (n + 1)).2 + 1) :: cE K V ((gE K ((gE K (n + 1)).2 + 1)).2 + 1) :: lIf K V r ((gE K ((gE K ((gE K (n + 1)).2 + 1)).2 + 1)).2 + 1)).flatten := by
                simp only [List.flatten_cons, List.append_assoc]
              have eP : p ++ [cE K V (n + 1)] ++ [cE K V ((gE K (n + 1)).2 + 1)] ++ [cE K V ((gE K ((gE K (n + 1)).2 + 1)).2 + 1)] ++ lIf K V r ((gE K ((gE K ((gE K (n + 1)).2 + 1)).2 + 1)).2 + 1) = p ++ (cE K V (n + 1) :: cE K V ((gE K (n + 1)).2 + 1) :: cE K V ((gE K ((gE K (n + 1)).2 + 1)).2 + 1) :: lIf K V r ((gE K ((gE K ((gE K (n + 1)).2 + 1)).2 + 1)).2 + 1)) := by
                simp only [List.append_assoc, List.cons_append, List.nil_append]
              rw [eL] at x1' x4' x5'
              rw [eP] at x2' x4'
              exact ⟨x1', x2', (((fx2.fk (k := k)).tr fk3).tr fk5).tr (fk7.tr x3'), x4', x5'⟩
            · rw [rb_f (hr7.z z)] at hQ
              exact l114 m m7 p L _ _ h7 (hr7.z z) hQ
theorem kk_law {x1 : Int32} {k n : Nat} {m : dM} {L : lC} {Q : Int32 → dM → Prop} (hVM : VM K V mb) (hx : x1.toInt = (k : Int)) (hk : k < 4) (h : GO K mb m (0, n)) (hkn : K n ≠ 24 ∧ K n ≠ 25) (hL : LG m L) (h6 : L.length ≤ 6 + n) (hQ : ∀ (v : Int32) (m' : dM), GO K mb m' (gLaw K n) → LE m L.length k [] L (gLaw K n) (lawP K V n) m' → Q v m') : c_X2_checkLaw_43 27 x1 m Q := by
  have hK : KM K mb := fun i a b => (hVM i a b).1
  unfold gLaw at hQ
  refine v_X2_checkLaw_43 (Wp.deep (kk_begin h hx hk hL (fun m1 h1 lg1 pr1 fk1 => Wp.deep (kk_step h1 hkn (fun r2 m2 h2 hr2 hf2 => ⟨fun z => ?_, fun z => ?_⟩)) (Nat.le_of_ble_eq_true rfl))) (Nat.le_of_ble_eq_true rfl))
  · rw [rb_f (hr2.z z)] at hQ
    exact v_X2_checkLaw_43_24 (hQ _ _ h2 (fun q => absurd q (hr2.z z)))
  · have z := hr2.nz z
    obtain ⟨s1, s2⟩ := gst_z z
    rw [rb_k z, s1] at hQ
    rw [s1] at h2
    have hQ : ∀ (v : Int32) (m' : dM), GO K mb m' (rb (gnd K 61 (n + 1)) (gIf K 4)) → LE m L.length k [] L (rb (gnd K 61 (n + 1)) (gIf K 4)) (lawP K V n) m' → Q v m' := hQ
    refine Wp.deep (kk_need hK h2 (k := 61) (by decide) (by decide) (fun r3 m3 h3 hr3 hf3 => ⟨fun z => ?_, fun z => ?_⟩)) (Nat.le_of_ble_eq_true rfl)
    · have z := hr3.nz z
      obtain ⟨k1, k2, k3⟩ := gnd_z rfl z
      rw [rb_k z, k1] at hQ
      rw [k1] at h3
      have hQ : ∀ (v : Int32) (m' : dM), GO K mb m' (gIf K 4 (n + 2)) → LE m L.length k [] L (gIf K 4 (n + 2)) (lIf K V 4 (n + 2)) m' → Q v m' := hQ
      have fx2 : FXl m1 m2 := fun c p q => hf2 c (by omega)
      have fx3 : FXl m2 m3 := fun c p q => hf3 c (by omega)
      refine kk_ifs (a := L.length) hVM hx hk 4 0 (n + 2) _ m3 [] L rfl (by decide) h3 ((lg1.of (hf2 29 (by decide)) (hf2 30 (by decide))).of (hf3 29 (by decide)) (hf3 30 (by decide))) ((pr1.of fx2 hk).of fx3 hk) rfl (by omega) rfl (fun v m' h' he => hQ v m' h' (fun zz => ?_))
      obtain ⟨x1', x2', x3', x4', x5'⟩ := he zz
      exact ⟨x1', x2', ((fk1.tr fx2.fk).tr fx3.fk).tr x3', x4', x5'⟩
    · rw [rb_f (hr3.z z)] at hQ
      exact v_X2_checkLaw_43_24 (hQ _ _ h3 (fun q => absurd q (hr3.z z)))
end CLV
