/-! THE CLASS's laws, as told -/
section LAP
variable (K : Nat → Int) (V : Nat → Int64)
/-- a law's pieces, from behind its sign of setting -/
def lIf : Nat → Nat → List lC
  | 0, n => [cE K V n]
  | r + 1, n => if K n = 10 then cE K V (n + 1) :: cE K V ((gE K (n + 1)).2 + 1) :: cE K V ((gE K ((gE K (n + 1)).2 + 1)).2 + 1) :: lIf r ((gE K ((gE K ((gE K (n + 1)).2 + 1)).2 + 1)).2 + 1) else [cE K V n]
def lawP (n : Nat) : List lC := lIf K V 4 (n + 2)
end LAP
def lDf (p : List lC) : lD := ((p.length - 1) / 3, fun i => p.getD i [])
/-- rows of a law under way -/
def PRo (m : dM) (a k : Nat) (p : List lC) : Prop := (m.1 36 k).toInt = (p.length : Int) ∧ p.length ≤ 13 ∧ ∀ i : Nat, i ≤ p.length → (m.1 (32 + k) i).toInt = ((a + (p.take i).flatten.length : Nat) : Int)
/-- the other laws -/
def FKl (k : Nat) (m m' : dM) : Prop := ∀ j : Nat, j < 4 → j ≠ k → m'.1 (32 + j) = m.1 (32 + j) ∧ m'.1 36 j = m.1 36 j
theorem FKl.rf (k : Nat) (m : dM) : FKl k m m := fun _ _ _ => ⟨rfl, rfl⟩
theorem FKl.tr {k : Nat} {a b c : dM} (h : FKl k a b) (h' : FKl k b c) : FKl k a c := fun j p q => ⟨(h' j p q).1.trans (h j p q).1, (h' j p q).2.trans (h j p q).2⟩
theorem FXl.fk {k : Nat} {a b : dM} (h : FXl a b) : FKl k a b := fun j p q => ⟨h _ (by omega) (by omega), by rw [h 36 (by omega) (by omega)]⟩
section CLW
variable {K : Nat → Int} {V : Nat → Int64} {mb : dM}
theorem PRo.of {m m' : dM} {a k : Nat} {p : List lC} (h : PRo m a k p) (e : ∀ c : Nat, 31 < c → c ≤ 36 → m'.1 c = m.1 c) (hk : k < 4) : PRo m' a k p := by
  unfold PRo
  rw [e 36 (by omega) (by omega), e (32 + k) (by omega) (by omega)]
  exact h
theorem take_app {p : List lC} {c : lC} {i : Nat} (h : i ≤ p.length) : (p ++ [c]).take i = p.take i := by
  rw [List.take_append_of_le_length h]
theorem kk_begin {x1 : Int32} {k n : Nat} {m : dM} {L : lC} {Q : dM → Prop} (h : GO K mb m (0, n)) (hx : x1.toInt = (k : Int)) (hk : k < 4) (hL : LG m L) (hQ : ∀ m' : dM, GO K mb m' (0, n) → LG m' L → PRo m' L.length k [] → FKl k m m' → Q m') : c_X4_begin_29 1 x1 m Q := by
  have hGL := h.2.1
  have ec := d_cn hx
  have h36 : GO K mb (dSet m 36 k (0 : Int32)) (0, n) := h.law (by decide) ⟨by rw [dSet_k (by decide)]; exact hGL.1, fun j => by
    rw [dSet_e]
    split
    · decide
    · exact hGL.2 j⟩
  have go : ∀ c : Nat, c = 32 + k → Q (dSet (dSet m 36 k (0 : Int32)) c 0 (m.1 29 1)) := fun c hc => by
    subst hc
    refine hQ _ (h36.law (by omega) ?_) (hL.of (by rw [dSet_k (by omega), dSet_k (by decide)]) (by rw [dSet_k (by omega), dSet_k (by decide)])) ⟨?_, Nat.zero_le _, fun i hi => ?_⟩ (fun j hj hne => ⟨by rw [dSet_k (by omega), dSet_k (by omega)], by rw [dSet_k (by omega), dSet_j hne]⟩)
    · have := h36.2.1
      unfold GL
      rw [dSet_k (show 29 ≠ 32 + k by omega), dSet_k (show 36 ≠ 32 + k by omega)]
      exact this
    · rw [dSet_k (by omega), dSet_s]; rfl
    · have : i = 0 := by have : i ≤ 0 := hi; omega
      subst this
      rw [dSet_s]
      exact hL.1
  refine v_X4_begin_29 ?_
  rw [ec]
  exact ⟨by omega, by omega, fun q => go 32 (by omega), fun q => go 33 (by omega), fun q => go 34 (by omega), fun q => go 35 (by omega)⟩
theorem kk_piece {x1 : Int32} {k n a : Nat} {p : List lC} {c : lC} {L : lC} {m : dM} {Q : dM → Prop} (h : GO K mb m (0, n)) (hx : x1.toInt = (k : Int)) (hk : k < 4) (hL : LG m L) (hP : PRo m a k p) (hlen : L.length = a + (p ++ [c]).flatten.length) (hp : p.length < 13) (hQ : ∀ m' : dM, GO K mb m' (0, n) → LG m' L → PRo m' a k (p ++ [c]) → FKl k m m' → Q m') : c_X4_endPiece_29 1 x1 m Q := by
  have hGL := h.2.1
  have ec := d_cn hx
  obtain ⟨p1, p2, p3⟩ := hP
  have f1 := d_inc p1 (by omega)
  have f1' := d_cn f1
  have h36 : GO K mb (dSet m 36 k (m.1 36 k + 1)) (0, n) := h.law (by decide) ⟨by rw [dSet_k (by decide)]; exact hGL.1, fun j => by
    rw [dSet_e]
    split
    · omega
    · exact hGL.2 j⟩
  have go : ∀ b : Nat, b = 32 + k → j_X4_endPiece_29_38 1 (dSet (dSet m 36 k (m.1 36 k + 1)) b (p.length + 1) (m.1 29 1)) Q := fun b hb => by
    subst hb
    refine v_X4_endPiece_29_38 (hQ _ (h36.law (by omega) ?_) (hL.of (by rw [dSet_k (by omega), dSet_k (by decide)]) (by rw [dSet_k (by omega), dSet_k (by decide)])) ⟨?_, ?_, fun i hi => ?_⟩ (fun j hj hne => ⟨by rw [dSet_k (by omega), dSet_k (by omega)], by rw [dSet_k (by omega), dSet_j hne]⟩))
    · have := h36.2.1
      unfold GL
      rw [dSet_k (show 29 ≠ 32 + k by omega), dSet_k (show 36 ≠ 32 + k by omega)]
      exact this
    · rw [dSet_k (by omega), dSet_s, List.length_append]; exact f1
    · rw [List.length_append]; show p.length + 1 ≤ 13; omega
    · rw [List.length_append] at hi
      have hi : i ≤ p.length + 1 := hi
      by_cases e : i = p.length + 1
      · subst e
        rw [dSet_s, List.take_of_length_le (by rw [List.length_append]; exact Nat.le_refl _), ← hlen]
        exact hL.1
      · rw [dSet_j e, dSet_k (by omega), take_app (by omega)]
        exact p3 i (by omega)
  have b14 : 0 ≤ (m.1 36 k + 1).toInt ∧ (m.1 36 k + 1).toInt < 14 := by omega
  refine v_X4_endPiece_29 ?_
  rw [ec, f1']
  exact ⟨by omega, fun q => by exfalso; omega, fun q => ⟨by omega, by omega, by omega, fun q => ⟨by omega, b14, go 32 (by omega)⟩, fun q => ⟨by omega, b14, go 33 (by omega)⟩, fun q => ⟨by omega, b14, go 34 (by omega)⟩, fun q => ⟨by omega, b14, go 35 (by omega)⟩⟩⟩
/-- a piece and what must follow it -/
theorem kk_exprPiece {x1 x2 : Int32} {e : Int} {k n a : Nat} {p : List lC} {L : lC} {m : dM} {Q : Int32 → dM → Prop} (hVM : VM K V mb) (h : GO K mb m (0, n)) (hx : x1.toInt = (k : Int)) (hk : k < 4) (h2 : x2.toInt = e) (he : e ≠ 24 ∧ e ≠ 25) (hL : LG m L) (hP : PRo m a k p) (hlen : L.length = a + p.flatten.length) (hL6 : L.length ≤ 6 + n) (hp : p.length < 13) (hQ : ∀ (r : Int32) (m' : dM), GO K mb m' (rb (gE K n) (gnd K e)) → RT r (rb (gE K n) (gnd K e)) → ((rb (gE K n) (gnd K e)).1 = 0 → LG m' (L ++ cE K V n) ∧ PRo m' a k (p ++ [cE K V n]) ∧ FKl k m m' ∧ (L ++ cE K V n).length = a + (p ++ [cE K V n]).flatten.length ∧ (L ++ cE K V n).length ≤ 6 + (rb (gE K n) (gnd K e)).2) → Q r m') (Q0 : dM → Prop) (hQ0 : ∀ m' : dM, GO K mb m' (rb (gE K n) (gnd K e)) → (rb (gE K n) (gnd K e)).1 ≠ 0 → Q0 m') : c_X2_sum_43 26 (0 : Int32) m (fun r1 m1 => (r1.toInt = 0 → Q0 m1) ∧ (r1.toInt ≠ 0 → c_X2_endPiece_43 26 x1 x2 m1 Q)) := by
  have hK : KM K mb := fun i a b => (hVM i a b).1
  refine kk_expr hVM h hL hL6 (fun r1 m1 h1 hr1 pt1 => ⟨fun z => ?_, fun z => ?_⟩)
  · have z := hr1.z z
    refine hQ0 m1 ?_ ?_
    · rw [rb_f z]; exact h1
    · rw [rb_f z]; exact z
  · have z := hr1.nz z
    obtain ⟨fx, lg, ll, lt'⟩ := pt1 z
    rw [rb_k z] at hQ
    have fl : (L ++ cE K V n).length = a + (p ++ [cE K V n]).flatten.length := by
      rw [List.length_append, List.flatten_append, List.length_append, hlen]
      simp
      omega
    generalize hg : gE K n = g at *
    obtain ⟨g1, g2⟩ := g
    have z : g1 = 0 := z
    subst z
    refine v_X2_endPiece_43 (Wp.deep (kk_piece (c := cE K V n) h1 hx hk lg (hP.of (fun c p q => fx c p q) hk) fl hp (fun m2 h2' lg2 pr2 fk2 => Wp.deep (kk_need hK h2' h2 he (fun r3 m3 h3 hr3 hf3 => ⟨hr3.b, hQ r3 m3 h3 hr3 (fun z3 => ?_)⟩)) (Nat.le_of_ble_eq_true rfl))) (Nat.le_of_ble_eq_true rfl))
    · obtain ⟨k1, k2, k3⟩ := gnd_z rfl z3
      have e3 : FXl m2 m3 := fun c p q => hf3 c (by omega)
      refine ⟨lg2.of (hf3 29 (by decide)) (hf3 30 (by decide)), pr2.of (fun c p q => hf3 c (by omega)) hk, (fx.fk.tr fk2).tr e3.fk, fl, ?_⟩
      have ll : (L ++ cE K V n).length ≤ 6 + g2 := ll
      rw [k1]
      show (L ++ cE K V n).length ≤ 6 + (g2 + 1)
      omega
end CLW
