/-! THE CLASS's ways, exactly -/
theorem y_has {x0 x1 : Int32} {k : Nat} {m : dM} {Q : Int32 → dM → Prop} (h1 : x1.toInt = (k : Int)) (hk : k < 32) (hT : bt x0 k = true → Q 1 m) (hF : bt x0 k = false → Q 0 m) : c_X11_has 1 x0 x1 m Q := by
  have e := bt_u (x := x0) h1 hk
  cases q : bt x0 k with
  | true =>
    rw [q, if_pos rfl] at e
    exact v_X11_has ⟨fun z => by exfalso; omega, fun _ => hT q⟩
  | false =>
    rw [q, if_neg (by decide)] at e
    exact v_X11_has ⟨fun _ => hF q, fun z => by exfalso; omega⟩
/-- how far, as the one writes it -/
def ewy (x : Nat) : Int := if x = 99 then -1 else x
theorem ewy_99 {x : Nat} : ewy x = -1 ↔ x = 99 := by unfold ewy; split <;> omega
theorem ewy_n {x n : Nat} (hn : n < 99) : ewy x = n ↔ x = n := by unfold ewy; split <;> omega
/-- the house, as far as ways know of it -/
def HW (nf nw : Nat) (e1 e2 : Nat → Nat) (m : dM) : Prop := ((m.1 2 0).toInt = (nf : Int) ∧ nf ≤ 7) ∧ ((m.1 2 1).toInt = (nw : Int) ∧ nw ≤ 10) ∧ ∀ w : Nat, w < nw → ((m.1 4 w).toInt = (e1 w : Int) ∧ (m.1 5 w).toInt = (e2 w : Int)) ∧ e1 w < nf ∧ e2 w < nf ∧ e1 w ≠ e2 w
/-- ways laid as far as d tells -/
def WyR (nf nw : Nat) (e1 e2 : Nat → Nat) (G : Nat → Bool) (d : Nat → Nat) (m : dM) : Prop :=
  (∀ f : Nat, f < nf → (m.1 59 f).toInt = ewy (d f)) ∧
  (∀ f : Nat, f < nf → m.1 60 f = if d f = 99 then 0 else via nf nw e1 e2 G f) ∧
  (∀ f : Nat, f < nf → d f ≠ 99 → d f ≠ 0 → (m.1 58 f).toInt = (nx nf nw e1 e2 G f : Int)) ∧
  (∀ i : Nat, i < 32 → bt (m.1 57 5) i = (decide (i < nf) && decide (d i ≠ 99)))
def LyF (m0 m : dM) : Prop := (∀ k : Nat, (k < 57 ∨ 60 < k) → m.1 k = m0.1 k) ∧ (∀ j : Nat, j ≠ 1 → j ≠ 5 → m.1 57 j = m0.1 57 j) ∧ m.2 = m0.2
theorem LyF.rf (m : dM) : LyF m m := ⟨fun _ _ => rfl, fun _ _ _ => rfl, rfl⟩
theorem LyF.tr {a b c : dM} (h : LyF a b) (h' : LyF b c) : LyF a c := ⟨fun k q => (h'.1 k q).trans (h.1 k q), fun j q1 q2 => (h'.2.1 j q1 q2).trans (h.2.1 j q1 q2), h'.2.2.trans h.2.2⟩
theorem LyF.set {a b : dM} {k j : Nat} {v : Int32} (h : LyF a b) (hk : 58 ≤ k ∧ k ≤ 60) : LyF a (dSet b k j v) := ⟨fun c q => by rw [dSet_k (by omega)]; exact h.1 c q, fun i q1 q2 => by rw [dSet_k (by omega)]; exact h.2.1 i q1 q2, h.2.2⟩
theorem LyF.set57 {a b : dM} {j : Nat} {v : Int32} (h : LyF a b) (hj : j = 1 ∨ j = 5) : LyF a (dSet b 57 j v) := ⟨fun c q => by rw [dSet_k (by omega)]; exact h.1 c q, fun i q1 q2 => by rw [dSet_j (by omega)]; exact h.2.1 i q1 q2, h.2.2⟩
section CLY
variable {nf nw : Nat} {e1 e2 : Nat → Nat} {G : Nat → Bool}
theorem HW.lf {m m' : dM} (h : HW nf nw e1 e2 m) (hF : LyF m m') : HW nf nw e1 e2 m' := by
  unfold HW
  rw [hF.1 2 (by omega), hF.1 4 (by omega), hF.1 5 (by omega)]
  exact h
theorem HW.ends {m : dM} (h : HW nf nw e1 e2 m) : ∀ w : Nat, w < nw → e1 w < nf ∧ e2 w < nf := fun w hw => ⟨(h.2.2 w hw).2.1, (h.2.2 w hw).2.2.1⟩
theorem WyR.congr {d d' : Nat → Nat} {m : dM} (h : WyR nf nw e1 e2 G d m) (e : ∀ f : Nat, d' f = d f) : WyR nf nw e1 e2 G d' m := by
  have : d' = d := funext e
  rw [this]
  exact h
/-- f0 is reached by wire k, from g0 -/
theorem WyR.new {n k f0 g0 : Nat} {x1 x2 : Int32} {m : dM} (hH : HW nf nw e1 e2 m) (h : WyR nf nw e1 e2 G (dsk nf nw e1 e2 G n k) m) (hn : n < 6) (hk : k < nw) (hx1 : x1.toInt = (k : Int)) (hx2 : x2.toInt = ((n + 1 : Nat) : Int)) (hG : G k = false) (hE : (e1 k = f0 ∧ e2 k = g0) ∨ (e2 k = f0 ∧ e1 k = g0)) (hf : dsk nf nw e1 e2 G n k f0 = 99) (hg : dst nf nw e1 e2 G n g0 = n) (v : Int32) (hv : v.toInt = (f0 : Int)) :
    WyR nf nw e1 e2 G (dsk nf nw e1 e2 G n (k + 1)) (dSet (dSet (dSet (dSet m 59 f0 x2) 58 f0 x1) 60 f0 ((m.1 60 g0) ||| ((1 : Int32) <<< (x1 &&& 31)))) 57 5 ((m.1 57 5) ||| ((1 : Int32) <<< (v &&& 31)))) := by
  obtain ⟨hnf, hnw, hwe⟩ := hH
  obtain ⟨_, q1, q2, q3⟩ := hwe k hk
  have hf0 : f0 < nf := by omega
  have hg0 : g0 < nf := by omega
  have hot : ot e1 e2 k f0 = g0 := by unfold ot; split <;> omega
  have hbr : br e1 e2 G (dst nf nw e1 e2 G n) n f0 k = true := by
    unfold br tch
    rw [hG, hot, hg]
    rcases hE with q | q <;> simp [q.1]
  obtain ⟨nD, nX⟩ := dsk_new hn hk hf hbr
  have hd0 : dsk nf nw e1 e2 G n (k + 1) f0 = n + 1 := by rw [dsk_s (by omega), if_pos ⟨hf, hbr⟩]
  have hd : ∀ f : Nat, f ≠ f0 → dsk nf nw e1 e2 G n (k + 1) f = dsk nf nw e1 e2 G n k f := fun f hne => by
    rw [dsk_s (by omega), if_neg]
    rintro ⟨a, b⟩
    unfold br tch at b
    rw [Bool.and_eq_true, decide_eq_true_eq, Bool.and_eq_true, Bool.or_eq_true, decide_eq_true_eq, decide_eq_true_eq] at b
    have hfg : f = g0 := by omega
    rw [hfg] at a
    have := (dsk_lvl (k := k) (f := g0) (nf := nf) (nw := nw) (e1 := e1) (e2 := e2) (G := G) (by omega : n < 98)).mpr hg
    omega
  have hgk := (dsk_lvl (k := k) (f := g0) (nf := nf) (nw := nw) (e1 := e1) (e2 := e2) (G := G) (by omega : n < 98)).mpr hg
  have hv60 : m.1 60 g0 = via nf nw e1 e2 G g0 := by rw [h.2.1 g0 hg0, if_neg (by omega)]
  have hvia : via nf nw e1 e2 G f0 = via nf nw e1 e2 G g0 ||| b1 k := by rw [via_s hn nD, nX, hot, Int32.or_comm]
  rw [b1_of hx1, b1_of hv, hv60]
  refine ⟨fun f hf' => ?_, fun f hf' => ?_, fun f hf' a b => ?_, fun i hi => ?_⟩
  · rw [dSet_k (by decide), dSet_k (by decide), dSet_k (by decide)]
    by_cases e : f = f0
    · subst e; rw [dSet_s, hx2, hd0, (ewy_n (by omega)).mpr rfl]
    · rw [dSet_j e, hd f e]; exact h.1 f hf'
  · rw [dSet_k (by decide)]
    by_cases e : f = f0
    · subst e; rw [dSet_s, hd0, if_neg (by omega), hvia]
    · rw [dSet_j e, dSet_k (by decide), dSet_k (by decide), hd f e]; exact h.2.1 f hf'
  · rw [dSet_k (by decide), dSet_k (by decide)]
    by_cases e : f = f0
    · subst e; rw [dSet_s, hx1, nX]
    · rw [dSet_j e, dSet_k (by decide)]
      rw [hd f e] at a b
      exact h.2.2.1 f hf' a b
  · rw [dSet_s, bt_or, h.2.2.2 i hi, bt_1 (by omega)]
    by_cases e : i = f0
    · subst e
      rw [hd0]
      have n99 : n + 1 ≠ 99 := by omega
      simp [hf0, n99]
    · rw [hd i e]
      simp [e]
theorem y_reachBy {n k : Nat} {x1 x2 : Int32} {m : dM} {Q : dM → Prop} (hH : HW nf nw e1 e2 m) (h : WyR nf nw e1 e2 G (dsk nf nw e1 e2 G n k) m) (hn : n < 6) (hk : k < nw) (hx1 : x1.toInt = (k : Int)) (hx2 : x2.toInt = ((n + 1 : Nat) : Int)) (hG : G k = false) (hQ : ∀ m' : dM, LyF m m' → (m'.1 57 1 = m.1 57 1) → WyR nf nw e1 e2 G (dsk nf nw e1 e2 G n (k + 1)) m' → Q m') : c_X10_reachBy_57 1 x1 x2 m Q := by
  have hnf := hH.1
  have hnw := hH.2.1
  obtain ⟨⟨w1, w2⟩, q1, q2, q3⟩ := hH.2.2 k hk
  have ec := d_cn hx1
  have f := dSubE (X := x2.toInt) (Y := 1) (x := x2) (y := (1 : Int32)) rfl (by decide) (by omega) (by omega)
  have a1 := h.1 (e1 k) q1
  have a2 := h.1 (e2 k) q2
  have l1 := dsk_lvl (k := k) (f := e1 k) (nf := nf) (nw := nw) (e1 := e1) (e2 := e2) (G := G) (by omega : n < 98)
  have l2 := dsk_lvl (k := k) (f := e2 k) (nf := nf) (nw := nw) (e1 := e1) (e2 := e2) (G := G) (by omega : n < 98)
  have n1 := ewy_n (x := dsk nf nw e1 e2 G n k (e1 k)) (n := n) (by omega)
  have n2 := ewy_n (x := dsk nf nw e1 e2 G n k (e2 k)) (n := n) (by omega)
  have z1 := ewy_99 (x := dsk nf nw e1 e2 G n k (e1 k))
  have z2 := ewy_99 (x := dsk nf nw e1 e2 G n k (e2 k))
  have same : (∀ f0 : Nat, ¬ (dsk nf nw e1 e2 G n k f0 = 99 ∧ br e1 e2 G (dst nf nw e1 e2 G n) n f0 k = true)) → j_X10_reachBy_57_151 1 m Q := fun no => v_X10_reachBy_57_151 (hQ m (LyF.rf m) rfl (h.congr (fun f0 => by rw [dsk_s (by omega), if_neg (no f0)])))
  have brE : ∀ f0 : Nat, br e1 e2 G (dst nf nw e1 e2 G n) n f0 k = true → (f0 = e1 k ∧ dst nf nw e1 e2 G n (e2 k) = n) ∨ (f0 = e2 k ∧ dst nf nw e1 e2 G n (e1 k) = n) := fun f0 b => by
    unfold br tch ot at b
    rw [Bool.and_eq_true, decide_eq_true_eq, Bool.and_eq_true, Bool.or_eq_true, decide_eq_true_eq, decide_eq_true_eq] at b
    obtain ⟨⟨_, b1'⟩, b2'⟩ := b
    by_cases e : e1 k = f0
    · rw [if_pos e] at b2'; exact Or.inl ⟨e.symm, b2'⟩
    · rw [if_neg e] at b2'; exact Or.inr ⟨by omega, b2'⟩
  have c1 := d_cn w1
  have c2 := d_cn w2
  refine v_X10_reachBy_57 ?_
  rw [ec, c1, c2]
  rw [a1, a2] at *
  refine ⟨by omega, by omega, fun ne => ⟨by omega, by omega, by omega, fun n9 => same ?_, fun e9 => ⟨by omega, fun ne2 => same ?_, fun ee2 => ⟨by omega, by omega, by omega, by omega, v_X10_reachBy_57_151 (hQ _ ?_ ?_ ?_)⟩⟩⟩, fun ee => ⟨by omega, by omega, by omega, fun n9 => same ?_, fun e9 => ⟨by omega, fun ne2 => by exfalso; omega, fun ee2 => ⟨by omega, by omega, by omega, by omega, v_X10_reachBy_57_151 (hQ _ ?_ ?_ ?_)⟩⟩⟩⟩
  · rintro f0 ⟨b, c⟩
    rcases brE f0 c with ⟨d, e⟩ | ⟨d, e⟩
    · subst d; exact n9 (z1.mpr b)
    · have := l1.mpr e
      have := n1.mpr this
      omega
  · rintro f0 ⟨b, c⟩
    rcases brE f0 c with ⟨d, e⟩ | ⟨d, e⟩
    · have := n2.mpr (l2.mpr e)
      omega
    · have := n1.mpr (l1.mpr e)
      omega
  · exact (((LyF.rf m).set (by decide)).set (by decide)).set (by decide) |>.set57 (Or.inr rfl)
  · rfl
  · exact h.new hH hn hk hx1 hx2 hG (Or.inl ⟨rfl, rfl⟩) (z1.mp e9) (l2.mp (n2.mp (by omega))) _ w1
  · rintro f0 ⟨b, c⟩
    rcases brE f0 c with ⟨d, e⟩ | ⟨d, e⟩
    · subst d
      have := n1.mp (by omega)
      omega
    · subst d; exact n9 (z2.mpr b)
  · exact (((LyF.rf m).set (by decide)).set (by decide)).set (by decide) |>.set57 (Or.inr rfl)
  · rfl
  · exact h.new hH hn hk hx1 hx2 hG (Or.inr ⟨rfl, rfl⟩) (z2.mp e9) (l1.mp (n1.mp (by omega))) _ w2
/-- what is laid is right for what it was laid for -/
def WI (nf nw : Nat) (e1 e2 : Nat → Nat) (m : dM) : Prop := (m.1 57 1).toInt ≠ -1 → WyR nf nw e1 e2 (bt (m.1 57 1)) (dD nf nw e1 e2 (bt (m.1 57 1))) m
theorem y_lay {x1 : Int32} {m : dM} {Q : dM → Prop} (hH : HW nf nw e1 e2 m) (hI : WI nf nw e1 e2 m) (hx : x1.toInt ≠ -1) (hQ : ∀ m' : dM, LyF m m' → m'.1 57 1 = x1 → WyR nf nw e1 e2 (bt x1) (dD nf nw e1 e2 (bt x1)) m' → Q m') : c_X10_lay_57 2 x1 m Q := by
  have hnf := hH.1
  have hnw := hH.2.1
  have hE := hH.ends
  generalize hG : bt x1 = G at hQ
  have fin : ∀ M : dM, LyF m M → M.1 57 1 = x1 → WyR nf nw e1 e2 G (dD nf nw e1 e2 G) M → j_X10_lay_57_128 2 M Q := fun M a b c => v_X10_lay_57_128 (hQ M a b c)
  have l58 : ∀ (r n : Nat) (x2 : Int32) (M : dM), n + r = 7 → x2.toInt = ((n + 1 : Nat) : Int) → LyF m M → M.1 57 1 = x1 → (0 < nf → n + 1 ≤ cn (rcd (dst nf nw e1 e2 G n)) nf) → WyR nf nw e1 e2 G (dst nf nw e1 e2 G n) M → j_X10_lay_57_58 2 x1 x2 M Q := by
    intro r
    induction r with
    | zero =>
      intro n x2 M hr h2 hF h1 hc hW
      have e20 : (M.1 2 0).toInt = (nf : Int) := by rw [hF.1 2 (by omega)]; exact hnf.1
      have := cn_le (p := rcd (dst nf nw e1 e2 G n)) nf
      refine v_X10_lay_57_58 ⟨fun q => ?_, fun q => by exfalso; have := hc (by omega); omega⟩
      by_cases z : nf = 0
      · exact fin M hF h1 ⟨fun f hf => by omega, fun f hf => by omega, fun f hf => by omega, fun i hi => by rw [hW.2.2.2 i hi]; simp [z]⟩
      · exfalso; have := hc (by omega); omega
    | succ r ih =>
      intro n x2 M hr h2 hF h1 hc hW
      have hHM := hH.lf hF
      have e20 : (M.1 2 0).toInt = (nf : Int) := hHM.1.1
      refine v_X10_lay_57_58 ⟨fun q => ?_, fun q => ?_⟩
      · by_cases z : nf = 0
        · exact fin M hF h1 ⟨fun f hf => by omega, fun f hf => by omega, fun f hf => by omega, fun i hi => by rw [hW.2.2.2 i hi]; simp [z]⟩
        · exact fin M hF h1 (hW.congr (fun f => (dst_end hE (by omega) (hc (by omega)) (by omega) f).symm))
      · have hc := hc (by omega)
        have l77 : ∀ (u k : Nat) (x4 : Int32) (M1 : dM), k + u = nw → x4.toInt = (k : Int) → LyF m M1 → M1.1 57 1 = x1 → WyR nf nw e1 e2 G (dsk nf nw e1 e2 G n k) M1 → j_X10_lay_57_77 2 x1 x2 (M.1 57 5) x4 M1 Q := by
          intro u
          induction u with
          | zero =>
            intro k x4 M1 hk h4 hF1 h11 hW1
            have ek : k = nw := by omega
            subst ek
            have e21 : (M1.1 2 1).toInt = (k : Int) := (hH.lf hF1).2.1.1
            have hW1 : WyR nf k e1 e2 G (dst nf k e1 e2 G (n + 1)) M1 := hW1.congr (fun f => dsk_w.symm)
            refine v_X10_lay_57_77 ⟨fun _ => ⟨fun ne => ?_, fun ee => ?_⟩, fun q => by exfalso; omega⟩
            · refine ih (n + 1) _ M1 (by omega) (d_inc h2 (by omega)) hF1 h11 (fun _ => ?_) hW1
              have ex : ∃ j : Nat, dst nf k e1 e2 G (n + 1) j ≠ dst nf k e1 e2 G n j := by
                refine Classical.byContradiction (fun no => ne ?_)
                have eq : M1.1 57 5 = M.1 57 5 := bt_ext (fun i hi => by
                  rw [hW1.2.2.2 i hi, hW.2.2.2 i hi]
                  have : dst nf k e1 e2 G (n + 1) i = dst nf k e1 e2 G n i := Classical.byContradiction (fun z => no ⟨i, z⟩)
                  rw [this])
                rw [eq]
              obtain ⟨j, hj⟩ := ex
              exact dst_grow hE hc hj
            · have all : ∀ f : Nat, dst nf k e1 e2 G (n + 1) f = dst nf k e1 e2 G n f := fun f => by
                by_cases z : f < nf
                · have b1' := hW1.2.2.2 f (by omega)
                  have b2' := hW.2.2.2 f (by omega)
                  have : M1.1 57 5 = M.1 57 5 := Int32.toInt_inj.mp ee
                  rw [this, b2'] at b1'
                  by_cases y : dst nf k e1 e2 G n f = 99
                  · rw [y] at b1' ⊢
                    by_cases y2 : dst nf k e1 e2 G (n + 1) f = 99
                    · exact y2
                    · exfalso; simp [z, y2] at b1'
                  · exact dst_keep y 1
                · rw [dst_far hE (by omega), dst_far hE (by omega)]
              exact fin M1 hF1 h11 (hW1.congr (fun f => (dst_end0 (by omega) all f).symm))
          | succ u ih2 =>
            intro k x4 M1 hk h4 hF1 h11 hW1
            have hH1 := hH.lf hF1
            have e21 : (M1.1 2 1).toInt = (nw : Int) := hH1.2.1.1
            have on : ∀ M2 : dM, LyF m M2 → M2.1 57 1 = x1 → WyR nf nw e1 e2 G (dsk nf nw e1 e2 G n (k + 1)) M2 → j_X10_lay_57_105 2 x1 x2 (M.1 57 5) x4 M2 Q := fun M2 a b c => v_X10_lay_57_105 (ih2 (k + 1) _ M2 (by omega) (d_inc h4 (by omega)) a b c)
            refine v_X10_lay_57_77 ⟨fun q => by exfalso; omega, fun _ => y_has h4 (by omega) (fun hg => ⟨fun _ => on M1 hF1 h11 (hW1.congr (fun f => ?_)), fun q => absurd q (by decide)⟩) (fun hg => ⟨fun q => absurd rfl q, fun _ => ?_⟩)⟩
            · rw [dsk_s (by omega), if_neg]
              rintro ⟨_, b⟩
              unfold br tch at b
              rw [← hG, hg] at b
              simp at b
            · exact y_reachBy hH1 hW1 (by omega) (by omega) h4 h2 (by rw [← hG]; exact hg) (fun M2 a b c => on M2 (hF1.tr a) (b.trans h11) c)
        exact l77 nw 0 _ M (by omega) (by decide) hF h1 (hW.congr (fun f => dsk_0))
  have start : ∀ (v : Int32) (M0 : dM), LyF m M0 → M0.1 57 1 = x1 → (∀ i : Nat, i < 32 → bt (M0.1 57 5) i = (decide (i < nf) && decide (dst nf nw e1 e2 G 0 i ≠ 99))) → c_J7_fill_59 1 (-1 : Int32) M0 (fun m1 => c_J7_fill_60 1 (0 : Int32) m1 (fun m2 => j_X10_lay_57_58 2 x1 (1 : Int32) (dSet m2 59 0 (0 : Int32)) Q)) := by
    intro v M0 hF h1 hl
    refine y_fill59 (fun m1 a1 a2 a3 => y_fill60 (fun m2 b1' b2' b3' => ?_))
    have F1 : LyF m m1 := ⟨fun k hk => by rw [a1 k (by omega)]; exact hF.1 k hk, fun j q1 q2 => by rw [a1 57 (by decide)]; exact hF.2.1 j q1 q2, a2.trans hF.2.2⟩
    have F2 : LyF m m2 := ⟨fun k hk => by rw [b1' k (by omega)]; exact F1.1 k hk, fun j q1 q2 => by rw [b1' 57 (by decide)]; exact F1.2.1 j q1 q2, b2'.trans F1.2.2⟩
    refine l58 7 0 _ _ rfl (by decide) (F2.set (by decide)) ?_ (fun hp => ?_) ⟨fun f hf => ?_, fun f hf => ?_, fun f hf p q => ?_, fun i hi => ?_⟩
    · rw [dSet_k (by decide), b1' 57 (by decide), a1 57 (by decide)]; exact h1
    · exact cn_pos (j := 0) (by unfold rcd dst; simp [hp]) nf hp
    · by_cases e : f = 0
      · subst e
        rw [dSet_s]
        unfold dst
        rw [if_pos ⟨rfl, hf⟩]
        decide
      · rw [dSet_j e, b1' 59 (by decide), a3 f (by omega)]
        unfold dst
        rw [if_neg (fun q => e q.1)]
        decide
    · rw [dSet_k (by decide), b3' f (by omega)]
      by_cases e : f = 0
      · subst e
        have d0 : dst nf nw e1 e2 G 0 0 = 0 := by unfold dst; rw [if_pos ⟨rfl, hf⟩]
        rw [d0, if_neg (by decide), via_0 ((dD_lvl (by omega)).mpr d0)]
      · have d9 : dst nf nw e1 e2 G 0 f = 99 := by unfold dst; rw [if_neg (fun q => e q.1)]
        rw [d9, if_pos rfl]
    · exfalso
      unfold dst at p q
      by_cases e : f = 0 ∧ 0 < nf
      · rw [if_pos e] at q; exact q rfl
      · rw [if_neg e] at p; exact p rfl
    · rw [dSet_k (by decide), b1' 57 (by decide), a1 57 (by decide)]
      exact hl i hi
  refine v_X10_lay_57 ⟨fun ne => ⟨fun q => start 0 _ (((LyF.rf m).set57 (Or.inl rfl)).set57 (Or.inr rfl)) rfl (fun i hi => ?_), fun q => start 1 _ (((LyF.rf m).set57 (Or.inl rfl)).set57 (Or.inr rfl)) rfl (fun i hi => ?_)⟩, fun ee => ?_⟩
  · rw [dSet_s, bt_0]
    have : ¬ i < nf := by omega
    simp [this]
  · rw [dSet_s]
    have e := bt_1 (u := 0) (i := i) (by decide)
    rw [show b1 0 = (1 : Int32) by decide] at e
    rw [e]
    unfold dst
    by_cases z : i = 0
    · subst z
      have : 0 < nf := by omega
      simp [this]
    · rw [if_neg (fun q => z q.1)]
      simp [z]
  · have e : x1 = m.1 57 1 := Int32.toInt_inj.mp ee
    have := hI (by rw [← e]; exact hx)
    rw [← e, hG] at this
    exact hQ m (LyF.rf m) e.symm this
end CLY
