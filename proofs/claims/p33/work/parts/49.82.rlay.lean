/-! THE REFERENCE's ways, exactly -/
theorem y_in {x0 x1 x2 : Int32} {m : dM} {Q : Int32 → dM → Prop} (hT : x1.toInt ≤ x0.toInt ∧ x0.toInt ≤ x2.toInt → Q 1 m) (hF : ¬ (x1.toInt ≤ x0.toInt ∧ x0.toInt ≤ x2.toInt) → Q 0 m) : c_X12_in 1 x0 x1 x2 m Q :=
  v_X12_in ⟨fun q => v_X12_in_14 (hF (by omega)), fun q => ⟨fun q2 => v_X12_in_14 (hF (by omega)), fun q2 => hT ⟨q, q2⟩⟩⟩
theorem y_idx {a x c : Int32} {C s w : Nat} (hc : c.toInt = (C : Int)) (ha : a.toInt = (s : Int)) (hs : s ≤ 1) (hx : x.toInt = (w : Int)) (hC : C ≤ 10) (hw : w ≤ 1000) : (c * a + x).toInt = ((C * s + w : Nat) : Int) := by
  have hm : (c * a).toInt = (C * s : Nat) := by
    have h0 : C * s ≤ 10 := by
      match s, hs with
      | 0, _ => simp
      | 1, _ => simpa using hC
    rw [Int.natCast_mul]
    exact dMulE hc ha (by rw [← Int.natCast_mul]; omega) (by rw [← Int.natCast_mul]; omega)
  have hm0 : C * s ≤ 10 := by
    match s, hs with
    | 0, _ => simp
    | 1, _ => simpa using hC
  have := dAddE (X := ((C * s : Nat) : Int)) (Y := (w : Int)) hm hx (by omega) (by omega)
  omega
/-- the house, as far as ways know of it -/
def HR (nf nw : Nat) (e1 e2 : Nat → Nat) (s : Nat) (m : dM) : Prop := ((m.1 70 18).toInt = (s : Int) ∧ s ≤ 1) ∧ ((m.1 80 s).toInt = (nf : Int) ∧ nf ≤ 7) ∧ ((m.1 82 s).toInt = (nw : Int) ∧ nw ≤ 10) ∧ ∀ w : Nat, w < nw → ((m.1 83 (10 * s + w)).toInt = (e1 w : Int) ∧ (m.1 84 (10 * s + w)).toInt = (e2 w : Int)) ∧ e1 w < nf ∧ e2 w < nf ∧ e1 w ≠ e2 w
def RG (nw : Nat) (G : Nat → Bool) (m : dM) : Prop := ∀ w : Nat, w < nw → (m.1 108 (10 + w)).toInt = if G w then 1 else 0
section RLY
variable {nf nw s : Nat} {e1 e2 : Nat → Nat} {G : Nat → Bool}
theorem y_isWire {x1 : Int32} {m : dM} {Q : Int32 → dM → Prop} (hH : HR nf nw e1 e2 s m) (hT : 0 ≤ x1.toInt ∧ x1.toInt < nw → Q 1 m) (hF : ¬ (0 ≤ x1.toInt ∧ x1.toInt < nw) → Q 0 m) : c_X12_isWire_70 2 x1 m Q := by
  have a := hH.1
  have b := hH.2.2.1
  have f := dSubE (X := (nw : Int)) (Y := 1) (x := m.1 82 s) (y := (1 : Int32)) b.1 (by decide) (by omega) (by omega)
  refine v_X12_isWire_70 ⟨by omega, ?_⟩
  rw [d_cn a.1]
  have z : (0 : Int32).toInt = 0 := by decide
  exact y_in (fun q => ⟨Or.inr rfl, hT (by omega)⟩) (fun q => ⟨Or.inl rfl, hF (by omega)⟩)
theorem y_isWhole {x1 : Int32} {w : Nat} {m : dM} {Q : Int32 → dM → Prop} (hH : HR nf nw e1 e2 s m) (hG : RG nw G m) (hx : x1.toInt = (w : Int)) (hw : w < nw) (hT : G w = false → Q 1 m) (hF : G w = true → Q 0 m) : c_X12_isWhole_70 3 x1 m Q := by
  have b := hH.2.2.1
  refine v_X12_isWhole_70 (y_isWire hH (fun _ => ⟨fun q => absurd q (by decide), fun _ => ?_⟩) (fun q => by exfalso; omega))
  have e := d_add (k := x1) (K := w) (x := (10 : Int32)) (i := 10) (by decide) hx (by omega)
  have g := hG w hw
  refine ⟨by omega, ?_⟩
  rw [d_cn e, g]
  cases q : G w with
  | true => exact ⟨fun _ => v_X12_isWhole_70_24 (hF q), fun z => absurd z (by decide)⟩
  | false => exact ⟨fun z => absurd rfl z, fun _ => hT q⟩
theorem y_otherEnd {x1 x2 : Int32} {w f : Nat} {m : dM} {Q : Int32 → dM → Prop} (hH : HR nf nw e1 e2 s m) (hx : x1.toInt = (w : Int)) (hw : w < nw) (hf : x2.toInt = (f : Int)) (hT : ∀ r : Int32, (e1 w = f ∨ e2 w = f) → r.toInt = (ot e1 e2 w f : Int) → Q r m) (hF : ¬ (e1 w = f ∨ e2 w = f) → Q (-1) m) : c_X12_otherEnd_70 1 x1 x2 m Q := by
  have a := hH.1
  have b := hH.2.2.1
  obtain ⟨⟨w1, w2⟩, q1, q2, q3⟩ := hH.2.2.2 w hw
  have e := y_idx (C := 10) (c := (10 : Int32)) (by decide) a.1 a.2 hx (by decide) (by omega)
  refine v_X12_otherEnd_70 ?_
  rw [d_cn e, w1, w2]
  refine ⟨by omega, fun n1 => ⟨by omega, fun n2 => hF (by omega), fun n2 => ⟨by omega, hT _ (by omega) ?_⟩⟩, fun n1 => ⟨by omega, hT _ (by omega) ?_⟩⟩
  · unfold ot
    rw [w1, if_neg (by omega)]
  · unfold ot
    rw [w2, if_pos (by omega)]
/-- how far all are, and their ways -/
def RyF (d : Nat → Nat) (m : dM) : Prop := ∀ f : Nat, f < 7 → (m.1 109 f).toInt = (d f : Int)
theorem y_wireFrom {x1 : Int32} {n f : Nat} {m : dM} {Q : Int32 → dM → Prop} (hH : HR nf nw e1 e2 s m) (hG : RG nw G m) (hD : RyF (dD nf nw e1 e2 G) m) (hx : x1.toInt = (f : Int)) (hf : f < 7) (hn : n < 6) (hf1 : dD nf nw e1 e2 G f = n + 1) (hQ : ∀ r : Int32, r.toInt = (nx nf nw e1 e2 G f : Int) → Q r m) : c_X12_wireFrom_70 4 x1 m Q := by
  have a := hH.1
  have b := hH.2.2.1
  have ok := nx_ok hn hf1
  have loop : ∀ (u k : Nat) (x2 : Int32), k + u = nw → x2.toInt = (k : Int) → (∀ j : Nat, j < k → nxp nf nw e1 e2 G f j = false) → j_X12_wireFrom_70_2 4 x1 x2 m Q := by
    intro u
    induction u with
    | zero =>
      intro k x2 hk h2 hno
      exfalso
      have := hno (nx nf nw e1 e2 G f) (by omega)
      have z : nxp nf nw e1 e2 G f (nx nf nw e1 e2 G f) = true := by
        unfold nxp
        rw [Bool.and_eq_true, decide_eq_true_eq]
        exact ⟨ok.2.1, by omega⟩
      rw [this] at z
      cases z
    | succ u ih =>
      intro k x2 hk h2 hno
      have on : nxp nf nw e1 e2 G f k = false → j_X12_wireFrom_70_56 4 x1 x2 m Q := fun q => v_X12_wireFrom_70_56 (ih (k + 1) _ (by omega) (d_inc h2 (by omega)) (fun j hj => by
        by_cases e : j = k
        · rw [e]; exact q
        · exact hno j (by omega)))
      refine v_X12_wireFrom_70_2 ?_
      rw [d_cn a.1, b.1, h2]
      refine ⟨by omega, fun q => by exfalso; omega, fun _ => y_isWhole hH hG h2 (by omega) (fun hg => ⟨fun _ => ?_, fun q => absurd q (by decide)⟩) (fun hg => ⟨fun q => absurd rfl q, fun _ => on ?_⟩)⟩
      · refine Wp.deep (y_otherEnd hH h2 (by omega) hx (fun r ht hr => ⟨fun q => by exfalso; omega, fun _ => ?_⟩) (fun no => ⟨fun _ => on ?_, fun q => absurd q (by decide)⟩)) (Nat.le_of_ble_eq_true rfl)
        · have hE := (hH.2.2.2 k (by omega)).2
          have ho : ot e1 e2 k f < 7 := by unfold ot; have := hH.2.1.2; split <;> omega
          have d1 := hD _ ho
          have d2 := hD f hf
          have fs := dSubE (X := ((n + 1 : Nat) : Int)) (Y := 1) (x := m.1 109 f) (y := (1 : Int32)) (by rw [d2, hf1]) (by decide) (by omega) (by omega)
          rw [d_cn hr, d_cn hx, d1, fs]
          have tc : tch e1 e2 G k f = true := by unfold tch; rw [hg]; rcases ht with q | q <;> simp [q]
          refine ⟨by omega, by omega, fun ne => on ?_, fun ee => hQ x2 ?_⟩
          · unfold nxp
            rw [tc, Bool.true_and]
            exact decide_eq_false (by omega)
          · rw [h2]
            have := fw_eq (p := nxp nf nw e1 e2 G f) (i := k) (by unfold nxp; rw [tc, Bool.true_and]; exact decide_eq_true (by omega)) hno nw (by omega)
            unfold nx
            rw [this]
        · unfold nxp tch
          simp only [not_or] at no
          simp [no.1, no.2]
      · unfold nxp tch
        rw [hg]
        simp
  exact v_X12_wireFrom_70 (loop nw 0 _ (by omega) (by decide) (fun j hj => absurd hj (Nat.not_lt_zero j)))
def RLF (m0 m : dM) : Prop := (∀ k : Nat, k ≠ 109 → k ≠ 110 → m.1 k = m0.1 k) ∧ m.2 = m0.2
theorem HR.rf {m m' : dM} (h : HR nf nw e1 e2 s m) (hF : RLF m m') : HR nf nw e1 e2 s m' := by
  unfold HR
  rw [hF.1 70 (by decide) (by decide), hF.1 80 (by decide) (by decide), hF.1 82 (by decide) (by decide), hF.1 83 (by decide) (by decide), hF.1 84 (by decide) (by decide)]
  exact h
theorem RG.rf {m m' : dM} (h : RG nw G m) (hF : RLF m m') : RG nw G m' := by
  unfold RG
  rw [hF.1 108 (by decide) (by decide)]
  exact h
theorem RLF.set {m0 m : dM} {k j : Nat} {v : Int32} (h : RLF m0 m) (hk : k = 109 ∨ k = 110) : RLF m0 (dSet m k j v) := ⟨fun a h1 h2 => by rw [dSet_k (by omega)]; exact h.1 a h1 h2, h.2⟩
theorem RyF.congr {d d' : Nat → Nat} {m : dM} (h : RyF d m) (e : ∀ f : Nat, d' f = d f) : RyF d' m := fun f hf => by rw [e f]; exact h f hf
theorem y_fillsWays {m : dM} {Q : dM → Prop} (hH : HR nf nw e1 e2 s m) (hG : RG nw G m) (hQ : ∀ m' : dM, RLF m m' → RyF (dD nf nw e1 e2 G) m' → (∀ f : Nat, f < 7 → m'.1 110 f = via nf nw e1 e2 G f) → Q m') : c_X12_fillsWays_70 5 m Q := by
  have a := hH.1
  have hnf := hH.2.1
  have hnw := hH.2.2.1
  have hE : ∀ w : Nat, w < nw → e1 w < nf ∧ e2 w < nf := fun w hw => ⟨(hH.2.2.2 w hw).2.1, (hH.2.2.2 w hw).2.2.1⟩
  -- the ways
  have l191 : ∀ (u n : Nat) (x1 : Int32) (M : dM), n + u = 7 → 1 ≤ n → x1.toInt = (n : Int) → RLF m M → RyF (dD nf nw e1 e2 G) M → (∀ g : Nat, g < 7 → M.1 110 g = if dD nf nw e1 e2 G g < n then via nf nw e1 e2 G g else 0) → j_X12_fillsWays_70_191 5 x1 M Q := by
    intro u
    induction u with
    | zero =>
      intro n x1 M hn h1n h1 hF hD hv
      refine v_X12_fillsWays_70_191 ⟨fun _ => hQ M hF hD (fun f hf => ?_), fun q => by exfalso; omega⟩
      rw [hv f hf]
      rcases dD_le (nf := nf) (nw := nw) (e1 := e1) (e2 := e2) (G := G) (f := f) with q | q
      · rw [if_pos (by omega)]
      · rw [if_neg (by omega), via_99 q]
    | succ u ih =>
      intro n x1 M hn h1n h1 hF hD hv
      refine v_X12_fillsWays_70_191 ⟨fun q => by exfalso; omega, fun _ => ?_⟩
      have l199 : ∀ (t f : Nat) (x2 : Int32) (M1 : dM), f + t = 7 → x2.toInt = (f : Int) → RLF m M1 → RyF (dD nf nw e1 e2 G) M1 → (∀ g : Nat, g < 7 → M1.1 110 g = if dD nf nw e1 e2 G g < n ∨ (dD nf nw e1 e2 G g = n ∧ g < f) then via nf nw e1 e2 G g else 0) → j_X12_fillsWays_70_199 5 x1 x2 M1 Q := by
        intro t
        induction t with
        | zero =>
          intro f x2 M1 hf h2 hF1 hD1 hv1
          refine v_X12_fillsWays_70_199 ⟨fun _ => ih (n + 1) _ M1 (by omega) (by omega) (d_inc h1 (by omega)) hF1 hD1 (fun g hg => ?_), fun q => by exfalso; omega⟩
          rw [hv1 g hg]
          by_cases z : dD nf nw e1 e2 G g < n + 1
          · rw [if_pos z, if_pos (by omega)]
          · rw [if_neg z, if_neg (by omega)]
        | succ t ih2 =>
          intro f x2 M1 hf h2 hF1 hD1 hv1
          have hH1 := hH.rf hF1
          have hG1 := hG.rf hF1
          refine v_X12_fillsWays_70_199 ⟨fun q => by exfalso; omega, fun _ => ?_⟩
          rw [d_cn h2, hD1 f (by omega), h1]
          have on : ∀ M2 : dM, RLF m M2 → RyF (dD nf nw e1 e2 G) M2 → (∀ g : Nat, g < 7 → M2.1 110 g = if dD nf nw e1 e2 G g < n ∨ (dD nf nw e1 e2 G g = n ∧ g < f + 1) then via nf nw e1 e2 G g else 0) → j_X12_fillsWays_70_245 5 x1 x2 M2 Q := fun M2 p q r => v_X12_fillsWays_70_245 (ih2 (f + 1) _ M2 (by omega) (d_inc h2 (by omega)) p q r)
          refine ⟨by omega, fun ee => ?_, fun ne => on M1 hF1 hD1 (fun g hg => ?_)⟩
          · have hdf : dD nf nw e1 e2 G f = (n - 1) + 1 := by omega
            obtain ⟨k1, k2, k3⟩ := nx_ok (by omega) hdf
            refine y_wireFrom hH1 hG1 hD1 h2 (by omega) (by omega : n - 1 < 6) hdf (fun r hr => Wp.deep (y_otherEnd hH1 hr k1 h2 (fun r2 ht hr2 => ?_) (fun no => ?_)) (Nat.le_of_ble_eq_true rfl))
            · have ho : ot e1 e2 (nx nf nw e1 e2 G f) f < 7 := by unfold ot; have := hE _ k1; split <;> omega
              rw [d_cn hr2, b1_of hr, hv1 _ ho, if_pos (Or.inl (by omega)), ← via_s (by omega) hdf]
              refine ⟨by omega, by omega, on _ (hF1.set (Or.inr rfl)) (fun g hg => by rw [dSet_k (by decide)]; exact hD1 g hg) (fun g hg => ?_)⟩
              by_cases e : g = f
              · subst e
                rw [dSet_s, if_pos (Or.inr ⟨by omega, by omega⟩)]
              · rw [dSet_j e, hv1 g hg]
                by_cases z : dD nf nw e1 e2 G g < n ∨ (dD nf nw e1 e2 G g = n ∧ g < f)
                · rw [if_pos z, if_pos (by omega)]
                · rw [if_neg z, if_neg (by omega)]
            · exfalso
              unfold tch at k2
              rw [Bool.and_eq_true, Bool.or_eq_true, decide_eq_true_eq, decide_eq_true_eq] at k2
              exact no k2.2
          · rw [hv1 g hg]
            by_cases z : dD nf nw e1 e2 G g < n ∨ (dD nf nw e1 e2 G g = n ∧ g < f)
            · rw [if_pos z, if_pos (by omega)]
            · rw [if_neg z, if_neg (fun q => by rcases q with q | q; exact z (Or.inl q); exact z (Or.inr ⟨q.1, by
              have hne : g ≠ f := fun e => by
                subst e
                omega
              omega⟩))]
      exact l199 7 0 _ M rfl (by decide) hF hD (fun g hg => by
        rw [hv g hg]
        by_cases z : dD nf nw e1 e2 G g < n
        · rw [if_pos z, if_pos (Or.inl z)]
        · rw [if_neg z, if_neg (by omega)])
  -- how far
  have l51 : ∀ (u n : Nat) (x1 : Int32) (M : dM), n + u = 6 → x1.toInt = ((n + 1 : Nat) : Int) → RLF m M → RyF (dst nf nw e1 e2 G n) M → (∀ g : Nat, g < 7 → M.1 110 g = 0) → j_X12_fillsWays_70_51 5 x1 M Q := by
    intro u
    induction u with
    | zero =>
      intro n x1 M hn h1 hF hD hv
      have e6 : n = 6 := by omega
      subst e6
      refine v_X12_fillsWays_70_51 ⟨fun _ => l191 6 1 _ M rfl (by omega) (by decide) hF hD (fun g hg => ?_), fun q => by exfalso; omega⟩
      rw [hv g hg]
      by_cases z : dD nf nw e1 e2 G g < 1
      · rw [if_pos z, via_0 (by omega)]
      · rw [if_neg z]
    | succ u ih =>
      intro n x1 M hn h1 hF hD hv
      refine v_X12_fillsWays_70_51 ⟨fun q => by exfalso; omega, fun _ => ?_⟩
      have l59 : ∀ (t k : Nat) (x2 : Int32) (M1 : dM), k + t = nw → x2.toInt = (k : Int) → RLF m M1 → RyF (dsk nf nw e1 e2 G n k) M1 → (∀ g : Nat, g < 7 → M1.1 110 g = 0) → j_X12_fillsWays_70_59 5 x1 x2 M1 Q := by
        intro t
        induction t with
        | zero =>
          intro k x2 M1 hk h2 hF1 hD1 hv1
          have ek : k = nw := by omega
          have hH1 := hH.rf hF1
          refine v_X12_fillsWays_70_59 ?_
          rw [d_cn hH1.1.1, hH1.2.2.1.1, hH1.1.1]
          refine ⟨by omega, fun _ => ih (n + 1) _ M1 (by omega) (d_inc h1 (by omega)) hF1 (hD1.congr (fun f => by rw [ek, dsk_w])) hv1, fun q => by exfalso; omega⟩
        | succ t ih2 =>
          intro k x2 M1 hk h2 hF1 hD1 hv1
          have hH1 := hH.rf hF1
          have hG1 := hG.rf hF1
          obtain ⟨⟨w1, w2⟩, q1, q2, q3⟩ := hH1.2.2.2 k (by omega)
          have d1 := hD1 (e1 k) (by omega)
          have d2 := hD1 (e2 k) (by omega)
          have on : ∀ M2 : dM, RLF m M2 → RyF (dsk nf nw e1 e2 G n (k + 1)) M2 → (∀ g : Nat, g < 7 → M2.1 110 g = 0) → j_X12_fillsWays_70_177 5 x1 x2 M2 Q := fun M2 p q r => v_X12_fillsWays_70_177 (ih2 (k + 1) _ M2 (by omega) (d_inc h2 (by omega)) p q r)
          have fs := dSubE (X := x1.toInt) (Y := 1) (x := x1) (y := (1 : Int32)) rfl (by decide) (by omega) (by omega)
          have fs' : (x1 - (1 : Int32)).toInt = (n : Int) := by omega
          have ei := y_idx (C := 10) (c := (10 : Int32)) (by decide) hH1.1.1 hH1.1.2 h2 (by decide) (by omega)
          refine v_X12_fillsWays_70_59 ?_
          rw [d_cn hH1.1.1, hH1.2.2.1.1, hH1.1.1]
          refine ⟨by omega, fun q => by exfalso; omega, fun _ => Wp.deep (y_isWhole hH1 hG1 h2 (by omega) (fun hg => ⟨fun _ => ?_, fun q => absurd q (by decide)⟩) (fun hg => ⟨fun q => absurd rfl q, fun _ => on M1 hF1 (hD1.congr (dsk_gone (by omega) hg)) hv1⟩)) (Nat.le_of_ble_eq_true rfl)⟩
          rw [d_cn ei, d_cn w1, d_cn w2, d1, d2, fs']
          -- the other way round
          have back : ∀ M2 : dM, RLF m M2 → RyF (dsk nf nw e1 e2 G n k) M2 → (∀ g : Nat, g < 7 → M2.1 110 g = 0) → ¬ (dsk nf nw e1 e2 G n k (e2 k) = 99 ∧ dsk nf nw e1 e2 G n k (e1 k) = n) → j_X12_fillsWays_70_146 5 x1 x2 (M1.1 83 (10 * s + k)) (M1.1 84 (10 * s + k)) M2 Q := fun M2 p q r no => by
            refine v_X12_fillsWays_70_146 ?_
            rw [d_cn w1, d_cn w2, q (e1 k) (by omega), q (e2 k) (by omega), fs']
            refine ⟨by omega, fun ne => on M2 p (q.congr (dsk_same (by omega) (fun z => by omega) no)) r, fun ee => ⟨by omega, fun ne => on M2 p (q.congr (dsk_same (by omega) (fun z => by omega) no)) r, fun e9 => ⟨by omega, on _ (p.set (Or.inl rfl)) (fun f hf => ?_) (fun g hg => by rw [dSet_k (by decide)]; exact r g hg)⟩⟩⟩
            have st := dsk_set (n := n) (k := k) (f0 := e1 k) (g0 := e2 k) (nf := nf) (nw := nw) (e1 := e1) (e2 := e2) (by omega) hg (Or.inl ⟨rfl, rfl⟩) q3 (by omega) ((dsk_lvl (k := k) (by omega)).mp (by omega)) f
            rw [st]
            by_cases e : f = e1 k
            · rw [if_pos e, e, dSet_s, h1]
            · rw [if_neg e, dSet_j e]; exact q f hf
          refine ⟨by omega, by omega, by omega, fun ne => back M1 hF1 hD1 hv1 (fun z => by omega), fun ee => ⟨by omega, fun ne => back M1 hF1 hD1 hv1 (fun z => by omega), fun e9 => ⟨by omega, ?_⟩⟩⟩
          have st := dsk_set (n := n) (k := k) (f0 := e2 k) (g0 := e1 k) (nf := nf) (nw := nw) (e1 := e1) (e2 := e2) (by omega) hg (Or.inr ⟨rfl, rfl⟩) (fun e => q3 e.symm) (by omega) ((dsk_lvl (k := k) (by omega)).mp (by omega))
          refine v_X12_fillsWays_70_146 ?_
          rw [d_cn w1, d_cn w2, dSet_s, h1, fs']
          refine ⟨by omega, fun _ => on _ (hF1.set (Or.inl rfl)) (fun f hf => ?_) (fun g hg => by rw [dSet_k (by decide)]; exact hv1 g hg), fun q => by exfalso; omega⟩
          rw [st f]
          by_cases e : f = e2 k
          · rw [if_pos e, e, dSet_s, h1]
          · rw [if_neg e, dSet_j e]; exact hD1 f hf
      exact l59 nw 0 _ M (by omega) (by decide) hF (hD.congr (fun f => dsk_0)) hv
  -- the start
  have l2 : ∀ (u f : Nat) (x1 : Int32) (M : dM), f + u = 7 → x1.toInt = (f : Int) → RLF m M → (∀ g : Nat, g < f → (M.1 109 g).toInt = (dst nf nw e1 e2 G 0 g : Int) ∧ M.1 110 g = 0) → j_X12_fillsWays_70_2 5 x1 M Q := by
    intro u
    induction u with
    | zero =>
      intro f x1 M hf h1 hF hv
      exact v_X12_fillsWays_70_2 ⟨fun _ => l51 6 0 _ M rfl (by decide) hF (fun g hg => (hv g (by omega)).1) (fun g hg => (hv g (by omega)).2), fun q => by exfalso; omega⟩
    | succ u ih =>
      intro f x1 M hf h1 hF hv
      have hHM := hH.rf hF
      have on : ∀ v : Int32, v.toInt = (dst nf nw e1 e2 G 0 f : Int) → j_X12_fillsWays_70_2 5 (x1 + (1 : Int32)) (dSet (dSet M 109 f v) 110 f (0 : Int32)) Q := fun v hv' => ih (f + 1) _ _ (by omega) (d_inc h1 (by omega)) ((hF.set (Or.inl rfl)).set (Or.inr rfl)) (fun g hg => by
        by_cases e : g = f
        · subst e
          rw [dSet_k (by decide), dSet_s, dSet_s]
          exact ⟨hv', rfl⟩
        · rw [dSet_j e, dSet_j e, dSet_j e, dSet_j e]
          exact hv g (by omega))
      refine v_X12_fillsWays_70_2 ⟨fun q => by exfalso; omega, fun _ => ⟨fun ne => ⟨by omega, by omega, ?_⟩, fun ee => ?_⟩⟩
      · rw [d_cn h1]
        refine on 99 ?_
        unfold dst
        rw [if_neg (by omega)]
        rfl
      · rw [d_cn h1, d_cn hHM.1.1, hHM.2.1.1, hHM.1.1]
        refine ⟨by omega, fun q => ⟨by omega, by omega, on 99 ?_⟩, fun q => ⟨by omega, by omega, on 0 ?_⟩⟩
        · unfold dst
          rw [if_neg (by omega)]
          rfl
        · unfold dst
          rw [if_pos (by omega)]
          rfl
  exact v_X12_fillsWays_70 (l2 7 0 _ m rfl (by decide) ⟨fun _ _ _ => rfl, rfl⟩ (fun g hg => absurd hg (Nat.not_lt_zero g)))
end RLY
