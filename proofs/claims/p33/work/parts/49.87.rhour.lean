/-! THE REFERENCE: what is on, what is in the wires, what the laws tell, an hour -/
def bi (b : Bool) : Int32 := cond b 1 0
theorem bi_t : (bi true).toInt = 1 := by decide
theorem bi_f : (bi false).toInt = 0 := by decide
theorem bi_if (b : Bool) : (bi b).toInt = if b then 1 else 0 := by cases b <;> decide
def RH (H : Ho) (s : Nat) (m : dM) : Prop := HR (hoF H) (hoW H) (hoA H) (hoB H) s m ∧ (m.1 86 s).toInt = (hoU H : Int) ∧ (∀ f : Nat, f < hoF H → m.1 81 (7 * s + f) = hoT H f) ∧ (∀ w : Nat, w < hoW H → m.1 85 (10 * s + w) = hoR H w) ∧ (∀ u : Nat, u < hoU H → (m.1 87 (8 * s + u)).toInt = (hoH H u : Int) ∧ m.1 88 (8 * s + u) = hoM H u ∧ m.1 89 (8 * s + u) = hoO H u ∧ m.1 90 (8 * s + u) = hoI H u) ∧ (m.1 91 s = hoS H ∧ m.1 92 s = hoP H ∧ m.1 93 s = hoC H ∧ m.1 94 s = hoE H) ∧ ∀ k : Nat, k < 4 → LR m s k (hoL H k)
def RW (H : Ho) (s : Nat) (m : dM) : Prop := hOk H ∧ RH H s m
/-- how it stands, in a row -/
def RZ (H : Ho) (r : Nat) (m : dM) (S : Zt) : Prop := (m.1 r 55 = szH S ∧ m.1 r 56 = szC S ∧ m.1 r 57 = szQ S) ∧ (∀ w : Nat, w < hoW H → m.1 r w = szR S w ∧ m.1 r (10 + w) = bi (bt (szG S) w) ∧ m.1 r (20 + w) = szE S w ∧ m.1 r (30 + w) = bi (bt (szP S) w)) ∧ (∀ f : Nat, f < hoF H → m.1 r (40 + f) = szD S f) ∧ ∀ u : Nat, u < hoU H → m.1 r (47 + u) = bi (bt (szA S) u)
/-- ways filled for these -/
def RL (H : Ho) (g : Int32) (m : dM) : Prop := RyF (wyD H g) m ∧ ∀ f : Nat, f < 7 → m.1 110 f = wyV H g f
/-- laws alone have been asked -/
def XaF (m0 m : dM) : Prop := (∀ k : Nat, k ≠ 70 → k ≠ 105 → k ≠ 106 → m.1 k = m0.1 k) ∧ (∀ j : Nat, j ≠ 53 → m.1 70 j = m0.1 70 j) ∧ m.2 = m0.2
theorem XaF.rf (m : dM) : XaF m m := ⟨fun _ _ _ _ => rfl, fun _ _ => rfl, rfl⟩
theorem XaF.tr {a b c : dM} (h : XaF a b) (h' : XaF b c) : XaF a c := ⟨fun k q1 q2 q3 => (h'.1 k q1 q2 q3).trans (h.1 k q1 q2 q3), fun j q => (h'.2.1 j q).trans (h.2.1 j q), h'.2.2.trans h.2.2⟩
theorem XaF.q {a b c : dM} (h : XaF a b) (h' : QF b c) : XaF a c := ⟨fun k q1 q2 q3 => (h'.1 k q3 q1).trans (h.1 k q1 q2 q3), fun j q => (h'.2.1 j q).trans (h.2.1 j q), h'.2.2.trans h.2.2⟩
theorem XaF.set {a b : dM} {j : Nat} {v : Int32} (h : XaF a b) : XaF a (dSet b 105 j v) := ⟨fun k q1 q2 q3 => by rw [dSet_k q2]; exact h.1 k q1 q2 q3, fun i q => by rw [dSet_k (by decide)]; exact h.2.1 i q, h.2.2⟩
section RHO
variable {H : Ho} {S : Zt} {s : Nat}
theorem RH.of {m m' : dM} (h : RH H s m) (e : ∀ k : Nat, 80 ≤ k → k ≤ 103 → m'.1 k = m.1 k) (e18 : m'.1 70 18 = m.1 70 18) : RH H s m' := by
  obtain ⟨a1, a2, a3, a4, a5, a6, a7⟩ := h
  refine ⟨?_, ?_, ?_, ?_, ?_, ?_, fun k hk => (a7 k hk).of (fun c p q => e c (by omega) (by omega))⟩
  · unfold HR
    rw [e18, e 80 (by omega) (by omega), e 82 (by omega) (by omega), e 83 (by omega) (by omega), e 84 (by omega) (by omega)]; exact a1
  · rw [e 86 (by omega) (by omega)]; exact a2
  · rw [e 81 (by omega) (by omega)]; exact a3
  · rw [e 85 (by omega) (by omega)]; exact a4
  · rw [e 87 (by omega) (by omega), e 88 (by omega) (by omega), e 89 (by omega) (by omega), e 90 (by omega) (by omega)]; exact a5
  · rw [e 91 (by omega) (by omega), e 92 (by omega) (by omega), e 93 (by omega) (by omega), e 94 (by omega) (by omega)]; exact a6
theorem RW.xa {m m' : dM} (h : RW H s m) (hF : XaF m m') : RW H s m' := ⟨h.1, h.2.of (fun k a b => hF.1 k (by omega) (by omega) (by omega)) (hF.2.1 18 (by decide))⟩
theorem RZ.of {r : Nat} {m m' : dM} (h : RZ H r m S) (e : m'.1 r = m.1 r) : RZ H r m' S := by
  unfold RZ
  rw [e]
  exact h
theorem RZ.xa {r : Nat} {m m' : dM} (h : RZ H r m S) (hF : XaF m m') (hr : r = 107 ∨ r = 108) : RZ H r m' S := h.of (hF.1 r (by omega) (by omega) (by omega))
theorem RL.of {g : Int32} {m m' : dM} (h : RL H g m) (e : m'.1 109 = m.1 109) (e' : m'.1 110 = m.1 110) : RL H g m' := by
  unfold RL RyF
  rw [e, e']
  exact h
theorem RL.xa {g : Int32} {m m' : dM} (h : RL H g m) (hF : XaF m m') : RL H g m' := h.of (hF.1 109 (by decide) (by decide) (by decide)) (hF.1 110 (by decide) (by decide) (by decide))
theorem y_isLit {x : Int32} {g : Int32} {f : Nat} {m : dM} {Q : Int32 → dM → Prop} (hL : RL H g m) (hx : x.toInt = (f : Int)) (hf : f < 7) (hT : lt H g f = true → Q 1 m) (hF : lt H g f = false → Q 0 m) : c_X12_isLit_70 1 x m Q := by
  have d := hL.1 f hf
  have b := dD_le (nf := hoF H) (nw := hoW H) (e1 := hoA H) (e2 := hoB H) (G := bt g) (f := f)
  have b : wyD H g f ≤ 6 ∨ wyD H g f = 99 := b
  refine v_X12_isLit_70 ?_
  rw [d_cn hx, d]
  refine ⟨by omega, fun q => hF ?_, fun q => hT ?_⟩
  · unfold lt
    exact decide_eq_false (by omega)
  · unfold lt
    exact decide_eq_true (by omega)
theorem y_looks {x1 x2 : Int32} {m : dM} {Q : dM → Prop} (hQ : ∀ m' : dM, (∀ k : Nat, k ≠ 105 → m'.1 k = m.1 k) → m'.2 = m.2 → (∀ j : Nat, j < 9 → m'.1 105 j = vz x1 (dy (m.1 108 55)) x2 j) → Q m') : c_X12_looks_70 1 x1 x2 m Q := by
  have loop : ∀ (t i : Nat) (x3 : Int32) (M : dM), i + t = 9 → x3.toInt = (i : Int) → (∀ k : Nat, k ≠ 105 → M.1 k = m.1 k) → M.2 = m.2 → (∀ j : Nat, j < i → M.1 105 j = 0) → j_X12_looks_70_2 1 x1 x2 x3 M Q := by
    intro t
    induction t with
    | zero =>
      intro i x3 M hi h3 hk h2 hv
      refine v_X12_looks_70_2 ⟨fun _ => hQ _ (fun k q => by rw [dSet_k q, dSet_k q, dSet_k q]; exact hk k q) h2 (fun j hj => ?_), fun q => by exfalso; omega⟩
      rw [hk 108 (by decide)]
      unfold vz
      by_cases q8 : j = 8
      · subst q8
        rw [dSet_s]
        rfl
      · rw [dSet_j q8]
        by_cases q4 : j = 4
        · subst q4
          rw [dSet_s]
          rfl
        · rw [dSet_j q4]
          by_cases q3 : j = 3
          · subst q3
            rw [dSet_s]
            rfl
          · rw [dSet_j q3, hv j (by omega), if_neg q3, if_neg q4, if_neg q8]
    | succ t ih =>
      intro i x3 M hi h3 hk h2 hv
      refine v_X12_looks_70_2 ⟨fun q => by exfalso; omega, fun _ => ⟨by omega, ?_⟩⟩
      rw [d_cn h3]
      refine ih (i + 1) _ _ (by omega) (d_inc h3 (by omega)) (fun k q => by rw [dSet_k q]; exact hk k q) h2 (fun j hj => ?_)
      by_cases e : j = i
      · subst e; rw [dSet_s]
      · rw [dSet_j e]; exact hv j (by omega)
  exact v_X12_looks_70 (loop 9 0 _ m rfl (by decide) (fun _ _ => rfl) rfl (fun j hj => absurd hj (Nat.not_lt_zero j)))
theorem y_tellr {k : Nat} {v : Nat → Int32} {x1 x2 : Int32} {m : dM} {Q : Int32 → dM → Prop} (hH : RH H s m) (hk : k < 4) (hx : x1.toInt = (k : Int)) (hv : ∀ j : Nat, j < 9 → m.1 105 j = v j) (hp : x2 = (pv (dfl k) v).getD 0) (hQ : ∀ m' : dM, QF m m' → Q (lW (hoL H k) v) m') : c_X12_lawTells_70 2 x1 x2 m Q :=
  y_lawTells (hH.2.2.2.2.2.2 k hk) hH.1.1 hk hx (by rw [hp]; unfold pv; rw [evF_cv hv]) (fun m' hF => by rw [lW_cv hv]; exact hQ m' hF)
theorem rset {m : dM} {v : Nat → Int32} {a : Nat} {x y : Int32} (h : ∀ j : Nat, j < 9 → m.1 105 j = v j) (e : x = y) : ∀ j : Nat, j < 9 → (dSet m 105 a x).1 105 j = upd v a y j := fun j hj => by
  rw [dSet_e, upd_j]
  by_cases q : j = a
  · rw [if_pos ⟨rfl, q⟩, if_pos q, e]
  · rw [if_neg (fun z => q z.2), if_neg q]; exact h j hj
theorem y_within {x T : Int32} {m : dM} {Q : Int32 → dM → Prop} (hQ : Q (cl T x) m) : c_X12_within 1 x (0 : Int32) T m Q := by
  have e0 : (0 : Int32).toInt = 0 := by decide
  unfold cl at hQ
  refine v_X12_within ⟨fun q => ⟨fun q2 => ?_, fun q2 => ?_⟩, fun q => ?_⟩
  · rw [if_neg (by omega), if_neg (by omega)] at hQ; exact hQ
  · rw [if_neg (by omega), if_pos (by omega)] at hQ; exact hQ
  · rw [if_pos (by omega)] at hQ; exact hQ
theorem cl_hl {x : Int32} : cl 99 x = hl x := by
  unfold cl hl
  rw [ti_99]
theorem y_flatAt {x : Int32} {u : Nat} {m : dM} {Q : Int32 → dM → Prop} (hW : RW H s m) (hx : x.toInt = (u : Int)) (hu : u < hoU H) (hQ : ∀ r : Int32, r.toInt = (hoH H u : Int) → Q r m) : c_X12_flatAt_70 1 x m Q := by
  have a := hW.2.1.1
  have b := hW.1.2.2.1
  have e := y_idx (C := 8) (c := (8 : Int32)) (by decide) a.1 a.2 hx (by decide) (by omega)
  refine v_X12_flatAt_70 ?_
  rw [d_cn e]
  exact ⟨by omega, hQ _ (hW.2.2.2.2.2.1 u hu).1⟩
theorem y_ampsAt {x : Int32} {u : Nat} {m : dM} {Q : Int32 → dM → Prop} (hW : RW H s m) (hx : x.toInt = (u : Int)) (hu : u < hoU H) (hQ : Q (hoM H u) m) : c_X12_ampsAt_70 1 x m Q := by
  have a := hW.2.1.1
  have b := hW.1.2.2.1
  have e := y_idx (C := 8) (c := (8 : Int32)) (by decide) a.1 a.2 hx (by decide) (by omega)
  refine v_X12_ampsAt_70 ?_
  rw [d_cn e, (hW.2.2.2.2.2.1 u hu).2.1]
  exact ⟨by omega, hQ⟩
theorem y_onAt {h : Int32} {m : dM} {Q : Int32 → dM → Prop} (hW : RW H s m) (hZ : RZ H 108 m S) (hL : RL H (szG S) m) (hQ : Q (onA H S h) m) : c_X12_onAt_70 2 h m Q := by
  obtain ⟨o1, o2, o3, o4, o5, o6⟩ := hW.1
  have a := hW.2.1.1
  have e86 := hW.2.2.1
  have loop : ∀ (t u : Nat) (x2 x3 : Int32), u + t = hoU H → x3.toInt = (u : Int) → x2 = bs (onp H S h) u → j_X12_onAt_70_4 2 h x2 x3 m Q := by
    intro t
    induction t with
    | zero =>
      intro u x2 x3 hu h3 h2
      refine v_X12_onAt_70_4 ?_
      rw [d_cn a.1, e86, a.1]
      refine ⟨by omega, fun _ => ?_, fun q => by exfalso; omega⟩
      rw [h2, show u = hoU H by omega]
      exact hQ
    | succ t ih =>
      intro u x2 x3 hu h3 h2
      obtain ⟨b1', b2', b3', b4'⟩ := hW.2.2.2.2.2.1 u (by omega)
      obtain ⟨c1, _⟩ := o5 u (by omega)
      have on : ∀ y : Int32, y = bs (onp H S h) (u + 1) → j_X12_onAt_70_83 2 h y x3 m Q := fun y hy => v_X12_onAt_70_83 (ih (u + 1) _ _ (by omega) (d_inc h3 (by omega)) hy)
      have no : onp H S h u = false → j_X12_onAt_70_83 2 h x2 x3 m Q := fun q => on x2 (by
        show x2 = cond (onp H S h u) (bs (onp H S h) u ||| b1 u) (bs (onp H S h) u)
        rw [q, cond_false]; exact h2)
      have ei := y_idx (C := 8) (c := (8 : Int32)) (by decide) a.1 a.2 h3 (by decide) (by omega)
      have ej := d_add (k := x3) (K := u) (x := (47 : Int32)) (i := 47) (by decide) h3 (by omega)
      refine v_X12_onAt_70_4 ?_
      rw [d_cn a.1, e86, a.1, d_cn ei, d_cn ej, b3', b4', b1_of h3, hZ.2.2.2 u (by omega), bi_if]
      refine ⟨by omega, fun q => by exfalso; omega, fun _ => ⟨by omega, fun q => no ?_, fun q => ⟨by omega, by omega, ?_⟩⟩⟩
      · cases g : bt (szA S) u with
        | true => rw [g] at q; exact absurd rfl q
        | false => unfold onp; rw [g, Bool.and_false, Bool.false_and]
      · have g : bt (szA S) u = true := by
          cases g : bt (szA S) u with
          | true => rfl
          | false => rw [g] at q; exact absurd q (by decide)
        refine y_in (fun q2 => ⟨fun z => absurd z (by decide), fun _ => y_flatAt hW h3 (by omega) (fun r hr => y_isLit hL hr (by omega) (fun gl => ⟨fun z => absurd z (by decide), fun _ => on _ ?_⟩) (fun gl => ⟨fun _ => no ?_, fun z => absurd rfl z⟩))⟩) (fun q2 => ⟨fun _ => no ?_, fun z => absurd rfl z⟩)
        · show x2 ||| b1 u = cond (onp H S h u) (bs (onp H S h) u ||| b1 u) (bs (onp H S h) u)
          have : onp H S h u = true := by
            unfold onp
            rw [decide_eq_true q2, g, gl]
            rfl
          rw [this, cond_true, h2]
        · unfold onp
          rw [gl, Bool.and_false]
        · unfold onp
          rw [decide_eq_false q2, Bool.false_and, Bool.false_and]
  exact v_X12_onAt_70 (loop (hoU H) 0 _ _ (by omega) (by decide) rfl)
theorem y_loadBy {x on g : Int32} {w : Nat} {m : dM} {Q : Int32 → dM → Prop} (hW : RW H s m) (hL : RL H g m) (hx : x.toInt = (w : Int)) (hw : w < hoW H) (hQ : Q (lod H g on w) m) : c_X12_loadBy_70 2 x on m Q := by
  obtain ⟨o1, o2, o3, o4, o5, o6⟩ := hW.1
  have a := hW.2.1.1
  have e86 := hW.2.2.1
  have loop : ∀ (t u : Nat) (x3 x4 : Int32), u + t = hoU H → x4.toInt = (u : Int) → x3 = lds H g on w u → j_X12_loadBy_70_5 2 x on x3 x4 m Q := by
    intro t
    induction t with
    | zero =>
      intro u x3 x4 hu h4 h3
      refine v_X12_loadBy_70_5 ?_
      rw [d_cn a.1, e86, a.1]
      refine ⟨by omega, fun _ => ?_, fun q => by exfalso; omega⟩
      rw [h3, show u = hoU H by omega]
      exact hQ
    | succ t ih =>
      intro u x3 x4 hu h4 h3
      obtain ⟨c1, _⟩ := o5 u (by omega)
      have on2 : ∀ y : Int32, y = lds H g on w (u + 1) → j_X12_loadBy_70_57 2 x on y x4 m Q := fun y hy => v_X12_loadBy_70_57 (ih (u + 1) _ _ (by omega) (d_inc h4 (by omega)) hy)
      have no : (bt on u && bt (wyV H g (hoH H u)) w) = false → j_X12_loadBy_70_57 2 x on x3 x4 m Q := fun q => on2 x3 (by
        show x3 = lds H g on w u + cond (bt on u && bt (wyV H g (hoH H u)) w) (hoM H u) 0
        rw [q, cond_false, Int32.add_zero]; exact h3)
      refine v_X12_loadBy_70_5 ?_
      rw [d_cn a.1, e86, a.1, bt_s h4 (by omega)]
      refine ⟨by omega, fun q => by exfalso; omega, fun _ => ⟨fun q => no ?_, fun q => ?_⟩⟩
      · cases e : bt on u with
        | true => rw [e] at q; exact absurd rfl q
        | false => rfl
      · have e : bt on u = true := by
          cases e : bt on u with
          | true => rfl
          | false => rw [e] at q; exact absurd q (by decide)
        refine y_flatAt hW h4 (by omega) (fun r hr => ?_)
        rw [d_cn hr, hL.2 (hoH H u) (by omega), bt_s hx (by omega)]
        refine ⟨by omega, fun q2 => no ?_, fun q2 => y_ampsAt hW h4 (by omega) (on2 _ ?_)⟩
        · cases e2 : bt (wyV H g (hoH H u)) w with
          | true => rw [e2] at q2; exact absurd rfl q2
          | false => rw [Bool.and_false]
        · show x3 + hoM H u = lds H g on w u + cond (bt on u && bt (wyV H g (hoH H u)) w) (hoM H u) 0
          have e2 : bt (wyV H g (hoH H u)) w = true := by
            cases e2 : bt (wyV H g (hoH H u)) w with
            | true => rfl
            | false => rw [e2] at q2; exact absurd q2 (by decide)
          rw [e, e2, h3]
          rfl
  exact v_X12_loadBy_70 (loop (hoU H) 0 _ _ (by omega) (by decide) rfl)
theorem RZ.rg {r : Nat} {m : dM} (h : RZ H 108 m S) : RG (hoW H) (bt (szG S)) m := fun w hw => by rw [(h.2.1 w hw).2.1, bi_if]
theorem y_doesGo {x on h more : Int32} {w : Nat} {m : dM} {Q : Int32 → dM → Prop} (hW : RW H s m) (hZ : RZ H 108 m S) (hL : RL H (szG S) m) (hx : x.toInt = (w : Int)) (hw : w < hoW H) (hQ : ∀ m' : dM, XaF m m' → Q (bi (gop H S on h more w)) m') : c_X12_doesGo_70 4 x on h more m Q := by
  obtain ⟨o1, o2, o3, o4, o5, o6⟩ := hW.1
  have no : gop H S on h more w = false → Q 0 m := fun q => by
    have := hQ m (XaF.rf m)
    rw [q] at this
    exact this
  obtain ⟨z1, z2, z3, z4⟩ := hZ.2.1 w hw
  have e30 := d_add (k := x) (K := w) (x := (30 : Int32)) (i := 30) (by decide) hx (by omega)
  have e20 := d_add (k := x) (K := w) (x := (20 : Int32)) (i := 20) (by decide) hx (by omega)
  refine v_X12_doesGo_70 (y_isWhole hW.2.1 (hZ.rg (r := 0)) hx hw (fun g => ⟨fun q => absurd q (by decide), fun _ => ?_⟩) (fun g => ⟨fun _ => v_X12_doesGo_70_21 (no ?_), fun q => absurd rfl q⟩))
  · rw [d_cn e30, z4, bi_if]
    refine ⟨by omega, fun q => ?_, fun q => v_X12_doesGo_70_21 (no ?_)⟩
    · have gp : bt (szP S) w = false := by
        cases e : bt (szP S) w with
        | false => rfl
        | true => rw [e] at q; exact absurd rfl q
      refine Wp.deep (y_loadBy (g := szG S) hW hL hx hw ⟨fun q2 => ?_, fun q2 => no ?_⟩) (Nat.le_of_ble_eq_true rfl)
      · have lb := lds_b hW.1 (g := szG S) (on := on) (w := w) (hoU H) (Nat.le_refl _)
        have lb : 0 ≤ (lod H (szG S) on w).toInt ∧ (lod H (szG S) on w).toInt ≤ 19 * (hoU H : Int) := lb
        refine Wp.deep (y_looks (fun M k3 e3 v3 => ?_)) (Nat.le_of_ble_eq_true rfl)
        have F3 : XaF m M := ⟨fun k _ q _ => k3 k q, fun j _ => by rw [k3 70 (by decide)], e3⟩
        have h3Z := hZ.xa F3 (Or.inr rfl)
        obtain ⟨y1, y2, y3, y4⟩ := h3Z.2.1 w hw
        rw [d_cn e20, d_cn hx, y1, y3]
        rw [hZ.1.1] at v3
        have v3' := rset (a := 2) (y := szE S w) (rset (a := 1) (y := szR S w) (rset (a := 0) (x := lod H (szG S) on w + more) v3 rfl) rfl) rfl
        have F4 : XaF m (dSet (dSet (dSet M 105 0 (lod H (szG S) on w + more)) 105 1 (szR S w)) 105 2 (szE S w)) := F3.set.set.set
        refine ⟨by omega, by omega, Wp.deep (y_tellr (k := 0) (v := vGo S (lod H (szG S) on w + more) h w) (hW.xa F4).2 (by decide) (by decide) (fun j hj => ?_) ?_ (fun M4 f4 => ?_)) (Nat.le_of_ble_eq_true rfl)⟩
        · rw [v3' j hj]
          unfold vGo
          rw [i32_of hx]
        · rfl
        · have F5 := F4.q f4
          have hQ := hQ M4 F5
          have pos : decide (0 < (lod H (szG S) on w).toInt) = true := decide_eq_true (by omega)
          unfold gop at hQ
          rw [pos, gp, Bool.not_false, Bool.true_and, Bool.true_and] at hQ
          refine ⟨fun z => ?_, fun z => ?_⟩
          · rw [decide_eq_false (by omega)] at hQ; exact hQ
          · rw [decide_eq_true z] at hQ; exact hQ
      · unfold gop
        rw [decide_eq_false (by omega), Bool.false_and, Bool.false_and]
    · have gp : bt (szP S) w = true := by
        cases e : bt (szP S) w with
        | true => rfl
        | false => rw [e] at q; exact absurd q (by decide)
      unfold gop
      rw [gp]
      simp
  · unfold gop
    rw [lod_gone hW.1 g]
    rfl
theorem y_goingBits {on h more : Int32} {m : dM} {Q : Int32 → dM → Prop} (hW : RW H s m) (hZ : RZ H 108 m S) (hL : RL H (szG S) m) (hQ : ∀ m' : dM, XaF m m' → Q (gng H S on h more) m') : c_X12_goingBits_70 5 on h more m Q := by
  obtain ⟨o1, o2, o3, o4, o5, o6⟩ := hW.1
  have loop : ∀ (t w : Nat) (x4 x5 : Int32) (M : dM), w + t = hoW H → x5.toInt = (w : Int) → x4 = bs (gop H S on h more) w → XaF m M → j_X12_goingBits_70_6 5 on h more x4 x5 M Q := by
    intro t
    induction t with
    | zero =>
      intro w x4 x5 M hw h5 h4 hF
      have hWM := (hW.xa hF).2.1
      refine v_X12_goingBits_70_6 ?_
      rw [d_cn hWM.1.1, hWM.2.2.1.1, hWM.1.1]
      have := hWM.1.2
      refine ⟨by omega, fun _ => ?_, fun q => by exfalso; omega⟩
      rw [h4, show w = hoW H by omega]
      exact hQ M hF
    | succ t ih =>
      intro w x4 x5 M hw h5 h4 hF
      have hWM := (hW.xa hF).2.1
      refine v_X12_goingBits_70_6 ?_
      rw [d_cn hWM.1.1, hWM.2.2.1.1, hWM.1.1, b1_of h5]
      have := hWM.1.2
      refine ⟨by omega, fun q => by exfalso; omega, fun _ => y_doesGo (hW.xa hF) (hZ.xa hF (Or.inr rfl)) (hL.xa hF) h5 (by omega) (fun M1 f1 => ?_)⟩
      have F1 := hF.tr f1
      rw [bi_if]
      have on2 : ∀ y : Int32, y = bs (gop H S on h more) (w + 1) → j_X12_goingBits_70_41 5 on h more y x5 M1 Q := fun y hy => v_X12_goingBits_70_41 (ih (w + 1) _ _ M1 (by omega) (d_inc h5 (by omega)) hy F1)
      have bse : bs (gop H S on h more) (w + 1) = cond (gop H S on h more w) (bs (gop H S on h more) w ||| b1 w) (bs (gop H S on h more) w) := rfl
      cases g : gop H S on h more w with
      | true =>
        rw [g, cond_true] at bse
        exact ⟨fun z => absurd z (by decide), fun _ => on2 _ (by rw [bse, h4])⟩
      | false =>
        rw [g, cond_false] at bse
        exact ⟨fun _ => on2 _ (by rw [bse, h4]), fun z => absurd rfl z⟩
  exact v_X12_goingBits_70 (loop (hoW H) 0 _ _ m (by omega) (by decide) rfl (XaF.rf m))
end RHO
