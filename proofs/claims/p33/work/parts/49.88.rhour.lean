/-! THE REFERENCE: pay, quarrels, costs, an hour -/
/-- laws and what went alone have changed -/
def HaF (m0 m : dM) : Prop := (∀ k : Nat, k ≠ 70 → (k < 105 ∨ 110 < k ∨ k = 107) → m.1 k = m0.1 k) ∧ (∀ j : Nat, j ≠ 53 → j ≠ 60 → m.1 70 j = m0.1 70 j) ∧ m.2 = m0.2
theorem HaF.rf (m : dM) : HaF m m := ⟨fun _ _ _ => rfl, fun _ _ _ => rfl, rfl⟩
theorem HaF.tr {a b c : dM} (h : HaF a b) (h' : HaF b c) : HaF a c := ⟨fun k q1 q2 => (h'.1 k q1 q2).trans (h.1 k q1 q2), fun j q1 q2 => (h'.2.1 j q1 q2).trans (h.2.1 j q1 q2), h'.2.2.trans h.2.2⟩
theorem XaF.ha {a b : dM} (h : XaF a b) : HaF a b := ⟨fun k q1 q2 => h.1 k q1 (by omega) (by omega), fun j q1 _ => h.2.1 j q1, h.2.2⟩
theorem HaF.set {a b : dM} {j : Nat} {v : Int32} (h : HaF a b) : HaF a (dSet b 108 j v) := ⟨fun k q1 q2 => by rw [dSet_k (by omega)]; exact h.1 k q1 q2, fun i q1 q2 => by rw [dSet_k (by decide)]; exact h.2.1 i q1 q2, h.2.2⟩
theorem HaF.went {a b : dM} {v : Int32} (h : HaF a b) : HaF a (dSet b 70 60 v) := ⟨fun k q1 q2 => by rw [dSet_k q1]; exact h.1 k q1 q2, fun i q1 q2 => by rw [dSet_j q2]; exact h.2.1 i q1 q2, h.2.2⟩
theorem RLF.ha {a b : dM} (h : RLF a b) : HaF a b := ⟨fun k q1 q2 => h.1 k (by omega) (by omega), fun j _ _ => by rw [h.1 70 (by decide) (by decide)], h.2⟩
section RHP
variable {H : Ho} {S : Zt} {s : Nat}
theorem RW.ha {m m' : dM} (h : RW H s m) (hF : HaF m m') : RW H s m' := ⟨h.1, h.2.of (fun k a b => hF.1 k (by omega) (by omega)) (hF.2.1 18 (by decide) (by decide))⟩
theorem y_paysOf {x : Int32} {u : Nat} {m : dM} {Q : Int32 → dM → Prop} (hW : RW H s m) (hZ : RZ H 108 m S) (hx : x.toInt = (u : Int)) (hu : u < hoU H) (hQ : ∀ m' : dM, XaF m m' → Q (pyu H S u) m') : c_X12_paysOf_70 3 x m Q := by
  refine v_X12_paysOf_70 ?_
  rw [hZ.1.1]
  refine Wp.deep (y_looks (fun M k3 e3 v3 => ?_)) (Nat.le_of_ble_eq_true rfl)
  have F3 : XaF m M := ⟨fun k _ q _ => k3 k q, fun j _ => by rw [k3 70 (by decide)], e3⟩
  rw [hZ.1.1] at v3
  refine Wp.deep (y_ampsAt (hW.xa F3) hx hu ?_) (Nat.le_of_ble_eq_true rfl)
  have v3' := rset (a := 5) (x := hoM H u) v3 rfl
  have F4 : XaF m (dSet M 105 5 (hoM H u)) := F3.set
  refine y_tellr (k := 3) (v := upd (vz (hod (szH S)) (dy (szH S)) (Int32.ofNat u)) 5 (hoM H u)) (hW.xa F4).2 (by decide) (by decide) (fun j hj => ?_) rfl (fun M4 f4 => Wp.deep (y_within ?_) (Nat.le_of_ble_eq_true rfl))
  · rw [i32_of hx]
    exact v3' j hj
  · rw [cl_hl]
    exact hQ M4 (F4.q f4)
theorem y_quarrelOf {x : Int32} {f : Nat} {m : dM} {Q : Int32 → dM → Prop} (hW : RW H s m) (hZ : RZ H 108 m S) (hx : x.toInt = (f : Int)) (hf : f < hoF H) (hQ : ∀ m' : dM, XaF m m' → Q (qrl H S f) m') : c_X12_quarrelOf_70 3 x m Q := by
  have o1 := hW.1.1
  refine v_X12_quarrelOf_70 ?_
  rw [hZ.1.1]
  refine Wp.deep (y_looks (fun M k3 e3 v3 => ?_)) (Nat.le_of_ble_eq_true rfl)
  have F3 : XaF m M := ⟨fun k _ q _ => k3 k q, fun j _ => by rw [k3 70 (by decide)], e3⟩
  rw [hZ.1.1] at v3
  have hW3 := hW.xa F3
  have a := hW3.2.1.1
  have e7 := y_idx (C := 7) (c := (7 : Int32)) (by decide) a.1 a.2 hx (by decide) (by omega)
  have e40 := d_add (k := x) (K := f) (x := (40 : Int32)) (i := 40) (by decide) hx (by omega)
  rw [d_cn e7, d_cn e40, hW3.2.2.2.1 f hf, (hZ.xa F3 (Or.inr rfl)).2.2.1 f hf]
  have v3' := rset (a := 7) (x := szD S f) (rset (a := 6) (x := hoT H f) v3 rfl) rfl
  have F4 : XaF m (dSet (dSet M 105 6 (hoT H f)) 105 7 (szD S f)) := F3.set.set
  refine ⟨by omega, by omega, y_tellr (k := 1) (v := upd (upd (vz (hod (szH S)) (dy (szH S)) (Int32.ofNat f)) 6 (hoT H f)) 7 (szD S f)) (hW.xa F4).2 (by decide) (by decide) (fun j hj => ?_) rfl (fun M4 f4 => Wp.deep (y_within ?_) (Nat.le_of_ble_eq_true rfl))⟩
  · rw [i32_of hx]
    exact v3' j hj
  · rw [cl_hl]
    exact hQ M4 (F4.q f4)
theorem y_costsOf {x : Int32} {w : Nat} {m : dM} {Q : Int32 → dM → Prop} (hW : RW H s m) (hZ : RZ H 108 m S) (hx : x.toInt = (w : Int)) (hw : w < hoW H) (hQ : ∀ m' : dM, XaF m m' → Q (cst H S w) m') : c_X12_costsOf_70 3 x m Q := by
  have o2 := hW.1.2.1
  refine v_X12_costsOf_70 ?_
  rw [hZ.1.1]
  refine Wp.deep (y_looks (fun M k3 e3 v3 => ?_)) (Nat.le_of_ble_eq_true rfl)
  have F3 : XaF m M := ⟨fun k _ q _ => k3 k q, fun j _ => by rw [k3 70 (by decide)], e3⟩
  rw [hZ.1.1] at v3
  obtain ⟨z1, z2, z3, z4⟩ := (hZ.xa F3 (Or.inr rfl)).2.1 w hw
  have e20 := d_add (k := x) (K := w) (x := (20 : Int32)) (i := 20) (by decide) hx (by omega)
  rw [d_cn e20, d_cn hx, z1, z3]
  have v3' := rset (a := 2) (x := szE S w) (rset (a := 1) (x := szR S w) v3 rfl) rfl
  have F4 : XaF m (dSet (dSet M 105 1 (szR S w)) 105 2 (szE S w)) := F3.set.set
  refine ⟨by omega, by omega, y_tellr (k := 2) (v := upd (upd (vz (hod (szH S)) (dy (szH S)) (Int32.ofNat w)) 1 (szR S w)) 2 (szE S w)) (hW.xa F4).2 (by decide) (by decide) (fun j hj => ?_) rfl (fun M4 f4 => Wp.deep (y_within ?_) (Nat.le_of_ble_eq_true rfl))⟩
  · rw [i32_of hx]
    exact v3' j hj
  · rw [cl_hl]
    exact hQ M4 (F4.q f4)
theorem y_paysAll {on : Int32} {m : dM} {Q : Int32 → dM → Prop} (hW : RW H s m) (hZ : RZ H 108 m S) (hQ : ∀ m' : dM, XaF m m' → Q (pyS H S on (hoU H)) m') : c_X12_paysAll_70 4 on m Q := by
  obtain ⟨o1, o2, o3, o4, o5, o6⟩ := hW.1
  have loop : ∀ (t u : Nat) (x2 x3 : Int32) (M : dM), u + t = hoU H → x3.toInt = (u : Int) → x2 = pyS H S on u → XaF m M → j_X12_paysAll_70_4 4 on x2 x3 M Q := by
    intro t
    induction t with
    | zero =>
      intro u x2 x3 M hu h3 h2 hF
      have hWM := hW.xa hF
      have a := hWM.2.1.1
      refine v_X12_paysAll_70_4 ?_
      rw [d_cn a.1, hWM.2.2.1, a.1]
      refine ⟨by omega, fun _ => ?_, fun q => by exfalso; omega⟩
      rw [h2, show u = hoU H by omega]
      exact hQ M hF
    | succ t ih =>
      intro u x2 x3 M hu h3 h2 hF
      have hWM := hW.xa hF
      have a := hWM.2.1.1
      have pse : pyS H S on (u + 1) = cond (bt on u) (pyS H S on u + pyu H S u) (pyS H S on u) := rfl
      have on2 : ∀ (y : Int32) (M1 : dM), y = pyS H S on (u + 1) → XaF m M1 → j_X12_paysAll_70_34 4 on y x3 M1 Q := fun y M1 hy f => v_X12_paysAll_70_34 (ih (u + 1) _ _ M1 (by omega) (d_inc h3 (by omega)) hy f)
      refine v_X12_paysAll_70_4 ?_
      rw [d_cn a.1, hWM.2.2.1, a.1, bt_s h3 (by omega)]
      refine ⟨by omega, fun q => by exfalso; omega, fun _ => ?_⟩
      cases e : bt on u with
      | true =>
        rw [e, cond_true] at pse
        exact ⟨fun q => absurd rfl q, fun _ => y_paysOf hWM (hZ.xa hF (Or.inr rfl)) h3 (by omega) (fun M1 f1 => on2 _ M1 (by rw [pse, h2]) (hF.tr f1))⟩
      | false =>
        rw [e, cond_false] at pse
        exact ⟨fun _ => on2 _ M (by rw [pse, h2]) hF, fun q => absurd q (by decide)⟩
  exact v_X12_paysAll_70 (loop (hoU H) 0 _ _ m (by omega) (by decide) rfl (XaF.rf m))
theorem y_quarrelsAll {m : dM} {Q : Int32 → dM → Prop} (hW : RW H s m) (hZ : RZ H 108 m S) (hL : RL H (szG S) m) (hQ : ∀ m' : dM, XaF m m' → Q (quS H S (hoF H)) m') : c_X12_quarrelsAll_70 4 m Q := by
  obtain ⟨o1, o2, o3, o4, o5, o6⟩ := hW.1
  have loop : ∀ (t f : Nat) (x1 x2 : Int32) (M : dM), f + t = hoF H → x2.toInt = (f : Int) → x1 = quS H S f → XaF m M → j_X12_quarrelsAll_70_4 4 x1 x2 M Q := by
    intro t
    induction t with
    | zero =>
      intro f x1 x2 M hf h2 h1 hF
      have hWM := hW.xa hF
      have a := hWM.2.1.1
      refine v_X12_quarrelsAll_70_4 ?_
      rw [d_cn a.1, hWM.2.1.2.1.1, a.1]
      refine ⟨by omega, fun _ => ?_, fun q => by exfalso; omega⟩
      rw [h1, show f = hoF H by omega]
      exact hQ M hF
    | succ t ih =>
      intro f x1 x2 M hf h2 h1 hF
      have hWM := hW.xa hF
      have a := hWM.2.1.1
      have pse : quS H S (f + 1) = cond (lt H (szG S) f) (quS H S f) (quS H S f + qrl H S f) := rfl
      have on2 : ∀ (y : Int32) (M1 : dM), y = quS H S (f + 1) → XaF m M1 → j_X12_quarrelsAll_70_33 4 y x2 M1 Q := fun y M1 hy f' => v_X12_quarrelsAll_70_33 (ih (f + 1) _ _ M1 (by omega) (d_inc h2 (by omega)) hy f')
      refine v_X12_quarrelsAll_70_4 ?_
      rw [d_cn a.1, hWM.2.1.2.1.1, a.1]
      refine ⟨by omega, fun q => by exfalso; omega, fun _ => Wp.deep (y_isLit (hL.xa hF) h2 (by omega) (fun g => ⟨fun _ => on2 _ M ?_ hF, fun q => absurd q (by decide)⟩) (fun g => ⟨fun q => absurd rfl q, fun _ => y_quarrelOf hWM (hZ.xa hF (Or.inr rfl)) h2 (by omega) (fun M1 f1 => on2 _ M1 ?_ (hF.tr f1))⟩)) (Nat.le_of_ble_eq_true rfl)⟩
      · rw [g, cond_true] at pse
        rw [pse, h1]
      · rw [g, cond_false] at pse
        rw [pse, h1]
  exact v_X12_quarrelsAll_70 (loop (hoF H) 0 _ _ m (by omega) (by decide) rfl (XaF.rf m))
theorem RZ.setp {r j : Nat} {m : dM} {v : Int32} {T : Zt} (h : RZ H r m S) (hT : RZ H r (dSet m r j v) T) : RZ H r (dSet m r j v) T := hT
theorem RZ.c {r : Nat} {m : dM} {v : Int32} (h : RZ H r m S) (hO : hOk H) : RZ H r (dSet m r 56 v) (setC S v) := by
  obtain ⟨⟨a, b, c⟩, d, e, f⟩ := h
  obtain ⟨o1, o2, o3, _⟩ := hO
  refine ⟨⟨by rw [dSet_j (by decide)]; exact a, by rw [dSet_s]; rfl, by rw [dSet_j (by decide)]; exact c⟩, fun w hw => ?_, fun g hg => by rw [dSet_j (by omega)]; exact e g hg, fun u hu => by rw [dSet_j (by omega)]; exact f u hu⟩
  rw [dSet_j (by omega), dSet_j (by omega), dSet_j (by omega), dSet_j (by omega)]
  exact d w hw
theorem RZ.q {r : Nat} {m : dM} {v : Int32} (h : RZ H r m S) (hO : hOk H) : RZ H r (dSet m r 57 v) (setQ S v (szD S)) := by
  obtain ⟨⟨a, b, c⟩, d, e, f⟩ := h
  obtain ⟨o1, o2, o3, _⟩ := hO
  refine ⟨⟨by rw [dSet_j (by decide)]; exact a, by rw [dSet_j (by decide)]; exact b, by rw [dSet_s]; rfl⟩, fun w hw => ?_, fun g hg => by rw [dSet_j (by omega)]; exact e g hg, fun u hu => by rw [dSet_j (by omega)]; exact f u hu⟩
  rw [dSet_j (by omega), dSet_j (by omega), dSet_j (by omega), dSet_j (by omega)]
  exact d w hw
theorem RZ.d {r f : Nat} {m : dM} {v q : Int32} {D D' : Nat → Int32} (h : RZ H r m (setQ S q D)) (hO : hOk H) (hf : f < hoF H) (hD : ∀ g : Nat, g ≠ f → D' g = D g) (hv : v = D' f) : RZ H r (dSet m r (40 + f) v) (setQ S q D') := by
  obtain ⟨⟨a, b, c⟩, d, e, f'⟩ := h
  obtain ⟨o1, o2, o3, _⟩ := hO
  refine ⟨⟨by rw [dSet_j (by omega)]; exact a, by rw [dSet_j (by omega)]; exact b, by rw [dSet_j (by omega)]; exact c⟩, fun w hw => ?_, fun g hg => ?_, fun u hu => by rw [dSet_j (by omega)]; exact f' u hu⟩
  · rw [dSet_j (by omega), dSet_j (by omega), dSet_j (by omega), dSet_j (by omega)]
    exact d w hw
  · show _ = D' g
    by_cases z : g = f
    · subst z
      rw [dSet_s]; exact hv
    · rw [dSet_j (by omega), hD g z]
      exact e g hg
/-- wires behind w of them: gone and age -/
def agn (S : Zt) (G : Int32) (n j : Nat) : Int32 := if j < n ∧ bt G j = false then (if (szE S j + 1) < (999 : Int32) then (szE S j + 1) else 999) else szE S j
def RV (H : Ho) (m : dM) (T : Zt) (G : Int32) (w : Nat) : Prop := (m.1 108 55 = szH T ∧ m.1 108 56 = szC T ∧ m.1 108 57 = szQ T) ∧ (∀ j : Nat, j < hoW H → m.1 108 j = szR T j ∧ m.1 108 (10 + j) = bi (bt (if j < w then G else szG T) j) ∧ m.1 108 (20 + j) = agn T G w j ∧ m.1 108 (30 + j) = bi (bt (szP T) j)) ∧ (∀ f : Nat, f < hoF H → m.1 108 (40 + f) = szD T f) ∧ ∀ u : Nat, u < hoU H → m.1 108 (47 + u) = bi (bt (szA T) u)
theorem agn_o {G : Int32} {n j : Nat} (h : j ≠ n) : agn S G (n + 1) j = agn S G n j := by
  unfold agn
  by_cases q : j < n ∧ bt G j = false
  · rw [if_pos q, if_pos (show j < n + 1 ∧ bt G j = false from ⟨by omega, q.2⟩)]
  · rw [if_neg q, if_neg (fun z => q ⟨by omega, z.2⟩)]
theorem cl_age {x : Int32} (h : 0 ≤ x.toInt ∧ x.toInt ≤ 999) : cl 999 (x + 1) = (if (x + 1) < (999 : Int32) then (x + 1) else 999) := by
  have f := dAddE (X := x.toInt) (Y := 1) (x := x) (y := (1 : Int32)) rfl (by decide) (by omega) (by omega)
  have lti : (x + 1 < (999 : Int32)) ↔ (x + 1).toInt < (999 : Int32).toInt := Int32.lt_iff_toInt_lt
  have e9 := ti_999
  unfold cl
  rw [if_neg (by omega)]
  by_cases q : x + 1 < (999 : Int32)
  · have := lti.mp q
    rw [if_pos q, if_neg (by omega)]
  · have q2 : ¬ (x + 1).toInt < (999 : Int32).toInt := fun z => q (lti.mpr z)
    rw [if_neg q]
    by_cases z : (999 : Int32).toInt < (x + 1).toInt
    · rw [if_pos z]
    · rw [if_neg z]
      apply Int32.toInt_inj.mp
      omega
end RHP
