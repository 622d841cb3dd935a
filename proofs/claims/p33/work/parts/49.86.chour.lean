/-! THE CLASS: quarrels, costs, pay, an hour -/
/-- scratch and one state alone have changed -/
def TyF (c : Nat) (m0 m : dM) : Prop := (∀ k : Nat, k ≠ 11 → k ≠ 19 → (k < 55 ∨ 60 < k) → (k < c ∨ c + 3 < k) → m.1 k = m0.1 k) ∧ (∀ j : Nat, j ≠ 5 → m.1 11 j = m0.1 11 j) ∧ m.2 = m0.2
theorem TyF.rf (c : Nat) (m : dM) : TyF c m m := ⟨fun _ _ _ _ _ => rfl, fun _ _ => rfl, rfl⟩
theorem TyF.tr {n : Nat} {a b c : dM} (h : TyF n a b) (h' : TyF n b c) : TyF n a c := ⟨fun k q1 q2 q3 q4 => (h'.1 k q1 q2 q3 q4).trans (h.1 k q1 q2 q3 q4), fun j q => (h'.2.1 j q).trans (h.2.1 j q), h'.2.2.trans h.2.2⟩
theorem ScF.ty {n : Nat} {a b : dM} (h : ScF a b) : TyF n a b := ⟨fun k q1 q2 q3 _ => h.1 k q1 q2 q3, h.2⟩
theorem TyF.set {n k j : Nat} {a b : dM} {v : Int32} (h : TyF n a b) (hk : n ≤ k ∧ k ≤ n + 3) (hn : n = 47 ∨ n = 62) : TyF n a (dSet b k j v) := ⟨fun i q1 q2 q3 q4 => by rw [dSet_k (by omega)]; exact h.1 i q1 q2 q3 q4, fun i q => by rw [dSet_k (by omega)]; exact h.2.1 i q, h.2.2⟩
section CHP
variable {H : Ho} {S : Zt}
theorem CW.ty {n k j : Nat} {m : dM} {v : Int32} (h : CW H m) (hk : n ≤ k ∧ k ≤ n + 3) (hn : n = 47 ∨ n = 62) : CW H (dSet m k j v) := ⟨h.1, h.2.1.of (fun i a b c => dSet_k (by omega)), h.2.2.of (fun i a b => dSet_k (by omega))⟩
theorem LA.ty {n k j : Nat} {m : dM} {v g : Int32} (h : LA H g m) (hk : n ≤ k ∧ k ≤ n + 3) (hn : n = 47 ∨ n = 62) : LA H g (dSet m k j v) := h.of (fun i a b => dSet_k (by omega))
theorem CZ.c {n : Nat} {m : dM} {v : Int32} (h : CZ n m S) : CZ n (dSet m n 1 v) (setC S v) := by
  obtain ⟨⟨a0, a1, a2, a3, a4, a5⟩, b, c, d⟩ := h
  unfold CZ
  rw [dSet_k (show n + 1 ≠ n by omega), dSet_k (show n + 2 ≠ n by omega), dSet_k (show n + 3 ≠ n by omega), dSet_s, dSet_j (by decide), dSet_j (by decide), dSet_j (by decide), dSet_j (by decide), dSet_j (by decide)]
  exact ⟨⟨a0, rfl, a2, a3, a4, a5⟩, b, c, d⟩
/-- the flats' dark, behind n of them -/
def dkn (H : Ho) (S : Zt) (n g : Nat) : Int32 := if g < n then cond (lt H (szG S) g) 0 (szD S g + 1) else szD S g
theorem dkn_o {n g : Nat} (h : g ≠ n) : dkn H S (n + 1) g = dkn H S n g := by
  unfold dkn
  by_cases q : g < n
  · rw [if_pos q, if_pos (by omega)]
  · rw [if_neg q, if_neg (by omega)]
theorem CZ.lit {n f : Nat} {m : dM} {v : Int32} (h : CZ n m (setQ S v (dkn H S f))) (hl' : lt H (szG S) f = true) : CZ n (dSet m (n + 3) f (0 : Int32)) (setQ S v (dkn H S (f + 1))) := by
  obtain ⟨a, b, c, d⟩ := h
  unfold CZ
  rw [dSet_k (show n ≠ n + 3 by omega), dSet_k (show n + 1 ≠ n + 3 by omega), dSet_k (show n + 2 ≠ n + 3 by omega)]
  refine ⟨a, b, c, fun j hj => ?_⟩
  show _ = dkn H S (f + 1) j
  by_cases e : j = f
  · subst e
    rw [dSet_s]
    unfold dkn
    rw [if_pos (by omega), hl', cond_true]
  · rw [dSet_j e, dkn_o e]
    exact d j hj
theorem CZ.dark {n f : Nat} {m : dM} {v x : Int32} (h : CZ n m (setQ S v (dkn H S f))) (hl' : lt H (szG S) f = false) (hf : f < 7) : CZ n (dSet (dSet m n 2 x) (n + 3) f (m.1 (n + 3) f + 1)) (setQ S x (dkn H S (f + 1))) := by
  obtain ⟨⟨a0, a1, a2, a3, a4, a5⟩, b, c, d⟩ := h
  unfold CZ
  rw [dSet_k (show n ≠ n + 3 by omega), dSet_k (show n + 1 ≠ n + 3 by omega), dSet_k (show n + 2 ≠ n + 3 by omega), dSet_k (show n + 1 ≠ n by omega), dSet_k (show n + 2 ≠ n by omega), dSet_s, dSet_j (by decide), dSet_j (by decide), dSet_j (by decide), dSet_j (by decide), dSet_j (by decide)]
  refine ⟨⟨a0, a1, rfl, a3, a4, a5⟩, b, c, fun j hj => ?_⟩
  show _ = dkn H S (f + 1) j
  by_cases e : j = f
  · subst e
    have dj : m.1 (n + 3) j = dkn H S j j := d j hj
    unfold dkn at dj
    rw [if_neg (by omega)] at dj
    rw [dSet_s, dj]
    unfold dkn
    rw [if_pos (by omega), hl', cond_false]
  · rw [dSet_j e, dSet_k (show n + 3 ≠ n by omega), dkn_o e]
    exact d j hj
theorem pyS_cg {T : Zt} {on : Int32} (h : szH T = szH S) : ∀ n : Nat, pyS H T on n = pyS H S on n
  | 0 => rfl
  | n + 1 => by
    show cond (bt on n) (pyS H T on n + pyu H T n) (pyS H T on n) = cond (bt on n) (pyS H S on n + pyu H S n) (pyS H S on n)
    rw [pyS_cg h n]
    unfold pyu
    rw [h]
theorem quS_cg {T : Zt} (h : szH T = szH S) (h2 : szG T = szG S) (h3 : szD T = szD S) : ∀ n : Nat, quS H T n = quS H S n
  | 0 => rfl
  | n + 1 => by
    show cond (lt H (szG T) n) (quS H T n) (quS H T n + qrl H T n) = cond (lt H (szG S) n) (quS H S n) (quS H S n + qrl H S n)
    rw [quS_cg h h2 h3 n]
    unfold qrl
    rw [h, h2, h3]
theorem y_cost47 {x : Int32} {w : Nat} {m : dM} {Q : Int32 → dM → Prop} (hW : CW H m) (hZ : CZ 47 m S) (hx : x.toInt = (w : Int)) (hw : w < hoW H) (hQ : ∀ m' : dM, VaF m m' → Q (cst H S w) m') : c_X0_costOf_54_47 4 x m Q := by
  obtain ⟨o1, o2, o3, o4, o5, o6⟩ := hW.1
  refine v_X0_costOf_54_47 (v_X7_hourOfDay_47 (v_X7_day_47 ?_))
  rw [hZ.1.1]
  refine Wp.deep (y_vars (fun M3 f3 v3 k3 => ?_)) (Nat.le_of_ble_eq_true rfl)
  have h3Z := hZ.sf f3.sf (Or.inl rfl)
  rw [d_cn hx]
  refine ⟨by omega, by omega, ?_⟩
  have v3' := vset (a := 2) (vset (a := 1) v3 (h3Z.2.1 w (by omega))) (h3Z.2.2.1 w (by omega))
  have F4 : VaF m (dSet (dSet M3 55 1 (M3.1 48 w)) 55 2 (M3.1 49 w)) := f3.set.set
  refine y_tellv (k := 2) (v := upd (upd (vz (hod (szH S)) (dy (szH S)) (Int32.ofNat w)) 1 (szR S w)) 2 (szE S w)) (hW.vf F4).2.1 (by decide) (by decide) (fun j hj => ?_) (fun M4 f4 => Wp.deep (y_held (hQ M4 (F4.py f4))) (Nat.le_of_ble_eq_true rfl))
  rw [i32_of hx]
  exact v3' j hj
theorem y_quarrel47 {x : Int32} {f : Nat} {m : dM} {Q : Int32 → dM → Prop} (hW : CW H m) (hZ : CZ 47 m S) (hx : x.toInt = (f : Int)) (hf : f < hoF H) (hQ : ∀ m' : dM, VaF m m' → Q (qrl H S f) m') : c_X0_quarrelOf_54_47 4 x m Q := by
  obtain ⟨o1, o2, o3, o4, o5, o6⟩ := hW.1
  refine v_X0_quarrelOf_54_47 (v_X7_hourOfDay_47 (v_X7_day_47 ?_))
  rw [hZ.1.1]
  refine Wp.deep (y_vars (fun M3 f3 v3 k3 => ?_)) (Nat.le_of_ble_eq_true rfl)
  have h3Z := hZ.sf f3.sf (Or.inl rfl)
  rw [d_cn hx]
  refine ⟨by omega, by omega, ?_⟩
  have v3' := vset (a := 7) (vset (a := 6) v3 ((hW.vf f3).2.1.2.2.1 f hf)) (h3Z.2.2.2 f (by omega))
  have F4 : VaF m (dSet (dSet M3 55 6 (M3.1 3 f)) 55 7 (M3.1 50 f)) := f3.set.set
  refine y_tellv (k := 1) (v := upd (upd (vz (hod (szH S)) (dy (szH S)) (Int32.ofNat f)) 6 (hoT H f)) 7 (szD S f)) (hW.vf F4).2.1 (by decide) (by decide) (fun j hj => ?_) (fun M4 f4 => Wp.deep (y_held (hQ M4 (F4.py f4))) (Nat.le_of_ble_eq_true rfl))
  rw [i32_of hx]
  exact v3' j hj
theorem y_pay47 {x : Int32} {u : Nat} {m : dM} {Q : Int32 → dM → Prop} (hW : CW H m) (hZ : CZ 47 m S) (hx : x.toInt = (u : Int)) (hu : u < hoU H) (hQ : ∀ m' : dM, VaF m m' → Q (pyu H S u) m') : c_X0_payOf_54_47 4 x m Q := by
  obtain ⟨o1, o2, o3, o4, o5, o6⟩ := hW.1
  refine v_X0_payOf_54_47 (v_X7_hourOfDay_47 (v_X7_day_47 ?_))
  rw [hZ.1.1]
  refine Wp.deep (y_vars (fun M3 f3 v3 k3 => ?_)) (Nat.le_of_ble_eq_true rfl)
  rw [d_cn hx]
  refine ⟨by omega, ?_⟩
  have v3' := vset (a := 5) v3 ((hW.vf f3).2.1.2.2.2.2.1 u hu).2.1
  have F4 : VaF m (dSet M3 55 5 (M3.1 8 u)) := f3.set
  refine y_tellv (k := 3) (v := upd (vz (hod (szH S)) (dy (szH S)) (Int32.ofNat u)) 5 (hoM H u)) (hW.vf F4).2.1 (by decide) (by decide) (fun j hj => ?_) (fun M4 f4 => Wp.deep (y_held (hQ M4 (F4.py f4))) (Nat.le_of_ble_eq_true rfl))
  rw [i32_of hx]
  exact v3' j hj
theorem y_takePay47 {m : dM} {Q : dM → Prop} (hW : CW H m) (hZ : CZ 47 m S) (hO : zOk H S) (hQ : ∀ m' : dM, TyF 47 m m' → CW H m' → CZ 47 m' (setC S (cl 99999 (szC S + pyS H S (onA H S (hod (szH S))) (hoU H)))) → Q m') : c_X0_takePay_54_47 5 m Q := by
  obtain ⟨o1, o2, o3, o4, o5, o6⟩ := hW.1
  refine v_X0_takePay_54_47 (v_X7_hourOfDay_47 ?_)
  rw [hZ.1.1]
  refine Wp.deep (y_usesAt47 hW hZ (hO.g1 hW.1) (fun M hF hWM hA => ?_)) (Nat.le_of_ble_eq_true rfl)
  show j_X0_takePay_54_47_12 5 (onA H S (hod (szH S))) (0 : Int32) M Q
  generalize onA H S (hod (szH S)) = on at hQ ⊢
  have loop : ∀ (t u : Nat) (x3 : Int32) (M1 : dM), u + t = hoU H → x3.toInt = (u : Int) → TyF 47 m M1 → CW H M1 → CZ 47 M1 (setC S (cl 99999 (szC S + pyS H S on u))) → j_X0_takePay_54_47_12 5 on x3 M1 Q := by
    intro t
    induction t with
    | zero =>
      intro u x3 M1 hu h3 f1 w1 z1
      have e22 := w1.2.1.2.1
      refine v_X0_takePay_54_47_12 ⟨fun _ => hQ M1 f1 w1 ?_, fun q => by exfalso; omega⟩
      rw [show hoU H = u by omega]
      exact z1
    | succ t ih =>
      intro u x3 M1 hu h3 f1 w1 z1
      have e22 := w1.2.1.2.1
      have on2 : ∀ M2 : dM, TyF 47 m M2 → CW H M2 → CZ 47 M2 (setC S (cl 99999 (szC S + pyS H S on (u + 1)))) → j_X0_takePay_54_47_51 5 on x3 M2 Q := fun M2 a b d => v_X0_takePay_54_47_51 (ih (u + 1) _ M2 (by omega) (d_inc h3 (by omega)) a b d)
      refine v_X0_takePay_54_47_12 ⟨fun q => by exfalso; omega, fun _ => Wp.deep (y_has h3 (by omega) (fun g => ⟨fun q => absurd q (by decide), fun _ => ?_⟩) (fun g => ⟨fun _ => on2 M1 f1 w1 ?_, fun q => absurd rfl q⟩)) (Nat.le_of_ble_eq_true rfl)⟩
      · refine Wp.deep (y_pay47 w1 z1 h3 (by omega) (fun M2 f2 => on2 _ ((f1.tr f2.sf.ty).set (by decide) (Or.inl rfl)) ((w1.vf f2).ty (n := 47) (by decide) (Or.inl rfl)) ?_)) (Nat.le_of_ble_eq_true rfl)
        have z2 := z1.sf f2.sf (Or.inl rfl)
        have := z2.c (v := (if ((M1.1 47 1) + pyu H (setC S (cl 99999 (szC S + pyS H S on u))) u) < (99999 : Int32) then ((M1.1 47 1) + pyu H (setC S (cl 99999 (szC S + pyS H S on u))) u) else (99999 : Int32)))
        have e : (if ((M1.1 47 1) + pyu H (setC S (cl 99999 (szC S + pyS H S on u))) u) < (99999 : Int32) then ((M1.1 47 1) + pyu H (setC S (cl 99999 (szC S + pyS H S on u))) u) else (99999 : Int32)) = cl 99999 (szC S + pyS H S on (u + 1)) := by
          rw [z1.1.2.1]
          have pe : pyS H S on (u + 1) = pyS H S on u + pyu H S u := by
            show cond (bt on u) (pyS H S on u + pyu H S u) (pyS H S on u) = _
            rw [g, cond_true]
          rw [pe]
          have b := pyS_b (H := H) (S := S) (on := on) u (by omega)
          exact cl_step (by rw [ti_99999]; decide) (by rw [ti_99999]; exact hO.1) (by omega) (hl_b _)
        rw [e] at this ⊢
        exact this
      · have pe : pyS H S on (u + 1) = pyS H S on u := by
          show cond (bt on u) (pyS H S on u + pyu H S u) (pyS H S on u) = _
          rw [g, cond_false]
        rw [pe]
        exact z1
  refine loop (hoU H) 0 _ M (by omega) (by decide) hF.sf.ty hWM ?_
  have e : cl 99999 (szC S + pyS H S on 0) = szC S := cl_id (by rw [ti_99999]; exact hO.1)
  rw [e]
  exact hZ.sf hF.sf (Or.inl rfl)
theorem y_countQ47 {m : dM} {Q : dM → Prop} (hW : CW H m) (hZ : CZ 47 m S) (hO : zOk H S) (hQ : ∀ m' : dM, TyF 47 m m' → CW H m' → CZ 47 m' (setQ S (cl 999999 (szQ S + quS H S (hoF H))) (fun f => if f < hoF H then cond (lt H (szG S) f) 0 (szD S f + 1) else szD S f)) → Q m') : c_X0_countQuarrels_54_47 5 m Q := by
  obtain ⟨o1, o2, o3, o4, o5, o6⟩ := hW.1
  refine v_X0_countQuarrels_54_47 ?_
  rw [hZ.1.2.2.2.1]
  refine Wp.deep (y_lays hW (hO.g1 hW.1) (fun M hF hWM hA => ?_)) (Nat.le_of_ble_eq_true rfl)
  have loop : ∀ (t f : Nat) (x2 v : Int32) (M1 : dM), f + t = hoF H → x2.toInt = (f : Int) → TyF 47 m M1 → CW H M1 → LA H (szG S) M1 → v = cl 999999 (szQ S + quS H S f) → CZ 47 M1 (setQ S v (dkn H S f)) → j_X0_countQuarrels_54_47_13 5 x2 M1 Q := by
    intro t
    induction t with
    | zero =>
      intro f x2 v M1 hf h2 f1 w1 l1 hv z1
      have e20 := w1.2.1.1.1.1
      refine v_X0_countQuarrels_54_47_13 ⟨fun _ => hQ M1 f1 w1 ?_, fun q => by exfalso; omega⟩
      rw [show hoF H = f by omega, ← hv]
      exact z1
    | succ t ih =>
      intro f x2 v M1 hf h2 f1 w1 l1 hv z1
      have e20 := w1.2.1.1.1.1
      have on2 : ∀ (v : Int32) (M2 : dM), TyF 47 m M2 → CW H M2 → LA H (szG S) M2 → v = cl 999999 (szQ S + quS H S (f + 1)) → CZ 47 M2 (setQ S v (dkn H S (f + 1))) → j_X0_countQuarrels_54_47_78 5 x2 M2 Q := fun v M2 a b l e d => v_X0_countQuarrels_54_47_78 (ih (f + 1) _ v M2 (by omega) (d_inc h2 (by omega)) a b l e d)
      have hlit := l1.lit (f := f) (by omega) o1
      have qs : quS H S (f + 1) = cond (lt H (szG S) f) (quS H S f) (quS H S f + qrl H S f) := rfl
      refine v_X0_countQuarrels_54_47_13 ⟨fun q => by exfalso; omega, fun _ => Wp.deep (y_has h2 (by omega) (fun g => ⟨fun q => absurd q (by decide), fun _ => ⟨by omega, ?_⟩⟩) (fun g => ⟨fun _ => ?_, fun q => absurd rfl q⟩)) (Nat.le_of_ble_eq_true rfl)⟩
      · have gl : lt H (szG S) f = true := by rw [← hlit]; exact g
        rw [gl, cond_true] at qs
        rw [d_cn h2]
        exact on2 v _ (f1.set (by decide) (Or.inl rfl)) (w1.ty (n := 47) (by decide) (Or.inl rfl)) (l1.ty (n := 47) (by decide) (Or.inl rfl)) (by rw [qs]; exact hv) (z1.lit gl)
      · have gl : lt H (szG S) f = false := by rw [← hlit]; exact g
        rw [gl, cond_false] at qs
        refine Wp.deep (y_quarrel47 w1 z1 h2 (by omega) (fun M2 f2 => ⟨by omega, by omega, ?_⟩)) (Nat.le_of_ble_eq_true rfl)
        have qe : qrl H (setQ S v (dkn H S f)) f = qrl H S f := by
          unfold qrl
          show hl (lW (hoL H 1) (upd (upd (vz (hod (szH S)) (dy (szH S)) (Int32.ofNat f)) 6 (hoT H f)) 7 (dkn H S f f))) = _
          unfold dkn
          rw [if_neg (by omega)]
        have y2 : M1.1 47 2 = v := z1.1.2.2.1
        rw [qe, d_cn h2, y2]
        have b := quS_b (H := H) (S := S) f (by omega)
        have st := cl_step (T := 999999) (c := szQ S) (s := quS H S f) (p := qrl H S f) (by rw [ti_999999]; decide) (by rw [ti_999999]; exact hO.2.1) (by omega) (hl_b _)
        rw [← hv, ← qs] at st
        exact on2 _ _ (((f1.tr f2.sf.ty).set (by decide) (Or.inl rfl)).set (by decide) (Or.inl rfl)) (((w1.vf f2).ty (n := 47) (by decide) (Or.inl rfl)).ty (n := 47) (by decide) (Or.inl rfl)) (((l1.of (fun k a b => f2.1 k (by omega) (by omega) (by omega))).ty (n := 47) (by decide) (Or.inl rfl)).ty (n := 47) (by decide) (Or.inl rfl)) st ((z1.sf f2.sf (Or.inl rfl)).dark gl (by omega))
  refine loop (hoF H) 0 _ (szQ S) M (by omega) (by decide) hF.sf.ty hWM hA ?_ ?_
  · exact (cl_id (by rw [ti_999999]; exact hO.2.1)).symm
  · obtain ⟨⟨x0, x1, x2', x3, x4, x5⟩, xR, xE, xD⟩ := hZ.sf hF.sf (Or.inl rfl)
    exact ⟨⟨x0, x1, x2', x3, x4, x5⟩, xR, xE, fun j hj => xD j hj⟩
theorem y_passWires47 {more : Int32} {m : dM} {Q : Int32 → dM → Prop} (hW : CW H m) (hZ : CZ 47 m S) (hg : (szG S).toInt ≠ -1) (hQ : ∀ m' : dM, TyF 47 m m' → CW H m' → CZ 47 m' (wsz H S more) → (∀ w : Nat, w < hoW H → m'.1 56 w = lod H (szG S) (onA H S (hod (szH S))) w) → Q (gng H S (onA H S (hod (szH S))) (hod (szH S)) more) m') : c_X0_passWires_54_47 5 more m Q := by
  obtain ⟨o1, o2, o3, o4, o5, o6⟩ := hW.1
  refine v_X0_passWires_54_47 (v_X7_hourOfDay_47 ?_)
  rw [hZ.1.1]
  refine Wp.deep (y_usesAt47 hW hZ hg (fun M1 f1 w1 l1 => ?_)) (Nat.le_of_ble_eq_true rfl)
  have z1 := hZ.sf f1.sf (Or.inl rfl)
  refine Wp.deep (y_putOn47 w1 z1 hg (fun M2 f2 w2 l2 d2 => v_X7_hourOfDay_47 ?_)) (Nat.le_of_ble_eq_true rfl)
  have z2 := z1.sf f2 (Or.inl rfl)
  rw [z2.1.1]
  refine y_going47 w2 z2 d2 (fun M3 f3 => ?_)
  have z3 := z2.sf f3.sf (Or.inl rfl)
  have w3 := w2.vf f3
  have F3 : ScF m M3 := (f1.sf.tr f2).tr f3.sf
  have d3 : ∀ w : Nat, w < hoW H → M3.1 56 w = lod H (szG S) (onA H S (hod (szH S))) w := fun w hw => by rw [f3.1 56 (by decide) (by decide) (by decide)]; exact d2 w hw
  rw [z3.1.2.2.2.1]
  show j_X0_passWires_54_47_38 5 (gng H S (onA H S (hod (szH S))) (hod (szH S)) more) (0 : Int32) (dSet M3 47 3 (szG S ||| gng H S (onA H S (hod (szH S))) (hod (szH S)) more)) Q
  have hG : wsz H S more = ((szH S + 1, szC S, szQ S, szG S ||| gng H S (onA H S (hod (szH S))) (hod (szH S)) more, szP S, szA S), szR S, (fun w => if w < hoW H ∧ bt (szG S ||| gng H S (onA H S (hod (szH S))) (hod (szH S)) more) w = false then (if (szE S w + 1) < (999 : Int32) then (szE S w + 1) else 999) else szE S w), szD S) := rfl
  rw [hG] at hQ
  generalize onA H S (hod (szH S)) = on at hQ d3 ⊢
  generalize gng H S on (hod (szH S)) more = gn at hQ ⊢
  have loop : ∀ (t w : Nat) (x4 : Int32) (M : dM), w + t = hoW H → x4.toInt = (w : Int) → TyF 47 m M → CW H M → CZ 47 M (setW S (szG S ||| gn) (fun j => if j < w ∧ bt (szG S ||| gn) j = false then (if (szE S j + 1) < (999 : Int32) then (szE S j + 1) else 999) else szE S j)) → (∀ w : Nat, w < hoW H → M.1 56 w = lod H (szG S) on w) → j_X0_passWires_54_47_38 5 gn x4 M Q := by
    intro t
    induction t with
    | zero =>
      intro w x4 M hw h4 fM wM zM dM'
      have e21 := wM.2.1.1.2.1.1
      refine v_X0_passWires_54_47_38 ⟨fun _ => hQ _ (fM.set (by decide) (Or.inl rfl)) (wM.ty (n := 47) (by decide) (Or.inl rfl)) ?_ (fun w hw => by rw [dSet_k (by decide)]; exact dM' w hw), fun q => by exfalso; omega⟩
      obtain ⟨⟨x0, x1, x2, x3, x4', x5⟩, xR, xE, xD⟩ := zM
      unfold CZ
      rw [dSet_k (show 47 + 1 ≠ 47 by decide), dSet_k (show 47 + 2 ≠ 47 by decide), dSet_k (show 47 + 3 ≠ 47 by decide), dSet_s, dSet_j (by decide), dSet_j (by decide), dSet_j (by decide), dSet_j (by decide), dSet_j (by decide), x0]
      rw [show hoW H = w by omega]
      exact ⟨⟨rfl, x1, x2, x3, x4', x5⟩, xR, xE, xD⟩
    | succ t ih =>
      intro w x4 M hw h4 fM wM zM dM'
      have e21 := wM.2.1.1.2.1.1
      obtain ⟨⟨x0, x1, x2, x3, x4', x5⟩, xR, xE, xD⟩ := zM
      have on2 : ∀ M2 : dM, TyF 47 m M2 → CW H M2 → CZ 47 M2 (setW S (szG S ||| gn) (fun j => if j < w + 1 ∧ bt (szG S ||| gn) j = false then (if (szE S j + 1) < (999 : Int32) then (szE S j + 1) else 999) else szE S j)) → (∀ w : Nat, w < hoW H → M2.1 56 w = lod H (szG S) on w) → j_X0_passWires_54_47_84 5 gn x4 M2 Q := fun M2 a b d e => v_X0_passWires_54_47_84 (ih (w + 1) _ M2 (by omega) (d_inc h4 (by omega)) a b d e)
      refine v_X0_passWires_54_47_38 ⟨fun q => by exfalso; omega, fun _ => ?_⟩
      rw [x3, d_cn h4]
      refine Wp.deep (y_has (x0 := szG S ||| gn) h4 (by omega) (fun g => ⟨fun _ => on2 M fM wM ⟨⟨x0, x1, x2, x3, x4', x5⟩, xR, fun j hj => ?_, xD⟩ dM', fun q => absurd q (by decide)⟩) (fun g => ⟨fun q => absurd rfl q, fun _ => ⟨by omega, by omega, ?_⟩⟩)) (Nat.le_of_ble_eq_true rfl)
      · rw [xE j hj]
        show (if j < w ∧ bt (szG S ||| gn) j = false then (if (szE S j + 1) < (999 : Int32) then (szE S j + 1) else 999) else szE S j) = (if j < w + 1 ∧ bt (szG S ||| gn) j = false then (if (szE S j + 1) < (999 : Int32) then (szE S j + 1) else 999) else szE S j)
        by_cases e : j = w
        · subst e
          rw [if_neg (fun q => by omega), if_neg (fun q => by rw [g] at q; cases q.2)]
        · by_cases q : j < w ∧ bt (szG S ||| gn) j = false
          · rw [if_pos q, if_pos (show j < w + 1 ∧ bt (szG S ||| gn) j = false from ⟨by omega, q.2⟩)]
          · rw [if_neg q, if_neg (fun z => q ⟨by omega, z.2⟩)]
      · have xw : M.1 49 w = szE S w := by
          have xw : M.1 49 w = (if w < w ∧ bt (szG S ||| gn) w = false then (if (szE S w + 1) < (999 : Int32) then (szE S w + 1) else 999) else szE S w) := xE w (by omega)
          rw [if_neg (fun q => by omega)] at xw
          exact xw
        rw [xw]
        refine on2 _ (fM.set (by decide) (Or.inl rfl)) (wM.ty (n := 47) (by decide) (Or.inl rfl)) ?_ (fun w hw => by rw [dSet_k (by decide)]; exact dM' w hw)
        unfold CZ
        rw [dSet_k (show 47 ≠ 49 by decide), dSet_k (show 47 + 1 ≠ 49 by decide), dSet_k (show 47 + 3 ≠ 49 by decide)]
        refine ⟨⟨x0, x1, x2, x3, x4', x5⟩, xR, fun j hj => ?_, xD⟩
        show _ = (if j < w + 1 ∧ bt (szG S ||| gn) j = false then (if (szE S j + 1) < (999 : Int32) then (szE S j + 1) else 999) else szE S j)
        by_cases e : j = w
        · subst e
          rw [dSet_s, if_pos (show j < j + 1 ∧ bt (szG S ||| gn) j = false from ⟨by omega, g⟩)]
        · rw [dSet_j e, xE j hj]
          show (if j < w ∧ bt (szG S ||| gn) j = false then (if (szE S j + 1) < (999 : Int32) then (szE S j + 1) else 999) else szE S j) = _
          by_cases q : j < w ∧ bt (szG S ||| gn) j = false
          · rw [if_pos q, if_pos (show j < w + 1 ∧ bt (szG S ||| gn) j = false from ⟨by omega, q.2⟩)]
          · rw [if_neg q, if_neg (fun z => q ⟨by omega, z.2⟩)]
  refine loop (hoW H) 0 _ _ (by omega) (by decide) (F3.ty.set (by decide) (Or.inl rfl)) (w3.ty (n := 47) (by decide) (Or.inl rfl)) ?_ (fun w hw => by rw [dSet_k (by decide)]; exact d3 w hw)
  obtain ⟨⟨x0, x1, x2, x3, x4', x5⟩, xR, xE, xD⟩ := z3
  unfold CZ
  rw [dSet_k (show 47 + 1 ≠ 47 by decide), dSet_k (show 47 + 2 ≠ 47 by decide), dSet_k (show 47 + 3 ≠ 47 by decide), dSet_s, dSet_j (by decide), dSet_j (by decide), dSet_j (by decide), dSet_j (by decide), dSet_j (by decide)]
  exact ⟨⟨x0, x1, x2, rfl, x4', x5⟩, xR, fun j hj => xE j hj, xD⟩
theorem y_passHour47 {m : dM} {Q : dM → Prop} (hW : CW H m) (hZ : CZ 47 m S) (hO : zOk H S) (hQ : ∀ m' : dM, TyF 47 m m' → CW H m' → CZ 47 m' (hst H S) → Q m') : c_X0_passHour_54_47 6 m Q := by
  refine v_X0_passHour_54_47 (y_takePay47 hW hZ hO (fun M1 f1 w1 z1 => ?_))
  have b := cl_b (T := 99999) (x := szC S + pyS H S (onA H S (hod (szH S))) (hoU H)) (by decide)
  rw [ti_99999] at b
  have hO1 : zOk H (setC S (cl 99999 (szC S + pyS H S (onA H S (hod (szH S))) (hoU H)))) := ⟨b, hO.2⟩
  refine y_countQ47 w1 z1 hO1 (fun M2 f2 w2 z2 => ?_)
  rw [w2.2.1.2.2.2.2.2.1.2.2.2, z2.1.1]
  refine Wp.deep (y_surgeOf w2.2.1 ?_) (Nat.le_of_ble_eq_true rfl)
  have hg1 : (szG S).toInt ≠ -1 := hO.g1 hW.1
  refine y_passWires47 w2 z2 hg1 (fun M3 f3 w3 z3 _ => hQ M3 ((f1.tr f2).tr f3) w3 ?_)
  have e := quS_cg (H := H) (S := S) (T := setC S (cl 99999 (szC S + pyS H S (onA H S (hod (szH S))) (hoU H)))) rfl rfl rfl (hoF H)
  rw [e] at z3
  exact z3
theorem y_quarrel62 {x : Int32} {f : Nat} {m : dM} {Q : Int32 → dM → Prop} (hW : CW H m) (hZ : CZ 62 m S) (hx : x.toInt = (f : Int)) (hf : f < hoF H) (hQ : ∀ m' : dM, VaF m m' → Q (qrl H S f) m') : c_X0_quarrelOf_54_62 4 x m Q := by
  obtain ⟨o1, o2, o3, o4, o5, o6⟩ := hW.1
  refine v_X0_quarrelOf_54_62 (v_X7_hourOfDay_62 (v_X7_day_62 ?_))
  rw [hZ.1.1]
  refine Wp.deep (y_vars (fun M3 f3 v3 k3 => ?_)) (Nat.le_of_ble_eq_true rfl)
  have h3Z := hZ.sf f3.sf (Or.inr rfl)
  rw [d_cn hx]
  refine ⟨by omega, by omega, ?_⟩
  have v3' := vset (a := 7) (vset (a := 6) v3 ((hW.vf f3).2.1.2.2.1 f hf)) (h3Z.2.2.2 f (by omega))
  have F4 : VaF m (dSet (dSet M3 55 6 (M3.1 3 f)) 55 7 (M3.1 65 f)) := f3.set.set
  refine y_tellv (k := 1) (v := upd (upd (vz (hod (szH S)) (dy (szH S)) (Int32.ofNat f)) 6 (hoT H f)) 7 (szD S f)) (hW.vf F4).2.1 (by decide) (by decide) (fun j hj => ?_) (fun M4 f4 => Wp.deep (y_held (hQ M4 (F4.py f4))) (Nat.le_of_ble_eq_true rfl))
  rw [i32_of hx]
  exact v3' j hj
theorem y_pay62 {x : Int32} {u : Nat} {m : dM} {Q : Int32 → dM → Prop} (hW : CW H m) (hZ : CZ 62 m S) (hx : x.toInt = (u : Int)) (hu : u < hoU H) (hQ : ∀ m' : dM, VaF m m' → Q (pyu H S u) m') : c_X0_payOf_54_62 4 x m Q := by
  obtain ⟨o1, o2, o3, o4, o5, o6⟩ := hW.1
  refine v_X0_payOf_54_62 (v_X7_hourOfDay_62 (v_X7_day_62 ?_))
  rw [hZ.1.1]
  refine Wp.deep (y_vars (fun M3 f3 v3 k3 => ?_)) (Nat.le_of_ble_eq_true rfl)
  rw [d_cn hx]
  refine ⟨by omega, ?_⟩
  have v3' := vset (a := 5) v3 ((hW.vf f3).2.1.2.2.2.2.1 u hu).2.1
  have F4 : VaF m (dSet M3 55 5 (M3.1 8 u)) := f3.set
  refine y_tellv (k := 3) (v := upd (vz (hod (szH S)) (dy (szH S)) (Int32.ofNat u)) 5 (hoM H u)) (hW.vf F4).2.1 (by decide) (by decide) (fun j hj => ?_) (fun M4 f4 => Wp.deep (y_held (hQ M4 (F4.py f4))) (Nat.le_of_ble_eq_true rfl))
  rw [i32_of hx]
  exact v3' j hj
theorem y_takePay62 {m : dM} {Q : dM → Prop} (hW : CW H m) (hZ : CZ 62 m S) (hO : zOk H S) (hQ : ∀ m' : dM, TyF 62 m m' → CW H m' → CZ 62 m' (setC S (cl 99999 (szC S + pyS H S (onA H S (hod (szH S))) (hoU H)))) → Q m') : c_X0_takePay_54_62 5 m Q := by
  obtain ⟨o1, o2, o3, o4, o5, o6⟩ := hW.1
  refine v_X0_takePay_54_62 (v_X7_hourOfDay_62 ?_)
  rw [hZ.1.1]
  refine Wp.deep (y_usesAt62 hW hZ (hO.g1 hW.1) (fun M hF hWM hA => ?_)) (Nat.le_of_ble_eq_true rfl)
  show j_X0_takePay_54_62_12 5 (onA H S (hod (szH S))) (0 : Int32) M Q
  generalize onA H S (hod (szH S)) = on at hQ ⊢
  have loop : ∀ (t u : Nat) (x3 : Int32) (M1 : dM), u + t = hoU H → x3.toInt = (u : Int) → TyF 62 m M1 → CW H M1 → CZ 62 M1 (setC S (cl 99999 (szC S + pyS H S on u))) → j_X0_takePay_54_62_12 5 on x3 M1 Q := by
    intro t
    induction t with
    | zero =>
      intro u x3 M1 hu h3 f1 w1 z1
      have e22 := w1.2.1.2.1
      refine v_X0_takePay_54_62_12 ⟨fun _ => hQ M1 f1 w1 ?_, fun q => by exfalso; omega⟩
      rw [show hoU H = u by omega]
      exact z1
    | succ t ih =>
      intro u x3 M1 hu h3 f1 w1 z1
      have e22 := w1.2.1.2.1
      have on2 : ∀ M2 : dM, TyF 62 m M2 → CW H M2 → CZ 62 M2 (setC S (cl 99999 (szC S + pyS H S on (u + 1)))) → j_X0_takePay_54_62_51 5 on x3 M2 Q := fun M2 a b d => v_X0_takePay_54_62_51 (ih (u + 1) _ M2 (by omega) (d_inc h3 (by omega)) a b d)
      refine v_X0_takePay_54_62_12 ⟨fun q => by exfalso; omega, fun _ => Wp.deep (y_has h3 (by omega) (fun g => ⟨fun q => absurd q (by decide), fun _ => ?_⟩) (fun g => ⟨fun _ => on2 M1 f1 w1 ?_, fun q => absurd rfl q⟩)) (Nat.le_of_ble_eq_true rfl)⟩
      · refine Wp.deep (y_pay62 w1 z1 h3 (by omega) (fun M2 f2 => on2 _ ((f1.tr f2.sf.ty).set (by decide) (Or.inr rfl)) ((w1.vf f2).ty (n := 62) (by decide) (Or.inr rfl)) ?_)) (Nat.le_of_ble_eq_true rfl)
        have z2 := z1.sf f2.sf (Or.inr rfl)
        have := z2.c (v := (if ((M1.1 62 1) + pyu H (setC S (cl 99999 (szC S + pyS H S on u))) u) < (99999 : Int32) then ((M1.1 62 1) + pyu H (setC S (cl 99999 (szC S + pyS H S on u))) u) else (99999 : Int32)))
        have e : (if ((M1.1 62 1) + pyu H (setC S (cl 99999 (szC S + pyS H S on u))) u) < (99999 : Int32) then ((M1.1 62 1) + pyu H (setC S (cl 99999 (szC S + pyS H S on u))) u) else (99999 : Int32)) = cl 99999 (szC S + pyS H S on (u + 1)) := by
          rw [z1.1.2.1]
          have pe : pyS H S on (u + 1) = pyS H S on u + pyu H S u := by
            show cond (bt on u) (pyS H S on u + pyu H S u) (pyS H S on u) = _
            rw [g, cond_true]
          rw [pe]
          have b := pyS_b (H := H) (S := S) (on := on) u (by omega)
          exact cl_step (by rw [ti_99999]; decide) (by rw [ti_99999]; exact hO.1) (by omega) (hl_b _)
        rw [e] at this ⊢
        exact this
      · have pe : pyS H S on (u + 1) = pyS H S on u := by
          show cond (bt on u) (pyS H S on u + pyu H S u) (pyS H S on u) = _
          rw [g, cond_false]
        rw [pe]
        exact z1
  refine loop (hoU H) 0 _ M (by omega) (by decide) hF.sf.ty hWM ?_
  have e : cl 99999 (szC S + pyS H S on 0) = szC S := cl_id (by rw [ti_99999]; exact hO.1)
  rw [e]
  exact hZ.sf hF.sf (Or.inr rfl)
theorem y_countQ62 {m : dM} {Q : dM → Prop} (hW : CW H m) (hZ : CZ 62 m S) (hO : zOk H S) (hQ : ∀ m' : dM, TyF 62 m m' → CW H m' → CZ 62 m' (setQ S (cl 999999 (szQ S + quS H S (hoF H))) (fun f => if f < hoF H then cond (lt H (szG S) f) 0 (szD S f + 1) else szD S f)) → Q m') : c_X0_countQuarrels_54_62 5 m Q := by
  obtain ⟨o1, o2, o3, o4, o5, o6⟩ := hW.1
  refine v_X0_countQuarrels_54_62 ?_
  rw [hZ.1.2.2.2.1]
  refine Wp.deep (y_lays hW (hO.g1 hW.1) (fun M hF hWM hA => ?_)) (Nat.le_of_ble_eq_true rfl)
  have loop : ∀ (t f : Nat) (x2 v : Int32) (M1 : dM), f + t = hoF H → x2.toInt = (f : Int) → TyF 62 m M1 → CW H M1 → LA H (szG S) M1 → v = cl 999999 (szQ S + quS H S f) → CZ 62 M1 (setQ S v (dkn H S f)) → j_X0_countQuarrels_54_62_13 5 x2 M1 Q := by
    intro t
    induction t with
    | zero =>
      intro f x2 v M1 hf h2 f1 w1 l1 hv z1
      have e20 := w1.2.1.1.1.1
      refine v_X0_countQuarrels_54_62_13 ⟨fun _ => hQ M1 f1 w1 ?_, fun q => by exfalso; omega⟩
      rw [show hoF H = f by omega, ← hv]
      exact z1
    | succ t ih =>
      intro f x2 v M1 hf h2 f1 w1 l1 hv z1
      have e20 := w1.2.1.1.1.1
      have on2 : ∀ (v : Int32) (M2 : dM), TyF 62 m M2 → CW H M2 → LA H (szG S) M2 → v = cl 999999 (szQ S + quS H S (f + 1)) → CZ 62 M2 (setQ S v (dkn H S (f + 1))) → j_X0_countQuarrels_54_62_78 5 x2 M2 Q := fun v M2 a b l e d => v_X0_countQuarrels_54_62_78 (ih (f + 1) _ v M2 (by omega) (d_inc h2 (by omega)) a b l e d)
      have hlit := l1.lit (f := f) (by omega) o1
      have qs : quS H S (f + 1) = cond (lt H (szG S) f) (quS H S f) (quS H S f + qrl H S f) := rfl
      refine v_X0_countQuarrels_54_62_13 ⟨fun q => by exfalso; omega, fun _ => Wp.deep (y_has h2 (by omega) (fun g => ⟨fun q => absurd q (by decide), fun _ => ⟨by omega, ?_⟩⟩) (fun g => ⟨fun _ => ?_, fun q => absurd rfl q⟩)) (Nat.le_of_ble_eq_true rfl)⟩
      · have gl : lt H (szG S) f = true := by rw [← hlit]; exact g
        rw [gl, cond_true] at qs
        rw [d_cn h2]
        exact on2 v _ (f1.set (by decide) (Or.inr rfl)) (w1.ty (n := 62) (by decide) (Or.inr rfl)) (l1.ty (n := 62) (by decide) (Or.inr rfl)) (by rw [qs]; exact hv) (z1.lit gl)
      · have gl : lt H (szG S) f = false := by rw [← hlit]; exact g
        rw [gl, cond_false] at qs
        refine Wp.deep (y_quarrel62 w1 z1 h2 (by omega) (fun M2 f2 => ⟨by omega, by omega, ?_⟩)) (Nat.le_of_ble_eq_true rfl)
        have qe : qrl H (setQ S v (dkn H S f)) f = qrl H S f := by
          unfold qrl
          show hl (lW (hoL H 1) (upd (upd (vz (hod (szH S)) (dy (szH S)) (Int32.ofNat f)) 6 (hoT H f)) 7 (dkn H S f f))) = _
          unfold dkn
          rw [if_neg (by omega)]
        have y2 : M1.1 62 2 = v := z1.1.2.2.1
        rw [qe, d_cn h2, y2]
        have b := quS_b (H := H) (S := S) f (by omega)
        have st := cl_step (T := 999999) (c := szQ S) (s := quS H S f) (p := qrl H S f) (by rw [ti_999999]; decide) (by rw [ti_999999]; exact hO.2.1) (by omega) (hl_b _)
        rw [← hv, ← qs] at st
        exact on2 _ _ (((f1.tr f2.sf.ty).set (by decide) (Or.inr rfl)).set (by decide) (Or.inr rfl)) (((w1.vf f2).ty (n := 62) (by decide) (Or.inr rfl)).ty (n := 62) (by decide) (Or.inr rfl)) (((l1.of (fun k a b => f2.1 k (by omega) (by omega) (by omega))).ty (n := 62) (by decide) (Or.inr rfl)).ty (n := 62) (by decide) (Or.inr rfl)) st ((z1.sf f2.sf (Or.inr rfl)).dark gl (by omega))
  refine loop (hoF H) 0 _ (szQ S) M (by omega) (by decide) hF.sf.ty hWM hA ?_ ?_
  · exact (cl_id (by rw [ti_999999]; exact hO.2.1)).symm
  · obtain ⟨⟨x0, x1, x2', x3, x4, x5⟩, xR, xE, xD⟩ := hZ.sf hF.sf (Or.inr rfl)
    exact ⟨⟨x0, x1, x2', x3, x4, x5⟩, xR, xE, fun j hj => xD j hj⟩
theorem y_passWires62 {more : Int32} {m : dM} {Q : Int32 → dM → Prop} (hW : CW H m) (hZ : CZ 62 m S) (hg : (szG S).toInt ≠ -1) (hQ : ∀ m' : dM, TyF 62 m m' → CW H m' → CZ 62 m' (wsz H S more) → (∀ w : Nat, w < hoW H → m'.1 56 w = lod H (szG S) (onA H S (hod (szH S))) w) → Q (gng H S (onA H S (hod (szH S))) (hod (szH S)) more) m') : c_X0_passWires_54_62 5 more m Q := by
  obtain ⟨o1, o2, o3, o4, o5, o6⟩ := hW.1
  refine v_X0_passWires_54_62 (v_X7_hourOfDay_62 ?_)
  rw [hZ.1.1]
  refine Wp.deep (y_usesAt62 hW hZ hg (fun M1 f1 w1 l1 => ?_)) (Nat.le_of_ble_eq_true rfl)
  have z1 := hZ.sf f1.sf (Or.inr rfl)
  refine Wp.deep (y_putOn62 w1 z1 hg (fun M2 f2 w2 l2 d2 => v_X7_hourOfDay_62 ?_)) (Nat.le_of_ble_eq_true rfl)
  have z2 := z1.sf f2 (Or.inr rfl)
  rw [z2.1.1]
  refine y_going62 w2 z2 d2 (fun M3 f3 => ?_)
  have z3 := z2.sf f3.sf (Or.inr rfl)
  have w3 := w2.vf f3
  have F3 : ScF m M3 := (f1.sf.tr f2).tr f3.sf
  have d3 : ∀ w : Nat, w < hoW H → M3.1 56 w = lod H (szG S) (onA H S (hod (szH S))) w := fun w hw => by rw [f3.1 56 (by decide) (by decide) (by decide)]; exact d2 w hw
  rw [z3.1.2.2.2.1]
  show j_X0_passWires_54_62_38 5 (gng H S (onA H S (hod (szH S))) (hod (szH S)) more) (0 : Int32) (dSet M3 62 3 (szG S ||| gng H S (onA H S (hod (szH S))) (hod (szH S)) more)) Q
  have hG : wsz H S more = ((szH S + 1, szC S, szQ S, szG S ||| gng H S (onA H S (hod (szH S))) (hod (szH S)) more, szP S, szA S), szR S, (fun w => if w < hoW H ∧ bt (szG S ||| gng H S (onA H S (hod (szH S))) (hod (szH S)) more) w = false then (if (szE S w + 1) < (999 : Int32) then (szE S w + 1) else 999) else szE S w), szD S) := rfl
  rw [hG] at hQ
  generalize onA H S (hod (szH S)) = on at hQ d3 ⊢
  generalize gng H S on (hod (szH S)) more = gn at hQ ⊢
  have loop : ∀ (t w : Nat) (x4 : Int32) (M : dM), w + t = hoW H → x4.toInt = (w : Int) → TyF 62 m M → CW H M → CZ 62 M (setW S (szG S ||| gn) (fun j => if j < w ∧ bt (szG S ||| gn) j = false then (if (szE S j + 1) < (999 : Int32) then (szE S j + 1) else 999) else szE S j)) → (∀ w : Nat, w < hoW H → M.1 56 w = lod H (szG S) on w) → j_X0_passWires_54_62_38 5 gn x4 M Q := by
    intro t
    induction t with
    | zero =>
      intro w x4 M hw h4 fM wM zM dM'
      have e21 := wM.2.1.1.2.1.1
      refine v_X0_passWires_54_62_38 ⟨fun _ => hQ _ (fM.set (by decide) (Or.inr rfl)) (wM.ty (n := 62) (by decide) (Or.inr rfl)) ?_ (fun w hw => by rw [dSet_k (by decide)]; exact dM' w hw), fun q => by exfalso; omega⟩
      obtain ⟨⟨x0, x1, x2, x3, x4', x5⟩, xR, xE, xD⟩ := zM
      unfold CZ
      rw [dSet_k (show 62 + 1 ≠ 62 by decide), dSet_k (show 62 + 2 ≠ 62 by decide), dSet_k (show 62 + 3 ≠ 62 by decide), dSet_s, dSet_j (by decide), dSet_j (by decide), dSet_j (by decide), dSet_j (by decide), dSet_j (by decide), x0]
      rw [show hoW H = w by omega]
      exact ⟨⟨rfl, x1, x2, x3, x4', x5⟩, xR, xE, xD⟩
    | succ t ih =>
      intro w x4 M hw h4 fM wM zM dM'
      have e21 := wM.2.1.1.2.1.1
      obtain ⟨⟨x0, x1, x2, x3, x4', x5⟩, xR, xE, xD⟩ := zM
      have on2 : ∀ M2 : dM, TyF 62 m M2 → CW H M2 → CZ 62 M2 (setW S (szG S ||| gn) (fun j => if j < w + 1 ∧ bt (szG S ||| gn) j = false then (if (szE S j + 1) < (999 : Int32) then (szE S j + 1) else 999) else szE S j)) → (∀ w : Nat, w < hoW H → M2.1 56 w = lod H (szG S) on w) → j_X0_passWires_54_62_84 5 gn x4 M2 Q := fun M2 a b d e => v_X0_passWires_54_62_84 (ih (w + 1) _ M2 (by omega) (d_inc h4 (by omega)) a b d e)
      refine v_X0_passWires_54_62_38 ⟨fun q => by exfalso; omega, fun _ => ?_⟩
      rw [x3, d_cn h4]
      refine Wp.deep (y_has (x0 := szG S ||| gn) h4 (by omega) (fun g => ⟨fun _ => on2 M fM wM ⟨⟨x0, x1, x2, x3, x4', x5⟩, xR, fun j hj => ?_, xD⟩ dM', fun q => absurd q (by decide)⟩) (fun g => ⟨fun q => absurd rfl q, fun _ => ⟨by omega, by omega, ?_⟩⟩)) (Nat.le_of_ble_eq_true rfl)
      · rw [xE j hj]
        show (if j < w ∧ bt (szG S ||| gn) j = false then (if (szE S j + 1) < (999 : Int32) then (szE S j + 1) else 999) else szE S j) = (if j < w + 1 ∧ bt (szG S ||| gn) j = false then (if (szE S j + 1) < (999 : Int32) then (szE S j + 1) else 999) else szE S j)
        by_cases e : j = w
        · subst e
          rw [if_neg (fun q => by omega), if_neg (fun q => by rw [g] at q; cases q.2)]
        · by_cases q : j < w ∧ bt (szG S ||| gn) j = false
          · rw [if_pos q, if_pos (show j < w + 1 ∧ bt (szG S ||| gn) j = false from ⟨by omega, q.2⟩)]
          · rw [if_neg q, if_neg (fun z => q ⟨by omega, z.2⟩)]
      · have xw : M.1 64 w = szE S w := by
          have xw : M.1 64 w = (if w < w ∧ bt (szG S ||| gn) w = false then (if (szE S w + 1) < (999 : Int32) then (szE S w + 1) else 999) else szE S w) := xE w (by omega)
          rw [if_neg (fun q => by omega)] at xw
          exact xw
        rw [xw]
        refine on2 _ (fM.set (by decide) (Or.inr rfl)) (wM.ty (n := 62) (by decide) (Or.inr rfl)) ?_ (fun w hw => by rw [dSet_k (by decide)]; exact dM' w hw)
        unfold CZ
        rw [dSet_k (show 62 ≠ 64 by decide), dSet_k (show 62 + 1 ≠ 64 by decide), dSet_k (show 62 + 3 ≠ 64 by decide)]
        refine ⟨⟨x0, x1, x2, x3, x4', x5⟩, xR, fun j hj => ?_, xD⟩
        show _ = (if j < w + 1 ∧ bt (szG S ||| gn) j = false then (if (szE S j + 1) < (999 : Int32) then (szE S j + 1) else 999) else szE S j)
        by_cases e : j = w
        · subst e
          rw [dSet_s, if_pos (show j < j + 1 ∧ bt (szG S ||| gn) j = false from ⟨by omega, g⟩)]
        · rw [dSet_j e, xE j hj]
          show (if j < w ∧ bt (szG S ||| gn) j = false then (if (szE S j + 1) < (999 : Int32) then (szE S j + 1) else 999) else szE S j) = _
          by_cases q : j < w ∧ bt (szG S ||| gn) j = false
          · rw [if_pos q, if_pos (show j < w + 1 ∧ bt (szG S ||| gn) j = false from ⟨by omega, q.2⟩)]
          · rw [if_neg q, if_neg (fun z => q ⟨by omega, z.2⟩)]
  refine loop (hoW H) 0 _ _ (by omega) (by decide) (F3.ty.set (by decide) (Or.inr rfl)) (w3.ty (n := 62) (by decide) (Or.inr rfl)) ?_ (fun w hw => by rw [dSet_k (by decide)]; exact d3 w hw)
  obtain ⟨⟨x0, x1, x2, x3, x4', x5⟩, xR, xE, xD⟩ := z3
  unfold CZ
  rw [dSet_k (show 62 + 1 ≠ 62 by decide), dSet_k (show 62 + 2 ≠ 62 by decide), dSet_k (show 62 + 3 ≠ 62 by decide), dSet_s, dSet_j (by decide), dSet_j (by decide), dSet_j (by decide), dSet_j (by decide), dSet_j (by decide)]
  exact ⟨⟨x0, x1, x2, rfl, x4', x5⟩, xR, fun j hj => xE j hj, xD⟩
theorem y_passHour62 {m : dM} {Q : dM → Prop} (hW : CW H m) (hZ : CZ 62 m S) (hO : zOk H S) (hQ : ∀ m' : dM, TyF 62 m m' → CW H m' → CZ 62 m' (hst H S) → Q m') : c_X0_passHour_54_62 6 m Q := by
  refine v_X0_passHour_54_62 (y_takePay62 hW hZ hO (fun M1 f1 w1 z1 => ?_))
  have b := cl_b (T := 99999) (x := szC S + pyS H S (onA H S (hod (szH S))) (hoU H)) (by decide)
  rw [ti_99999] at b
  have hO1 : zOk H (setC S (cl 99999 (szC S + pyS H S (onA H S (hod (szH S))) (hoU H)))) := ⟨b, hO.2⟩
  refine y_countQ62 w1 z1 hO1 (fun M2 f2 w2 z2 => ?_)
  rw [w2.2.1.2.2.2.2.2.1.2.2.2, z2.1.1]
  refine Wp.deep (y_surgeOf w2.2.1 ?_) (Nat.le_of_ble_eq_true rfl)
  have hg1 : (szG S).toInt ≠ -1 := hO.g1 hW.1
  refine y_passWires62 w2 z2 hg1 (fun M3 f3 w3 z3 _ => hQ M3 ((f1.tr f2).tr f3) w3 ?_)
  have e := quS_cg (H := H) (S := S) (T := setC S (cl 99999 (szC S + pyS H S (onA H S (hod (szH S))) (hoU H)))) rfl rfl rfl (hoF H)
  rw [e] at z3
  exact z3
end CHP
