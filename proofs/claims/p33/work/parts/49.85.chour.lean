/-! THE CLASS: what is on, what is in the wires, what the laws tell, an hour -/
def CH (H : Ho) (m : dM) : Prop := HW (hoF H) (hoW H) (hoA H) (hoB H) m ∧ (m.1 2 2).toInt = (hoU H : Int) ∧ (∀ f : Nat, f < hoF H → m.1 3 f = hoT H f) ∧ (∀ w : Nat, w < hoW H → m.1 6 w = hoR H w) ∧ (∀ u : Nat, u < hoU H → (m.1 7 u).toInt = (hoH H u : Int) ∧ m.1 8 u = hoM H u ∧ m.1 9 u = hoO H u ∧ m.1 10 u = hoI H u) ∧ (m.1 2 3 = hoS H ∧ m.1 2 4 = hoP H ∧ m.1 2 5 = hoC H ∧ m.1 2 6 = hoE H) ∧ ∀ k : Nat, k < 4 → LC m k (hoL H k)
/-- a house with the ways that were laid last -/
def CW (H : Ho) (m : dM) : Prop := hOk H ∧ CH H m ∧ WI (hoF H) (hoW H) (hoA H) (hoB H) m
def CZ (c : Nat) (m : dM) (S : Zt) : Prop := (m.1 c 0 = szH S ∧ m.1 c 1 = szC S ∧ m.1 c 2 = szQ S ∧ m.1 c 3 = szG S ∧ m.1 c 4 = szP S ∧ m.1 c 5 = szA S) ∧ (∀ j : Nat, j < 10 → m.1 (c + 1) j = szR S j) ∧ (∀ j : Nat, j < 10 → m.1 (c + 2) j = szE S j) ∧ ∀ j : Nat, j < 7 → m.1 (c + 3) j = szD S j
/-- scratch alone has changed -/
def ScF (m0 m : dM) : Prop := (∀ k : Nat, k ≠ 11 → k ≠ 19 → (k < 55 ∨ 60 < k) → m.1 k = m0.1 k) ∧ (∀ j : Nat, j ≠ 5 → m.1 11 j = m0.1 11 j) ∧ m.2 = m0.2
theorem ScF.rf (m : dM) : ScF m m := ⟨fun _ _ _ _ => rfl, fun _ _ => rfl, rfl⟩
theorem ScF.tr {a b c : dM} (h : ScF a b) (h' : ScF b c) : ScF a c := ⟨fun k q1 q2 q3 => (h'.1 k q1 q2 q3).trans (h.1 k q1 q2 q3), fun j q => (h'.2.1 j q).trans (h.2.1 j q), h'.2.2.trans h.2.2⟩
/-- laws alone have been asked -/
def VaF (m0 m : dM) : Prop := (∀ k : Nat, k ≠ 11 → k ≠ 19 → k ≠ 55 → m.1 k = m0.1 k) ∧ (∀ j : Nat, j ≠ 5 → m.1 11 j = m0.1 11 j) ∧ m.2 = m0.2
theorem VaF.rf (m : dM) : VaF m m := ⟨fun _ _ _ _ => rfl, fun _ _ => rfl, rfl⟩
theorem VaF.tr {a b c : dM} (h : VaF a b) (h' : VaF b c) : VaF a c := ⟨fun k q1 q2 q3 => (h'.1 k q1 q2 q3).trans (h.1 k q1 q2 q3), fun j q => (h'.2.1 j q).trans (h.2.1 j q), h'.2.2.trans h.2.2⟩
theorem VaF.sf {a b : dM} (h : VaF a b) : ScF a b := ⟨fun k q1 q2 q3 => h.1 k q1 q2 (by omega), h.2⟩
theorem VaF.py {a b c : dM} (h : VaF a b) (h' : PyF b c) : VaF a c := ⟨fun k q1 q2 q3 => (h'.1 k q2 q1).trans (h.1 k q1 q2 q3), fun j q => (h'.2.1 j q).trans (h.2.1 j q), h'.2.2.trans h.2.2⟩
theorem VaF.set {a b : dM} {j : Nat} {v : Int32} (h : VaF a b) : VaF a (dSet b 55 j v) := ⟨fun k q1 q2 q3 => by rw [dSet_k q3]; exact h.1 k q1 q2 q3, fun i q => by rw [dSet_k (by decide)]; exact h.2.1 i q, h.2.2⟩
theorem LyF.sf {a b : dM} (h : LyF a b) : ScF a b := ⟨fun k _ _ q => h.1 k (by omega), fun j _ => by rw [h.1 11 (by omega)], h.2.2⟩
section CHO
variable {H : Ho} {S : Zt}
theorem CH.of {m m' : dM} (h : CH H m) (e : ∀ k : Nat, 2 ≤ k → k ≤ 18 → k ≠ 11 → m'.1 k = m.1 k) : CH H m' := by
  obtain ⟨a1, a2, a3, a4, a5, a6, a7⟩ := h
  refine ⟨?_, ?_, ?_, ?_, ?_, ?_, fun k hk => (a7 k hk).of (fun c p q => e c (by omega) (by omega) (by omega)) hk⟩
  · unfold HW
    rw [e 2 (by omega) (by omega) (by omega), e 4 (by omega) (by omega) (by omega), e 5 (by omega) (by omega) (by omega)]; exact a1
  · rw [e 2 (by omega) (by omega) (by omega)]; exact a2
  · rw [e 3 (by omega) (by omega) (by omega)]; exact a3
  · rw [e 6 (by omega) (by omega) (by omega)]; exact a4
  · rw [e 7 (by omega) (by omega) (by omega), e 8 (by omega) (by omega) (by omega), e 9 (by omega) (by omega) (by omega), e 10 (by omega) (by omega) (by omega)]; exact a5
  · rw [e 2 (by omega) (by omega) (by omega)]; exact a6
theorem CH.sf {m m' : dM} (h : CH H m) (hF : ScF m m') : CH H m' := h.of (fun k a b c => hF.1 k c (by omega) (by omega))
theorem WI.of {nf nw : Nat} {e1 e2 : Nat → Nat} {m m' : dM} (h : WI nf nw e1 e2 m) (e : ∀ k : Nat, 57 ≤ k → k ≤ 60 → m'.1 k = m.1 k) : WI nf nw e1 e2 m' := by
  unfold WI WyR
  rw [e 57 (by omega) (by omega), e 58 (by omega) (by omega), e 59 (by omega) (by omega), e 60 (by omega) (by omega)]
  exact h
theorem CW.vf {m m' : dM} (h : CW H m) (hF : VaF m m') : CW H m' := ⟨h.1, h.2.1.sf hF.sf, h.2.2.of (fun k a b => hF.1 k (by omega) (by omega) (by omega))⟩
theorem CZ.of {c : Nat} {m m' : dM} (h : CZ c m S) (e : ∀ k : Nat, c ≤ k → k ≤ c + 3 → m'.1 k = m.1 k) : CZ c m' S := by
  unfold CZ
  rw [e c (by omega) (by omega), e (c + 1) (by omega) (by omega), e (c + 2) (by omega) (by omega), e (c + 3) (by omega) (by omega)]
  exact h
theorem CZ.sf {c : Nat} {m m' : dM} (h : CZ c m S) (hF : ScF m m') (hc : c = 47 ∨ c = 62) : CZ c m' S := h.of (fun k a b => hF.1 k (by omega) (by omega) (by omega))
/-- ways are laid for these -/
def LA (H : Ho) (g : Int32) (m : dM) : Prop := m.1 57 1 = g ∧ WyR (hoF H) (hoW H) (hoA H) (hoB H) (bt g) (dD (hoF H) (hoW H) (hoA H) (hoB H) (bt g)) m
theorem LA.of {g : Int32} {m m' : dM} (h : LA H g m) (e : ∀ k : Nat, 57 ≤ k → k ≤ 60 → m'.1 k = m.1 k) : LA H g m' := by
  unfold LA WyR
  rw [e 57 (by omega) (by omega), e 58 (by omega) (by omega), e 59 (by omega) (by omega), e 60 (by omega) (by omega)]
  exact h
theorem LA.wi {g : Int32} {m : dM} (h : LA H g m) : WI (hoF H) (hoW H) (hoA H) (hoB H) m := fun _ => by
  rw [h.1]
  exact h.2
theorem LA.lit {g : Int32} {m : dM} (h : LA H g m) {f : Nat} (hf : f < hoF H) (h7 : hoF H ≤ 7) : bt (m.1 57 5) f = lt H g f := by
  rw [h.2.2.2.2 f (by omega), decide_eq_true hf, Bool.true_and]
  rfl
theorem y_lays {g : Int32} {m : dM} {Q : dM → Prop} (hW : CW H m) (hg : g.toInt ≠ -1) (hQ : ∀ m' : dM, LyF m m' → CW H m' → LA H g m' → Q m') : c_X10_lay_57 2 g m Q :=
  y_lay hW.2.1.1 hW.2.2 hg (fun m' a b c => hQ m' a ⟨hW.1, hW.2.1.sf a.sf, LA.wi (H := H) ⟨b, c⟩⟩ ⟨b, c⟩)
theorem zOk.g1 (hH : hOk H) (h : zOk H S) : (szG S).toInt ≠ -1 := fun e => by
  have e2 : szG S = -1 := Int32.toInt_inj.mp (by rw [e]; decide)
  have := h.2.2.1 31 (by rw [e2]; decide)
  have := hH.2.1
  omega
theorem y_vars {x1 x2 x3 : Int32} {m : dM} {Q : dM → Prop} (hQ : ∀ m' : dM, VaF m m' → (∀ j : Nat, j < 9 → m'.1 55 j = vz x1 x2 x3 j) → (∀ k : Nat, k ≠ 55 → m'.1 k = m.1 k) → Q m') : c_X0_setVars_54 2 x1 x2 x3 m Q := by
  refine v_X0_setVars_54 (y_fill55 (fun m1 a b c => hQ _ (VaF.set (VaF.set (VaF.set ⟨fun k _ _ q => a k q, fun j _ => by rw [a 11 (by decide)], b⟩))) (fun j hj => ?_) (fun k hk => by rw [dSet_k hk, dSet_k hk, dSet_k hk]; exact a k hk)))
  unfold vz
  by_cases q8 : j = 8
  · subst q8
    rw [dSet_s]
    rfl
  · rw [dSet_j q8]
    by_cases q4 : j = 4
    · subst q4
      rw [dSet_s]
      rfl
    · rw [dSet_j q4]
      by_cases q3 : j = 3
      · subst q3
        rw [dSet_s]
        rfl
      · rw [dSet_j q3, c j hj, if_neg q3, if_neg q4, if_neg q8]
theorem y_tellv {k : Nat} {v : Nat → Int32} {x1 : Int32} {m : dM} {Q : Int32 → dM → Prop} (hH : CH H m) (hk : k < 4) (hx : x1.toInt = (k : Int)) (hv : ∀ j : Nat, j < 9 → m.1 55 j = v j) (hQ : ∀ m' : dM, PyF m m' → Q (lW (hoL H k) v) m') : c_X4_tells_11_55 3 x1 m Q :=
  y_tells (hH.2.2.2.2.2.2 k hk) hk hx (fun m' hF => by rw [lW_cv hv]; exact hQ m' hF)
theorem y_held {x : Int32} {m : dM} {Q : Int32 → dM → Prop} (hQ : Q (hl x) m) : c_X0_held 1 x m Q := by
  have e : (if (0 : Int32) < (if x < (99 : Int32) then x else (99 : Int32)) then (if x < (99 : Int32) then x else (99 : Int32)) else (0 : Int32)) = hl x := by
    have lti : ∀ x y : Int32, x < y ↔ x.toInt < y.toInt := fun x y => Int32.lt_iff_toInt_lt
    have e0 : (0 : Int32).toInt = 0 := by decide
    have e9 : (99 : Int32).toInt = 99 := by decide
    apply Int32.toInt_inj.mp
    unfold hl
    by_cases q : x < (99 : Int32)
    · have q' := (lti _ _).mp q
      rw [if_pos q]
      by_cases z : (0 : Int32) < x
      · have z' := (lti _ _).mp z
        rw [if_pos z, if_neg (by omega), if_neg (by omega)]
      · have z' : ¬ (0 : Int32).toInt < x.toInt := fun y => z ((lti _ _).mpr y)
        rw [if_neg z]
        by_cases y : x.toInt < 0
        · rw [if_pos y]
        · rw [if_neg y, if_neg (by omega)]; omega
    · have q' : ¬ x.toInt < (99 : Int32).toInt := fun y => q ((lti _ _).mpr y)
      rw [if_neg q, if_pos (by decide), if_neg (by omega)]
      by_cases y : 99 < x.toInt
      · rw [if_pos y]
      · rw [if_neg y]; omega
  refine v_X0_held ?_
  rw [e]
  exact hQ
theorem upd_j {f : Nat → Int32} {a j : Nat} {x : Int32} : upd f a x j = if j = a then x else f j := rfl
/-- stores into the variables -/
theorem vset {m : dM} {v : Nat → Int32} {a : Nat} {x y : Int32} (h : ∀ j : Nat, j < 9 → m.1 55 j = v j) (e : x = y) : ∀ j : Nat, j < 9 → (dSet m 55 a x).1 55 j = upd v a y j := fun j hj => by
  rw [dSet_e, upd_j]
  by_cases q : j = a
  · rw [if_pos ⟨rfl, q⟩, if_pos q, e]
  · rw [if_neg (fun z => q z.2), if_neg q]; exact h j hj
theorem i32_of {a : Int32} {k : Nat} (h : a.toInt = (k : Int)) : Int32.ofNat k = a := (i32_nat h).symm
theorem y_stirred {a b : Int32} {m : dM} {Q : Int32 → dM → Prop} (hQ : Q (mx a b) m) : c_X0_stirred 1 a b m Q := v_X0_stirred hQ
theorem y_surgeOf {x1 x2 : Int32} {m : dM} {Q : Int32 → dM → Prop} (hH : CH H m) (hQ : Q (sgA H x1 x2) m) : c_X0_surgeOf_54 4 x1 x2 m Q := by
  have e2 := hH.2.2.2.2.2.1
  have hs : (lot (mx (mx x1 129) ((4 : Int32) * x2))).toInt < (hoS H).toInt → sgA H x1 x2 = hoP H := fun q => by unfold sgA sgp; rw [decide_eq_true q]; rfl
  have hn : ¬ (lot (mx (mx x1 129) ((4 : Int32) * x2))).toInt < (hoS H).toInt → sgA H x1 x2 = 0 := fun q => by unfold sgA sgp; rw [decide_eq_false q]; rfl
  refine v_X0_surgeOf_54 (v_X0_isSurge_54 (v_X0_lot (y_stirred (y_stirred ⟨fun q => absurd q (by decide), fun _ => ⟨by decide, ?_⟩⟩))))
  rw [e2.1]
  refine ⟨fun q => ⟨fun _ => ?_, fun z => absurd rfl z⟩, fun q => ⟨fun z => absurd z (by decide), fun _ => ?_⟩⟩
  · have q : (hoS H).toInt ≤ (lot (mx (mx x1 129) ((4 : Int32) * x2))).toInt := q
    rw [hn (by omega)] at hQ
    exact hQ
  · rw [e2.2.1, ← hs q]
    exact hQ
theorem ushr_z {x a : Int32} {k w : Nat} (h : a.toInt = (k : Int)) (hk : k < 32) (hz : (x.toUInt32 >>> (a.toUInt32 &&& Int32.toUInt32 31)).toInt32.toInt = 0) (hw : k ≤ w) : bt x w = false := by
  have l : (x.toUInt32 >>> (a.toUInt32 &&& Int32.toUInt32 31)).toInt32.toBitVec = x.toBitVec >>> k := by
    rw [i32_nat h]
    match k, hk with
    | 0, _ | 1, _ | 2, _ | 3, _ | 4, _ | 5, _ | 6, _ | 7, _ | 8, _ | 9, _ | 10, _ | 11, _ | 12, _ | 13, _ | 14, _ | 15, _ | 16, _ | 17, _ | 18, _ | 19, _ | 20, _ | 21, _ | 22, _ | 23, _ | 24, _ | 25, _ | 26, _ | 27, _ | 28, _ | 29, _ | 30, _ | 31, _ => rfl
    | k + 32, h => omega
  have z : (x.toUInt32 >>> (a.toUInt32 &&& Int32.toUInt32 31)).toInt32 = 0 := Int32.toInt_inj.mp (by rw [hz]; decide)
  rw [z] at l
  have e := congrArg (fun b : BitVec 32 => b.getLsbD (w - k)) l
  simp only [BitVec.getLsbD_ushiftRight] at e
  rw [show k + (w - k) = w by omega] at e
  unfold bt
  rw [← e]
  exact bt_0 (i := w - k)
theorem y_usesAt47 {h : Int32} {m : dM} {Q : Int32 → dM → Prop} (hW : CW H m) (hZ : CZ 47 m S) (hg : (szG S).toInt ≠ -1) (hQ : ∀ m' : dM, LyF m m' → CW H m' → LA H (szG S) m' → Q (onA H S h) m') : c_X0_usesAt_54_47 3 h m Q := by
  obtain ⟨o1, o2, o3, o4, o5, o6⟩ := hW.1
  refine v_X0_usesAt_54_47 ?_
  rw [hZ.1.2.2.2.1]
  refine y_lays hW hg (fun M hF hWM hA => ?_)
  have hZM := hZ.sf hF.sf (Or.inl rfl)
  obtain ⟨⟨a1, a2, _⟩, a3, a4, a5, a6, _⟩ := hWM.2.1
  have loop : ∀ (t u : Nat) (x3 x4 : Int32), u + t = hoU H → x4.toInt = (u : Int) → x3 = bs (onp H S h) u → j_X0_usesAt_54_47_16 3 h x3 x4 M Q := by
    intro t
    induction t with
    | zero =>
      intro u x3 x4 hu h4 h3
      refine v_X0_usesAt_54_47_16 ⟨fun _ => ?_, fun q => by exfalso; omega⟩
      rw [h3, show u = hoU H by omega]
      exact hQ M hF hWM hA
    | succ t ih =>
      intro u x3 x4 hu h4 h3
      obtain ⟨b1', b2', b3', b4'⟩ := a6 u (by omega)
      obtain ⟨c1, _⟩ := o5 u (by omega)
      have on : ∀ y : Int32, y = bs (onp H S h) (u + 1) → j_X0_usesAt_54_47_110 3 h y x4 M Q := fun y hy => v_X0_usesAt_54_47_110 (ih (u + 1) _ _ (by omega) (d_inc h4 (by omega)) hy)
      have no : onp H S h u = false → j_X0_usesAt_54_47_110 3 h x3 x4 M Q := fun q => on x3 (by
        show x3 = cond (onp H S h u) (bs (onp H S h) u ||| b1 u) (bs (onp H S h) u)
        rw [q, cond_false]; exact h3)
      have no2 : onp H S h u = false → j_X0_usesAt_54_47_60 3 h x3 x4 M Q := fun q => v_X0_usesAt_54_47_60 (no q)
      refine v_X0_usesAt_54_47_16 ⟨fun q => by exfalso; omega, fun _ => ?_⟩
      rw [d_cn h4, b3', b4', b1_of h4, hZM.1.2.2.2.2.2]
      refine ⟨by omega, fun q => no2 ?_, fun q1 => ⟨by omega, fun q => no2 ?_, fun q2 => ?_⟩⟩
      · unfold onp
        rw [decide_eq_false (by omega), Bool.false_and, Bool.false_and]
      · unfold onp
        rw [decide_eq_false (by omega), Bool.false_and, Bool.false_and]
      · refine Wp.deep (y_has h4 (by omega) (fun g1 => ⟨fun q => absurd q (by decide), fun _ => ⟨by omega, ?_⟩⟩) (fun g1 => ⟨fun _ => no ?_, fun q => absurd rfl q⟩)) (Nat.le_of_ble_eq_true rfl)
        · have hl' := hA.lit c1 o1
          refine Wp.deep (y_has b1' (by omega) (fun g2 => ⟨fun q => absurd q (by decide), fun _ => on _ ?_⟩) (fun g2 => ⟨fun _ => no ?_, fun q => absurd rfl q⟩)) (Nat.le_of_ble_eq_true rfl)
          · show x3 ||| b1 u = cond (onp H S h u) (bs (onp H S h) u ||| b1 u) (bs (onp H S h) u)
            have : onp H S h u = true := by
              unfold onp
              rw [decide_eq_true ⟨q1, q2⟩, g1, ← hl', g2]
              rfl
            rw [this, cond_true, h3]
          · unfold onp
            rw [← hl', g2, Bool.and_false]
        · unfold onp
          rw [g1, Bool.and_false, Bool.false_and]
  exact loop (hoU H) 0 _ _ (by omega) (by decide) rfl
theorem y_putOn47 {on : Int32} {m : dM} {Q : dM → Prop} (hW : CW H m) (hZ : CZ 47 m S) (hg : (szG S).toInt ≠ -1) (hQ : ∀ m' : dM, ScF m m' → CW H m' → LA H (szG S) m' → (∀ w : Nat, w < hoW H → m'.1 56 w = lod H (szG S) on w) → Q m') : c_X0_putOn_54_47 3 on m Q := by
  obtain ⟨o1, o2, o3, o4, o5, o6⟩ := hW.1
  refine v_X0_putOn_54_47 ?_
  rw [hZ.1.2.2.2.1]
  refine y_lays hW hg (fun M0 hF0 hW0 hA0 => Wp.deep (y_fill56 (fun M hk h2 hv => ?_)) (Nat.le_of_ble_eq_true rfl))
  have hF : ScF m M := hF0.sf.tr ⟨fun k _ _ q => hk k (by omega), fun j _ => by rw [hk 11 (by decide)], h2⟩
  have hWM : CW H M := ⟨hW0.1, hW0.2.1.of (fun k a b _ => hk k (by omega)), hW0.2.2.of (fun k a b => hk k (by omega))⟩
  have hA : LA H (szG S) M := hA0.of (fun k a b => hk k (by omega))
  have keep : ∀ M1 : dM, (∀ k : Nat, k ≠ 56 → M1.1 k = M.1 k) → M1.2 = M.2 → ScF m M1 ∧ CW H M1 ∧ LA H (szG S) M1 := fun M1 e e2 => ⟨hF.tr ⟨fun k _ _ q => e k (by omega), fun j _ => by rw [e 11 (by decide)], e2⟩, ⟨hWM.1, hWM.2.1.of (fun k a b _ => e k (by omega)), hWM.2.2.of (fun k a b => e k (by omega))⟩, hA.of (fun k a b => e k (by omega))⟩
  have loop : ∀ (t u : Nat) (x3 : Int32) (M1 : dM), u + t = hoU H → x3.toInt = (u : Int) → (∀ k : Nat, k ≠ 56 → M1.1 k = M.1 k) → M1.2 = M.2 → (∀ w : Nat, w < hoW H → M1.1 56 w = lds H (szG S) on w u) → j_X0_putOn_54_47_21 3 on x3 M1 Q := by
    intro t
    induction t with
    | zero =>
      intro u x3 M1 hu h3 e e2 hl'
      obtain ⟨k1, k2, k3⟩ := keep M1 e e2
      obtain ⟨_, a3, _⟩ := k2.2.1
      refine v_X0_putOn_54_47_21 ⟨fun _ => hQ M1 k1 k2 k3 (fun w hw => ?_), fun q => by exfalso; omega⟩
      rw [hl' w hw, show u = hoU H by omega]
      rfl
    | succ t ih =>
      intro u x3 M1 hu h3 e e2 hl'
      obtain ⟨k1, k2, k3⟩ := keep M1 e e2
      obtain ⟨⟨a1, a2, _⟩, a3, a4, a5, a6, _⟩ := k2.2.1
      obtain ⟨b1', b2', b3', b4'⟩ := a6 u (by omega)
      obtain ⟨c1, _⟩ := o5 u (by omega)
      have inner : ∀ (x4 : Int32), (∀ w : Nat, bt x4 w = (bt on u && bt (wyV H (szG S) (hoH H u)) w)) → ∀ (r k : Nat) (x5 : Int32) (M2 : dM), k + r = hoW H → x5.toInt = (k : Int) → (∀ k : Nat, k ≠ 56 → M2.1 k = M.1 k) → M2.2 = M.2 → (∀ w : Nat, w < hoW H → M2.1 56 w = if w < k then lds H (szG S) on w (u + 1) else lds H (szG S) on w u) → j_X0_putOn_54_47_66 3 on x3 x4 x5 M2 Q := by
        intro x4 h4 r
        have ext : ∀ (k : Nat) (M2 : dM), (∀ k : Nat, k ≠ 56 → M2.1 k = M.1 k) → M2.2 = M.2 → (∀ w : Nat, w < hoW H → k ≤ w → bt x4 w = false) → (∀ w : Nat, w < hoW H → M2.1 56 w = if w < k then lds H (szG S) on w (u + 1) else lds H (szG S) on w u) → j_X0_putOn_54_47_125 3 on x3 M2 Q := fun k M2 f f2 z hv2 => v_X0_putOn_54_47_125 (ih (u + 1) _ M2 (by omega) (d_inc h3 (by omega)) f f2 (fun w hw => by
          rw [hv2 w hw]
          by_cases q : w < k
          · rw [if_pos q]
          · rw [if_neg q]
            show _ = lds H (szG S) on w u + cond (bt on u && bt (wyV H (szG S) (hoH H u)) w) (hoM H u) 0
            rw [← h4 w, z w hw (by omega), cond_false, Int32.add_zero]))
        induction r with
        | zero =>
          intro k x5 M2 hk' h5 f f2 hv2
          have e21 : (M2.1 2 1).toInt = (hoW H : Int) := (keep M2 f f2).2.1.2.1.1.2.1.1
          have done := ext k M2 f f2 (fun w hw q => by exfalso; omega) hv2
          exact v_X0_putOn_54_47_66 ⟨fun _ => done, fun _ => ⟨fun _ => done, fun q => by exfalso; omega⟩⟩
        | succ r ih2 =>
          intro k x5 M2 hk' h5 f f2 hv2
          obtain ⟨⟨a1', a2', _⟩, a3', a4', a5', a6', _⟩ := (keep M2 f f2).2.1.2.1
          obtain ⟨b1'', b2'', _, _⟩ := a6' u (by omega)
          have on2 : ∀ v : Int32, v = lds H (szG S) on k (u + 1) → j_X0_putOn_54_47_66 3 on x3 x4 (x5 + (1 : Int32)) (dSet M2 56 k v) Q := fun v hv' => ih2 (k + 1) _ _ (by omega) (d_inc h5 (by omega)) (fun a ha => by rw [dSet_k ha]; exact f a ha) f2 (fun w hw => by
            by_cases q : w = k
            · subst q
              rw [dSet_s, if_pos (by omega)]; exact hv'
            · rw [dSet_j q, hv2 w hw]
              by_cases q2 : w < k
              · rw [if_pos q2, if_pos (by omega)]
              · rw [if_neg q2, if_neg (by omega)])
          have hv3 := hv2 k (by omega)
          rw [if_neg (by omega)] at hv3
          refine v_X0_putOn_54_47_66 ⟨fun z => ext k M2 f f2 (fun w hw q => ushr_z h5 (by omega) z q) hv2, fun _ => ⟨fun q => by exfalso; omega, fun _ => ⟨by omega, ?_⟩⟩⟩
          rw [d_cn h5, d_cn h3, hv3]
          refine Wp.deep (y_has h5 (by omega) (fun g => ⟨fun q => absurd q (by decide), fun _ => ⟨by omega, by omega, ?_⟩⟩) (fun g => ⟨fun _ => ⟨by omega, ?_⟩, fun q => absurd rfl q⟩)) (Nat.le_of_ble_eq_true rfl)
          · rw [b2'']
            refine on2 _ ?_
            show _ = lds H (szG S) on k u + cond (bt on u && bt (wyV H (szG S) (hoH H u)) k) (hoM H u) 0
            rw [← h4 k, g, cond_true]
          · refine on2 _ ?_
            show _ = lds H (szG S) on k u + cond (bt on u && bt (wyV H (szG S) (hoH H u)) k) (hoM H u) 0
            rw [← h4 k, g, cond_false]
      have lo : ∀ w : Nat, w < hoW H → M1.1 56 w = if w < 0 then lds H (szG S) on w (u + 1) else lds H (szG S) on w u := fun w hw => by rw [if_neg (by omega)]; exact hl' w hw
      refine v_X0_putOn_54_47_21 ⟨fun q => by exfalso; omega, fun _ => ?_⟩
      rw [d_cn h3]
      refine Wp.deep (y_has h3 (by omega) (fun g => ⟨fun q => absurd q (by decide), fun _ => ⟨by omega, by omega, ?_⟩⟩) (fun g => ⟨fun _ => inner 0 (fun w => by rw [bt_0, g, Bool.false_and]) (hoW H) 0 _ M1 (by omega) (by decide) e e2 lo, fun q => absurd rfl q⟩)) (Nat.le_of_ble_eq_true rfl)
      rw [d_cn b1']
      refine inner _ (fun w => ?_) (hoW H) 0 _ M1 (by omega) (by decide) e e2 lo
      rw [g, Bool.true_and, k3.2.2.1 (hoH H u) c1]
      by_cases q : dD (hoF H) (hoW H) (hoA H) (hoB H) (bt (szG S)) (hoH H u) = 99
      · rw [if_pos q]
        unfold wyV
        rw [via_99 q]
      · rw [if_neg q]
        rfl
  exact loop (hoU H) 0 _ M (by omega) (by decide) (fun _ _ => rfl) rfl (fun w hw => by rw [hv w (by omega)]; rfl)
theorem y_going47 {on h more : Int32} {m : dM} {Q : Int32 → dM → Prop} (hW : CW H m) (hZ : CZ 47 m S) (hLd : ∀ w : Nat, w < hoW H → m.1 56 w = lod H (szG S) on w) (hQ : ∀ m' : dM, VaF m m' → Q (gng H S on h more) m') : c_X0_going_54_47 4 h more m Q := by
  obtain ⟨o1, o2, o3, o4, o5, o6⟩ := hW.1
  have loop : ∀ (t w : Nat) (x4 x5 : Int32) (M : dM), w + t = hoW H → x5.toInt = (w : Int) → x4 = bs (gop H S on h more) w → VaF m M → j_X0_going_54_47_6 4 h more x4 x5 M Q := by
    intro t
    induction t with
    | zero =>
      intro w x4 x5 M hw h5 h4 hF
      have e21 : (M.1 2 1).toInt = (hoW H : Int) := (hW.vf hF).2.1.1.2.1.1
      refine v_X0_going_54_47_6 ⟨fun _ => ?_, fun q => by exfalso; omega⟩
      rw [h4, show w = hoW H by omega]
      exact hQ M hF
    | succ t ih =>
      intro w x4 x5 M hw h5 h4 hF
      have hWM := hW.vf hF
      have hZM := hZ.sf hF.sf (Or.inl rfl)
      have e21 : (M.1 2 1).toInt = (hoW H : Int) := hWM.2.1.1.2.1.1
      have e56 : M.1 56 w = lod H (szG S) on w := by rw [hF.1 56 (by decide) (by decide) (by decide)]; exact hLd w (by omega)
      have on2 : ∀ (y : Int32) (M1 : dM), VaF m M1 → y = bs (gop H S on h more) (w + 1) → j_X0_going_54_47_119 4 h more y x5 M1 Q := fun y M1 f hy => v_X0_going_54_47_119 (ih (w + 1) _ _ M1 (by omega) (d_inc h5 (by omega)) hy f)
      have no : ∀ M1 : dM, VaF m M1 → gop H S on h more w = false → j_X0_going_54_47_119 4 h more x4 x5 M1 Q := fun M1 f q => on2 x4 M1 f (by
        show x4 = cond (gop H S on h more w) (bs (gop H S on h more) w ||| b1 w) (bs (gop H S on h more) w)
        rw [q, cond_false]; exact h4)
      refine v_X0_going_54_47_6 ⟨fun q => by exfalso; omega, fun _ => ?_⟩
      rw [d_cn h5, e56, b1_of h5]
      refine ⟨by omega, fun q => no M hF ?_, fun q => ?_⟩
      · unfold gop
        rw [decide_eq_false (by omega), Bool.false_and, Bool.false_and]
      · rw [hZM.1.2.2.2.2.1]
        refine Wp.deep (y_has h5 (by omega) (fun g => ⟨fun _ => no M hF ?_, fun z => absurd z (by decide)⟩) (fun g => ⟨fun z => absurd rfl z, fun _ => ?_⟩)) (Nat.le_of_ble_eq_true rfl)
        · unfold gop
          rw [g]
          simp
        · refine v_X7_day_47 ?_
          rw [hZM.1.1]
          refine Wp.deep (y_vars (fun M3 f3 v3 k3 => ?_)) (Nat.le_of_ble_eq_true rfl)
          have F3 := hF.tr f3
          have h3Z := hZ.sf F3.sf (Or.inl rfl)
          refine ⟨by omega, by omega, by omega, ?_⟩
          have e56' : M3.1 56 w = lod H (szG S) on w := by rw [k3 56 (by decide)]; exact e56
          have v3' := vset (a := 2) (vset (a := 1) (vset (a := 0) (x := M3.1 56 w + more) (y := lod H (szG S) on w + more) v3 (by rw [e56'])) (h3Z.2.1 w (by omega))) (h3Z.2.2.1 w (by omega))
          have F4 : VaF m (dSet (dSet (dSet M3 55 0 (M3.1 56 w + more)) 55 1 (M3.1 48 w)) 55 2 (M3.1 49 w)) := F3.set.set.set
          refine y_tellv (k := 0) (v := vGo S (lod H (szG S) on w + more) h w) (hW.vf F4).2.1 (by decide) (by decide) (fun j hj => ?_) (fun M4 f4 => ?_)
          · rw [v3' j hj]
            unfold vGo
            rw [i32_of h5]
            rfl
          · have F5 := F4.py f4
            refine ⟨fun z => no M4 F5 ?_, fun z => on2 _ M4 F5 ?_⟩
            · unfold gop
              rw [decide_eq_false (show ¬ 0 < (lW (hoL H 0) (vGo S (lod H (szG S) on w + more) h w)).toInt by omega), Bool.and_false]
            · show x4 ||| b1 w = cond (gop H S on h more w) (bs (gop H S on h more) w ||| b1 w) (bs (gop H S on h more) w)
              have : gop H S on h more w = true := by
                unfold gop
                rw [decide_eq_true q, g, decide_eq_true z]
                rfl
              rw [this, cond_true, h4]
  exact v_X0_going_54_47 (loop (hoW H) 0 _ _ m (by omega) (by decide) rfl (VaF.rf m))
theorem y_usesAt62 {h : Int32} {m : dM} {Q : Int32 → dM → Prop} (hW : CW H m) (hZ : CZ 62 m S) (hg : (szG S).toInt ≠ -1) (hQ : ∀ m' : dM, LyF m m' → CW H m' → LA H (szG S) m' → Q (onA H S h) m') : c_X0_usesAt_54_62 3 h m Q := by
  obtain ⟨o1, o2, o3, o4, o5, o6⟩ := hW.1
  refine v_X0_usesAt_54_62 ?_
  rw [hZ.1.2.2.2.1]
  refine y_lays hW hg (fun M hF hWM hA => ?_)
  have hZM := hZ.sf hF.sf (Or.inr rfl)
  obtain ⟨⟨a1, a2, _⟩, a3, a4, a5, a6, _⟩ := hWM.2.1
  have loop : ∀ (t u : Nat) (x3 x4 : Int32), u + t = hoU H → x4.toInt = (u : Int) → x3 = bs (onp H S h) u → j_X0_usesAt_54_62_16 3 h x3 x4 M Q := by
    intro t
    induction t with
    | zero =>
      intro u x3 x4 hu h4 h3
      refine v_X0_usesAt_54_62_16 ⟨fun _ => ?_, fun q => by exfalso; omega⟩
      rw [h3, show u = hoU H by omega]
      exact hQ M hF hWM hA
    | succ t ih =>
      intro u x3 x4 hu h4 h3
      obtain ⟨b1', b2', b3', b4'⟩ := a6 u (by omega)
      obtain ⟨c1, _⟩ := o5 u (by omega)
      have on : ∀ y : Int32, y = bs (onp H S h) (u + 1) → j_X0_usesAt_54_62_110 3 h y x4 M Q := fun y hy => v_X0_usesAt_54_62_110 (ih (u + 1) _ _ (by omega) (d_inc h4 (by omega)) hy)
      have no : onp H S h u = false → j_X0_usesAt_54_62_110 3 h x3 x4 M Q := fun q => on x3 (by
        show x3 = cond (onp H S h u) (bs (onp H S h) u ||| b1 u) (bs (onp H S h) u)
        rw [q, cond_false]; exact h3)
      have no2 : onp H S h u = false → j_X0_usesAt_54_62_60 3 h x3 x4 M Q := fun q => v_X0_usesAt_54_62_60 (no q)
      refine v_X0_usesAt_54_62_16 ⟨fun q => by exfalso; omega, fun _ => ?_⟩
      rw [d_cn h4, b3', b4', b1_of h4, hZM.1.2.2.2.2.2]
      refine ⟨by omega, fun q => no2 ?_, fun q1 => ⟨by omega, fun q => no2 ?_, fun q2 => ?_⟩⟩
      · unfold onp
        rw [decide_eq_false (by omega), Bool.false_and, Bool.false_and]
      · unfold onp
        rw [decide_eq_false (by omega), Bool.false_and, Bool.false_and]
      · refine Wp.deep (y_has h4 (by omega) (fun g1 => ⟨fun q => absurd q (by decide), fun _ => ⟨by omega, ?_⟩⟩) (fun g1 => ⟨fun _ => no ?_, fun q => absurd rfl q⟩)) (Nat.le_of_ble_eq_true rfl)
        · have hl' := hA.lit c1 o1
          refine Wp.deep (y_has b1' (by omega) (fun g2 => ⟨fun q => absurd q (by decide), fun _ => on _ ?_⟩) (fun g2 => ⟨fun _ => no ?_, fun q => absurd rfl q⟩)) (Nat.le_of_ble_eq_true rfl)
          · show x3 ||| b1 u = cond (onp H S h u) (bs (onp H S h) u ||| b1 u) (bs (onp H S h) u)
            have : onp H S h u = true := by
              unfold onp
              rw [decide_eq_true ⟨q1, q2⟩, g1, ← hl', g2]
              rfl
            rw [this, cond_true, h3]
          · unfold onp
            rw [← hl', g2, Bool.and_false]
        · unfold onp
          rw [g1, Bool.and_false, Bool.false_and]
  exact loop (hoU H) 0 _ _ (by omega) (by decide) rfl
theorem y_putOn62 {on : Int32} {m : dM} {Q : dM → Prop} (hW : CW H m) (hZ : CZ 62 m S) (hg : (szG S).toInt ≠ -1) (hQ : ∀ m' : dM, ScF m m' → CW H m' → LA H (szG S) m' → (∀ w : Nat, w < hoW H → m'.1 56 w = lod H (szG S) on w) → Q m') : c_X0_putOn_54_62 3 on m Q := by
  obtain ⟨o1, o2, o3, o4, o5, o6⟩ := hW.1
  refine v_X0_putOn_54_62 ?_
  rw [hZ.1.2.2.2.1]
  refine y_lays hW hg (fun M0 hF0 hW0 hA0 => Wp.deep (y_fill56 (fun M hk h2 hv => ?_)) (Nat.le_of_ble_eq_true rfl))
  have hF : ScF m M := hF0.sf.tr ⟨fun k _ _ q => hk k (by omega), fun j _ => by rw [hk 11 (by decide)], h2⟩
  have hWM : CW H M := ⟨hW0.1, hW0.2.1.of (fun k a b _ => hk k (by omega)), hW0.2.2.of (fun k a b => hk k (by omega))⟩
  have hA : LA H (szG S) M := hA0.of (fun k a b => hk k (by omega))
  have keep : ∀ M1 : dM, (∀ k : Nat, k ≠ 56 → M1.1 k = M.1 k) → M1.2 = M.2 → ScF m M1 ∧ CW H M1 ∧ LA H (szG S) M1 := fun M1 e e2 => ⟨hF.tr ⟨fun k _ _ q => e k (by omega), fun j _ => by rw [e 11 (by decide)], e2⟩, ⟨hWM.1, hWM.2.1.of (fun k a b _ => e k (by omega)), hWM.2.2.of (fun k a b => e k (by omega))⟩, hA.of (fun k a b => e k (by omega))⟩
  have loop : ∀ (t u : Nat) (x3 : Int32) (M1 : dM), u + t = hoU H → x3.toInt = (u : Int) → (∀ k : Nat, k ≠ 56 → M1.1 k = M.1 k) → M1.2 = M.2 → (∀ w : Nat, w < hoW H → M1.1 56 w = lds H (szG S) on w u) → j_X0_putOn_54_62_21 3 on x3 M1 Q := by
    intro t
    induction t with
    | zero =>
      intro u x3 M1 hu h3 e e2 hl'
      obtain ⟨k1, k2, k3⟩ := keep M1 e e2
      obtain ⟨_, a3, _⟩ := k2.2.1
      refine v_X0_putOn_54_62_21 ⟨fun _ => hQ M1 k1 k2 k3 (fun w hw => ?_), fun q => by exfalso; omega⟩
      rw [hl' w hw, show u = hoU H by omega]
      rfl
    | succ t ih =>
      intro u x3 M1 hu h3 e e2 hl'
      obtain ⟨k1, k2, k3⟩ := keep M1 e e2
      obtain ⟨⟨a1, a2, _⟩, a3, a4, a5, a6, _⟩ := k2.2.1
      obtain ⟨b1', b2', b3', b4'⟩ := a6 u (by omega)
      obtain ⟨c1, _⟩ := o5 u (by omega)
      have inner : ∀ (x4 : Int32), (∀ w : Nat, bt x4 w = (bt on u && bt (wyV H (szG S) (hoH H u)) w)) → ∀ (r k : Nat) (x5 : Int32) (M2 : dM), k + r = hoW H → x5.toInt = (k : Int) → (∀ k : Nat, k ≠ 56 → M2.1 k = M.1 k) → M2.2 = M.2 → (∀ w : Nat, w < hoW H → M2.1 56 w = if w < k then lds H (szG S) on w (u + 1) else lds H (szG S) on w u) → j_X0_putOn_54_62_66 3 on x3 x4 x5 M2 Q := by
        intro x4 h4 r
        have ext : ∀ (k : Nat) (M2 : dM), (∀ k : Nat, k ≠ 56 → M2.1 k = M.1 k) → M2.2 = M.2 → (∀ w : Nat, w < hoW H → k ≤ w → bt x4 w = false) → (∀ w : Nat, w < hoW H → M2.1 56 w = if w < k then lds H (szG S) on w (u + 1) else lds H (szG S) on w u) → j_X0_putOn_54_62_125 3 on x3 M2 Q := fun k M2 f f2 z hv2 => v_X0_putOn_54_62_125 (ih (u + 1) _ M2 (by omega) (d_inc h3 (by omega)) f f2 (fun w hw => by
          rw [hv2 w hw]
          by_cases q : w < k
          · rw [if_pos q]
          · rw [if_neg q]
            show _ = lds H (szG S) on w u + cond (bt on u && bt (wyV H (szG S) (hoH H u)) w) (hoM H u) 0
            rw [← h4 w, z w hw (by omega), cond_false, Int32.add_zero]))
        induction r with
        | zero =>
          intro k x5 M2 hk' h5 f f2 hv2
          have e21 : (M2.1 2 1).toInt = (hoW H : Int) := (keep M2 f f2).2.1.2.1.1.2.1.1
          have done := ext k M2 f f2 (fun w hw q => by exfalso; omega) hv2
          exact v_X0_putOn_54_62_66 ⟨fun _ => done, fun _ => ⟨fun _ => done, fun q => by exfalso; omega⟩⟩
        | succ r ih2 =>
          intro k x5 M2 hk' h5 f f2 hv2
          obtain ⟨⟨a1', a2', _⟩, a3', a4', a5', a6', _⟩ := (keep M2 f f2).2.1.2.1
          obtain ⟨b1'', b2'', _, _⟩ := a6' u (by omega)
          have on2 : ∀ v : Int32, v = lds H (szG S) on k (u + 1) → j_X0_putOn_54_62_66 3 on x3 x4 (x5 + (1 : Int32)) (dSet M2 56 k v) Q := fun v hv' => ih2 (k + 1) _ _ (by omega) (d_inc h5 (by omega)) (fun a ha => by rw [dSet_k ha]; exact f a ha) f2 (fun w hw => by
            by_cases q : w = k
            · subst q
              rw [dSet_s, if_pos (by omega)]; exact hv'
            · rw [dSet_j q, hv2 w hw]
              by_cases q2 : w < k
              · rw [if_pos q2, if_pos (by omega)]
              · rw [if_neg q2, if_neg (by omega)])
          have hv3 := hv2 k (by omega)
          rw [if_neg (by omega)] at hv3
          refine v_X0_putOn_54_62_66 ⟨fun z => ext k M2 f f2 (fun w hw q => ushr_z h5 (by omega) z q) hv2, fun _ => ⟨fun q => by exfalso; omega, fun _ => ⟨by omega, ?_⟩⟩⟩
          rw [d_cn h5, d_cn h3, hv3]
          refine Wp.deep (y_has h5 (by omega) (fun g => ⟨fun q => absurd q (by decide), fun _ => ⟨by omega, by omega, ?_⟩⟩) (fun g => ⟨fun _ => ⟨by omega, ?_⟩, fun q => absurd rfl q⟩)) (Nat.le_of_ble_eq_true rfl)
          · rw [b2'']
            refine on2 _ ?_
            show _ = lds H (szG S) on k u + cond (bt on u && bt (wyV H (szG S) (hoH H u)) k) (hoM H u) 0
            rw [← h4 k, g, cond_true]
          · refine on2 _ ?_
            show _ = lds H (szG S) on k u + cond (bt on u && bt (wyV H (szG S) (hoH H u)) k) (hoM H u) 0
            rw [← h4 k, g, cond_false]
      have lo : ∀ w : Nat, w < hoW H → M1.1 56 w = if w < 0 then lds H (szG S) on w (u + 1) else lds H (szG S) on w u := fun w hw => by rw [if_neg (by omega)]; exact hl' w hw
      refine v_X0_putOn_54_62_21 ⟨fun q => by exfalso; omega, fun _ => ?_⟩
      rw [d_cn h3]
      refine Wp.deep (y_has h3 (by omega) (fun g => ⟨fun q => absurd q (by decide), fun _ => ⟨by omega, by omega, ?_⟩⟩) (fun g => ⟨fun _ => inner 0 (fun w => by rw [bt_0, g, Bool.false_and]) (hoW H) 0 _ M1 (by omega) (by decide) e e2 lo, fun q => absurd rfl q⟩)) (Nat.le_of_ble_eq_true rfl)
      rw [d_cn b1']
      refine inner _ (fun w => ?_) (hoW H) 0 _ M1 (by omega) (by decide) e e2 lo
      rw [g, Bool.true_and, k3.2.2.1 (hoH H u) c1]
      by_cases q : dD (hoF H) (hoW H) (hoA H) (hoB H) (bt (szG S)) (hoH H u) = 99
      · rw [if_pos q]
        unfold wyV
        rw [via_99 q]
      · rw [if_neg q]
        rfl
  exact loop (hoU H) 0 _ M (by omega) (by decide) (fun _ _ => rfl) rfl (fun w hw => by rw [hv w (by omega)]; rfl)
theorem y_going62 {on h more : Int32} {m : dM} {Q : Int32 → dM → Prop} (hW : CW H m) (hZ : CZ 62 m S) (hLd : ∀ w : Nat, w < hoW H → m.1 56 w = lod H (szG S) on w) (hQ : ∀ m' : dM, VaF m m' → Q (gng H S on h more) m') : c_X0_going_54_62 4 h more m Q := by
  obtain ⟨o1, o2, o3, o4, o5, o6⟩ := hW.1
  have loop : ∀ (t w : Nat) (x4 x5 : Int32) (M : dM), w + t = hoW H → x5.toInt = (w : Int) → x4 = bs (gop H S on h more) w → VaF m M → j_X0_going_54_62_6 4 h more x4 x5 M Q := by
    intro t
    induction t with
    | zero =>
      intro w x4 x5 M hw h5 h4 hF
      have e21 : (M.1 2 1).toInt = (hoW H : Int) := (hW.vf hF).2.1.1.2.1.1
      refine v_X0_going_54_62_6 ⟨fun _ => ?_, fun q => by exfalso; omega⟩
      rw [h4, show w = hoW H by omega]
      exact hQ M hF
    | succ t ih =>
      intro w x4 x5 M hw h5 h4 hF
      have hWM := hW.vf hF
      have hZM := hZ.sf hF.sf (Or.inr rfl)
      have e21 : (M.1 2 1).toInt = (hoW H : Int) := hWM.2.1.1.2.1.1
      have e56 : M.1 56 w = lod H (szG S) on w := by rw [hF.1 56 (by decide) (by decide) (by decide)]; exact hLd w (by omega)
      have on2 : ∀ (y : Int32) (M1 : dM), VaF m M1 → y = bs (gop H S on h more) (w + 1) → j_X0_going_54_62_119 4 h more y x5 M1 Q := fun y M1 f hy => v_X0_going_54_62_119 (ih (w + 1) _ _ M1 (by omega) (d_inc h5 (by omega)) hy f)
      have no : ∀ M1 : dM, VaF m M1 → gop H S on h more w = false → j_X0_going_54_62_119 4 h more x4 x5 M1 Q := fun M1 f q => on2 x4 M1 f (by
        show x4 = cond (gop H S on h more w) (bs (gop H S on h more) w ||| b1 w) (bs (gop H S on h more) w)
        rw [q, cond_false]; exact h4)
      refine v_X0_going_54_62_6 ⟨fun q => by exfalso; omega, fun _ => ?_⟩
      rw [d_cn h5, e56, b1_of h5]
      refine ⟨by omega, fun q => no M hF ?_, fun q => ?_⟩
      · unfold gop
        rw [decide_eq_false (by omega), Bool.false_and, Bool.false_and]
      · rw [hZM.1.2.2.2.2.1]
        refine Wp.deep (y_has h5 (by omega) (fun g => ⟨fun _ => no M hF ?_, fun z => absurd z (by decide)⟩) (fun g => ⟨fun z => absurd rfl z, fun _ => ?_⟩)) (Nat.le_of_ble_eq_true rfl)
        · unfold gop
          rw [g]
          simp
        · refine v_X7_day_62 ?_
          rw [hZM.1.1]
          refine Wp.deep (y_vars (fun M3 f3 v3 k3 => ?_)) (Nat.le_of_ble_eq_true rfl)
          have F3 := hF.tr f3
          have h3Z := hZ.sf F3.sf (Or.inr rfl)
          refine ⟨by omega, by omega, by omega, ?_⟩
          have e56' : M3.1 56 w = lod H (szG S) on w := by rw [k3 56 (by decide)]; exact e56
          have v3' := vset (a := 2) (vset (a := 1) (vset (a := 0) (x := M3.1 56 w + more) (y := lod H (szG S) on w + more) v3 (by rw [e56'])) (h3Z.2.1 w (by omega))) (h3Z.2.2.1 w (by omega))
          have F4 : VaF m (dSet (dSet (dSet M3 55 0 (M3.1 56 w + more)) 55 1 (M3.1 63 w)) 55 2 (M3.1 64 w)) := F3.set.set.set
          refine y_tellv (k := 0) (v := vGo S (lod H (szG S) on w + more) h w) (hW.vf F4).2.1 (by decide) (by decide) (fun j hj => ?_) (fun M4 f4 => ?_)
          · rw [v3' j hj]
            unfold vGo
            rw [i32_of h5]
            rfl
          · have F5 := F4.py f4
            refine ⟨fun z => no M4 F5 ?_, fun z => on2 _ M4 F5 ?_⟩
            · unfold gop
              rw [decide_eq_false (show ¬ 0 < (lW (hoL H 0) (vGo S (lod H (szG S) on w + more) h w)).toInt by omega), Bool.and_false]
            · show x4 ||| b1 w = cond (gop H S on h more w) (bs (gop H S on h more) w ||| b1 w) (bs (gop H S on h more) w)
              have : gop H S on h more w = true := by
                unfold gop
                rw [decide_eq_true q, g, decide_eq_true z]
                rfl
              rw [this, cond_true, h4]
  exact v_X0_going_54_62 (loop (hoW H) 0 _ _ m (by omega) (by decide) rfl (VaF.rf m))
end CHO
