/-! THE CLASS's meaning, exactly -/
def VM (K : Nat → Int) (V : Nat → Int64) (m : dM) : Prop := ∀ i : Nat, i ≤ 400 → lvK K i → (m.1 39 i).toInt = K i ∧ (K i ≤ 23 → m.2.1 41 i = V i)
def MF (mb m : dM) : Prop := (∀ k : Nat, (k < 20 ∨ (28 < k ∧ k ≠ 44)) → m.1 k = mb.1 k) ∧ (∀ k : Nat, k ≠ 45 → k ≠ 46 → m.2.1 k = mb.2.1 k) ∧ m.2.2 = mb.2.2
def oV (V : Nat → Int64) (o : Option Nat) (k : Nat) (d : Int32) : Int32 := match o with
  | none => d
  | some t => (V (t + k)).toInt32
/-- the draft, as told -/
def MS (V : Nat → Int64) (s : mSt) (m : dM) : Prop :=
  ((m.1 20 0).toInt = (s.1.length : Int) ∧ s.1.length ≤ 7) ∧ ((m.1 20 1).toInt = (s.2.1.length : Int) ∧ s.2.1.length ≤ 10) ∧ ((m.1 20 2).toInt = (s.2.2.1.length : Int) ∧ s.2.2.1.length ≤ 8) ∧
  (∀ i : Nat, i < s.1.length → m.2.1 45 i = fN V s i ∧ m.1 21 i = (V (s.1.getD i 0 + 2)).toInt32) ∧
  (∀ w : Nat, w < s.2.1.length → ((m.1 22 w).toInt = ((wE s w).1 : Int) ∧ (m.1 23 w).toInt = ((wE s w).2 : Int) ∧ m.1 24 w = (V ((s.2.1.getD w (0, 0, 0)).1 + 3)).toInt32) ∧ ((wE s w).1 < 7 ∧ (wE s w).2 < 7 ∧ (wE s w).1 ≠ (wE s w).2)) ∧
  (∀ u : Nat, u < s.2.2.1.length → m.2.1 46 u = uN V s u ∧ (m.1 25 u).toInt = ((s.2.2.1.getD u (0, 0)).2 : Int) ∧ m.1 26 u = (V ((s.2.2.1.getD u (0, 0)).1 + 3)).toInt32 ∧ m.1 27 u = (V ((s.2.2.1.getD u (0, 0)).1 + 4)).toInt32 ∧ m.1 28 u = (V ((s.2.2.1.getD u (0, 0)).1 + 5)).toInt32) ∧
  (m.1 20 3 = oV V s.2.2.2.1 1 0 ∧ m.1 20 4 = oV V s.2.2.2.1 2 0 ∧ m.1 20 5 = oV V s.2.2.2.2.1 1 100 ∧ m.1 20 6 = oV V s.2.2.2.2.2 1 0)
/-- how a TELL came out -/
def TO (K : Nat → Int) (V : Nat → Int64) (R : gR × mSt) (e : Nat) (mb : dM) (r : Int32) (m' : dM) : Prop := MF mb m' ∧ (R.1.1 = 0 → r = 1 ∧ (m'.1 44 4).toInt = (e : Int) ∧ (m'.1 44 5).toInt = 0 ∧ MS V R.2 m') ∧ (R.1.1 ≠ 0 → r = 0 ∧ (m'.1 44 4).toInt = (R.1.2 : Int) ∧ (m'.1 44 5).toInt = (R.1.1 : Int) ∧ R.1.2 ≤ 400 ∧ lvK K R.1.2)
section CME
variable {K : Nat → Int} {V : Nat → Int64}
theorem VM.of {m m' : dM} (h : VM K V m) (h1 : m'.1 39 = m.1 39) (h2 : m'.2.1 41 = m.2.1 41) : VM K V m' := fun i a b => by rw [h1, h2]; exact h i a b
theorem VM.mf {m m' : dM} (h : VM K V m) (hF : MF m m') : VM K V m' := h.of (hF.1 39 (by omega)) (hF.2.1 41 (by decide) (by decide))
theorem MF.rf (m : dM) : MF m m := ⟨fun _ _ => rfl, fun _ _ _ => rfl, rfl⟩
theorem MF.tr {a b c : dM} (h : MF a b) (h' : MF b c) : MF a c := ⟨fun k q => (h'.1 k q).trans (h.1 k q), fun k q1 q2 => (h'.2.1 k q1 q2).trans (h.2.1 k q1 q2), h'.2.2.trans h.2.2⟩
theorem MF.set {a b : dM} {k j : Nat} {v : Int32} (h : MF a b) (hk : (20 ≤ k ∧ k ≤ 28) ∨ k = 44) : MF a (dSet b k j v) := ⟨fun c q => by rw [dSet_k (by omega)]; exact h.1 c q, h.2.1, h.2.2⟩
theorem MF.setL {a b : dM} {k j : Nat} {v : Int64} (h : MF a b) (hk : k = 45 ∨ k = 46) : MF a (dSetL b k j v) := ⟨h.1, fun c q1 q2 => by
  rw [← h.2.1 c q1 q2]
  funext x
  rw [dSetL_e, if_neg (fun z => by omega)], h.2.2⟩
theorem h_kindAt {x1 : Int32} {i : Nat} {m : dM} {Q : Int32 → dM → Prop} (hV : VM K V m) (hx : x1.toInt = i) (hi : i ≤ 400) (hl : lvK K i) (hQ : ∀ r : Int32, r.toInt = K i → Q r m) : c_X8_kindAt_38 1 x1 m Q := by
  refine v_X8_kindAt_38 ⟨fun q => by exfalso; omega, fun q => ⟨fun q => by exfalso; omega, fun q => ⟨by omega, hQ _ ?_⟩⟩⟩
  rw [d_cn hx]
  exact (hV i hi hl).1
theorem h_nameAt {x1 : Int32} {i : Nat} {m : dM} {Q : Int64 → dM → Prop} (hV : VM K V m) (hx : x1.toInt = i) (hi : i ≤ 400) (hl : lvK K i) (hk : K i ≤ 23) (hQ : Q (V i) m) : c_X8_nameAt_38 1 x1 m Q := by
  refine v_X8_nameAt_38 ⟨fun q => by exfalso; omega, fun q => ⟨fun q => by exfalso; omega, fun q => ⟨by omega, ?_⟩⟩⟩
  rw [d_cn hx, (hV i hi hl).2 hk]
  exact hQ
theorem h_numberAt {x1 : Int32} {i : Nat} {m : dM} {Q : Int32 → dM → Prop} (hV : VM K V m) (hx : x1.toInt = i) (hi : i ≤ 400) (hl : lvK K i) (hk : K i ≤ 23) (hQ : Q (V i).toInt32 m) : c_X8_numberAt_38 2 x1 m Q := v_X8_numberAt_38 (h_nameAt hV hx hi hl hk hQ)
theorem h_placeAt {x1 : Int32} {i : Nat} {m : dM} {Q : Int32 → dM → Prop} (hx : x1.toInt = i) (hi : i ≤ 400) (hQ : Q (m.1 40 i) m) : c_X8_placeAt_38 1 x1 m Q := by
  refine v_X8_placeAt_38 ⟨fun q => by exfalso; omega, fun q => ⟨fun q => by exfalso; omega, fun q => ⟨by omega, ?_⟩⟩⟩
  rw [d_cn hx]
  exact hQ
theorem h_fail {x1 : Int32} {m : dM} {Q : Int32 → dM → Prop} (hQ : Q 0 (dSet m 44 5 x1)) : c_X5_fail_44 1 x1 m Q := v_X5_fail_44 hQ
theorem h_isWithin {x1 x2 : Int32} {i : Nat} {m : dM} {Q : Int32 → dM → Prop} (hV : VM K V m) (hx : (m.1 44 4).toInt = (i : Int)) (hi : i ≤ 400) (hl : lvK K i) (hk : K i ≤ 23) (h1 : x1.toInt ≤ iV V i ∧ iV V i ≤ x2.toInt → Q 1 (dSet m 44 4 (m.1 44 4 + 1))) (h0 : ¬ (x1.toInt ≤ iV V i ∧ iV V i ≤ x2.toInt) → Q 0 (dSet m 44 5 (5 : Int32))) : c_X5_isWithin_44 3 x1 x2 m Q := by
  unfold iV at h1 h0
  have no : ¬ (x1.toInt ≤ (V i).toInt32.toInt ∧ (V i).toInt32.toInt ≤ x2.toInt) → j_X5_isWithin_44_22 3 m Q := fun q => v_X5_isWithin_44_22 (Wp.deep (h_fail ⟨Or.inl rfl, h0 q⟩) (Nat.le_of_ble_eq_true rfl))
  exact v_X5_isWithin_44 (h_numberAt hV hx hi hl hk ⟨fun q => no (by omega), fun q => ⟨fun q2 => h1 ⟨q, q2⟩, fun q2 => no (by omega)⟩⟩)
theorem h_ix45 {N : Nat → Int64} {c : Nat} {x1 : Int32} {y : Int64} {m : dM} {Q : Int32 → dM → Prop} (hN : ∀ i : Nat, i < c → m.2.1 45 i = N i) (hc : c ≤ 7) (hx : x1.toInt = c) (hQ : ∀ r : Int32, r.toInt = oi (ix N y c 0) → Q r m) : c_X5_indexOf_45 1 x1 y m Q := by
  have loop : ∀ (f i : Nat) (x4 : Int32), i + f = c → x4.toInt = i → ix N y f i = ix N y c 0 → j_X5_indexOf_45_3 1 x1 y x4 m Q := by
    intro f
    induction f with
    | zero =>
      intro i x4 hi h4 e
      refine v_X5_indexOf_45_3 ⟨fun _ => v_X5_indexOf_45_34 (hQ _ ?_), fun q => by exfalso; omega⟩
      rw [← e]
      show (-1 : Int) = -1
      rfl
    | succ f ih =>
      intro i x4 hi h4 e
      refine v_X5_indexOf_45_3 ⟨fun q => by exfalso; omega, fun _ => ⟨fun q => by exfalso; omega, fun _ => ⟨by omega, ?_⟩⟩⟩
      rw [d_cn h4, hN i (by omega)]
      have hcm := dCmpE (N i) y
      rw [ix_s] at e
      refine ⟨fun q => ih (i + 1) _ (by omega) (d_add h4 (by decide) (by omega)) ?_, fun q => hQ _ ?_⟩
      · rw [if_neg (fun z => q (hcm.2.2.mpr z))] at e
        exact e
      · rw [if_pos (hcm.2.2.mp q)] at e
        rw [← e]
        exact h4
  exact v_X5_indexOf_45 (loop c 0 _ (by omega) (by decide) rfl)
theorem h_ix46 {N : Nat → Int64} {c : Nat} {x1 : Int32} {y : Int64} {m : dM} {Q : Int32 → dM → Prop} (hN : ∀ i : Nat, i < c → m.2.1 46 i = N i) (hc : c ≤ 8) (hx : x1.toInt = c) (hQ : ∀ r : Int32, r.toInt = oi (ix N y c 0) → Q r m) : c_X5_indexOf_46 1 x1 y m Q := by
  have loop : ∀ (f i : Nat) (x4 : Int32), i + f = c → x4.toInt = i → ix N y f i = ix N y c 0 → j_X5_indexOf_46_3 1 x1 y x4 m Q := by
    intro f
    induction f with
    | zero =>
      intro i x4 hi h4 e
      refine v_X5_indexOf_46_3 ⟨fun _ => v_X5_indexOf_46_34 (hQ _ ?_), fun q => by exfalso; omega⟩
      rw [← e]
      show (-1 : Int) = -1
      rfl
    | succ f ih =>
      intro i x4 hi h4 e
      refine v_X5_indexOf_46_3 ⟨fun q => by exfalso; omega, fun _ => ⟨fun q => by exfalso; omega, fun _ => ⟨by omega, ?_⟩⟩⟩
      rw [d_cn h4, hN i (by omega)]
      have hcm := dCmpE (N i) y
      rw [ix_s] at e
      refine ⟨fun q => ih (i + 1) _ (by omega) (d_add h4 (by decide) (by omega)) ?_, fun q => hQ _ ?_⟩
      · rw [if_neg (fun z => q (hcm.2.2.mpr z))] at e
        exact e
      · rw [if_pos (hcm.2.2.mp q)] at e
        rw [← e]
        exact h4
  exact v_X5_indexOf_46 (loop c 0 _ (by omega) (by decide) rfl)
theorem oi_n {o : Option Nat} (h : oi o = -1) : o = none := by
  cases o with
  | none => rfl
  | some a => have h : ((a : Nat) : Int) = -1 := h; exfalso; omega
theorem oi_s {o : Option Nat} (h : oi o ≠ -1) : ∃ a, o = some a := oi_ne.mp h
/-- what is needed of a draft to look names up -/
def NB (V : Nat → Int64) (s : mSt) (m : dM) : Prop := ((m.1 20 0).toInt = (s.1.length : Int) ∧ s.1.length ≤ 7) ∧ ((m.1 20 2).toInt = (s.2.2.1.length : Int) ∧ s.2.2.1.length ≤ 8) ∧ (∀ i : Nat, i < s.1.length → m.2.1 45 i = fN V s i) ∧ (∀ u : Nat, u < s.2.2.1.length → m.2.1 46 u = uN V s u)
theorem MS.nb {s : mSt} {m : dM} (h : MS V s m) : NB V s m := ⟨h.1, h.2.2.1, fun i hi => (h.2.2.2.1 i hi).1, fun u hu => (h.2.2.2.2.2.1 u hu).1⟩
theorem h_isNewName {s : mSt} {i : Nat} {m : dM} {Q : Int32 → dM → Prop} (hV : VM K V m) (hN : NB V s m) (hx : (m.1 44 4).toInt = (i : Int)) (hi : i ≤ 400) (hl : lvK K i) (hk : K i ≤ 23) (h1 : knw V s (V i) = false → Q 1 m) (h0 : knw V s (V i) = true → Q 0 (dSet m 44 5 (3 : Int32))) : c_X5_isNewName_44 2 m Q := by
  have no : knw V s (V i) = true → j_X5_isNewName_44_50 2 m Q := fun q => v_X5_isNewName_44_50 (h_fail ⟨Or.inl rfl, h0 q⟩)
  refine v_X5_isNewName_44 (h_nameAt hV hx hi hl hk (h_ix45 (N := fN V s) hN.2.2.1 hN.1.2 hN.1.1 (fun r hr => ⟨fun q => no ?_, fun q => h_ix46 (N := uN V s) hN.2.2.2 hN.2.1.2 hN.2.1.1 (fun r2 hr2 => ⟨fun q2 => h1 ?_, fun q2 => no ?_⟩)⟩)))
  · rw [hr] at q
    obtain ⟨a, ha⟩ := oi_s q
    unfold knw fF
    rw [ha]
    rfl
  · rw [hr] at q
    rw [hr2] at q2
    unfold knw fF uF
    rw [oi_n q, oi_n q2]
    rfl
  · rw [hr2] at q2
    obtain ⟨a, ha⟩ := oi_s q2
    unfold knw uF
    rw [ha]
    simp
theorem h_flatNamed {s : mSt} {i : Nat} {m : dM} {Q : Int32 → dM → Prop} (hV : VM K V m) (hN : (m.1 20 0).toInt = (s.1.length : Int) ∧ s.1.length ≤ 7) (hN2 : ∀ i : Nat, i < s.1.length → m.2.1 45 i = fN V s i) (hx : (m.1 44 4).toInt = (i : Int)) (hi : i ≤ 400) (hl : lvK K i) (hk : K i ≤ 23) (h1 : ∀ (a : Nat) (r : Int32), fF V s (V i) = some a → r.toInt = (a : Int) → Q r m) (h0 : ∀ r : Int32, fF V s (V i) = none → r.toInt = -1 → Q r (dSet m 44 5 (4 : Int32))) : c_X5_flatNamed_44 2 m Q := by
  refine v_X5_flatNamed_44 (h_nameAt hV hx hi hl hk (h_ix45 (N := fN V s) hN2 hN.2 hN.1 (fun r hr => ⟨fun q => v_X5_flatNamed_44_36 ?_, fun q => v_X5_flatNamed_44_36 (h0 r (oi_n ?_) q)⟩)))
  · rw [hr] at q
    obtain ⟨a, ha⟩ := oi_s q
    rw [ha] at hr
    exact h1 a r ha hr
  · rw [← q, hr]
    rfl
theorem getD_app {α : Type} {l : List α} {x d : α} {i : Nat} (h : i < l.length) : (l ++ [x]).getD i d = l.getD i d := by
  rw [List.getD_eq_getElem?_getD, List.getD_eq_getElem?_getD, List.getElem?_append_left h]
theorem getD_last {α : Type} {l : List α} {x d : α} : (l ++ [x]).getD l.length d = x := by
  rw [List.getD_eq_getElem?_getD, List.getElem?_append_right (Nat.le_refl _), Nat.sub_self]
  rfl
theorem h_takeFlat {s : mSt} {n : Nat} {m : dM} {Q : Int32 → dM → Prop} (hV : VM K V m) (hM : MS V s m) (hx : (m.1 44 4).toInt = ((n + 1 : Nat) : Int)) (h0 : (m.1 44 5).toInt = 0) (hn : n + 3 < 400) (hl : lvK K (n + 4)) (hk1 : K (n + 1) = 22) (hk2 : K (n + 2) = 23) (hc : s.1.length < 7) (hQ : ∀ (r : Int32) (m' : dM), TO K V (mFlat V n s) (n + 3) m r m' → Q r m') : c_X5_takeFlat_44 4 m Q := by
  have hf := hM.1.1
  refine v_X5_takeFlat_44 ⟨fun _ => ?_, fun q => by exfalso; omega⟩
  rw [d_cn hf]
  refine Wp.deep (h_isNewName hV hM.nb hx (by omega) (hl.dn (by omega)) (by omega) (fun hkn => ⟨fun _ => ?_, fun q => absurd q (by first | decide | exact Nat.succ_ne_zero _)⟩) (fun hkn => ⟨fun q => absurd rfl q, fun _ => hQ _ _ ?_⟩)) (Nat.le_of_ble_eq_true rfl)
  · refine Wp.deep (h_nameAt hV hx (by omega) (hl.dn (by omega)) (by omega) ⟨by omega, ?_⟩) (Nat.le_of_ble_eq_true rfl)
    have e2 := d_add (k := 1) (K := 1) hx (by decide) (by omega)
    have hV1 : VM K V (dSet (dSetL m 45 s.1.length (V (n + 1))) 44 4 (m.1 44 4 + 1)) := hV.of (by rw [dSet_k (by decide)]; rfl) rfl
    refine Wp.deep (h_numberAt (i := n + 2) hV1 e2 (by omega) (hl.dn (by omega)) (by omega) ⟨by omega, ?_⟩) (Nat.le_of_ble_eq_true rfl)
    have F : MF m (dSet (dSet (dSet (dSetL m 45 s.1.length (V (n + 1))) 44 4 (m.1 44 4 + 1)) 21 s.1.length (V (n + 2)).toInt32) 20 0 (m.1 20 0 + 1)) := ((((MF.rf m).setL (Or.inl rfl)).set (Or.inr rfl)).set (Or.inl (by decide))).set (Or.inl (by decide))
    have hV2 := hV.mf F
    have ex : (((dSet (dSet (dSet (dSetL m 45 s.1.length (V (n + 1))) 44 4 (m.1 44 4 + 1)) 21 s.1.length (V (n + 2)).toInt32) 20 0 (m.1 20 0 + 1)).1 44 4).toInt = ((n + 2 : Nat) : Int)) := e2
    have e0 := ti_0
    have e9 := ti_9
    refine h_isWithin hV2 ex (by omega) (hl.dn (by omega)) (by omega) (fun hb => ⟨Or.inr rfl, hQ _ _ ?_⟩) (fun hb => ⟨Or.inl rfl, hQ _ _ ?_⟩)
    · have eR : mFlat V n s = ((0, 0), (s.1 ++ [n], s.2)) := by
        unfold mFlat bnd
        rw [hkn, cond_false, if_pos (by omega)]
      rw [eR]
      refine ⟨F.set (Or.inr rfl), fun _ => ⟨rfl, ?_, h0, ?_⟩, fun q => absurd rfl q⟩
      · exact d_add (k := 1) (K := 1) ex (by decide) (by omega)
      · obtain ⟨a1, a2, a3, a4, a5, a6, a7⟩ := hM
        have ef := d_add (k := 1) (K := 1) hf (by decide) (by omega)
        refine ⟨⟨?_, ?_⟩, a2, a3, fun i hi => ?_, a5, a6, a7⟩
        · rw [List.length_append]; exact ef
        · rw [List.length_append]; show s.1.length + 1 ≤ 7; omega
        · rw [List.length_append] at hi
          have hi : i < s.1.length + 1 := hi
          by_cases q : i = s.1.length
          · subst q
            refine ⟨?_, ?_⟩
            · show (dSetL m 45 s.1.length (V (n + 1))).2.1 45 s.1.length = V ((s.1 ++ [n]).getD s.1.length 0 + 1)
              rw [dSetL_e, if_pos ⟨rfl, rfl⟩, getD_last]
            · show (dSet (dSet (dSetL m 45 s.1.length (V (n + 1))) 44 4 (m.1 44 4 + 1)) 21 s.1.length (V (n + 2)).toInt32).1 21 s.1.length = _
              rw [dSet_s, getD_last]
          · have := a4 i (by omega)
            refine ⟨?_, ?_⟩
            · show (dSetL m 45 s.1.length (V (n + 1))).2.1 45 i = V ((s.1 ++ [n]).getD i 0 + 1)
              rw [dSetL_e, if_neg (fun z => q z.2), getD_app (by omega)]
              exact this.1
            · show (dSet (dSet (dSetL m 45 s.1.length (V (n + 1))) 44 4 (m.1 44 4 + 1)) 21 s.1.length (V (n + 2)).toInt32).1 21 i = _
              rw [dSet_j q, getD_app (by omega)]
              exact this.2
    · have eR : mFlat V n s = ((5, n + 2), s) := by
        unfold mFlat bnd
        rw [hkn, cond_false, if_neg (by omega)]
      rw [eR]
      exact ⟨F.set (Or.inr rfl), fun q => absurd q (by first | decide | exact Nat.succ_ne_zero _), fun _ => ⟨rfl, ex, rfl, by show n + 2 ≤ 400; omega, hl.dn (show n + 2 ≤ n + 4 by omega)⟩⟩
  · have eR : mFlat V n s = ((3, n + 1), s) := by
      unfold mFlat
      rw [hkn]
      rfl
    rw [eR]
    exact ⟨(MF.rf m).set (Or.inr rfl), fun q => absurd q (by first | decide | exact Nat.succ_ne_zero _), fun _ => ⟨rfl, hx, rfl, by show n + 1 ≤ 400; omega, hl.dn (show n + 1 ≤ n + 4 by omega)⟩⟩
end CME
