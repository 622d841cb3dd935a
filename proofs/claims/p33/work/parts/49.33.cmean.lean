/-! THE CLASS's meaning, 3: a use; surge, coins, seed; all of a text -/
/-- only the cell of the reader of meaning has changed -/
def S44 (m m' : dM) : Prop := (∀ k : Nat, k ≠ 44 → m'.1 k = m.1 k) ∧ m'.2 = m.2
theorem S44.tr {a b c : dM} (h : S44 a b) (h' : S44 b c) : S44 a c := ⟨fun k q => (h'.1 k q).trans (h.1 k q), h'.2.trans h.2⟩
theorem S44.mf {a b c : dM} (h : MF a b) (h' : S44 b c) : MF a c := ⟨fun k q => (h'.1 k (by omega)).trans (h.1 k q), fun k q1 q2 => by rw [h'.2]; exact h.2.1 k q1 q2, by rw [h'.2]; exact h.2.2⟩
section CMU
variable {K : Nat → Int} {V : Nat → Int64}
theorem VM.s44 {m m' : dM} (h : VM K V m) (hF : S44 m m') : VM K V m' := h.of (hF.1 39 (by decide)) (by rw [hF.2])
theorem MS.s44 {s : mSt} {m m' : dM} (h : MS V s m) (hF : S44 m m') : MS V s m' := by
  unfold MS
  rw [hF.2, hF.1 20 (by decide), hF.1 21 (by decide), hF.1 22 (by decide), hF.1 23 (by decide), hF.1 24 (by decide), hF.1 25 (by decide), hF.1 26 (by decide), hF.1 27 (by decide), hF.1 28 (by decide)]
  exact h
theorem h_within {x1 x2 : Int32} {i : Nat} {m : dM} {Q : Int32 → dM → Prop} (hV : VM K V m) (hx : (m.1 44 4).toInt = (i : Int)) (hi : i ≤ 400) (hl : lvK K i) (hk : K i ≤ 23) (h1 : x1.toInt ≤ iV V i ∧ iV V i ≤ x2.toInt → ∀ m' : dM, S44 m m' → (m'.1 44 4).toInt = ((i + 1 : Nat) : Int) → m'.1 44 5 = m.1 44 5 → Q 1 m') (h0 : ¬ (x1.toInt ≤ iV V i ∧ iV V i ≤ x2.toInt) → ∀ m' : dM, S44 m m' → (m'.1 44 4).toInt = (i : Int) → (m'.1 44 5).toInt = 5 → Q 0 m') : c_X5_isWithin_44 3 x1 x2 m Q :=
  h_isWithin hV hx hi hl hk (fun q => h1 q _ ⟨fun k a => dSet_k a, rfl⟩ (by rw [dSet_s]; exact d_inc hx (by omega)) (by rw [dSet_j (by decide)])) (fun q => h0 q _ ⟨fun k a => dSet_k a, rfl⟩ (by rw [dSet_j (by decide)]; exact hx) (by rw [dSet_s]; decide))

theorem h_takeUse {s : mSt} {n : Nat} {m : dM} {Q : Int32 → dM → Prop} (hV : VM K V m) (hM : MS V s m) (hx : (m.1 44 4).toInt = ((n + 1 : Nat) : Int)) (h0 : (m.1 44 5).toInt = 0) (hn : n + 6 < 400) (hl : lvK K (n + 7)) (hk1 : K (n + 1) = 22) (hk2 : K (n + 2) = 22) (hk3 : K (n + 3) = 23) (hk4 : K (n + 4) = 23) (hk5 : K (n + 5) = 23) (hc : s.2.2.1.length < 8) (hQ : ∀ (r : Int32) (m' : dM), TO K V (mUse V n s) (n + 6) m r m' → Q r m') : c_X5_takeUse_44 4 m Q := by
  have hu := hM.2.2.1.1
  have hfl := hM.1.2
  refine v_X5_takeUse_44 ⟨fun _ => ?_, fun q => by exfalso; omega⟩
  rw [d_cn hu]
  generalize hU : s.2.2.1.length = U at *
  have bu : 0 ≤ (m.1 20 2).toInt ∧ (m.1 20 2).toInt < 8 := by omega
  refine Wp.deep (h_isNewName hV hM.nb hx (by omega) (hl.dn (by omega)) (by omega) (fun hkn => ⟨fun _ => ?_, fun q => absurd q (by decide)⟩) (fun hkn => ⟨fun q => absurd rfl q, fun _ => hQ _ _ ?_⟩)) (Nat.le_of_ble_eq_true rfl)
  · refine Wp.deep (h_nameAt hV hx (by omega) (hl.dn (by omega)) (by omega) ⟨bu, ?_⟩) (Nat.le_of_ble_eq_true rfl)
    have e2 := d_add (k := 1) (K := 1) hx (by decide) (by omega)
    have F1 : MF m (dSet (dSet (dSetL m 46 U (V (n + 1))) 20 2 (m.1 20 2 + 1)) 44 4 (m.1 44 4 + 1)) := (((MF.rf m).setL (Or.inr rfl)).set (Or.inl (by decide))).set (Or.inr rfl)
    generalize hM1 : dSet (dSet (dSetL m 46 U (V (n + 1))) 20 2 (m.1 20 2 + 1)) 44 4 (m.1 44 4 + 1) = M1 at F1 ⊢
    have g44 : (M1.1 44 4).toInt = ((n + 2 : Nat) : Int) := by rw [← hM1]; exact e2
    have g445 : (M1.1 44 5).toInt = 0 := by rw [← hM1]; exact h0
    have g20 : ∀ j : Nat, j ≠ 2 → M1.1 20 j = m.1 20 j := fun j hj => by rw [← hM1, dSet_k (by decide), dSet_j hj]; rfl
    have g202 : (M1.1 20 2).toInt = ((U + 1 : Nat) : Int) := by rw [← hM1]; exact d_inc hu (by omega)
    have gk : ∀ k : Nat, k ≠ 20 → k ≠ 44 → M1.1 k = m.1 k := fun k a b => by rw [← hM1, dSet_k b, dSet_k a]; rfl
    have gL45 : M1.2.1 45 = m.2.1 45 := by rw [← hM1]; rfl
    have gL46 : ∀ u : Nat, M1.2.1 46 u = if u = U then V (n + 1) else m.2.1 46 u := fun u => by
      rw [← hM1]
      show (dSetL m 46 U (V (n + 1))).2.1 46 u = _
      rw [dSetL_e]
      by_cases q : u = U
      · rw [if_pos ⟨rfl, q⟩, if_pos q]
      · rw [if_neg (fun z => q z.2), if_neg q]
    refine Wp.deep (h_flatNamed (s := s) (i := n + 2) (hV.mf F1) (by rw [g20 0 (by decide)]; exact hM.1) (by rw [gL45]; exact hM.nb.2.2.1) g44 (by omega) (hl.dn (by omega)) (by omega) (fun a r3 ha hr3 => ⟨bu, bu, fun _ => ?_, fun q => by exfalso; omega⟩) (fun r3 ha hr3 => ⟨bu, bu, fun q => absurd hr3 q, fun _ => hQ _ _ ?_⟩)) (Nat.le_of_ble_eq_true rfl)
    · have la := fF_lt ha
      have e3 := d_add (k := 1) (K := 1) g44 (by decide) (by omega)
      have e4 := d_add (k := 1) (K := 1) e3 (by decide) (by omega)
      have e5 := d_add (k := 2) (K := 2) e3 (by decide) (by omega)
      have F2 : MF m (dSet (dSet M1 25 U r3) 44 4 (M1.1 44 4 + 1)) := (F1.set (Or.inl (by decide))).set (Or.inr rfl)
      refine Wp.deep (h_numberAt (i := n + 3) (hV.mf F2) e3 (by omega) (hl.dn (by omega)) (by omega) ⟨bu, ?_⟩) (Nat.le_of_ble_eq_true rfl)
      have F3 : MF m (dSet (dSet (dSet M1 25 U r3) 44 4 (M1.1 44 4 + 1)) 26 U (V (n + 3)).toInt32) := F2.set (Or.inl (by decide))
      refine Wp.deep (h_numberAt (i := n + 4) (hV.mf F3) e4 (by omega) (hl.dn (by omega)) (by omega) ⟨bu, ?_⟩) (Nat.le_of_ble_eq_true rfl)
      have F4 : MF m (dSet (dSet (dSet (dSet M1 25 U r3) 44 4 (M1.1 44 4 + 1)) 26 U (V (n + 3)).toInt32) 27 U (V (n + 4)).toInt32) := F3.set (Or.inl (by decide))
      refine Wp.deep (h_numberAt (i := n + 5) (hV.mf F4) e5 (by omega) (hl.dn (by omega)) (by omega) ⟨bu, ?_⟩) (Nat.le_of_ble_eq_true rfl)
      have F5 : MF m (dSet (dSet (dSet (dSet (dSet M1 25 U r3) 44 4 (M1.1 44 4 + 1)) 26 U (V (n + 3)).toInt32) 27 U (V (n + 4)).toInt32) 28 U (V (n + 5)).toInt32) := F4.set (Or.inl (by decide))
      generalize hM5 : dSet (dSet (dSet (dSet (dSet M1 25 U r3) 44 4 (M1.1 44 4 + 1)) 26 U (V (n + 3)).toInt32) 27 U (V (n + 4)).toInt32) 28 U (V (n + 5)).toInt32 = M5 at F5 ⊢
      have p44 : (M5.1 44 4).toInt = ((n + 3 : Nat) : Int) := by rw [← hM5]; exact e3
      have p445 : (M5.1 44 5).toInt = 0 := by rw [← hM5]; exact g445
      have pk : ∀ k : Nat, k ≠ 25 → k ≠ 26 → k ≠ 27 → k ≠ 28 → k ≠ 44 → M5.1 k = M1.1 k := fun k a b c d e => by rw [← hM5, dSet_k d, dSet_k c, dSet_k b, dSet_k e, dSet_k a]
      have pL : M5.2.1 = M1.2.1 := by rw [← hM5]; rfl
      have p25 : ∀ u : Nat, M5.1 25 u = if u = U then r3 else m.1 25 u := fun u => by
        rw [← hM5, dSet_k (by decide), dSet_k (by decide), dSet_k (by decide), dSet_k (by decide), dSet_e, gk 25 (by decide) (by decide)]
        by_cases q : u = U
        · rw [if_pos ⟨rfl, q⟩, if_pos q]
        · rw [if_neg (fun z => q z.2), if_neg q]
      have p26 : ∀ u : Nat, M5.1 26 u = if u = U then (V (n + 3)).toInt32 else m.1 26 u := fun u => by
        rw [← hM5, dSet_k (by decide), dSet_k (by decide), dSet_e, dSet_k (by decide), dSet_k (by decide), gk 26 (by decide) (by decide)]
        by_cases q : u = U
        · rw [if_pos ⟨rfl, q⟩, if_pos q]
        · rw [if_neg (fun z => q z.2), if_neg q]
      have p27 : ∀ u : Nat, M5.1 27 u = if u = U then (V (n + 4)).toInt32 else m.1 27 u := fun u => by
        rw [← hM5, dSet_k (by decide), dSet_e, dSet_k (by decide), dSet_k (by decide), dSet_k (by decide), gk 27 (by decide) (by decide)]
        by_cases q : u = U
        · rw [if_pos ⟨rfl, q⟩, if_pos q]
        · rw [if_neg (fun z => q z.2), if_neg q]
      have p28 : ∀ u : Nat, M5.1 28 u = if u = U then (V (n + 5)).toInt32 else m.1 28 u := fun u => by
        rw [← hM5, dSet_e, dSet_k (by decide), dSet_k (by decide), dSet_k (by decide), dSet_k (by decide), gk 28 (by decide) (by decide)]
        by_cases q : u = U
        · rw [if_pos ⟨rfl, q⟩, if_pos q]
        · rw [if_neg (fun z => q z.2), if_neg q]
      have eR0 : mUse V n s = bnd V (n + 3) 1 19 (bnd V (n + 4) 0 23 (bnd V (n + 5) (iV V (n + 4)) 23 ((0, 0), (s.1, s.2.1, s.2.2.1 ++ [(n, a)], s.2.2.2)) s) s) s := by
        unfold mUse
        rw [hkn, cond_false, ha]
      have t0 := ti_0
      have t1 := ti_1
      have t19 := ti_19
      have t23 := ti_23
      have hV5 := hV.mf F5
      have ok : iV V (n + 3) ≥ 1 ∧ iV V (n + 3) ≤ 19 → iV V (n + 4) ≥ 0 ∧ iV V (n + 4) ≤ 23 → iV V (n + 4) ≤ iV V (n + 5) ∧ iV V (n + 5) ≤ 23 → MS V (s.1, s.2.1, s.2.2.1 ++ [(n, a)], s.2.2.2) M5 := fun _ _ _ => by
        obtain ⟨a1, a2, a3, a4, a5, a6, a7⟩ := hM
        refine ⟨?_, ?_, ⟨?_, ?_⟩, fun i hi => ?_, fun w hw => ?_, fun u hu => ?_, ?_⟩
        · show (M5.1 20 0).toInt = _ ∧ _
          rw [pk 20 (by decide) (by decide) (by decide) (by decide) (by decide), g20 0 (by decide)]; exact a1
        · show (M5.1 20 1).toInt = _ ∧ _
          rw [pk 20 (by decide) (by decide) (by decide) (by decide) (by decide), g20 1 (by decide)]; exact a2
        · show (M5.1 20 2).toInt = _
          rw [pk 20 (by decide) (by decide) (by decide) (by decide) (by decide), List.length_append, hU]; exact g202
        · show (s.2.2.1 ++ [(n, a)]).length ≤ 8
          rw [List.length_append, hU]; show U + 1 ≤ 8; omega
        · show M5.2.1 45 i = _ ∧ M5.1 21 i = _
          rw [pL, gL45, pk 21 (by decide) (by decide) (by decide) (by decide) (by decide), gk 21 (by decide) (by decide)]
          exact a4 i hi
        · show ((M5.1 22 w).toInt = _ ∧ (M5.1 23 w).toInt = _ ∧ M5.1 24 w = _) ∧ _
          rw [pk 22 (by decide) (by decide) (by decide) (by decide) (by decide), gk 22 (by decide) (by decide), pk 23 (by decide) (by decide) (by decide) (by decide) (by decide), gk 23 (by decide) (by decide), pk 24 (by decide) (by decide) (by decide) (by decide) (by decide), gk 24 (by decide) (by decide)]
          exact a5 w hw
        · show M5.2.1 46 u = uN V (s.1, s.2.1, s.2.2.1 ++ [(n, a)], s.2.2.2) u ∧ (M5.1 25 u).toInt = (((s.2.2.1 ++ [(n, a)]).getD u (0, 0)).2 : Int) ∧ M5.1 26 u = (V (((s.2.2.1 ++ [(n, a)]).getD u (0, 0)).1 + 3)).toInt32 ∧ M5.1 27 u = (V (((s.2.2.1 ++ [(n, a)]).getD u (0, 0)).1 + 4)).toInt32 ∧ M5.1 28 u = (V (((s.2.2.1 ++ [(n, a)]).getD u (0, 0)).1 + 5)).toInt32
          have hu : u < (s.2.2.1 ++ [(n, a)]).length := hu
          rw [List.length_append, hU] at hu
          have hu : u < U + 1 := hu
          have eN : uN V (s.1, s.2.1, s.2.2.1 ++ [(n, a)], s.2.2.2) u = V (((s.2.2.1 ++ [(n, a)]).getD u (0, 0)).1 + 1) := rfl
          rw [eN, pL, gL46, p25, p26, p27, p28]
          by_cases q : u = U
          · subst q
            rw [if_pos rfl, if_pos rfl, if_pos rfl, if_pos rfl, if_pos rfl, ← hU, getD_last]
            exact ⟨rfl, hr3, rfl, rfl, rfl⟩
          · rw [if_neg q, if_neg q, if_neg q, if_neg q, if_neg q, getD_app (by omega)]
            exact a6 u (by omega)
        · show M5.1 20 3 = _ ∧ M5.1 20 4 = _ ∧ M5.1 20 5 = _ ∧ M5.1 20 6 = _
          rw [pk 20 (by decide) (by decide) (by decide) (by decide) (by decide), g20 3 (by decide), g20 4 (by decide), g20 5 (by decide), g20 6 (by decide)]; exact a7
      clear p25 p26 p28 pk pL g20 g202 gk gL45 gL46 hM5 hM1
      refine h_within (i := n + 3) hV5 p44 (by omega) (hl.dn (by omega)) (by omega) (fun hb3 M6 s6 q44 q445 => ⟨fun q => absurd q (by decide), fun _ => ?_⟩) (fun hb3 M6 s6 q44 q445 => ⟨fun _ => v_X5_takeUse_44_213 (hQ _ _ ?_), fun q => absurd (by decide) q⟩)
      · refine h_within (i := n + 4) (hV5.s44 s6) q44 (by omega) (hl.dn (by omega)) (by omega) (fun hb4 M7 s7 r44 r445 => ⟨fun q => absurd q (by decide), fun _ => ⟨bu, ?_⟩⟩) (fun hb4 M7 s7 r44 r445 => ⟨fun _ => v_X5_takeUse_44_213 (hQ _ _ ?_), fun q => absurd (by decide) q⟩)
        · have e27 : (M7.1 27 U).toInt = iV V (n + 4) := by
            rw [s7.1 27 (by decide), s6.1 27 (by decide), p27, if_pos rfl]
            rfl
          refine h_within (i := n + 5) ((hV5.s44 s6).s44 s7) r44 (by omega) (hl.dn (by omega)) (by omega) (fun hb5 M8 s8 w44 w445 => ⟨fun q => absurd q (by decide), fun _ => hQ _ _ ?_⟩) (fun hb5 M8 s8 w44 w445 => ⟨fun _ => v_X5_takeUse_44_213 (hQ _ _ ?_), fun q => absurd (by decide) q⟩)
          · rw [e27] at hb5
            have eR : mUse V n s = ((0, 0), (s.1, s.2.1, s.2.2.1 ++ [(n, a)], s.2.2.2)) := by
              rw [eR0]
              unfold bnd
              rw [if_pos (by omega), if_pos (by omega), if_pos (by omega)]
            rw [eR]
            refine ⟨S44.mf F5 ((s6.tr s7).tr s8), fun _ => ⟨rfl, w44, by rw [w445, r445, q445]; exact p445, MS.s44 (ok (by omega) (by omega) (by omega)) ((s6.tr s7).tr s8)⟩, fun q => absurd rfl q⟩
          · rw [e27] at hb5
            have eR : mUse V n s = ((5, n + 5), s) := by
              rw [eR0]
              unfold bnd
              rw [if_pos (by omega), if_pos (by omega), if_neg (by omega)]
            rw [eR]
            exact ⟨S44.mf F5 ((s6.tr s7).tr s8), fun q => absurd q (Nat.succ_ne_zero _), fun _ => ⟨rfl, w44, w445, by show n + 5 ≤ 400; omega, hl.dn (show n + 5 ≤ n + 7 by omega)⟩⟩
        · have eR : mUse V n s = ((5, n + 4), s) := by
            rw [eR0]
            unfold bnd
            rw [if_pos (by omega), if_neg (by omega)]
          rw [eR]
          exact ⟨S44.mf F5 (s6.tr s7), fun q => absurd q (Nat.succ_ne_zero _), fun _ => ⟨rfl, r44, r445, by show n + 4 ≤ 400; omega, hl.dn (show n + 4 ≤ n + 7 by omega)⟩⟩
      · have eR : mUse V n s = ((5, n + 3), s) := by
          rw [eR0]
          unfold bnd
          rw [if_neg (by omega)]
        rw [eR]
        exact ⟨S44.mf F5 s6, fun q => absurd q (Nat.succ_ne_zero _), fun _ => ⟨rfl, q44, q445, by show n + 3 ≤ 400; omega, hl.dn (show n + 3 ≤ n + 7 by omega)⟩⟩
    · have eR : mUse V n s = ((4, n + 2), s) := by
        unfold mUse
        rw [hkn, cond_false, ha]
      rw [eR]
      exact ⟨(F1.set (Or.inr rfl)).set (Or.inl (by decide)), fun q => absurd q (Nat.succ_ne_zero _), fun _ => ⟨rfl, g44, rfl, by show n + 2 ≤ 400; omega, hl.dn (show n + 2 ≤ n + 7 by omega)⟩⟩
  · have eR : mUse V n s = ((3, n + 1), s) := by
      unfold mUse
      rw [hkn]
      rfl
    rw [eR]
    exact ⟨(MF.rf m).set (Or.inr rfl), fun q => absurd q (Nat.succ_ne_zero _), fun _ => ⟨rfl, hx, rfl, by show n + 1 ≤ 400; omega, hl.dn (show n + 1 ≤ n + 7 by omega)⟩⟩
end CMU
