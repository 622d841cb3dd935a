/-! THE CLASS's meaning, 2: wires, uses, the rest -/
theorem d_of {x : Int32} {k : Nat} (h : x.toInt = k) : x = Int32.ofNat k := by
  have := d_nat (x := x) (by omega)
  rw [h, Int.toNat_natCast] at this
  exact this
set_option maxRecDepth 100000 in
theorem mask_eq : ∀ a b c d : Fin 7, a ≠ b → c ≠ d → ((((1 : Int32) <<< (Int32.ofNat c &&& 31)) ||| ((1 : Int32) <<< (Int32.ofNat d &&& 31))).toInt = (((1 : Int32) <<< (Int32.ofNat a &&& 31)) ||| ((1 : Int32) <<< (Int32.ofNat b &&& 31))).toInt ↔ (c = a ∧ d = b) ∨ (c = b ∧ d = a)) := by decide +kernel
section CMW
variable {K : Nat → Int} {V : Nat → Int64}
/-- what is needed of a draft to look wires up -/
def WB (s : mSt) (m : dM) : Prop := ((m.1 20 1).toInt = (s.2.1.length : Int) ∧ s.2.1.length ≤ 10) ∧ ∀ w : Nat, w < s.2.1.length → ((m.1 22 w).toInt = ((wE s w).1 : Int) ∧ (m.1 23 w).toInt = ((wE s w).2 : Int)) ∧ ((wE s w).1 < 7 ∧ (wE s w).2 < 7 ∧ (wE s w).1 ≠ (wE s w).2)
theorem h_isWired {s : mSt} {x1 x2 : Int32} {a b : Nat} {m : dM} {Q : Int32 → dM → Prop} (hW : WB s m) (h1 : x1.toInt = a) (h2 : x2.toInt = b) (ha : a < 7) (hb : b < 7) (hab : a ≠ b) (hy : wx (wE s) a b s.2.1.length 0 = true → Q 1 m) (hn : wx (wE s) a b s.2.1.length 0 = false → Q 0 m) : c_X3_isWired_20 2 x1 x2 m Q := by
  have loop : ∀ (f i : Nat) (x4 : Int32), i + f = s.2.1.length → x4.toInt = i → wx (wE s) a b f i = wx (wE s) a b s.2.1.length 0 → j_X3_isWired_20_11 2 (((1 : Int32) <<< (x1 &&& 31)) ||| ((1 : Int32) <<< (x2 &&& 31))) x4 m Q := by
    have hc := hW.1.1
    intro f
    induction f with
    | zero =>
      intro i x4 hi h4 e
      exact v_X3_isWired_20_11 ⟨fun _ => hn e.symm, fun q => by exfalso; omega⟩
    | succ f ih =>
      intro i x4 hi h4 e
      obtain ⟨⟨w1, w2⟩, w3, w4, w5⟩ := hW.2 i (by omega)
      have hl := hW.1.2
      refine v_X3_isWired_20_11 ⟨fun q => by exfalso; omega, fun _ => v_X3_endsOf_20 ⟨by omega, by omega, ?_⟩⟩
      rw [d_cn h4, d_of w1, d_of w2, d_of h1, d_of h2]
      have hm := mask_eq ⟨a, ha⟩ ⟨b, hb⟩ ⟨(wE s i).1, w3⟩ ⟨(wE s i).2, w4⟩ (fun z => hab (Fin.mk.inj z)) (fun z => w5 (Fin.mk.inj z))
      have hm2 : ((⟨(wE s i).1, w3⟩ : Fin 7) = ⟨a, ha⟩ ∧ (⟨(wE s i).2, w4⟩ : Fin 7) = ⟨b, hb⟩ ∨ (⟨(wE s i).1, w3⟩ : Fin 7) = ⟨b, hb⟩ ∧ (⟨(wE s i).2, w4⟩ : Fin 7) = ⟨a, ha⟩) ↔ (wE s i = (a, b) ∨ wE s i = (b, a)) := by
        constructor
        · intro h
          rcases h with ⟨q1, q2⟩ | ⟨q1, q2⟩
          · exact Or.inl (Prod.ext (Fin.mk.inj q1) (Fin.mk.inj q2))
          · exact Or.inr (Prod.ext (Fin.mk.inj q1) (Fin.mk.inj q2))
        · intro h
          rcases h with h | h
          · exact Or.inl ⟨Fin.ext (congrArg Prod.fst h), Fin.ext (congrArg Prod.snd h)⟩
          · exact Or.inr ⟨Fin.ext (congrArg Prod.fst h), Fin.ext (congrArg Prod.snd h)⟩
      have hm3 := hm.trans hm2
      rw [wx_s] at e
      refine ⟨fun q => ?_, fun q => hy ?_⟩
      · rw [if_neg (fun z => q (hm3.mpr z))] at e
        have := ih (i + 1) (x4 + 1) (by omega) (d_add h4 (by decide) (by omega)) e
        rw [d_of h1, d_of h2] at this
        exact this
      · rw [if_pos (hm3.mp q)] at e
        exact e.symm
  exact v_X3_isWired_20 (loop _ 0 _ (Nat.zero_add _) (by decide) rfl)
theorem MS.wb {s : mSt} {m : dM} (h : MS V s m) : WB s m := ⟨h.2.1, fun w hw => ⟨⟨(h.2.2.2.2.1 w hw).1.1, (h.2.2.2.2.1 w hw).1.2.1⟩, (h.2.2.2.2.1 w hw).2⟩⟩
theorem h_takeWire {s : mSt} {n : Nat} {m : dM} {Q : Int32 → dM → Prop} (hV : VM K V m) (hM : MS V s m) (hx : (m.1 44 4).toInt = ((n + 1 : Nat) : Int)) (h0 : (m.1 44 5).toInt = 0) (hn : n + 4 < 400) (hl : lvK K (n + 5)) (hk1 : K (n + 1) = 22) (hk2 : K (n + 2) = 22) (hk3 : K (n + 3) = 23) (hc : s.2.1.length < 10) (hQ : ∀ (r : Int32) (m' : dM), TO K V (mWire V n s) (n + 4) m r m' → Q r m') : c_X5_takeWire_44 4 m Q := by
  have hw := hM.2.1.1
  have hfl := hM.1.2
  refine v_X5_takeWire_44 ⟨fun _ => ?_, fun q => by exfalso; omega⟩
  rw [d_cn hw]
  refine Wp.deep (h_flatNamed hV hM.1 hM.nb.2.2.1 hx (by omega) (hl.dn (by omega)) (by omega) (fun a r1 ha hr1 => ⟨fun _ => ?_, fun q => by exfalso; omega⟩) (fun r1 ha hr1 => ⟨fun q => absurd hr1 q, fun _ => hQ _ _ ?_⟩)) (Nat.le_of_ble_eq_true rfl)
  · have e2 := d_add (k := 1) (K := 1) hx (by decide) (by omega)
    have F1 : MF m (dSet m 44 4 (m.1 44 4 + 1)) := (MF.rf m).set (Or.inr rfl)
    have fail3 : ∀ b : Nat, fF V s (V (n + 2)) = some b → (a = b ∨ wx (wE s) a b s.2.1.length 0 = true) → j_X5_takeWire_44_71 4 (dSet m 44 4 (m.1 44 4 + 1)) Q := fun b hb hw => by
      refine v_X5_takeWire_44_71 (Wp.deep (h_fail ⟨Or.inl rfl, hQ _ _ ?_⟩) (Nat.le_of_ble_eq_true rfl))
      have eR : mWire V n s = ((3, n + 2), s) := by
        unfold mWire
        rw [ha]
        simp only
        rw [hb]
        simp only
        rw [if_pos hw]
      rw [eR]
      exact ⟨F1.set (Or.inr rfl), fun q => absurd q (by first | decide | exact Nat.succ_ne_zero _), fun _ => ⟨rfl, e2, rfl, by show n + 2 ≤ 400; omega, hl.dn (show n + 2 ≤ n + 5 by omega)⟩⟩
    refine Wp.deep (h_flatNamed (s := s) (i := n + 2) (hV.mf F1) hM.1 hM.nb.2.2.1 e2 (by omega) (hl.dn (by omega)) (by omega) (fun b r2 hb hr2 => ⟨fun _ => ⟨fun q => fail3 b hb (Or.inl (by omega)), fun q => ?_⟩, fun q => by exfalso; omega⟩) (fun r2 hb hr2 => ⟨fun q => absurd hr2 q, fun _ => hQ _ _ ?_⟩)) (Nat.le_of_ble_eq_true rfl)
    · have la := fF_lt ha
      have lb := fF_lt hb
      have W1 : WB s (dSet m 44 4 (m.1 44 4 + 1)) := hM.wb
      refine Wp.deep (h_isWired W1 hr1 hr2 (by omega) (by omega) (by omega) (fun hwd => ⟨fun q => absurd q (by first | decide | exact Nat.succ_ne_zero _), fun _ => fail3 b hb (Or.inr hwd)⟩) (fun hwd => ⟨fun _ => ⟨by omega, by omega, ?_⟩, fun q => absurd (by decide) q⟩)) (Nat.le_of_ble_eq_true rfl)
      have hnw : ¬ (a = b ∨ wx (wE s) a b s.2.1.length 0 = true) := by
        rw [hwd]
        exact fun z => z.elim (fun q => by omega) (fun q => by cases q)
      have e3 := d_add (k := 1) (K := 1) (x := (dSet m 44 4 (m.1 44 4 + 1)).1 44 4) e2 (by decide) (by omega)
      have F3 : MF m (dSet (dSet (dSet (dSet m 44 4 (m.1 44 4 + 1)) 44 4 ((dSet m 44 4 (m.1 44 4 + 1)).1 44 4 + 1)) 22 s.2.1.length r1) 23 s.2.1.length r2) := (((F1.set (Or.inr rfl)).set (Or.inl (by decide))).set (Or.inl (by decide)))
      refine Wp.deep (h_numberAt (i := n + 3) (hV.mf F3) e3 (by omega) (hl.dn (by omega)) (by omega) ⟨by omega, ?_⟩) (Nat.le_of_ble_eq_true rfl)
      generalize hMM : dSet (dSet (dSet (dSet m 44 4 (m.1 44 4 + 1)) 44 4 ((dSet m 44 4 (m.1 44 4 + 1)).1 44 4 + 1)) 22 s.2.1.length r1) 23 s.2.1.length r2 = M3 at F3 ⊢
      have g44 : (M3.1 44 4).toInt = ((n + 3 : Nat) : Int) := by rw [← hMM]; exact e3
      have g445 : (M3.1 44 5).toInt = 0 := by rw [← hMM]; exact h0
      have g20 : M3.1 20 = m.1 20 := by rw [← hMM]; rw [dSet_k (by decide), dSet_k (by decide), dSet_k (by decide), dSet_k (by decide)]
      have gk : ∀ k : Nat, k ≠ 22 → k ≠ 23 → k ≠ 44 → M3.1 k = m.1 k := fun k a b c => by rw [← hMM, dSet_k b, dSet_k a, dSet_k c, dSet_k c]
      have gL : M3.2.1 = m.2.1 := by rw [← hMM]; rfl
      have g22 : ∀ j : Nat, M3.1 22 j = if j = s.2.1.length then r1 else m.1 22 j := fun j => by
        rw [← hMM, dSet_k (by decide), dSet_e, dSet_k (by decide), dSet_k (by decide)]
        by_cases q : j = s.2.1.length
        · rw [if_pos ⟨rfl, q⟩, if_pos q]
        · rw [if_neg (fun z => q z.2), if_neg q]
      have g23 : ∀ j : Nat, M3.1 23 j = if j = s.2.1.length then r2 else m.1 23 j := fun j => by
        rw [← hMM, dSet_e, dSet_k (by decide), dSet_k (by decide), dSet_k (by decide)]
        by_cases q : j = s.2.1.length
        · rw [if_pos ⟨rfl, q⟩, if_pos q]
        · rw [if_neg (fun z => q z.2), if_neg q]
      have F4 : MF m (dSet (dSet M3 24 s.2.1.length (V (n + 3)).toInt32) 20 1 (M3.1 20 1 + 1)) := (F3.set (Or.inl (by decide))).set (Or.inl (by decide))
      have e1 := ti_1
      have e99 := ti_99
      refine h_isWithin (i := n + 3) (hV.mf F4) g44 (by omega) (hl.dn (by omega)) (by omega) (fun hbd => ⟨Or.inr rfl, hQ _ _ ?_⟩) (fun hbd => ⟨Or.inl rfl, hQ _ _ ?_⟩)
      · have eR : mWire V n s = ((0, 0), (s.1, s.2.1 ++ [(n, a, b)], s.2.2)) := by
          unfold mWire bnd
          rw [ha]
          simp only
          rw [hb]
          simp only
          rw [if_neg hnw, if_pos (by omega)]
        rw [eR]
        refine ⟨F4.set (Or.inr rfl), fun _ => ⟨rfl, ?_, g445, ?_⟩, fun q => absurd rfl q⟩
        · exact d_add (k := 1) (K := 1) g44 (by decide) (by omega)
        · obtain ⟨a1, a2, a3, a4, a5, a6, a7⟩ := hM
          have ef := d_add (k := 1) (K := 1) (x := M3.1 20 1) (by rw [g20]; exact hw) (by decide) (by omega)
          refine ⟨?_, ⟨?_, ?_⟩, ?_, fun i hi => ?_, fun w hw => ?_, fun u hu => ?_, ?_⟩
          · show (M3.1 20 0).toInt = _ ∧ _
            rw [g20]; exact a1
          · rw [List.length_append]; exact ef
          · rw [List.length_append]; show s.2.1.length + 1 ≤ 10; omega
          · show (M3.1 20 2).toInt = _ ∧ _
            rw [g20]; exact a3
          · show M3.2.1 45 i = _ ∧ M3.1 21 i = _
            rw [gL, gk 21 (by decide) (by decide) (by decide)]
            exact a4 i hi
          · rw [List.length_append] at hw
            have hw : w < s.2.1.length + 1 := hw
            by_cases q : w = s.2.1.length
            · subst q
              have ew : wE (s.1, s.2.1 ++ [(n, a, b)], s.2.2) s.2.1.length = (a, b) := by
                show ((s.2.1 ++ [(n, a, b)]).getD s.2.1.length (0, 0, 0)).2 = _
                rw [getD_last]
              rw [ew]
              refine ⟨⟨?_, ?_, ?_⟩, ?_⟩
              · show (M3.1 22 s.2.1.length).toInt = _
                rw [g22, if_pos rfl]; exact hr1
              · show (M3.1 23 s.2.1.length).toInt = _
                rw [g23, if_pos rfl]; exact hr2
              · show (dSet M3 24 s.2.1.length (V (n + 3)).toInt32).1 24 s.2.1.length = (V (((s.2.1 ++ [(n, a, b)]).getD s.2.1.length (0, 0, 0)).1 + 3)).toInt32
                rw [dSet_s, getD_last]
              · show a < 7 ∧ b < 7 ∧ a ≠ b
                omega
            · have ew : wE (s.1, s.2.1 ++ [(n, a, b)], s.2.2) w = wE s w := by
                show ((s.2.1 ++ [(n, a, b)]).getD w (0, 0, 0)).2 = _
                rw [getD_app (by omega)]
                rfl
              rw [ew]
              obtain ⟨⟨b1, b2, b3⟩, b4⟩ := a5 w (by omega)
              refine ⟨⟨?_, ?_, ?_⟩, b4⟩
              · show (M3.1 22 w).toInt = _
                rw [g22, if_neg q]; exact b1
              · show (M3.1 23 w).toInt = _
                rw [g23, if_neg q]; exact b2
              · show (dSet M3 24 s.2.1.length (V (n + 3)).toInt32).1 24 w = (V (((s.2.1 ++ [(n, a, b)]).getD w (0, 0, 0)).1 + 3)).toInt32
                rw [dSet_j q, getD_app (by omega), gk 24 (by decide) (by decide) (by decide)]
                exact b3
          · show M3.2.1 46 u = _ ∧ (M3.1 25 u).toInt = _ ∧ M3.1 26 u = _ ∧ M3.1 27 u = _ ∧ M3.1 28 u = _
            rw [gL, gk 25 (by decide) (by decide) (by decide), gk 26 (by decide) (by decide) (by decide), gk 27 (by decide) (by decide) (by decide), gk 28 (by decide) (by decide) (by decide)]
            exact a6 u hu
          · show M3.1 20 3 = _ ∧ M3.1 20 4 = _ ∧ M3.1 20 5 = _ ∧ M3.1 20 6 = _
            rw [g20]; exact a7
      · have eR : mWire V n s = ((5, n + 3), s) := by
          unfold mWire bnd
          rw [ha]
          simp only
          rw [hb]
          simp only
          rw [if_neg hnw, if_neg (by omega)]
        rw [eR]
        exact ⟨F4.set (Or.inr rfl), fun q => absurd q (by first | decide | exact Nat.succ_ne_zero _), fun _ => ⟨rfl, g44, rfl, by show n + 3 ≤ 400; omega, hl.dn (show n + 3 ≤ n + 5 by omega)⟩⟩
    · have eR : mWire V n s = ((4, n + 2), s) := by
        unfold mWire
        rw [ha]
        simp only
        rw [hb]
      rw [eR]
      exact ⟨F1.set (Or.inr rfl), fun q => absurd q (by first | decide | exact Nat.succ_ne_zero _), fun _ => ⟨rfl, e2, rfl, by show n + 2 ≤ 400; omega, hl.dn (show n + 2 ≤ n + 5 by omega)⟩⟩
  · have eR : mWire V n s = ((4, n + 1), s) := by
      unfold mWire
      rw [ha]
    rw [eR]
    exact ⟨(MF.rf m).set (Or.inr rfl), fun q => absurd q (by first | decide | exact Nat.succ_ne_zero _), fun _ => ⟨rfl, hx, rfl, by show n + 1 ≤ 400; omega, hl.dn (show n + 1 ≤ n + 5 by omega)⟩⟩
end CMW
