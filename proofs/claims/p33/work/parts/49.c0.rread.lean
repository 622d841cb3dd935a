/-! THE REFERENCE's read, in full -/
theorem lD0_1 (k : Nat) : (lD0 k).1 = 0 := Nat.zero_div 3
theorem lD0_ok (k : Nat) : lOk (lD0 k) := ⟨by rw [lD0_1]; omega, fun i hi => by
  rw [lD0_1] at hi
  have : i = 0 := by omega
  subst this
  exact wf_dfl k⟩
/-- the house told: its counts, its rows -/
def HV (V : Nat → Int64) (s : Nat) (st : mSt) (m : dM) : Prop := HM V s st m ∧ (∀ w : Nat, w < st.2.1.length → (m.1 83 (10 * s + w)).toInt = ((wE st w).1 : Int) ∧ (m.1 84 (10 * s + w)).toInt = ((wE st w).2 : Int)) ∧ (m.1 82 s).toInt = (st.2.1.length : Int) ∧ (m.1 86 s).toInt = (st.2.2.1.length : Int)
theorem HV.of {V : Nat → Int64} {s : Nat} {st : mSt} {m m' : dM} (h : HV V s st m) (hk : ∀ k : Nat, 81 ≤ k → k ≤ 94 → m'.1 k = m.1 k) : HV V s st m' := by
  obtain ⟨a, b, c, d⟩ := h
  refine ⟨a.of (fun k e => hk k (by omega) (by omega)), ?_, ?_, ?_⟩
  · rw [hk 83 (by decide) (by decide), hk 84 (by decide) (by decide)]; exact b
  · rw [hk 82 (by decide) (by decide)]; exact c
  · rw [hk 86 (by decide) (by decide)]; exact d
section RKL
variable {H : Ho} {S : Zt} {P : List Zt} {J : Nat → Zt} {m m' : dM} {s : Nat}
theorem LR.lv {k : Nat} {D : lD} (h : LR m s k D) (hk : k < 4) (hg : gLw m.1 s (m.1 95 (4 * s + k)).toInt (m.1 96 (4 * s + k)).toInt) (e : ∀ c j : Nat, lvS s c j → m'.1 c j = m.1 c j) : LR m' s k D := by
  obtain ⟨h1, h2⟩ := h
  refine ⟨h1, ?_⟩
  rw [e 95 (4 * s + k) (by unfold lvS; omega), e 96 (4 * s + k) (by unfold lvS; omega)]
  rcases h2 with h2 | ⟨b, a1, a2, a3, a5, a6, a7⟩
  · exact Or.inl h2
  · rcases hg with g | ⟨g1, g2, g3, g4⟩
    · exfalso; omega
    have eb : ∀ c i : Nat, 97 ≤ c → c ≤ 101 → i ≤ D.1 → m'.1 c (b + i) = m.1 c (b + i) := fun c i q1 q2 q3 => e c (b + i) (by unfold lvS; omega)
    have sb : ∀ (x y : Int32) (L : lC), SB m x y L → gPc m.1 s x.toInt y.toInt → SB m' x y L := fun x y L ⟨a, b1, b2, b3⟩ ⟨p1, p2, p3, p4, p5⟩ => ⟨a, b1, b2, b3.on (fun j q1 q2 => ⟨e 102 j (by unfold lvS; omega), e 103 j (by unfold lvS; omega)⟩)⟩
    refine Or.inr ⟨b, a1, a2, a3, fun i hi => ?_, ?_, ?_⟩
    · obtain ⟨c1, c2, c3, c4⟩ := a5 i hi
      obtain ⟨g5, g6⟩ := g4 (b + i) (by omega) (by omega)
      rw [eb 97 i (by omega) (by omega) (by omega), eb 98 i (by omega) (by omega) (by omega), eb 99 i (by omega) (by omega) (by omega), eb 100 i (by omega) (by omega) (by omega), eb 101 i (by omega) (by omega) (by omega)]
      exact ⟨c1, sb _ _ _ c2 (g5 c1).1, sb _ _ _ c3 (g5 c1).2, sb _ _ _ c4 g6⟩
    · rw [eb 97 D.1 (by omega) (by omega) (by omega)]; exact a6
    · obtain ⟨g5, g6⟩ := g4 (b + D.1) (by omega) (by omega)
      rw [eb 100 D.1 (by omega) (by omega) (by omega), eb 101 D.1 (by omega) (by omega) (by omega)]
      exact sb _ _ _ a7 g6
/-- a read that found a fault leaves it all -/
theorem KR.lv (h : KR H S P J s m) (hg : ∀ k : Nat, k < 4 → gLw m.1 s (m.1 95 (4 * s + k)).toInt (m.1 96 (4 * s + k)).toInt) (e : ∀ c j : Nat, lvS s c j → m'.1 c j = m.1 c j) (e5 : ∀ k : Nat, 105 ≤ k → m'.1 k = m.1 k) (e18 : m'.1 70 18 = m.1 70 18) (e61 : m'.1 70 61 = m.1 70 61) : KR H S P J s m' := by
  obtain ⟨⟨hO, hH, h86, h81, h85, h87, h91, hL⟩, hZ, hP, hS⟩ := h
  obtain ⟨⟨g1, g2⟩, ⟨g3, g4⟩, ⟨g5, g6⟩, g7⟩ := hH
  obtain ⟨o1, o2, o3, o4, o5, o6⟩ := hO
  refine ⟨⟨⟨o1, o2, o3, o4, o5, o6⟩, ⟨⟨by rw [e18]; exact g1, g2⟩, ⟨by rw [e 80 s (by unfold lvS; omega)]; exact g3, g4⟩, ⟨by rw [e 82 s (by unfold lvS; omega)]; exact g5, g6⟩, fun w hw => ?_⟩, ?_, fun f hf => ?_, fun w hw => ?_, fun u hu => ?_, ?_, fun k hk => (hL k hk).lv hk (hg k hk) e⟩, ?_, ?_, ?_⟩
  · rw [e 83 (10 * s + w) (by unfold lvS; omega), e 84 (10 * s + w) (by unfold lvS; omega)]; exact g7 w hw
  · rw [e 86 s (by unfold lvS; omega)]; exact h86
  · rw [e 81 (7 * s + f) (by unfold lvS; omega)]; exact h81 f hf
  · rw [e 85 (10 * s + w) (by unfold lvS; omega)]; exact h85 w hw
  · rw [e 87 (8 * s + u) (by unfold lvS; omega), e 88 (8 * s + u) (by unfold lvS; omega), e 89 (8 * s + u) (by unfold lvS; omega), e 90 (8 * s + u) (by unfold lvS; omega)]; exact h87 u hu
  · rw [e 91 s (by unfold lvS; omega), e 92 s (by unfold lvS; omega), e 93 s (by unfold lvS; omega), e 94 s (by unfold lvS; omega)]; exact h91
  · unfold RZ; rw [e5 107 (by decide)]; exact hZ
  · unfold RP; rw [e61, e5 111 (by decide)]; exact hP
  · unfold RSl; rw [e5 115 (by decide), e5 116 (by decide)]; exact hS
theorem LR.ofs {k : Nat} {D : lD} (h : LR m s k D) (e : ∀ c : Nat, 95 ≤ c → c ≤ 103 → m'.1 c = m.1 c) : LR m' s k D := h.of e
/-- a house just told -/
theorem RW.told {V : Nat → Int64} {st : mSt} {Ds : Nat → lD} (hs : s ≤ 1) (hM : MI V st) (h18 : (m.1 70 18).toInt = (s : Int)) (h80 : (m.1 80 s).toInt = (st.1.length : Int)) (h7 : st.1.length ≤ 7) (h10 : st.2.1.length ≤ 10) (h8 : st.2.2.1.length ≤ 8) (hv : HV V s st m) (hD : ∀ k : Nat, k < 4 → LR m s k (Ds k)) : RW (hoX V st Ds) s m := by
  obtain ⟨⟨a1, a2, a3, a4⟩, b, c, d⟩ := hv
  exact ⟨hoX_ok hM h7 h10 h8 (fun k hk => (hD k hk).1), ⟨⟨h18, hs⟩, ⟨h80, h7⟩, ⟨c, h10⟩, fun w hw => ⟨b w hw, (hM.1 w hw).1, (hM.1 w hw).2.1, (hM.1 w hw).2.2.1⟩⟩, d, a1, a2, a3, a4, hD⟩
end RKL
/-- what the reference's read has done -/
def RdQ (K : Nat → Int) (V : Nat → Int64) (L s : Nat) (H : Ho) (S : Zt) (Ps : List Zt) (J : Nat → Zt) (m' : dM) : Prop := ((rdR K V).1.1 = 0 → ∀ (R : Nat → Int32) (J' : Nat → Zt), (∀ w : Nat, w < (rdR K V).2.2.1.length → R w = (V (((rdR K V).2.2.1.getD w (0, 0, 0)).1 + 3)).toInt32) → KR (hoX V (rdR K V).2 (lAll K V 401 0 0 0 0 lD0)) (sz0 (hoX V (rdR K V).2 (lAll K V 401 0 0 0 0 lD0)) R) [] J' s m') ∧ ((rdR K V).1.1 ≠ 0 → KR H S Ps J L m')
section RRV
variable {K : Nat → Int} {V : Nat → Int64} {P : Nat → Nat} {m0 m : dM} {L s : Nat} {H : Ho} {S : Zt} {Ps : List Zt} {J : Nat → Zt}
theorem bi_0 (i : Nat) : bi (bt 0 i) = 0 := by rw [bt_0]; rfl
theorem x_134 {Q : Int32 → dM → Prop} (hL : L + s = 1) (hsd : (m0.1 70 19).toInt = (s : Int)) (h0 : ∀ k : Nat, k ≠ 70 → m0.1 k = m.1 k) (h18 : m0.1 70 18 = m.1 70 18) (h61 : m0.1 70 61 = m.1 70 61) (hK : KR H S Ps J L m) (hg : ∀ k : Nat, k < 4 → gLw m.1 L (m.1 95 (4 * L + k)).toInt (m.1 96 (4 * L + k)).toInt) (hQ : ∀ (r : Int32) (m' : dM), RcF m m' → RdQ K V L s H S Ps J m' → Q r m') {M : dM} (hT : TFv K V P m0 L s (gAll K 401 0 0 0 0) (mAll K V 401 0 mS0) (lAll K V 401 0 0 0 0 lD0) M) : j_X12_read_70_134 9 M Q := by
  have hs : s ≤ 1 := by omega
  obtain ⟨W, hS, hF, hG⟩ := hT
  have sd := hF.sd hsd
  have f := hS.fl
  have ef : (M.1 70 13).toInt = flt M := rfl
  have fr : ∀ k : Nat, k < 70 ∨ 105 ≤ k → M.1 k = m.1 k := fun k hk => by rw [hF.1.1 k (by omega), h0 k (by omega)]
  have bad : ∀ (r v : Int32), (rdR K V).1.1 ≠ 0 → Q r (dSet M 70 17 v) := fun r v b => by
    refine hQ r _ (fun k hk => by rw [dSet_k (by omega)]; exact fr k (by omega)) ⟨fun q => absurd q b, fun _ => hK.lv hg (fun c j q => ?_) (fun k hk => ?_) ?_ ?_⟩
    · have lb := lvS_k q
      rw [dSet_k (by omega), hF.2 c j q, h0 c (by omega)]
    · rw [dSet_k (by omega)]; exact fr k (by omega)
    · rw [dSet_j (by decide), hF.1.2.1 18 (by omega)]; exact h18
    · rw [dSet_j (by decide), hF.1.2.1 61 (by omega)]; exact h61
  by_cases z : (gAll K 401 0 0 0 0).1 = 0
  · have eR : rdR K V = mAll K V 401 0 mS0 := by unfold rdR; rw [if_pos z]
    obtain ⟨⟨b82, b86⟩, g0, g1, hD, b80⟩ := hG z
    obtain ⟨a1, a2, a3, a4, a5⟩ := hS.1 z
    have e15 := a5.1
    rw [← eR] at g0 g1
    by_cases w : (rdR K V).1.1 = 0
    · obtain ⟨w0, e80, nh, e82, e86⟩ := g0 w
      have hv0 : HV V s (rdR K V).2 M := ⟨nh.2, nh.1.2.2.2.2, e82, e86⟩
      have good : c_X12_begins_70 8 (dSet (dSet M 70 17 (-1 : Int32)) 70 18 (M.1 70 19)) (fun m1 => c_X12_keepsRow_70 8 m1 (fun m2 => j_X12_read_70_219 9 (0 : Int32) (dSet (dSet m2 70 61 (0 : Int32)) 70 63 (0 : Int32)) Q)) := by
        refine Wp.deep (x_begins (s := s) hs (by rw [dSet_s]; exact sd.1) b82 b86 (fun m1 B1 _ r1 _ => Wp.deep (x_keepsRow (fun m2 k2 _ r2 => ?_)) (Nat.le_of_ble_eq_true rfl))) (Nat.le_of_ble_eq_true rfl)
        have e2 : ∀ k : Nat, k ≠ 70 → k ≠ 107 → k ≠ 108 → m2.1 k = M.1 k := fun k q1 q2 q3 => by rw [k2 k q2, B1.1 k q1 q2 q3, dSet_k q1, dSet_k q1]
        have e18 : (m2.1 70 18).toInt = (s : Int) := by rw [k2 70 (by decide), B1.2.1 18 (by decide) (by decide), dSet_s]; exact sd.1
        have rr : ∀ j : Nat, j < 58 → m2.1 107 j = beR M s j := fun j hj => by
          rw [r2 j hj, r1 j hj]
          unfold beR
          rw [dSet_k (by decide), dSet_k (by decide), dSet_k (by decide), dSet_k (by decide), dSet_k (by decide), dSet_k (by decide), dSet_k (by decide), dSet_k (by decide)]
        have l219 : ∀ (f i : Nat) (x1 : Int32) (X : dM), i + f = 3 → x1.toInt = (i : Int) → (∀ k : Nat, k ≠ 115 → X.1 k = (dSet (dSet m2 70 61 (0 : Int32)) 70 63 (0 : Int32)).1 k) → (∀ j : Nat, j < i → X.1 115 j = 0) → j_X12_read_70_219 9 x1 X Q := by
          intro f
          induction f with
          | zero =>
            intro i x1 X hi h1 hX hz
            have eX : ∀ k : Nat, k ≠ 70 → k ≠ 107 → k ≠ 108 → k ≠ 115 → X.1 k = M.1 k := fun k q1 q2 q3 q4 => by rw [hX k q4, dSet_k q1, dSet_k q1, e2 k q1 q2 q3]
            refine v_X12_read_70_219 ⟨fun _ => hQ _ X (fun k hk => ?_) ⟨fun _ R J' hR => ?_, fun q => absurd w q⟩, fun q => by exfalso; omega⟩
            · rw [eX k (by omega) (by omega) (by omega) (by omega)]; exact fr k (by omega)
            · have hM := MI_rd w
              have hv1 : HV V s (rdR K V).2 X := hv0.of (fun k q1 q2 => eX k (by omega) (by omega) (by omega) (by omega))
              have x18 : (X.1 70 18).toInt = (s : Int) := by rw [hX 70 (by decide), dSet_j (by decide), dSet_j (by decide)]; exact e18
              have x80 : (X.1 80 s).toInt = ((rdR K V).2.1.length : Int) := by rw [eX 80 (by decide) (by decide) (by decide) (by decide)]; exact e80
              have x107 : ∀ j : Nat, j < 58 → X.1 107 j = beR M s j := fun j hj => by rw [hX 107 (by decide), dSet_k (by decide), dSet_k (by decide)]; exact rr j hj
              have l7 : (rdR K V).2.1.length ≤ 7 := by omega
              have l10 : (rdR K V).2.2.1.length ≤ 10 := by omega
              have l8 : (rdR K V).2.2.2.1.length ≤ 8 := by omega
              refine ⟨RW.told hs hM x18 x80 l7 l10 l8 hv1 (fun k hk => (hD k hk).lr.of (fun c q1 q2 => eX c (by omega) (by omega) (by omega) (by omega))), ⟨⟨?_, ?_, ?_⟩, fun w' hw => ?_, fun f' hf => ?_, fun u hu => ?_⟩, ⟨?_, by decide, fun k T hk => ?_⟩, fun i hi q => ?_⟩
              · rw [x107 55 (by decide)]
                unfold beR
                rw [if_neg (by omega), if_neg (by decide), if_neg (by omega)]
                rfl
              · rw [x107 56 (by decide)]
                unfold beR
                rw [if_neg (by omega), if_pos rfl]
                exact hv0.1.2.2.2.2.2.1
              · rw [x107 57 (by decide)]
                unfold beR
                rw [if_neg (by omega), if_neg (by decide), if_neg (by omega)]
                rfl
              · have hw : w' < (rdR K V).2.2.1.length := hw
                rw [x107 w' (by omega), x107 (10 + w') (by omega), x107 (20 + w') (by omega), x107 (30 + w') (by omega)]
                unfold beR
                rw [if_pos (by omega), if_neg (by omega), if_neg (by omega), if_neg (by omega), if_neg (by omega), if_neg (by omega), if_neg (by omega), if_neg (by omega), if_neg (by omega), if_neg (by omega)]
                exact ⟨by rw [hv0.1.2.1 w' hw]; exact (hR w' hw).symm, (bi_0 w').symm, rfl, (bi_0 w').symm⟩
              · have hf : f' < (rdR K V).2.1.length := hf
                rw [x107 (40 + f') (by omega)]
                unfold beR
                rw [if_neg (by omega), if_neg (by omega), if_neg (by omega)]
                rfl
              · have hu : u < (rdR K V).2.2.2.1.length := hu
                rw [x107 (47 + u) (by omega)]
                unfold beR
                rw [if_neg (by omega), if_neg (by omega), if_pos (by omega)]
                show (1 : Int32) = bi (bt (b1 (rdR K V).2.2.2.1.length - 1) u)
                rw [bt_all l8, decide_eq_true hu]
                rfl
              · rw [hX 70 (by decide), dSet_j (by decide), dSet_s]; rfl
              · cases hk
              · exact absurd (by rw [hz i (by omega)]; rfl) q
          | succ f ih =>
            intro i x1 X hi h1 hX hz
            refine v_X12_read_70_219 ⟨fun q => by exfalso; omega, fun _ => ⟨by omega, ih (i + 1) _ _ (by omega) (d_inc h1 (by omega)) (fun k hk => by rw [dSet_k hk]; exact hX k hk) (fun j hj => ?_)⟩⟩
            rw [d_cn h1]
            by_cases q : j = i
            · rw [q, dSet_s]
            · rw [dSet_j q]; exact hz j (by omega)
        exact l219 3 0 _ _ rfl (by decide) (fun _ _ => rfl) (fun j hj => by omega)
      exact v_X12_read_70_134 ⟨fun _ => ⟨fun _ => ⟨fun _ => ⟨fun _ => good, fun q => by exfalso; omega⟩, fun q => by exfalso; omega⟩, fun q => by exfalso; omega⟩, fun q => by exfalso; omega⟩
    · have eW := g1 w
      have w1 : W.1 ≠ 0 := by rw [eW]; exact w
      rw [eW] at e15
      have bd := bad (M.1 70 15) (M.1 70 16) w
      exact v_X12_read_70_134 ⟨fun _ => ⟨fun q => by exfalso; omega, fun _ => ⟨fun _ => ⟨fun q => by exfalso; omega, fun _ => bd⟩, fun q => by exfalso; omega⟩⟩, fun q => by exfalso; omega⟩
  · have eR : rdR K V = (gAll K 401 0 0 0 0, mS0) := by unfold rdR; rw [if_neg z]
    obtain ⟨a1, a2⟩ := hS.2.1 z
    have bd := bad (M.1 70 13) (M.1 70 14) (by rw [eR]; exact z)
    exact v_X12_read_70_134 ⟨fun q => by exfalso; omega, fun _ => ⟨fun q => by exfalso; omega, fun _ => bd⟩⟩
theorem x_read {m : dM} {B : Nat → Int32} {n : Nat} {Q : Int32 → dM → Prop} (HV9 : ∀ i : Nat, tK B n i = 23 → 0 ≤ (tV B n i).toInt32.toInt ∧ (tV B n i).toInt32.toInt ≤ 9999) (hL : L + s = 1) (h18 : (m.1 70 18).toInt = (L : Int)) (hn : (m.1 70 2).toInt = (n : Int)) (h2000 : n ≤ 2000) (hB : ∀ i : Nat, B i = if i < n then (m.1 71 i) &&& 255 else 0) (hKR : KR H S Ps J L m) (hg : ∀ k : Nat, k < 4 → gLw m.1 L (m.1 95 (4 * L + k)).toInt (m.1 96 (4 * L + k)).toInt) (hQ : ∀ (r : Int32) (m' : dM), RcF m m' → RdQ (tK B n) (tV B n) L s H S Ps J m' → Q r m') : c_X12_read_70 9 m Q := by
  have hV9 : ∀ i : Nat, tK B n i = 23 → 0 ≤ (tV B n i).toInt32.toInt ∧ (tV B n i).toInt32.toInt ≤ 9999 := HV9
  have hs : s ≤ 1 := by omega
  have fs := dSubE (X := 1) (Y := (L : Int)) (x := (1 : Int32)) (y := m.1 70 18) (by decide) h18 (by omega) (by omega)
  have l10 : ∀ (f i : Nat) (x1 : Int32) (M : dM), i + f = n → x1.toInt = (i : Int) → (∀ k : Nat, k ≠ 70 → k ≠ 72 → M.1 k = m.1 k) → (∀ j : Nat, j ≠ 4 → M.1 70 j = m.1 70 j) → M.1 70 4 = m.1 70 2 → M.2 = m.2 → (∀ j : Nat, j < i → M.1 72 j = (m.1 71 j).toInt8.toInt32) → j_X12_read_70_10 9 x1 M Q := by
    intro f
    induction f with
    | succ f ih =>
      intro i x1 M hi h1 a b c d e
      have e4 : (M.1 70 4).toInt = (n : Int) := by rw [c]; exact hn
      refine v_X12_read_70_10 ⟨fun q => by exfalso; omega, fun _ => ⟨by omega, by omega, ih (i + 1) _ _ (by omega) (d_inc h1 (by omega)) (fun k e1 e2 => by rw [dSet_k e2]; exact a k e1 e2) (fun j e1 => by rw [dSet_k (by decide)]; exact b j e1) (by rw [dSet_k (by decide)]; exact c) d (fun j hj => ?_)⟩⟩
      rw [d_cn h1]
      by_cases q : j = i
      · rw [q, dSet_s, a 71 (by decide) (by decide)]
      · rw [dSet_j q]; exact e j (by omega)
    | zero =>
      intro i x1 M hi h1 a b c d e
      have e4 : (M.1 70 4).toInt = (n : Int) := by rw [c]; exact hn
      refine v_X12_read_70_10 ⟨fun _ => ?_, fun q => by exfalso; omega⟩
      have hRX : RX B n (dSet M 70 2 (0 : Int32)) := by
        refine ⟨by rw [dSet_j (by decide)]; exact e4, h2000, fun j => ?_⟩
        rw [hB j, dSet_k (by decide)]
        by_cases q : j < n
        · rw [if_pos q, if_pos q, e j (by omega), i8_and]
        · rw [if_neg q, if_neg q]
      refine Wp.deep (g_cutsUp hRX (fun m1 hF hK => ?_)) (Nat.le_of_ble_eq_true rfl)
      have k1 : ∀ k : Nat, k ≠ 70 → k ≠ 72 → k ≠ 73 → k ≠ 74 → k ≠ 75 → m1.1 k = m.1 k := fun k e1 e2 e3 e4 e5 => by rw [hF.1 k e1 e3 e4 e5, dSet_k e1, a k e1 e2]
      have j1 : ∀ j : Nat, j ≠ 2 → j ≠ 4 → j ≠ 10 → m1.1 70 j = m.1 70 j := fun j e1 e2 e3 => by rw [hF.2.1 j e3, dSet_j e1, b j e2]
      have j2 : m1.1 70 2 = 0 := by rw [hF.2.1 2 (by decide), dSet_s]
      have e18 : m1.1 70 18 = m.1 70 18 := j1 18 (by decide) (by decide) (by decide)
      rw [e18]
      have X70 : ∀ k : Nat, k ≠ 70 → (dSet (dSet (dSet (dSet (dSet (dSet m1 70 11 (0 : Int32)) 70 12 (0 : Int32)) 70 13 (0 : Int32)) 70 15 (0 : Int32)) 70 19 ((1 : Int32) - (m.1 70 18))) 70 20 (0 : Int32)).1 k = m1.1 k := fun k hk => by rw [dSet_k hk, dSet_k hk, dSet_k hk, dSet_k hk, dSet_k hk, dSet_k hk]
      have Xj : ∀ j : Nat, j ≠ 11 → j ≠ 12 → j ≠ 13 → j ≠ 15 → j ≠ 19 → j ≠ 20 → (dSet (dSet (dSet (dSet (dSet (dSet m1 70 11 (0 : Int32)) 70 12 (0 : Int32)) 70 13 (0 : Int32)) 70 15 (0 : Int32)) 70 19 ((1 : Int32) - (m.1 70 18))) 70 20 (0 : Int32)).1 70 j = m1.1 70 j := fun j b1 b2 b3 b4 b5 b6 => by rw [dSet_j b6, dSet_j b5, dSet_j b4, dSet_j b3, dSet_j b2, dSet_j b1]
      have Xz : ∀ j : Nat, j = 11 ∨ j = 12 ∨ j = 13 ∨ j = 15 ∨ j = 20 → ((dSet (dSet (dSet (dSet (dSet (dSet m1 70 11 (0 : Int32)) 70 12 (0 : Int32)) 70 13 (0 : Int32)) 70 15 (0 : Int32)) 70 19 ((1 : Int32) - (m.1 70 18))) 70 20 (0 : Int32)).1 70 j).toInt = 0 := fun j hj => by rcases hj with rfl | rfl | rfl | rfl | rfl <;> rfl
      have X19 : (dSet (dSet (dSet (dSet (dSet (dSet m1 70 11 (0 : Int32)) 70 12 (0 : Int32)) 70 13 (0 : Int32)) 70 15 (0 : Int32)) 70 19 ((1 : Int32) - (m.1 70 18))) 70 20 (0 : Int32)).1 70 19 = (1 : Int32) - (m.1 70 18) := rfl
      have X2 : (dSet (dSet (dSet (dSet (dSet (dSet m1 70 11 (0 : Int32)) 70 12 (0 : Int32)) 70 13 (0 : Int32)) 70 15 (0 : Int32)) 70 19 ((1 : Int32) - (m.1 70 18))) 70 20 (0 : Int32)).2 = m1.2 := rfl
      generalize dSet (dSet (dSet (dSet (dSet (dSet m1 70 11 (0 : Int32)) 70 12 (0 : Int32)) 70 13 (0 : Int32)) 70 15 (0 : Int32)) 70 19 ((1 : Int32) - (m.1 70 18))) 70 20 (0 : Int32) = X at X70 Xj Xz X19 X2 ⊢
      refine Wp.deep (x_plain (s := s) (m := X) hs (by omega) (fun m2 p1 p2 p3 p5 p4 p6 => ?_)) (Nat.le_of_ble_eq_true rfl)
      have e70 : m2.1 70 = X.1 70 := p1 70 (by decide) (by decide) (by decide) (by decide)
      have v19 : (m2.1 70 19).toInt = (s : Int) := by rw [e70, X19]; omega
      have fb := dMulE (X := 130) (Y := (s : Int)) (x := (130 : Int32)) (y := m2.1 70 19) (by decide) v19 (by omega) (by omega)
      have fc := dMulE (X := 420) (Y := (s : Int)) (x := (420 : Int32)) (y := m2.1 70 19) (by decide) v19 (by omega) (by omega)
      have Y70 : ∀ k : Nat, k ≠ 70 → (dSet (dSet m2 70 40 ((130 : Int32) * (m2.1 70 19))) 70 46 ((420 : Int32) * (m2.1 70 19))).1 k = m2.1 k := fun k hk => by rw [dSet_k hk, dSet_k hk]
      have Yj : ∀ j : Nat, j ≠ 40 → j ≠ 46 → (dSet (dSet m2 70 40 ((130 : Int32) * (m2.1 70 19))) 70 46 ((420 : Int32) * (m2.1 70 19))).1 70 j = X.1 70 j := fun j b1 b2 => by rw [dSet_j b2, dSet_j b1, e70]
      have Yb : brs (dSet (dSet m2 70 40 ((130 : Int32) * (m2.1 70 19))) 70 46 ((420 : Int32) * (m2.1 70 19))) = 130 * s := fb
      have Yc : cds (dSet (dSet m2 70 40 ((130 : Int32) * (m2.1 70 19))) 70 46 ((420 : Int32) * (m2.1 70 19))) = 420 * s := fc
      have Y2 : (dSet (dSet m2 70 40 ((130 : Int32) * (m2.1 70 19))) 70 46 ((420 : Int32) * (m2.1 70 19))).2 = m1.2 := by show m2.2 = m1.2; rw [p2, X2]
      generalize dSet (dSet m2 70 40 ((130 : Int32) * (m2.1 70 19))) 70 46 ((420 : Int32) * (m2.1 70 19)) = Y at Y70 Yj Yb Yc Y2 ⊢
      have Yz : ∀ j : Nat, j = 11 ∨ j = 12 ∨ j = 13 ∨ j = 15 ∨ j = 20 → (Y.1 70 j).toInt = 0 := fun j hj => by rw [Yj j (by omega) (by omega)]; exact Xz j hj
      have t0 : tt Y = 0 := Yz 11 (by decide)
      have f0 : flt Y = 0 := Yz 13 (by decide)
      have o0 : opn Y = 0 := Yz 12 (by decide)
      have n0 : nms Y = 0 := Yz 20 (by decide)
      have w0 := Yz 15 (by decide)
      have Yk : ∀ k : Nat, k ≠ 70 → k ≠ 72 → k ≠ 73 → k ≠ 74 → k ≠ 75 → k ≠ 80 → k ≠ 82 → k ≠ 86 → ¬ (91 ≤ k ∧ k ≤ 96) → Y.1 k = m.1 k := fun k b1 b2 b3 b4 b5 b6 b7 b8 b9 => by rw [Y70 k b1, p1 k b6 b7 b8 b9, X70 k b1, k1 k b1 b2 b3 b4 b5]
      have Yt : ∀ k : Nat, 73 ≤ k → k ≤ 75 → Y.1 k = m1.1 k := fun k b1 b2 => by rw [Y70 k (by omega), p1 k (by omega) (by omega) (by omega) (by omega), X70 k (by omega)]
      have hRM : RM (tK B n) (tV B n) (tP B n) Y := fun i hi hl => by
        have := hK i hi hl
        unfold RK at this
        rw [Yt 73 (by decide) (by decide), Yt 74 (by decide) (by decide), Yt 75 (by decide) (by decide), Y2]
        exact this
      have Y80 : (Y.1 80 s).toInt = 0 := by rw [Y70 80 (by decide), p4.1.1]; decide
      have Y82 : (Y.1 82 s).toInt = 0 := by rw [Y70 82 (by decide), p4.1.2.1]; decide
      have Y86 : (Y.1 86 s).toInt = 0 := by rw [Y70 86 (by decide), p4.1.2.2]; decide
      -- m0: as it was, its tape empty, the side of the text told
      have hTI : TIv (tK B n) (tV B n) (tP B n) (dSet (dSet m 70 2 (0 : Int32)) 70 19 ((1 : Int32) - (m.1 70 18))) L s 0 0 0 0 (0, 0) mS0 lD0 Y := by
        refine ⟨⟨fun _ => ⟨f0, t0, by decide, fun j hj => by exfalso; exact Nat.not_lt_zero j hj, w0, fun q => absurd rfl q⟩, fun q => absurd rfl q, by omega⟩, hRM, ⟨⟨fun k hk => ?_, fun j hj => ?_, ?_⟩, fun c j q => ?_⟩, ⟨Y80, Y82, Y86, n0, by decide, by decide, by decide⟩, ⟨o0, by omega, by omega⟩, fun q => absurd rfl q, fun _ => ⟨⟨⟨fun k hk => ?_, fun i hi => absurd hi (Nat.not_lt_zero i), fun i hi => absurd hi (Nat.not_lt_zero i), fun i j hi => absurd hi (Nat.not_lt_zero i), fun i hi => absurd hi (Nat.not_lt_zero i)⟩, fun i hi => absurd hi (Nat.not_lt_zero i), fun i hi => absurd hi (Nat.not_lt_zero i), fun i hi => absurd hi (Nat.not_lt_zero i), by rw [Y70 91 (by decide), p4.2.1]; rfl, by rw [Y70 92 (by decide), p4.2.2.1]; rfl, by rw [Y70 93 (by decide), p4.2.2.2.1]; rfl, by rw [Y70 94 (by decide), p4.2.2.2.2]; rfl⟩, rfl, rfl, rfl⟩, fun k hk => ?_⟩
        · rw [dSet_k (by omega), dSet_k (by omega)]
          exact Yk k (by omega) (by omega) (by omega) (by omega) (by omega) (by omega) (by omega) (by omega) (by omega)
        · by_cases q19 : j = 19
          · rw [q19, dSet_s, Yj 19 (by decide) (by decide), X19]
          · rw [dSet_j q19, Yj j (by omega) (by omega), Xj j (by omega) (by omega) (by omega) (by omega) q19 (by omega)]
            by_cases q2 : j = 2
            · rw [q2, dSet_s, j2]
            · rw [dSet_j q2, j1 j q2 (by omega) (by omega)]
        · rw [dSet_k (by decide), dSet_k (by decide), Y70 80 (by decide), p3 80 L (by decide) (by omega), X70 80 (by decide), k1 80 (by decide) (by decide) (by decide) (by decide) (by decide)]
        · have lb := lvS_k q
          rw [dSet_k (by omega), dSet_k (by omega), Y70 c (by omega)]
          have e1 : m2.1 c j = X.1 c j := by
            by_cases c1 : c < 95
            · by_cases cj : j = s
              · rw [p1 c (by unfold lvS at q; omega) (by unfold lvS at q; omega) (by unfold lvS at q; omega) (by unfold lvS at q; omega)]
              · exact p3 c j c1 cj
            · by_cases c2 : c = 95 ∨ c = 96
              · exact p5 c j c2 (by unfold lvS at q; omega)
              · rw [p1 c (by omega) (by omega) (by omega) (by omega)]
          rw [e1, X70 c (by omega), k1 c (by omega) (by omega) (by omega) (by omega) (by omega)]
        · exact absurd hk (Nat.not_lt_zero k)
        · refine ⟨lD0_ok k, Or.inl ⟨?_, lD0_1 k, rfl⟩⟩
          rw [Y70 95 (by decide), Y70 96 (by decide), (p6 k hk).1, (p6 k hk).2]
      have sd0 : ((dSet (dSet m 70 2 (0 : Int32)) 70 19 ((1 : Int32) - (m.1 70 18))).1 70 19).toInt = (s : Int) := by rw [dSet_s]; omega
      refine x_112 hL sd0 (tK_vk B n) (fun i j hij hl => tP_mono hij hl) hV9 (fun M' hM' => x_134 hL sd0 (fun k hk => by rw [dSet_k (by omega), dSet_k (by omega)]) (by rw [dSet_j (by decide), dSet_j (by decide)]) (by rw [dSet_j (by decide), dSet_j (by decide)]) hKR hg hQ hM') 401 0 0 0 0 (0, 0) mS0 lD0 Y (by omega) hTI rfl rfl (fun _ => rfl) (fun q => absurd rfl q)
  refine v_X12_read_70 (l10 n 0 _ _ (by omega) (by decide) (fun k e1 e2 => dSet_k e1) (fun j e1 => dSet_j e1) (dSet_s _ _ _ _) rfl (fun j hj => by omega))
end RRV
