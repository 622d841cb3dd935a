/-! THE CLASS's read, exactly, 2 -/
/-- a text's fault and where; what it tells -/
def rdR (K : Nat → Int) (V : Nat → Int64) : gR × mSt := if (gAll K 401 0 0 0 0).1 = 0 then mAll K V 401 0 mS0 else (gAll K 401 0 0 0 0, mS0)
def RD (B : Nat → Int32) (n : Nat) (r : Int32) (m m' : dM) : Prop :=
  (∀ k : Nat, 68 ≤ k → m'.1 k = m.1 k) ∧ m'.1 0 1 = 0 ∧ r.toInt = ((rdR (tK B n) (tV B n)).1.1 : Int) ∧ (m'.1 0 2).toInt = (if (rdR (tK B n) (tV B n)).1.1 = 0 then -1 else ((tP B n (rdR (tK B n) (tV B n)).1.2 : Nat) : Int)) ∧
  ((rdR (tK B n) (tV B n)).1.1 = 0 → (m'.1 2 0).toInt = ((rdR (tK B n) (tV B n)).2.1.length : Int) ∧ m'.1 51 4 = 0 ∧ m'.1 67 3 = 0) ∧ ((rdR (tK B n) (tV B n)).1.1 ≠ 0 → m'.1 2 0 = m.1 2 0 ∧ m'.1 51 4 = m.1 51 4 ∧ m'.1 67 3 = m.1 67 3)
theorem MS.of20 {V : Nat → Int64} {m m' : dM} (h : MS V mS0 m) (e : m'.1 20 = m.1 20) : MS V mS0 m' := by
  obtain ⟨a1, a2, a3, a4, a5, a6, a7⟩ := h
  unfold MS
  rw [e]
  exact ⟨a1, a2, a3, fun i hi => absurd hi (Nat.not_lt_zero i), fun i hi => absurd hi (Nat.not_lt_zero i), fun i hi => absurd hi (Nat.not_lt_zero i), a7⟩
theorem f_read {m : dM} {B : Nat → Int32} {n : Nat} {Q : Int32 → dM → Prop} (hL : GL m) (hn : (m.1 0 1).toInt = (n : Int)) (h2000 : n ≤ 2000) (hB : ∀ i : Nat, B i = if i < n then (m.1 1 i) &&& 255 else 0) (hQ : ∀ (r : Int32) (m' : dM), RD B n r m m' → Q r m') : c_X11_read_0 70 m Q := by
  refine v_X11_read_0 (Wp.deep (f_scan hn h2000 hB (fun m1 e1 l1 e38 hT => ?_)) (Nat.le_of_ble_eq_true rfl))
  have gL1 : GL (dSet m1 0 1 (0 : Int32)) := by
    unfold GL
    rw [dSet_k (by decide), dSet_k (by decide), e1 29 (by decide) (by decide) (by decide), e1 36 (by decide) (by decide) (by decide)]
    exact hL
  refine Wp.deep (l_draft gL1 (fun m2 e2 p2 gL2 hM2 => ?_)) (Nat.le_of_ble_eq_true rfl)
  have f2 : ∀ k : Nat, k ≠ 0 → (k < 20 ∨ (20 < k ∧ k < 29) ∨ k = 31 ∨ 36 < k) → m2.1 k = m1.1 k := fun k h0 hk => by rw [e2 k hk, dSet_k h0]
  have hK2 : KM (tK B n) m2 := fun i h1 h2 => by
    rw [f2 39 (by decide) (by omega)]
    exact (hT i h1 h2).1
  have hV2 : VM (tK B n) (tV B n) m2 := fun i h1 h2 => by
    refine ⟨hK2 i h1 h2, fun hk => ?_⟩
    have : m2.2.1 41 = m1.2.1 41 := by rw [p2]; rfl
    rw [this]
    exact (hT i h1 h2).2.2 hk
  have hP2 : ∀ i : Nat, i ≤ 400 → lvK (tK B n) i → (m2.1 40 i).toInt = ((tP B n i : Nat) : Int) := fun i h1 h2 => by
    rw [f2 40 (by decide) (by omega)]
    exact (hT i h1 h2).2.1
  refine Wp.deep (k_check hK2 gL2 (fun r3 m3 F3 gL3 hr3 n3 c3 hl3 => ?_)) (Nat.le_of_ble_eq_true rfl)
  -- frames up to here
  have f3 : ∀ k : Nat, (2 ≤ k ∧ k < 20) ∨ 43 < k → m3.1 k = m.1 k := fun k hk => by
    rw [F3.1 k (by omega), f2 k (by omega) (by omega), e1 k (by omega) (by omega) (by omega)]
  have t3 : m3.1 0 1 = 0 := by rw [F3.1 0 (by omega), e2 0 (by omega)]; rfl
  generalize hG : gAll (tK B n) 401 0 0 0 0 = G at hr3 n3 c3 hl3
  have fin : ∀ (r : Int32) (m' : dM), RD B n r m m' → j_X11_read_0_123 70 r m' Q := fun r m' h => v_X11_read_0_123 (hQ r m' h)
  refine v_X2_faultAt_43 ⟨fun z => Wp.deep (h_placeAt n3 hl3.1 ?_) (Nat.le_of_ble_eq_true rfl), fun z => ?_⟩
  · have zG : G.1 ≠ 0 := by omega
    have eR : rdR (tK B n) (tV B n) = (G, mS0) := by
      unfold rdR
      rw [hG, if_neg zG]
    refine ⟨fun _ => v_X11_read_0_69 ⟨fun _ => fin _ _ ?_, fun q => by exfalso; omega⟩, fun q => by exfalso; omega⟩
    unfold RD
    rw [eR]
    refine ⟨fun k hk => ?_, by rw [dSet_j (by decide)]; exact t3, hr3, ?_, fun q => absurd q zG, fun _ => ⟨?_, ?_, ?_⟩⟩
    · rw [dSet_k (by omega)]; exact f3 k (by omega)
    · rw [dSet_s, if_neg zG, F3.1 40 (by omega)]
      exact hP2 _ hl3.1 hl3.2
    · rw [dSet_k (by decide), f3 2 (by omega)]
    · rw [dSet_k (by decide), f3 51 (by omega)]
    · rw [dSet_k (by decide), f3 67 (by omega)]
  · have zG : G.1 = 0 := by omega
    have eR : rdR (tK B n) (tV B n) = mAll (tK B n) (tV B n) 401 0 mS0 := by
      unfold rdR
      rw [hG, if_pos zG]
    refine ⟨fun q => by exfalso; omega, fun _ => ?_⟩
    have fM : ∀ k : Nat, k ≠ 0 → (dSet m3 0 2 (-1 : Int32)).1 k = m3.1 k := fun k hk => dSet_k hk
    have tM : (dSet m3 0 2 (-1 : Int32)).1 0 1 = 0 := by rw [dSet_j (by decide)]; exact t3
    have lM : (dSet m3 0 2 (-1 : Int32)).2 = m3.2 := rfl
    generalize dSet m3 0 2 (-1 : Int32) = M at fM tM lM ⊢
    have hVM : VM (tK B n) (tV B n) M := hV2.of (by rw [fM 39 (by decide), F3.1 39 (by omega)]) (by rw [lM, F3.2.1])
    have hMM : MS (tV B n) mS0 M := (hM2 (tV B n)).of20 (by rw [fM 20 (by decide), F3.1 20 (by omega)])
    refine Wp.deep (h_check hVM hMM hG zG hl3.1 hl3.2 (fun r5 m5 F5 hr5 c5 bad5 ok5 => ?_)) (Nat.le_of_ble_eq_true rfl)
    rw [← eR] at hr5 c5 bad5 ok5
    have f5 : ∀ k : Nat, (2 ≤ k ∧ k < 20) ∨ 44 < k → m5.1 k = m.1 k := fun k hk => by
      rw [F5.1 k (by omega), fM k (by omega), f3 k (by omega)]
    have t5 : m5.1 0 1 = 0 := by rw [F5.1 0 (by omega)]; exact tM
    refine v_X5_faultAt_44 ⟨fun z5 => ?_, fun z5 => ?_⟩
    · have zR : (rdR (tK B n) (tV B n)).1.1 ≠ 0 := by omega
      obtain ⟨b1, b2, b3⟩ := bad5 zR
      refine Wp.deep (h_placeAt b1 b2 ?_) (Nat.le_of_ble_eq_true rfl)
      refine v_X11_read_0_69 ⟨fun _ => fin _ _ ?_, fun q => by exfalso; omega⟩
      refine ⟨fun k hk => ?_, by rw [dSet_j (by decide)]; exact t5, hr5, ?_, fun q => absurd q zR, fun _ => ⟨?_, ?_, ?_⟩⟩
      · rw [dSet_k (by omega)]; exact f5 k (by omega)
      · rw [dSet_s, if_neg zR, F5.1 40 (by omega), fM 40 (by decide), F3.1 40 (by omega)]
        exact hP2 _ b2 b3
      · rw [dSet_k (by decide), f5 2 (by omega)]
      · rw [dSet_k (by decide), f5 51 (by omega)]
      · rw [dSet_k (by decide), f5 67 (by omega)]
    · have zR : (rdR (tK B n) (tV B n)).1.1 = 0 := by omega
      have hS := ok5 zR
      refine v_X11_read_0_69 ⟨fun q => by exfalso; omega, fun _ => ?_⟩
      have gL5 : GL (dSet m5 0 2 (-1 : Int32)) := by
        unfold GL
        rw [dSet_k (by decide), dSet_k (by decide), F5.1 29 (by omega), F5.1 36 (by omega), fM 29 (by decide), fM 36 (by decide)]
        exact gL3
      refine Wp.deep (n_copy gL5 (fun m6 e6 l6 c6 => ?_)) (Nat.le_of_ble_eq_true rfl)
      refine v_X0_houseIsNew_54 (v_X10_houseIsNew_57 ?_)
      refine Wp.deep (n_begin (fun m7 e7 l7 => v_X6_clear_51 (v_X6_clearSlots_51 (v_X9_clear_67 (fin _ _ ?_))))) (Nat.le_of_ble_eq_true rfl)
      have k7 : ∀ k : Nat, k ≠ 57 → (k < 2 ∨ 50 < k) → m7.1 k = (dSet m5 0 2 (-1 : Int32)).1 k := fun k h1 hk => by rw [e7 k (by omega), dSet_k h1, e6 k (by omega)]
      refine ⟨fun k hk => ?_, ?_, hr5, ?_, fun _ => ⟨?_, rfl, rfl⟩, fun q => absurd zR q⟩
      · rw [dSet_k (by omega), dSet_k (by omega), dSet_k (by omega), dSet_k (by omega), k7 k (by omega) (by omega), dSet_k (by omega)]
        exact f5 k (by omega)
      · rw [dSet_k (by decide), dSet_k (by decide), dSet_k (by decide), dSet_k (by decide), k7 0 (by decide) (by omega), dSet_j (by decide)]
        exact t5
      · rw [dSet_k (by decide), dSet_k (by decide), dSet_k (by decide), dSet_k (by decide), k7 0 (by decide) (by omega), dSet_s, if_pos zR]
        decide
      · rw [dSet_k (by decide), dSet_k (by decide), dSet_k (by decide), dSet_k (by decide), e7 2 (by omega), dSet_k (by decide), c6 0 (by decide), dSet_k (by decide)]
        exact hS.1.1
