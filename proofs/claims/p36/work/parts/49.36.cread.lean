section
/-! THE CLASS's read, exactly, 2 -/
/-- a text's fault and where; what it tells -/
def rdR (K : Nat → Int) (V : Nat → Int64) : gR × mSt := if (gAll K 401 0 0 0 0).1 = 0 then mAll K V 401 0 mS0 else (gAll K 401 0 0 0 0, mS0)
def RD (B : Nat → Int32) (n : Nat) (r : Int32) (m m' : dM) : Prop :=
  (∀ k : Nat, 70 ≤ k → m'.1 k = m.1 k) ∧ m'.1 0 1 = 0 ∧ r.toInt = ((rdR (tK B n) (tV B n)).1.1 : Int) ∧ (m'.1 0 2).toInt = (if (rdR (tK B n) (tV B n)).1.1 = 0 then -1 else ((tP B n (rdR (tK B n) (tV B n)).1.2 : Nat) : Int)) ∧
  ((rdR (tK B n) (tV B n)).1.1 = 0 → (m'.1 2 0).toInt = ((rdR (tK B n) (tV B n)).2.1.length : Int) ∧ m'.1 51 4 = 0 ∧ m'.1 67 3 = 0) ∧ ((rdR (tK B n) (tV B n)).1.1 ≠ 0 → m'.1 2 0 = m.1 2 0 ∧ m'.1 51 4 = m.1 51 4 ∧ m'.1 67 3 = m.1 67 3)
theorem MS.of20 {V : Nat → Int64} {m m' : dM} (h : MS V mS0 m) (e : m'.1 20 = m.1 20) : MS V mS0 m' := by
  obtain ⟨a1, a2, a3, a4, a5, a6, a7⟩ := h
  unfold MS
  rw [e]
  exact ⟨a1, a2, a3, fun i hi => absurd hi (Nat.not_lt_zero i), fun i hi => absurd hi (Nat.not_lt_zero i), fun i hi => absurd hi (Nat.not_lt_zero i), a7⟩
theorem f_read {m : dM} {B : Nat → Int32} {n : Nat} {Q : Int32 → dM → Prop} (hL : GL m) (hn : (m.1 0 1).toInt = (n : Int)) (h2000 : n ≤ 2000) (hB : ∀ i : Nat, B i = if i < n then (m.1 1 i) &&& 255 else 0) (hQ : ∀ (r : Int32) (m' : dM), RD B n r m m' → Q r m') : c_X11_read_0 70 m Q := by
  refine v_X11_read_0 (Wp.deep (f_scan hn h2000 hB (fun m1 e1 l1 e38 hT => ?_)) (Nat.le_of_ble_eq_true rfl))
  have gL1 : GL (dSet m1 0 1 (0 : Int32)) := by
    unfold GL
    rw [dSet_k (by decide), dSet_k (by decide), e1 29 (by decide) (by decide) (by decide), e1 36 (by decide) (by decide) (by decide)]
    exact hL
  refine Wp.deep (l_draft gL1 (fun m2 e2 p2 gL2 hM2 => ?_)) (Nat.le_of_ble_eq_true rfl)
  have f2 : ∀ k : Nat, k ≠ 0 → (k < 20 ∨ (20 < k ∧ k < 29) ∨ k = 31 ∨ 36 < k) → m2.1 k = m1.1 k := fun k h0 hk => by rw [e2 k hk, dSet_k h0]
  have hK2 : KM (tK B n) m2 := fun i h1 h2 => by
    rw [f2 39 (by decide) (by omega)]
    exact (hT i h1 h2).1
  have hV2 : VM (tK B n) (tV B n) m2 := fun i h1 h2 => by
    refine ⟨hK2 i h1 h2, fun hk => ?_⟩
    have : m2.2.1 41 = m1.2.1 41 := by rw [p2]; rfl
    rw [this]
    exact (hT i h1 h2).2.2 hk
  have hP2 : ∀ i : Nat, i ≤ 400 → lvK (tK B n) i → (m2.1 40 i).toInt = ((tP B n i : Nat) : Int) := fun i h1 h2 => by
    rw [f2 40 (by decide) (by omega)]
    exact (hT i h1 h2).2.1
  refine Wp.deep (k_check hK2 gL2 (fun r3 m3 F3 gL3 hr3 n3 c3 hl3 => ?_)) (Nat.le_of_ble_eq_true rfl)
  -- frames up to here
  have f3 : ∀ k : Nat, (2 ≤ k ∧ k < 20) ∨ 43 < k → m3.1 k = m.1 k := fun k hk => by
    rw [F3.1 k (by omega), f2 k (by omega) (by omega), e1 k (by omega) (by omega) (by omega)]
  have t3 : m3.1 0 1 = 0 := by rw [F3.1 0 (by omega), e2 0 (by omega)]; rfl
  generalize hG : gAll (tK B n) 401 0 0 0 0 = G at hr3 n3 c3 hl3
  have fin : ∀ (r : Int32) (m' : dM), RD B n r m m' → j_X11_read_0_123 70 r m' Q := fun r m' h => v_X11_read_0_123 (hQ r m' h)
  refine v_X2_faultAt_43 ⟨fun z => Wp.deep (h_placeAt n3 hl3.1 ?_) (Nat.le_of_ble_eq_true rfl), fun z => ?_⟩
  · have zG : G.1 ≠ 0 := by omega
    have eR : rdR (tK B n) (tV B n) = (G, mS0) := by
      unfold rdR
      rw [hG, if_neg zG]
    refine ⟨fun _ => v_X11_read_0_69 ⟨fun _ => fin _ _ ?_, fun q => by exfalso; omega⟩, fun q => by exfalso; omega⟩
    unfold RD
    rw [eR]
    refine ⟨fun k hk => ?_, by rw [dSet_j (by decide)]; exact t3, hr3, ?_, fun q => absurd q zG, fun _ => ⟨?_, ?_, ?_⟩⟩
    · rw [dSet_k (by omega)]; exact f3 k (by omega)
    · rw [dSet_s, if_neg zG, F3.1 40 (by omega)]
      exact hP2 _ hl3.1 hl3.2
    · rw [dSet_k (by decide), f3 2 (by omega)]
    · rw [dSet_k (by decide), f3 51 (by omega)]
    · rw [dSet_k (by decide), f3 67 (by omega)]
  · have zG : G.1 = 0 := by omega
    have eR : rdR (tK B n) (tV B n) = mAll (tK B n) (tV B n) 401 0 mS0 := by
      unfold rdR
      rw [hG, if_pos zG]
    refine ⟨fun q => by exfalso; omega, fun _ => ?_⟩
    have fM : ∀ k : Nat, k ≠ 0 → (dSet m3 0 2 (-1 : Int32)).1 k = m3.1 k := fun k hk => dSet_k hk
    have tM : (dSet m3 0 2 (-1 : Int32)).1 0 1 = 0 := by rw [dSet_j (by decide)]; exact t3
    have lM : (dSet m3 0 2 (-1 : Int32)).2 = m3.2 := rfl
    generalize dSet m3 0 2 (-1 : Int32) = M at fM tM lM ⊢
    have hVM : VM (tK B n) (tV B n) M := hV2.of (by rw [fM 39 (by decide), F3.1 39 (by omega)]) (by rw [lM, F3.2.1])
    have hMM : MS (tV B n) mS0 M := (hM2 (tV B n)).of20 (by rw [fM 20 (by decide), F3.1 20 (by omega)])
    refine Wp.deep (h_check hVM hMM hG zG hl3.1 hl3.2 (fun r5 m5 F5 hr5 c5 bad5 ok5 => ?_)) (Nat.le_of_ble_eq_true rfl)
    rw [← eR] at hr5 c5 bad5 ok5
    have f5 : ∀ k : Nat, (2 ≤ k ∧ k < 20) ∨ 44 < k → m5.1 k = m.1 k := fun k hk => by
      rw [F5.1 k (by omega), fM k (by omega), f3 k (by omega)]
    have t5 : m5.1 0 1 = 0 := by rw [F5.1 0 (by omega)]; exact tM
    refine v_X5_faultAt_44 ⟨fun z5 => ?_, fun z5 => ?_⟩
    · have zR : (rdR (tK B n) (tV B n)).1.1 ≠ 0 := by omega
      obtain ⟨b1, b2, b3⟩ := bad5 zR
      refine Wp.deep (h_placeAt b1 b2 ?_) (Nat.le_of_ble_eq_true rfl)
      refine v_X11_read_0_69 ⟨fun _ => fin _ _ ?_, fun q => by exfalso; omega⟩
      refine ⟨fun k hk => ?_, by rw [dSet_j (by decide)]; exact t5, hr5, ?_, fun q => absurd q zR, fun _ => ⟨?_, ?_, ?_⟩⟩
      · rw [dSet_k (by omega)]; exact f5 k (by omega)
      · rw [dSet_s, if_neg zR, F5.1 40 (by omega), fM 40 (by decide), F3.1 40 (by omega)]
        exact hP2 _ b2 b3
      · rw [dSet_k (by decide), f5 2 (by omega)]
      · rw [dSet_k (by decide), f5 51 (by omega)]
      · rw [dSet_k (by decide), f5 67 (by omega)]
    · have zR : (rdR (tK B n) (tV B n)).1.1 = 0 := by omega
      have hS := ok5 zR
      refine v_X11_read_0_69 ⟨fun q => by exfalso; omega, fun _ => ?_⟩
      have gL5 : GL (dSet m5 0 2 (-1 : Int32)) := by
        unfold GL
        rw [dSet_k (by decide), dSet_k (by decide), F5.1 29 (by omega), F5.1 36 (by omega), fM 29 (by decide), fM 36 (by decide)]
        exact gL3
      refine Wp.deep (n_copy gL5 (fun m6 e6 l6 c6 => ?_)) (Nat.le_of_ble_eq_true rfl)
      refine v_X0_houseIsNew_54 (v_X10_houseIsNew_57 ?_)
      refine Wp.deep (n_begin (fun m7 e7 l7 => v_X6_clear_51 (v_X6_clearSlots_51 (v_X9_clear_67 (fin _ _ ?_))))) (Nat.le_of_ble_eq_true rfl)
      have k7 : ∀ k : Nat, k ≠ 57 → (k < 2 ∨ 50 < k) → m7.1 k = (dSet m5 0 2 (-1 : Int32)).1 k := fun k h1 hk => by rw [e7 k (by omega), dSet_k h1, e6 k (by omega)]
      refine ⟨fun k hk => ?_, ?_, hr5, ?_, fun _ => ⟨?_, rfl, rfl⟩, fun q => absurd zR q⟩
      · rw [dSet_k (by omega), dSet_k (by omega), dSet_k (by omega), dSet_k (by omega), k7 k (by omega) (by omega), dSet_k (by omega)]
        exact f5 k (by omega)
      · rw [dSet_k (by decide), dSet_k (by decide), dSet_k (by decide), dSet_k (by decide), k7 0 (by decide) (by omega), dSet_j (by decide)]
        exact t5
      · rw [dSet_k (by decide), dSet_k (by decide), dSet_k (by decide), dSet_k (by decide), k7 0 (by decide) (by omega), dSet_s, if_pos zR]
        decide
      · rw [dSet_k (by decide), dSet_k (by decide), dSet_k (by decide), dSet_k (by decide), e7 2 (by omega), dSet_k (by decide), c6 0 (by decide), dSet_k (by decide)]
        exact hS.1.1
end
section
/-! THE REFERENCE's parser, exactly: its pieces -/
def vk (c : Int) : Prop := (0 ≤ c ∧ c ≤ 25) ∨ c = 40 ∨ c = 41 ∨ c = 42 ∨ c = 43 ∨ c = 45 ∨ c = 47 ∨ c = 59 ∨ c = 60 ∨ c = 61
def kr (x : Int) : Int := if 20 ≤ x then x - 20 else if x = 1 then 22 else if x = 2 then 23 else if x = 0 then 24 else if x = 3 then 25 else if x = 4 then 59 else if x = 5 then 61 else if x = 6 then 40 else if x = 7 then 41 else if x = 8 then 43 else if x = 9 then 45 else if x = 10 then 42 else if x = 13 then 60 else 47
theorem vk_cs {c : Int} (h : vk c) : (0 ≤ c ∧ c ≤ 21) ∨ c = 22 ∨ c = 23 ∨ c = 24 ∨ c = 25 ∨ c = 40 ∨ c = 41 ∨ c = 42 ∨ c = 43 ∨ c = 45 ∨ c = 47 ∨ c = 59 ∨ c = 60 ∨ c = 61 := by
  unfold vk at h
  rcases h with h | h | h | h | h | h | h | h | h | h <;> omega
theorem kr_rk {c : Int} (h : vk c) : kr (rk c) = c := by
  rcases vk_cs h with q | rfl | rfl | rfl | rfl | rfl | rfl | rfl | rfl | rfl | rfl | rfl | rfl | rfl
  · unfold rk
    rw [if_pos (by omega)]
    unfold kr
    rw [if_pos (by omega)]
    omega
  all_goals decide
theorem rk_inj {a b : Int} (ha : vk a) (hb : vk b) : rk a = rk b ↔ a = b := ⟨fun e => by rw [← kr_rk ha, e, kr_rk hb], fun e => by rw [e]⟩
theorem rk_rg {c : Int} (h : vk c) : ((20 ≤ rk c ∧ rk c ≤ 41) → (0 ≤ c ∧ c ≤ 21)) ∧ (0 ≤ c ∧ c ≤ 21 → rk c = 20 + c) ∧ (0 ≤ rk c ∧ rk c ≤ 41) := by
  rcases vk_cs h with q | rfl | rfl | rfl | rfl | rfl | rfl | rfl | rfl | rfl | rfl | rfl | rfl | rfl
  · have e : rk c = 20 + c := by unfold rk; rw [if_pos (by omega)]
    rw [e]
    exact ⟨fun _ => q, fun _ => rfl, by omega⟩
  all_goals decide
def plc (m : dM) : Int := (m.1 70 14).toInt
def Cx (m m' : dM) : Prop := (∀ k : Nat, k ≠ 70 → m'.1 k = m.1 k) ∧ (∀ j : Nat, j ≠ 11 → j ≠ 13 → j ≠ 14 → j ≠ 15 → j ≠ 16 → m'.1 70 j = m.1 70 j) ∧ m'.2 = m.2
theorem Cx.rf (m : dM) : Cx m m := ⟨fun _ _ => rfl, fun _ _ _ _ _ _ => rfl, rfl⟩
theorem Cx.tr {a b c : dM} (h : Cx a b) (h' : Cx b c) : Cx a c := ⟨fun k q => (h'.1 k q).trans (h.1 k q), fun j a1 a2 a3 a4 a5 => (h'.2.1 j a1 a2 a3 a4 a5).trans (h.2.1 j a1 a2 a3 a4 a5), h'.2.2.trans h.2.2⟩
def RM (K : Nat → Int) (V : Nat → Int64) (P : Nat → Nat) (m : dM) : Prop := ∀ i : Nat, i ≤ 400 → lvK K i → (m.1 73 i).toInt = rk (K i) ∧ (m.1 74 i).toInt = (P i : Int) ∧ (K i ≤ 22 → m.2.1 76 i = V i) ∧ (K i = 23 → m.1 75 i = (V i).toInt32)
def WR (P : Nat → Nat) (m : dM) (W : gR) : Prop := (m.1 70 15).toInt = (W.1 : Int) ∧ (W.1 ≠ 0 → (m.1 70 16).toInt = (P W.2 : Int))
/-- where the reader stands: no fault, and at which token; or its fault and where -/
def ST (K : Nat → Int) (P : Nat → Nat) (m : dM) (r W : gR) : Prop := (r.1 = 0 → flt m = 0 ∧ tt m = (r.2 : Int) ∧ r.2 ≤ 400 ∧ lvK K r.2 ∧ WR P m W) ∧ (r.1 ≠ 0 → flt m = (r.1 : Int) ∧ plc m = (P r.2 : Int)) ∧ (0 ≤ tt m ∧ tt m ≤ 400)
def wadd (W w : gR) : gR := if W.1 = 0 then w else W
section RPR
variable {K : Nat → Int} {V : Nat → Int64} {P : Nat → Nat} {m : dM} {r W : gR}
theorem RM.cx {m' : dM} (h : RM K V P m) (hc : Cx m m') : RM K V P m' := fun i a b => by rw [hc.1 73 (by decide), hc.1 74 (by decide), hc.1 75 (by decide), hc.2.2]; exact h i a b
theorem RM.of {m' : dM} (h : RM K V P m) (h1 : ∀ k : Nat, 73 ≤ k → k ≤ 75 → m'.1 k = m.1 k) (h2 : m'.2.1 76 = m.2.1 76) : RM K V P m' := fun i a b => by rw [h1 73 (by decide) (by decide), h1 74 (by decide) (by decide), h1 75 (by decide) (by decide), h2]; exact h i a b
theorem WR.of {m' : dM} (h : WR P m W) (h15 : m'.1 70 15 = m.1 70 15) (h16 : m'.1 70 16 = m.1 70 16) : WR P m' W := by unfold WR; rw [h15, h16]; exact h
theorem ST.of {m' : dM} (h : ST K P m r W) (h11 : m'.1 70 11 = m.1 70 11) (h13 : m'.1 70 13 = m.1 70 13) (h14 : m'.1 70 14 = m.1 70 14) (h15 : m'.1 70 15 = m.1 70 15) (h16 : m'.1 70 16 = m.1 70 16) : ST K P m' r W := by
  unfold ST WR flt tt plc
  rw [h11, h13, h14, h15, h16]
  exact h
/-- not by what it holds of the control fields -/
theorem ST.k {k j : Nat} {v : Int32} (h : ST K P m r W) (hk : k ≠ 70) : ST K P (dSet m k j v) r W := h.of (by rw [dSet_k (fun e => hk e.symm)]) (by rw [dSet_k (fun e => hk e.symm)]) (by rw [dSet_k (fun e => hk e.symm)]) (by rw [dSet_k (fun e => hk e.symm)]) (by rw [dSet_k (fun e => hk e.symm)])
theorem ST.j {j : Nat} {v : Int32} (h : ST K P m r W) (hj : j ≠ 11 ∧ j ≠ 13 ∧ j ≠ 14 ∧ j ≠ 15 ∧ j ≠ 16) : ST K P (dSet m 70 j v) r W := h.of (dSet_j (fun e => hj.1 e.symm)) (dSet_j (fun e => hj.2.1 e.symm)) (dSet_j (fun e => hj.2.2.1 e.symm)) (dSet_j (fun e => hj.2.2.2.1 e.symm)) (dSet_j (fun e => hj.2.2.2.2 e.symm))
theorem ST.W' {W' : gR} (h : ST K P m r W) (hr : r.1 ≠ 0) : ST K P m r W' := ⟨fun z => absurd z hr, h.2.1, h.2.2⟩
theorem ST.fl (h : ST K P m r W) : 0 ≤ flt m ∧ (flt m = 0 ↔ r.1 = 0) := by
  by_cases z : r.1 = 0
  · have := (h.1 z).1; exact ⟨by omega, by omega⟩
  · have := (h.2.1 z).1; exact ⟨by omega, by omega⟩
theorem q_fail {x1 : Int32} {c : Nat} {Q : dM → Prop} (hR : RM K V P m) (h : ST K P m r W) (hx : x1.toInt = c) (hc : c ≠ 0) (hQ : ∀ m' : dM, Cx m m' → tt m' = tt m → ST K P m' (if r.1 = 0 then (c, r.2) else r) W → Q m') : c_X12_fail_70 1 x1 m Q := by
  have hf := h.fl
  have ht := h.2.2
  have et : (m.1 70 11).toInt = tt m := rfl
  have ef : (m.1 70 13).toInt = flt m := rfl
  refine v_X12_fail_70 ⟨fun q => ⟨by omega, ?_⟩, fun q => ?_⟩
  · have z : r.1 = 0 := hf.2.mp (by omega)
    obtain ⟨a1, a2, a3, a4, a5⟩ := h.1 z
    refine hQ _ ⟨fun k hk => by rw [dSet_k hk, dSet_k hk], fun j b1 b2 b3 b4 b5 => by rw [dSet_j b3, dSet_j b2], rfl⟩ rfl ?_
    rw [if_pos z]
    refine ⟨fun q => absurd q hc, fun _ => ⟨hx, ?_⟩, ht⟩
    show (m.1 74 (m.1 70 11).toNatClampNeg).toInt = (P r.2 : Int)
    rw [d_cn (show (m.1 70 11).toInt = (r.2 : Int) from a2)]
    exact (hR r.2 a3 a4).2.1
  · have z : r.1 ≠ 0 := fun z => by have := hf.2.mpr z; omega
    refine hQ m (Cx.rf m) rfl ?_
    rw [if_neg z]
    exact h
theorem q_goesOn {Q : dM → Prop} (hR : RM K V P m) (h : ST K P m r W) (hk : r.1 = 0 → K r.2 ≠ 24 ∧ K r.2 ≠ 25) (hQ : ∀ m' : dM, Cx m m' → ST K P m' (rb r gst) W → Q m') : c_X12_goesOn_70 2 m Q := by
  have ht := h.2.2
  have et : (m.1 70 11).toInt = tt m := rfl
  refine v_X12_goesOn_70 ⟨fun q => v_X12_goesOn_70_28 (hQ _ ⟨fun k hk => dSet_k hk, fun j b1 b2 b3 b4 b5 => dSet_j b1, rfl⟩ ?_), fun q => q_fail hR h (c := 2) (by decide) (by decide) (fun m' hc ht' h' => v_X12_goesOn_70_28 (hQ m' hc ?_))⟩
  · have f := dAddE (X := tt m) (Y := 1) (x := m.1 70 11) (y := (1 : Int32)) rfl (by decide) (by omega) (by omega)
    have e1 : tt (dSet m 70 11 (m.1 70 11 + 1)) = tt m + 1 := f
    by_cases z : r.1 = 0
    · obtain ⟨a1, a2, a3, a4, a5⟩ := h.1 z
      rw [rb_k z]
      unfold gst
      rw [if_neg (by omega)]
      exact ⟨fun _ => ⟨a1, by show tt (dSet m 70 11 (m.1 70 11 + 1)) = ((r.2 + 1 : Nat) : Int); omega, by show r.2 + 1 ≤ 400; omega, a4.up (hk z), a5⟩, fun q => absurd rfl q, by omega⟩
    · rw [rb_f z]
      exact ⟨fun q => absurd q z, fun _ => h.2.1 z, by omega⟩
  · by_cases z : r.1 = 0
    · obtain ⟨a1, a2, a3, a4, a5⟩ := h.1 z
      rw [rb_k z]
      unfold gst
      rw [if_pos (by omega)]
      rw [if_pos z] at h'
      exact h'
    · rw [rb_f z]
      rw [if_neg z] at h'
      exact h'
theorem q_is {x1 : Int32} {k : Int} {Q : Int32 → dM → Prop} (hv : ∀ i, vk (K i)) (hR : RM K V P m) (h : ST K P m r W) (hx : x1.toInt = rk k) (hk : vk k) (h1 : r.1 = 0 → K r.2 = k → Q 1 m) (h0 : ¬ (r.1 = 0 ∧ K r.2 = k) → Q 0 m) : c_X12_is_70 1 x1 m Q := by
  have hf := h.fl
  refine p_is h.2.2 (fun a b => ?_) (fun a => h0 (fun ⟨z, b⟩ => ?_))
  · have z := hf.2.mp a
    obtain ⟨a1, a2, a3, a4, a5⟩ := h.1 z
    refine h1 z ((rk_inj (hv r.2) hk).mp ?_)
    rw [d_cn (show (m.1 70 11).toInt = (r.2 : Int) from a2), (hR r.2 a3 a4).1, hx] at b
    exact b
  · obtain ⟨a1, a2, a3, a4, a5⟩ := h.1 z
    refine a ⟨a1, ?_⟩
    rw [d_cn (show (m.1 70 11).toInt = (r.2 : Int) from a2), (hR r.2 a3 a4).1, hx, b]
theorem q_must {x1 : Int32} {k : Int} {Q : dM → Prop} (hv : ∀ i, vk (K i)) (hR : RM K V P m) (h : ST K P m r W) (hx : x1.toInt = rk k) (hk : vk k) (hk2 : k ≠ 24 ∧ k ≠ 25) (hQ : ∀ m' : dM, Cx m m' → ST K P m' (rb r (gnd K k)) W → Q m') : c_X12_must_70 3 x1 m Q := by
  refine v_X12_must_70 (Wp.deep (q_is hv hR h hx hk (fun z a => ⟨fun q => absurd q (by decide), fun _ => q_goesOn hR h (fun _ => by rw [a]; exact hk2) (fun m' hc h' => v_X12_must_70_20 (hQ m' hc ?_))⟩) (fun a => ⟨fun _ => Wp.deep (q_fail hR h (c := 1) (by decide) (by decide) (fun m' hc _ h' => v_X12_must_70_20 (hQ m' hc ?_))) (Nat.le_of_ble_eq_true rfl), fun q => absurd rfl q⟩)) (Nat.le_of_ble_eq_true rfl))
  · rw [rb_k z] at h' ⊢
    unfold gnd
    rw [if_pos a]
    exact h'
  · by_cases z : r.1 = 0
    · rw [rb_k z]
      rw [if_pos z] at h'
      unfold gnd
      rw [if_neg (fun q => a ⟨z, q⟩)]
      exact h'
    · rw [rb_f z]
      rw [if_neg z] at h'
      exact h'
theorem q_roomFor {x1 x2 : Int32} {c most n : Nat} {Q : dM → Prop} (hR : RM K V P m) (h : ST K P m (0, n) W) (hk : K n ≠ 24 ∧ K n ≠ 25) (h1 : x1.toInt = c) (h2 : x2.toInt = most) (hc : c ≤ most) (hQ : ∀ m' : dM, Cx m m' → ST K P m' (if most ≤ c then (2, n) else gst n) W → Q m') : c_X12_roomFor_70 3 x1 x2 m Q := by
  have l10 : ∀ (m' : dM) (g : gR), Cx m m' → ST K P m' g W → (g.1 = 0 → g = (0, n) ∧ ¬ most ≤ c) → (g.1 ≠ 0 → g = (2, n) ∧ most ≤ c) → j_X12_roomFor_70_10 3 m' Q := fun m' g hc' h' g0 g1 => by
    have hf := h'.fl
    refine v_X12_roomFor_70_10 ⟨fun q => v_X12_roomFor_70_21 (hQ m' hc' ?_), fun q => ?_⟩
    · have z : g.1 ≠ 0 := fun z => q (hf.2.mpr z)
      rw [if_pos (g1 z).2, ← (g1 z).1]
      exact h'
    · have z : g.1 = 0 := hf.2.mp q
      obtain ⟨e, e2⟩ := g0 z
      rw [e] at h'
      refine q_goesOn (hR.cx hc') h' (fun _ => hk) (fun m2 hc2 h2' => v_X12_roomFor_70_21 (hQ m2 (hc'.tr hc2) ?_))
      rw [if_neg e2]
      exact h2'
  refine v_X12_roomFor_70 ⟨fun q => l10 m (0, n) (Cx.rf m) h (fun _ => ⟨rfl, by omega⟩) (fun z => absurd rfl z), fun q => Wp.deep (q_fail hR h (c := 2) (by decide) (by decide) (fun m' hc' _ h' => l10 m' (2, n) hc' h' (fun z => absurd z (Nat.succ_ne_zero 1)) (fun _ => ⟨rfl, by omega⟩))) (Nat.le_of_ble_eq_true rfl)⟩
theorem q_wrong {x1 x2 : Int32} {c tok : Nat} {Q : dM → Prop} (hP : ∀ i j : Nat, i < j → lvK K j → P i < P j) (hR : RM K V P m) (h : ST K P m r W) (h1 : x1.toInt = c) (hc : c ≠ 0) (h2 : x2.toInt = tok) (ht : tok ≤ 400) (hl : r.1 = 0 → lvK K tok) (hW : r.1 = 0 → W.1 ≠ 0 → W.2 < tok ∨ (W.2 = tok ∧ W.1 ≤ c)) (hQ : ∀ m' : dM, Cx m m' → tt m' = tt m → ST K P m' r (wadd W (c, tok)) → Q m') : c_X12_wrong_70 1 x1 x2 m Q := by
  have hf := h.fl
  have ef : (m.1 70 13).toInt = flt m := rfl
  refine v_X12_wrong_70 ⟨by omega, fun q => v_X12_wrong_70_45 (hQ m (Cx.rf m) rfl (h.W' (fun z => by have := hf.2.mpr z; omega))), fun q => ?_⟩
  have z : r.1 = 0 := hf.2.mp (by omega)
  obtain ⟨a1, a2, a3, a4, a5⟩ := h.1 z
  have e74 : (m.1 74 x2.toNatClampNeg).toInt = (P tok : Int) := by rw [d_cn h2]; exact (hR tok ht (hl z)).2.1
  have set : W.1 = 0 → j_X12_wrong_70_46 1 x1 (m.1 74 x2.toNatClampNeg) m Q := fun w0 => v_X12_wrong_70_46 (hQ _ ⟨fun k hk => by rw [dSet_k hk, dSet_k hk], fun j b1 b2 b3 b4 b5 => by rw [dSet_j b5, dSet_j b4], rfl⟩ rfl (by
    unfold wadd
    rw [if_pos w0]
    exact ⟨fun _ => ⟨a1, a2, a3, a4, h1, fun _ => e74⟩, fun q => absurd z q, h.2.2⟩))
  have stay : W.1 ≠ 0 → j_X12_wrong_70_45 1 m Q := fun w0 => v_X12_wrong_70_45 (hQ m (Cx.rf m) rfl (by
    unfold wadd
    rw [if_neg w0]
    exact h))
  have e15 := a5.1
  refine ⟨fun w => set (by omega), fun w => ?_⟩
  have w0 : W.1 ≠ 0 := by omega
  have e16 := a5.2 w0
  rcases hW z w0 with lt | ⟨eq, le⟩
  · have := hP W.2 tok lt (hl z)
    exact ⟨fun _ => stay w0, fun q => by exfalso; omega⟩
  · rw [eq] at e16
    exact ⟨fun q => by exfalso; omega, fun _ => ⟨fun q => by exfalso; omega, fun _ => ⟨fun q => by exfalso; omega, fun _ => stay w0⟩⟩⟩
end RPR
end
section
/-! THE REFERENCE's parser, exactly: names and numbers -/
section RNA
variable {K : Nat → Int} {V : Nat → Int64} {P : Nat → Nat} {m : dM} {r W : gR}
theorem wadd_w {W w : gR} : wadd (wadd W w) w = wadd W w := by
  unfold wadd
  by_cases z : W.1 = 0
  · rw [if_pos z]
    by_cases z2 : w.1 = 0
    · rw [if_pos z2]
    · rw [if_neg z2]
  · rw [if_neg z, if_neg z]
theorem q_named {n N : Nat} {Q : Int32 → dM → Prop} (hv : ∀ i, vk (K i)) (hP : ∀ i j : Nat, i < j → lvK K j → P i < P j) (hR : RM K V P m) (h : ST K P m (0, n) W) (hN : nms m = (N : Int)) (hN2 : N ≤ 15) (hW : W.1 ≠ 0 → W.2 < n) (hQ : ∀ (m' : dM) (W' : gR), Cx m m' → ST K P m' (gnd K 22 n) W' → ((gnd K 22 n).1 = 0 → ((∃ k : Nat, k < N ∧ m.2.1 78 k = V n) ∧ W' = wadd W (3, n)) ∨ ((∀ k : Nat, k < N → m.2.1 78 k ≠ V n) ∧ W' = W)) → Q (m.1 70 11) m') : c_X12_named_70 4 m Q := by
  obtain ⟨a1, a2, a3, a4, a5⟩ := h.1 rfl
  have a2 : (m.1 70 11).toInt = (n : Int) := a2
  have a3 : n ≤ 400 := a3
  refine v_X12_named_70 (q_must hv hR h (k := 22) (by decide) (Or.inl (by decide)) (by decide) (fun m1 c1 h1 => ?_))
  have h1 : ST K P m1 (gnd K 22 n) W := h1
  have eN : ∀ m' : dM, Cx m m' → (m'.1 70 20).toInt = (N : Int) := fun m' c => by rw [c.2.1 20 (by decide) (by decide) (by decide) (by decide) (by decide)]; exact hN
  by_cases z : (gnd K 22 n).1 = 0
  · have hk : K n = 22 := (gnd_0 z).2.1
    have loop : ∀ (f i : Nat) (x2 : Int32) (m' : dM) (W' : gR), i + f = N → x2.toInt = i → Cx m m' → ST K P m' (gnd K 22 n) W' → (((∃ k : Nat, k < i ∧ m.2.1 78 k = V n) ∧ W' = wadd W (3, n)) ∨ ((∀ k : Nat, k < i → m.2.1 78 k ≠ V n) ∧ W' = W)) → j_X12_named_70_12 4 (m.1 70 11) x2 m' Q := by
      intro f
      induction f with
      | zero =>
        intro i x2 m' W' hi h2 hc h' hw
        have e := eN m' hc
        refine v_X12_named_70_12 ⟨fun _ => v_X12_named_70_55 (hQ m' W' hc h' (fun _ => ?_)), fun q => by exfalso; omega⟩
        rw [show N = i by omega]
        exact hw
      | succ f ih =>
        intro i x2 m' W' hi h2 hc h' hw
        have e := eN m' hc
        have hf := h'.fl
        refine v_X12_named_70_12 ⟨fun q => by exfalso; omega, fun _ => ⟨fun q => absurd (hf.2.mpr z) q, fun _ => ⟨by omega, by omega, ?_⟩⟩⟩
        rw [d_cn h2, d_cn a2]
        have e76 : m'.2.1 76 n = V n := by rw [hc.2.2]; exact (hR n a3 a4).2.2.1 (by omega)
        have e78 : m'.2.1 78 i = m.2.1 78 i := by rw [hc.2.2]
        rw [e76, e78]
        have hcm := dCmpE (m.2.1 78 i) (V n)
        refine ⟨fun q => v_X12_named_70_49 (ih (i + 1) _ m' W' (by omega) (d_inc h2 (by omega)) hc h' ?_), fun q => ?_⟩
        · have ne : m.2.1 78 i ≠ V n := fun e => q (hcm.2.2.mpr e)
          rcases hw with ⟨⟨k, k1, k2⟩, w⟩ | ⟨k1, w⟩
          · exact Or.inl ⟨⟨k, by omega, k2⟩, w⟩
          · refine Or.inr ⟨fun k hk => ?_, w⟩
            by_cases ek : k = i
            · rw [ek]; exact ne
            · exact k1 k (by omega)
        · have eq : m.2.1 78 i = V n := hcm.2.2.mp q
          refine Wp.deep (q_wrong (c := 3) (tok := n) hP (hR.cx hc) h' (by decide) (by decide) a2 a3 (fun _ => a4) (fun _ w0 => ?_) (fun m2 c2 _ h2' => v_X12_named_70_49 (ih (i + 1) _ m2 (wadd W' (3, n)) (by omega) (d_inc h2 (by omega)) (hc.tr c2) h2' (Or.inl ⟨⟨i, by omega, eq⟩, ?_⟩)))) (Nat.le_of_ble_eq_true rfl)
          · rcases hw with ⟨-, w⟩ | ⟨-, w⟩
            · rw [w] at w0 ⊢
              unfold wadd at w0 ⊢
              by_cases q0 : W.1 = 0
              · rw [if_pos q0]; exact Or.inr ⟨rfl, Nat.le_refl _⟩
              · rw [if_neg q0] at w0 ⊢; exact Or.inl (hW w0)
            · rw [w] at w0 ⊢; exact Or.inl (hW w0)
          · rcases hw with ⟨-, w⟩ | ⟨-, w⟩
            · rw [w]; exact wadd_w
            · rw [w]
    exact loop N 0 _ m1 W (by omega) (by decide) c1 h1 (Or.inr ⟨fun k hk => by omega, rfl⟩)
  · have hf := h1.fl
    have e := eN m1 c1
    have fin : j_X12_named_70_55 4 (m.1 70 11) m1 Q := v_X12_named_70_55 (hQ m1 W c1 h1 (fun q => absurd q z))
    exact v_X12_named_70_12 ⟨fun _ => fin, fun _ => ⟨fun _ => fin, fun q => absurd (hf.2.mp q) z⟩⟩
theorem q_knownFlat {N : Nat} {Q : Int32 → dM → Prop} (hv : ∀ i, vk (K i)) (hP : ∀ i j : Nat, i < j → lvK K j → P i < P j) (hR : RM K V P m) (h : ST K P m r W) (hN : nms m = (N : Int)) (hN2 : N ≤ 15) (hW : r.1 = 0 → W.1 ≠ 0 → W.2 < r.2) (hQ : ∀ (v : Int32) (m' : dM) (W' : gR), Cx m m' → ST K P m' (rb r (gnd K 22)) W' → ((rb r (gnd K 22)).1 = 0 → ((∃ k : Nat, k < N ∧ m.2.1 78 k = V r.2 ∧ 0 ≤ (m.1 79 k).toInt ∧ v = m.1 79 k) ∧ W' = W) ∨ ((∀ k : Nat, k < N → m.2.1 78 k = V r.2 → (m.1 79 k).toInt < 0) ∧ v = -1 ∧ W' = wadd W (4, r.2))) → Q v m') : c_X12_knownFlat_70 4 m Q := by
  refine v_X12_knownFlat_70 (q_must hv hR h (k := 22) (by decide) (Or.inl (by decide)) (by decide) (fun m1 c1 h1 => ?_))
  have hf := h1.fl
  have ef : (m1.1 70 13).toInt = flt m1 := rfl
  have eN : (m1.1 70 20).toInt = (N : Int) := by rw [c1.2.1 20 (by decide) (by decide) (by decide) (by decide) (by decide)]; exact hN
  refine ⟨fun q => ?_, fun q => hQ _ m1 W c1 h1 (fun z => by have := hf.2.mpr z; exfalso; omega)⟩
  have z : (rb r (gnd K 22)).1 = 0 := hf.2.mp (by omega)
  have zr := (rb_z z).1
  obtain ⟨a1, a2, a3, a4, a5⟩ := h.1 zr
  have a2 : (m.1 70 11).toInt = (r.2 : Int) := a2
  have hk : K r.2 = 22 := by
    have z2 := z
    rw [(rb_z z).2] at z2
    exact (gnd_0 z2).2.1
  have loop : ∀ (f i : Nat) (x2 : Int32), i + f = N → x2.toInt = i → (∀ k : Nat, k < i → m.2.1 78 k = V r.2 → (m.1 79 k).toInt < 0) → j_X12_knownFlat_70_21 4 (m.1 70 11) x2 m1 Q := by
    intro f
    induction f with
    | zero =>
      intro i x2 hi h2 hw
      refine v_X12_knownFlat_70_21 ⟨fun _ => Wp.deep (q_wrong (c := 4) (tok := r.2) hP (hR.cx c1) h1 (by decide) (by decide) a2 a3 (fun _ => a4) (fun _ w0 => Or.inl (hW zr w0)) (fun m2 c2 _ h2' => hQ _ m2 _ (c1.tr c2) h2' (fun _ => Or.inr ⟨?_, rfl, rfl⟩))) (Nat.le_of_ble_eq_true rfl), fun q => by exfalso; omega⟩
      rw [show N = i by omega]
      exact hw
    | succ f ih =>
      intro i x2 hi h2 hw
      refine v_X12_knownFlat_70_21 ⟨fun q => by exfalso; omega, fun _ => ⟨by omega, by omega, ?_⟩⟩
      rw [d_cn h2, d_cn a2]
      have e76 : m1.2.1 76 r.2 = V r.2 := by rw [c1.2.2]; exact (hR r.2 a3 a4).2.2.1 (by omega)
      have e78 : m1.2.1 78 i = m.2.1 78 i := by rw [c1.2.2]
      have e79 : m1.1 79 i = m.1 79 i := by rw [c1.1 79 (by decide)]
      rw [e76, e78, e79]
      have hcm := dCmpE (m.2.1 78 i) (V r.2)
      have next : (m.2.1 78 i = V r.2 → (m.1 79 i).toInt < 0) → j_X12_knownFlat_70_61 4 (m.1 70 11) x2 m1 Q := fun hn => v_X12_knownFlat_70_61 (ih (i + 1) _ (by omega) (d_inc h2 (by omega)) (fun k hk2 he => by
        by_cases ek : k = i
        · rw [ek] at he ⊢; exact hn he
        · exact hw k (by omega) he))
      refine ⟨fun q => next (fun e => absurd (hcm.2.2.mpr e) q), fun q => ⟨by omega, fun q2 => next (fun _ => q2), fun q2 => ⟨by omega, ?_⟩⟩⟩
      exact hQ _ m1 W c1 h1 (fun _ => Or.inl ⟨⟨i, by omega, hcm.2.2.mp q, q2, rfl⟩, rfl⟩)
  exact loop N 0 _ (by omega) (by decide) (fun k hk => by omega)
theorem q_bounded {x1 x2 : Int32} {Q : Int32 → dM → Prop} (hv : ∀ i, vk (K i)) (hP : ∀ i j : Nat, i < j → lvK K j → P i < P j) (hR : RM K V P m) (h : ST K P m r W) (hW : r.1 = 0 → W.1 ≠ 0 → W.2 < r.2) (hQ : ∀ (v : Int32) (m' : dM) (W' : gR), Cx m m' → ST K P m' (rb r (gnd K 23)) W' → ((rb r (gnd K 23)).1 = 0 → v = (V r.2).toInt32 ∧ W' = (if x1.toInt ≤ iV V r.2 ∧ iV V r.2 ≤ x2.toInt then W else wadd W (5, r.2))) → Q v m') : c_X12_bounded_70 3 x1 x2 m Q := by
  have hf := h.fl
  have ef : (m.1 70 13).toInt = flt m := rfl
  have no : (r.1 = 0 → K r.2 ≠ 23) → j_X12_bounded_70_15 3 x1 m Q := fun hn => by
    refine v_X12_bounded_70_15 (Wp.deep (q_fail hR h (c := 1) (by decide) (by decide) (fun m' hc _ h' => hQ _ m' W hc ?_ (fun z => ?_))) (Nat.le_of_ble_eq_true rfl))
    · by_cases z : r.1 = 0
      · rw [rb_k z]
        rw [if_pos z] at h'
        unfold gnd
        rw [if_neg (hn z)]
        exact h'
      · rw [rb_f z]
        rw [if_neg z] at h'
        exact h'
    · exfalso
      have z1 := (rb_z z).1
      rw [(rb_z z).2] at z
      exact hn z1 (gnd_0 z).2.1
  refine v_X12_bounded_70 ⟨fun q => no (fun z => by have := hf.2.mpr z; exfalso; omega), fun q => ?_⟩
  have zr : r.1 = 0 := hf.2.mp (by omega)
  obtain ⟨a1, a2, a3, a4, a5⟩ := h.1 zr
  have a2' : (m.1 70 11).toInt = (r.2 : Int) := a2
  refine Wp.deep (q_is hv hR h (k := 23) (by decide) (Or.inl (by decide)) (fun _ hk => ⟨fun _ => ⟨by omega, ?_⟩, fun q => absurd q (by decide)⟩) (fun hk => ⟨fun q => absurd rfl q, fun _ => no (fun z hk2 => hk ⟨z, hk2⟩)⟩)) (Nat.le_of_ble_eq_true rfl)
  rw [d_cn a2', (hR r.2 a3 a4).2.2.2 hk]
  have go : ∀ (m1 : dM) (W1 : gR), Cx m m1 → ST K P m1 r W1 → (W1 = if x1.toInt ≤ iV V r.2 ∧ iV V r.2 ≤ x2.toInt then W else wadd W (5, r.2)) → j_X12_bounded_70_51 3 (V r.2).toInt32 m1 Q := fun m1 W1 c1 h1 e => by
    refine v_X12_bounded_70_51 (q_goesOn (hR.cx c1) h1 (fun _ => by omega) (fun m2 c2 h2 => hQ _ m2 W1 (c1.tr c2) ?_ (fun _ => ⟨rfl, e⟩)))
    rw [rb_k zr] at h2 ⊢
    unfold gnd
    rw [if_pos hk]
    exact h2
  have bad : ¬ (x1.toInt ≤ iV V r.2 ∧ iV V r.2 ≤ x2.toInt) → j_X12_bounded_70_42 3 (V r.2).toInt32 m Q := fun hb => v_X12_bounded_70_42 (Wp.deep (q_wrong (c := 5) (tok := r.2) hP hR h (by decide) (by decide) a2' a3 (fun _ => a4) (fun _ w0 => Or.inl (hW zr w0)) (fun m1 c1 _ h1 => go m1 _ c1 h1 (by rw [if_neg hb]))) (Nat.le_of_ble_eq_true rfl))
  unfold iV at bad go
  exact ⟨fun q => bad (by omega), fun q => ⟨fun q2 => go m W (Cx.rf m) h (by rw [if_pos ⟨q, q2⟩]), fun q2 => bad (by omega)⟩⟩
/-- a name more -/
def EN (N : Nat) (y : Int64) (v : Int32) (m m' : dM) : Prop := (∀ k : Nat, k ≠ 70 → k ≠ 79 → m'.1 k = m.1 k) ∧ (∀ j : Nat, j ≠ 11 → j ≠ 13 → j ≠ 14 → j ≠ 15 → j ≠ 16 → j ≠ 20 → m'.1 70 j = m.1 70 j) ∧ (m'.1 70 20).toInt = ((N + 1 : Nat) : Int) ∧ (∀ j : Nat, m'.1 79 j = if j = N then v else m.1 79 j) ∧ (∀ k : Nat, k ≠ 78 → m'.2.1 k = m.2.1 k) ∧ (∀ j : Nat, m'.2.1 78 j = if j = N then y else m.2.1 78 j) ∧ m'.2.2 = m.2.2
theorem q_endsName {x1 x2 : Int32} {tok N : Nat} {Q : dM → Prop} (hv : ∀ i, vk (K i)) (hR : RM K V P m) (h : ST K P m r W) (h1 : x1.toInt = tok) (ht : tok ≤ 400) (hN : nms m = (N : Int)) (hN2 : N < 15) (hQ0 : (rb r (gnd K 59)).1 ≠ 0 → ∀ m' : dM, Cx m m' → ST K P m' (rb r (gnd K 59)) W → Q m') (hQ1 : (rb r (gnd K 59)).1 = 0 → ∀ m' : dM, EN N (m.2.1 76 tok) x2 m m' → ST K P m' (rb r (gnd K 59)) W → Q m') : c_X12_endsName_70 4 x1 x2 m Q := by
  refine v_X12_endsName_70 (q_must hv hR h (k := 59) (by decide) (by unfold vk; omega) (by decide) (fun m1 c1 h1' => ?_))
  have hf := h1'.fl
  have ef : (m1.1 70 13).toInt = flt m1 := rfl
  have eN : (m1.1 70 20).toInt = (N : Int) := by rw [c1.2.1 20 (by decide) (by decide) (by decide) (by decide) (by decide)]; exact hN
  refine ⟨fun q => ⟨by omega, by omega, by omega, ?_⟩, fun q => hQ0 (fun z => by have := hf.2.mpr z; omega) m1 c1 h1'⟩
  have z : (rb r (gnd K 59)).1 = 0 := hf.2.mp (by omega)
  rw [d_cn h1, d_cn eN]
  have e76 : m1.2.1 76 tok = m.2.1 76 tok := by rw [c1.2.2]
  rw [e76]
  refine hQ1 z _ ⟨fun k b1 b2 => ?_, fun j b1 b2 b3 b4 b5 b6 => ?_, ?_, fun j => ?_, fun k b1 => ?_, fun j => ?_, ?_⟩ ?_
  · rw [dSet_k b1, dSet_k b2]; exact c1.1 k b1
  · rw [dSet_j b6, dSet_k (by decide)]; exact c1.2.1 j b1 b2 b3 b4 b5
  · rw [dSet_s]; exact d_inc eN (by omega)
  · rw [dSet_k (by decide), dSet_e]
    by_cases q : j = N
    · rw [if_pos ⟨rfl, q⟩, if_pos q]
    · rw [if_neg (fun w => q w.2), if_neg q]
      show m1.1 79 j = _
      rw [c1.1 79 (by decide)]
  · show (dSetL m1 78 N (m.2.1 76 tok)).2.1 k = _
    rw [← c1.2.2]
    funext j
    rw [dSetL_e, if_neg (fun w => b1 w.1)]
  · show (dSetL m1 78 N (m.2.1 76 tok)).2.1 78 j = _
    rw [dSetL_e, c1.2.2]
    by_cases q : j = N
    · rw [if_pos ⟨rfl, q⟩, if_pos q]
    · rw [if_neg (fun w => q w.2), if_neg q]
  · show m1.2.2 = m.2.2
    rw [c1.2.2]
  · exact ST.j (ST.k (m := dSetL m1 78 N (m.2.1 76 tok)) (h1'.of rfl rfl rfl rfl rfl) (by decide)) (by decide)
end RNA
end
section
/-! THE REFERENCE's expression, exactly -/
theorem co_1 {x1 : Int32} {Q : dM → Prop} {c0 : Nat} {B : Int} (hB : B ≤ 839) : ∀ (n : Nat) (m : dM) (o p c q : Nat), n ≤ 64 → wtg m = n → Wk (m.1 104) n o p c → cds m = c0 + q → gDp m.1 q c0 0 (p + 1) → cds m + p ≤ B →
    (∀ (m' : dM) (n' p' c' q' : Nat), CoF m p m' → wtg m' = n' → Wk (m'.1 104) n' o p' c' → c' ≤ 1 → (x1.toInt = 0 → c' = 0) → cds m' = c0 + q' → gDp m'.1 q' c0 0 (p' + 1) → cds m' + p' = cds m + p → q ≤ q' → m'.2 = m.2 → Q m') → j_X12_comesOut_70_0 2 x1 m Q := by
  intro n
  induction n with
  | zero =>
    intro m o p c q hn hw hW hc hD hB' hQ
    have hW' : o = 0 ∧ p = 0 ∧ c = 0 := hW
    refine v_X12_comesOut_70_0 ⟨fun _ => hQ m 0 p c q ⟨fun _ _ _ _ => rfl, fun _ _ _ => rfl, fun _ _ => ⟨rfl, rfl⟩⟩ hw hW (by omega) (fun _ => hW'.2.2) hc hD rfl (Nat.le_refl _) rfl, fun h => ?_⟩
    have h : 0 < wtg m := h
    exfalso; omega
  | succ n ih =>
    intro m o p c q hn hw hW hc hD hB' hQ
    have ew : (m.1 70 50).toInt = wtg m := rfl
    have ec : (m.1 70 46).toInt = cds m := rfl
    have f := dSubE (X := wtg m) (Y := 1) (x := m.1 70 50) (y := (1 : Int32)) rfl (by decide) (by omega) (by omega)
    have ei : (m.1 70 50 - (1 : Int32)).toNatClampNeg = n := by
      have := d_cl (x := m.1 70 50 - (1 : Int32)) (by omega)
      omega
    have stay : c ≤ 1 → (x1.toInt = 0 → c = 0) → j_X12_comesOut_70_41 2 m Q := fun h1 h2 => v_X12_comesOut_70_41 (hQ m (n + 1) p c q ⟨fun _ _ _ _ => rfl, fun _ _ _ => rfl, fun _ _ => ⟨rfl, rfl⟩⟩ hw hW h1 h2 hc hD rfl (Nat.le_refl _) rfl)
    have out : ∀ (p1 c1 : Nat), p = p1 + 1 → Wk (m.1 104) n o p1 c1 → ∀ code : Int32, 2 ≤ code.toInt ∧ code.toInt ≤ 5 → c_X12_emit_70 1 code (0 : Int32) (dSet m 70 50 ((m.1 70 50) - (1 : Int32))) (fun m1 => j_X12_comesOut_70_0 2 x1 m1 Q) := by
      intro p1 c1 hp hW1 code hcode
      refine v_X12_emit_70 ?_
      have ec' : ((dSet m 70 50 ((m.1 70 50) - (1 : Int32))).1 70 46) = m.1 70 46 := rfl
      rw [ec']
      have fc := dAddE (X := cds m) (Y := 1) (x := m.1 70 46) (y := (1 : Int32)) rfl (by decide) (by omega) (by omega)
      have eC : (m.1 70 46).toNatClampNeg = c0 + q := by
        have := d_cl (x := m.1 70 46) (by omega)
        omega
      refine ⟨by omega, ⟨by omega, ?_⟩⟩
      rw [eC]
      have r2 : ∀ j, j ≠ c0 + q → (dSet (dSet (dSet (dSet m 70 50 ((m.1 70 50) - (1 : Int32))) 102 (c0 + q) code) 103 (c0 + q) (0 : Int32)) 70 46 ((m.1 70 46) + (1 : Int32))).1 102 j = m.1 102 j ∧ (dSet (dSet (dSet (dSet m 70 50 ((m.1 70 50) - (1 : Int32))) 102 (c0 + q) code) 103 (c0 + q) (0 : Int32)) 70 46 ((m.1 70 46) + (1 : Int32))).1 103 j = m.1 103 j := fun j hj => by
        constructor
        · rw [dSet_k (by decide), dSet_k (by decide), dSet_j hj, dSet_k (by decide)]
        · rw [dSet_k (by decide), dSet_j hj, dSet_k (by decide), dSet_k (by decide)]
      have r1 : (dSet (dSet (dSet (dSet m 70 50 ((m.1 70 50) - (1 : Int32))) 102 (c0 + q) code) 103 (c0 + q) (0 : Int32)) 70 46 ((m.1 70 46) + (1 : Int32))).1 102 (c0 + q) = code := by rw [dSet_k (by decide), dSet_k (by decide), dSet_s]
      generalize hM : (dSet (dSet (dSet (dSet m 70 50 ((m.1 70 50) - (1 : Int32))) 102 (c0 + q) code) 103 (c0 + q) (0 : Int32)) 70 46 ((m.1 70 46) + (1 : Int32))) = M at r1 r2 ⊢
      have w1 : wtg M = n := by rw [← hM]; show (m.1 70 50 - (1 : Int32)).toInt = n; omega
      have w2 : cds M = c0 + (q + 1 : Nat) := by rw [← hM]; show (m.1 70 46 + (1 : Int32)).toInt = _; omega
      have w5 : M.2 = m.2 := by rw [← hM]; rfl
      have w3 : ∀ k : Nat, k ≠ 70 → k ≠ 102 → k ≠ 103 → M.1 k = m.1 k := fun k h1 h2 h3 => by rw [← hM, dSet_k h1, dSet_k h3, dSet_k h2, dSet_k h1]
      have w4 : ∀ j : Nat, j ≠ 46 → j ≠ 50 → M.1 70 j = m.1 70 j := fun j h1 h2 => by rw [← hM, dSet_j h1, dSet_k (by decide), dSet_k (by decide), dSet_j h2]
      have hD1 : gDp M.1 (q + 1) c0 0 (p1 + 1) := by
        refine gDp_op (gDp_congr (fun j h1 h2 => r2 j (by omega)) (by rw [← hp]; exact hD)) ?_ (by omega)
        rw [r1]; exact hcode
      refine ih M o p1 c1 (q + 1) (by omega) w1 (by rw [w3 104 (by decide) (by decide) (by decide)]; exact hW1) w2 hD1 (by omega) ?_
      intro m' n' p' c' q' hF a1 a2 a3 a4 a5 a6 a7 a8 a9
      refine hQ m' n' p' c' q' ⟨fun k h1 h2 h3 => (hF.1 k h1 h2 h3).trans (w3 k h1 h2 h3), fun j h1 h2 => (hF.2.1 j h1 h2).trans (w4 j h1 h2), fun j hj => ?_⟩ a1 a2 a3 a4 a5 a6 (by omega) (by omega) (a9.trans w5)
      have g1 := hF.2.2 j (by omega)
      have g2 := r2 j (by omega)
      exact ⟨g1.1.trans g2.1, g1.2.trans g2.2⟩
    refine v_X12_comesOut_70_0 ⟨fun h => by have h : wtg m ≤ 0 := h; exfalso; omega, fun _ => ⟨by omega, ?_⟩⟩
    rw [ei]
    have hW0 := hW
    unfold Wk at hW0
    rcases hW0 with ⟨a, b, o', c', d, w⟩ | ⟨a, b, p', d, w⟩ | ⟨a, b, p', c', d, i, w⟩
    · exact ⟨fun _ => stay (by omega) (fun _ => b), fun h => absurd a h⟩
    · have em : ∀ y : Int32, y = m.1 104 n → j_X12_comesOut_70_42 2 x1 y m Q := fun y hy => by
        subst hy
        refine v_X12_comesOut_70_42 ⟨fun _ => ⟨fun _ => ⟨fun _ => out p' 0 d w _ (by decide), fun _ => out p' 0 d w _ (by decide)⟩, fun _ => out p' 0 d w _ (by decide)⟩, fun _ => out p' 0 d w _ (by decide)⟩
      refine ⟨fun h => by exfalso; omega, fun _ => ⟨fun _ => em _ rfl, fun hx => ⟨fun _ => stay (by omega) (fun h => absurd h hx), fun h8 => ⟨fun h9 => by exfalso; omega, fun _ => stay (by omega) (fun h => absurd h hx)⟩⟩⟩⟩
    · have em : ∀ y : Int32, y = m.1 104 n → j_X12_comesOut_70_42 2 x1 y m Q := fun y hy => by
        subst hy
        refine v_X12_comesOut_70_42 ⟨fun _ => ⟨fun _ => ⟨fun _ => out p' c' d w _ (by decide), fun _ => out p' c' d w _ (by decide)⟩, fun _ => out p' c' d w _ (by decide)⟩, fun _ => out p' c' d w _ (by decide)⟩
      refine ⟨fun h => by exfalso; omega, fun _ => ⟨fun _ => em _ rfl, fun hx => ⟨fun h => by exfalso; omega, fun h8 => ⟨fun h9 => em _ rfl, fun h => by exfalso; omega⟩⟩⟩⟩
section RGX
variable {K : Nat → Int} {V : Nat → Int64} {P : Nat → Nat} {r W : gR}
theorem r_fail {x1 : Int32} {c : Nat} {m : dM} {Q : dM → Prop} (hR : RM K V P m) (h : ST K P m r W) (hx : x1.toInt = c) (hc : c ≠ 0) (hQ : ∀ m' : dM, Mv 0 m m' → m'.2 = m.2 → ST K P m' (if r.1 = 0 then (c, r.2) else r) W → Q m') : c_X12_fail_70 1 x1 m Q := by
  have hf := h.fl
  have ht := h.2.2
  have et : (m.1 70 11).toInt = tt m := rfl
  have ef : (m.1 70 13).toInt = flt m := rfl
  refine v_X12_fail_70 ⟨fun q => ⟨by omega, ?_⟩, fun q => ?_⟩
  · have z : r.1 = 0 := hf.2.mp (by omega)
    obtain ⟨a1, a2, a3, a4, a5⟩ := h.1 z
    have e1 : flt (dSet (dSet m 70 13 x1) 70 14 (m.1 74 (m.1 70 11).toNatClampNeg)) = x1.toInt := rfl
    have e2 : tt (dSet (dSet m 70 13 x1) 70 14 (m.1 74 (m.1 70 11).toNatClampNeg)) = tt m := rfl
    refine hQ _ ⟨fun k hk => by rw [dSet_k hk, dSet_k hk], fun j b1 b2 b3 b4 b5 => by rw [dSet_j b3, dSet_j b2], ht, Or.inr (by omega), Wz.eq rfl⟩ rfl ?_
    rw [if_pos z]
    refine ⟨fun q => absurd q hc, fun _ => ⟨hx, ?_⟩, ht⟩
    show (m.1 74 (m.1 70 11).toNatClampNeg).toInt = (P r.2 : Int)
    rw [d_cn (show (m.1 70 11).toInt = (r.2 : Int) from a2)]
    exact (hR r.2 a3 a4).2.1
  · have z : r.1 ≠ 0 := fun z => by have := hf.2.mpr z; omega
    refine hQ m (Mv.rf ht hf.1) rfl ?_
    rw [if_neg z]
    exact h
theorem r_goesOn {m : dM} {Q : dM → Prop} (hR : RM K V P m) (h : ST K P m r W) (hk : r.1 = 0 → K r.2 ≠ 24 ∧ K r.2 ≠ 25) (hQ : ∀ m' : dM, Mv 1 m m' → m'.2 = m.2 → ST K P m' (rb r gst) W → Q m') : c_X12_goesOn_70 2 m Q := by
  have ht := h.2.2
  have hf := h.fl
  have et : (m.1 70 11).toInt = tt m := rfl
  refine v_X12_goesOn_70 ⟨fun q => ?_, fun q => ?_⟩
  · have f := dAddE (X := tt m) (Y := 1) (x := m.1 70 11) (y := (1 : Int32)) rfl (by decide) (by omega) (by omega)
    have e1 : tt (dSet m 70 11 (m.1 70 11 + 1)) = tt m + 1 := f
    have e2 : flt (dSet m 70 11 (m.1 70 11 + 1)) = flt m := rfl
    refine v_X12_goesOn_70_28 (hQ _ ⟨fun k hk => dSet_k hk, fun j b1 b2 b3 b4 b5 => dSet_j b1, by omega, ?_, Wz.eq rfl⟩ rfl ?_)
    · by_cases h0 : flt m = 0
      · left; omega
      · right; omega
    by_cases z : r.1 = 0
    · obtain ⟨a1, a2, a3, a4, a5⟩ := h.1 z
      rw [rb_k z]
      unfold gst
      rw [if_neg (by omega)]
      exact ⟨fun _ => ⟨a1, by show tt (dSet m 70 11 (m.1 70 11 + 1)) = ((r.2 + 1 : Nat) : Int); omega, by show r.2 + 1 ≤ 400; omega, a4.up (hk z), a5⟩, fun q => absurd rfl q, by omega⟩
    · rw [rb_f z]
      exact ⟨fun q => absurd q z, fun _ => h.2.1 z, by omega⟩
  · refine Wp.deep (r_fail hR h (c := 2) (by decide) (by decide) (fun m' hc ht' h' => v_X12_goesOn_70_28 (hQ m' ⟨hc.1, hc.2.1, hc.2.2.1, Or.inr ?_, hc.2.2.2.2⟩ ht' ?_))) (Nat.le_of_ble_eq_true rfl)
    · have hf' := h'.fl
      have : flt m' ≠ 0 := fun e => by
        have := hf'.2.mp e
        by_cases z : r.1 = 0
        · rw [if_pos z] at this; exact absurd this (Nat.succ_ne_zero 1)
        · rw [if_neg z] at this; exact z this
      rcases hc.2.2.2.1 with w | w <;> omega
    · by_cases z : r.1 = 0
      · obtain ⟨a1, a2, a3, a4, a5⟩ := h.1 z
        rw [rb_k z]
        unfold gst
        rw [if_pos (by omega)]
        rw [if_pos z] at h'
        exact h'
      · rw [rb_f z]
        rw [if_neg z] at h'
        exact h'
/-- an expression under way: its cells, and what will come of it -/
def TG (K : Nat → Int) (o : Nat) (ph : Bool) (r T : gR) : Prop := (r.1 = 0 → gX K 0 o ph r.2 = T) ∧ (r.1 ≠ 0 → r = T)
variable {me : dM} {s : Nat} {T : gR}
theorem RM.xf {m : dM} (h : RM K V P me) (hx : XF me s m) (h2 : m.2 = me.2) : RM K V P m := h.of (fun k a b => hx.1 k (by omega) (by omega) (by omega) (by omega)) (by rw [h2])
theorem er_emit {m : dM} {o p c : Nat} {code val : Int32} {Q : dM → Prop} (hs : s ≤ 1) (hme : 420 * (s : Int) ≤ cds me) (hv : ∀ i, vk (K i)) (hR : RM K V P me) (h : ES me s m o p c p) (h2 : m.2 = me.2) (hS : ST K P m r W) (h0 : flt m = 0) (hk : r.1 = 0 → K r.2 ≠ 24 ∧ K r.2 ≠ 25) (hcode : code.toInt < 2 ∧ (code.toInt ≠ 0 → 0 ≤ val.toInt ∧ val.toInt ≤ 8)) (hQ : ∀ m', EZ me s m' → m'.2 = me.2 → ST K P m' (rb r gst) W → (flt m' = 0 → ES me s m' o p c (p + 1) ∧ tt m + 1 ≤ tt m') → Q m') : c_X12_emit_70 2 code val m (fun m2 => c_X12_goesOn_70 2 m2 Q) := by
  obtain ⟨⟨x1, x2, x3, x4⟩, a2, a3, a4, a5, a6, a7, ⟨q, a8, a8'⟩, a9, a10, a11⟩ := h
  have hb := a10 h0
  have ec : (m.1 70 46).toInt = cds m := rfl
  have fc := dAddE (X := cds m) (Y := 1) (x := m.1 70 46) (y := (1 : Int32)) rfl (by decide) (by omega) (by omega)
  have eC : (m.1 70 46).toNatClampNeg = (cds me).toNat + q := by
    have := d_cl (x := m.1 70 46) (by omega)
    omega
  refine v_X12_emit_70 ⟨by omega, ⟨by omega, ?_⟩⟩
  rw [eC]
  have r2 : ∀ j, j ≠ (cds me).toNat + q → (dSet (dSet (dSet m 102 ((cds me).toNat + q) code) 103 ((cds me).toNat + q) val) 70 46 ((m.1 70 46) + (1 : Int32))).1 102 j = m.1 102 j ∧ (dSet (dSet (dSet m 102 ((cds me).toNat + q) code) 103 ((cds me).toNat + q) val) 70 46 ((m.1 70 46) + (1 : Int32))).1 103 j = m.1 103 j := fun j hj => by
    constructor
    · rw [dSet_k (by decide), dSet_k (by decide), dSet_j hj]
    · rw [dSet_k (by decide), dSet_j hj, dSet_k (by decide)]
  have r1 : (dSet (dSet (dSet m 102 ((cds me).toNat + q) code) 103 ((cds me).toNat + q) val) 70 46 ((m.1 70 46) + (1 : Int32))).1 102 ((cds me).toNat + q) = code := by rw [dSet_k (by decide), dSet_k (by decide), dSet_s]
  have r3 : (dSet (dSet (dSet m 102 ((cds me).toNat + q) code) 103 ((cds me).toNat + q) val) 70 46 ((m.1 70 46) + (1 : Int32))).1 103 ((cds me).toNat + q) = val := by rw [dSet_k (by decide), dSet_s]
  generalize hM : (dSet (dSet (dSet m 102 ((cds me).toNat + q) code) 103 ((cds me).toNat + q) val) 70 46 ((m.1 70 46) + (1 : Int32))) = M at r1 r2 r3 ⊢
  have w2 : cds M = cds me + (q + 1 : Nat) := by rw [← hM]; show (m.1 70 46 + (1 : Int32)).toInt = _; omega
  have w3 : ∀ k : Nat, k ≠ 70 → k ≠ 102 → k ≠ 103 → M.1 k = m.1 k := fun k h1 h2 h3 => by rw [← hM, dSet_k h1, dSet_k h3, dSet_k h2]
  have w4 : ∀ j : Nat, j ≠ 46 → M.1 70 j = m.1 70 j := fun j h1 => by rw [← hM, dSet_j h1, dSet_k (by decide), dSet_k (by decide)]
  have t1 : tt M = tt m := by unfold tt; rw [w4 11 (by decide)]
  have f1 : flt M = flt m := by unfold flt; rw [w4 13 (by decide)]
  have u1 : wst M = wst m := by unfold wst; rw [w4 15 (by decide)]
  have hD1 : gDp M.1 (q + 1) (cds me).toNat 0 (p + 1) := gDp_push (gDp_congr (fun j h1 h2 => r2 j (by omega)) a8') (by rw [r1]; exact hcode.1) (by rw [r1, r3]; exact hcode.2)
  have w5 : M.2 = m.2 := by rw [← hM]; rfl
  have XM : XF me s M := by
    refine ⟨fun k b1 b2 b3 b4 => (w3 k b1 b2 b3).trans (x1 k b1 b2 b3 b4), fun j b1 b2 b3 b4 b5 b6 b7 b8 => (w4 j b7).trans (x2 j b1 b2 b3 b4 b5 b6 b7 b8), fun j hj => ?_, x4.tr (Wz.eq u1)⟩
    have g2 := r2 j (by omega)
    have g3 := x3 j hj
    exact ⟨g2.1.trans g3.1, g2.2.trans g3.2⟩
  have SM : ST K P M r W := hS.of (w4 11 (by decide)) (w4 13 (by decide)) (w4 14 (by decide)) (w4 15 (by decide)) (w4 16 (by decide))
  refine r_goesOn (hR.xf XM (w5.trans h2)) SM hk (fun m3 h3 g3 S3 => ?_)
  obtain ⟨k1, k2, k3, k4, k5⟩ := h3
  have e46 : m3.1 70 46 = M.1 70 46 := k2 46 (by decide) (by decide) (by decide) (by decide) (by decide)
  have c3 : cds m3 = cds M := by unfold cds; rw [e46]
  have X3 : XF me s m3 := by
    refine ⟨fun k b1 b2 b3 b4 => (k1 k b1).trans ((w3 k b1 b2 b3).trans (x1 k b1 b2 b3 b4)), fun j b1 b2 b3 b4 b5 b6 b7 b8 => (k2 j b1 b3 b4 b5 b6).trans ((w4 j b7).trans (x2 j b1 b2 b3 b4 b5 b6 b7 b8)), fun j hj => ?_, x4.tr ((Wz.eq u1).tr k5)⟩
    rw [k1 102 (by decide), k1 103 (by decide)]
    have g2 := r2 j (by omega)
    have g3 := x3 j hj
    exact ⟨g2.1.trans g3.1, g2.2.trans g3.2⟩
  have hf3 : 0 ≤ flt m3 := by rcases k4 with z | z <;> omega
  have ht3 : tt m ≤ tt m3 := by rcases k4 with z | z <;> omega
  refine hQ m3 ⟨X3, k3, by omega, hf3, by omega, by omega⟩ (g3.trans (w5.trans h2)) S3 (fun hz => ?_)
  have ht4 : tt m3 = tt m + 1 := by rcases k4 with z | z <;> omega
  refine ⟨⟨X3, k3, by omega, hf3, ?_, ?_, ?_, ⟨q + 1, by omega, gDp_congr (fun j _ _ => by rw [k1 102 (by decide), k1 103 (by decide)]; exact ⟨rfl, rfl⟩) hD1⟩, by omega, fun _ => by omega, a11⟩, by omega⟩
  · unfold opn; rw [k2 12 (by decide) (by decide) (by decide) (by decide) (by decide), w4 12 (by decide)]; exact a5
  · unfold wtg; rw [k2 50 (by decide) (by decide) (by decide) (by decide) (by decide), w4 50 (by decide)]; exact a6
  · rw [k1 104 (by decide), w3 104 (by decide) (by decide) (by decide)]; exact a7
theorem r_unit {m : dM} {o p c : Nat} {Q : dM → Prop} (hs : s ≤ 1) (hme : 420 * (s : Int) ≤ cds me) (hv : ∀ i, vk (K i)) (hR : RM K V P me) (h : ES me s m o p c p) (h2 : m.2 = me.2) (hS : ST K P m r W) (hT : TG K o false r T) (h40 : ¬ (r.1 = 0 ∧ K r.2 = 40)) (hQ : ∀ (m' : dM) (r' : gR), EZ me s m' → m'.2 = me.2 → ST K P m' r' W → TG K o true r' T → (flt m' = 0 → ES me s m' o p c (p + 1) ∧ flt m = 0 ∧ tt m + 1 ≤ tt m') → Q m') : c_X12_unit_70 3 m Q := by
  have a2 := h.2.1
  have a4 := h.2.2.2.1
  have hRm := hR.xf h.1 h2
  have hf := hS.fl
  have bad : (r.1 = 0 → ¬ (K r.2 = 23 ∨ (13 ≤ K r.2 ∧ K r.2 ≤ 21))) → j_X12_unit_70_88 3 m Q := fun hn => by
    refine v_X12_unit_70_88 ?_
    refine Wp.deep (r_fail hRm hS (c := 1) (by decide) (by decide) (fun m' h' g' S' => v_X12_unit_70_93 (hQ m' _ (h.mv h' (by decide)).z (g'.trans h2) S' ?_ (fun h0 => ?_)))) (Nat.le_of_ble_eq_true rfl)
    · by_cases z : r.1 = 0
      · rw [if_pos z]
        refine ⟨fun q => absurd q (Nat.succ_ne_zero 0), fun _ => ?_⟩
        have e := hT.1 z
        rw [gX_U (hS.1 z).2.2.1, if_neg (hn z), if_neg (fun q => h40 ⟨z, q⟩)] at e
        exact e
      · rw [if_neg z]
        exact ⟨fun q => absurd q z, hT.2⟩
    · exfalso
      have := S'.fl.2.mp h0
      by_cases z : r.1 = 0
      · rw [if_pos z] at this; exact absurd this (Nat.succ_ne_zero 0)
      · rw [if_neg z] at this; exact z this
  have tr : (0 ≤ (m.1 70 11).toInt ∧ (m.1 70 11).toInt < 403) := ⟨a2.1, by have := a2.2; unfold tt at this; omega⟩
  have goes : ∀ (z : r.1 = 0) (hu : K r.2 = 23 ∨ (13 ≤ K r.2 ∧ K r.2 ≤ 21)), TG K o true (rb r gst) T := fun z hu => by
    have e := hT.1 z
    rw [gX_U (hS.1 z).2.2.1, if_pos hu] at e
    rw [rb_k z]
    unfold gst
    by_cases q : 400 ≤ r.2
    · rw [if_pos q] at e ⊢
      exact ⟨fun w => absurd w (Nat.succ_ne_zero 1), fun _ => e⟩
    · rw [if_neg q] at e ⊢
      exact ⟨fun _ => e, fun w => absurd rfl w⟩
  refine v_X12_unit_70 ?_
  refine Wp.deep (q_is (k := 23) hv hRm hS (by decide) (by unfold vk; omega) (fun h1 hk => ⟨fun q => absurd q (by decide), fun _ => ⟨tr, ?_⟩⟩) (fun h1 => ⟨fun _ => ⟨fun q => bad (fun z => absurd (hf.2.mpr z) q), fun h0 => ⟨tr, fun _ => bad ?_, fun hk => ⟨tr, fun _ => bad ?_, fun hk2 => ⟨tr, ?_⟩⟩⟩⟩, fun q => absurd rfl q⟩)) (Nat.le_of_ble_eq_true rfl)
  · exact er_emit hs hme hv hR h h2 hS (hf.2.mpr h1) (fun _ => by omega) ⟨by decide, fun q => absurd rfl q⟩ (fun m' z g' S' e => v_X12_unit_70_93 (hQ m' _ z g' S' (goes h1 (Or.inl hk)) (fun h0 => ⟨(e h0).1, hf.2.mpr h1, (e h0).2⟩)))
  all_goals
    have h0 : flt m = 0 := h0
    have z := hf.2.mp h0
    obtain ⟨b1, b2, b3, b4, b5⟩ := hS.1 z
    have ek : (m.1 73 (m.1 70 11).toNatClampNeg).toInt = rk (K r.2) := by
      rw [d_cn (show (m.1 70 11).toInt = (r.2 : Int) from b2)]
      exact (hRm r.2 b3 b4).1
    have ra := rk_rg (hv r.2)
    have ra1 := ra.1
    have ra2 := ra.2.1
    have n23 : K r.2 ≠ 23 := fun q => h1 ⟨z, q⟩
  · intro _ hu
    have := ra2 (by omega)
    omega
  · have := ra.2.2
    exfalso
    omega
  · have f := dSubE (X := (m.1 73 (m.1 70 11).toNatClampNeg).toInt) (Y := 33) (x := m.1 73 (m.1 70 11).toNatClampNeg) (y := (33 : Int32)) rfl (by decide) (by omega) (by omega)
    have hu : 13 ≤ K r.2 ∧ K r.2 ≤ 21 := by
      have := ra1 (by omega)
      have := ra2 this
      omega
    exact er_emit hs hme hv hR h h2 hS h0 (fun _ => by omega) ⟨by decide, fun _ => by omega⟩ (fun m' z g' S' e => v_X12_unit_70_93 (hQ m' _ z g' S' (goes (hf.2.mp h0) (Or.inr hu)) (fun h0' => ⟨(e h0').1, h0, (e h0').2⟩)))
theorem er_out {m : dM} {o p c : Nat} {x : Int32} {Q : dM → Prop} (hs : s ≤ 1) (hme : 420 * (s : Int) ≤ cds me) (h : ES me s m o p c (p + 1)) (h2 : m.2 = me.2) (hS : ST K P m r W) (hQ : ∀ (m' : dM) (p' c' : Nat), ES me s m' o p' c' (p' + 1) → c' ≤ 1 → (x.toInt = 0 → c' = 0) → tt m' = tt m → flt m' = flt m → m'.1 73 = m.1 73 → m'.1 70 11 = m.1 70 11 → m'.2 = me.2 → ST K P m' r W → Q m') : c_X12_comesOut_70 2 x m Q := by
  obtain ⟨⟨x1, x2, x3, x4⟩, a2, a3, a4, a5, a6, a7, ⟨q, a8, a8'⟩, a9, a10, a11⟩ := h
  have hl := Wk_len a7
  have h0 : (cds m) = ((cds me).toNat : Int) + q := by omega
  refine co_1 (c0 := (cds me).toNat) (B := 420 * s + 401) (by omega) (o + p) m o p c q (by omega) a6 a7 h0 a8' a9 ?_
  intro m' n' p' c' q' hF b1 b2 b3 b4 b5 b6 b7 b8 b9
  have hl' := Wk_len b2
  have t1 : tt m' = tt m := by unfold tt; rw [hF.2.1 11 (by decide) (by decide)]
  have f1 : flt m' = flt m := by unfold flt; rw [hF.2.1 13 (by decide) (by decide)]
  have u1 : wst m' = wst m := by unfold wst; rw [hF.2.1 15 (by decide) (by decide)]
  have o1 : opn m' = o := by unfold opn; rw [hF.2.1 12 (by decide) (by decide)]; exact a5
  refine hQ m' p' c' ⟨⟨fun k e1 e2 e3 e4 => (hF.1 k e1 e2 e3).trans (x1 k e1 e2 e3 e4), fun j e1 e2 e3 e4 e5 e6 e7 e8 => (hF.2.1 j e7 e8).trans (x2 j e1 e2 e3 e4 e5 e6 e7 e8), fun j hj => ?_, x4.tr (Wz.eq u1)⟩, by omega, by omega, by omega, o1, by rw [← hl'.1]; exact b1, by rw [← hl'.1]; exact b2, ⟨q', by omega, b6⟩, by omega, fun hz => ?_, a11⟩ b3 b4 t1 f1 (hF.1 73 (by decide) (by decide) (by decide)) (hF.2.1 11 (by decide) (by decide)) (b9.trans h2) (hS.of (hF.2.1 11 (by decide) (by decide)) (hF.2.1 13 (by decide) (by decide)) (hF.2.1 14 (by decide) (by decide)) (hF.2.1 15 (by decide) (by decide)) (hF.2.1 16 (by decide) (by decide)))
  · have g1 := hF.2.2 j (by omega)
    have g2 := x3 j hj
    exact ⟨g1.1.trans g2.1, g1.2.trans g2.2⟩
  · have := a10 (by omega)
    omega
theorem er_204 {m : dM} {o p c : Nat} {Q : dM → Prop} (hs : s ≤ 1) (hme : 420 * (s : Int) ≤ cds me) (hQ : ∀ m', EQ me s m' → m'.2 = me.2 → ST K P m' T W → Q m') (h : ES me s m o p c (p + 1)) (h2 : m.2 = me.2) (hS : ST K P m T W) (hz : flt m = 0 → o = 0 ∧ tt me + 1 ≤ tt m) : j_X12_expression_70_204 4 m Q := by
  refine v_X12_expression_70_204 ?_
  refine Wp.deep (er_out hs hme h h2 hS (fun m' p' c' h' b1 b2 b3 b4 _ _ g' S' => hQ m' ⟨h'.z, fun h0 => ?_⟩ g' S')) (Nat.le_of_ble_eq_true rfl)
  have hz := hz (by omega)
  have ho := hz.1
  subst ho
  obtain ⟨-, a2, a3, a4, a5, a6, a7, ⟨q, a8, a8'⟩, a9, a10, a11⟩ := h'
  have hl := Wk_len a7
  have hp : p' = 0 := by have := b2 (by decide); omega
  subst hp
  have hb := a10 h0
  refine ⟨by omega, by omega, by omega, by omega, by omega, by omega, by omega, ?_⟩
  rw [show (cds m' - cds me).toNat = q by omega]
  exact gDp_seg a8'
/-- a sign is pushed, and it goes on -/
theorem er_push {m : dM} {o p c cn : Nat} {Q : dM → Prop} (hs : s ≤ 1) (hR : RM K V P me) (h : ES me s m o p c (p + 1)) (h2 : m.2 = me.2) (hS : ST K P m r W) (hk : r.1 = 0 → K r.2 ≠ 24 ∧ K r.2 ≠ 25) (h0 : flt m = 0) (hW : Wk (upd (m.1 104) (o + p) (m.1 73 (m.1 70 11).toNatClampNeg)) (o + p + 1) o (p + 1) cn) (hQ : ∀ m', ES me s m' o (p + 1) cn (p + 1) → Mv 1 m m' ∨ tt m + 1 ≤ tt m' ∨ 0 < flt m' → (flt m' = 0 → tt m' = tt m + 1) → m'.2 = me.2 → ST K P m' (rb r gst) W → Q m') : (0 ≤ (m.1 70 11).toInt ∧ (m.1 70 11).toInt < 403) ∧ (0 ≤ (m.1 70 50).toInt ∧ (m.1 70 50).toInt < 64) ∧ c_X12_goesOn_70 3 (dSet (dSet m 104 (m.1 70 50).toNatClampNeg (m.1 73 (m.1 70 11).toNatClampNeg)) 70 50 ((m.1 70 50) + (1 : Int32))) Q := by
  obtain ⟨⟨x1, x2, x3, x4⟩, a2, a3, a4, a5, a6, a7, ⟨q, a8, a8'⟩, a9, a10, a11⟩ := h
  have hl := Wk_len a7
  have ew : (m.1 70 50).toInt = wtg m := rfl
  have et : (m.1 70 11).toInt = tt m := rfl
  have eW : (m.1 70 50).toNatClampNeg = o + p := by
    have := d_cl (x := m.1 70 50) (by omega)
    omega
  have fw := dAddE (X := wtg m) (Y := 1) (x := m.1 70 50) (y := (1 : Int32)) rfl (by decide) (by omega) (by omega)
  have hb := a10 h0
  refine ⟨by omega, by omega, ?_⟩
  rw [eW]
  have XM : XF me s (dSet (dSet m 104 (o + p) (m.1 73 (m.1 70 11).toNatClampNeg)) 70 50 ((m.1 70 50) + (1 : Int32))) := ⟨fun k e1 e2 e3 e4 => by rw [dSet_k e1, dSet_k e4]; exact x1 k e1 e2 e3 e4, fun j e1 e2 e3 e4 e5 e6 e7 e8 => by rw [dSet_j e8, dSet_k (by decide)]; exact x2 j e1 e2 e3 e4 e5 e6 e7 e8, fun j hj => x3 j hj, x4⟩
  refine Wp.deep (r_goesOn (m := dSet (dSet m 104 (o + p) (m.1 73 (m.1 70 11).toNatClampNeg)) 70 50 ((m.1 70 50) + (1 : Int32))) (hR.xf XM h2) (hS.of rfl rfl rfl rfl rfl) hk (fun m3 h3 g3 S3 => ?_)) (Nat.le_of_ble_eq_true rfl)
  obtain ⟨k1, k2, k3, k4, k5⟩ := h3
  have k4 : (flt m = 0 ∧ flt m3 = 0 ∧ tt m3 = tt m + 1) ∨ (0 < flt m3 ∧ tt m ≤ tt m3 ∧ tt m3 ≤ tt m + 1) := k4
  have k5 : Wz m m3 := k5
  have hf3 : 0 ≤ flt m3 := by rcases k4 with z | z <;> omega
  have ht3 : tt m ≤ tt m3 := by rcases k4 with z | z <;> omega
  have e46 : m3.1 70 46 = m.1 70 46 := k2 46 (by decide) (by decide) (by decide) (by decide) (by decide)
  have c3 : cds m3 = cds m := by unfold cds; rw [e46]
  refine hQ m3 ⟨⟨fun k e1 e2 e3 e4 => (k1 k e1).trans (by rw [dSet_k e1, dSet_k e4]; exact x1 k e1 e2 e3 e4), fun j e1 e2 e3 e4 e5 e6 e7 e8 => (k2 j e1 e3 e4 e5 e6).trans (by rw [dSet_j e8, dSet_k (by decide)]; exact x2 j e1 e2 e3 e4 e5 e6 e7 e8), fun j hj => ?_, x4.tr k5⟩, k3, by omega, hf3, ?_, ?_, ?_, ⟨q, by omega, gDp_congr (fun j _ _ => by rw [k1 102 (by decide), k1 103 (by decide)]; exact ⟨rfl, rfl⟩) a8'⟩, by omega, fun hz => ?_, a11⟩ ?_ (fun hz => by rcases k4 with z | z <;> omega) (g3.trans h2) S3
  · rw [k1 102 (by decide), k1 103 (by decide)]; exact x3 j hj
  · unfold opn; rw [k2 12 (by decide) (by decide) (by decide) (by decide) (by decide)]; exact a5
  · unfold wtg; rw [k2 50 (by decide) (by decide) (by decide) (by decide) (by decide)]; show (m.1 70 50 + (1 : Int32)).toInt = _; omega
  · rw [k1 104 (by decide), dSet_k (by decide), dSet_f, show o + (p + 1) = o + p + 1 by omega]; exact hW
  · rcases k4 with z | z <;> omega
  · right
    rcases k4 with z | z <;> omega
end RGX
end
section
/-! THE REFERENCE's expression, exactly, from its start to its end -/
section RGM
variable {K : Nat → Int} {V : Nat → Int64} {P : Nat → Nat} {W : gR} {me : dM} {s : Nat} {T : gR}
def GX (K : Nat → Int) (P : Nat → Nat) (me : dM) (s : Nat) (m : dM) (o p c D : Nat) (ph : Bool) (r T W : gR) : Prop := ES me s m o p c D ∧ m.2 = me.2 ∧ ST K P m r W ∧ TG K o ph r T
/-- behind a step -/
theorem TG.st {o o' : Nat} {ph ph' : Bool} {r T : gR} (h : TG K o ph r T) (h0 : r.1 = 0 → gX K 0 o ph r.2 = if 400 ≤ r.2 then (2, r.2) else gX K 0 o' ph' (r.2 + 1)) : TG K o' ph' (rb r gst) T := by
  by_cases z : r.1 = 0
  · have e := h.1 z
    rw [h0 z] at e
    rw [rb_k z]
    unfold gst
    by_cases q : 400 ≤ r.2
    · rw [if_pos q] at e ⊢
      exact ⟨fun w => absurd w (Nat.succ_ne_zero 1), fun _ => e⟩
    · rw [if_neg q] at e ⊢
      exact ⟨fun _ => e, fun w => absurd rfl w⟩
  · rw [rb_f z]
    exact ⟨fun q => absurd q z, h.2⟩
/-- behind a fault -/
theorem TG.fa {o o' : Nat} {ph ph' : Bool} {r T : gR} {c : Nat} (h : TG K o ph r T) (hc : c ≠ 0) (h0 : r.1 = 0 → gX K 0 o ph r.2 = (c, r.2)) : TG K o' ph' (if r.1 = 0 then (c, r.2) else r) T ∧ (if r.1 = 0 then (c, r.2) else r) = T ∧ T.1 ≠ 0 := by
  by_cases z : r.1 = 0
  · have e := h.1 z
    rw [h0 z] at e
    rw [if_pos z]
    exact ⟨⟨fun w => absurd w hc, fun _ => e⟩, e, by rw [← e]; exact hc⟩
  · rw [if_neg z]
    exact ⟨⟨fun q => absurd q z, h.2⟩, h.2 z, by rw [← h.2 z]; exact z⟩
theorem er_main {Q : dM → Prop} (hs : s ≤ 1) (hme : 420 * (s : Int) ≤ cds me) (hv : ∀ i, vk (K i)) (hR : RM K V P me) (hQ : ∀ m', EQ me s m' → m'.2 = me.2 → ST K P m' T W → Q m') : ∀ n : Nat,
    (∀ (x1 : Int32) (m : dM) (o p c : Nat) (r : gR), x1.toInt = 0 → GX K P me s m o p c p false r T W → mu m 6 3 n → j_X12_expression_70_12 4 x1 (1 : Int32) m Q) ∧
    (∀ (x1 : Int32) (m : dM) (o p c : Nat) (r : gR), x1.toInt = 0 → GX K P me s m o p c p false r T W → mu m 5 3 n → j_X12_expression_70_23 4 x1 m Q) ∧
    (∀ (x1 : Int32) (m : dM) (o p c : Nat) (r : gR), x1.toInt = 0 → GX K P me s m o p c p false r T W → o ≤ 6 → (flt m = 0 → o ≤ 5) → (r.1 = 0 → K r.2 = 40) → mu m 4 4 n → j_X12_expression_70_46 4 x1 m Q) ∧
    (∀ (x1 : Int32) (m : dM) (o p c : Nat) (r : gR), x1.toInt = 0 → GX K P me s m o p c (p + 1) true r T W → (flt m = 0 → tt me + 1 ≤ tt m) → mu m 6 3 n → j_X12_expression_70_96 4 x1 m Q) ∧
    (∀ (x1 : Int32) (m : dM) (o p c : Nat) (r : gR), x1.toInt = 0 → GX K P me s m o p c (p + 1) true r T W → (flt m = 0 → tt me + 1 ≤ tt m) → (r.1 = 0 → ¬ (K r.2 = 41 ∧ 0 < o)) → mu m 5 2 n → j_X12_expression_70_145 4 x1 m Q) ∧
    (∀ (x1 : Int32) (m : dM) (o p c : Nat) (r : gR), x1.toInt = 0 → GX K P me s m o p c (p + 1) true r T W → r.1 = 0 → tt me + 1 ≤ tt m → (K r.2 = 43 ∨ K r.2 = 45 ∨ K r.2 = 42 ∨ K r.2 = 47) → mu m 4 0 n → j_X12_expression_70_181 4 x1 m Q) := by
  intro n
  induction n with
  | zero =>
    refine ⟨fun x1 m o p c r hx h hμ => ?_, fun x1 m o p c r hx h hμ => ?_, fun x1 m o p c r hx h h6 h5 h40 hμ => ?_, fun x1 m o p c r hx h ht hμ => ?_, fun x1 m o p c r hx h ht h41 hμ => ?_, fun x1 m o p c r hx h h0 ht hk hμ => ?_⟩ <;> (have := h.1.2.1; exfalso; rcases hμ with q | q <;> omega)
  | succ n ih =>
    refine ⟨fun x1 m o p c r hx h hμ => ?_, fun x1 m o p c r hx h hμ => ?_, fun x1 m o p c r hx h h6 h5 h40 hμ => ?_, fun x1 m o p c r hx h ht hμ => ?_, fun x1 m o p c r hx h ht h41 hμ => ?_, fun x1 m o p c r hx h h0 ht hk hμ => ?_⟩
    · -- 12
      have hfl := h.2.2.1.fl
      have bad : flt m ≠ 0 → j_X12_expression_70_272 4 m Q := fun hf => v_X12_expression_70_272 (hQ m ⟨h.1.z, fun h0 => absurd h0 hf⟩ h.2.1 (by
        have z : r.1 ≠ 0 := fun z => hf (hfl.2.mpr z)
        rw [← h.2.2.2.2 z]; exact h.2.2.1))
      refine v_X12_expression_70_12 ⟨fun q => absurd q (by decide), fun _ => ⟨fun hf => bad hf, fun hf => ?_⟩⟩
      have hf : flt m = 0 := hf
      refine ih.2.1 x1 m o p c r hx h ?_
      left
      rcases hμ with q | q <;> omega
    · -- 23
      obtain ⟨hE, h2, hS, hT⟩ := h
      have hRm := hR.xf hE.1 h2
      have hfl := hS.fl
      refine v_X12_expression_70_23 ?_
      refine Wp.deep (q_is (k := 40) hv hRm hS (by decide) (by unfold vk; omega) (fun z hk => ⟨fun q => absurd q (by decide), fun _ => ?_⟩) (fun h1 => ⟨fun _ => ?_, fun q => absurd rfl q⟩)) (Nat.le_of_ble_eq_true rfl)
      · have h1 : flt m = 0 := hfl.2.mpr z
        have hb := hE.2.2.2.2.2.2.2.2.2.1 h1
        have eo : (m.1 70 12).toInt = o := hE.2.2.2.2.1
        refine ⟨fun hne => ?_, fun he => ?_⟩
        · refine ih.2.2.1 x1 m o p c r hx ⟨hE, h2, hS, hT⟩ (by omega) (fun _ => by omega) (fun _ => hk) ?_
          rcases hμ with q | q
          · left; omega
          · right; omega
        · have fa := TG.fa (o' := o) (ph' := false) (c := 2) hT (by decide) (fun _ => by rw [gX_U (hS.1 z).2.2.1, if_neg (by omega), if_pos hk, if_pos (by omega)])
          refine Wp.deep (r_fail hRm hS (c := 2) (by decide) (by decide) (fun m3 h3 g3 S3 => ?_)) (Nat.le_of_ble_eq_true rfl)
          have hf3 : flt m3 ≠ 0 := fun q => by
            have := S3.fl.2.mp q
            rw [fa.2.1] at this
            exact fa.2.2 this
          have hf4 := S3.fl.1
          refine ih.2.2.1 x1 m3 o p c _ hx ⟨hE.mv h3 (by decide), g3.trans h2, S3, fa.1⟩ (by omega) (fun q => by exfalso; omega) (fun q => by exfalso; rw [fa.2.1] at q; exact fa.2.2 q) ?_
          right
          have := hE.2.1
          rcases hμ with q | q <;> omega
      · refine r_unit hs hme hv hR hE h2 hS hT h1 (fun m2 r2 z g2 S2 T2 e => ⟨fun hc => ?_, fun hc => ?_⟩)
        · have hc : flt m2 ≤ 0 := hc
          have h0 : flt m2 = 0 := by have := z.2.2.2.1; omega
          have e := e h0
          refine ih.2.2.2.1 x1 m2 o p c r2 hx ⟨e.1, g2, S2, T2⟩ (fun _ => by have := hE.2.2.1; omega) ?_
          left
          have := hE.2.1
          rcases hμ with q | q <;> omega
        · have hc : 0 < flt m2 := hc
          have z2 : r2.1 ≠ 0 := fun q => by have := S2.fl.2.mpr q; omega
          exact hQ m2 ⟨z, fun h0 => by exfalso; omega⟩ g2 (by rw [← T2.2 z2]; exact S2)
    · -- 46
      obtain ⟨hE, h2, hS, hT⟩ := h
      have hfl := hS.fl
      have hT1 : TG K (o + 1) false (rb r gst) T := hT.st (fun z => by
        have := h5 (hfl.2.mpr z)
        have k40 := h40 z
        rw [gX_U (hS.1 z).2.2.1, if_neg (by omega), if_pos k40, if_neg (by omega)])
      obtain ⟨⟨x1', x2', x3', x4'⟩, a2, a3, a4, a5, a6, a7, ⟨q, a8, a8'⟩, a9, a10, a11⟩ := hE
      have eo : (m.1 70 12).toInt = o := a5
      have fo := dAddE (X := (o : Int)) (Y := 1) (x := m.1 70 12) (y := (1 : Int32)) eo (by decide) (by omega) (by omega)
      have XM : XF me s (dSet m 70 12 ((m.1 70 12) + (1 : Int32))) := ⟨fun k e1 e2 e3 e4 => by rw [dSet_k e1]; exact x1' k e1 e2 e3 e4, fun j e1 e2 e3 e4 e5 e6 e7 e8 => by rw [dSet_j e2]; exact x2' j e1 e2 e3 e4 e5 e6 e7 e8, fun j hj => x3' j hj, x4'⟩
      refine v_X12_expression_70_46 ?_
      refine Wp.deep (r_goesOn (m := dSet m 70 12 ((m.1 70 12) + (1 : Int32))) (hR.xf XM h2) (hS.of rfl rfl rfl rfl rfl) (fun z => by have := h40 z; omega) (fun m1 h1 g1 S1 => ?_)) (Nat.le_of_ble_eq_true rfl)
      have g1 : m1.2 = m.2 := g1
      obtain ⟨k1, k2, k3, k4, k5⟩ := h1
      have k4 : (flt m = 0 ∧ flt m1 = 0 ∧ tt m1 = tt m + 1) ∨ (0 < flt m1 ∧ tt m ≤ tt m1 ∧ tt m1 ≤ tt m + 1) := k4
      have k5 : Wz m m1 := k5
      have hf1 : 0 ≤ flt m1 := by rcases k4 with z | z <;> omega
      have ht1 : tt m ≤ tt m1 := by rcases k4 with z | z <;> omega
      have hl := Wk_len a7
      have e50 : m1.1 70 50 = m.1 70 50 := k2 50 (by decide) (by decide) (by decide) (by decide) (by decide)
      have ew : (m1.1 70 50).toInt = (o + p : Nat) := by rw [e50]; exact a6
      have eW : (m1.1 70 50).toNatClampNeg = o + p := by
        have := d_cl (x := m1.1 70 50) (by omega)
        omega
      have fw := dAddE (X := ((o + p : Nat) : Int)) (Y := 1) (x := m1.1 70 50) (y := (1 : Int32)) ew (by decide) (by omega) (by omega)
      refine ⟨by omega, ?_⟩
      rw [eW]
      have e46 : m1.1 70 46 = m.1 70 46 := k2 46 (by decide) (by decide) (by decide) (by decide) (by decide)
      have c1 : cds (dSet (dSet m1 104 (o + p) (6 : Int32)) 70 50 ((m1.1 70 50) + (1 : Int32))) = cds m := by show (m1.1 70 46).toInt = _; rw [e46]; rfl
      have f1 : flt (dSet (dSet m1 104 (o + p) (6 : Int32)) 70 50 ((m1.1 70 50) + (1 : Int32))) = flt m1 := rfl
      have t1 : tt (dSet (dSet m1 104 (o + p) (6 : Int32)) 70 50 ((m1.1 70 50) + (1 : Int32))) = tt m1 := rfl
      refine ih.2.1 x1 _ (o + 1) p 0 _ hx ⟨⟨⟨fun k e1 e2 e3 e4 => by rw [dSet_k e1, dSet_k e4, k1 k e1, dSet_k e1]; exact x1' k e1 e2 e3 e4, fun j e1 e2 e3 e4 e5 e6 e7 e8 => by rw [dSet_j e8, dSet_k (by decide), k2 j e1 e3 e4 e5 e6, dSet_j e2]; exact x2' j e1 e2 e3 e4 e5 e6 e7 e8, fun j hj => ?_, x4'.tr k5⟩, by omega, by omega, by omega, ?_, ?_, ?_, ⟨q, by omega, gDp_congr (fun j _ _ => ?_) a8'⟩, by omega, fun hz => ?_, by omega⟩, g1.trans h2, S1.of rfl rfl rfl rfl rfl, hT1⟩ ?_
      · rw [dSet_k (by decide), dSet_k (by decide), dSet_k (by decide), dSet_k (by decide), k1 102 (by decide), k1 103 (by decide)]; exact x3' j hj
      · show (m1.1 70 12).toInt = _
        rw [k2 12 (by decide) (by decide) (by decide) (by decide) (by decide)]
        show (m.1 70 12 + (1 : Int32)).toInt = _
        omega
      · show (m1.1 70 50 + (1 : Int32)).toInt = _
        omega
      · rw [dSet_k (by decide), dSet_f, show o + 1 + p = o + p + 1 by omega]
        refine Or.inl ⟨by unfold upd; rw [if_pos rfl]; decide, rfl, o, c, rfl, Wk_congr (fun j hj => ?_) a7⟩
        unfold upd
        rw [if_neg (by omega), k1 104 (by decide)]
        rfl
      · rw [dSet_k (by decide), dSet_k (by decide), dSet_k (by decide), dSet_k (by decide), k1 102 (by decide), k1 103 (by decide)]; exact ⟨rfl, rfl⟩
      · have h0 : flt m = 0 := by rcases k4 with z | z <;> omega
        have := a10 h0
        have := h5 h0
        omega
      · unfold mu
        rw [f1, t1]
        rcases k4 with z | z
        · left; rcases hμ with q | q <;> omega
        · right; rcases hμ with q | q <;> omega
    · -- 96
      have hE := h.1
      have h2 := h.2.1
      have hS := h.2.2.1
      have hT := h.2.2.2
      have hRm := hR.xf hE.1 h2
      have go : (r.1 = 0 → ¬ (K r.2 = 41 ∧ 0 < o)) → j_X12_expression_70_145 4 x1 m Q := fun hn => by
        refine ih.2.2.2.2.1 x1 m o p c r hx h ht hn ?_
        rcases hμ with q | q
        · left; omega
        · right; omega
      have eo : (m.1 70 12).toInt = o := hE.2.2.2.2.1
      refine v_X12_expression_70_96 ?_
      refine Wp.deep (q_is (k := 41) hv hRm hS (by decide) (by unfold vk; omega) (fun z hk => ⟨fun q => absurd q (by decide), fun _ => ⟨fun ho => go (fun _ q => by omega), fun ho => ?_⟩⟩) (fun h1 => ⟨fun _ => go (fun z q => h1 ⟨z, q.1⟩), fun q => absurd rfl q⟩)) (Nat.le_of_ble_eq_true rfl)
      have f0 : flt m = 0 := hS.fl.2.mpr z
      have hT1 : TG K (o - 1) true (rb r gst) T := hT.st (fun z => by rw [gX_O (hS.1 z).2.2.1, if_neg (by omega), if_pos (by omega), if_pos hk])
      refine Wp.deep (er_out hs hme hE h2 hS (fun m2 p' c' h' b1 b2 b3 b4 _ _ g2 S2 => ?_)) (Nat.le_of_ble_eq_true rfl)
      have hc' : c' = 0 := b2 (by decide)
      subst hc'
      obtain ⟨⟨x1', x2', x3', x4'⟩, a2, a3, a4, a5, a6, a7, ⟨q, a8, a8'⟩, a9, a10, a11⟩ := h'
      obtain ⟨o1, rfl⟩ : ∃ o1, o = o1 + 1 := ⟨o - 1, by omega⟩
      have eW : o1 + 1 + p' = (o1 + p') + 1 := by omega
      rw [eW] at a7
      have a7' := a7
      unfold Wk at a7'
      rcases a7' with ⟨-, -, o2, c2, d, w⟩ | ⟨-, b, -⟩ | ⟨-, b, -⟩
      · have ho2 : o2 = o1 := by omega
        subst ho2
        have ew : (m2.1 70 50).toInt = (o2 + 1 + p' : Nat) := a6
        have e12 : (m2.1 70 12).toInt = (o2 + 1 : Nat) := a5
        have fw := dSubE (X := ((o2 + 1 + p' : Nat) : Int)) (Y := 1) (x := m2.1 70 50) (y := (1 : Int32)) ew (by decide) (by omega) (by omega)
        have fo := dSubE (X := ((o2 + 1 : Nat) : Int)) (Y := 1) (x := m2.1 70 12) (y := (1 : Int32)) e12 (by decide) (by omega) (by omega)
        have hM : ES me s (dSet (dSet m2 70 50 ((m2.1 70 50) - (1 : Int32))) 70 12 ((m2.1 70 12) - (1 : Int32))) o2 p' c2 (p' + 1) := by
          refine ⟨⟨fun k e1 e2 e3 e4 => by rw [dSet_k e1, dSet_k e1]; exact x1' k e1 e2 e3 e4, fun j e1 e2 e3 e4 e5 e6 e7 e8 => by rw [dSet_j e2, dSet_j e8]; exact x2' j e1 e2 e3 e4 e5 e6 e7 e8, fun j hj => x3' j hj, x4'⟩, a2, a3, a4, ?_, ?_, w, ⟨q, a8, gDp_congr (g := m2.1) (fun j _ _ => ⟨rfl, rfl⟩) a8'⟩, a9, fun hz => ?_, by omega⟩
          · show (m2.1 70 12 - (1 : Int32)).toInt = _; omega
          · show (m2.1 70 50 - (1 : Int32)).toInt = _; omega
          · have := a10 hz
            refine ⟨this.1, by omega⟩
        refine Wp.deep (r_goesOn (m := dSet (dSet m2 70 50 ((m2.1 70 50) - (1 : Int32))) 70 12 ((m2.1 70 12) - (1 : Int32))) (hR.xf hM.1 g2) (S2.of rfl rfl rfl rfl rfl) (fun _ => by omega) (fun m3 h3 g3 S3 => ?_)) (Nat.le_of_ble_eq_true rfl)
        have g3 : m3.2 = m2.2 := g3
        have k4 : (flt m2 = 0 ∧ flt m3 = 0 ∧ tt m3 = tt m2 + 1) ∨ (0 < flt m3 ∧ tt m2 ≤ tt m3 ∧ tt m3 ≤ tt m2 + 1) := h3.2.2.2.1
        refine ih.2.2.2.1 x1 m3 o2 p' c2 _ hx ⟨hM.mv h3 (by decide), g3.trans g2, S3, hT1⟩ (fun h0 => ?_) ?_
        · rcases k4 with z | z
          · have := ht (by omega); omega
          · omega
        · unfold mu
          rcases k4 with z | z
          · left; rcases hμ with q | q <;> omega
          · right; rcases hμ with q | q <;> omega
      · exact absurd b (by decide)
      · exact absurd b (by decide)
    · -- 145
      have hE := h.1
      have h2 := h.2.1
      have hS := h.2.2.1
      have hT := h.2.2.2
      have hRm := hR.xf hE.1 h2
      have hfl := hS.fl
      have nx : r.1 = 0 → (K r.2 = 43 ∨ K r.2 = 45 ∨ K r.2 = 42 ∨ K r.2 = 47) → j_X12_expression_70_181 4 x1 m Q := fun z hk => by
        have h0 := hfl.2.mpr z
        refine ih.2.2.2.2.2 x1 m o p c r hx h z (ht h0) hk ?_
        rcases hμ with q | q
        · left; omega
        · right; omega
      have eo : (m.1 70 12).toInt = o := hE.2.2.2.2.1
      refine v_X12_expression_70_145 ?_
      refine Wp.deep (q_is (k := 43) hv hRm hS (by decide) (by unfold vk; omega) (fun z hk => ⟨fun _ => nx z (by omega), fun q => absurd q (by decide)⟩) (fun n1 => ⟨fun q => absurd rfl q, fun _ => ?_⟩)) (Nat.le_of_ble_eq_true rfl)
      refine Wp.deep (q_is (k := 45) hv hRm hS (by decide) (by unfold vk; omega) (fun z hk => ⟨fun _ => nx z (by omega), fun q => absurd q (by decide)⟩) (fun n2 => ⟨fun q => absurd rfl q, fun _ => ?_⟩)) (Nat.le_of_ble_eq_true rfl)
      refine Wp.deep (q_is (k := 42) hv hRm hS (by decide) (by unfold vk; omega) (fun z hk => ⟨fun _ => nx z (by omega), fun q => absurd q (by decide)⟩) (fun n3 => ⟨fun q => absurd rfl q, fun _ => ?_⟩)) (Nat.le_of_ble_eq_true rfl)
      refine Wp.deep (q_is (k := 47) hv hRm hS (by decide) (by unfold vk; omega) (fun z hk => ⟨fun q => absurd q (by decide), fun _ => nx z (by omega)⟩) (fun n4 => ⟨fun _ => ⟨fun ho => ?_, fun ho => ?_⟩, fun q => absurd rfl q⟩)) (Nat.le_of_ble_eq_true rfl)
      · have o0 : o = 0 := by omega
        refine er_204 hs hme hQ hE h2 ?_ (fun h0 => ⟨o0, ht h0⟩)
        by_cases z : r.1 = 0
        · have e := hT.1 z
          rw [gX_O (hS.1 z).2.2.1, if_neg (fun q => by rcases q with q | q | q | q; exact n1 ⟨z, q⟩; exact n2 ⟨z, q⟩; exact n3 ⟨z, q⟩; exact n4 ⟨z, q⟩), if_neg (by omega)] at e
          have er : r = (0, r.2) := by rw [← z]
          rw [← e, ← er]
          exact hS
        · rw [← hT.2 z]; exact hS
      · have fa := TG.fa (o' := o) (ph' := true) (c := 1) hT (by decide) (fun z => by rw [gX_O (hS.1 z).2.2.1, if_neg (fun q => by rcases q with q | q | q | q; exact n1 ⟨z, q⟩; exact n2 ⟨z, q⟩; exact n3 ⟨z, q⟩; exact n4 ⟨z, q⟩), if_pos (by omega), if_neg (fun q => h41 z ⟨q, by omega⟩)])
        refine Wp.deep (r_fail hRm hS (c := 1) (by decide) (by decide) (fun m5 h5 g5 S5 => ?_)) (Nat.le_of_ble_eq_true rfl)
        rw [fa.2.1] at S5
        exact er_204 hs hme hQ (hE.mv h5 (by decide)) (g5.trans h2) S5 (fun h0 => by exfalso; exact fa.2.2 (S5.fl.2.mp h0))
    · -- 181
      have hE := h.1
      have h2 := h.2.1
      have hS := h.2.2.1
      have hT := h.2.2.2
      have hRm := hR.xf hE.1 h2
      have hfl := hS.fl
      have f0 := hfl.2.mpr h0
      obtain ⟨s1, s2, s3, s4, s5⟩ := hS.1 h0
      have ek : (m.1 73 (m.1 70 11).toNatClampNeg).toInt = rk (K r.2) := by
        rw [d_cn (show (m.1 70 11).toInt = (r.2 : Int) from s2)]
        exact (hRm r.2 s3 s4).1
      have hT1 : TG K o false (rb r gst) T := hT.st (fun z => by rw [gX_O s3, if_pos hk])
      have hkk : r.1 = 0 → K r.2 ≠ 24 ∧ K r.2 ≠ 25 := fun _ => by omega
      have again : ∀ (m3 : dM) (p' c' : Nat), ES me s m3 o p' c' p' → (flt m3 = 0 → tt m3 = tt m + 1) → m3.2 = me.2 → ST K P m3 (rb r gst) W → j_X12_expression_70_12 4 x1 (1 : Int32) m3 Q := fun m3 p' c' h3 t3 g3 S3 => by
        refine ih.1 x1 m3 o p' c' _ hx ⟨h3, g3, S3, hT1⟩ ?_
        unfold mu
        have := h3.2.2.2.1
        have := hE.2.1
        by_cases hz : flt m3 = 0
        · left; have := t3 hz; rcases hμ with q | q <;> omega
        · right; rcases hμ with q | q <;> omega
      have strong : (rk (K r.2) = 10 ∨ rk (K r.2) = 15) → ∀ x : Int32, c_X12_comesOut_70 3 x m (fun m2 => (0 ≤ (m2.1 70 11).toInt ∧ (m2.1 70 11).toInt < 403) ∧ (0 ≤ (m2.1 70 50).toInt ∧ (m2.1 70 50).toInt < 64) ∧ c_X12_goesOn_70 3 (dSet (dSet m2 104 (m2.1 70 50).toNatClampNeg (m2.1 73 (m2.1 70 11).toNatClampNeg)) 70 50 ((m2.1 70 50) + (1 : Int32))) (fun m3 => j_X12_expression_70_12 4 x1 (1 : Int32) m3 Q)) := fun hk2 x => by
        refine Wp.deep (er_out hs hme hE h2 hS (fun m2 p' c' h' b1 b2 b3 b4 b5 b6 g2 S2 => ?_)) (Nat.le_of_ble_eq_true rfl)
        refine er_push (cn := 2) hs hR h' g2 S2 hkk (by omega) ?_ (fun m3 h3 _ t3 g3 S3 => again m3 _ _ h3 (fun hz => by have := t3 hz; omega) g3 S3)
        rw [b5, b6]
        refine Or.inr (Or.inr ⟨by unfold upd; rw [if_pos rfl, ek]; exact hk2, rfl, p', c', rfl, b1, Wk_congr (fun j hj => ?_) h'.2.2.2.2.2.2.1⟩)
        unfold upd
        rw [if_neg (by omega)]
      refine v_X12_expression_70_181 ?_
      refine Wp.deep (q_is (k := 42) hv hRm hS (by decide) (by unfold vk; omega) (fun z q2 => ⟨fun _ => strong (by rw [q2]; decide) _, fun q => absurd q (by decide)⟩) (fun g1 => ⟨fun q => absurd rfl q, fun _ => ?_⟩)) (Nat.le_of_ble_eq_true rfl)
      refine Wp.deep (q_is (k := 47) hv hRm hS (by decide) (by unfold vk; omega) (fun z q2 => ⟨fun q => absurd q (by decide), fun _ => strong (by rw [q2]; decide) _⟩) (fun g2 => ⟨fun _ => ?_, fun q => absurd rfl q⟩)) (Nat.le_of_ble_eq_true rfl)
      have hk2 : rk (K r.2) = 8 ∨ rk (K r.2) = 9 := by
        rcases hk with q | q | q | q
        · left; rw [q]; decide
        · right; rw [q]; decide
        · exact absurd ⟨h0, q⟩ g1
        · exact absurd ⟨h0, q⟩ g2
      refine Wp.deep (er_out hs hme hE h2 hS (fun m2 p' c' h' b1 b2 b3 b4 b5 b6 g2' S2 => ?_)) (Nat.le_of_ble_eq_true rfl)
      have hc' : c' = 0 := b2 (by decide)
      subst hc'
      refine er_push (cn := 1) hs hR h' g2' S2 hkk (by omega) ?_ (fun m3 h3 _ t3 g3 S3 => again m3 _ _ h3 (fun hz => by have := t3 hz; omega) g3 S3)
      rw [b5, b6]
      refine Or.inr (Or.inl ⟨by unfold upd; rw [if_pos rfl, ek]; exact hk2, rfl, p', rfl, Wk_congr (fun j hj => ?_) h'.2.2.2.2.2.2.1⟩)
      unfold upd
      rw [if_neg (by omega)]
theorem r_expression {Q : dM → Prop} {n : Nat} (hs : s ≤ 1) (hv : ∀ i, vk (K i)) (hR : RM K V P me) (hS : ST K P me (0, n) W) (ho : opn me = 0) (hc : 420 * (s : Int) ≤ cds me ∧ cds me ≤ 420 * s + tt me) (hQ : ∀ m', EQ me s m' → m'.2 = me.2 → ST K P m' (gE K n) W → Q m') : c_X12_expression_70 4 me Q := by
  refine v_X12_expression_70 ?_
  have ht := hS.2.2
  have hf : flt me = 0 := hS.fl.2.mpr rfl
  have hES : ES me s (dSet me 70 50 (0 : Int32)) 0 0 0 0 := by
    have c1 : cds (dSet me 70 50 (0 : Int32)) = cds me := rfl
    have f1 : flt (dSet me 70 50 (0 : Int32)) = flt me := rfl
    have t1 : tt (dSet me 70 50 (0 : Int32)) = tt me := rfl
    refine ⟨⟨fun k e1 _ _ _ => dSet_k e1, fun j _ _ _ _ _ _ _ e8 => dSet_j e8, fun j _ => ⟨rfl, rfl⟩, Wz.eq rfl⟩, by omega, by omega, by omega, ho, rfl, ⟨rfl, rfl, rfl⟩, ⟨0, by omega, rfl⟩, by omega, fun _ => ⟨by omega, by omega⟩, by omega⟩
  refine (er_main hs hc.1 hv hR hQ 4000).1 _ _ 0 0 0 (0, n) ho ⟨hES, rfl, hS.of rfl rfl rfl rfl rfl, fun _ => rfl, fun q => absurd rfl q⟩ ?_
  left
  have f1 : flt (dSet me 70 50 (0 : Int32)) = flt me := rfl
  have t1 : tt (dSet me 70 50 (0 : Int32)) = tt me := rfl
  omega
end RGM
end
section
/-! THE REFERENCE's law, exactly -/
theorem rb_as {r : gR} {f g : Nat → gR} : rb (rb r f) g = rb r (fun n => rb (f n) g) := by
  by_cases z : r.1 = 0
  · rw [rb_k z, rb_k z]
  · rw [rb_f z, rb_f z, rb_f z]
section RLW
variable {K : Nat → Int} {V : Nat → Int64} {P : Nat → Nat} {r W : gR}
theorem r_must {x1 : Int32} {k : Int} {m : dM} {Q : dM → Prop} (hv : ∀ i, vk (K i)) (hR : RM K V P m) (h : ST K P m r W) (hx : x1.toInt = rk k) (hk : vk k) (hk2 : k ≠ 24 ∧ k ≠ 25) (hQ : ∀ m' : dM, Mv 1 m m' → m'.2 = m.2 → ST K P m' (rb r (gnd K k)) W → Q m') : c_X12_must_70 3 x1 m Q := by
  refine v_X12_must_70 (Wp.deep (q_is hv hR h hx hk (fun z a => ⟨fun q => absurd q (by decide), fun _ => r_goesOn hR h (fun _ => by rw [a]; exact hk2) (fun m' hc g' h' => v_X12_must_70_20 (hQ m' hc g' ?_))⟩) (fun a => ⟨fun _ => Wp.deep (r_fail hR h (c := 1) (by decide) (by decide) (fun m' hc g' h' => v_X12_must_70_20 (hQ m' ⟨hc.1, hc.2.1, hc.2.2.1, Or.inr ?_, hc.2.2.2.2⟩ g' ?_))) (Nat.le_of_ble_eq_true rfl), fun q => absurd rfl q⟩)) (Nat.le_of_ble_eq_true rfl))
  · rw [rb_k z] at h' ⊢
    unfold gnd
    rw [if_pos a]
    exact h'
  · have hf' := h'.fl
    have : flt m' ≠ 0 := fun e => by
      have := hf'.2.mp e
      by_cases z : r.1 = 0
      · rw [if_pos z] at this; exact absurd this (Nat.succ_ne_zero 0)
      · rw [if_neg z] at this; exact z this
    rcases hc.2.2.2.1 with w | w <;> omega
  · by_cases z : r.1 = 0
    · rw [rb_k z]
      rw [if_pos z] at h'
      unfold gnd
      rw [if_neg (fun q => a ⟨z, q⟩)]
      exact h'
    · rw [rb_f z]
      rw [if_neg z] at h'
      exact h'
variable {mb : dM} {s : Nat} {T : gR}
theorem RM.lf {m : dM} (h : RM K V P mb) (hx : LF mb s m) (h2 : m.2 = mb.2) : RM K V P m := h.of (fun k a b => hx.1 k (by omega) (by omega)) (by rw [h2])
def LSz (mb : dM) (s : Nat) (e : Int) (bm : Int) (m : dM) : Prop := LF mb s m ∧ (0 ≤ tt m ∧ tt m ≤ 400) ∧ tt mb ≤ tt m ∧ 0 ≤ flt m ∧ (brs mb ≤ brs m ∧ brs m ≤ 130 * s + bm) ∧ (flt m = 0 → flt mb = 0 ∧ opn m = 0 ∧ (cds mb ≤ cds m ∧ cds m ≤ 420 * s + tt m) ∧ 4 * (brs m - 130 * s) + e ≤ tt m)
theorem LSz.mv {m m' : dM} {e bm : Int} {k : Int} (h : LSz mb s e bm m) (hm : Mv k m m') (hk : 0 ≤ k) : LSz mb s (e + k) bm m' := by
  obtain ⟨h1, h2, h3, h4, h5, h6⟩ := h
  have hm' := hm
  obtain ⟨k1, k2, k3, k4, k5⟩ := hm
  have b1 : brs m' = brs m := by unfold brs; rw [k2 40 (by decide) (by decide) (by decide) (by decide) (by decide)]
  have c1 : cds m' = cds m := by unfold cds; rw [k2 46 (by decide) (by decide) (by decide) (by decide) (by decide)]
  have o1 : opn m' = opn m := by unfold opn; rw [k2 12 (by decide) (by decide) (by decide) (by decide) (by decide)]
  refine ⟨h1.mv hm', k3, by rcases k4 with q | q <;> omega, by rcases k4 with q | q <;> omega, by omega, fun h0 => ?_⟩
  have z : flt m = 0 ∧ tt m' = tt m + k := by rcases k4 with q | q <;> omega
  have h6 := h6 z.1
  exact ⟨h6.1, by omega, by omega, by omega⟩
theorem LSz.br {m : dM} {k : Nat} {e bm : Int} {v : Int32} (h : LSz mb s e bm m) (hk : 97 ≤ k) (hk2 : k ≤ 101) (hb0 : 0 ≤ brs mb) (hb2 : bm < 130) : LSz mb s e bm (dSet m k (m.1 70 40).toNatClampNeg v) := by
  obtain ⟨h1, h2, h3, h4, h5, h6⟩ := h
  obtain ⟨e1, e2, e3, e4, e5⟩ := brs_set (m := m) (j := (m.1 70 40).toNatClampNeg) (v := v) (show k ≠ 70 by omega)
  refine ⟨h1.br hk hk2 h5.1 (by omega) (by omega), by omega, by omega, by omega, by omega, fun h0 => ?_⟩
  have h6 := h6 (by omega)
  exact ⟨h6.1, by omega, by omega, by omega⟩
theorem LSz.weak {m : dM} {e e' bm bm' : Int} (h : LSz mb s e bm m) (he : e' ≤ e) (hb : bm ≤ bm') : LSz mb s e' bm' m := by
  obtain ⟨h1, h2, h3, h4, h5, h6⟩ := h
  refine ⟨h1, h2, h3, h4, by omega, fun h0 => ?_⟩
  have h6 := h6 h0
  exact ⟨h6.1, h6.2.1, h6.2.2.1, by omega⟩
theorem LSz.bad {m : dM} {e e' bm : Int} (h : LSz mb s e bm m) (hf : 0 < flt m) : LSz mb s e' bm m := by
  obtain ⟨h1, h2, h3, h4, h5, h6⟩ := h
  exact ⟨h1, h2, h3, h4, h5, fun h0 => by exfalso; omega⟩
def LY (K : Nat → Int) (P : Nat → Nat) (mb : dM) (s : Nat) (e bm : Int) (m : dM) (r W : gR) : Prop := LSz mb s e bm m ∧ m.2 = mb.2 ∧ ST K P m r W
/-- an expression told within a law -/
theorem LY.ex {m : dM} {e bm : Int} {Q : dM → Prop} (hs : s ≤ 1) (hcb : 420 * (s : Int) ≤ cds mb) (hv : ∀ i, vk (K i)) (hR : RM K V P mb) (h : LY K P mb s e bm m r W) (hQ : ∀ m', LY K P mb s (e + 1) bm m' (rb r (gE K)) W → brs m' = brs m → tt m ≤ tt m' → (flt m' = 0 → flt m = 0) → Q m') : c_X12_expression_70 4 m Q := by
  obtain ⟨h, g2, hS⟩ := h
  by_cases z : r.1 = 0
  · have h0 : flt m = 0 := hS.fl.2.mpr z
    have h6 := h.2.2.2.2.2 h0
    have er : r = (0, r.2) := by rw [← z]
    have hS' : ST K P m (0, r.2) W := by rw [← er]; exact hS
    refine r_expression hs hv (hR.lf h.1 g2) hS' h6.2.1 ⟨by omega, h6.2.2.1.2⟩ (fun m' hq g' S' => ?_)
    obtain ⟨⟨x, z2, z3, z4, z5, z6⟩, hz⟩ := hq
    have b1 : brs m' = brs m := by unfold brs; rw [x.2.1 40 (by decide) (by decide) (by decide) (by decide) (by decide) (by decide) (by decide) (by decide)]
    refine hQ m' ⟨⟨h.1.xf h6.2.2.1.1 x, z2, by have := h.2.2.1; omega, z4, by have := h.2.2.2.2.1; omega, fun h0' => ?_⟩, g'.trans g2, by rw [rb_k z]; exact S'⟩ b1 z3 (fun _ => h0)
    have hz := hz h0'
    exact ⟨h6.1, hz.1, by omega, by omega⟩
  · have hf : 0 < flt m := by have := h.2.2.2.1; have := hS.fl.2; omega
    refine p_exprBad hf ?_
    have f1 : flt (dSet m 70 50 (0 : Int32)) = flt m := rfl
    obtain ⟨⟨h1, h2, h3, h4, h5⟩, t2, t3, t4, t5, t6⟩ := h
    exact hQ _ ⟨⟨⟨fun k e1 e2 => by rw [dSet_k e1]; exact h1 k e1 e2, fun j e1 e2 e3 e4 e5 e6 e7 e8 e9 => by rw [dSet_j e9]; exact h2 j e1 e2 e3 e4 e5 e6 e7 e8 e9, fun k j e1 e2 e3 => by rw [dSet_k (by omega)]; exact h3 k j e1 e2 e3, fun j e1 => h4 j e1, h5⟩, t2, t3, t4, t5, fun q => by exfalso; omega⟩, g2, by rw [rb_f z]; exact hS.of rfl rfl rfl rfl rfl⟩ rfl (Int.le_refl _) (fun q => by exfalso; omega)
theorem LY.br {m : dM} {k : Nat} {e bm : Int} {v : Int32} (h : LY K P mb s e bm m r W) (hk : 97 ≤ k) (hk2 : k ≤ 101) (hb0 : 0 ≤ brs mb) (hb2 : bm < 130) : LY K P mb s e bm (dSet m k (m.1 70 40).toNatClampNeg v) r W := ⟨h.1.br hk hk2 hb0 hb2, h.2.1, h.2.2.k (by omega)⟩
theorem LY.mv {m m' : dM} {e bm : Int} {k : Int} {r' : gR} (h : LY K P mb s e bm m r W) (hm : Mv k m m') (hk : 0 ≤ k) (h2 : m'.2 = m.2) (hS : ST K P m' r' W) : LY K P mb s (e + k) bm m' r' W := ⟨h.1.mv hm hk, h2.trans h.2.1, hS⟩
theorem LY.rm {m : dM} {e bm : Int} (h : LY K P mb s e bm m r W) (hR : RM K V P mb) : RM K V P m := hR.lf h.1.1 h.2.1
theorem LY.weak {m : dM} {e e' bm bm' : Int} (h : LY K P mb s e bm m r W) (he : e' ≤ e) (hb : bm ≤ bm') : LY K P mb s e' bm' m r W := ⟨h.1.weak he hb, h.2⟩
/-- a term: an expression, and a branch is done -/
theorem LY.term {m : dM} {e bm : Int} {Q : dM → Prop} (hs : s ≤ 1) (hcb : 420 * (s : Int) ≤ cds mb) (hbb : 130 * (s : Int) ≤ brs mb) (hbm : bm ≤ 110) (hv : ∀ i, vk (K i)) (hR : RM K V P mb) (h : LY K P mb s e bm m r W)
    (hQ : ∀ m', LY K P mb s (e - 3) (bm + 1) m' (rb r (gE K)) W → tt m ≤ tt m' → (flt m' = 0 → flt m = 0) → Q m') : c_X12_term_70 5 m Q := by
  have hb5 := h.1.2.2.2.2.1
  have eb : ((m.1 70 40).toNatClampNeg : Int) = brs m := d_cl (show 0 ≤ brs m by omega)
  have fin : ∀ m1 : dM, LY K P mb s (e + 1) bm m1 (rb r (gE K)) W → brs m1 = brs m → tt m ≤ tt m1 → (flt m1 = 0 → flt m = 0) → j_X12_term_70_24 5 m1 Q := by
    intro m1 h1 hb htt hff
    have eb1 : (m1.1 70 40).toInt = brs m1 := rfl
    have fb := dAddE (X := brs m1) (Y := 1) (x := m1.1 70 40) (y := (1 : Int32)) rfl (by decide) (by omega) (by omega)
    have g1 := h1.br (k := 101) (v := m1.1 70 46) (by omega) (by omega) (by omega) (by omega)
    have SS := g1.2.2.j (j := 40) (v := m1.1 70 40 + 1) (by decide)
    refine v_X12_term_70_24 ⟨by omega, hQ _ ⟨?_, h1.2.1, SS⟩ (show tt m ≤ tt m1 from htt) (show flt m1 = 0 → flt m = 0 from hff)⟩
    have eb2 : ((m1.1 70 40).toNatClampNeg : Int) = brs m1 := d_cl (show 0 ≤ brs m1 by omega)
    generalize hM : dSet m1 101 (m1.1 70 40).toNatClampNeg (m1.1 70 46) = M at g1 SS ⊢
    have e40 : M.1 70 40 = m1.1 70 40 := by rw [← hM]; rfl
    obtain ⟨⟨⟨h1, h2, h3, h4, h5⟩, t2, t3, t4, t5, t6⟩, -⟩ := g1
    have bM : brs M = brs m1 := by unfold brs; rw [e40]
    have c1 : cds (dSet M 70 40 (m1.1 70 40 + 1)) = cds M := rfl
    have f1 : flt (dSet M 70 40 (m1.1 70 40 + 1)) = flt M := rfl
    have q1 : tt (dSet M 70 40 (m1.1 70 40 + 1)) = tt M := rfl
    have o1 : opn (dSet M 70 40 (m1.1 70 40 + 1)) = opn M := rfl
    have b1 : brs (dSet M 70 40 (m1.1 70 40 + 1)) = brs m1 + 1 := fb
    refine ⟨⟨fun k a1 a2 => by rw [dSet_k a1]; exact h1 k a1 a2, fun j a1 a2 a3 a4 a5 a6 a7 a8 a9 => by rw [dSet_j a7]; exact h2 j a1 a2 a3 a4 a5 a6 a7 a8 a9, fun k j a1 a2 a3 => by rw [dSet_k (by omega)]; exact h3 k j a1 a2 a3, fun j a1 => h4 j a1, h5⟩, by omega, by omega, by omega, by omega, fun h0 => ?_⟩
    have t6 := t6 (by omega)
    exact ⟨t6.1, by omega, by omega, by omega⟩
  have eb0 : (m.1 70 40).toInt = brs m := rfl
  have g1 := h.br (k := 100) (v := m.1 70 46) (by omega) (by omega) (by omega) (by omega)
  refine v_X12_term_70 ⟨by omega, fun hf => ?_, fun hf => ?_⟩
  · have hf : flt m ≠ 0 := hf
    have z : r.1 ≠ 0 := fun z => hf (h.2.2.fl.2.mpr z)
    have f1 : flt (dSet m 100 (m.1 70 40).toNatClampNeg (m.1 70 46)) = flt m := rfl
    exact fin _ ⟨⟨g1.1.1, g1.1.2.1, g1.1.2.2.1, g1.1.2.2.2.1, g1.1.2.2.2.2.1, fun q => by exfalso; omega⟩, g1.2.1, by rw [rb_f z]; exact g1.2.2⟩ rfl (Int.le_refl _) (fun q => q)
  · have hf : flt m = 0 := hf
    exact g1.ex hs hcb hv hR (fun m1 h1 hb htt hz => fin m1 h1 hb htt (fun _ => hf))
theorem LY.must {x1 : Int32} {k : Int} {m : dM} {e bm : Int} {Q : dM → Prop} (hv : ∀ i, vk (K i)) (hR : RM K V P mb) (h : LY K P mb s e bm m r W) (hx : x1.toInt = rk k) (hk : vk k) (hk2 : k ≠ 24 ∧ k ≠ 25) (hQ : ∀ m' : dM, Mv 1 m m' → LY K P mb s (e + 1) bm m' (rb r (gnd K k)) W → Q m') : c_X12_must_70 3 x1 m Q := r_must hv (h.rm hR) h.2.2 hx hk hk2 (fun m' hm g' S' => hQ m' hm (h.mv hm (by decide) g' S'))
theorem rl_main {x1 x2 : Int32} {Q : dM → Prop} (hs : s ≤ 1) (hcb : 420 * (s : Int) ≤ cds mb) (hbb : 130 * (s : Int) ≤ brs mb) (hx1 : 0 ≤ x1.toInt ∧ x1.toInt ≤ 3) (hsd : (mb.1 70 19).toInt = s) (hv : ∀ i, vk (K i)) (hR : RM K V P mb)
    (hQ1 : ∀ m', LY K P mb s 0 101 m' T W → 0 < flt m' → Q m') (hQ2 : ∀ m', LY K P mb s 0 101 m' T W → flt m' = 0 → Q (dSet (dSet m' 95 (((4 : Int32) * (m'.1 70 19)) + x1).toNatClampNeg x2) 96 (((4 : Int32) * (m'.1 70 19)) + x1).toNatClampNeg (m'.1 70 40))) : ∀ n : Nat,
    (∀ (x3 : Int32) (b : Nat) (m : dM) (r : gR), LY K P mb s 2 100 m r W → x3.toInt = b → b ≤ 4 → rb r (gIf K (4 - b)) = T → mu m 6 1 n → j_X12_tellLaw_70_12 6 x1 x2 x3 m Q) ∧
    (∀ (x3 : Int32) (b : Nat) (m : dM) (r : gR), LY K P mb s 2 99 m r W → x3.toInt = b → b ≤ 4 → rb r (gIf K (4 - b)) = T → (r.1 = 0 → b ≤ 3 ∧ K r.2 = 10) → mu m 5 0 n → j_X12_tellLaw_70_38 6 x1 x2 x3 m Q) ∧
    (∀ (x3 : Int32) (b : Nat) (m : dM) (r : gR), LY K P mb s 6 99 m r W → x3.toInt = b → b ≤ 4 → rb r (fun n => rb (gnd K 11 n) (fun n => rb (gE K n) (fun n => rb (gnd K 12 n) (gIf K (4 - b))))) = T → mu m 7 2 n → j_X12_tellLaw_70_110 6 x1 x2 x3 m Q) := by
  have last : ∀ (m : dM) (r : gR), LY K P mb s 2 100 m r W → rb (rb r (gE K)) (gnd K 59) = T → j_X12_tellLaw_70_129 6 x1 x2 m Q := by
    intro m r h hT
    have hb5 := h.1.2.2.2.2.1
    have eb0 : (m.1 70 40).toInt = brs m := rfl
    have g := h.br (k := 97) (v := (0 : Int32)) (by omega) (by omega) (by omega) (by omega)
    refine v_X12_tellLaw_70_129 ⟨by omega, ?_⟩
    refine g.term hs hcb hbb (by omega) hv hR (fun m1 h1 _ _ => ?_)
    refine Wp.deep (h1.must (k := 59) hv hR (by decide) (by unfold vk; omega) (by decide) (fun m2 hm2 h2 => ?_)) (Nat.le_of_ble_eq_true rfl)
    rw [hT] at h2
    have g2 : LY K P mb s 0 101 m2 T W := h2.weak (by decide) (by decide)
    have e19 : (m2.1 70 19).toInt = s := by rw [g2.1.1.2.1 19 (by decide) (by decide) (by decide) (by decide) (by decide) (by decide) (by decide) (by decide) (by decide)]; exact hsd
    have fm := dMulE (X := 4) (Y := (s : Int)) (x := (4 : Int32)) (y := m2.1 70 19) (by decide) e19 (by omega) (by omega)
    have fa := dAddE (X := 4 * (s : Int)) (Y := x1.toInt) (x := (4 : Int32) * m2.1 70 19) (y := x1) fm rfl (by omega) (by omega)
    refine ⟨fun hc => ⟨by omega, ⟨by omega, hQ2 m2 g2 ?_⟩⟩, fun hc => hQ1 m2 g2 hc⟩
    have hc : flt m2 ≤ 0 := hc
    have := g2.1.2.2.2.1
    omega
  have gIf_n : ∀ (b n : Nat), K n ≠ 10 → gIf K b n = rb (gE K n) (gnd K 59) := fun b n hn => by
    cases b with
    | zero => show (if K n = 10 then _ else _) = _; rw [if_neg hn]
    | succ b => show (if K n = 10 then _ else _) = _; rw [if_neg hn]
  intro n
  induction n with
  | zero =>
    refine ⟨fun x3 b m r h h3 hb hT hμ => ?_, fun x3 b m r h h3 hb hT h4 hμ => ?_, fun x3 b m r h h3 hb hT hμ => ?_⟩ <;> (have := h.1.2.1; exfalso; rcases hμ with q | q <;> omega)
  | succ n ih =>
    refine ⟨fun x3 b m r h h3 hb hT hμ => ?_, fun x3 b m r h h3 hb hT h4 hμ => ?_, fun x3 b m r h h3 hb hT hμ => ?_⟩
    · have hfl := h.2.2.fl
      have hl : (r.1 = 0 → K r.2 ≠ 10) → rb (rb r (gE K)) (gnd K 59) = T := fun hn => by
        rw [rb_as, ← hT]
        by_cases z : r.1 = 0
        · rw [rb_k z, rb_k z, gIf_n _ _ (hn z)]
        · rw [rb_f z, rb_f z]
      refine v_X12_tellLaw_70_12 ⟨fun q => last m r h (hl (fun z => absurd (hfl.2.mpr z) q)), fun h0 => ?_⟩
      have h0 : flt m = 0 := h0
      have h6 := h.1.2.2.2.2.2 h0
      have hb5 := h.1.2.2.2.2.1
      have h' : LY K P mb s 2 99 m r W := ⟨⟨h.1.1, h.1.2.1, h.1.2.2.1, h.1.2.2.2.1, by have := h.1.2.1; omega, h.1.2.2.2.2.2⟩, h.2⟩
      refine Wp.deep (q_is (k := 10) hv (h.rm hR) h.2.2 (by decide) (by unfold vk; omega) (fun z hk => ⟨fun q => absurd q (by decide), fun _ => ⟨fun hne => ?_, fun he => ?_⟩⟩) (fun h1 => ⟨fun _ => last m r h (hl (fun z hk => h1 ⟨z, hk⟩)), fun q => absurd rfl q⟩)) (Nat.le_of_ble_eq_true rfl)
      · have e4 : (4 : Int32).toInt = 4 := by decide
        refine ih.2.1 x3 b m r h' h3 hb hT (fun _ => ⟨by omega, hk⟩) ?_
        left
        rcases hμ with q | q <;> omega
      · have e4 : (4 : Int32).toInt = 4 := by decide
        have b4 : b = 4 := by omega
        refine Wp.deep (r_fail (h.rm hR) h.2.2 (c := 2) (by decide) (by decide) (fun m2 h2 g2 S2 => ?_)) (Nat.le_of_ble_eq_true rfl)
        rw [if_pos z] at S2
        have f2 := S2.fl
        have hf2 : flt m2 ≠ 0 := fun q => absurd (f2.2.mp q) (Nat.succ_ne_zero 1)
        refine ih.2.1 x3 b m2 (2, r.2) ((h'.mv h2 (by decide) g2 S2).weak (by decide) (by decide)) h3 hb ?_ (fun q => absurd q (Nat.succ_ne_zero 1)) ?_
        · rw [← hT, rb_k z, b4, rb_2]
          show _ = (if K r.2 = 10 then _ else _)
          rw [if_pos hk]
        · right
          have := h.1.2.1
          rcases hμ with q | q <;> omega
    · have hfl := h.2.2.fl
      have bd : 0 < flt m → LY K P mb s 0 101 m T W := fun hc => by
        have z : r.1 ≠ 0 := fun z => by have := hfl.2.mpr z; omega
        rw [rb_f z] at hT
        rw [← hT]
        exact ⟨(LSz.bad h.1 hc).weak (Int.le_refl _) (by decide), h.2⟩
      refine v_X12_tellLaw_70_38 ⟨fun hc => ?_, fun hc => hQ1 m (bd hc) hc⟩
      have h0 : flt m = 0 := by
        have hc : flt m ≤ 0 := hc
        have := h.1.2.2.2.1
        omega
      have z := hfl.2.mp h0
      obtain ⟨h34, hk10⟩ := h4 z
      have f3 := dAddE (X := x3.toInt) (Y := 1) (x := x3) (y := (1 : Int32)) rfl (by decide) (by omega) (by omega)
      have hT' : rb (rb (rb (rb (rb r gst) (gE K)) (gnd K 60)) (gE K)) (fun n => rb (gnd K 11 n) (fun n => rb (gE K n) (fun n => rb (gnd K 12 n) (gIf K (4 - (b + 1)))))) = T := by
        rw [rb_as, rb_as, rb_as, rb_as, ← hT, rb_k z, rb_k z, show 4 - b = (4 - (b + 1)) + 1 by omega]
        show _ = (if K r.2 = 10 then _ else _)
        rw [if_pos hk10]
      refine Wp.deep (r_goesOn (h.rm hR) h.2.2 (fun _ => by omega) (fun m1 h1 gg1 S1 => ?_)) (Nat.le_of_ble_eq_true rfl)
      have k41 := h1.2.2.2.1
      have g1 : LY K P mb s 3 99 m1 (rb r gst) W := h.mv h1 (by decide) gg1 S1
      have hb5 := g1.1.2.2.2.2.1
      have eb0 : (m1.1 70 40).toInt = brs m1 := rfl
      refine ⟨by omega, ⟨by omega, ?_⟩⟩
      have g2 : LY K P mb s 3 99 (dSet (dSet m1 97 (m1.1 70 40).toNatClampNeg (1 : Int32)) 98 (m1.1 70 40).toNatClampNeg (m1.1 70 46)) (rb r gst) W :=
        (g1.br (k := 97) (v := (1 : Int32)) (by omega) (by omega) (by omega) (by omega)).br (k := 98) (v := m1.1 70 46) (by omega) (by omega) (by omega) (by omega)
      refine Wp.deep (g2.ex hs hcb hv hR (fun m2 g3 hb ht2 hz => ?_)) (Nat.le_of_ble_eq_true rfl)
      have hb' : brs m2 = brs m1 := hb
      refine Wp.deep (g3.must (k := 60) hv hR (by decide) (by unfold vk; omega) (by decide) (fun m3 h3' g4 => ?_)) (Nat.le_of_ble_eq_true rfl)
      have hb6 := g4.1.2.2.2.2.1
      have w3 : (m3.1 70 40).toInt = brs m3 := rfl
      refine ⟨by omega, ?_⟩
      have g5 := g4.br (k := 99) (v := m3.1 70 46) (by omega) (by omega) (by omega) (by omega)
      have k43 := h3'.2.2.2.1
      refine ⟨fun hf => ?_, fun hf => ?_⟩
      · have hf : flt m3 ≠ 0 := hf
        have w4 : flt (dSet m3 99 (m3.1 70 40).toNatClampNeg (m3.1 70 46)) = flt m3 := rfl
        have := g4.1.2.2.2.1
        have z3 : (rb (rb (rb r gst) (gE K)) (gnd K 60)).1 ≠ 0 := fun q => hf (g4.2.2.fl.2.mpr q)
        rw [rb_f z3] at hT'
        refine ih.2.2 _ (b + 1) _ _ ⟨LSz.bad g5.1 (by omega), g5.2⟩ (by omega) (by omega) hT' ?_
        right
        have := h.1.2.1
        rcases hμ with q | q <;> omega
      · have hf : flt m3 = 0 := hf
        refine Wp.deep (g5.ex hs hcb hv hR (fun m4 g6 hb4 ht4 hz4 => ?_)) (Nat.le_of_ble_eq_true rfl)
        refine ih.2.2 _ (b + 1) _ _ g6 (by omega) (by omega) hT' ?_
        have t4 := g6.1.2.1
        have s4 := g6.1.2.2.2.1
        have a1 : tt m1 ≤ tt m2 := ht2
        have a2 : tt m3 ≤ tt m4 := ht4
        have a3 := h.1.2.1
        unfold mu
        by_cases q0 : flt m4 = 0
        · left
          rcases k43 with y | y <;> rcases hμ with q | q <;> rcases k41 with z | z <;> omega
        · right
          rcases hμ with q | q <;> omega
    · refine v_X12_tellLaw_70_110 ?_
      refine Wp.deep (h.must (k := 11) hv hR (by decide) (by unfold vk; omega) (by decide) (fun m1 h1 g1 => ?_)) (Nat.le_of_ble_eq_true rfl)
      have k41 := h1.2.2.2.1
      refine g1.term hs hcb hbb (by omega) hv hR (fun m2 g2 a1 a2 => ?_)
      refine Wp.deep (g2.must (k := 12) hv hR (by decide) (by unfold vk; omega) (by decide) (fun m3 h3' g3 => ?_)) (Nat.le_of_ble_eq_true rfl)
      refine ih.1 x3 b m3 _ (g3.weak (by decide) (by decide)) h3 hb (by rw [rb_as, rb_as, rb_as]; exact hT) ?_
      have k43 := h3'.2.2.2.1
      have a3 := h.1.2.1
      have a4 := g3.1.2.2.2.1
      unfold mu
      by_cases q0 : flt m3 = 0
      · left
        rcases k43 with y | y <;> rcases k41 with z | z <;> rcases hμ with q | q <;> omega
      · right
        rcases hμ with q | q <;> omega
/-- a law told: what has changed -/
def LX (mb : dM) (s : Nat) (m : dM) : Prop := (∀ k : Nat, k ≠ 70 → k < 95 ∨ 104 < k → m.1 k = mb.1 k) ∧ (∀ j : Nat, j ≠ 11 → j ≠ 12 → j ≠ 13 → j ≠ 14 → j ≠ 15 → j ≠ 16 → j ≠ 40 → j ≠ 46 → j ≠ 50 → m.1 70 j = mb.1 70 j) ∧ m.2 = mb.2 ∧ (flt m = 0 → opn m = 0 ∧ (cds mb ≤ cds m ∧ cds m ≤ 420 * s + tt m) ∧ brs mb ≤ brs m ∧ 4 * (brs m - 130 * s) ≤ tt m)
theorem r_tellLaw {x1 : Int32} {Q : dM → Prop} (hs : s ≤ 1) (hsd : (mb.1 70 19).toInt = s) (hx1 : 0 ≤ x1.toInt ∧ x1.toInt ≤ 3) (hv : ∀ i, vk (K i)) (hR : RM K V P mb) (hS : ST K P mb r W) (hb : 130 * (s : Int) ≤ brs mb ∧ brs mb ≤ 130 * s + 100) (hc : 420 * (s : Int) ≤ cds mb) (hG : r.1 = 0 → opn mb = 0 ∧ cds mb ≤ 420 * s + tt mb ∧ 4 * (brs mb - 130 * s) + 1 ≤ tt mb) (hQ : ∀ m', LX mb s m' → ST K P m' (rb r (fun n => rb (gnd K 61 n) (gIf K 4))) W → Q m') : c_X12_tellLaw_70 6 x1 mb Q := by
  have hfl := hS.fl
  have st0 : LY K P mb s 1 100 mb r W := by
    refine ⟨⟨⟨fun _ _ _ => rfl, fun _ _ _ _ _ _ _ _ _ _ => rfl, fun _ _ _ _ _ => rfl, fun _ _ => ⟨rfl, rfl⟩, Wz.eq rfl⟩, hS.2.2, Int.le_refl _, hfl.1, ⟨Int.le_refl _, hb.2⟩, fun h0 => ?_⟩, rfl, hS⟩
    have g := hG (hfl.2.mp h0)
    exact ⟨h0, g.1, ⟨Int.le_refl _, g.2.1⟩, g.2.2⟩
  refine v_X12_tellLaw_70 ?_
  refine Wp.deep (st0.must (k := 61) hv hR (by decide) (by unfold vk; omega) (by decide) (fun m1 h1 st1 => ?_)) (Nat.le_of_ble_eq_true rfl)
  refine (rl_main (x2 := m1.1 70 40) (T := rb r (fun n => rb (gnd K 61 n) (gIf K 4))) hs hc hb.1 hx1 hsd hv hR (fun m' h' hf' => ?_) (fun m' h' hf' => ?_) 5000).1 (0 : Int32) 0 m1 _ st1 (by decide) (by decide) rb_as ?_
  · exact hQ m' ⟨fun k e1 e2 => h'.1.1.1 k e1 (by omega), h'.1.1.2.1, h'.2.1, fun q => by exfalso; omega⟩ h'.2.2
  · have h6 := h'.1.2.2.2.2.2 hf'
    refine hQ _ ⟨fun k e1 e2 => by rw [dSet_k (by omega), dSet_k (by omega)]; exact h'.1.1.1 k e1 (by omega), h'.1.1.2.1, h'.2.1, fun _ => ⟨h6.2.1, h6.2.2.1, h'.1.2.2.2.2.1.1, ?_⟩⟩ ((h'.2.2.k (by decide)).k (by decide))
    have w := h6.2.2.2
    show 4 * (brs m' - 130 * s) ≤ tt m'
    omega
  · have k4 := h1.2.2.2.1
    unfold mu
    have := h1.2.2.1
    rcases k4 with z | z
    · left; omega
    · right; omega
end RLW
end
section
/-! THE REFERENCE's table of names, and its wires, exactly -/
def NM (V : Nat → Int64) (s : Nat) (st : mSt) (m : dM) : Prop :=
  (∀ k : Nat, k < st.1.length + st.2.2.1.length → (∃ i : Nat, i < st.1.length ∧ m.2.1 78 k = fN V st i ∧ (m.1 79 k).toInt = (i : Int)) ∨ (∃ u : Nat, u < st.2.2.1.length ∧ m.2.1 78 k = uN V st u ∧ (m.1 79 k).toInt < 0)) ∧
  (∀ i : Nat, i < st.1.length → ∃ k : Nat, k < st.1.length + st.2.2.1.length ∧ m.2.1 78 k = fN V st i ∧ (m.1 79 k).toInt = (i : Int)) ∧
  (∀ u : Nat, u < st.2.2.1.length → ∃ k : Nat, k < st.1.length + st.2.2.1.length ∧ m.2.1 78 k = uN V st u) ∧
  (∀ i j : Nat, i < st.1.length → j < st.1.length → fN V st i = fN V st j → i = j) ∧
  (∀ w : Nat, w < st.2.1.length → (m.1 83 (10 * s + w)).toInt = ((wE st w).1 : Int) ∧ (m.1 84 (10 * s + w)).toInt = ((wE st w).2 : Int))
section RTB
variable {V : Nat → Int64} {s : Nat} {st : mSt} {m m' : dM}
theorem NM.of (h : NM V s st m) (h79 : m'.1 79 = m.1 79) (h83 : m'.1 83 = m.1 83) (h84 : m'.1 84 = m.1 84) (h78 : m'.2.1 78 = m.2.1 78) : NM V s st m' := by
  unfold NM
  rw [h79, h83, h84, h78]
  exact h
theorem NM.cx (h : NM V s st m) (hc : Cx m m') : NM V s st m' := h.of (hc.1 79 (by decide)) (hc.1 83 (by decide)) (hc.1 84 (by decide)) (by rw [hc.2.2])
theorem fF_is {y : Int64} {a : Nat} (ha : a < st.1.length) (e : fN V st a = y) (inj : ∀ i j : Nat, i < st.1.length → j < st.1.length → fN V st i = fN V st j → i = j) : fF V st y = some a := by
  cases h : fF V st y with
  | none =>
    have := (ix_none _ _).mp h
    exact absurd e (this a (Nat.zero_le _) (by omega))
  | some b =>
    have hb := ix_some _ _ h
    rw [inj a b ha (by omega) (by rw [e, hb.2.2])]
theorem NM.kn (h : NM V s st m) {y : Int64} : (∃ k : Nat, k < st.1.length + st.2.2.1.length ∧ m.2.1 78 k = y) ↔ knw V st y = true := by
  obtain ⟨h1, h2, h3, h4, -⟩ := h
  constructor
  · rintro ⟨k, hk, e⟩
    rcases h1 k hk with ⟨i, hi, e1, -⟩ | ⟨u, hu, e1, -⟩
    · have : fF V st y = some i := fF_is hi (by rw [← e1, e]) h4
      unfold knw
      rw [this]
      rfl
    · unfold knw
      cases hu2 : uF V st y with
      | none =>
        have := (ix_none _ _).mp hu2
        exact absurd (by rw [← e1, e]) (this u (Nat.zero_le _) (by omega))
      | some b => rw [Bool.or_eq_true]; exact Or.inr rfl
  · intro hy
    unfold knw at hy
    rw [Bool.or_eq_true] at hy
    rcases hy with q | q
    · cases hf : fF V st y with
      | none => rw [hf] at q; cases q
      | some b =>
        have hb := ix_some _ _ hf
        obtain ⟨k, hk, e, -⟩ := h2 b (by omega)
        exact ⟨k, hk, by rw [e, hb.2.2]⟩
    · cases hf : uF V st y with
      | none => rw [hf] at q; cases q
      | some b =>
        have hb := ix_some _ _ hf
        obtain ⟨k, hk, e⟩ := h3 b (by omega)
        exact ⟨k, hk, by rw [e, hb.2.2]⟩
theorem NM.sm (h : NM V s st m) {y : Int64} {k : Nat} (hk : k < st.1.length + st.2.2.1.length) (e : m.2.1 78 k = y) (h0 : 0 ≤ (m.1 79 k).toInt) : ∃ a : Nat, fF V st y = some a ∧ (m.1 79 k).toInt = (a : Int) := by
  obtain ⟨h1, h2, h3, h4, -⟩ := h
  rcases h1 k hk with ⟨i, hi, e1, e2⟩ | ⟨u, hu, e1, e2⟩
  · exact ⟨i, fF_is hi (by rw [← e1, e]) h4, e2⟩
  · exfalso; omega
theorem NM.nn (h : NM V s st m) {y : Int64} (hn : ∀ k : Nat, k < st.1.length + st.2.2.1.length → m.2.1 78 k = y → (m.1 79 k).toInt < 0) : fF V st y = none := by
  cases hf : fF V st y with
  | none => rfl
  | some b =>
    have hb := ix_some _ _ hf
    obtain ⟨k, hk, e, e2⟩ := h.2.1 b (by omega)
    have := hn k hk (by rw [e, hb.2.2])
    omega
/-- a flat more -/
theorem NM.flat {n N : Nat} {v : Int32} (h : NM V s st m) (hN : N = st.1.length + st.2.2.1.length) (hv : v.toInt = (st.1.length : Int)) (hk : knw V st (V (n + 1)) = false) (h79 : ∀ j : Nat, m'.1 79 j = if j = N then v else m.1 79 j) (h83 : m'.1 83 = m.1 83) (h84 : m'.1 84 = m.1 84) (h78 : ∀ j : Nat, m'.2.1 78 j = if j = N then V (n + 1) else m.2.1 78 j) : NM V s (st.1 ++ [n], st.2) m' := by
  have hnk : ∀ i : Nat, i < st.1.length → fN V st i ≠ V (n + 1) := fun i hi e => by
    have : knw V st (V (n + 1)) = true := by
      obtain ⟨k, hk, e1, -⟩ := h.2.1 i hi
      exact h.kn.mp ⟨k, hk, by rw [e1, e]⟩
    rw [hk] at this
    cases this
  obtain ⟨h1, h2, h3, h4, h5⟩ := h
  have l1 : (st.1 ++ [n]).length = st.1.length + 1 := by rw [List.length_append]; rfl
  have f1 : ∀ i : Nat, i < st.1.length → fN V (st.1 ++ [n], st.2) i = fN V st i := fun i hi => by
    show V ((st.1 ++ [n]).getD i 0 + 1) = _
    rw [getD_app hi]
    rfl
  have f2 : fN V (st.1 ++ [n], st.2) st.1.length = V (n + 1) := by
    show V ((st.1 ++ [n]).getD st.1.length 0 + 1) = _
    rw [getD_last]
  unfold NM
  rw [h83, h84]
  show (∀ k : Nat, k < (st.1 ++ [n]).length + st.2.2.1.length → (∃ i : Nat, i < (st.1 ++ [n]).length ∧ m'.2.1 78 k = fN V (st.1 ++ [n], st.2) i ∧ (m'.1 79 k).toInt = (i : Int)) ∨ (∃ u : Nat, u < st.2.2.1.length ∧ m'.2.1 78 k = uN V st u ∧ (m'.1 79 k).toInt < 0)) ∧ (∀ i : Nat, i < (st.1 ++ [n]).length → ∃ k : Nat, k < (st.1 ++ [n]).length + st.2.2.1.length ∧ m'.2.1 78 k = fN V (st.1 ++ [n], st.2) i ∧ (m'.1 79 k).toInt = (i : Int)) ∧ (∀ u : Nat, u < st.2.2.1.length → ∃ k : Nat, k < (st.1 ++ [n]).length + st.2.2.1.length ∧ m'.2.1 78 k = uN V st u) ∧ (∀ i j : Nat, i < (st.1 ++ [n]).length → j < (st.1 ++ [n]).length → fN V (st.1 ++ [n], st.2) i = fN V (st.1 ++ [n], st.2) j → i = j) ∧ (∀ w : Nat, w < st.2.1.length → (m.1 83 (10 * s + w)).toInt = ((wE st w).1 : Int) ∧ (m.1 84 (10 * s + w)).toInt = ((wE st w).2 : Int))
  rw [l1]
  refine ⟨fun k hk => ?_, fun i hi => ?_, fun u hu => ?_, fun i j hi hj e => ?_, h5⟩
  · rw [h78, h79]
    by_cases q : k = N
    · rw [if_pos q, if_pos q]
      exact Or.inl ⟨st.1.length, by omega, f2.symm, hv⟩
    · rw [if_neg q, if_neg q]
      rcases h1 k (by omega) with ⟨i, hi, e1, e2⟩ | w
      · exact Or.inl ⟨i, by omega, by rw [f1 i hi]; exact e1, e2⟩
      · exact Or.inr w
  · by_cases q : i = st.1.length
    · refine ⟨N, by omega, ?_, ?_⟩
      · rw [h78, if_pos rfl, q, f2]
      · rw [h79, if_pos rfl, q]; exact hv
    · obtain ⟨k, hk, e1, e2⟩ := h2 i (by omega)
      refine ⟨k, by omega, ?_, ?_⟩
      · rw [h78, if_neg (by omega), f1 i (by omega)]; exact e1
      · rw [h79, if_neg (by omega)]; exact e2
  · obtain ⟨k, hk, e1⟩ := h3 u hu
    exact ⟨k, by omega, by rw [h78, if_neg (by omega)]; exact e1⟩
  · by_cases qi : i = st.1.length
    · by_cases qj : j = st.1.length
      · omega
      · exfalso
        rw [qi, f2, f1 j (by omega)] at e
        exact hnk j (by omega) e.symm
    · by_cases qj : j = st.1.length
      · exfalso
        rw [qj, f2, f1 i (by omega)] at e
        exact hnk i (by omega) e
      · rw [f1 i (by omega), f1 j (by omega)] at e
        exact h4 i j (by omega) (by omega) e
/-- a use more -/
theorem NM.use {n N a : Nat} {v : Int32} {z : Option Nat × Option Nat × Option Nat} (h : NM V s st m) (hN : N = st.1.length + st.2.2.1.length) (hv : v.toInt < 0) (h79 : ∀ j : Nat, m'.1 79 j = if j = N then v else m.1 79 j) (h83 : m'.1 83 = m.1 83) (h84 : m'.1 84 = m.1 84) (h78 : ∀ j : Nat, m'.2.1 78 j = if j = N then V (n + 1) else m.2.1 78 j) : NM V s (st.1, st.2.1, st.2.2.1 ++ [(n, a)], z) m' := by
  obtain ⟨h1, h2, h3, h4, h5⟩ := h
  have l1 : (st.2.2.1 ++ [(n, a)]).length = st.2.2.1.length + 1 := by rw [List.length_append]; rfl
  have f1 : ∀ u : Nat, u < st.2.2.1.length → uN V (st.1, st.2.1, st.2.2.1 ++ [(n, a)], z) u = uN V st u := fun i hi => by
    show V (((st.2.2.1 ++ [(n, a)]).getD i (0, 0)).1 + 1) = _
    rw [getD_app hi]
    rfl
  have f2 : uN V (st.1, st.2.1, st.2.2.1 ++ [(n, a)], z) st.2.2.1.length = V (n + 1) := by
    show V (((st.2.2.1 ++ [(n, a)]).getD st.2.2.1.length (0, 0)).1 + 1) = _
    rw [getD_last]
  unfold NM
  rw [h83, h84]
  show (∀ k : Nat, k < st.1.length + (st.2.2.1 ++ [(n, a)]).length → (∃ i : Nat, i < st.1.length ∧ m'.2.1 78 k = fN V st i ∧ (m'.1 79 k).toInt = (i : Int)) ∨ (∃ u : Nat, u < (st.2.2.1 ++ [(n, a)]).length ∧ m'.2.1 78 k = uN V (st.1, st.2.1, st.2.2.1 ++ [(n, a)], z) u ∧ (m'.1 79 k).toInt < 0)) ∧ (∀ i : Nat, i < st.1.length → ∃ k : Nat, k < st.1.length + (st.2.2.1 ++ [(n, a)]).length ∧ m'.2.1 78 k = fN V st i ∧ (m'.1 79 k).toInt = (i : Int)) ∧ (∀ u : Nat, u < (st.2.2.1 ++ [(n, a)]).length → ∃ k : Nat, k < st.1.length + (st.2.2.1 ++ [(n, a)]).length ∧ m'.2.1 78 k = uN V (st.1, st.2.1, st.2.2.1 ++ [(n, a)], z) u) ∧ (∀ i j : Nat, i < st.1.length → j < st.1.length → fN V st i = fN V st j → i = j) ∧ (∀ w : Nat, w < st.2.1.length → (m.1 83 (10 * s + w)).toInt = ((wE st w).1 : Int) ∧ (m.1 84 (10 * s + w)).toInt = ((wE st w).2 : Int))
  rw [l1]
  refine ⟨fun k hk => ?_, fun i hi => ?_, fun u hu => ?_, h4, h5⟩
  · rw [h78, h79]
    by_cases q : k = N
    · rw [if_pos q, if_pos q]
      exact Or.inr ⟨st.2.2.1.length, by omega, f2.symm, hv⟩
    · rw [if_neg q, if_neg q]
      rcases h1 k (by omega) with w | ⟨u, hu, e1, e2⟩
      · exact Or.inl w
      · exact Or.inr ⟨u, by omega, by rw [f1 u hu]; exact e1, e2⟩
  · obtain ⟨k, hk, e1, e2⟩ := h2 i hi
    exact ⟨k, by omega, by rw [h78, if_neg (by omega)]; exact e1, by rw [h79, if_neg (by omega)]; exact e2⟩
  · by_cases q : u = st.2.2.1.length
    · exact ⟨N, by omega, by rw [h78, if_pos rfl, q, f2]⟩
    · obtain ⟨k, hk, e1⟩ := h3 u (by omega)
      exact ⟨k, by omega, by rw [h78, if_neg (by omega), f1 u (by omega)]; exact e1⟩
/-- a wire more -/
theorem NM.wire {n a b : Nat} {v1 v2 : Int32} (h : NM V s st m) (h1 : v1.toInt = (a : Int)) (h2 : v2.toInt = (b : Int)) (h79 : m'.1 79 = m.1 79) (h83 : ∀ j : Nat, m'.1 83 j = if j = 10 * s + st.2.1.length then v1 else m.1 83 j) (h84 : ∀ j : Nat, m'.1 84 j = if j = 10 * s + st.2.1.length then v2 else m.1 84 j) (h78 : m'.2.1 78 = m.2.1 78) : NM V s (st.1, st.2.1 ++ [(n, a, b)], st.2.2) m' := by
  obtain ⟨g1, g2, g3, g4, g5⟩ := h
  have l1 : (st.2.1 ++ [(n, a, b)]).length = st.2.1.length + 1 := by rw [List.length_append]; rfl
  unfold NM
  rw [h79, h78]
  show (∀ k : Nat, k < st.1.length + st.2.2.1.length → (∃ i : Nat, i < st.1.length ∧ m.2.1 78 k = fN V st i ∧ (m.1 79 k).toInt = (i : Int)) ∨ (∃ u : Nat, u < st.2.2.1.length ∧ m.2.1 78 k = uN V st u ∧ (m.1 79 k).toInt < 0)) ∧ (∀ i : Nat, i < st.1.length → ∃ k : Nat, k < st.1.length + st.2.2.1.length ∧ m.2.1 78 k = fN V st i ∧ (m.1 79 k).toInt = (i : Int)) ∧ (∀ u : Nat, u < st.2.2.1.length → ∃ k : Nat, k < st.1.length + st.2.2.1.length ∧ m.2.1 78 k = uN V st u) ∧ (∀ i j : Nat, i < st.1.length → j < st.1.length → fN V st i = fN V st j → i = j) ∧ (∀ w : Nat, w < (st.2.1 ++ [(n, a, b)]).length → (m'.1 83 (10 * s + w)).toInt = ((wE (st.1, st.2.1 ++ [(n, a, b)], st.2.2) w).1 : Int) ∧ (m'.1 84 (10 * s + w)).toInt = ((wE (st.1, st.2.1 ++ [(n, a, b)], st.2.2) w).2 : Int))
  rw [l1]
  refine ⟨g1, g2, g3, g4, fun w hw => ?_⟩
  rw [h83, h84]
  by_cases q : w = st.2.1.length
  · have e : wE (st.1, st.2.1 ++ [(n, a, b)], st.2.2) w = (a, b) := by
      show ((st.2.1 ++ [(n, a, b)]).getD w (0, 0, 0)).2 = _
      rw [q, getD_last]
    rw [e, if_pos (by omega), if_pos (by omega)]
    exact ⟨h1, h2⟩
  · have e : wE (st.1, st.2.1 ++ [(n, a, b)], st.2.2) w = wE st w := by
      show ((st.2.1 ++ [(n, a, b)]).getD w (0, 0, 0)).2 = _
      rw [getD_app (by omega)]
      rfl
    rw [e, if_neg (by omega), if_neg (by omega)]
    exact g5 w (by omega)
/-- areWired -/
theorem q_areWired {x1 x2 : Int32} {a b : Nat} {Q : Int32 → dM → Prop} (hs : s ≤ 1) (hsd : (m.1 70 19).toInt = (s : Int)) (hw : (m.1 82 s).toInt = (st.2.1.length : Int)) (h10 : st.2.1.length ≤ 10) (hW : ∀ w : Nat, w < st.2.1.length → (m.1 83 (10 * s + w)).toInt = ((wE st w).1 : Int) ∧ (m.1 84 (10 * s + w)).toInt = ((wE st w).2 : Int)) (h1 : x1.toInt = (a : Int)) (h2 : x2.toInt = (b : Int)) (hy : wx (wE st) a b st.2.1.length 0 = true → Q 1 m) (hn : wx (wE st) a b st.2.1.length 0 = false → Q 0 m) : c_X12_areWired_70 1 x1 x2 m Q := by
  have fm := dMulE (X := 10) (Y := (s : Int)) (x := (10 : Int32)) (y := m.1 70 19) (by decide) hsd (by omega) (by omega)
  have fa := dAddE (X := 10 * (s : Int)) (Y := (st.2.1.length : Int)) (x := (10 : Int32) * m.1 70 19) (y := m.1 82 s) fm hw (by omega) (by omega)
  have H : ∀ (f i : Nat) (x3 : Int32), i + f = st.2.1.length → x3.toInt = ((10 * s + i : Nat) : Int) → (wx (wE st) a b f i = true → Q 1 m) → (wx (wE st) a b f i = false → Q 0 m) → j_X12_areWired_70_8 1 x1 x2 x3 m Q := by
    intro f
    induction f with
    | zero =>
      intro i x3 hi h3 y n
      refine v_X12_areWired_70_8 ⟨by omega, ?_⟩
      rw [d_cn hsd]
      exact ⟨fun _ => n rfl, fun q => by exfalso; omega⟩
    | succ f ih =>
      intro i x3 hi h3 y n
      have w := hW i (by omega)
      rw [wx_s] at y n
      have last : (wE st i = (a, b) ∨ wE st i = (b, a)) → j_X12_areWired_70_69 1 m Q := fun q => v_X12_areWired_70_69 (y (by rw [if_pos q]))
      have nx : ¬ (wE st i = (a, b) ∨ wE st i = (b, a)) → j_X12_areWired_70_71 1 x1 x2 x3 m Q := fun q => v_X12_areWired_70_71 (ih (i + 1) _ (by omega) (by
        have := d_inc h3 (by omega)
        rw [this]; omega) (fun z => y (by rw [if_neg q]; exact z)) (fun z => n (by rw [if_neg q]; exact z)))
      have eE : ∀ c d : Nat, ((wE st i).1 : Int) = (c : Int) → ((wE st i).2 : Int) = (d : Int) → wE st i = (c, d) := fun c d e1 e2 => Prod.ext (by omega) (by omega)
      have neE : ∀ c d : Nat, ¬ (((wE st i).1 : Int) = (c : Int) ∧ ((wE st i).2 : Int) = (d : Int)) → wE st i ≠ (c, d) := fun c d e1 e2 => e1 (by rw [e2]; exact ⟨rfl, rfl⟩)
      have md : wE st i ≠ (a, b) → j_X12_areWired_70_49 1 x1 x2 x3 m Q := fun q => by
        refine v_X12_areWired_70_49 ⟨by omega, ?_⟩
        rw [d_cn h3]
        refine ⟨fun z => nx (fun o => ?_), fun z => ⟨by omega, fun z2 => nx (fun o => ?_), fun z2 => last (Or.inr (eE b a (by omega) (by omega)))⟩⟩
        · rcases o with o | o
          · exact q o
          · rw [o] at w; exact z (by rw [w.1, h2])
        · rcases o with o | o
          · exact q o
          · rw [o] at w; exact z2 (by rw [w.2, h1])
      refine v_X12_areWired_70_8 ⟨by omega, ?_⟩
      rw [d_cn hsd]
      refine ⟨fun q => by exfalso; omega, fun _ => ⟨by omega, ?_⟩⟩
      rw [d_cn h3]
      refine ⟨fun z => md (neE a b (by omega)), fun z => ⟨by omega, fun z2 => last (Or.inl (eE a b (by omega) (by omega))), fun z2 => md (neE a b (by omega))⟩⟩
  exact v_X12_areWired_70 (H st.2.1.length 0 _ (by omega) (by rw [fm]; omega) hy hn)
end RTB
end
section
/-! THE REFERENCE's tells, exactly: what holds at the start of one; a flat -/
theorem wadd_n {W w : gR} (h : W.1 ≠ 0) : wadd W w = W := by unfold wadd; rw [if_neg h]
theorem wadd_z {W w : gR} (h : W.1 = 0) : wadd W w = w := by unfold wadd; rw [if_pos h]
theorem rb_id {K : Nat → Int} {r : gR} : rb r (gsq K []) = r := by
  by_cases z : r.1 = 0
  · rw [rb_k z]
    show (0, r.2) = r
    rw [← z]
  · rw [rb_f z]
theorem gsq_r {K : Nat → Int} {r : gR} {k : Int} {ks : List Int} : rb r (gsq K (k :: ks)) = rb (rb r (gnd K k)) (gsq K ks) := by
  rw [rb_as]
  rfl
def FX (m0 : dM) (L : Nat) (m : dM) : Prop := (∀ k : Nat, k < 70 ∨ k = 71 ∨ 105 ≤ k → m.1 k = m0.1 k) ∧ (∀ j : Nat, (j = 2 ∨ j = 18 ∨ j = 19 ∨ 51 ≤ j) → m.1 70 j = m0.1 70 j) ∧ m.1 80 L = m0.1 80 L
def CT (s cf cw cu : Nat) (m : dM) : Prop := (m.1 80 s).toInt = (cf : Int) ∧ (m.1 82 s).toInt = (cw : Int) ∧ (m.1 86 s).toInt = (cu : Int) ∧ nms m = ((cf + cu : Nat) : Int) ∧ cf ≤ 7 ∧ cw ≤ 10 ∧ cu ≤ 8
def LQ (s : Nat) (m : dM) : Prop := opn m = 0 ∧ (420 * (s : Int) ≤ cds m ∧ cds m ≤ 420 * s + tt m) ∧ (130 * (s : Int) ≤ brs m ∧ 4 * (brs m - 130 * s) ≤ tt m)
/-- at the start of a tell -/
def TI (K : Nat → Int) (V : Nat → Int64) (P : Nat → Nat) (m0 : dM) (L s cf cw cu n : Nat) (W : gR) (st : mSt) (m : dM) : Prop := ST K P m (0, n) W ∧ RM K V P m ∧ FX m0 L m ∧ CT s cf cw cu m ∧ LQ s m ∧ (W.1 ≠ 0 → W.2 < n) ∧ (W.1 = 0 → NM V s st m ∧ st.1.length = cf ∧ st.2.1.length = cw ∧ st.2.2.1.length = cu)
/-- what comes of the meaning -/
def WN (K : Nat → Int) (V : Nat → Int64) (n : Nat) (W : gR) (st : mSt) (W' : gR) (st' : mSt) : Prop := (W.1 ≠ 0 → W' = W) ∧ (W.1 = 0 → ((mTell K V n st).1.1 = 0 → W'.1 = 0 ∧ st' = (mTell K V n st).2) ∧ ((mTell K V n st).1.1 ≠ 0 → W' = (mTell K V n st).1))
section RFL
variable {K : Nat → Int} {V : Nat → Int64} {P : Nat → Nat} {m0 m m' : dM} {L s cf cw cu n : Nat} {W : gR} {st : mSt}
theorem FX.cx (h : FX m0 L m) (hc : Cx m m') : FX m0 L m' := ⟨fun k e => (hc.1 k (by omega)).trans (h.1 k e), fun j e => (hc.2.1 j (by omega) (by omega) (by omega) (by omega) (by omega)).trans (h.2.1 j e), by rw [hc.1 80 (by decide)]; exact h.2.2⟩
theorem FX.set {k j : Nat} {v : Int32} (h : FX m0 L m) (hk : 72 ≤ k) (hk2 : k ≤ 104) (hj : k = 80 → j ≠ L) : FX m0 L (dSet m k j v) := ⟨fun a e => by rw [dSet_k (by omega)]; exact h.1 a e, fun a e => by rw [dSet_k (by omega)]; exact h.2.1 a e, by
  by_cases q : k = 80
  · subst q
    rw [dSet_j (fun e => hj rfl e.symm)]; exact h.2.2
  · rw [dSet_k (fun e => q e.symm)]; exact h.2.2⟩
theorem FX.en {N : Nat} {y : Int64} {v : Int32} (h : FX m0 L m) (he : EN N y v m m') : FX m0 L m' := ⟨fun k e => (he.1 k (by omega) (by omega)).trans (h.1 k e), fun j e => (he.2.1 j (by omega) (by omega) (by omega) (by omega) (by omega) (by omega)).trans (h.2.1 j e), by rw [he.1 80 (by decide) (by decide)]; exact h.2.2⟩
theorem FX.sd (h : FX m0 L m) (hsd : (m0.1 70 19).toInt = (s : Int)) : (m.1 70 19).toInt = (s : Int) ∧ (m.1 70 19).toNatClampNeg = s := by
  have e : (m.1 70 19).toInt = (s : Int) := by rw [h.2.1 19 (by omega)]; exact hsd
  exact ⟨e, d_cn e⟩
theorem CT.cx (h : CT s cf cw cu m) (hc : Cx m m') : CT s cf cw cu m' := by
  unfold CT nms
  rw [hc.1 80 (by decide), hc.1 82 (by decide), hc.1 86 (by decide), hc.2.1 20 (by decide) (by decide) (by decide) (by decide) (by decide)]
  exact h
theorem LQ.j (h : LQ s m) (h12 : m'.1 70 12 = m.1 70 12) (h46 : m'.1 70 46 = m.1 70 46) (h40 : m'.1 70 40 = m.1 70 40) (ht : tt m ≤ tt m') : LQ s m' := by
  obtain ⟨a, b, c⟩ := h
  have e1 : opn m' = opn m := by unfold opn; rw [h12]
  have e2 : cds m' = cds m := by unfold cds; rw [h46]
  have e3 : brs m' = brs m := by unfold brs; rw [h40]
  exact ⟨by omega, by omega, by omega⟩
theorem e_flat {Q : dM → Prop} (hL : L + s = 1) (hsd : (m0.1 70 19).toInt = (s : Int)) (hv : ∀ i, vk (K i)) (hP : ∀ i j : Nat, i < j → lvK K j → P i < P j) (hT : TI K V P m0 L s cf cw cu n W st m) (hk : K n = 0)
    (hB : (gTell K cf cw cu n).1 ≠ 0 → ∀ (m' : dM) (W' : gR), ST K P m' (gTell K cf cw cu n) W' → FX m0 L m' → Q m')
    (hG : (gTell K cf cw cu n).1 = 0 → ∀ (m' : dM) (W' : gR) (st' : mSt), TI K V P m0 L s (cf + ct (K n) 0) (cw + ct (K n) 1) (cu + ct (K n) 2) (gTell K cf cw cu n).2 W' st' m' → WN K V n W st W' st' → Q m') (fin : ∀ m', Q m' → j_X12_tellOne_70_371 8 m' Q) :
    c_X12_roomFor_70 7 (m.1 80 (m.1 70 19).toNatClampNeg) (7 : Int32) m (fun m1 => (((m1.1 70 13).toInt ≤ 0 → c_X12_named_70 7 m1 (fun r2 m2 => ((0 ≤ (m2.1 70 19).toInt ∧ (m2.1 70 19).toInt < 2) ∧ c_X12_bounded_70 7 (0 : Int32) (9 : Int32) m2 (fun r3 m3 => ((0 ≤ (((7 : Int32) * (m2.1 70 19)) + (m2.1 80 (m2.1 70 19).toNatClampNeg)).toInt ∧ (((7 : Int32) * (m2.1 70 19)) + (m2.1 80 (m2.1 70 19).toNatClampNeg)).toInt < 14) ∧ ((0 ≤ (m3.1 70 19).toInt ∧ (m3.1 70 19).toInt < 2) ∧ c_X12_endsName_70 7 r2 (m3.1 80 (m3.1 70 19).toNatClampNeg) (dSet m3 81 (((7 : Int32) * (m2.1 70 19)) + (m2.1 80 (m2.1 70 19).toNatClampNeg)).toNatClampNeg r3) (fun m4 => (((m4.1 70 13).toInt ≠ 0 → j_X12_tellOne_70_371 (7 + 1) m4 Q) ∧ ((m4.1 70 13).toInt = 0 → ((0 ≤ (m4.1 70 19).toInt ∧ (m4.1 70 19).toInt < 2) ∧ ((0 ≤ (m4.1 70 19).toInt ∧ (m4.1 70 19).toInt < 2) ∧ j_X12_tellOne_70_371 (7 + 1) (dSet m4 80 (m4.1 70 19).toNatClampNeg ((m4.1 80 (m4.1 70 19).toNatClampNeg) + (1 : Int32))) Q)))))))))) ) ∧ (0 < (m1.1 70 13).toInt → Q m1))) := by
  have hs : s ≤ 1 := by omega
  obtain ⟨hS, hR, hF, hC, hQ, hW, hN⟩ := hT
  have hC5 := hC.2.2.2.2
  have sd := hF.sd hsd
  have gT : gTell K cf cw cu n = if 7 ≤ cf then (2, n) else rb (gst n) (gsq K [22, 23, 59]) := by unfold gTell; rw [if_pos hk]
  have mT : mTell K V n st = mFlat V n st := by unfold mTell; rw [if_pos hk]
  rw [sd.2]
  refine Wp.deep (q_roomFor (most := 7) hR hS (by omega) hC.1 (by decide) hC.2.2.2.2.1 (fun m1 c1 h1 => ?_)) (Nat.le_of_ble_eq_true rfl)
  have f1 := h1.fl
  have e13 : (m1.1 70 13).toInt = flt m1 := rfl
  refine ⟨fun q => ?_, fun q => ?_⟩
  rotate_left
  · have z : (if 7 ≤ cf then ((2, n) : gR) else gst n).1 ≠ 0 := fun z => by have := f1.2.mpr z; omega
    have eT : gTell K cf cw cu n = if 7 ≤ cf then (2, n) else gst n := by
      rw [gT]
      by_cases q7 : 7 ≤ cf
      · rw [if_pos q7, if_pos q7]
      · rw [if_neg q7] at z
        rw [if_neg q7, if_neg q7, rb_f z]
    refine hB (by rw [eT]; exact z) m1 W (by rw [eT]; exact h1) (hF.cx c1)
  have z1 : (if 7 ≤ cf then ((2, n) : gR) else gst n).1 = 0 := f1.2.mp (by omega)
  have c7 : ¬ 7 ≤ cf := fun q7 => by rw [if_pos q7] at z1; exact absurd z1 (Nat.succ_ne_zero 1)
  rw [if_neg c7] at z1 h1 gT
  have g1 := gst_z z1
  rw [g1.1] at h1 gT
  have gT4 : gTell K cf cw cu n = rb (rb (gnd K 22 (n + 1)) (gnd K 23)) (gnd K 59) := by rw [gT, gsq_r, gsq_r, gsq_r, rb_id, rb_0]
  have C1 := hC.cx c1
  have F1 := hF.cx c1
  refine Wp.deep (q_named hv hP (hR.cx c1) h1 C1.2.2.2.1 (by omega) (fun w => by have := hW w; omega) (fun m2 W2 c2 h2 hw2 => ?_)) (Nat.le_of_ble_eq_true rfl)
  have c12 := c1.tr c2
  have F2 := hF.cx c12
  have C2 := hC.cx c12
  have sd2 := F2.sd hsd
  refine ⟨by omega, ?_⟩
  have hW2 : (gnd K 22 (n + 1)).1 = 0 → W2.1 ≠ 0 → W2.2 < (gnd K 22 (n + 1)).2 := fun z w => by
    have e := (gnd_0 z).1
    rw [e]
    show W2.2 < n + 1 + 1
    rcases hw2 z with ⟨-, e2⟩ | ⟨-, e2⟩
    · rw [e2] at w ⊢
      by_cases q0 : W.1 = 0
      · rw [wadd_z q0]; show n + 1 < n + 1 + 1; omega
      · rw [wadd_n q0]; have := hW q0; omega
    · rw [e2] at w ⊢; have := hW w; omega
  refine Wp.deep (q_bounded hv hP (hR.cx c12) h2 hW2 (fun v3 m3 W3 c3 h3 hw3 => ?_)) (Nat.le_of_ble_eq_true rfl)
  have c13 := c12.tr c3
  have F3 := hF.cx c13
  have C3 := hC.cx c13
  have sd3 := F3.sd hsd
  rw [sd2.2, sd3.2]
  have fm := dMulE (X := 7) (Y := (s : Int)) (x := (7 : Int32)) (y := m2.1 70 19) (by decide) sd2.1 (by omega) (by omega)
  have fa := dAddE (X := 7 * (s : Int)) (Y := (cf : Int)) (x := (7 : Int32) * m2.1 70 19) (y := m2.1 80 s) fm C2.1 (by omega) (by omega)
  refine ⟨by omega, ⟨by omega, ?_⟩⟩
  have e11 : (m1.1 70 11).toInt = ((n + 1 : Nat) : Int) := (h1.1 rfl).2.1
  have F3' : FX m0 L (dSet m3 81 (((7 : Int32) * (m2.1 70 19)) + (m2.1 80 s)).toNatClampNeg v3) := F3.set (by decide) (by decide) (fun e => absurd e (by decide))
  have S3' : ST K P (dSet m3 81 (((7 : Int32) * (m2.1 70 19)) + (m2.1 80 s)).toNatClampNeg v3) (rb (gnd K 22 (n + 1)) (gnd K 23)) W3 := h3.k (by decide)
  have R3' : RM K V P (dSet m3 81 (((7 : Int32) * (m2.1 70 19)) + (m2.1 80 s)).toNatClampNeg v3) := (hR.cx c13).of (fun k a b => dSet_k (by omega)) rfl
  have k3' : ∀ k : Nat, k ≠ 81 → (dSet m3 81 (((7 : Int32) * (m2.1 70 19)) + (m2.1 80 s)).toNatClampNeg v3).1 k = m3.1 k := fun k e => dSet_k e
  have l3' : (dSet m3 81 (((7 : Int32) * (m2.1 70 19)) + (m2.1 80 s)).toNatClampNeg v3).2 = m3.2 := rfl
  generalize dSet m3 81 (((7 : Int32) * (m2.1 70 19)) + (m2.1 80 s)).toNatClampNeg v3 = M3 at F3' S3' R3' k3' l3' ⊢
  have N3 : nms M3 = ((cf + cu : Nat) : Int) := by unfold nms; rw [k3' 70 (by decide)]; exact C3.2.2.2.1
  refine Wp.deep (q_endsName (N := cf + cu) (tok := n + 1) hv R3' S3' e11 (by omega) N3 (by omega) (fun z4 m4 c4 h4 => ?_) (fun z4 m4 E4 h4 => ?_)) (Nat.le_of_ble_eq_true rfl)
  · rw [← gT4] at z4 h4
    have f4 := h4.fl
    exact ⟨fun _ => fin m4 (hB z4 m4 W3 h4 (F3'.cx c4)), fun q => absurd (f4.2.mp q) z4⟩
  · have r4 := rb_z z4
    have r3 := rb_z r4.1
    have t4 : gTell K cf cw cu n = (0, n + 4) := by
      rw [gT4, r4.2, r3.2, (gnd_0 r3.1).1]
      have a1 := r4.1
      rw [r3.2, (gnd_0 r3.1).1] at a1
      have a1 : (gnd K 23 (n + 1 + 1)).1 = 0 := a1
      show gnd K 59 (gnd K 23 (n + 1 + 1)).2 = _
      have a2 := z4
      rw [r4.2, r3.2, (gnd_0 r3.1).1] at a2
      have a2 : (gnd K 59 (gnd K 23 (n + 1 + 1)).2).1 = 0 := a2
      rw [(gnd_0 a1).1] at a2 ⊢
      have a2 : (gnd K 59 (n + 1 + 1 + 1)).1 = 0 := a2
      show gnd K 59 (n + 1 + 1 + 1) = _
      rw [(gnd_0 a2).1]
    rw [← gT4] at z4 h4
    have f4 := h4.fl
    have F4 := F3'.en E4
    have sd4 := F4.sd hsd
    rw [sd4.2]
    refine ⟨fun q => absurd (f4.2.mpr z4) q, fun _ => ⟨by omega, ⟨by omega, fin _ ?_⟩⟩⟩
    have e80 : m4.1 80 s = m3.1 80 s := by rw [E4.1 80 (by decide) (by decide), k3' 80 (by decide)]
    have e80' : (m4.1 80 s).toInt = (cf : Int) := by rw [e80]; exact C3.1
    have hw2' := hw2 r3.1
    have hw3' := hw3 r4.1
    have v21 : (gnd K 22 (n + 1)).2 = n + 2 := by rw [(gnd_0 r3.1).1]
    rw [v21] at hw3'
    have yn : M3.2.1 76 (n + 1) = V (n + 1) := by
      have hk1 := (gnd_0 r3.1).2.1
      exact (R3' (n + 1) (by omega) (h1.1 rfl).2.2.2.1).2.2.1 (by omega)
    rw [yn] at E4
    have cK : ct (K n) 0 = 1 ∧ ct (K n) 1 = 0 ∧ ct (K n) 2 = 0 := by rw [hk]; decide
    rw [t4] at h4 z4
    have S4 : ST K P (dSet m4 80 s (m4.1 80 s + 1)) (0, n + 4) W3 := h4.k (by decide)
    have R4 : RM K V P (dSet m4 80 s (m4.1 80 s + 1)) := R3'.of (fun k a b => by rw [dSet_k (by omega)]; exact E4.1 k (by omega) (by omega)) (by show m4.2.1 76 = M3.2.1 76; exact E4.2.2.2.2.1 76 (by decide))
    have tt4 : tt m4 = ((n + 4 : Nat) : Int) := (h4.1 rfl).2.1
    have tt0 : tt m = (n : Int) := (hS.1 rfl).2.1
    have jj : ∀ j : Nat, j = 12 ∨ j = 40 ∨ j = 46 → m4.1 70 j = m.1 70 j := fun j e => by rw [E4.2.1 j (by omega) (by omega) (by omega) (by omega) (by omega) (by omega), k3' 70 (by decide), c13.2.1 j (by omega) (by omega) (by omega) (by omega) (by omega)]
    have Q4 : LQ s (dSet m4 80 s (m4.1 80 s + 1)) := hQ.j (jj 12 (by omega)) (jj 46 (by omega)) (jj 40 (by omega)) (by show tt m ≤ tt m4; omega)
    have C4 : CT s (cf + 1) cw cu (dSet m4 80 s (m4.1 80 s + 1)) := by
      refine ⟨by rw [dSet_s]; exact d_inc e80' (by omega), ?_, ?_, ?_, by omega, by omega, by omega⟩
      · rw [dSet_k (by decide), E4.1 82 (by decide) (by decide), k3' 82 (by decide)]; exact C3.2.1
      · rw [dSet_k (by decide), E4.1 86 (by decide) (by decide), k3' 86 (by decide)]; exact C3.2.2.1
      · show (m4.1 70 20).toInt = _
        rw [E4.2.2.1]
        omega
    have key : (W3.1 ≠ 0 → W3.2 < n + 4) ∧ ∃ st' : mSt, (W3.1 = 0 → NM V s st' (dSet m4 80 s (m4.1 80 s + 1)) ∧ st'.1.length = cf + 1 ∧ st'.2.1.length = cw ∧ st'.2.2.1.length = cu) ∧ WN K V n W st W3 st' := by
      unfold WN
      rw [mT]
      by_cases w0 : W.1 = 0
      · obtain ⟨hN1, hl1, hl2, hl3⟩ := hN w0
        have kn : (∃ k : Nat, k < cf + cu ∧ m1.2.1 78 k = V (n + 1)) ↔ knw V st (V (n + 1)) = true := by
          rw [c1.2.2, ← hl1, ← hl3]; exact hN1.kn
        rcases hw2' with ⟨ex, e2⟩ | ⟨ex, e2⟩
        · have kt := kn.mp ex
          rw [wadd_z w0] at e2
          have e3 : W3 = (3, n + 1) := by
            rw [hw3'.2, e2]
            split
            · rfl
            · exact wadd_n (Nat.succ_ne_zero 2)
          have mf : mFlat V n st = ((3, n + 1), st) := by unfold mFlat; rw [kt]; rfl
          rw [e3, mf]
          exact ⟨fun _ => by show n + 1 < n + 4; omega, st, fun q => absurd q (Nat.succ_ne_zero 2), fun q => absurd w0 q, fun _ => ⟨fun q => absurd q (Nat.succ_ne_zero 2), fun _ => rfl⟩⟩
        · have kf : knw V st (V (n + 1)) = false := by
            cases hh : knw V st (V (n + 1)) with
            | false => rfl
            | true =>
              obtain ⟨k, k1, k2⟩ := kn.mpr hh
              exact absurd k2 (ex k k1)
          have mf : mFlat V n st = bnd V (n + 2) 0 9 ((0, 0), (st.1 ++ [n], st.2)) st := by unfold mFlat; rw [kf]; rfl
          rw [mf]
          unfold bnd
          have e3 := hw3'.2
          rw [e2] at e3
          by_cases inb : (0 : Int) ≤ iV V (n + 2) ∧ iV V (n + 2) ≤ 9
          · rw [if_pos inb] at ⊢
            rw [if_pos (show (0 : Int32).toInt ≤ iV V (n + 2) ∧ iV V (n + 2) ≤ (9 : Int32).toInt from inb)] at e3
            rw [e3]
            refine ⟨fun q => absurd w0 q, (st.1 ++ [n], st.2), fun _ => ⟨?_, ?_, hl2, hl3⟩, fun q => absurd w0 q, fun _ => ⟨fun _ => ⟨w0, rfl⟩, fun q => absurd rfl q⟩⟩
            · refine (hN1.cx c13).flat (N := cf + cu) (v := m3.1 80 s) (by omega) (by rw [hl1]; exact C3.1) kf (fun j => ?_) ?_ ?_ (fun j => ?_)
              · rw [dSet_k (by decide), E4.2.2.2.1 j, k3' 79 (by decide)]
              · rw [dSet_k (by decide), E4.1 83 (by decide) (by decide), k3' 83 (by decide)]
              · rw [dSet_k (by decide), E4.1 84 (by decide) (by decide), k3' 84 (by decide)]
              · show m4.2.1 78 j = _
                rw [E4.2.2.2.2.2.1 j, l3']
            · show (st.1 ++ [n]).length = cf + 1
              rw [List.length_append, hl1]; rfl
          · rw [if_neg inb]
            rw [if_neg (show ¬ ((0 : Int32).toInt ≤ iV V (n + 2) ∧ iV V (n + 2) ≤ (9 : Int32).toInt) from inb), wadd_z w0] at e3
            rw [e3]
            exact ⟨fun _ => by show n + 2 < n + 4; omega, st, fun q => absurd q (Nat.succ_ne_zero 4), fun q => absurd w0 q, fun _ => ⟨fun q => absurd q (Nat.succ_ne_zero 4), fun _ => rfl⟩⟩
      · have e2 : W2 = W := by
          rcases hw2' with ⟨-, e2⟩ | ⟨-, e2⟩
          · rw [e2, wadd_n w0]
          · exact e2
        have e3 : W3 = W := by
          rw [hw3'.2, e2]
          split
          · rfl
          · exact wadd_n w0
        rw [e3]
        exact ⟨fun q => by have := hW q; omega, st, fun q => absurd q w0, fun _ => rfl, fun q => absurd q w0⟩
    obtain ⟨kw, st', kn, kwn⟩ := key
    refine hG (by rw [t4]) _ W3 st' ?_ kwn
    rw [cK.1, cK.2.1, cK.2.2, t4]
    exact ⟨S4, R4, F4.set (by decide) (by decide) (fun _ => by omega), C4, Q4, kw, kn⟩
end RFL
end
section
/-! THE REFERENCE's tells, exactly: a wire -/
def WM (M : gR × mSt) (W W' : gR) (st' : mSt) : Prop := (W.1 ≠ 0 → W' = W) ∧ (W.1 = 0 → (M.1.1 = 0 → W'.1 = 0 ∧ st' = M.2) ∧ (M.1.1 ≠ 0 → W' = M.1))
section RWI
variable {K : Nat → Int} {V : Nat → Int64} {P : Nat → Nat} {m0 m : dM} {L s cf cw cu n : Nat} {W : gR} {st : mSt}
theorem gnd2_z {a b : Int} {i : Nat} (h : (rb (gnd K a i) (gnd K b)).1 = 0) : gnd K a i = (0, i + 1) ∧ K i = a ∧ rb (gnd K a i) (gnd K b) = (0, i + 2) ∧ K (i + 1) = b ∧ i + 1 < 400 := by
  obtain ⟨h1, h2⟩ := rb_z h
  obtain ⟨e1, e2, e3⟩ := gnd_0 h1
  rw [h2, e1] at h
  have h : (gnd K b (i + 1)).1 = 0 := h
  obtain ⟨e4, e5, e6⟩ := gnd_0 h
  refine ⟨e1, e2, ?_, e5, e6⟩
  rw [h2, e1]
  show gnd K b (i + 1) = _
  rw [e4]
theorem e_wire {Q : dM → Prop} (hL : L + s = 1) (hsd : (m0.1 70 19).toInt = (s : Int)) (hv : ∀ i, vk (K i)) (hP : ∀ i j : Nat, i < j → lvK K j → P i < P j) (hS : ST K P m (0, n + 1) W) (hR : RM K V P m) (hF : FX m0 L m) (hC : CT s cf cw cu m) (h9 : cw ≤ 9) (hQ : LQ s m) (hW : W.1 ≠ 0 → W.2 < n) (hN : W.1 = 0 → NM V s st m ∧ st.1.length = cf ∧ st.2.1.length = cw ∧ st.2.2.1.length = cu)
    (hB : (gsq K [22, 22, 23, 59] (n + 1)).1 ≠ 0 → ∀ (m' : dM) (W' : gR), ST K P m' (gsq K [22, 22, 23, 59] (n + 1)) W' → FX m0 L m' → Q m')
    (hG : (gsq K [22, 22, 23, 59] (n + 1)).1 = 0 → ∀ (m' : dM) (W' : gR) (st' : mSt), TI K V P m0 L s cf (cw + 1) cu (n + 5) W' st' m' → WM (mWire V n st) W W' st' → Q m') : c_X12_tellWire_70 6 m Q := by
  have hs : s ≤ 1 := by omega
  have hC5 := hC.2.2.2.2
  have sd := hF.sd hsd
  have fm := dMulE (X := 10) (Y := (s : Int)) (x := (10 : Int32)) (y := m.1 70 19) (by decide) sd.1 (by omega) (by omega)
  have fx := dAddE (X := 10 * (s : Int)) (Y := (cw : Int)) (x := (10 : Int32) * m.1 70 19) (y := m.1 82 s) fm hC.2.1 (by omega) (by omega)
  have gG : gsq K [22, 22, 23, 59] (n + 1) = rb (rb (rb (gnd K 22 (n + 1)) (gnd K 22)) (gnd K 23)) (gnd K 59) := by
    have : gsq K [22, 22, 23, 59] (n + 1) = rb (gnd K 22 (n + 1)) (gsq K [22, 23, 59]) := rfl
    rw [this, gsq_r, gsq_r, gsq_r, rb_id]
  rw [gG] at hB hG
  refine v_X12_tellWire_70 ⟨by omega, ?_⟩
  rw [sd.2]
  generalize hX : (10 : Int32) * m.1 70 19 + m.1 82 s = X at fx ⊢
  have eX : X.toNatClampNeg = 10 * s + cw := by
    have := d_cl (x := X) (by omega)
    omega
  have e0 : (m.1 70 11).toInt = ((n + 1 : Nat) : Int) := (hS.1 rfl).2.1
  have w72 : ∀ (mm : dM) (r1 r2 : Int32) (W3 : gR), Cx m mm → ST K P mm (rb (gnd K 22 (n + 1)) (gnd K 22)) W3 → ((rb (gnd K 22 (n + 1)) (gnd K 22)).1 = 0 → (W.1 ≠ 0 → W3 = W) ∧ (W.1 = 0 → (W3.1 = 0 ∧ ∃ a b : Nat, fF V st (V (n + 1)) = some a ∧ fF V st (V (n + 2)) = some b ∧ r1.toInt = (a : Int) ∧ r2.toInt = (b : Int) ∧ ¬ (a = b ∨ wx (wE st) a b st.2.1.length 0 = true)) ∨ (W3.1 ≠ 0 ∧ W3 = (mWire V n st).1 ∧ W3.2 ≤ n + 2))) → j_X12_tellWire_70_72 6 X r1 r2 mm Q := by
    intro mm r1 r2 W3 cm h3 hw
    have Fm := hF.cx cm
    have Cm := hC.cx cm
    refine v_X12_tellWire_70_72 ⟨by omega, ⟨by omega, ?_⟩⟩
    rw [eX]
    have F1 : FX m0 L (dSet (dSet mm 83 (10 * s + cw) r1) 84 (10 * s + cw) r2) := (Fm.set (by decide) (by decide) (fun e => absurd e (by decide))).set (by decide) (by decide) (fun e => absurd e (by decide))
    have S1 : ST K P (dSet (dSet mm 83 (10 * s + cw) r1) 84 (10 * s + cw) r2) (rb (gnd K 22 (n + 1)) (gnd K 22)) W3 := (h3.k (by decide)).k (by decide)
    have kM : ∀ k : Nat, k ≠ 83 → k ≠ 84 → (dSet (dSet mm 83 (10 * s + cw) r1) 84 (10 * s + cw) r2).1 k = mm.1 k := fun k h1 h2 => by rw [dSet_k h2, dSet_k h1]
    have m83 : ∀ j : Nat, (dSet (dSet mm 83 (10 * s + cw) r1) 84 (10 * s + cw) r2).1 83 j = if j = 10 * s + cw then r1 else mm.1 83 j := fun j => by
      rw [dSet_k (by decide), dSet_e]
      by_cases q : j = 10 * s + cw
      · rw [if_pos ⟨rfl, q⟩, if_pos q]
      · rw [if_neg (fun z => q z.2), if_neg q]
    have m84 : ∀ j : Nat, (dSet (dSet mm 83 (10 * s + cw) r1) 84 (10 * s + cw) r2).1 84 j = if j = 10 * s + cw then r2 else mm.1 84 j := fun j => by
      rw [dSet_e]
      by_cases q : j = 10 * s + cw
      · rw [if_pos ⟨rfl, q⟩, if_pos q]
      · rw [if_neg (fun z => q z.2), if_neg q, dSet_k (by decide)]
    have lM : (dSet (dSet mm 83 (10 * s + cw) r1) 84 (10 * s + cw) r2).2 = mm.2 := rfl
    generalize dSet (dSet mm 83 (10 * s + cw) r1) 84 (10 * s + cw) r2 = M at F1 S1 kM m83 m84 lM ⊢
    have R1 : RM K V P M := (hR.cx cm).of (fun k a b => kM k (by omega) (by omega)) (by rw [lM])
    have hW3 : (rb (gnd K 22 (n + 1)) (gnd K 22)).1 = 0 → W3.1 ≠ 0 → W3.2 < n + 3 := fun z w => by
      have hh := hw z
      by_cases w0 : W.1 = 0
      · rcases hh.2 w0 with q | q
        · exact absurd q.1 w
        · omega
      · rw [hh.1 w0]; have := hW w0; omega
    refine Wp.deep (q_bounded hv hP R1 S1 (fun z w => by rw [(gnd2_z z).2.2.1]; exact hW3 z w) (fun v4 m4 W4 c4 h4 hw4 => ⟨by omega, ?_⟩)) (Nat.le_of_ble_eq_true rfl)
    have S4 : ST K P (dSet m4 85 (10 * s + cw) v4) (rb (rb (gnd K 22 (n + 1)) (gnd K 22)) (gnd K 23)) W4 := h4.k (by decide)
    have R4 : RM K V P (dSet m4 85 (10 * s + cw) v4) := (R1.cx c4).of (fun k a b => dSet_k (by omega)) rfl
    have F4 : FX m0 L (dSet m4 85 (10 * s + cw) v4) := (F1.cx c4).set (by decide) (by decide) (fun e => absurd e (by decide))
    refine Wp.deep (q_must (k := 59) hv R4 S4 (by decide) (by unfold vk; omega) (by decide) (fun m5 c5 h5 => ?_)) (Nat.le_of_ble_eq_true rfl)
    have f5 := h5.fl
    have F5 := F4.cx c5
    have sd5 := F5.sd hsd
    refine ⟨fun q => v_X12_tellWire_70_125 (hB (fun z => q (f5.2.mpr z)) m5 W4 h5 F5), fun q => ⟨by omega, ⟨by omega, v_X12_tellWire_70_125 ?_⟩⟩⟩
    rw [sd5.2]
    have z5 := f5.2.mp q
    have z4 := (rb_z z5).1
    have z3 := (rb_z z4).1
    obtain ⟨g1, g2, g3, g4, g5⟩ := gnd2_z z3
    have gg4 : rb (rb (gnd K 22 (n + 1)) (gnd K 22)) (gnd K 23) = (0, n + 4) ∧ K (n + 3) = 23 := by
      have z := z4
      rw [g3, rb_0] at z ⊢
      have := gnd_0 z
      exact ⟨this.1, this.2.1⟩
    have gg5 : rb (rb (rb (gnd K 22 (n + 1)) (gnd K 22)) (gnd K 23)) (gnd K 59) = (0, n + 5) := by
      have z := z5
      rw [gg4.1, rb_0] at z ⊢
      exact (gnd_0 z).1
    have hw4' := hw4 z4
    rw [g3] at hw4'
    have hw3' := hw z3
    have kk : ∀ k : Nat, k ≠ 70 → k ≠ 83 → k ≠ 84 → k ≠ 85 → m5.1 k = m.1 k := fun k a b c d => by rw [c5.1 k a, dSet_k d, c4.1 k a, kM k b c, cm.1 k a]
    have k834 : ∀ k : Nat, k = 83 ∨ k = 84 → m5.1 k = M.1 k := fun k e => by rw [c5.1 k (by omega), dSet_k (by omega), c4.1 k (by omega)]
    have jj : ∀ j : Nat, j ≠ 11 → j ≠ 13 → j ≠ 14 → j ≠ 15 → j ≠ 16 → m5.1 70 j = m.1 70 j := fun j a b c d e => by rw [c5.2.1 j a b c d e, dSet_k (by decide), c4.2.1 j a b c d e, kM 70 (by decide) (by decide), cm.2.1 j a b c d e]
    have ll : m5.2 = m.2 := by rw [c5.2.2]; show m4.2 = m.2; rw [c4.2.2, lM, cm.2.2]
    rw [gg5] at h5
    have tt5 : tt m5 = ((n + 5 : Nat) : Int) := (h5.1 rfl).2.1
    have tt0 : tt m = ((n + 1 : Nat) : Int) := e0
    have e82 : (m5.1 82 s).toInt = (cw : Int) := by rw [kk 82 (by decide) (by decide) (by decide) (by decide)]; exact hC.2.1
    have R5 : RM K V P (dSet m5 82 s (m5.1 82 s + 1)) := (R4.cx c5).of (fun k a b => dSet_k (by omega)) rfl
    have C5 : CT s cf (cw + 1) cu (dSet m5 82 s (m5.1 82 s + 1)) := by
      refine ⟨?_, by rw [dSet_s]; exact d_inc e82 (by omega), ?_, ?_, by omega, by omega, by omega⟩
      · rw [dSet_k (by decide), kk 80 (by decide) (by decide) (by decide) (by decide)]; exact hC.1
      · rw [dSet_k (by decide), kk 86 (by decide) (by decide) (by decide) (by decide)]; exact hC.2.2.1
      · show (m5.1 70 20).toInt = _
        rw [jj 20 (by decide) (by decide) (by decide) (by decide) (by decide)]; exact hC.2.2.2.1
    have Q5 : LQ s (dSet m5 82 s (m5.1 82 s + 1)) := hQ.j (jj 12 (by decide) (by decide) (by decide) (by decide) (by decide)) (jj 46 (by decide) (by decide) (by decide) (by decide) (by decide)) (jj 40 (by decide) (by decide) (by decide) (by decide) (by decide)) (by show tt m ≤ tt m5; omega)
    have S5 : ST K P (dSet m5 82 s (m5.1 82 s + 1)) (0, n + 5) W4 := h5.k (by decide)
    have F6 : FX m0 L (dSet m5 82 s (m5.1 82 s + 1)) := F5.set (by decide) (by decide) (fun e => absurd e (by decide))
    have key : (W4.1 ≠ 0 → W4.2 < n + 5) ∧ ∃ st' : mSt, (W4.1 = 0 → NM V s st' (dSet m5 82 s (m5.1 82 s + 1)) ∧ st'.1.length = cf ∧ st'.2.1.length = cw + 1 ∧ st'.2.2.1.length = cu) ∧ WM (mWire V n st) W W4 st' := by
      unfold WM
      by_cases w0 : W.1 = 0
      · obtain ⟨hN1, hl1, hl2, hl3⟩ := hN w0
        rcases hw3'.2 w0 with ⟨w3, a, b, ea, eb, ra, rb', nw⟩ | ⟨w3, ew, wl⟩
        · have mw : mWire V n st = bnd V (n + 3) 1 99 ((0, 0), (st.1, st.2.1 ++ [(n, a, b)], st.2.2)) st := by
            unfold mWire
            rw [ea, eb]
            show (if _ then _ else _) = _
            rw [if_neg nw]
          rw [mw]
          unfold bnd
          have e4 := hw4'.2
          by_cases inb : (1 : Int) ≤ iV V (n + 3) ∧ iV V (n + 3) ≤ 99
          · rw [if_pos inb]
            rw [if_pos (show (1 : Int32).toInt ≤ iV V (n + 3) ∧ iV V (n + 3) ≤ (99 : Int32).toInt from inb)] at e4
            rw [e4]
            refine ⟨fun q => absurd w3 q, (st.1, st.2.1 ++ [(n, a, b)], st.2.2), fun _ => ⟨?_, hl1, ?_, hl3⟩, fun q => absurd w0 q, fun _ => ⟨fun _ => ⟨w3, rfl⟩, fun q => absurd rfl q⟩⟩
            · refine hN1.wire (v1 := r1) (v2 := r2) ra rb' ?_ (fun j => ?_) (fun j => ?_) ?_
              · rw [dSet_k (by decide), kk 79 (by decide) (by decide) (by decide) (by decide)]
              · rw [dSet_k (by decide), k834 83 (Or.inl rfl), m83, hl2, cm.1 83 (by decide)]
              · rw [dSet_k (by decide), k834 84 (Or.inr rfl), m84, hl2, cm.1 84 (by decide)]
              · show m5.2.1 78 = _
                rw [ll]
            · show (st.2.1 ++ [(n, a, b)]).length = cw + 1
              rw [List.length_append, hl2]; rfl
          · rw [if_neg inb]
            rw [if_neg (show ¬ ((1 : Int32).toInt ≤ iV V (n + 3) ∧ iV V (n + 3) ≤ (99 : Int32).toInt) from inb), wadd_z w3] at e4
            rw [e4]
            exact ⟨fun _ => by show n + 3 < n + 5; omega, st, fun q => absurd q (Nat.succ_ne_zero 4), fun q => absurd w0 q, fun _ => ⟨fun q => absurd q (Nat.succ_ne_zero 4), fun _ => rfl⟩⟩
        · have e4 : W4 = W3 := by
            rw [hw4'.2]
            split
            · rfl
            · exact wadd_n w3
          rw [e4]
          exact ⟨fun _ => by omega, st, fun q => absurd q w3, fun q => absurd w0 q, fun _ => ⟨fun q => by rw [ew] at w3; exact absurd q w3, fun _ => ew⟩⟩
      · have e3 := hw3'.1 w0
        have e4 : W4 = W := by
          rw [hw4'.2, e3]
          split
          · rfl
          · exact wadd_n w0
        rw [e4]
        exact ⟨fun q => by have := hW q; omega, st, fun q => absurd q w0, fun _ => rfl, fun q => absurd q w0⟩
    obtain ⟨kw, st', kn, kwn⟩ := key
    exact hG z5 _ W4 st' ⟨S5, R5, F6, C5, Q5, kw, kn⟩ kwn
  refine Wp.deep (q_knownFlat hv hP hR hS hC.2.2.2.1 (by omega) (fun _ w => by have := hW w; show W.2 < n + 1; omega) (fun r1 m1 W1 c1 h1 hw1 => ?_)) (Nat.le_of_ble_eq_true rfl)
  have h1 : ST K P m1 (gnd K 22 (n + 1)) W1 := h1
  have hw1 : (gnd K 22 (n + 1)).1 = 0 → ((∃ k : Nat, k < cf + cu ∧ m.2.1 78 k = V (n + 1) ∧ 0 ≤ (m.1 79 k).toInt ∧ r1 = m.1 79 k) ∧ W1 = W) ∨ ((∀ k : Nat, k < cf + cu → m.2.1 78 k = V (n + 1) → (m.1 79 k).toInt < 0) ∧ r1 = -1 ∧ W1 = wadd W (4, n + 1)) := hw1
  have hW1 : (gnd K 22 (n + 1)).1 = 0 → W1.1 ≠ 0 → W1.2 < n + 2 := fun z w => by
    rcases hw1 z with ⟨-, e⟩ | ⟨-, -, e⟩
    · rw [e] at w ⊢; have := hW w; omega
    · rw [e] at w ⊢
      by_cases w0 : W.1 = 0
      · rw [wadd_z w0]; show n + 1 < n + 2; omega
      · rw [wadd_n w0]; have := hW w0; omega
  refine Wp.deep (q_knownFlat hv hP (hR.cx c1) h1 (hC.cx c1).2.2.2.1 (by omega) (fun z w => by rw [(gnd_0 z).1]; exact hW1 z w) (fun r2 m2 W2 c2 h2 hw2 => ?_)) (Nat.le_of_ble_eq_true rfl)
  have c12 := c1.tr c2
  have F2 := hF.cx c12
  have C2 := hC.cx c12
  have f2 := h2.fl
  refine ⟨fun q => w72 m2 r1 r2 W2 c12 h2 (fun z => absurd (f2.2.mpr z) q), fun q => ?_⟩
  have z2 : (rb (gnd K 22 (n + 1)) (gnd K 22)).1 = 0 := f2.2.mp q
  obtain ⟨g1, g2, g3, g4, g5⟩ := gnd2_z z2
  have z1 : (gnd K 22 (n + 1)).1 = 0 := (rb_z z2).1
  have hw1' := hw1 z1
  have hw2' := hw2 z2
  rw [g1, c1.2.2, c1.1 79 (by decide)] at hw2'
  have hw2' : ((∃ k : Nat, k < cf + cu ∧ m.2.1 78 k = V (n + 2) ∧ 0 ≤ (m.1 79 k).toInt ∧ r2 = m.1 79 k) ∧ W2 = W1) ∨ ((∀ k : Nat, k < cf + cu → m.2.1 78 k = V (n + 2) → (m.1 79 k).toInt < 0) ∧ r2 = -1 ∧ W2 = wadd W1 (4, n + 2)) := hw2'
  have hx3 : (m1.1 70 11).toInt = ((n + 2 : Nat) : Int) := by
    have := (h1.1 z1).2.1
    rw [g1] at this
    exact this
  have lv2 : lvK K (n + 2) := by
    have := (h1.1 z1).2.2.2.1
    rw [g1] at this
    exact this
  have n2 : n + 2 ≤ 400 := by omega
  have em1 : (-1 : Int32).toInt = -1 := by decide
  have h66 : (W2.1 ≠ 0 → W2.2 < n + 2) → ((W.1 ≠ 0 → wadd W2 (3, n + 2) = W) ∧ (W.1 = 0 → (wadd W2 (3, n + 2)).1 ≠ 0 ∧ wadd W2 (3, n + 2) = (mWire V n st).1 ∧ (wadd W2 (3, n + 2)).2 ≤ n + 2)) → j_X12_tellWire_70_66 6 X r1 (m1.1 70 11) r2 m2 Q := fun a b => by
    refine v_X12_tellWire_70_66 (Wp.deep (q_wrong (c := 3) (tok := n + 2) hP (hR.cx c12) h2 (by decide) (by decide) hx3 n2 (fun _ => lv2) (fun _ w => Or.inl (a w)) (fun m3 c3 _ h3 => w72 m3 r1 r2 _ (c12.tr c3) h3 (fun _ => ⟨b.1, fun w => Or.inr (b.2 w)⟩))) (Nat.le_of_ble_eq_true rfl))
  by_cases w0 : W.1 = 0
  · obtain ⟨hN1, hl1, hl2, hl3⟩ := hN w0
    rcases hw1' with ⟨⟨k1, k2, k3, k4, k5⟩, e1⟩ | ⟨k1, k2, e1⟩
    · obtain ⟨a, fa, va⟩ := hN1.sm (by omega) k3 k4
      have ra : r1.toInt = (a : Int) := by rw [k5]; exact va
      rcases hw2' with ⟨⟨l1, l2, l3, l4, l5⟩, e2⟩ | ⟨l1, l2, e2⟩
      · obtain ⟨b, fb, vb⟩ := hN1.sm (by omega) l3 l4
        have rb' : r2.toInt = (b : Int) := by rw [l5]; exact vb
        have eW2 : W2.1 = 0 := by rw [e2, e1]; exact w0
        have mw : (a = b ∨ wx (wE st) a b st.2.1.length 0 = true) → mWire V n st = ((3, n + 2), st) := fun o => by
          unfold mWire
          rw [fa, fb]
          show (if _ then _ else _) = _
          rw [if_pos o]
        have go66 : (a = b ∨ wx (wE st) a b st.2.1.length 0 = true) → j_X12_tellWire_70_66 6 X r1 (m1.1 70 11) r2 m2 Q := fun o => h66 (fun w => absurd eW2 w) ⟨fun w => absurd w0 w, fun _ => by rw [wadd_z eW2, mw o]; exact ⟨Nat.succ_ne_zero 2, rfl, Nat.le_refl _⟩⟩
        refine ⟨fun q => by exfalso; omega, fun _ => ⟨fun q => by exfalso; omega, fun _ => ⟨fun q => go66 (Or.inl (by omega)), fun q => ?_⟩⟩⟩
        refine Wp.deep (q_areWired (st := st) hs (F2.sd hsd).1 (by rw [hl2]; exact C2.2.1) (by omega) (hN1.cx c12).2.2.2.2 ra rb' (fun y => ⟨fun q => absurd q (by decide), fun _ => go66 (Or.inr y)⟩) (fun y => ⟨fun _ => w72 m2 r1 r2 W2 c12 h2 (fun _ => ⟨fun w => absurd w0 w, fun _ => Or.inl ⟨eW2, a, b, fa, fb, ra, rb', fun o => ?_⟩⟩), fun q => absurd rfl q⟩)) (Nat.le_of_ble_eq_true rfl)
        rcases o with o | o
        · omega
        · rw [y] at o; cases o
      · have fb := hN1.nn (y := V (n + 2)) (fun k hk he => l1 k (by omega) he)
        have mw : mWire V n st = ((4, n + 2), st) := by
          unfold mWire
          rw [fa, fb]
        have r2v : r2.toInt = -1 := by rw [l2]; exact em1
        have eW2 : W2 = (4, n + 2) := by rw [e2, e1, wadd_z w0]
        refine ⟨fun q => by exfalso; omega, fun _ => ⟨fun q => w72 m2 r1 r2 W2 c12 h2 (fun _ => ⟨fun w => absurd w0 w, fun _ => Or.inr ?_⟩), fun q => by exfalso; omega⟩⟩
        rw [eW2, mw]
        exact ⟨Nat.succ_ne_zero 3, rfl, Nat.le_refl _⟩
    · have fa := hN1.nn (y := V (n + 1)) (fun k hk he => k1 k (by omega) he)
      have mw : mWire V n st = ((4, n + 1), st) := by
        unfold mWire
        rw [fa]
      have r1v : r1.toInt = -1 := by rw [k2]; exact em1
      have eW1 : W1 = (4, n + 1) := by rw [e1, wadd_z w0]
      have eW2 : W2 = (4, n + 1) := by
        rcases hw2' with ⟨-, e⟩ | ⟨-, -, e⟩
        · rw [e, eW1]
        · rw [e, eW1, wadd_n (Nat.succ_ne_zero 3)]
      refine ⟨fun q => w72 m2 r1 r2 W2 c12 h2 (fun _ => ⟨fun w => absurd w0 w, fun _ => Or.inr ?_⟩), fun q => by exfalso; omega⟩
      rw [eW2, mw]
      exact ⟨Nat.succ_ne_zero 3, rfl, by show n + 1 ≤ n + 2; omega⟩
  · have eW1 : W1 = W := by
      rcases hw1' with ⟨-, e⟩ | ⟨-, -, e⟩
      · exact e
      · rw [e, wadd_n w0]
    have eW2 : W2 = W := by
      rcases hw2' with ⟨-, e⟩ | ⟨-, -, e⟩
      · rw [e, eW1]
      · rw [e, eW1, wadd_n w0]
    have go := w72 m2 r1 r2 W2 c12 h2 (fun _ => ⟨fun _ => eW2, fun w => absurd w w0⟩)
    have go66 := h66 (fun w => by rw [eW2] at w ⊢; have := hW w; omega) ⟨fun _ => by rw [eW2, wadd_n w0], fun w => absurd w w0⟩
    refine ⟨fun _ => go, fun _ => ⟨fun _ => go, fun _ => ⟨fun _ => go66, fun _ => ?_⟩⟩⟩
    have b82 := C2.2.1
    exact Wp.deep (p_areWired hs (F2.sd hsd) (by omega) (fun r3 => ⟨fun _ => go, fun _ => go66⟩)) (Nat.le_of_ble_eq_true rfl)
end RWI
end
section
/-! THE REFERENCE's tells, exactly: a use -/
/-- a number's bounds: what comes of the wrong so far -/
def bX (V : Nat → Int64) (lo hi : Int) (i : Nat) (W : gR) : gR := if lo ≤ iV V i ∧ iV V i ≤ hi then W else wadd W (5, i)
def UF (m mm : dM) : Prop := (∀ k : Nat, k ≠ 70 → ¬ (87 ≤ k ∧ k ≤ 90) → mm.1 k = m.1 k) ∧ (∀ j : Nat, j ≠ 11 → j ≠ 13 → j ≠ 14 → j ≠ 15 → j ≠ 16 → mm.1 70 j = m.1 70 j) ∧ mm.2 = m.2
section RUS
variable {K : Nat → Int} {V : Nat → Int64} {P : Nat → Nat} {m0 m : dM} {L s cf cw cu n : Nat} {W : gR} {st : mSt}
theorem bX_n {lo hi : Int} {i : Nat} (h : W.1 ≠ 0) : bX V lo hi i W = W := by
  unfold bX
  split
  · rfl
  · exact wadd_n h
theorem bX_lt {lo hi : Int} {i j : Nat} (h : W.1 ≠ 0 → W.2 < j) (hij : i < j) : (bX V lo hi i W).1 ≠ 0 → (bX V lo hi i W).2 < j := by
  unfold bX
  split
  · exact h
  · intro q
    by_cases w0 : W.1 = 0
    · rw [wadd_z w0]; exact hij
    · rw [wadd_n w0]; exact h w0
theorem UF.cx {a b : dM} (h : UF m a) (hc : Cx a b) : UF m b := ⟨fun k e1 e2 => (hc.1 k e1).trans (h.1 k e1 e2), fun j a1 a2 a3 a4 a5 => (hc.2.1 j a1 a2 a3 a4 a5).trans (h.2.1 j a1 a2 a3 a4 a5), hc.2.2.trans h.2.2⟩
theorem UF.set {a : dM} {k j : Nat} {v : Int32} (h : UF m a) (hk : 87 ≤ k ∧ k ≤ 90) : UF m (dSet a k j v) := ⟨fun b e1 e2 => by rw [dSet_k (fun e => e2 (by omega))]; exact h.1 b e1 e2, fun b a1 a2 a3 a4 a5 => by rw [dSet_k (by omega)]; exact h.2.1 b a1 a2 a3 a4 a5, h.2.2⟩
theorem FX.uf {mm : dM} (h : FX m0 L m) (hu : UF m mm) : FX m0 L mm := ⟨fun k e => (hu.1 k (by omega) (by omega)).trans (h.1 k e), fun j e => (hu.2.1 j (by omega) (by omega) (by omega) (by omega) (by omega)).trans (h.2.1 j e), by rw [hu.1 80 (by decide) (by decide)]; exact h.2.2⟩
theorem RM.uf {mm : dM} (h : RM K V P m) (hu : UF m mm) : RM K V P mm := h.of (fun k a b => hu.1 k (by omega) (by omega)) (by rw [hu.2.2])
theorem e_use {Q : dM → Prop} (hL : L + s = 1) (hsd : (m0.1 70 19).toInt = (s : Int)) (hv : ∀ i, vk (K i)) (hP : ∀ i j : Nat, i < j → lvK K j → P i < P j) (hS : ST K P m (0, n + 1) W) (hR : RM K V P m) (hF : FX m0 L m) (hC : CT s cf cw cu m) (h7 : cu ≤ 7) (hQ : LQ s m) (hW : W.1 ≠ 0 → W.2 < n) (hN : W.1 = 0 → NM V s st m ∧ st.1.length = cf ∧ st.2.1.length = cw ∧ st.2.2.1.length = cu)
    (hB : (gsq K [22, 22, 23, 23, 23, 59] (n + 1)).1 ≠ 0 → ∀ (m' : dM) (W' : gR), ST K P m' (gsq K [22, 22, 23, 23, 23, 59] (n + 1)) W' → FX m0 L m' → Q m')
    (hG : (gsq K [22, 22, 23, 23, 23, 59] (n + 1)).1 = 0 → ∀ (m' : dM) (W' : gR) (st' : mSt), TI K V P m0 L s cf cw (cu + 1) (n + 7) W' st' m' → WM (mUse V n st) W W' st' → Q m') : c_X12_tellUse_70 6 m Q := by
  have hs : s ≤ 1 := by omega
  have hC5 := hC.2.2.2.2
  have sd := hF.sd hsd
  have fm := dMulE (X := 8) (Y := (s : Int)) (x := (8 : Int32)) (y := m.1 70 19) (by decide) sd.1 (by omega) (by omega)
  have fx := dAddE (X := 8 * (s : Int)) (Y := (cu : Int)) (x := (8 : Int32) * m.1 70 19) (y := m.1 86 s) fm hC.2.2.1 (by omega) (by omega)
  have gG : gsq K [22, 22, 23, 23, 23, 59] (n + 1) = rb (rb (rb (rb (rb (gnd K 22 (n + 1)) (gnd K 22)) (gnd K 23)) (gnd K 23)) (gnd K 23)) (gnd K 59) := by
    have : gsq K [22, 22, 23, 23, 23, 59] (n + 1) = rb (gnd K 22 (n + 1)) (gsq K [22, 23, 23, 23, 59]) := rfl
    rw [this, gsq_r, gsq_r, gsq_r, gsq_r, gsq_r, rb_id]
  rw [gG] at hB hG
  refine v_X12_tellUse_70 ⟨by omega, ?_⟩
  rw [sd.2]
  generalize hX : (8 : Int32) * m.1 70 19 + m.1 86 s = X at fx ⊢
  have eX : X.toNatClampNeg = 8 * s + cu := by
    have := d_cl (x := X) (by omega)
    omega
  have e0 : (m.1 70 11).toInt = ((n + 1 : Nat) : Int) := (hS.1 rfl).2.1
  have lv1 : lvK K (n + 1) := (hS.1 rfl).2.2.2.1
  have n1 : n + 1 ≤ 400 := (hS.1 rfl).2.2.1
  refine Wp.deep (q_named hv hP hR hS hC.2.2.2.1 (by omega) (fun w => by have := hW w; omega) (fun m1 W1 c1 h1 hw1 => ?_)) (Nat.le_of_ble_eq_true rfl)
  have U1 : UF m m1 := ⟨fun k a _ => c1.1 k a, c1.2.1, c1.2.2⟩
  have hW1 : (gnd K 22 (n + 1)).1 = 0 → W1.1 ≠ 0 → W1.2 < n + 2 := fun z w => by
    rcases hw1 z with ⟨-, e⟩ | ⟨-, e⟩
    · rw [e] at w ⊢
      by_cases w0 : W.1 = 0
      · rw [wadd_z w0]; show n + 1 < n + 2; omega
      · rw [wadd_n w0]; have := hW w0; omega
    · rw [e] at w ⊢; have := hW w; omega
  refine Wp.deep (q_knownFlat hv hP (hR.cx c1) h1 (hC.cx c1).2.2.2.1 (by omega) (fun z w => by rw [(gnd_0 z).1]; exact hW1 z w) (fun r2 m2 W2 c2 h2 hw2 => ?_)) (Nat.le_of_ble_eq_true rfl)
  rw [eX]
  have U2 : UF m (dSet m2 87 (8 * s + cu) r2) := (U1.cx c2).set (by decide)
  have S2 : ST K P (dSet m2 87 (8 * s + cu) r2) (rb (gnd K 22 (n + 1)) (gnd K 22)) W2 := h2.k (by decide)
  have hw2' : (rb (gnd K 22 (n + 1)) (gnd K 22)).1 = 0 → ((∃ k : Nat, k < cf + cu ∧ m.2.1 78 k = V (n + 2) ∧ 0 ≤ (m.1 79 k).toInt ∧ r2 = m.1 79 k) ∧ W2 = W1) ∨ ((∀ k : Nat, k < cf + cu → m.2.1 78 k = V (n + 2) → (m.1 79 k).toInt < 0) ∧ r2 = -1 ∧ W2 = wadd W1 (4, n + 2)) := fun z => by
    have := hw2 z
    rw [(gnd2_z z).1, c1.2.2, c1.1 79 (by decide)] at this
    exact this
  have hW2 : (rb (gnd K 22 (n + 1)) (gnd K 22)).1 = 0 → W2.1 ≠ 0 → W2.2 < n + 3 := fun z w => by
    have z1 := (rb_z z).1
    rcases hw2' z with ⟨-, e⟩ | ⟨-, -, e⟩
    · rw [e] at w ⊢; have := hW1 z1 w; omega
    · rw [e] at w ⊢
      by_cases w0 : W1.1 = 0
      · rw [wadd_z w0]; show n + 2 < n + 3; omega
      · rw [wadd_n w0]; have := hW1 z1 w0; omega
  refine ⟨by omega, ?_⟩
  generalize dSet m2 87 (8 * s + cu) r2 = M2 at U2 S2 ⊢
  refine Wp.deep (q_bounded hv hP (hR.uf U2) S2 (fun z w => by rw [(gnd2_z z).2.2.1]; exact hW2 z w) (fun r3 m3 W3 c3 h3 hw3 => ⟨by omega, ?_⟩)) (Nat.le_of_ble_eq_true rfl)
  have U3 : UF m (dSet m3 88 (8 * s + cu) r3) := (U2.cx c3).set (by decide)
  have S3 : ST K P (dSet m3 88 (8 * s + cu) r3) (rb (rb (gnd K 22 (n + 1)) (gnd K 22)) (gnd K 23)) W3 := h3.k (by decide)
  have hw3' : (rb (rb (gnd K 22 (n + 1)) (gnd K 22)) (gnd K 23)).1 = 0 → rb (rb (gnd K 22 (n + 1)) (gnd K 22)) (gnd K 23) = (0, n + 4) ∧ W3 = bX V 1 19 (n + 3) W2 := fun z => by
    have a := hw3 z
    have z2 := (rb_z z).1
    rw [(gnd2_z z2).2.2.1] at a z ⊢
    exact ⟨(gnd_0 z).1, a.2⟩
  have hW3 : (rb (rb (gnd K 22 (n + 1)) (gnd K 22)) (gnd K 23)).1 = 0 → W3.1 ≠ 0 → W3.2 < n + 4 := fun z => by
    rw [(hw3' z).2]
    exact bX_lt (fun w => by have := hW2 (rb_z z).1 w; omega) (by omega)
  generalize dSet m3 88 (8 * s + cu) r3 = M3 at U3 S3 ⊢
  refine Wp.deep (q_bounded hv hP (hR.uf U3) S3 (fun z w => by rw [(hw3' z).1]; exact hW3 z w) (fun r4 m4 W4 c4 h4 hw4 => ⟨by omega, ⟨by omega, ?_⟩⟩)) (Nat.le_of_ble_eq_true rfl)
  have U4 : UF m (dSet m4 89 (8 * s + cu) r4) := (U3.cx c4).set (by decide)
  have S4 : ST K P (dSet m4 89 (8 * s + cu) r4) (rb (rb (rb (gnd K 22 (n + 1)) (gnd K 22)) (gnd K 23)) (gnd K 23)) W4 := h4.k (by decide)
  have hw4' : (rb (rb (rb (gnd K 22 (n + 1)) (gnd K 22)) (gnd K 23)) (gnd K 23)).1 = 0 → rb (rb (rb (gnd K 22 (n + 1)) (gnd K 22)) (gnd K 23)) (gnd K 23) = (0, n + 5) ∧ r4.toInt = iV V (n + 4) ∧ W4 = bX V 0 23 (n + 4) W3 := fun z => by
    have a := hw4 z
    have z2 := (rb_z z).1
    rw [(hw3' z2).1] at a z ⊢
    exact ⟨(gnd_0 z).1, by rw [a.1]; rfl, a.2⟩
  have hW4 : (rb (rb (rb (gnd K 22 (n + 1)) (gnd K 22)) (gnd K 23)) (gnd K 23)).1 = 0 → W4.1 ≠ 0 → W4.2 < n + 5 := fun z => by
    rw [(hw4' z).2.2]
    exact bX_lt (fun w => by have := hW3 (rb_z z).1 w; omega) (by omega)
  have tail : ∀ x : Int32, (W4.1 = 0 → (rb (rb (rb (gnd K 22 (n + 1)) (gnd K 22)) (gnd K 23)) (gnd K 23)).1 = 0 → W3.1 = 0 → x.toInt = iV V (n + 4)) → c_X12_bounded_70 5 x (23 : Int32) (dSet m4 89 (8 * s + cu) r4) (fun r5 m5 => ((0 ≤ X.toInt ∧ X.toInt < 16) ∧ c_X12_endsName_70 5 (m.1 70 11) (-1 : Int32) (dSet m5 90 (8 * s + cu) r5) (fun m6 => (((m6.1 70 13).toInt ≠ 0 → j_X12_tellUse_70_118 (5 + 1) m6 Q) ∧ ((m6.1 70 13).toInt = 0 → ((0 ≤ (m6.1 70 19).toInt ∧ (m6.1 70 19).toInt < 2) ∧ ((0 ≤ (m6.1 70 19).toInt ∧ (m6.1 70 19).toInt < 2) ∧ j_X12_tellUse_70_118 (5 + 1) (dSet m6 86 (m6.1 70 19).toNatClampNeg ((m6.1 86 (m6.1 70 19).toNatClampNeg) + (1 : Int32))) Q))))))) := by
    intro x hx
    generalize dSet m4 89 (8 * s + cu) r4 = M4 at U4 S4 ⊢
    refine Wp.deep (q_bounded hv hP (hR.uf U4) S4 (fun z w => by rw [(hw4' z).1]; exact hW4 z w) (fun r5 m5 W5 c5 h5 hw5 => ⟨by omega, ?_⟩)) (Nat.le_of_ble_eq_true rfl)
    have U5 : UF m (dSet m5 90 (8 * s + cu) r5) := (U4.cx c5).set (by decide)
    have S5 : ST K P (dSet m5 90 (8 * s + cu) r5) (rb (rb (rb (rb (gnd K 22 (n + 1)) (gnd K 22)) (gnd K 23)) (gnd K 23)) (gnd K 23)) W5 := h5.k (by decide)
    have hw5' : (rb (rb (rb (rb (gnd K 22 (n + 1)) (gnd K 22)) (gnd K 23)) (gnd K 23)) (gnd K 23)).1 = 0 → rb (rb (rb (rb (gnd K 22 (n + 1)) (gnd K 22)) (gnd K 23)) (gnd K 23)) (gnd K 23) = (0, n + 6) ∧ W5 = bX V x.toInt 23 (n + 5) W4 := fun z => by
      have a := hw5 z
      have z2 := (rb_z z).1
      rw [(hw4' z2).1] at a z ⊢
      exact ⟨(gnd_0 z).1, a.2⟩
    generalize dSet m5 90 (8 * s + cu) r5 = M5 at U5 S5 ⊢
    have F5 := hF.uf U5
    have R5 := hR.uf U5
    have N5 : nms M5 = ((cf + cu : Nat) : Int) := by unfold nms; rw [U5.2.1 20 (by decide) (by decide) (by decide) (by decide) (by decide)]; exact hC.2.2.2.1
    refine Wp.deep (q_endsName (N := cf + cu) (tok := n + 1) hv R5 S5 e0 n1 N5 (by omega) (fun z6 m6 c6 h6 => ?_) (fun z6 m6 E6 h6 => ?_)) (Nat.le_of_ble_eq_true rfl)
    · have f6 := h6.fl
      exact ⟨fun _ => v_X12_tellUse_70_118 (hB z6 m6 W5 h6 (F5.cx c6)), fun q => absurd (f6.2.mp q) z6⟩
    · have f6 := h6.fl
      have F6 := F5.en E6
      have sd6 := F6.sd hsd
      rw [sd6.2]
      refine ⟨fun q => absurd (f6.2.mpr z6) q, fun _ => ⟨by omega, ⟨by omega, v_X12_tellUse_70_118 ?_⟩⟩⟩
      have z5 := (rb_z z6).1
      have z4 := (rb_z z5).1
      have z3 := (rb_z z4).1
      have z2 := (rb_z z3).1
      have z1 := (rb_z z2).1
      have t6 : rb (rb (rb (rb (rb (gnd K 22 (n + 1)) (gnd K 22)) (gnd K 23)) (gnd K 23)) (gnd K 23)) (gnd K 59) = (0, n + 7) := by
        have z := z6
        rw [(hw5' z5).1, rb_0] at z ⊢
        exact (gnd_0 z).1
      have h6' := h6
      rw [t6] at h6'
      have yn : M5.2.1 76 (n + 1) = V (n + 1) := by
        have hk1 := (gnd_0 z1).2.1
        exact (R5 (n + 1) n1 lv1).2.2.1 (by omega)
      rw [yn] at E6
      have e86 : (m6.1 86 s).toInt = (cu : Int) := by rw [E6.1 86 (by decide) (by decide), U5.1 86 (by decide) (by decide)]; exact hC.2.2.1
      have jj : ∀ j : Nat, j = 12 ∨ j = 40 ∨ j = 46 → m6.1 70 j = m.1 70 j := fun j e => by rw [E6.2.1 j (by omega) (by omega) (by omega) (by omega) (by omega) (by omega), U5.2.1 j (by omega) (by omega) (by omega) (by omega) (by omega)]
      have tt6 : tt m6 = ((n + 7 : Nat) : Int) := (h6'.1 rfl).2.1
      have tt0 : tt m = ((n + 1 : Nat) : Int) := e0
      have SS : ST K P (dSet m6 86 s (m6.1 86 s + 1)) (0, n + 7) W5 := h6'.k (by decide)
      have RR : RM K V P (dSet m6 86 s (m6.1 86 s + 1)) := R5.of (fun k a b => by rw [dSet_k (by omega)]; exact E6.1 k (by omega) (by omega)) (by show m6.2.1 76 = M5.2.1 76; exact E6.2.2.2.2.1 76 (by decide))
      have QQ : LQ s (dSet m6 86 s (m6.1 86 s + 1)) := hQ.j (jj 12 (by omega)) (jj 46 (by omega)) (jj 40 (by omega)) (by show tt m ≤ tt m6; omega)
      have FF : FX m0 L (dSet m6 86 s (m6.1 86 s + 1)) := F6.set (by decide) (by decide) (fun e => absurd e (by decide))
      have CC : CT s cf cw (cu + 1) (dSet m6 86 s (m6.1 86 s + 1)) := by
        refine ⟨?_, ?_, by rw [dSet_s]; exact d_inc e86 (by omega), ?_, by omega, by omega, by omega⟩
        · rw [dSet_k (by decide), E6.1 80 (by decide) (by decide), U5.1 80 (by decide) (by decide)]; exact hC.1
        · rw [dSet_k (by decide), E6.1 82 (by decide) (by decide), U5.1 82 (by decide) (by decide)]; exact hC.2.1
        · show (m6.1 70 20).toInt = _
          rw [E6.2.2.1]
          omega
      have e3 := (hw3' z3).2
      have e4 := (hw4' z4).2.2
      have e5 := (hw5' z5).2
      have w5lt : W5.1 ≠ 0 → W5.2 < n + 7 := by
        rw [e5]
        exact bX_lt (fun w => by have := hW4 z4 w; omega) (by omega)
      have stays : W2.1 ≠ 0 → W5 = W2 := fun w => by rw [e5, e4, e3, bX_n w, bX_n w, bX_n w]
      have key : ∃ st' : mSt, (W5.1 = 0 → NM V s st' (dSet m6 86 s (m6.1 86 s + 1)) ∧ st'.1.length = cf ∧ st'.2.1.length = cw ∧ st'.2.2.1.length = cu + 1) ∧ WM (mUse V n st) W W5 st' := by
        unfold WM
        by_cases w0 : W.1 = 0
        · obtain ⟨hN1, hl1, hl2, hl3⟩ := hN w0
          have kn : (∃ k : Nat, k < cf + cu ∧ m.2.1 78 k = V (n + 1)) ↔ knw V st (V (n + 1)) = true := by
            rw [← hl1, ← hl3]; exact hN1.kn
          have wr : ∀ (c i : Nat), W5 = (c + 1, i) → mUse V n st = ((c + 1, i), st) → ∃ st' : mSt, (W5.1 = 0 → NM V s st' (dSet m6 86 s (m6.1 86 s + 1)) ∧ st'.1.length = cf ∧ st'.2.1.length = cw ∧ st'.2.2.1.length = cu + 1) ∧ (W.1 ≠ 0 → W5 = W) ∧ (W.1 = 0 → ((mUse V n st).1.1 = 0 → W5.1 = 0 ∧ st' = (mUse V n st).2) ∧ ((mUse V n st).1.1 ≠ 0 → W5 = (mUse V n st).1)) := fun c i a b => by
            rw [a, b]
            exact ⟨st, fun q => absurd q (Nat.succ_ne_zero c), fun q => absurd w0 q, fun _ => ⟨fun q => absurd q (Nat.succ_ne_zero c), fun _ => rfl⟩⟩
          rcases hw1 z1 with ⟨ex, e1⟩ | ⟨ex, e1⟩
          · have kt := kn.mp ex
            rw [wadd_z w0] at e1
            have e2 : W2 = (3, n + 1) := by
              rcases hw2' z2 with ⟨-, e⟩ | ⟨-, -, e⟩
              · rw [e, e1]
              · rw [e, e1, wadd_n (Nat.succ_ne_zero 2)]
            refine wr 2 (n + 1) (by rw [stays (by rw [e2]; exact Nat.succ_ne_zero 2), e2]) ?_
            unfold mUse
            rw [kt]
            rfl
          · have kf : knw V st (V (n + 1)) = false := by
              cases hh : knw V st (V (n + 1)) with
              | false => rfl
              | true =>
                obtain ⟨k, k1, k2⟩ := kn.mpr hh
                exact absurd k2 (ex k k1)
            rcases hw2' z2 with ⟨⟨k, k2, k3, k4, k5⟩, e2⟩ | ⟨k1, k2, e2⟩
            · obtain ⟨h, fh, vh⟩ := hN1.sm (by omega) k3 k4
              have mU : mUse V n st = bnd V (n + 3) 1 19 (bnd V (n + 4) 0 23 (bnd V (n + 5) (iV V (n + 4)) 23 ((0, 0), (st.1, st.2.1, st.2.2.1 ++ [(n, h)], st.2.2.2)) st) st) st := by
                unfold mUse
                rw [kf, fh]
                rfl
              rw [e1] at e2
              rw [e2] at e3
              unfold bX at e3 e4 e5
              by_cases b3 : (1 : Int) ≤ iV V (n + 3) ∧ iV V (n + 3) ≤ 19
              · rw [if_pos b3] at e3
                rw [e3] at e4
                by_cases b4 : (0 : Int) ≤ iV V (n + 4) ∧ iV V (n + 4) ≤ 23
                · rw [if_pos b4] at e4
                  have ex5 := hx (by rw [e4]; exact w0) z4 (by rw [e3]; exact w0)
                  rw [ex5, e4] at e5
                  by_cases b5 : iV V (n + 4) ≤ iV V (n + 5) ∧ iV V (n + 5) ≤ 23
                  · rw [if_pos b5] at e5
                    have mU' : mUse V n st = ((0, 0), (st.1, st.2.1, st.2.2.1 ++ [(n, h)], st.2.2.2)) := by
                      rw [mU]
                      unfold bnd
                      rw [if_pos b3, if_pos b4, if_pos b5]
                    rw [mU', e5]
                    refine ⟨(st.1, st.2.1, st.2.2.1 ++ [(n, h)], st.2.2.2), fun _ => ⟨?_, hl1, hl2, ?_⟩, fun q => absurd w0 q, fun _ => ⟨fun _ => ⟨w0, rfl⟩, fun q => absurd rfl q⟩⟩
                    · refine hN1.use (N := cf + cu) (v := (-1 : Int32)) (by omega) (by decide) (fun j => ?_) ?_ ?_ (fun j => ?_)
                      · rw [dSet_k (by decide), E6.2.2.2.1 j, U5.1 79 (by decide) (by decide)]
                      · rw [dSet_k (by decide), E6.1 83 (by decide) (by decide), U5.1 83 (by decide) (by decide)]
                      · rw [dSet_k (by decide), E6.1 84 (by decide) (by decide), U5.1 84 (by decide) (by decide)]
                      · show m6.2.1 78 j = _
                        rw [E6.2.2.2.2.2.1 j, U5.2.2]
                    · show (st.2.2.1 ++ [(n, h)]).length = cu + 1
                      rw [List.length_append, hl3]; rfl
                  · rw [if_neg b5, wadd_z w0] at e5
                    refine wr 4 (n + 5) e5 ?_
                    rw [mU]
                    unfold bnd
                    rw [if_pos b3, if_pos b4, if_neg b5]
                · rw [if_neg b4, wadd_z w0] at e4
                  rw [e4] at e5
                  refine wr 4 (n + 4) (by rw [e5]; split; rfl; exact wadd_n (Nat.succ_ne_zero 4)) ?_
                  rw [mU]
                  unfold bnd
                  rw [if_pos b3, if_neg b4]
              · rw [if_neg b3, wadd_z w0] at e3
                have e4' : W4 = (5, n + 3) := by rw [e4, e3]; split; rfl; exact wadd_n (Nat.succ_ne_zero 4)
                refine wr 4 (n + 3) (by rw [e5, e4']; split; rfl; exact wadd_n (Nat.succ_ne_zero 4)) ?_
                rw [mU]
                unfold bnd
                rw [if_neg b3]
            · have fh := hN1.nn (y := V (n + 2)) (fun k hk he => k1 k (by omega) he)
              have e2' : W2 = (4, n + 2) := by rw [e2, e1, wadd_z w0]
              refine wr 3 (n + 2) (by rw [stays (by rw [e2']; exact Nat.succ_ne_zero 3), e2']) ?_
              unfold mUse
              rw [kf, fh]
              rfl
        · have e1 : W1 = W := by
            rcases hw1 z1 with ⟨-, e⟩ | ⟨-, e⟩
            · rw [e, wadd_n w0]
            · exact e
          have e2 : W2 = W := by
            rcases hw2' z2 with ⟨-, e⟩ | ⟨-, -, e⟩
            · rw [e, e1]
            · rw [e, e1, wadd_n w0]
          have e5' : W5 = W := by rw [stays (by rw [e2]; exact w0), e2]
          rw [e5']
          exact ⟨st, fun q => absurd q w0, fun _ => rfl, fun q => absurd q w0⟩
      obtain ⟨st', kn, kwn⟩ := key
      exact hG z6 _ W5 st' ⟨SS, RR, FF, CC, QQ, w5lt, kn⟩ kwn
  refine ⟨fun q => ⟨by omega, tail r4 (fun _ z _ => (hw4' z).2.1)⟩, fun q => tail (0 : Int32) (fun w z w3 => ?_)⟩
  exfalso
  have e23 : (23 : Int32).toInt = 23 := by decide
  have a := hw4' z
  rw [a.2.2] at w
  unfold bX at w
  rw [if_neg (by omega), wadd_z w3] at w
  exact absurd w (Nat.succ_ne_zero 4)
end RUS
end
section
/-! THE REFERENCE's tells, exactly: one of them -/
def VF (m mm : dM) : Prop := (∀ k : Nat, k ≠ 70 → ¬ (91 ≤ k ∧ k ≤ 94) → mm.1 k = m.1 k) ∧ (∀ j : Nat, j ≠ 11 → j ≠ 13 → j ≠ 14 → j ≠ 15 → j ≠ 16 → mm.1 70 j = m.1 70 j) ∧ mm.2 = m.2
section RON
variable {K : Nat → Int} {V : Nat → Int64} {P : Nat → Nat} {m0 m : dM} {L s cf cw cu n : Nat} {W : gR} {st : mSt}
theorem VF.of {b : dM} (hc : Cx m b) : VF m b := ⟨fun k e _ => hc.1 k e, hc.2.1, hc.2.2⟩
theorem VF.cx {a b : dM} (h : VF m a) (hc : Cx a b) : VF m b := ⟨fun k e1 e2 => (hc.1 k e1).trans (h.1 k e1 e2), fun j a1 a2 a3 a4 a5 => (hc.2.1 j a1 a2 a3 a4 a5).trans (h.2.1 j a1 a2 a3 a4 a5), hc.2.2.trans h.2.2⟩
theorem VF.set {a : dM} {k j : Nat} {v : Int32} (h : VF m a) (hk : 91 ≤ k ∧ k ≤ 94) : VF m (dSet a k j v) := ⟨fun b e1 e2 => by rw [dSet_k (fun e => e2 (by omega))]; exact h.1 b e1 e2, fun b a1 a2 a3 a4 a5 => by rw [dSet_k (by omega)]; exact h.2.1 b a1 a2 a3 a4 a5, h.2.2⟩
theorem FX.vf {mm : dM} (h : FX m0 L m) (hu : VF m mm) : FX m0 L mm := ⟨fun k e => (hu.1 k (by omega) (by omega)).trans (h.1 k e), fun j e => (hu.2.1 j (by omega) (by omega) (by omega) (by omega) (by omega)).trans (h.2.1 j e), by rw [hu.1 80 (by decide) (by decide)]; exact h.2.2⟩
theorem RM.vf {mm : dM} (h : RM K V P m) (hu : VF m mm) : RM K V P mm := h.of (fun k a b => hu.1 k (by omega) (by omega)) (by rw [hu.2.2])
theorem TI.fin {mm : dM} {n' : Nat} {W' : gR} {z : Option Nat × Option Nat × Option Nat} (hT : TI K V P m0 L s cf cw cu n W st m) (hu : VF m mm) (hS : ST K P mm (0, n') W') (hn : n ≤ n') (hw : W'.1 ≠ 0 → W'.2 < n') (h0 : W'.1 = 0 → W.1 = 0) : TI K V P m0 L s cf cw cu n' W' (st.1, st.2.1, st.2.2.1, z) mm := by
  obtain ⟨hS0, hR, hF, hC, hQ, hW, hN⟩ := hT
  have t1 : tt mm = (n' : Int) := (hS.1 rfl).2.1
  have t0 : tt m = (n : Int) := (hS0.1 rfl).2.1
  refine ⟨hS, hR.vf hu, hF.vf hu, ?_, hQ.j (hu.2.1 12 (by decide) (by decide) (by decide) (by decide) (by decide)) (hu.2.1 46 (by decide) (by decide) (by decide) (by decide) (by decide)) (hu.2.1 40 (by decide) (by decide) (by decide) (by decide) (by decide)) (by omega), hw, fun w => ?_⟩
  · unfold CT nms
    rw [hu.1 80 (by decide) (by decide), hu.1 82 (by decide) (by decide), hu.1 86 (by decide) (by decide), hu.2.1 20 (by decide) (by decide) (by decide) (by decide) (by decide)]
    exact hC
  · obtain ⟨a, b⟩ := hN (h0 w)
    exact ⟨(a.of (hu.1 79 (by decide) (by decide)) (hu.1 83 (by decide) (by decide)) (hu.1 84 (by decide) (by decide)) (by rw [hu.2.2]) : NM V s st mm), b⟩
theorem e_one {Q : dM → Prop} (hL : L + s = 1) (hsd : (m0.1 70 19).toInt = (s : Int)) (hv : ∀ i, vk (K i)) (hP : ∀ i j : Nat, i < j → lvK K j → P i < P j) (hT : TI K V P m0 L s cf cw cu n W st m)
    (hB : (gTell K cf cw cu n).1 ≠ 0 → ∀ (m' : dM) (W' : gR), ST K P m' (gTell K cf cw cu n) W' → FX m0 L m' → Q m')
    (hG : (gTell K cf cw cu n).1 = 0 → ∀ (m' : dM) (W' : gR) (st' : mSt), TI K V P m0 L s (cf + ct (K n) 0) (cw + ct (K n) 1) (cu + ct (K n) 2) (gTell K cf cw cu n).2 W' st' m' → WN K V n W st W' st' → Q m') : c_X12_tellOne_70 8 m Q := by
  have hs : s ≤ 1 := by omega
  have hT' := hT
  obtain ⟨hS, hR, hF, hC, hLQ, hW, hN⟩ := hT'
  have hC5 := hC.2.2.2.2
  have sd := hF.sd hsd
  obtain ⟨b1, b2, b3, b4, b5⟩ := hS.1 rfl
  have b2 : (m.1 70 11).toInt = (n : Int) := b2
  have b3 : n ≤ 400 := b3
  have b4 : lvK K n := b4
  have tr : (0 ≤ (m.1 70 11).toInt ∧ (m.1 70 11).toInt < 403) := by omega
  have ek : (m.1 73 (m.1 70 11).toNatClampNeg).toInt = rk (K n) := by
    rw [d_cn b2]
    exact (hR n b3 b4).1
  obtain ⟨ra1, ra2, ra3⟩ := rk_rg (hv n)
  have kn : ∀ c : Int, 0 ≤ c ∧ c ≤ 21 → (m.1 73 (m.1 70 11).toNatClampNeg).toInt = 20 + c → K n = c := fun c hc e => by
    have := ra1 (by omega)
    have := ra2 this
    omega
  have fin : ∀ m', Q m' → j_X12_tellOne_70_371 8 m' Q := fun m' h => v_X12_tellOne_70_371 h
  have ct0 : ∀ c : Int, (c ≠ 0 ∧ c ≠ 1 ∧ c ≠ 2) → ct c 0 = 0 ∧ ct c 1 = 0 ∧ ct c 2 = 0 := fun c h => by
    unfold ct
    rw [if_neg h.1, if_neg h.2.1, if_neg h.2.2]
    exact ⟨rfl, rfl, rfl⟩
  -- a law, or none
  have l354 : ∀ (x1 : Int32) (mm : dM) (r : gR), Cx m mm → ST K P mm r W → (r.1 = 0 → r = (0, n) ∧ (0 ≤ x1.toInt ∧ x1.toInt ≤ 3) ∧ 3 ≤ K n ∧ K n ≤ 6) → (r.1 ≠ 0 → r = gTell K cf cw cu n) → j_X12_tellOne_70_354 8 x1 mm Q := by
    intro x1 mm r cm hr h0 h1
    have f := hr.fl
    have ef : (mm.1 70 13).toInt = flt mm := rfl
    refine v_X12_tellOne_70_354 ⟨fun hc => ?_, fun hc => ?_⟩
    · have z : r.1 = 0 := f.2.mp (by omega)
      obtain ⟨er, hx, k3, k6⟩ := h0 z
      rw [er] at hr
      have gT : gTell K cf cw cu n = gLaw K n := by
        unfold gTell
        rw [if_neg (by omega), if_neg (by omega), if_neg (by omega), if_pos ⟨k3, k6⟩]
      refine Wp.deep (q_goesOn (hR.cx cm) hr (fun _ => by show K n ≠ 24 ∧ K n ≠ 25; omega) (fun m1 c1 s1 => ?_)) (Nat.le_of_ble_eq_true rfl)
      have s1 : ST K P m1 (gst n) W := s1
      have cm1 := cm.tr c1
      have F1 := hF.cx cm1
      have l1 : opn m1 = opn m ∧ cds m1 = cds m ∧ brs m1 = brs m := by
        unfold opn cds brs
        rw [cm1.2.1 12 (by decide) (by decide) (by decide) (by decide) (by decide), cm1.2.1 46 (by decide) (by decide) (by decide) (by decide) (by decide), cm1.2.1 40 (by decide) (by decide) (by decide) (by decide) (by decide)]
        exact ⟨rfl, rfl, rfl⟩
      have t0 : tt m = (n : Int) := b2
      obtain ⟨q1, q2, q3⟩ := hLQ
      refine Wp.deep (r_tellLaw hs (F1.sd hsd).1 hx hv (hR.cx cm1) s1 ⟨by omega, by omega⟩ (by omega) (fun z1 => ?_) (fun m2 x2 s2 => fin m2 ?_)) (Nat.le_of_ble_eq_true rfl)
      · have t1 := (s1.1 z1).2.1
        rw [(gst_z z1).1] at t1
        have t1 : tt m1 = ((n + 1 : Nat) : Int) := t1
        exact ⟨by omega, by omega, by omega⟩
      · have s2 : ST K P m2 (gLaw K n) W := s2
        rw [← gT] at s2
        have F2 : FX m0 L m2 := ⟨fun k e => (x2.1 k (by omega) (by omega)).trans (F1.1 k e), fun j e => (x2.2.1 j (by omega) (by omega) (by omega) (by omega) (by omega) (by omega) (by omega) (by omega) (by omega)).trans (F1.2.1 j e), by rw [x2.1 80 (by decide) (by decide)]; exact F1.2.2⟩
        by_cases zz : (gTell K cf cw cu n).1 = 0
        · have eT : gTell K cf cw cu n = (0, (gTell K cf cw cu n).2) := by rw [← zz]
          have nle : n ≤ (gTell K cf cw cu n).2 := by
            rw [gT] at zz ⊢
            obtain ⟨e, x1', x2', x3', x4'⟩ := gLaw_z zz
            rw [x1']
            have := x4'.1
            show n ≤ e + 1
            omega
          have cc := ct0 (K n) (by omega)
          have f2 : flt m2 = 0 := s2.fl.2.mpr zz
          have lq := x2.2.2.2 f2
          refine hG zz m2 W st ?_ ⟨fun _ => rfl, fun w => ?_⟩
          · rw [cc.1, cc.2.1, cc.2.2]
            refine ⟨by rw [← eT]; exact s2, (hR.cx cm1).of (fun k a b => x2.1 k (by omega) (by omega)) (by rw [x2.2.2.1]), F2, ?_, ⟨lq.1, by omega, by omega⟩, fun w => by have := hW w; omega, fun w => ?_⟩
            · have C1 := hC.cx cm1
              unfold CT nms at C1 ⊢
              rw [x2.1 80 (by decide) (by decide), x2.1 82 (by decide) (by decide), x2.1 86 (by decide) (by decide), x2.2.1 20 (by decide) (by decide) (by decide) (by decide) (by decide) (by decide) (by decide) (by decide) (by decide)]
              exact C1
            · obtain ⟨a, b⟩ := hN w
              exact ⟨(a.cx cm1).of (x2.1 79 (by decide) (by decide)) (x2.1 83 (by decide) (by decide)) (x2.1 84 (by decide) (by decide)) (by rw [x2.2.2.1]), b⟩
          · have mT : mTell K V n st = ((0, 0), st) := by
              unfold mTell
              rw [if_neg (by omega), if_neg (by omega), if_neg (by omega), if_neg (by omega), if_neg (by omega), if_neg (by omega)]
            rw [mT]
            exact ⟨fun _ => ⟨w, rfl⟩, fun q => absurd rfl q⟩
        · exact hB zz m2 W s2 F2
    · have z : r.1 ≠ 0 := fun z => by have := f.2.mpr z; omega
      have er := h1 z
      rw [er] at hr z
      exact hB z mm W hr (hF.cx cm)
  have l349 : ∀ x1 : Int32, gTell K cf cw cu n = (1, n) → j_X12_tellOne_70_349 8 x1 m Q := fun x1 gT => by
    refine v_X12_tellOne_70_349 (Wp.deep (q_fail hR hS (c := 1) (by decide) (by decide) (fun m1 c1 _ h1 => l354 x1 m1 (1, n) c1 h1 (fun q => absurd q (Nat.succ_ne_zero 0)) (fun _ => gT.symm))) (Nat.le_of_ble_eq_true rfl))
  have law : (m.1 73 (m.1 70 11).toNatClampNeg).toInt < 20 ∨ 29 < (m.1 73 (m.1 70 11).toNatClampNeg).toInt ∨ (23 ≤ (m.1 73 (m.1 70 11).toNatClampNeg).toInt ∧ (m.1 73 (m.1 70 11).toNatClampNeg).toInt ≤ 26) → ((0 ≤ (m.1 70 11).toInt ∧ (m.1 70 11).toInt < 403) ∧ ((((m.1 73 (m.1 70 11).toNatClampNeg) - (23 : Int32)).toInt < 0 → j_X12_tellOne_70_349 (7 + 1) ((m.1 73 (m.1 70 11).toNatClampNeg) - (23 : Int32)) m Q) ∧ (0 ≤ ((m.1 73 (m.1 70 11).toNatClampNeg) - (23 : Int32)).toInt → ((0 ≤ (m.1 70 11).toInt ∧ (m.1 70 11).toInt < 403) ∧ (((m.1 73 (m.1 70 11).toNatClampNeg).toInt ≤ 26 → j_X12_tellOne_70_354 (7 + 1) ((m.1 73 (m.1 70 11).toNatClampNeg) - (23 : Int32)) m Q) ∧ (26 < (m.1 73 (m.1 70 11).toNatClampNeg).toInt → j_X12_tellOne_70_349 (7 + 1) ((m.1 73 (m.1 70 11).toNatClampNeg) - (23 : Int32)) m Q)))))) := fun hkd => by
    have f := dSubE (X := (m.1 73 (m.1 70 11).toNatClampNeg).toInt) (Y := 23) (x := m.1 73 (m.1 70 11).toNatClampNeg) (y := (23 : Int32)) rfl (by decide) (by omega) (by omega)
    have no : (m.1 73 (m.1 70 11).toNatClampNeg).toInt < 20 ∨ 29 < (m.1 73 (m.1 70 11).toNatClampNeg).toInt → gTell K cf cw cu n = (1, n) := fun o => by
      have nk : ¬ (0 ≤ K n ∧ K n ≤ 9) := fun q => by
        have := ra2 (by omega)
        omega
      unfold gTell
      rw [if_neg (by omega), if_neg (by omega), if_neg (by omega), if_neg (by omega), if_neg (by omega), if_neg (by omega)]
    refine ⟨tr, fun q => l349 _ (no (by omega)), fun q => ⟨tr, fun q2 => ?_, fun q2 => l349 _ (no (by omega))⟩⟩
    have := ra1 (by omega)
    have := ra2 this
    exact l354 _ m (0, n) (Cx.rf m) hS (fun _ => ⟨rfl, by omega, by omega, by omega⟩) (fun q => absurd rfl q)
  -- a number, or two
  have one : ∀ (k : Nat) (hi : Int32) (hh : Int) (z : Option Nat × Option Nat × Option Nat), (k = 93 ∨ k = 94) → hi.toInt = hh → (K n = 8 ∨ K n = 9) → mTell K V n st = bnd V (n + 1) 0 hh ((0, 0), (st.1, st.2.1, st.2.2.1, z)) st → c_X12_goesOn_70 7 m (fun m13 => c_X12_bounded_70 7 (0 : Int32) hi m13 (fun r14 m14 => ((0 ≤ (m13.1 70 19).toInt ∧ (m13.1 70 19).toInt < 2) ∧ c_X12_must_70 7 (4 : Int32) (dSet m14 k (m13.1 70 19).toNatClampNeg r14) (fun m15 => j_X12_tellOne_70_371 (7 + 1) m15 Q)))) := by
    intro k hi hh z hk ehi hK mT
    have gT : gTell K cf cw cu n = rb (rb (gst n) (gnd K 23)) (gnd K 59) := by
      unfold gTell
      rw [if_neg (by omega), if_neg (by omega), if_neg (by omega), if_neg (by omega), if_neg (by omega), if_pos hK, gsq_r, gsq_r, rb_id]
    refine Wp.deep (q_goesOn hR hS (fun _ => by show K n ≠ 24 ∧ K n ≠ 25; omega) (fun m1 c1 s1 => ?_)) (Nat.le_of_ble_eq_true rfl)
    have s1 : ST K P m1 (gst n) W := s1
    have sd1 := (hF.cx c1).sd hsd
    refine Wp.deep (q_bounded hv hP (hR.cx c1) s1 (fun z1 w => by rw [(gst_z z1).1]; have := hW w; show W.2 < n + 1; omega) (fun r2 m2 W2 c2 s2 hw2 => ⟨by omega, ?_⟩)) (Nat.le_of_ble_eq_true rfl)
    rw [sd1.2]
    have U2 : VF m (dSet m2 k s r2) := (VF.of (c1.tr c2)).set (by omega)
    have S2 : ST K P (dSet m2 k s r2) (rb (gst n) (gnd K 23)) W2 := s2.k (by omega)
    generalize dSet m2 k s r2 = M2 at U2 S2 ⊢
    refine Wp.deep (q_must (k := 59) hv (hR.vf U2) S2 (by decide) (by unfold vk; omega) (by decide) (fun m3 c3 s3 => fin m3 ?_)) (Nat.le_of_ble_eq_true rfl)
    rw [← gT] at s3
    have U3 := U2.cx c3
    by_cases zz : (gTell K cf cw cu n).1 = 0
    · have z3 := zz
      rw [gT] at z3
      have z2 := (rb_z z3).1
      have z1 := (rb_z z2).1
      have g1 := (gst_z z1).1
      have hw2' := hw2 z2
      rw [g1] at hw2'
      have eT : gTell K cf cw cu n = (0, n + 3) := by
        rw [gT]
        rw [g1, rb_0] at z2 z3 ⊢
        rw [(gnd_0 z2).1, rb_0] at z3 ⊢
        rw [(gnd_0 z3).1]
      rw [eT] at s3
      have eW : W2 = bX V 0 hh (n + 1) W := by rw [hw2'.2]; unfold bX; rw [ehi]; rfl
      have cc := ct0 (K n) (by omega)
      refine hG zz m3 W2 (st.1, st.2.1, st.2.2.1, z) ?_ ⟨fun w => by rw [eW, bX_n w], fun w => ?_⟩
      · rw [cc.1, cc.2.1, cc.2.2, eT]
        refine hT.fin U3 s3 (by omega) ?_ (fun w => ?_)
        · rw [eW]; exact bX_lt (fun w => by have := hW w; omega) (by omega)
        · by_cases q : W.1 = 0
          · exact q
          · rw [eW, bX_n q] at w; exact w
      · rw [mT, eW]
        unfold bnd bX
        by_cases inb : (0 : Int) ≤ iV V (n + 1) ∧ iV V (n + 1) ≤ hh
        · rw [if_pos inb, if_pos inb]; exact ⟨fun _ => ⟨w, rfl⟩, fun q => absurd rfl q⟩
        · rw [if_neg inb, if_neg inb, wadd_z w]; exact ⟨fun q => absurd q (Nat.succ_ne_zero 4), fun _ => rfl⟩
    · exact hB zz m3 W2 s3 (hF.vf U3)
  refine v_X12_tellOne_70 ⟨tr, fun q => ⟨by omega, e_flat hL hsd hv hP hT (kn 0 (by decide) q) hB hG fin⟩, fun q => ⟨by omega, ?_⟩, fun q => ⟨by omega, ?_⟩, fun q => law (by omega), fun q => law (by omega), fun q => law (by omega), fun q => law (by omega), fun q => ?_, fun q => ?_, fun q => ?_, fun q => law (by omega)⟩
  · have hk := kn 1 (by decide) q
    have gT : gTell K cf cw cu n = if 10 ≤ cw then (2, n) else rb (gst n) (gsq K [22, 22, 23, 59]) := by unfold gTell; rw [if_neg (by omega), if_pos hk]
    rw [sd.2]
    refine Wp.deep (q_roomFor (most := 10) hR hS (by omega) hC.2.1 (by decide) hC5.2.1 (fun m1 c1 h1 => ?_)) (Nat.le_of_ble_eq_true rfl)
    have f1 := h1.fl
    have e13 : (m1.1 70 13).toInt = flt m1 := rfl
    refine ⟨fun q2 => fin m1 ?_, fun q2 => ?_⟩
    · have z : (if 10 ≤ cw then ((2, n) : gR) else gst n).1 ≠ 0 := fun z => q2 (f1.2.mpr z)
      have eT : gTell K cf cw cu n = if 10 ≤ cw then (2, n) else gst n := by
        rw [gT]
        by_cases q7 : 10 ≤ cw
        · rw [if_pos q7, if_pos q7]
        · rw [if_neg q7] at z
          rw [if_neg q7, if_neg q7, rb_f z]
      exact hB (by rw [eT]; exact z) m1 W (by rw [eT]; exact h1) (hF.cx c1)
    · have z1 : (if 10 ≤ cw then ((2, n) : gR) else gst n).1 = 0 := f1.2.mp q2
      have c7 : ¬ 10 ≤ cw := fun q7 => by rw [if_pos q7] at z1; exact absurd z1 (Nat.succ_ne_zero 1)
      rw [if_neg c7] at z1 h1 gT
      have g1 := gst_z z1
      rw [g1.1] at h1 gT
      rw [rb_0] at gT
      have t1 : tt m1 = ((n + 1 : Nat) : Int) := (h1.1 rfl).2.1
      have t0 : tt m = (n : Int) := b2
      refine Wp.deep (e_wire (st := st) hL hsd hv hP h1 (hR.cx c1) (hF.cx c1) (hC.cx c1) (by omega) (hLQ.j (c1.2.1 12 (by decide) (by decide) (by decide) (by decide) (by decide)) (c1.2.1 46 (by decide) (by decide) (by decide) (by decide) (by decide)) (c1.2.1 40 (by decide) (by decide) (by decide) (by decide) (by decide)) (by omega)) hW (fun w => ⟨(hN w).1.cx c1, (hN w).2⟩) (fun z m' W' s' F' => fin m' (hB (by rw [gT]; exact z) m' W' (by rw [gT]; exact s') F')) (fun z m' W' st' T' M' => fin m' (hG (by rw [gT]; exact z) m' W' st' ?_ ?_))) (Nat.le_of_ble_eq_true rfl)
      · have e := (gsq_z _ _ z).1
        rw [gT, e, hk]
        exact T'
      · have mT : mTell K V n st = mWire V n st := by unfold mTell; rw [if_neg (by omega), if_pos hk]
        unfold WN
        rw [mT]
        exact M'
  · have hk := kn 2 (by decide) q
    have gT : gTell K cf cw cu n = if 8 ≤ cu then (2, n) else rb (gst n) (gsq K [22, 22, 23, 23, 23, 59]) := by unfold gTell; rw [if_neg (by omega), if_neg (by omega), if_pos hk]
    rw [sd.2]
    refine Wp.deep (q_roomFor (most := 8) hR hS (by omega) hC.2.2.1 (by decide) hC5.2.2 (fun m1 c1 h1 => ?_)) (Nat.le_of_ble_eq_true rfl)
    have f1 := h1.fl
    have e13 : (m1.1 70 13).toInt = flt m1 := rfl
    refine ⟨fun q2 => fin m1 ?_, fun q2 => ?_⟩
    · have z : (if 8 ≤ cu then ((2, n) : gR) else gst n).1 ≠ 0 := fun z => q2 (f1.2.mpr z)
      have eT : gTell K cf cw cu n = if 8 ≤ cu then (2, n) else gst n := by
        rw [gT]
        by_cases q7 : 8 ≤ cu
        · rw [if_pos q7, if_pos q7]
        · rw [if_neg q7] at z
          rw [if_neg q7, if_neg q7, rb_f z]
      exact hB (by rw [eT]; exact z) m1 W (by rw [eT]; exact h1) (hF.cx c1)
    · have z1 : (if 8 ≤ cu then ((2, n) : gR) else gst n).1 = 0 := f1.2.mp q2
      have c7 : ¬ 8 ≤ cu := fun q7 => by rw [if_pos q7] at z1; exact absurd z1 (Nat.succ_ne_zero 1)
      rw [if_neg c7] at z1 h1 gT
      have g1 := gst_z z1
      rw [g1.1] at h1 gT
      rw [rb_0] at gT
      have t1 : tt m1 = ((n + 1 : Nat) : Int) := (h1.1 rfl).2.1
      have t0 : tt m = (n : Int) := b2
      refine Wp.deep (e_use (st := st) hL hsd hv hP h1 (hR.cx c1) (hF.cx c1) (hC.cx c1) (by omega) (hLQ.j (c1.2.1 12 (by decide) (by decide) (by decide) (by decide) (by decide)) (c1.2.1 46 (by decide) (by decide) (by decide) (by decide) (by decide)) (c1.2.1 40 (by decide) (by decide) (by decide) (by decide) (by decide)) (by omega)) hW (fun w => ⟨(hN w).1.cx c1, (hN w).2⟩) (fun z m' W' s' F' => fin m' (hB (by rw [gT]; exact z) m' W' (by rw [gT]; exact s') F')) (fun z m' W' st' T' M' => fin m' (hG (by rw [gT]; exact z) m' W' st' ?_ ?_))) (Nat.le_of_ble_eq_true rfl)
      · have e := (gsq_z _ _ z).1
        rw [gT, e, hk]
        exact T'
      · have mT : mTell K V n st = mUse V n st := by unfold mTell; rw [if_neg (by omega), if_neg (by omega), if_pos hk]
        unfold WN
        rw [mT]
        exact M'
  · have hk := kn 7 (by decide) q
    have gT : gTell K cf cw cu n = rb (rb (rb (gst n) (gnd K 23)) (gnd K 23)) (gnd K 59) := by
      unfold gTell
      rw [if_neg (by omega), if_neg (by omega), if_neg (by omega), if_neg (by omega), if_pos hk, gsq_r, gsq_r, gsq_r, rb_id]
    have mT : mTell K V n st = bnd V (n + 1) 0 100 (bnd V (n + 2) 0 19 ((0, 0), (st.1, st.2.1, st.2.2.1, (some n, st.2.2.2.2))) st) st := by
      unfold mTell
      rw [if_neg (by omega), if_neg (by omega), if_neg (by omega), if_pos hk]
    refine Wp.deep (q_goesOn hR hS (fun _ => by show K n ≠ 24 ∧ K n ≠ 25; omega) (fun m1 c1 s1 => ?_)) (Nat.le_of_ble_eq_true rfl)
    have s1 : ST K P m1 (gst n) W := s1
    have sd1 := (hF.cx c1).sd hsd
    refine Wp.deep (q_bounded hv hP (hR.cx c1) s1 (fun z1 w => by rw [(gst_z z1).1]; have := hW w; show W.2 < n + 1; omega) (fun r2 m2 W2 c2 s2 hw2 => ⟨by omega, ?_⟩)) (Nat.le_of_ble_eq_true rfl)
    have sd2 := (hF.cx (c1.tr c2)).sd hsd
    rw [sd1.2]
    have U2 : VF m (dSet m2 91 s r2) := (VF.of (c1.tr c2)).set (by decide)
    have S2 : ST K P (dSet m2 91 s r2) (rb (gst n) (gnd K 23)) W2 := s2.k (by decide)
    generalize dSet m2 91 s r2 = M2 at U2 S2 ⊢
    have hw2' : (rb (gst n) (gnd K 23)).1 = 0 → rb (gst n) (gnd K 23) = (0, n + 2) ∧ W2 = bX V 0 100 (n + 1) W := fun z2 => by
      have a := hw2 z2
      have z1 := (rb_z z2).1
      rw [(gst_z z1).1] at a z2 ⊢
      exact ⟨(gnd_0 z2).1, a.2⟩
    refine Wp.deep (q_bounded hv hP (hR.vf U2) S2 (fun z w => by rw [(hw2' z).1]; rw [(hw2' z).2] at w ⊢; exact bX_lt (fun w => by have := hW w; omega) (by omega) w) (fun r3 m3 W3 c3 s3 hw3 => ⟨by omega, ?_⟩)) (Nat.le_of_ble_eq_true rfl)
    rw [sd2.2]
    have U3 : VF m (dSet m3 92 s r3) := (U2.cx c3).set (by decide)
    have S3 : ST K P (dSet m3 92 s r3) (rb (rb (gst n) (gnd K 23)) (gnd K 23)) W3 := s3.k (by decide)
    generalize dSet m3 92 s r3 = M3 at U3 S3 ⊢
    have hw3' : (rb (rb (gst n) (gnd K 23)) (gnd K 23)).1 = 0 → rb (rb (gst n) (gnd K 23)) (gnd K 23) = (0, n + 3) ∧ W3 = bX V 0 19 (n + 2) W2 := fun z3 => by
      have a := hw3 z3
      have z2 := (rb_z z3).1
      rw [(hw2' z2).1] at a z3 ⊢
      exact ⟨(gnd_0 z3).1, a.2⟩
    refine Wp.deep (q_must (k := 59) hv (hR.vf U3) S3 (by decide) (by unfold vk; omega) (by decide) (fun m4 c4 s4 => fin m4 ?_)) (Nat.le_of_ble_eq_true rfl)
    rw [← gT] at s4
    have U4 := U3.cx c4
    by_cases zz : (gTell K cf cw cu n).1 = 0
    · have z4 := zz
      rw [gT] at z4
      have z3 := (rb_z z4).1
      have z2 := (rb_z z3).1
      have eT : gTell K cf cw cu n = (0, n + 4) := by
        rw [gT]
        rw [(hw3' z3).1, rb_0] at z4 ⊢
        rw [(gnd_0 z4).1]
      rw [eT] at s4
      have e2 := (hw2' z2).2
      have e3 := (hw3' z3).2
      have cc := ct0 (K n) (by omega)
      refine hG zz m4 W3 (st.1, st.2.1, st.2.2.1, (some n, st.2.2.2.2)) ?_ ⟨fun w => by rw [e3, e2, bX_n w, bX_n w], fun w => ?_⟩
      · rw [cc.1, cc.2.1, cc.2.2, eT]
        refine hT.fin U4 s4 (by omega) ?_ (fun w => ?_)
        · rw [e3, e2]; exact bX_lt (bX_lt (fun w => by have := hW w; omega) (by omega)) (by omega)
        · by_cases q0 : W.1 = 0
          · exact q0
          · rw [e3, e2, bX_n q0, bX_n q0] at w; exact w
      · rw [mT, e3, e2]
        unfold bnd bX
        by_cases b1 : (0 : Int) ≤ iV V (n + 1) ∧ iV V (n + 1) ≤ 100
        · rw [if_pos b1, if_pos b1]
          by_cases b2 : (0 : Int) ≤ iV V (n + 2) ∧ iV V (n + 2) ≤ 19
          · rw [if_pos b2, if_pos b2]; exact ⟨fun _ => ⟨w, rfl⟩, fun q => absurd rfl q⟩
          · rw [if_neg b2, if_neg b2, wadd_z w]; exact ⟨fun q => absurd q (Nat.succ_ne_zero 4), fun _ => rfl⟩
        · rw [if_neg b1, if_neg b1, wadd_z w]
          refine ⟨fun q => absurd q (Nat.succ_ne_zero 4), fun _ => ?_⟩
          split
          · rfl
          · exact wadd_n (Nat.succ_ne_zero 4)
    · exact hB zz m4 W3 s4 (hF.vf U4)
  · have hk := kn 8 (by decide) q
    refine one 93 _ 999 (st.2.2.2.1, some n, st.2.2.2.2.2) (Or.inl rfl) (by decide) (Or.inl hk) ?_
    unfold mTell
    rw [if_neg (by omega), if_neg (by omega), if_neg (by omega), if_neg (by omega), if_pos hk]
  · have hk := kn 9 (by decide) q
    refine one 94 _ 9999 (st.2.2.2.1, st.2.2.2.2.1, some n) (Or.inr rfl) (by decide) (Or.inr hk) ?_
    unfold mTell
    rw [if_neg (by omega), if_neg (by omega), if_neg (by omega), if_neg (by omega), if_neg (by omega), if_pos hk]
end RON
end
section
/-! THE REFERENCE's read, exactly -/
theorem i8_and (x : Int32) : x.toInt8.toInt32 &&& 255 = x &&& 255 := by
  apply Int32.toBitVec_inj.mp
  rw [Int32.toBitVec_and, Int32.toBitVec_and, Int8.toBitVec_toInt32, Int32.toBitVec_toInt8]
  apply BitVec.eq_of_getLsbD_eq
  intro i hi
  rw [BitVec.getLsbD_and, BitVec.getLsbD_and]
  by_cases q : i < 8
  · rw [BitVec.getLsbD_signExtend, if_pos q, BitVec.getLsbD_signExtend, if_pos hi]
    simp [q, hi]
  · have : (Int32.toBitVec 255).getLsbD i = false := by
      have e : Int32.toBitVec 255 = BitVec.ofNat 32 255 := by decide
      rw [e, BitVec.getLsbD_ofNat]
      have : Nat.testBit 255 i = false := Nat.testBit_lt_two_pow (Nat.lt_of_lt_of_le (by decide : 255 < 2 ^ 8) (Nat.pow_le_pow_right (by decide) (by omega)))
      rw [this, Bool.and_false]
    rw [this, Bool.and_false, Bool.and_false]
theorem tK_vk (B : Nat → Int32) (n i : Nat) : vk (tK B n i) := by
  unfold tK kd
  split
  · unfold vk; omega
  · cases bL B (tP B n i) with
    | true =>
      show vk (if _ then _ else _)
      split
      · have := wk_le (nm B (tP B n i) (rnn (bL B) n (tP B n i)))
        unfold vk; omega
      · unfold vk; omega
    | false =>
      show vk (cond _ _ _)
      cases bD B (tP B n i) with
      | true =>
        show vk (if _ then _ else _)
        split <;> (unfold vk; omega)
      | false =>
        show vk (sg _)
        unfold sg
        split
        · unfold vk; omega
        · unfold vk; omega
section RRD
variable {K : Nat → Int} {V : Nat → Int64} {P : Nat → Nat} {m0 m : dM} {L s : Nat} {Q : Int32 → dM → Prop}
/-- all of the text told -/
def TF (K : Nat → Int) (V : Nat → Int64) (P : Nat → Nat) (m0 : dM) (L s : Nat) (G : gR) (M : gR × mSt) (m : dM) : Prop := ∃ W : gR, ST K P m G W ∧ FX m0 L m ∧ (G.1 = 0 → ((0 ≤ (m.1 82 s).toInt ∧ (m.1 82 s).toInt ≤ 10) ∧ (0 ≤ (m.1 86 s).toInt ∧ (m.1 86 s).toInt ≤ 8)) ∧ (M.1.1 = 0 → W.1 = 0 ∧ (m.1 80 s).toInt = (M.2.1.length : Int)) ∧ (M.1.1 ≠ 0 → W = M.1))
theorem e_112 (hL : L + s = 1) (hsd : (m0.1 70 19).toInt = (s : Int)) (hv : ∀ i, vk (K i)) (hP : ∀ i j : Nat, i < j → lvK K j → P i < P j) {G : gR} {M : gR × mSt} (hE : ∀ m', TF K V P m0 L s G M m' → j_X12_read_70_134 9 m' Q) : ∀ (f cf cw cu n : Nat) (W : gR) (st : mSt) (m : dM), 401 ≤ f + n → TI K V P m0 L s cf cw cu n W st m → gAll K f cf cw cu n = G → (W.1 = 0 → mAll K V f n st = M) → (W.1 ≠ 0 → W = M.1) → j_X12_read_70_112 9 m Q := by
  intro f
  induction f with
  | zero =>
    intro cf cw cu n W st m hf hT hg hm1 hm2
    have : n ≤ 400 := (hT.1.1 rfl).2.2.1
    exfalso; omega
  | succ f ih =>
    intro cf cw cu n W st m hf hT hg hm1 hm2
    have hT' := hT
    obtain ⟨hS, hR, hF, hC, hLQ, hW, hN⟩ := hT'
    have f0 : flt m = 0 := hS.fl.2.mpr rfl
    have hC5 := hC.2.2.2.2
    refine v_X12_read_70_112 ⟨fun q => absurd f0 q, fun _ => ?_⟩
    refine Wp.deep (q_is (k := 24) hv hR hS (by decide) (by unfold vk; omega) (fun _ h24 => ⟨fun _ => hE m ⟨W, ?_⟩, fun q => absurd q (by decide)⟩) (fun h24 => ⟨fun q => absurd rfl q, fun _ => ?_⟩)) (Nat.le_of_ble_eq_true rfl)
    · have h24 : K n = 24 := h24
      have eG : G = (0, n) := by rw [← hg]; show (if K n = 24 then _ else _) = _; rw [if_pos h24]
      rw [eG]
      refine ⟨hS, hF, fun _ => ⟨⟨by have := hC.2.1; omega, by have := hC.2.2.1; omega⟩, fun z => ?_, fun z => ?_⟩⟩
      · by_cases w0 : W.1 = 0
        · have eM : M = ((0, 0), st) := by rw [← hm1 w0]; show (if K n = 24 then _ else _) = _; rw [if_pos h24]
          rw [eM]
          exact ⟨w0, by show (m.1 80 s).toInt = (st.1.length : Int); rw [(hN w0).2.1]; exact hC.1⟩
        · have := hm2 w0
          rw [this] at w0
          exact absurd z w0
      · by_cases w0 : W.1 = 0
        · have eM : M = ((0, 0), st) := by rw [← hm1 w0]; show (if K n = 24 then _ else _) = _; rw [if_pos h24]
          rw [eM] at z
          exact absurd rfl z
        · exact hm2 w0
    · have h24 : K n ≠ 24 := fun e => h24 ⟨rfl, e⟩
      have eG : G = rb (gTell K cf cw cu n) (fun n' => gAll K f (cf + ct (K n) 0) (cw + ct (K n) 1) (cu + ct (K n) 2) n') := by rw [← hg]; show (if K n = 24 then _ else _) = _; rw [if_neg h24]
      refine e_one hL hsd hv hP hT (fun z m' W' s' F' => ?_) (fun z m' W' st' T' wn => ?_)
      · rw [rb_f z] at eG
        rw [← eG] at s' z
        have f1 := s'.fl
        exact v_X12_read_70_112 ⟨fun _ => hE m' ⟨W', s', F', fun q => absurd q z⟩, fun q => absurd (f1.2.mp q) z⟩
      · rw [rb_k z] at eG
        have nlt : n < (gTell K cf cw cu n).2 := gTell_lt z
        refine ih _ _ _ _ W' st' m' (by omega) T' eG.symm (fun w => ?_) (fun w => ?_)
        · by_cases w0 : W.1 = 0
          · have hm := hm1 w0
            have hl := (hN w0).2
            have e2 := wn.2 w0
            have eM : mAll K V (f + 1) n st = mGo (mTell K V n st) (fun s' => mAll K V f (gTell K st.1.length st.2.1.length st.2.2.1.length n).2 s') := by show (if K n = 24 then _ else _) = _; rw [if_neg h24]
            by_cases z2 : (mTell K V n st).1.1 = 0
            · rw [eM, mGo_k z2, hl.1, hl.2.1, hl.2.2] at hm
              rw [(e2.1 z2).2]
              exact hm
            · have := e2.2 z2
              rw [this] at w
              exact absurd w z2
          · have := wn.1 w0
            rw [this] at w
            exact absurd w w0
        · by_cases w0 : W.1 = 0
          · have hm := hm1 w0
            have e2 := wn.2 w0
            have eM : mAll K V (f + 1) n st = mGo (mTell K V n st) (fun s' => mAll K V f (gTell K st.1.length st.2.1.length st.2.2.1.length n).2 s') := by show (if K n = 24 then _ else _) = _; rw [if_neg h24]
            by_cases z2 : (mTell K V n st).1.1 = 0
            · exact absurd (e2.1 z2).1 w
            · rw [eM, mGo_f z2] at hm
              rw [← hm]
              exact e2.2 z2
          · rw [wn.1 w0]
            exact hm2 w0
end RRD
end
section
/-! THE REFERENCE's read, exactly, 2 -/
section RR2
variable {K : Nat → Int} {V : Nat → Int64} {P : Nat → Nat} {m0 m : dM} {L s : Nat}
theorem q_plain {x1 : Int32} {Q : dM → Prop} (hs : s ≤ 1) (hx : x1.toInt = (s : Int)) (hQ : ∀ m' : dM, (∀ k : Nat, k ≠ 80 → k ≠ 82 → k ≠ 86 → ¬ (91 ≤ k ∧ k ≤ 96) → m'.1 k = m.1 k) → m'.2 = m.2 → (∀ j : Nat, j ≠ s → m'.1 80 j = m.1 80 j) → m'.1 80 s = 0 ∧ m'.1 82 s = 0 ∧ m'.1 86 s = 0 → Q m') : c_X12_plain_70 1 x1 m Q := by
  have loop : ∀ (f i : Nat) (x2 : Int32) (M : dM), i + f = 4 → x2.toInt = (i : Int) → (∀ k : Nat, k ≠ 80 → k ≠ 82 → k ≠ 86 → ¬ (91 ≤ k ∧ k ≤ 96) → M.1 k = m.1 k) → M.2 = m.2 → (∀ j : Nat, j ≠ s → M.1 80 j = m.1 80 j) → M.1 80 s = 0 ∧ M.1 82 s = 0 ∧ M.1 86 s = 0 → j_X12_plain_70_52 1 x1 x2 M Q := by
    intro f
    induction f with
    | zero =>
      intro i x2 M hi h2 a b c d
      exact v_X12_plain_70_52 ⟨fun _ => hQ M a b c d, fun q => by exfalso; omega⟩
    | succ f ih =>
      intro i x2 M hi h2 a b c d
      have fm := dMulE (X := 4) (Y := (s : Int)) (x := (4 : Int32)) (y := x1) (by decide) hx (by omega) (by omega)
      have fa := dAddE (X := 4 * (s : Int)) (Y := (i : Int)) (x := (4 : Int32) * x1) (y := x2) fm h2 (by omega) (by omega)
      refine v_X12_plain_70_52 ⟨fun q => by exfalso; omega, fun _ => ⟨by omega, by omega, ih (i + 1) _ _ (by omega) (d_inc h2 (by omega)) (fun k e1 e2 e3 e4 => by rw [dSet_k (by omega), dSet_k (by omega)]; exact a k e1 e2 e3 e4) b (fun j e => by rw [dSet_k (by decide), dSet_k (by decide)]; exact c j e) ?_⟩⟩
      rw [dSet_k (by decide), dSet_k (by decide), dSet_k (by decide), dSet_k (by decide), dSet_k (by decide), dSet_k (by decide)]
      exact d
  refine v_X12_plain_70 ⟨by omega, by omega, by omega, by omega, by omega, by omega, by omega, ?_⟩
  rw [d_cn hx]
  refine loop 4 0 _ _ rfl (by decide) (fun k e1 e2 e3 e4 => ?_) rfl (fun j e => ?_) ⟨?_, ?_, ?_⟩
  · rw [dSet_k (by omega), dSet_k (by omega), dSet_k (by omega), dSet_k (by omega), dSet_k e3, dSet_k e2, dSet_k e1]
  · rw [dSet_k (by decide), dSet_k (by decide), dSet_k (by decide), dSet_k (by decide), dSet_k (by decide), dSet_k (by decide), dSet_j e]
  · rw [dSet_k (by decide), dSet_k (by decide), dSet_k (by decide), dSet_k (by decide), dSet_k (by decide), dSet_k (by decide), dSet_s]
  · rw [dSet_k (by decide), dSet_k (by decide), dSet_k (by decide), dSet_k (by decide), dSet_k (by decide), dSet_s]
  · rw [dSet_k (by decide), dSet_k (by decide), dSet_k (by decide), dSet_k (by decide), dSet_s]
/-- the state's cells: 107, 108, and two fields -/
def BG (m m' : dM) : Prop := (∀ k : Nat, k ≠ 70 → k ≠ 107 → k ≠ 108 → m'.1 k = m.1 k) ∧ (∀ j : Nat, j ≠ 56 → j ≠ 57 → m'.1 70 j = m.1 70 j) ∧ m'.2 = m.2
theorem BG.set {M : dM} {k j : Nat} {v : Int32} (h : BG m M) (hk : k = 107 ∨ k = 108) : BG m (dSet M k j v) := ⟨fun a e1 e2 e3 => by rw [dSet_k (by omega)]; exact h.1 a e1 e2 e3, fun a e1 e2 => by rw [dSet_k (by omega)]; exact h.2.1 a e1 e2, h.2.2⟩
theorem q_begins {Q : dM → Prop} (hs : s ≤ 1) (h18 : (m.1 70 18).toInt = (s : Int)) (h82 : 0 ≤ (m.1 82 s).toInt ∧ (m.1 82 s).toInt ≤ 10) (h86 : 0 ≤ (m.1 86 s).toInt ∧ (m.1 86 s).toInt ≤ 8) (hQ : ∀ m' : dM, BG m m' → Q m') : c_X12_begins_70 1 m Q := by
  have l64 : ∀ (f i : Nat) (x1 : Int32) (M : dM), 8 < i + f → i ≤ 8 → x1.toInt = (i : Int) → BG m M → j_X12_begins_70_64 1 x1 M Q := by
    intro f
    induction f with
    | zero => intro i x1 M a b; exfalso; omega
    | succ f ih =>
      intro i x1 M hf hi h1 hB
      have e18 : (M.1 70 18).toInt = (s : Int) := by rw [hB.2.1 18 (by decide) (by decide)]; exact h18
      have e86 : M.1 86 s = m.1 86 s := by rw [hB.1 86 (by decide) (by decide) (by decide)]
      refine v_X12_begins_70_64 ⟨by omega, ?_⟩
      rw [d_cn e18, e86]
      have f47 := dAddE (X := 47) (Y := (i : Int)) (x := (47 : Int32)) (y := x1) (by decide) h1 (by omega) (by omega)
      refine ⟨fun q => ⟨by omega, by omega, hQ _ ?_⟩, fun q => ⟨by omega, ih (i + 1) _ _ (by omega) (by omega) (d_inc h1 (by omega)) (hB.set (Or.inr rfl))⟩⟩
      have h2 := hB.set (j := 56) (v := M.1 93 s) (k := 108) (Or.inr rfl)
      exact ⟨fun a e1 e2 e3 => by rw [dSet_k e1, dSet_k e1]; exact h2.1 a e1 e2 e3, fun a e1 e2 => by rw [dSet_j e2, dSet_j e1]; exact h2.2.1 a e1 e2, h2.2.2⟩
  have l23 : ∀ (f i : Nat) (x1 : Int32) (M : dM), 10 < i + f → i ≤ 10 → x1.toInt = (i : Int) → BG m M → j_X12_begins_70_23 1 x1 M Q := by
    intro f
    induction f with
    | zero => intro i x1 M a b; exfalso; omega
    | succ f ih =>
      intro i x1 M hf hi h1 hB
      have e18 : (M.1 70 18).toInt = (s : Int) := by rw [hB.2.1 18 (by decide) (by decide)]; exact h18
      have e82 : M.1 82 s = m.1 82 s := by rw [hB.1 82 (by decide) (by decide) (by decide)]
      refine v_X12_begins_70_23 ⟨by omega, ?_⟩
      rw [d_cn e18, e82]
      have fm := dMulE (X := 10) (Y := (s : Int)) (x := (10 : Int32)) (y := M.1 70 18) (by decide) e18 (by omega) (by omega)
      have fa := dAddE (X := 10 * (s : Int)) (Y := (i : Int)) (x := (10 : Int32) * M.1 70 18) (y := x1) fm h1 (by omega) (by omega)
      exact ⟨fun q => l64 9 0 _ M (by omega) (by omega) (by decide) hB, fun q => ⟨by omega, by omega, ih (i + 1) _ _ (by omega) (by omega) (d_inc h1 (by omega)) (hB.set (Or.inr rfl))⟩⟩
  have l2 : ∀ (f i : Nat) (x1 : Int32) (M : dM), i + f = 58 → x1.toInt = (i : Int) → BG m M → j_X12_begins_70_2 1 x1 M Q := by
    intro f
    induction f with
    | zero =>
      intro i x1 M hi h1 hB
      exact v_X12_begins_70_2 ⟨fun _ => l23 11 0 _ M (by omega) (by omega) (by decide) hB, fun q => by exfalso; omega⟩
    | succ f ih =>
      intro i x1 M hi h1 hB
      exact v_X12_begins_70_2 ⟨fun q => by exfalso; omega, fun _ => ⟨by omega, ih (i + 1) _ _ (by omega) (d_inc h1 (by omega)) (hB.set (Or.inr rfl))⟩⟩
  exact v_X12_begins_70 (l2 58 0 _ m rfl (by decide) ⟨fun _ _ _ _ => rfl, fun _ _ _ => rfl, rfl⟩)
theorem q_keepsRow {mb : dM} {Q : dM → Prop} (hB0 : BG mb m) (hQ : ∀ m' : dM, BG mb m' → Q m') : c_X12_keepsRow_70 1 m Q := by
  have l2 : ∀ (f i : Nat) (x1 : Int32) (M : dM), i + f = 58 → x1.toInt = (i : Int) → BG mb M → j_X12_keepsRow_70_2 1 x1 M Q := by
    intro f
    induction f with
    | zero => intro i x1 M hi h1 hB; exact v_X12_keepsRow_70_2 ⟨fun _ => hQ M hB, fun q => by exfalso; omega⟩
    | succ f ih =>
      intro i x1 M hi h1 hB
      exact v_X12_keepsRow_70_2 ⟨fun q => by exfalso; omega, fun _ => ⟨by omega, by omega, ih (i + 1) _ _ (by omega) (d_inc h1 (by omega)) (hB.set (Or.inl rfl))⟩⟩
  exact v_X12_keepsRow_70 (l2 58 0 _ m rfl (by decide) hB0)
/-- what the reference's read has done -/
def RE (K : Nat → Int) (V : Nat → Int64) (P : Nat → Nat) (L s : Nat) (r : Int32) (m m' : dM) : Prop :=
  (∀ k : Nat, k < 70 ∨ k = 71 → m'.1 k = m.1 k) ∧ m'.1 70 2 = 0 ∧ r.toInt = ((rdR K V).1.1 : Int) ∧ (m'.1 70 17).toInt = (if (rdR K V).1.1 = 0 then -1 else ((P (rdR K V).1.2 : Nat) : Int)) ∧
  ((rdR K V).1.1 = 0 → (m'.1 70 18).toInt = (s : Int) ∧ (m'.1 80 s).toInt = ((rdR K V).2.1.length : Int) ∧ m'.1 70 63 = 0 ∧ ∀ j : Nat, j < 3 → m'.1 115 j = 0) ∧
  ((rdR K V).1.1 ≠ 0 → m'.1 70 18 = m.1 70 18 ∧ m'.1 80 L = m.1 80 L ∧ m'.1 70 63 = m.1 70 63 ∧ m'.1 115 = m.1 115)
theorem e_134 {Q : Int32 → dM → Prop} (hL : L + s = 1) (hsd : (m0.1 70 19).toInt = (s : Int)) (h0 : ∀ k : Nat, k < 70 ∨ k = 71 ∨ k = 80 ∨ 105 ≤ k → m0.1 k = m.1 k) (h2 : m0.1 70 2 = 0) (h18 : m0.1 70 18 = m.1 70 18) (h63 : m0.1 70 63 = m.1 70 63) (hQ : ∀ (r : Int32) (m' : dM), RE K V P L s r m m' → Q r m') {M : dM} (hT : TF K V P m0 L s (gAll K 401 0 0 0 0) (mAll K V 401 0 mS0) M) : j_X12_read_70_134 9 M Q := by
  have hs : s ≤ 1 := by omega
  obtain ⟨W, hS, hF, hG⟩ := hT
  have sd := hF.sd hsd
  have f := hS.fl
  have ef : (M.1 70 13).toInt = flt M := rfl
  have fr : ∀ k : Nat, k < 70 ∨ k = 71 → M.1 k = m.1 k := fun k hk => by rw [hF.1 k (by omega), h0 k (by omega)]
  have f2 : M.1 70 2 = 0 := by rw [hF.2.1 2 (by omega)]; exact h2
  have f18 : M.1 70 18 = m.1 70 18 := by rw [hF.2.1 18 (by omega)]; exact h18
  have f63 : M.1 70 63 = m.1 70 63 := by rw [hF.2.1 63 (by omega)]; exact h63
  have f115 : M.1 115 = m.1 115 := by rw [hF.1 115 (by omega), h0 115 (by omega)]
  have f80 : M.1 80 L = m.1 80 L := by rw [hF.2.2, h0 80 (by omega)]
  have bad : ∀ (r v : Int32), r.toInt = ((rdR K V).1.1 : Int) → (rdR K V).1.1 ≠ 0 → v.toInt = ((P (rdR K V).1.2 : Nat) : Int) → Q r (dSet M 70 17 v) := fun r v a b c => by
    refine hQ r _ ⟨fun k hk => by rw [dSet_k (by omega)]; exact fr k hk, by rw [dSet_j (by decide)]; exact f2, a, by rw [dSet_s, if_neg b]; exact c, fun q => absurd q b, fun _ => ⟨?_, ?_, ?_, ?_⟩⟩
    · rw [dSet_j (by decide)]; exact f18
    · rw [dSet_k (by decide)]; exact f80
    · rw [dSet_j (by decide)]; exact f63
    · rw [dSet_k (by decide)]; exact f115
  by_cases z : (gAll K 401 0 0 0 0).1 = 0
  · have eR : rdR K V = mAll K V 401 0 mS0 := by unfold rdR; rw [if_pos z]
    obtain ⟨⟨b82, b86⟩, g0, g1⟩ := hG z
    obtain ⟨a1, a2, a3, a4, a5⟩ := hS.1 z
    have e15 := a5.1
    rw [← eR] at g0 g1
    by_cases w : (rdR K V).1.1 = 0
    · obtain ⟨w0, e80⟩ := g0 w
      have good : c_X12_begins_70 8 (dSet (dSet M 70 17 (-1 : Int32)) 70 18 (M.1 70 19)) (fun m1 => c_X12_keepsRow_70 8 m1 (fun m2 => j_X12_read_70_219 9 (0 : Int32) (dSet (dSet m2 70 61 (0 : Int32)) 70 63 (0 : Int32)) Q)) := by
        refine Wp.deep (q_begins (s := s) hs (by rw [dSet_s]; exact sd.1) b82 b86 (fun m1 B1 => Wp.deep (q_keepsRow B1 (fun m2 B2 => ?_)) (Nat.le_of_ble_eq_true rfl))) (Nat.le_of_ble_eq_true rfl)
        have l219 : ∀ (f i : Nat) (x1 : Int32) (X : dM), i + f = 3 → x1.toInt = (i : Int) → (∀ k : Nat, k ≠ 115 → X.1 k = (dSet (dSet m2 70 61 (0 : Int32)) 70 63 (0 : Int32)).1 k) → (∀ j : Nat, j < i → X.1 115 j = 0) → j_X12_read_70_219 9 x1 X Q := by
          intro f
          induction f with
          | zero =>
            intro i x1 X hi h1 hX hz
            refine v_X12_read_70_219 ⟨fun _ => hQ _ X ⟨fun k hk => ?_, ?_, ?_, ?_, fun _ => ⟨?_, ?_, ?_, fun j hj => hz j (by omega)⟩, fun q => absurd w q⟩, fun q => by exfalso; omega⟩
            · rw [hX k (by omega), dSet_k (by omega), dSet_k (by omega), B2.1 k (by omega) (by omega) (by omega), dSet_k (by omega), dSet_k (by omega)]; exact fr k hk
            · rw [hX 70 (by decide), dSet_j (by decide), dSet_j (by decide), B2.2.1 2 (by decide) (by decide), dSet_j (by decide), dSet_j (by decide)]; exact f2
            · rw [w]; decide
            · rw [if_pos w, hX 70 (by decide), dSet_j (by decide), dSet_j (by decide), B2.2.1 17 (by decide) (by decide), dSet_j (by decide), dSet_s]; decide
            · rw [hX 70 (by decide), dSet_j (by decide), dSet_j (by decide), B2.2.1 18 (by decide) (by decide), dSet_s]; exact sd.1
            · rw [hX 80 (by decide), dSet_k (by decide), dSet_k (by decide), B2.1 80 (by decide) (by decide) (by decide), dSet_k (by decide), dSet_k (by decide)]; exact e80
            · rw [hX 70 (by decide), dSet_s]
          | succ f ih =>
            intro i x1 X hi h1 hX hz
            refine v_X12_read_70_219 ⟨fun q => by exfalso; omega, fun _ => ⟨by omega, ih (i + 1) _ _ (by omega) (d_inc h1 (by omega)) (fun k hk => by rw [dSet_k hk]; exact hX k hk) (fun j hj => ?_)⟩⟩
            rw [d_cn h1]
            by_cases q : j = i
            · rw [q, dSet_s]
            · rw [dSet_j q]; exact hz j (by omega)
        exact l219 3 0 _ _ rfl (by decide) (fun _ _ => rfl) (fun j hj => by omega)
      exact v_X12_read_70_134 ⟨fun _ => ⟨fun _ => ⟨fun _ => ⟨fun _ => good, fun q => by exfalso; omega⟩, fun q => by exfalso; omega⟩, fun q => by exfalso; omega⟩, fun q => by exfalso; omega⟩
    · have eW := g1 w
      have w1 : W.1 ≠ 0 := by rw [eW]; exact w
      have e16 := a5.2 w1
      rw [eW] at e15 e16
      have bd := bad (M.1 70 15) (M.1 70 16) e15 w e16
      exact v_X12_read_70_134 ⟨fun _ => ⟨fun q => by exfalso; omega, fun _ => ⟨fun _ => ⟨fun q => by exfalso; omega, fun _ => bd⟩, fun q => by exfalso; omega⟩⟩, fun q => by exfalso; omega⟩
  · have eR : rdR K V = (gAll K 401 0 0 0 0, mS0) := by unfold rdR; rw [if_neg z]
    obtain ⟨a1, a2⟩ := hS.2.1 z
    have bd := bad (M.1 70 13) (M.1 70 14) (by rw [eR]; exact a1) (by rw [eR]; exact z) (by rw [eR]; exact a2)
    exact v_X12_read_70_134 ⟨fun q => by exfalso; omega, fun _ => ⟨fun q => by exfalso; omega, fun _ => bd⟩⟩
theorem e_read {m : dM} {B : Nat → Int32} {n : Nat} {Q : Int32 → dM → Prop} (hL : L + s = 1) (h18 : (m.1 70 18).toInt = (L : Int)) (hn : (m.1 70 2).toInt = (n : Int)) (h2000 : n ≤ 2000) (hB : ∀ i : Nat, B i = if i < n then (m.1 71 i) &&& 255 else 0) (hQ : ∀ (r : Int32) (m' : dM), RE (tK B n) (tV B n) (tP B n) L s r m m' → Q r m') : c_X12_read_70 9 m Q := by
  have hs : s ≤ 1 := by omega
  have fs := dSubE (X := 1) (Y := (L : Int)) (x := (1 : Int32)) (y := m.1 70 18) (by decide) h18 (by omega) (by omega)
  have l10 : ∀ (f i : Nat) (x1 : Int32) (M : dM), i + f = n → x1.toInt = (i : Int) → (∀ k : Nat, k ≠ 70 → k ≠ 72 → M.1 k = m.1 k) → (∀ j : Nat, j ≠ 4 → M.1 70 j = m.1 70 j) → M.1 70 4 = m.1 70 2 → M.2 = m.2 → (∀ j : Nat, j < i → M.1 72 j = (m.1 71 j).toInt8.toInt32) → j_X12_read_70_10 9 x1 M Q := by
    intro f
    induction f with
    | succ f ih =>
      intro i x1 M hi h1 a b c d e
      have e4 : (M.1 70 4).toInt = (n : Int) := by rw [c]; exact hn
      refine v_X12_read_70_10 ⟨fun q => by exfalso; omega, fun _ => ⟨by omega, by omega, ih (i + 1) _ _ (by omega) (d_inc h1 (by omega)) (fun k e1 e2 => by rw [dSet_k e2]; exact a k e1 e2) (fun j e1 => by rw [dSet_k (by decide)]; exact b j e1) (by rw [dSet_k (by decide)]; exact c) d (fun j hj => ?_)⟩⟩
      rw [d_cn h1]
      by_cases q : j = i
      · rw [q, dSet_s, a 71 (by decide) (by decide)]
      · rw [dSet_j q]; exact e j (by omega)
    | zero =>
      intro i x1 M hi h1 a b c d e
      have e4 : (M.1 70 4).toInt = (n : Int) := by rw [c]; exact hn
      refine v_X12_read_70_10 ⟨fun _ => ?_, fun q => by exfalso; omega⟩
      have hRX : RX B n (dSet M 70 2 (0 : Int32)) := by
        refine ⟨by rw [dSet_j (by decide)]; exact e4, h2000, fun j => ?_⟩
        rw [hB j, dSet_k (by decide)]
        by_cases q : j < n
        · rw [if_pos q, if_pos q, e j (by omega), i8_and]
        · rw [if_neg q, if_neg q]
      refine Wp.deep (g_cutsUp hRX (fun m1 hF hK => ?_)) (Nat.le_of_ble_eq_true rfl)
      have k1 : ∀ k : Nat, k ≠ 70 → k ≠ 72 → k ≠ 73 → k ≠ 74 → k ≠ 75 → m1.1 k = m.1 k := fun k e1 e2 e3 e4 e5 => by rw [hF.1 k e1 e3 e4 e5, dSet_k e1, a k e1 e2]
      have j1 : ∀ j : Nat, j ≠ 2 → j ≠ 4 → j ≠ 10 → m1.1 70 j = m.1 70 j := fun j e1 e2 e3 => by rw [hF.2.1 j e3, dSet_j e1, b j e2]
      have j2 : m1.1 70 2 = 0 := by rw [hF.2.1 2 (by decide), dSet_s]
      have e18 : m1.1 70 18 = m.1 70 18 := j1 18 (by decide) (by decide) (by decide)
      rw [e18]
      have X70 : ∀ k : Nat, k ≠ 70 → (dSet (dSet (dSet (dSet (dSet (dSet m1 70 11 (0 : Int32)) 70 12 (0 : Int32)) 70 13 (0 : Int32)) 70 15 (0 : Int32)) 70 19 ((1 : Int32) - (m.1 70 18))) 70 20 (0 : Int32)).1 k = m1.1 k := fun k hk => by rw [dSet_k hk, dSet_k hk, dSet_k hk, dSet_k hk, dSet_k hk, dSet_k hk]
      have Xj : ∀ j : Nat, j ≠ 11 → j ≠ 12 → j ≠ 13 → j ≠ 15 → j ≠ 19 → j ≠ 20 → (dSet (dSet (dSet (dSet (dSet (dSet m1 70 11 (0 : Int32)) 70 12 (0 : Int32)) 70 13 (0 : Int32)) 70 15 (0 : Int32)) 70 19 ((1 : Int32) - (m.1 70 18))) 70 20 (0 : Int32)).1 70 j = m1.1 70 j := fun j b1 b2 b3 b4 b5 b6 => by rw [dSet_j b6, dSet_j b5, dSet_j b4, dSet_j b3, dSet_j b2, dSet_j b1]
      have Xz : ∀ j : Nat, j = 11 ∨ j = 12 ∨ j = 13 ∨ j = 15 ∨ j = 20 → ((dSet (dSet (dSet (dSet (dSet (dSet m1 70 11 (0 : Int32)) 70 12 (0 : Int32)) 70 13 (0 : Int32)) 70 15 (0 : Int32)) 70 19 ((1 : Int32) - (m.1 70 18))) 70 20 (0 : Int32)).1 70 j).toInt = 0 := fun j hj => by rcases hj with rfl | rfl | rfl | rfl | rfl <;> rfl
      have X19 : (dSet (dSet (dSet (dSet (dSet (dSet m1 70 11 (0 : Int32)) 70 12 (0 : Int32)) 70 13 (0 : Int32)) 70 15 (0 : Int32)) 70 19 ((1 : Int32) - (m.1 70 18))) 70 20 (0 : Int32)).1 70 19 = (1 : Int32) - (m.1 70 18) := rfl
      have X2 : (dSet (dSet (dSet (dSet (dSet (dSet m1 70 11 (0 : Int32)) 70 12 (0 : Int32)) 70 13 (0 : Int32)) 70 15 (0 : Int32)) 70 19 ((1 : Int32) - (m.1 70 18))) 70 20 (0 : Int32)).2 = m1.2 := rfl
      generalize dSet (dSet (dSet (dSet (dSet (dSet m1 70 11 (0 : Int32)) 70 12 (0 : Int32)) 70 13 (0 : Int32)) 70 15 (0 : Int32)) 70 19 ((1 : Int32) - (m.1 70 18))) 70 20 (0 : Int32) = X at X70 Xj Xz X19 X2 ⊢
      refine Wp.deep (q_plain (s := s) (m := X) hs (by omega) (fun m2 p1 p2 p3 p4 => ?_)) (Nat.le_of_ble_eq_true rfl)
      have e70 : m2.1 70 = X.1 70 := p1 70 (by decide) (by decide) (by decide) (by decide)
      have v19 : (m2.1 70 19).toInt = (s : Int) := by rw [e70, X19]; omega
      have fb := dMulE (X := 130) (Y := (s : Int)) (x := (130 : Int32)) (y := m2.1 70 19) (by decide) v19 (by omega) (by omega)
      have fc := dMulE (X := 420) (Y := (s : Int)) (x := (420 : Int32)) (y := m2.1 70 19) (by decide) v19 (by omega) (by omega)
      have Y70 : ∀ k : Nat, k ≠ 70 → (dSet (dSet m2 70 40 ((130 : Int32) * (m2.1 70 19))) 70 46 ((420 : Int32) * (m2.1 70 19))).1 k = m2.1 k := fun k hk => by rw [dSet_k hk, dSet_k hk]
      have Yj : ∀ j : Nat, j ≠ 40 → j ≠ 46 → (dSet (dSet m2 70 40 ((130 : Int32) * (m2.1 70 19))) 70 46 ((420 : Int32) * (m2.1 70 19))).1 70 j = X.1 70 j := fun j b1 b2 => by rw [dSet_j b2, dSet_j b1, e70]
      have Yb : brs (dSet (dSet m2 70 40 ((130 : Int32) * (m2.1 70 19))) 70 46 ((420 : Int32) * (m2.1 70 19))) = 130 * s := fb
      have Yc : cds (dSet (dSet m2 70 40 ((130 : Int32) * (m2.1 70 19))) 70 46 ((420 : Int32) * (m2.1 70 19))) = 420 * s := fc
      have Y2 : (dSet (dSet m2 70 40 ((130 : Int32) * (m2.1 70 19))) 70 46 ((420 : Int32) * (m2.1 70 19))).2 = m1.2 := by show m2.2 = m1.2; rw [p2, X2]
      generalize dSet (dSet m2 70 40 ((130 : Int32) * (m2.1 70 19))) 70 46 ((420 : Int32) * (m2.1 70 19)) = Y at Y70 Yj Yb Yc Y2 ⊢
      have Yz : ∀ j : Nat, j = 11 ∨ j = 12 ∨ j = 13 ∨ j = 15 ∨ j = 20 → (Y.1 70 j).toInt = 0 := fun j hj => by rw [Yj j (by omega) (by omega)]; exact Xz j hj
      have t0 : tt Y = 0 := Yz 11 (by decide)
      have f0 : flt Y = 0 := Yz 13 (by decide)
      have o0 : opn Y = 0 := Yz 12 (by decide)
      have n0 : nms Y = 0 := Yz 20 (by decide)
      have w0 := Yz 15 (by decide)
      have Yk : ∀ k : Nat, k ≠ 70 → k ≠ 72 → k ≠ 73 → k ≠ 74 → k ≠ 75 → k ≠ 80 → k ≠ 82 → k ≠ 86 → ¬ (91 ≤ k ∧ k ≤ 96) → Y.1 k = m.1 k := fun k b1 b2 b3 b4 b5 b6 b7 b8 b9 => by rw [Y70 k b1, p1 k b6 b7 b8 b9, X70 k b1, k1 k b1 b2 b3 b4 b5]
      have Yt : ∀ k : Nat, 73 ≤ k → k ≤ 75 → Y.1 k = m1.1 k := fun k b1 b2 => by rw [Y70 k (by omega), p1 k (by omega) (by omega) (by omega) (by omega), X70 k (by omega)]
      have hRM : RM (tK B n) (tV B n) (tP B n) Y := fun i hi hl => by
        have := hK i hi hl
        unfold RK at this
        rw [Yt 73 (by decide) (by decide), Yt 74 (by decide) (by decide), Yt 75 (by decide) (by decide), Y2]
        exact this
      have Y80 : (Y.1 80 s).toInt = 0 := by rw [Y70 80 (by decide), p4.1]; decide
      have Y82 : (Y.1 82 s).toInt = 0 := by rw [Y70 82 (by decide), p4.2.1]; decide
      have Y86 : (Y.1 86 s).toInt = 0 := by rw [Y70 86 (by decide), p4.2.2]; decide
      -- m0: as it was, its tape empty, the side of the text told
      have hTI : TI (tK B n) (tV B n) (tP B n) (dSet (dSet m 70 2 (0 : Int32)) 70 19 ((1 : Int32) - (m.1 70 18))) L s 0 0 0 0 (0, 0) mS0 Y := by
        refine ⟨⟨fun _ => ⟨f0, t0, by decide, fun j hj => by exfalso; exact Nat.not_lt_zero j hj, w0, fun q => absurd rfl q⟩, fun q => absurd rfl q, by omega⟩, hRM, ⟨fun k hk => ?_, fun j hj => ?_, ?_⟩, ⟨Y80, Y82, Y86, n0, by decide, by decide, by decide⟩, ⟨o0, by omega, by omega⟩, fun q => absurd rfl q, fun _ => ⟨⟨fun k hk => ?_, fun i hi => absurd hi (Nat.not_lt_zero i), fun i hi => absurd hi (Nat.not_lt_zero i), fun i j hi => absurd hi (Nat.not_lt_zero i), fun i hi => absurd hi (Nat.not_lt_zero i)⟩, rfl, rfl, rfl⟩⟩
        · rw [dSet_k (by omega), dSet_k (by omega)]
          exact Yk k (by omega) (by omega) (by omega) (by omega) (by omega) (by omega) (by omega) (by omega) (by omega)
        · by_cases q19 : j = 19
          · rw [q19, dSet_s, Yj 19 (by decide) (by decide), X19]
          · rw [dSet_j q19, Yj j (by omega) (by omega), Xj j (by omega) (by omega) (by omega) (by omega) q19 (by omega)]
            by_cases q2 : j = 2
            · rw [q2, dSet_s, j2]
            · rw [dSet_j q2, j1 j q2 (by omega) (by omega)]
        · rw [dSet_k (by decide), dSet_k (by decide), Y70 80 (by decide), p3 L (by omega), X70 80 (by decide), k1 80 (by decide) (by decide) (by decide) (by decide) (by decide)]
        · exact absurd hk (Nat.not_lt_zero k)
      have sd0 : ((dSet (dSet m 70 2 (0 : Int32)) 70 19 ((1 : Int32) - (m.1 70 18))).1 70 19).toInt = (s : Int) := by rw [dSet_s]; omega
      refine e_112 hL sd0 (tK_vk B n) (fun i j hij hl => tP_mono hij hl) (fun M' hM' => e_134 hL sd0 (fun k hk => by rw [dSet_k (by omega), dSet_k (by omega)]) (by rw [dSet_j (by decide), dSet_s]) (by rw [dSet_j (by decide), dSet_j (by decide)]) (by rw [dSet_j (by decide), dSet_j (by decide)]) hQ hM') 401 0 0 0 0 (0, 0) mS0 Y (by omega) hTI rfl (fun _ => rfl) (fun q => absurd rfl q)
  refine v_X12_read_70 (l10 n 0 _ _ (by omega) (by decide) (fun k e1 e2 => dSet_k e1) (fun j e1 => dSet_j e1) (dSet_s _ _ _ _) rfl (fun j hj => by omega))
end RR2
end
section
/-! THE TAPES OF BOTH -/
def Tp (m m' : dM) : Prop := m'.1 0 1 = m.1 0 1 ∧ m'.1 70 2 = m.1 70 2 ∧ m'.1 1 = m.1 1 ∧ m'.1 71 = m.1 71
/-- both tapes bear the same -/
def Tq (m : dM) : Prop := (m.1 0 1).toInt = (m.1 70 2).toInt ∧ ∀ i : Nat, (i : Int) < (m.1 0 1).toInt → (m.1 1 i) &&& 255 = (m.1 71 i) &&& 255
theorem Tp.kp {m m' : dM} (h : Kp m m') : Tp m m' := ⟨h 0 1 rfl, h 70 2 rfl, funext fun j => h 1 j rfl, funext fun j => h 71 j rfl⟩
theorem Tp.rf (m : dM) : Tp m m := ⟨rfl, rfl, rfl, rfl⟩
theorem Tq.tp {m m' : dM} (h : Tq m) (hp : Tp m m') : Tq m' := by
  obtain ⟨a, b, c, d⟩ := hp
  unfold Tq
  rw [a, b, c, d]
  exact h
theorem Tp.tr {a b c : dM} (h : Tp a b) (h' : Tp b c) : Tp a c := ⟨h'.1.trans h.1, h'.2.1.trans h.2.1, h'.2.2.1.trans h.2.2.1, h'.2.2.2.trans h.2.2.2⟩
section HND
variable {m : dM} {Q : Int32 → dM → Prop}
theorem Ok.gR {k j : Nat} {v : Int32} (hO : Ok m) (hk : (k ≠ 2 ∧ k ≠ 7 ∧ k ≠ 70) ∧ (k < 82 ∨ 103 < k)) (hw : wT k j = fR) (hs : sT k j = none) : Ok (dSet m k j v) := hO.gen hk (fun lo hi h => by
  rcases h with h | h
  · rw [hw] at h; cases h; exact ⟨e_lo v, e_hi v⟩
  · rw [hs] at h; cases h)
theorem b_isFlat11 {x1 : Int32} (h1 : Q 1 m) (h0 : Q 0 m) : c_X11_isFlat_0 1 x1 m Q := v_X11_isFlat_0 ⟨fun _ => v_X11_isFlat_0_19 h0, fun _ => ⟨fun _ => v_X11_isFlat_0_19 h0, fun _ => h1⟩⟩
theorem b_in {x0 x1 x2 : Int32} (h1 : x1.toInt ≤ x0.toInt → x0.toInt ≤ x2.toInt → Q 1 m) (h0 : Q 0 m) : c_X12_in 1 x0 x1 x2 m Q := v_X12_in ⟨fun _ => v_X12_in_14 h0, fun a => ⟨fun _ => v_X12_in_14 h0, fun b => h1 a b⟩⟩
theorem b_isFlat12 {x1 : Int32} (hO : Ok m) (h1 : Q 1 m) (h0 : Q 0 m) : c_X12_isFlat_70 2 x1 m Q := by
  have b := hO.s (k := 70) (j := 18) rfl
  exact v_X12_isFlat_70 ⟨by omega, b_in (fun _ _ => ⟨Or.inr rfl, h1⟩) ⟨Or.inl rfl, h0⟩⟩
theorem b_X11_tell {x1 x2 : Int32} (hO : Ok m) (h2 : x2 = 0 ∨ x2 = 1) (hQ : ∀ (r : Int32) (m' : dM), Ok m' ∧ Tp m m' → Q r m') : c_X11_tell_0 3 x1 x2 m Q := by
  have b := hO.s (k := 67) (j := 3) rfl
  refine v_X11_tell_0 (Wp.deep (b_isFlat11 ⟨fun q => absurd q (by decide), fun _ => ?_⟩ ⟨fun _ => hQ _ _ ⟨hO, Tp.rf m⟩, fun q => absurd rfl q⟩) (Nat.le_of_ble_eq_true rfl))
  refine Wp.deep (d := 1) (v_X9_add_67 ⟨fun q => ⟨by omega, h2, by omega, hQ _ _ ⟨?_, rfl, rfl, rfl, rfl⟩⟩, fun _ => hQ _ _ ⟨hO, Tp.rf m⟩⟩) (Nat.le_of_ble_eq_true rfl)
  have f := dAddE (X := (m.1 67 3).toInt) (Y := 1) (x := m.1 67 3) (y := (1 : Int32)) rfl (by decide) (by omega) (by omega)
  refine Ok.gen (Ok.gR (Ok.gR hO (by decide) rfl rfl) (by decide) rfl rfl) (by decide) (fun lo hi h => ?_)
  rcases h with h | h
  · cases h
  · cases h; omega
theorem b_X11_forget (hO : Ok m) (hQ : ∀ (r : Int32) (m' : dM), Ok m' ∧ Tp m m' → Q r m') : c_X11_forget_0 2 m Q := by
  refine v_X11_forget_0 (Wp.deep (d := 1) (v_X9_clear_67 (hQ _ _ ⟨?_, rfl, rfl, rfl, rfl⟩)) (Nat.le_of_ble_eq_true rfl))
  refine Ok.gen hO (by decide) (fun lo hi h => ?_)
  rcases h with h | h
  · cases h
  · cases h; decide
theorem b_X11_hold {x1 : Int32} (hO : Ok m) (hQ : ∀ (r : Int32) (m' : dM), Ok m' ∧ Tp m m' → Q r m') : c_X11_hold_0 3 x1 m Q := by
  have no : j_X6_store_51_47_9 2 m (fun r1 m1 => (r1 = 0 ∨ r1 = 1) ∧ Q r1 m1) := v_X6_store_51_47_9 ⟨Or.inl rfl, hQ _ _ ⟨hO, Tp.rf m⟩⟩
  refine v_X11_hold_0 (v_X6_store_51_47 ⟨fun _ => no, fun q => ⟨fun q2 => ?_, fun _ => no⟩⟩)
  have e3 : (3 : Int32).toInt = 3 := by decide
  have f := dMulE (X := x1.toInt) (Y := 33) (x := x1) (y := (33 : Int32)) rfl (by decide) (by omega) (by omega)
  refine s_X7_writeTo_47_53 hO.1 hO.2 (by omega) (fun m1 I1 => ⟨Or.inr rfl, hQ _ _ ⟨?_, ?_⟩⟩)
  · exact Ok.gen0 (Ok.of hO.1 I1) (by decide) rfl rfl
  · have t := Tp.kp (Kp.of I1)
    exact ⟨t.1, t.2.1, t.2.2.1, t.2.2.2⟩
theorem b_X12_tell {x1 x2 : Int32} (hO : Ok m) (hQ : ∀ (r : Int32) (m' : dM), Ok m' ∧ Tp m m' → Q r m') : c_X12_tell_70 3 x1 x2 m Q := by
  have b := hO.s (k := 70) (j := 63) rfl
  have no : j_X12_tell_70_17 3 m Q := v_X12_tell_70_17 (hQ _ _ ⟨hO, Tp.rf m⟩)
  have st : ∀ v : Int32, (m.1 70 63).toInt ≠ 20 → Q (((m.1 70 63) + (1 : Int32)) - (1 : Int32)) (dSet (dSet (dSet m 112 (m.1 70 63).toNatClampNeg x1) 113 (m.1 70 63).toNatClampNeg v) 70 63 ((m.1 70 63) + (1 : Int32))) := fun v q => by
    have f := dAddE (X := (m.1 70 63).toInt) (Y := 1) (x := m.1 70 63) (y := (1 : Int32)) rfl (by decide) (by omega) (by omega)
    refine hQ _ _ ⟨Ok.set70 (Ok.gR (Ok.gR hO (by decide) rfl rfl) (by decide) rfl rfl) (by decide) (fun lo hi h => ?_), rfl, rfl, rfl, rfl⟩
    rcases h with h | h
    · cases h
    · cases h; omega
  refine v_X12_tell_70 ⟨fun _ => no, fun q => b_isFlat12 hO ⟨fun _ => ⟨by omega, fun _ => ⟨by omega, st _ q⟩, fun _ => ⟨by omega, st _ q⟩⟩, fun w => absurd w (by decide)⟩ ⟨fun w => absurd rfl w, fun _ => no⟩⟩
theorem b_X12_forget (hO : Ok m) (hQ : ∀ (r : Int32) (m' : dM), Ok m' ∧ Tp m m' → Q r m') : c_X12_forget_70 1 m Q := by
  refine v_X12_forget_70 (hQ _ _ ⟨Ok.set70 hO (by decide) (fun lo hi h => ?_), rfl, rfl, rfl, rfl⟩)
  rcases h with h | h
  · cases h
  · cases h; decide
theorem b_X12_hold {x1 : Int32} (hO : Ok m) (hQ : ∀ (r : Int32) (m' : dM), Ok m' ∧ Tp m m' → Q r m') : c_X12_hold_70 2 x1 m Q := by
  have loop : ∀ (f i : Nat) (x2 : Int32) (M : dM), i + f = 58 → x2.toInt = (i : Int) → 0 ≤ x1.toInt ∧ x1.toInt ≤ 2 → Ok M → Tp m M → j_X12_hold_70_20 2 x1 x2 M Q := by
    intro f
    induction f with
    | zero => intro i x2 M hi h2 h1 O T; exact v_X12_hold_70_20 ⟨fun _ => hQ _ _ ⟨O, T⟩, fun q => by exfalso; omega⟩
    | succ f ih =>
      intro i x2 M hi h2 h1 O T
      have fm := dMulE (X := 58) (Y := x1.toInt) (x := (58 : Int32)) (y := x1) (by decide) rfl (by omega) (by omega)
      have fa := dAddE (X := 58 * x1.toInt) (Y := (i : Int)) (x := (58 : Int32) * x1) (y := x2) fm h2 (by omega) (by omega)
      exact v_X12_hold_70_20 ⟨fun q => by exfalso; omega, fun _ => ⟨by omega, by omega, ih (i + 1) _ _ (by omega) (d_inc h2 (by omega)) h1 (Ok.gR O (by decide) rfl rfl) ⟨T.1, T.2.1, T.2.2.1, T.2.2.2⟩⟩⟩
  refine v_X12_hold_70 (b_in (fun a b => ⟨fun _ => ⟨?_, ?_⟩, fun q => absurd q (by decide)⟩) ⟨fun q => absurd rfl q, fun _ => hQ _ _ ⟨hO, Tp.rf m⟩⟩)
  · have e0 : (0 : Int32).toInt = 0 := by decide
    have e2 : (2 : Int32).toInt = 2 := by decide
    omega
  · exact loop 58 0 _ _ rfl (by decide) ⟨a, b⟩ (Ok.gen0 hO (by decide) rfl rfl) ⟨rfl, rfl, rfl, rfl⟩
end HND
end
section
/-! FEED AND READ OF BOTH, exactly as far as the tapes go -/
def cB (x : Int32) (k : Nat) : Int32 := ((x.toUInt32 >>> ((Int32.ofNat k).toUInt32 &&& Int32.toUInt32 31)).toInt32.toInt8.toInt32.toInt8.toInt32) &&& 255
def rB (x : Int32) (k : Nat) : Int32 := ((x >>> ((Int32.ofNat k) &&& 31)).toInt8.toInt32.toInt8.toInt32) &&& 255
theorem sh_lo (x : BitVec 32) (k : Nat) (hk : k ≤ 24) : (x >>> k) &&& 255#32 = (x.sshiftRight k) &&& 255#32 := by
  apply BitVec.eq_of_getLsbD_eq
  intro i hi
  rw [BitVec.getLsbD_and, BitVec.getLsbD_and]
  by_cases q : i < 8
  · rw [BitVec.getLsbD_ushiftRight, BitVec.getLsbD_sshiftRight]
    have h1 : k + i < 32 := by omega
    simp [h1, Nat.not_le.mpr hi]
  · have : (255#32).getLsbD i = false := by
      rw [BitVec.getLsbD_ofNat]
      have : Nat.testBit 255 i = false := Nat.testBit_lt_two_pow (Nat.lt_of_lt_of_le (by decide : 255 < 2 ^ 8) (Nat.pow_le_pow_right (by decide) (by omega)))
      rw [this, Bool.and_false]
    rw [this, Bool.and_false, Bool.and_false]
theorem cB_rB (x : Int32) (k : Nat) (hk : k = 0 ∨ k = 8 ∨ k = 16 ∨ k = 24) : cB x k = rB x k := by
  unfold cB rB
  rw [i8_and, i8_and, i8_and, i8_and]
  apply Int32.toBitVec_inj.mp
  have e : Int32.toBitVec 255 = 255#32 := by decide
  rw [Int32.toBitVec_and, Int32.toBitVec_and, e]
  have l : (x.toUInt32 >>> ((Int32.ofNat k).toUInt32 &&& Int32.toUInt32 31)).toInt32.toBitVec = x.toBitVec >>> k := by
    rcases hk with rfl | rfl | rfl | rfl <;> rfl
  have r : (x >>> ((Int32.ofNat k) &&& 31)).toBitVec = x.toBitVec.sshiftRight k := by
    rcases hk with rfl | rfl | rfl | rfl <;> rfl
  rw [l, r]
  exact sh_lo _ _ (by omega)
/-! BOTH BETWEEN CALLS: tapes, place, told, slots, flats alike -/
def hb (x : Int32) (i : Nat) : Prop := ((x.toUInt32 >>> ((Int32.ofNat i).toUInt32 &&& Int32.toUInt32 31)).toInt32 &&& (1 : Int32)).toInt ≠ 0
theorem hb_bit (x : Int32) (j : Nat) (hj : j = 0 ∨ j = 1 ∨ j = 2) : hb x j ↔ x.toBitVec.getLsbD j = true := by
  unfold hb
  have l : ((x.toUInt32 >>> ((Int32.ofNat j).toUInt32 &&& Int32.toUInt32 31)).toInt32 &&& (1 : Int32)).toBitVec = (x.toBitVec >>> j) &&& 1#32 := by
    rcases hj with rfl | rfl | rfl <;> rfl
  show ((x.toUInt32 >>> ((Int32.ofNat j).toUInt32 &&& Int32.toUInt32 31)).toInt32 &&& (1 : Int32)).toBitVec.toInt ≠ 0 ↔ _
  rw [l, BitVec.and_one_eq_setWidth_ofBool_getLsbD, BitVec.getLsbD_ushiftRight, Nat.add_zero]
  cases x.toBitVec.getLsbD j with
  | false => decide
  | true => decide
theorem hb_or (x : Int32) (i j : Nat) (hi : i = 0 ∨ i = 1 ∨ i = 2) (hj : j = 0 ∨ j = 1 ∨ j = 2) : hb (x ||| ((1 : Int32) <<< (Int32.ofNat i &&& 31))) j ↔ (j = i ∨ hb x j) := by
  rw [hb_bit _ j hj, hb_bit _ j hj, Int32.toBitVec_or, BitVec.getLsbD_or, Bool.or_eq_true]
  have e : ((1 : Int32) <<< (Int32.ofNat i &&& 31)).toBitVec.getLsbD j = true ↔ j = i := by
    rcases hi with rfl | rfl | rfl <;> rcases hj with rfl | rfl | rfl <;> decide
  rw [e]
  exact Or.comm
def Ro (m : dM) : Prop := (m.1 0 2).toInt = (m.1 70 17).toInt ∧ (m.1 67 3).toInt = (m.1 70 63).toInt ∧ (m.1 2 0).toInt = (m.1 80 (m.1 70 18).toNatClampNeg).toInt ∧ ∀ i : Nat, i < 3 → (hb (m.1 51 4) i ↔ (m.1 115 i).toInt ≠ 0)
def Rq (m : dM) : Prop := Tq m ∧ Ro m
theorem Ro.of {m m' : dM} (h : Ro m) (a1 : m'.1 0 2 = m.1 0 2) (a2 : m'.1 67 3 = m.1 67 3) (a3 : m'.1 2 0 = m.1 2 0) (a4 : m'.1 51 4 = m.1 51 4) (a5 : m'.1 70 17 = m.1 70 17) (a6 : m'.1 70 63 = m.1 70 63) (a7 : m'.1 70 18 = m.1 70 18) (a8 : m'.1 80 = m.1 80) (a9 : m'.1 115 = m.1 115) : Ro m' := by
  unfold Ro
  rw [a1, a2, a3, a4, a5, a6, a7, a8, a9]
  exact h
theorem Ro.kp {m m' : dM} (h : Ro m) (hk : Kp m m') : Ro m' := h.of (hk 0 2 rfl) (hk 67 3 rfl) (hk 2 0 rfl) (hk 51 4 rfl) (hk 70 17 rfl) (hk 70 63 rfl) (hk 70 18 rfl) (funext fun j => hk 80 j rfl) (funext fun j => hk 115 j rfl)
theorem Rq.kp {m m' : dM} (h : Rq m) (hk : Kp m m') : Rq m' := ⟨h.1.tp (Tp.kp hk), h.2.kp hk⟩
def FR0 (m m' : dM) : Prop := ∀ k j : Nat, k ≠ 1 → ¬ (k = 0 ∧ j = 1) → m'.1 k j = m.1 k j
def FR70 (m m' : dM) : Prop := ∀ k j : Nat, k ≠ 71 → ¬ (k = 70 ∧ j = 2) → m'.1 k j = m.1 k j
theorem Ro.fr0 {m m' : dM} (h : Ro m) (hk : FR0 m m') : Ro m' := h.of (hk 0 2 (by decide) (by decide)) (hk 67 3 (by decide) (by decide)) (hk 2 0 (by decide) (by decide)) (hk 51 4 (by decide) (by decide)) (hk 70 17 (by decide) (by decide)) (hk 70 63 (by decide) (by decide)) (hk 70 18 (by decide) (by decide)) (funext fun j => hk 80 j (by decide) (by omega)) (funext fun j => hk 115 j (by decide) (by omega))
theorem Ro.fr70 {m m' : dM} (h : Ro m) (hk : FR70 m m') : Ro m' := h.of (hk 0 2 (by decide) (by decide)) (hk 67 3 (by decide) (by decide)) (hk 2 0 (by decide) (by decide)) (hk 51 4 (by decide) (by decide)) (hk 70 17 (by decide) (by decide)) (hk 70 63 (by decide) (by decide)) (hk 70 18 (by decide) (by decide)) (funext fun j => hk 80 j (by decide) (by omega)) (funext fun j => hk 115 j (by decide) (by omega))
section FED
variable {m : dM}
/-- n more on the class's tape -/
theorem y_put11 {x1 : Int32} {Q : dM → Prop} : ∀ (n t : Nat) (x2 : Int32) (m : dM), x2.toInt = 8 * n - 8 → n ≤ 4 → (m.1 0 1).toInt = (t : Int) → t + n ≤ 2000 → Ok m → (∀ m' : dM, Ok m' → FR0 m m' → (m'.1 0 1).toInt = ((t + n : Nat) : Int) → (∀ j : Nat, j < t → m'.1 1 j = m.1 1 j) → (∀ i : Nat, i < n → (m'.1 1 (t + i)) &&& 255 = cB x1 (8 * (n - 1 - i))) → Q m') → j_X11_putBytes_0_3 1 x1 x2 m Q := by
  intro n
  induction n with
  | zero =>
    intro t x2 m hx hn ht h2000 hO hQ
    exact v_X11_putBytes_0_3 ⟨fun _ => v_X11_putBytes_0_46 (hQ m hO (fun _ _ _ _ => rfl) ht (fun _ _ => rfl) (fun i hi => by omega)), fun h => by exfalso; omega⟩
  | succ n ih =>
    intro t x2 m hx hn ht h2000 hO hQ
    have e2 : x2 = Int32.ofNat (8 * n) := by
      apply d_ce
      rw [hx]
      have : n = 0 ∨ n = 1 ∨ n = 2 ∨ n = 3 := by omega
      rcases this with rfl | rfl | rfl | rfl <;> decide
    have f := dAddE (X := x2.toInt) (Y := -8) (x := x2) (y := (-8 : Int32)) rfl (by decide) (by omega) (by omega)
    refine v_X11_putBytes_0_3 ⟨fun h => by exfalso; omega, fun h => ⟨fun _ => by exfalso; omega, fun h2 => ⟨by omega, ?_⟩⟩⟩
    rw [d_cn ht]
    have f2 := d_inc ht (by omega)
    refine ih (t + 1) _ _ (by omega) (by omega) (by rw [dSet_s]; exact f2) (by omega) (Ok.set1 (lo := 0) (hi := 2000) (Ok.gen0 hO (by decide) rfl rfl) (Or.inl rfl) rfl rfl (by omega) (by omega)) (fun m' a b d e g => hQ m' a (fun k j h1 h2 => by rw [b k j h1 h2, dSet_e, if_neg h2, dSet_k h1]) (by rw [d]; omega) (fun j hj => ?_) (fun i hi => ?_))
    · rw [e j (by omega), dSet_k (by decide), dSet_j (by omega)]
    · by_cases q : i = 0
      · rw [q]
        show (m'.1 1 t) &&& 255 = _
        rw [e t (by omega), dSet_k (by decide), dSet_s, e2]
        rfl
      · have := g (i - 1) (by omega)
        rw [show t + 1 + (i - 1) = t + i by omega] at this
        rw [this, show n - 1 - (i - 1) = n + 1 - 1 - i by omega]
theorem y_put12 {x1 : Int32} {Q : dM → Prop} : ∀ (n t : Nat) (x2 : Int32) (m : dM), x2.toInt = 8 * n - 8 → n ≤ 4 → (m.1 70 2).toInt = (t : Int) → t + n ≤ 2000 → Ok m → (∀ m' : dM, Ok m' → FR70 m m' → (m'.1 70 2).toInt = ((t + n : Nat) : Int) → (∀ j : Nat, j < t → m'.1 71 j = m.1 71 j) → (∀ i : Nat, i < n → (m'.1 71 (t + i)) &&& 255 = rB x1 (8 * (n - 1 - i))) → Q m') → j_X12_put_70_3 1 x1 x2 m Q := by
  intro n
  induction n with
  | zero =>
    intro t x2 m hx hn ht h2000 hO hQ
    exact v_X12_put_70_3 ⟨fun _ => hQ m hO (fun _ _ _ _ => rfl) ht (fun _ _ => rfl) (fun i hi => by omega), fun h => by exfalso; omega⟩
  | succ n ih =>
    intro t x2 m hx hn ht h2000 hO hQ
    have e2 : x2 = Int32.ofNat (8 * n) := by
      apply d_ce
      rw [hx]
      have : n = 0 ∨ n = 1 ∨ n = 2 ∨ n = 3 := by omega
      rcases this with rfl | rfl | rfl | rfl <;> decide
    have f := dAddE (X := x2.toInt) (Y := -8) (x := x2) (y := (-8 : Int32)) rfl (by decide) (by omega) (by omega)
    refine v_X12_put_70_3 ⟨fun h => by exfalso; omega, fun h => ⟨by omega, ?_⟩⟩
    rw [d_cn ht]
    have f2 := d_inc ht (by omega)
    refine ih (t + 1) _ _ (by omega) (by omega) (by rw [dSet_s]; exact f2) (by omega) (Ok.set70 (Ok.gen0 hO (by decide) rfl rfl) (by decide) (fun lo hi h => ?_)) (fun m' a b d e g => hQ m' a (fun k j h1 h2 => by rw [b k j h1 h2, dSet_e, if_neg h2, dSet_k h1]) (by rw [d]; omega) (fun j hj => ?_) (fun i hi => ?_))
    · rcases h with h | h
      · cases h
      · cases h; omega
    · rw [e j (by omega), dSet_k (by decide), dSet_j (by omega)]
    · by_cases q : i = 0
      · rw [q]
        show (m'.1 71 t) &&& 255 = _
        rw [e t (by omega), dSet_k (by decide), dSet_s, e2]
        rfl
      · have := g (i - 1) (by omega)
        rw [show t + 1 + (i - 1) = t + i by omega] at this
        rw [this, show n - 1 - (i - 1) = n + 1 - 1 - i by omega]
def x5 (x1 x2 x3 x4 x5 : Int32) : Nat → Int32
  | 0 => x1
  | 1 => x2
  | 2 => x3
  | 3 => x4
  | _ => x5
/-- q words fed to the class -/
def Y11 (xs : Nat → Int32) (t : Nat) (m : dM) (q : Nat) (m' : dM) : Prop := Ok m' ∧ FR0 m m' ∧ (m'.1 0 1).toInt = ((t + 4 * q : Nat) : Int) ∧ (∀ j : Nat, j < t → m'.1 1 j = m.1 1 j) ∧ (∀ i : Nat, i < 4 * q → (m'.1 1 (t + i)) &&& 255 = cB (xs (i / 4)) (8 * (3 - i % 4)))
def Y12 (xs : Nat → Int32) (t : Nat) (m : dM) (q : Nat) (m' : dM) : Prop := Ok m' ∧ FR70 m m' ∧ (m'.1 70 2).toInt = ((t + 4 * q : Nat) : Int) ∧ (∀ j : Nat, j < t → m'.1 71 j = m.1 71 j) ∧ (∀ i : Nat, i < 4 * q → (m'.1 71 (t + i)) &&& 255 = rB (xs (i / 4)) (8 * (3 - i % 4)))
theorem Y11.go {xs : Nat → Int32} {t q : Nat} {m1 : dM} {Q : dM → Prop} (h : Y11 xs t m q m1) (hb : t + 20 ≤ 2000) (hq : q < 5) (hQ : ∀ m', Y11 xs t m (q + 1) m' → Q m') : c_X11_putBytes_0 1 (xs q) m1 Q := by
  obtain ⟨a, b, d, e, g⟩ := h
  refine v_X11_putBytes_0 (y_put11 4 (t + 4 * q) _ m1 (by decide) (by omega) d (by omega) a (fun m' a' b' d' e' g' => hQ m' ⟨a', fun k j h1 h2 => (b' k j h1 h2).trans (b k j h1 h2), by rw [d']; omega, fun j hj => by rw [e' j (by omega)]; exact e j hj, fun i hi => ?_⟩))
  by_cases w : i < 4 * q
  · rw [e' (t + i) (by omega)]; exact g i w
  · have := g' (i - 4 * q) (by omega)
    rw [show t + 4 * q + (i - 4 * q) = t + i by omega] at this
    rw [this, show i / 4 = q by omega, show 4 - 1 - (i - 4 * q) = 3 - i % 4 by omega]
theorem Y12.go {xs : Nat → Int32} {t q : Nat} {m1 : dM} {Q : dM → Prop} (h : Y12 xs t m q m1) (hb : t + 20 ≤ 2000) (hq : q < 5) (hQ : ∀ m', Y12 xs t m (q + 1) m' → Q m') : c_X12_put_70 1 (xs q) m1 Q := by
  obtain ⟨a, b, d, e, g⟩ := h
  refine v_X12_put_70 (y_put12 4 (t + 4 * q) _ m1 (by decide) (by omega) d (by omega) a (fun m' a' b' d' e' g' => hQ m' ⟨a', fun k j h1 h2 => (b' k j h1 h2).trans (b k j h1 h2), by rw [d']; omega, fun j hj => by rw [e' j (by omega)]; exact e j hj, fun i hi => ?_⟩))
  by_cases w : i < 4 * q
  · rw [e' (t + i) (by omega)]; exact g i w
  · have := g' (i - 4 * q) (by omega)
    rw [show t + 4 * q + (i - 4 * q) = t + i by omega] at this
    rw [this, show i / 4 = q by omega, show 4 - 1 - (i - 4 * q) = 3 - i % 4 by omega]
/-- the class's feed, and the reference's -/
def E11f (xs : Nat → Int32) (m : dM) (r : Int32) (m' : dM) : Prop := ((m.1 0 1).toInt + 20 ≤ 2000 ∧ ∃ t : Nat, (m.1 0 1).toInt = (t : Int) ∧ r.toInt = (t : Int) + 20 ∧ Y11 xs t m 5 m') ∨ (2000 < (m.1 0 1).toInt + 20 ∧ r.toInt = -1 ∧ m' = m)
def E12f (xs : Nat → Int32) (m : dM) (r : Int32) (m' : dM) : Prop := ((m.1 70 2).toInt + 20 ≤ 2000 ∧ ∃ t : Nat, (m.1 70 2).toInt = (t : Int) ∧ r.toInt = (t : Int) + 20 ∧ Y12 xs t m 5 m') ∨ (2000 < (m.1 70 2).toInt + 20 ∧ r.toInt = -1 ∧ m' = m)
theorem b_X11_feed {x1 x2 x3 x4 x5' : Int32} {Q : Int32 → dM → Prop} (hO : Ok m) (hQ : ∀ (r : Int32) (m' : dM), Ok m' ∧ E11f (x5 x1 x2 x3 x4 x5') m r m' → Q r m') : c_X11_feed_0 2 x1 x2 x3 x4 x5' m Q := by
  have b := hO.s (k := 0) (j := 1) rfl
  obtain ⟨t, ht⟩ : ∃ t : Nat, (m.1 0 1).toInt = (t : Int) := ⟨(m.1 0 1).toInt.toNat, by omega⟩
  have f := dAddE (X := (t : Int)) (Y := 20) (x := m.1 0 1) (y := (20 : Int32)) ht (by decide) (by omega) (by omega)
  refine v_X11_feed_0 ⟨fun q => ?_, fun q => hQ _ _ ⟨hO, Or.inr ⟨by omega, by decide, rfl⟩⟩⟩
  have Y0 : Y11 (x5 x1 x2 x3 x4 x5') t m 0 m := ⟨hO, fun _ _ _ _ => rfl, by rw [ht]; omega, fun _ _ => rfl, fun i hi => by omega⟩
  exact Y0.go (by omega) (by decide) (fun m1 Y1 => Y1.go (by omega) (by decide) (fun m2 Y2 => Y2.go (by omega) (by decide) (fun m3 Y3 => Y3.go (by omega) (by decide) (fun m4 Y4 => Y4.go (by omega) (by decide) (fun m5 Y5 => hQ _ _ ⟨Y5.1, Or.inl ⟨by omega, t, ht, by rw [Y5.2.2.1]; omega, Y5⟩⟩)))))
theorem b_X12_feed {x1 x2 x3 x4 x5' : Int32} {Q : Int32 → dM → Prop} (hO : Ok m) (hQ : ∀ (r : Int32) (m' : dM), Ok m' ∧ E12f (x5 x1 x2 x3 x4 x5') m r m' → Q r m') : c_X12_feed_70 2 x1 x2 x3 x4 x5' m Q := by
  have b := hO.s (k := 70) (j := 2) rfl
  obtain ⟨t, ht⟩ : ∃ t : Nat, (m.1 70 2).toInt = (t : Int) := ⟨(m.1 70 2).toInt.toNat, by omega⟩
  have f := dAddE (X := (t : Int)) (Y := 20) (x := m.1 70 2) (y := (20 : Int32)) ht (by decide) (by omega) (by omega)
  refine v_X12_feed_70 ⟨fun q => ?_, fun q => hQ _ _ ⟨hO, Or.inr ⟨by omega, by decide, rfl⟩⟩⟩
  have Y0 : Y12 (x5 x1 x2 x3 x4 x5') t m 0 m := ⟨hO, fun _ _ _ _ => rfl, by rw [ht]; omega, fun _ _ => rfl, fun i hi => by omega⟩
  exact Y0.go (by omega) (by decide) (fun m1 Y1 => Y1.go (by omega) (by decide) (fun m2 Y2 => Y2.go (by omega) (by decide) (fun m3 Y3 => Y3.go (by omega) (by decide) (fun m4 Y4 => Y4.go (by omega) (by decide) (fun m5 Y5 => hQ _ _ ⟨Y5.1, Or.inl ⟨by omega, t, ht, by rw [Y5.2.2.1]; omega, Y5⟩⟩)))))
theorem j_feed {xs : Nat → Int32} {m1 m2 : dM} {r1 r2 : Int32} (hT : Rq m) (h1 : E11f xs m r1 m1) (h2 : E12f xs m1 r2 m2) : Rq m2 ∧ r1 = r2 := by
  obtain ⟨⟨e, hb⟩, ho⟩ := hT
  rcases h1 with ⟨a, t, b, c, Y⟩ | ⟨a, b, T⟩
  · obtain ⟨O, y1, y3, y4, y5⟩ := Y
    have e2 : m1.1 70 2 = m.1 70 2 := y1 70 2 (by decide) (by decide)
    rcases h2 with ⟨a2, t2, b2, c2, O2, z1, z3, z4, z5⟩ | ⟨a2, -⟩
    · rw [e2] at b2
      have et : t2 = t := by omega
      subst et
      have z2 : m2.1 0 1 = m1.1 0 1 := z1 0 1 (by decide) (by decide)
      refine ⟨⟨⟨by rw [z2, y3, z3], fun i hi => ?_⟩, (ho.fr0 y1).fr70 z1⟩, Int32.toInt_inj.mp (by omega)⟩
      rw [z2, y3] at hi
      rw [z1 1 i (by decide) (by omega)]
      by_cases q : i < t2
      · rw [y4 i q, z4 i q, y1 71 i (by decide) (by omega)]
        exact hb i (by omega)
      · have u := y5 (i - t2) (by omega)
        have v := z5 (i - t2) (by omega)
        rw [show t2 + (i - t2) = i by omega] at u v
        rw [u, v]
        exact cB_rB _ _ (by omega)
    · rw [e2] at a2; exfalso; omega
  · subst T
    rcases h2 with ⟨a2, -⟩ | ⟨a2, b2, T2⟩
    · exfalso; omega
    · subst T2
      exact ⟨⟨⟨e, hb⟩, ho⟩, Int32.toInt_inj.mp (by omega)⟩
/-- back -/
def E11b (x1 : Int32) (m : dM) (r : Int32) (m' : dM) : Prop := (FR0 m m' ∧ m'.1 1 = m.1 1) ∧ (((0 ≤ x1.toInt ∧ x1.toInt ≤ (m.1 0 1).toInt) ∧ r.toInt = (m.1 0 1).toInt - x1.toInt ∧ (m'.1 0 1).toInt = (m.1 0 1).toInt - x1.toInt) ∨ (¬ (0 ≤ x1.toInt ∧ x1.toInt ≤ (m.1 0 1).toInt) ∧ r.toInt = -1 ∧ m'.1 0 1 = m.1 0 1))
def E12b (x1 : Int32) (m : dM) (r : Int32) (m' : dM) : Prop := (FR70 m m' ∧ m'.1 71 = m.1 71) ∧ (((0 ≤ x1.toInt ∧ x1.toInt ≤ (m.1 70 2).toInt) ∧ r.toInt = (m.1 70 2).toInt - x1.toInt ∧ (m'.1 70 2).toInt = (m.1 70 2).toInt - x1.toInt) ∨ (¬ (0 ≤ x1.toInt ∧ x1.toInt ≤ (m.1 70 2).toInt) ∧ r.toInt = -1 ∧ m'.1 70 2 = m.1 70 2))
theorem b_X11_back {x1 : Int32} {Q : Int32 → dM → Prop} (hO : Ok m) (hQ : ∀ (r : Int32) (m' : dM), Ok m' ∧ E11b x1 m r m' → Q r m') : c_X11_back_0 1 x1 m Q := by
  have b := hO.s (k := 0) (j := 1) rfl
  have no : ¬ (0 ≤ x1.toInt ∧ x1.toInt ≤ (m.1 0 1).toInt) → j_X11_back_0_12 1 m Q := fun q => v_X11_back_0_12 (hQ _ _ ⟨hO, ⟨fun _ _ _ _ => rfl, rfl⟩, Or.inr ⟨q, by decide, rfl⟩⟩)
  refine v_X11_back_0 ⟨fun q => no (by omega), fun q => ⟨fun q2 => ?_, fun q2 => no (by omega)⟩⟩
  have f := dSubE (X := (m.1 0 1).toInt) (Y := x1.toInt) (x := m.1 0 1) (y := x1) rfl rfl (by omega) (by omega)
  exact hQ _ _ ⟨Ok.set1 (lo := 0) (hi := 2000) hO (Or.inl rfl) rfl rfl (by omega) (by omega), ⟨fun k j h1 h2 => by rw [dSet_e, if_neg h2], rfl⟩, Or.inl ⟨⟨q, q2⟩, f, f⟩⟩
theorem b_X12_back {x1 : Int32} {Q : Int32 → dM → Prop} (hO : Ok m) (hQ : ∀ (r : Int32) (m' : dM), Ok m' ∧ E12b x1 m r m' → Q r m') : c_X12_back_70 1 x1 m Q := by
  have b := hO.s (k := 70) (j := 2) rfl
  have no : ¬ (0 ≤ x1.toInt ∧ x1.toInt ≤ (m.1 70 2).toInt) → j_X12_back_70_12 1 m Q := fun q => v_X12_back_70_12 (hQ _ _ ⟨hO, ⟨fun _ _ _ _ => rfl, rfl⟩, Or.inr ⟨q, by decide, rfl⟩⟩)
  refine v_X12_back_70 ⟨fun q => no (by omega), fun q => ⟨fun q2 => ?_, fun q2 => no (by omega)⟩⟩
  have f := dSubE (X := (m.1 70 2).toInt) (Y := x1.toInt) (x := m.1 70 2) (y := x1) rfl rfl (by omega) (by omega)
  refine hQ _ _ ⟨Ok.set70 hO (by decide) (fun lo hi h => ?_), ⟨fun k j h1 h2 => by rw [dSet_e, if_neg h2], rfl⟩, Or.inl ⟨⟨q, q2⟩, f, f⟩⟩
  rcases h with h | h
  · cases h
  · cases h; omega
theorem j_back {x1 : Int32} {m1 m2 : dM} {r1 r2 : Int32} (hT : Rq m) (h1 : E11b x1 m r1 m1) (h2 : E12b x1 m1 r2 m2) : Rq m2 ∧ r1 = r2 := by
  obtain ⟨⟨e, hb⟩, ho⟩ := hT
  obtain ⟨⟨a1, a2⟩, a4⟩ := h1
  obtain ⟨⟨c1, c3⟩, c4⟩ := h2
  rw [a1 70 2 (by decide) (by decide)] at c4
  have k0 : m2.1 0 1 = m1.1 0 1 := c1 0 1 (by decide) (by decide)
  have k : (m2.1 0 1).toInt = (m1.1 0 1).toInt := by rw [k0]
  have d1 : (m1.1 0 1 = m.1 0 1) → (m1.1 0 1).toInt = (m.1 0 1).toInt := fun q => by rw [q]
  have d2 : (m2.1 70 2 = m.1 70 2) → (m2.1 70 2).toInt = (m.1 70 2).toInt := fun q => by rw [q]
  have h : (m2.1 0 1).toInt = (m2.1 70 2).toInt ∧ r1.toInt = r2.toInt ∧ (m2.1 0 1).toInt ≤ (m.1 0 1).toInt := by
    rcases a4 with ⟨u, v, w⟩ | ⟨u, v, w⟩ <;> rcases c4 with ⟨u2, v2, w2⟩ | ⟨u2, v2, w2⟩
    · omega
    · exfalso; omega
    · exfalso; omega
    · have := d1 w; have := d2 w2; omega
  refine ⟨⟨⟨h.1, fun i hi => ?_⟩, (ho.fr0 a1).fr70 c1⟩, Int32.toInt_inj.mp h.2.1⟩
  rw [c1 1 i (by decide) (by omega), c3, a2, a1 71 i (by decide) (by omega)]
  exact hb i (by omega)
end FED
end
section
/-! TELL, FORGET, HOLD, RESTORE, READ OF BOTH, exactly as far as told, slots, place, flats go -/
section OPR
variable {m : dM} {Q : Int32 → dM → Prop}
def E11t (x1 : Int32) (m : dM) (r : Int32) (m' : dM) : Prop := ((0 ≤ x1.toInt ∧ x1.toInt < (m.1 2 0).toInt ∧ (m.1 67 3).toInt < 20) ∧ r.toInt = (m.1 67 3).toInt ∧ (m'.1 67 3).toInt = (m.1 67 3).toInt + 1 ∧ ∀ k j : Nat, k ≠ 68 → k ≠ 69 → ¬ (k = 67 ∧ j = 3) → m'.1 k j = m.1 k j) ∨ (¬ (0 ≤ x1.toInt ∧ x1.toInt < (m.1 2 0).toInt ∧ (m.1 67 3).toInt < 20) ∧ r.toInt = -1 ∧ m' = m)
def E12t (x1 : Int32) (m : dM) (r : Int32) (m' : dM) : Prop := ((0 ≤ x1.toInt ∧ x1.toInt < (m.1 80 (m.1 70 18).toNatClampNeg).toInt ∧ (m.1 70 63).toInt ≠ 20) ∧ r.toInt = (m.1 70 63).toInt ∧ (m'.1 70 63).toInt = (m.1 70 63).toInt + 1 ∧ ∀ k j : Nat, k ≠ 112 → k ≠ 113 → ¬ (k = 70 ∧ j = 63) → m'.1 k j = m.1 k j) ∨ (¬ (0 ≤ x1.toInt ∧ x1.toInt < (m.1 80 (m.1 70 18).toNatClampNeg).toInt ∧ (m.1 70 63).toInt ≠ 20) ∧ r.toInt = -1 ∧ m' = m)
theorem z_X11_tell {x1 x2 : Int32} (hO : Ok m) (h2 : x2 = 0 ∨ x2 = 1) (hQ : ∀ (r : Int32) (m' : dM), Ok m' ∧ E11t x1 m r m' → Q r m') : c_X11_tell_0 3 x1 x2 m Q := by
  have b := hO.s (k := 67) (j := 3) rfl
  have no : ¬ (0 ≤ x1.toInt ∧ x1.toInt < (m.1 2 0).toInt ∧ (m.1 67 3).toInt < 20) → Q (-1 : Int32) m := fun q => hQ _ _ ⟨hO, Or.inr ⟨q, by decide, rfl⟩⟩
  have n0 : ¬ (0 ≤ x1.toInt ∧ x1.toInt < (m.1 2 0).toInt) → ((0 : Int32).toInt = 0 → Q (-1 : Int32) m) ∧ ((0 : Int32).toInt ≠ 0 → c_X9_add_67 2 x1 x2 m (fun r2 m2 => Q r2 m2)) := fun q => ⟨fun _ => no (fun w => q ⟨w.1, w.2.1⟩), fun w => absurd rfl w⟩
  refine v_X11_tell_0 (Wp.deep (d := 1) (v_X11_isFlat_0 ⟨fun q => v_X11_isFlat_0_19 (n0 (by omega)), fun q => ⟨fun q2 => v_X11_isFlat_0_19 (n0 (by omega)), fun q2 => ⟨fun w => absurd w (by decide), fun _ => ?_⟩⟩⟩) (Nat.le_of_ble_eq_true rfl))
  refine Wp.deep (d := 1) (v_X9_add_67 ⟨fun q3 => ⟨by omega, h2, by omega, hQ _ _ ⟨?_, Or.inl ⟨⟨q, q2, q3⟩, ?_, ?_, fun k j e1 e2 e3 => ?_⟩⟩⟩, fun q3 => no (fun w => by omega)⟩) (Nat.le_of_ble_eq_true rfl)
  all_goals have f := dAddE (X := (m.1 67 3).toInt) (Y := 1) (x := m.1 67 3) (y := (1 : Int32)) rfl (by decide) (by omega) (by omega)
  · refine Ok.gen (Ok.gR (Ok.gR hO (by decide) rfl rfl) (by decide) rfl rfl) (by decide) (fun lo hi h => ?_)
    rcases h with h | h
    · cases h
    · cases h; omega
  · have f2 := dSubE (X := (m.1 67 3).toInt + 1) (Y := 1) (x := m.1 67 3 + 1) (y := (1 : Int32)) f (by decide) (by omega) (by omega)
    omega
  · exact f
  · rw [dSet_e, if_neg e3, dSet_k e2, dSet_k e1]
theorem z_X12_tell {x1 x2 : Int32} (hO : Ok m) (hQ : ∀ (r : Int32) (m' : dM), Ok m' ∧ E12t x1 m r m' → Q r m') : c_X12_tell_70 3 x1 x2 m Q := by
  have b := hO.s (k := 70) (j := 63) rfl
  have b18 := hO.s (k := 70) (j := 18) rfl
  have b80 := hO.s (k := 80) (j := (m.1 70 18).toNatClampNeg) rfl
  have f80 := dSubE (X := (m.1 80 (m.1 70 18).toNatClampNeg).toInt) (Y := 1) (x := m.1 80 (m.1 70 18).toNatClampNeg) (y := (1 : Int32)) rfl (by decide) (by omega) (by omega)
  have no : ¬ (0 ≤ x1.toInt ∧ x1.toInt < (m.1 80 (m.1 70 18).toNatClampNeg).toInt ∧ (m.1 70 63).toInt ≠ 20) → j_X12_tell_70_17 3 m Q := fun q => v_X12_tell_70_17 (hQ _ _ ⟨hO, Or.inr ⟨q, by decide, rfl⟩⟩)
  have st : ∀ v : Int32, (0 ≤ x1.toInt ∧ x1.toInt < (m.1 80 (m.1 70 18).toNatClampNeg).toInt ∧ (m.1 70 63).toInt ≠ 20) → Q (((m.1 70 63) + (1 : Int32)) - (1 : Int32)) (dSet (dSet (dSet m 112 (m.1 70 63).toNatClampNeg x1) 113 (m.1 70 63).toNatClampNeg v) 70 63 ((m.1 70 63) + (1 : Int32))) := fun v q => by
    have f := dAddE (X := (m.1 70 63).toInt) (Y := 1) (x := m.1 70 63) (y := (1 : Int32)) rfl (by decide) (by omega) (by omega)
    have f2 := dSubE (X := (m.1 70 63).toInt + 1) (Y := 1) (x := m.1 70 63 + 1) (y := (1 : Int32)) f (by decide) (by omega) (by omega)
    refine hQ _ _ ⟨Ok.set70 (Ok.gR (Ok.gR hO (by decide) rfl rfl) (by decide) rfl rfl) (by decide) (fun lo hi h => ?_), Or.inl ⟨q, by omega, f, fun k j e1 e2 e3 => by rw [dSet_e, if_neg e3, dSet_k e2, dSet_k e1]⟩⟩
    rcases h with h | h
    · cases h
    · cases h; omega
  have e0 : (0 : Int32).toInt = 0 := by decide
  have n0 : ¬ (0 ≤ x1.toInt ∧ x1.toInt < (m.1 80 (m.1 70 18).toNatClampNeg).toInt) → j_X12_tell_70_17 3 m Q := fun q => no (fun w => q ⟨w.1, w.2.1⟩)
  refine v_X12_tell_70 ⟨fun q => no (fun w => w.2.2 q), fun q => v_X12_isFlat_70 ⟨by omega, Wp.deep (d := 1) (v_X12_in ⟨fun q2 => v_X12_in_14 ⟨Or.inl rfl, fun w => absurd rfl w, fun _ => n0 (by omega)⟩, fun q2 => ⟨fun q3 => v_X12_in_14 ⟨Or.inl rfl, fun w => absurd rfl w, fun _ => n0 (by omega)⟩, fun q3 => ⟨Or.inr rfl, fun _ => ⟨by omega, fun _ => ⟨by omega, st _ ⟨by omega, by omega, q⟩⟩, fun _ => ⟨by omega, st _ ⟨by omega, by omega, q⟩⟩⟩, fun w => absurd w (by decide)⟩⟩⟩) (Nat.le_of_ble_eq_true rfl)⟩⟩
theorem j_tell {x1 : Int32} {m1 m2 : dM} {r1 r2 : Int32} (hO : Ok m) (hT : Rq m) (h1 : E11t x1 m r1 m1) (h2 : E12t x1 m1 r2 m2) : Rq m2 ∧ r1 = r2 := by
  have b := hO.s (k := 67) (j := 3) rfl
  obtain ⟨hq, ⟨o1, o2, o3, o4⟩⟩ := hT
  rcases h1 with ⟨a, b1, c, d⟩ | ⟨a, b1, T⟩
  · have d18 : m1.1 70 18 = m.1 70 18 := d 70 18 (by decide) (by decide) (by decide)
    have d63 : m1.1 70 63 = m.1 70 63 := d 70 63 (by decide) (by decide) (by decide)
    have d80 : ∀ j : Nat, m1.1 80 j = m.1 80 j := fun j => d 80 j (by decide) (by decide) (by omega)
    rcases h2 with ⟨a2, b2, c2, d2⟩ | ⟨a2, b2, T2⟩
    · rw [d63] at b2 c2
      have r0 : ∀ k j : Nat, k ≠ 67 → k ≠ 68 → k ≠ 69 → k ≠ 112 → k ≠ 113 → ¬ (k = 70 ∧ j = 63) → m2.1 k j = m.1 k j := fun k j e1 e2 e3 e4 e5 e6 => by rw [d2 k j e4 e5 e6, d k j e2 e3 (fun w => e1 w.1)]
      refine ⟨⟨hq.tp ⟨r0 0 1 (by decide) (by decide) (by decide) (by decide) (by decide) (by decide), r0 70 2 (by decide) (by decide) (by decide) (by decide) (by decide) (by decide), funext fun j => r0 1 j (by decide) (by decide) (by decide) (by decide) (by decide) (by omega), funext fun j => r0 71 j (by decide) (by decide) (by decide) (by decide) (by decide) (by omega)⟩, ?_, ?_, ?_, ?_⟩, Int32.toInt_inj.mp (by omega)⟩
      · rw [r0 0 2 (by decide) (by decide) (by decide) (by decide) (by decide) (by decide), r0 70 17 (by decide) (by decide) (by decide) (by decide) (by decide) (by decide)]; exact o1
      · rw [d2 67 3 (by decide) (by decide) (by decide)]; omega
      · rw [r0 2 0 (by decide) (by decide) (by decide) (by decide) (by decide) (by decide), r0 70 18 (by decide) (by decide) (by decide) (by decide) (by decide) (by decide), r0 80 _ (by decide) (by decide) (by decide) (by decide) (by decide) (by omega)]; exact o3
      · intro i hi
        rw [r0 51 4 (by decide) (by decide) (by decide) (by decide) (by decide) (by decide), r0 115 i (by decide) (by decide) (by decide) (by decide) (by decide) (by omega)]; exact o4 i hi
    · rw [d18, d63, d80] at a2; exfalso; omega
  · subst T
    rcases h2 with ⟨a2, -⟩ | ⟨a2, b2, T2⟩
    · exfalso; omega
    · subst T2
      exact ⟨⟨hq, ⟨o1, o2, o3, o4⟩⟩, Int32.toInt_inj.mp (by omega)⟩
/-- forget -/
def E11o (m : dM) (r : Int32) (m' : dM) : Prop := r = m.1 67 3 ∧ m'.1 67 3 = 0 ∧ ∀ k j : Nat, ¬ (k = 67 ∧ j = 3) → m'.1 k j = m.1 k j
def E12o (m : dM) (r : Int32) (m' : dM) : Prop := r = m.1 70 63 ∧ m'.1 70 63 = 0 ∧ ∀ k j : Nat, ¬ (k = 70 ∧ j = 63) → m'.1 k j = m.1 k j
theorem z_X11_forget (hO : Ok m) (hQ : ∀ (r : Int32) (m' : dM), Ok m' ∧ E11o m r m' → Q r m') : c_X11_forget_0 2 m Q := by
  refine v_X11_forget_0 (Wp.deep (d := 1) (v_X9_clear_67 (hQ _ _ ⟨?_, rfl, dSet_s _ _ _ _, fun k j e => by rw [dSet_e, if_neg e]⟩)) (Nat.le_of_ble_eq_true rfl))
  refine Ok.gen hO (by decide) (fun lo hi h => ?_)
  rcases h with h | h
  · cases h
  · cases h; decide
theorem z_X12_forget (hO : Ok m) (hQ : ∀ (r : Int32) (m' : dM), Ok m' ∧ E12o m r m' → Q r m') : c_X12_forget_70 1 m Q := by
  refine v_X12_forget_70 (hQ _ _ ⟨Ok.set70 hO (by decide) (fun lo hi h => ?_), rfl, dSet_s _ _ _ _, fun k j e => by rw [dSet_e, if_neg e]⟩)
  rcases h with h | h
  · cases h
  · cases h; decide
theorem j_forget {m1 m2 : dM} {r1 r2 : Int32} (hT : Rq m) (h1 : E11o m r1 m1) (h2 : E12o m1 r2 m2) : Rq m2 ∧ r1 = r2 := by
  obtain ⟨hq, ⟨o1, o2, o3, o4⟩⟩ := hT
  obtain ⟨a, b, c⟩ := h1
  obtain ⟨a2, b2, c2⟩ := h2
  have r0 : ∀ k j : Nat, k ≠ 67 → ¬ (k = 70 ∧ j = 63) → m2.1 k j = m.1 k j := fun k j e1 e2 => by rw [c2 k j e2, c k j (fun w => e1 w.1)]
  refine ⟨⟨hq.tp ⟨r0 0 1 (by decide) (by decide), r0 70 2 (by decide) (by decide), funext fun j => r0 1 j (by decide) (by omega), funext fun j => r0 71 j (by decide) (by omega)⟩, ?_, ?_, ?_, ?_⟩, Int32.toInt_inj.mp ?_⟩
  · rw [r0 0 2 (by decide) (by decide), r0 70 17 (by decide) (by decide)]; exact o1
  · rw [c2 67 3 (by decide), b, b2]
  · rw [r0 2 0 (by decide) (by decide), r0 70 18 (by decide) (by decide), r0 80 _ (by decide) (by omega)]; exact o3
  · intro i hi
    rw [r0 51 4 (by decide) (by decide), r0 115 i (by decide) (by omega)]; exact o4 i hi
  · rw [a, a2, c 70 63 (by decide)]; exact o2
/-- hold -/
def E11h (x1 : Int32) (m : dM) (r : Int32) (m' : dM) : Prop := ((0 ≤ x1.toInt ∧ x1.toInt ≤ 2) ∧ r = 1 ∧ m'.1 51 4 = (m.1 51 4) ||| ((1 : Int32) <<< (x1 &&& 31)) ∧ ∀ k j : Nat, kp k j = true → ¬ (k = 51 ∧ j = 4) → m'.1 k j = m.1 k j) ∨ (¬ (0 ≤ x1.toInt ∧ x1.toInt ≤ 2) ∧ r = 0 ∧ m' = m)
def E12h (x1 : Int32) (m : dM) (r : Int32) (m' : dM) : Prop := ((0 ≤ x1.toInt ∧ x1.toInt ≤ 2) ∧ r = 1 ∧ (∀ j : Nat, m'.1 115 j = if j = x1.toNatClampNeg then 1 else m.1 115 j) ∧ ∀ k j : Nat, k ≠ 115 → k ≠ 116 → m'.1 k j = m.1 k j) ∨ (¬ (0 ≤ x1.toInt ∧ x1.toInt ≤ 2) ∧ r = 0 ∧ m' = m)
theorem z_X11_hold {x1 : Int32} (hO : Ok m) (hQ : ∀ (r : Int32) (m' : dM), Ok m' ∧ E11h x1 m r m' → Q r m') : c_X11_hold_0 3 x1 m Q := by
  have no : ¬ (0 ≤ x1.toInt ∧ x1.toInt ≤ 2) → j_X6_store_51_47_9 2 m (fun r1 m1 => (r1 = 0 ∨ r1 = 1) ∧ Q r1 m1) := fun q => v_X6_store_51_47_9 ⟨Or.inl rfl, hQ _ _ ⟨hO, Or.inr ⟨q, rfl, rfl⟩⟩⟩
  have e3 : (3 : Int32).toInt = 3 := by decide
  refine v_X11_hold_0 (v_X6_store_51_47 ⟨fun q => no (by omega), fun q => ⟨fun q2 => ?_, fun q2 => no (by omega)⟩⟩)
  have f := dMulE (X := x1.toInt) (Y := 33) (x := x1) (y := (33 : Int32)) rfl (by decide) (by omega) (by omega)
  refine s_X7_writeTo_47_53 hO.1 hO.2 (by omega) (fun m1 I1 => ⟨Or.inr rfl, hQ _ _ ⟨Ok.gen0 (Ok.of hO.1 I1) (by decide) rfl rfl, Or.inl ⟨⟨q, by omega⟩, rfl, ?_, fun k j hk e => ?_⟩⟩⟩)
  · rw [dSet_s, Kp.of I1 51 4 rfl]
  · rw [dSet_e, if_neg e]; exact Kp.of I1 k j hk
theorem z_X12_hold {x1 : Int32} (hO : Ok m) (hQ : ∀ (r : Int32) (m' : dM), Ok m' ∧ E12h x1 m r m' → Q r m') : c_X12_hold_70 2 x1 m Q := by
  have e0 : (0 : Int32).toInt = 0 := by decide
  have e2 : (2 : Int32).toInt = 2 := by decide
  have loop : ∀ (f i : Nat) (x2 : Int32) (M : dM), i + f = 58 → x2.toInt = (i : Int) → 0 ≤ x1.toInt ∧ x1.toInt ≤ 2 → Ok M → (∀ j : Nat, M.1 115 j = if j = x1.toNatClampNeg then 1 else m.1 115 j) → (∀ k j : Nat, k ≠ 115 → k ≠ 116 → M.1 k j = m.1 k j) → j_X12_hold_70_20 2 x1 x2 M Q := by
    intro f
    induction f with
    | zero => intro i x2 M hi h2 h1 O T T2; exact v_X12_hold_70_20 ⟨fun _ => hQ _ _ ⟨O, Or.inl ⟨h1, rfl, T, T2⟩⟩, fun q => by exfalso; omega⟩
    | succ f ih =>
      intro i x2 M hi h2 h1 O T T2
      have fm := dMulE (X := 58) (Y := x1.toInt) (x := (58 : Int32)) (y := x1) (by decide) rfl (by omega) (by omega)
      have fa := dAddE (X := 58 * x1.toInt) (Y := (i : Int)) (x := (58 : Int32) * x1) (y := x2) fm h2 (by omega) (by omega)
      exact v_X12_hold_70_20 ⟨fun q => by exfalso; omega, fun _ => ⟨by omega, by omega, ih (i + 1) _ _ (by omega) (d_inc h2 (by omega)) h1 (Ok.gR O (by decide) rfl rfl) (fun j => by rw [dSet_k (by decide)]; exact T j) (fun k j a b => by rw [dSet_k b]; exact T2 k j a b)⟩⟩
  have no : ¬ (0 ≤ x1.toInt ∧ x1.toInt ≤ 2) → Q 0 m := fun q => hQ _ _ ⟨hO, Or.inr ⟨q, rfl, rfl⟩⟩
  refine v_X12_hold_70 (v_X12_in ⟨fun q => v_X12_in_14 ⟨fun w => absurd rfl w, fun _ => no (by omega)⟩, fun q => ⟨fun q2 => v_X12_in_14 ⟨fun w => absurd rfl w, fun _ => no (by omega)⟩, fun q2 => ⟨fun _ => ⟨by omega, loop 58 0 _ _ rfl (by decide) ⟨by omega, by omega⟩ (Ok.gen0 hO (by decide) rfl rfl) (fun j => ?_) (fun k j a b => by rw [dSet_k a])⟩, fun w => absurd w (by decide)⟩⟩⟩)
  rw [dSet_e]
  by_cases z : j = x1.toNatClampNeg
  · rw [if_pos ⟨rfl, z⟩, if_pos z]
  · rw [if_neg (fun w => z w.2), if_neg z]
theorem j_hold {x1 : Int32} {m1 m2 : dM} {r1 r2 : Int32} (hT : Rq m) (h1 : E11h x1 m r1 m1) (h2 : E12h x1 m1 r2 m2) : Rq m2 ∧ r1 = r2 := by
  obtain ⟨hq, ⟨o1, o2, o3, o4⟩⟩ := hT
  rcases h1 with ⟨a, b, c, d⟩ | ⟨a, b, T⟩
  · rcases h2 with ⟨a2, b2, c2, d2⟩ | ⟨a2, -⟩
    · have r0 : ∀ k j : Nat, kp k j = true → k ≠ 51 → k ≠ 115 → k ≠ 116 → m2.1 k j = m.1 k j := fun k j e1 e2 e3 e4 => by rw [d2 k j e3 e4, d k j e1 (fun w => e2 w.1)]
      obtain ⟨i, hi⟩ : ∃ i : Nat, x1.toInt = (i : Int) := ⟨x1.toInt.toNat, by omega⟩
      have ex : x1 = Int32.ofNat i := by
        apply d_ce
        rw [hi]
        have : i = 0 ∨ i = 1 ∨ i = 2 := by omega
        rcases this with rfl | rfl | rfl <;> decide
      refine ⟨⟨hq.tp ⟨r0 0 1 rfl (by decide) (by decide) (by decide), r0 70 2 rfl (by decide) (by decide) (by decide), funext fun j => r0 1 j rfl (by decide) (by decide) (by decide), funext fun j => r0 71 j rfl (by decide) (by decide) (by decide)⟩, ?_, ?_, ?_, ?_⟩, by rw [b, b2]⟩
      · rw [r0 0 2 rfl (by decide) (by decide) (by decide), r0 70 17 rfl (by decide) (by decide) (by decide)]; exact o1
      · rw [r0 67 3 rfl (by decide) (by decide) (by decide), r0 70 63 rfl (by decide) (by decide) (by decide)]; exact o2
      · rw [r0 2 0 rfl (by decide) (by decide) (by decide), r0 70 18 rfl (by decide) (by decide) (by decide), r0 80 _ rfl (by decide) (by decide) (by decide)]; exact o3
      · intro j hj
        rw [d2 51 4 (by decide) (by decide), c, c2, d_cn hi, ex, hb_or _ i j (by omega) (by omega), d 115 j rfl (by omega)]
        by_cases z : j = i
        · rw [if_pos z]
          exact ⟨fun _ => by decide, fun _ => Or.inl z⟩
        · rw [if_neg z]
          exact ⟨fun w => by rcases w with w | w; exact absurd w z; exact (o4 j hj).mp w, fun w => Or.inr ((o4 j hj).mpr w)⟩
    · exact absurd a a2
  · subst T
    rcases h2 with ⟨a2, -⟩ | ⟨a2, b2, T2⟩
    · exact absurd a2 a
    · subst T2
      exact ⟨⟨hq, ⟨o1, o2, o3, o4⟩⟩, by rw [b, b2]⟩
end OPR
end
section
/-! READ AND RESTORE OF BOTH, exactly as far as told, slots, place, flats go -/
section RDR
variable {m : dM} {Q : Int32 → dM → Prop}
def bT (m : dM) (c : Nat) (n : Int) : Nat → Int32 := fun i => if (i : Int) < n then (m.1 c i) &&& 255 else 0
def EC (K : Nat → Int) (V : Nat → Int64) (P : Nat → Nat) (m : dM) (r : Int32) (m' : dM) : Prop :=
  (∀ k : Nat, k = 71 ∨ k = 80 ∨ k = 115 → m'.1 k = m.1 k) ∧ (∀ j : Nat, j = 2 ∨ j = 17 ∨ j = 18 ∨ j = 63 → m'.1 70 j = m.1 70 j) ∧ (m'.1 0 1).toInt = 0 ∧ r.toInt = ((rdR K V).1.1 : Int) ∧ (m'.1 0 2).toInt = (if (rdR K V).1.1 = 0 then -1 else ((P (rdR K V).1.2 : Nat) : Int)) ∧ ((rdR K V).1.1 = 0 → (m'.1 2 0).toInt = ((rdR K V).2.1.length : Int) ∧ m'.1 51 4 = 0 ∧ m'.1 67 3 = 0) ∧ ((rdR K V).1.1 ≠ 0 → m'.1 2 0 = m.1 2 0 ∧ m'.1 51 4 = m.1 51 4 ∧ m'.1 67 3 = m.1 67 3)
def ER (K : Nat → Int) (V : Nat → Int64) (P : Nat → Nat) (m : dM) (r : Int32) (m' : dM) : Prop :=
  (m'.1 0 1 = m.1 0 1 ∧ m'.1 0 2 = m.1 0 2 ∧ m'.1 2 0 = m.1 2 0 ∧ m'.1 51 4 = m.1 51 4 ∧ m'.1 67 3 = m.1 67 3) ∧ (m'.1 70 2).toInt = 0 ∧ r.toInt = ((rdR K V).1.1 : Int) ∧ (m'.1 70 17).toInt = (if (rdR K V).1.1 = 0 then -1 else ((P (rdR K V).1.2 : Nat) : Int)) ∧ ((rdR K V).1.1 = 0 → (m'.1 80 (m'.1 70 18).toNatClampNeg).toInt = ((rdR K V).2.1.length : Int) ∧ m'.1 70 63 = 0 ∧ ∀ j : Nat, j < 3 → m'.1 115 j = 0) ∧ ((rdR K V).1.1 ≠ 0 → m'.1 80 (m'.1 70 18).toNatClampNeg = m.1 80 (m.1 70 18).toNatClampNeg ∧ m'.1 70 63 = m.1 70 63 ∧ m'.1 115 = m.1 115)
def E11r (m : dM) (r : Int32) (m' : dM) : Prop := EC (tK (bT m 1 (m.1 0 1).toInt) (m.1 0 1).toInt.toNat) (tV (bT m 1 (m.1 0 1).toInt) (m.1 0 1).toInt.toNat) (tP (bT m 1 (m.1 0 1).toInt) (m.1 0 1).toInt.toNat) m r m'
def E12r (m : dM) (r : Int32) (m' : dM) : Prop := ER (tK (bT m 71 (m.1 70 2).toInt) (m.1 70 2).toInt.toNat) (tV (bT m 71 (m.1 70 2).toInt) (m.1 70 2).toInt.toNat) (tP (bT m 71 (m.1 70 2).toInt) (m.1 70 2).toInt.toNat) m r m'
theorem z_X11_read (hO : Ok m) (hQ : ∀ (r : Int32) (m' : dM), Ok m' ∧ E11r m r m' → Q r m') : c_X11_read_0 70 m Q := by
  have b := hO.s (k := 0) (j := 1) rfl
  have hn : (m.1 0 1).toInt = ((m.1 0 1).toInt.toNat : Int) := by omega
  have hL : GL m := ⟨hO.w (k := 29) (j := 1) rfl, fun j => hO.w (k := 36) (j := j) rfl⟩
  have x := f_read (B := bT m 1 (m.1 0 1).toInt) (n := (m.1 0 1).toInt.toNat) (Q := fun r m' => RD (bT m 1 (m.1 0 1).toInt) (m.1 0 1).toInt.toNat r m m') hL hn (by omega) (fun i => by
    unfold bT
    by_cases q : (i : Int) < (m.1 0 1).toInt
    · rw [if_pos q, if_pos (by omega)]
    · rw [if_neg q, if_neg (by omega)]) (fun r m' h => h)
  have y := m_X11_read (Q := fun _ m' => Ok m') hO (fun r m' O a b => O)
  refine (y.and x).mono (fun v m1 h => ?_)
  obtain ⟨⟨r, er, O1⟩, m2, sm, r2, er2, D⟩ := h
  have e : r = r2 := by rw [er] at er2; cases er2; rfl
  obtain ⟨d1, d2, d3, d4, d5, d6⟩ := D
  have s01 : m1.1 0 1 = m2.1 0 1 := sm.fld (a := 11) rfl
  have s02 : m1.1 0 2 = m2.1 0 2 := sm.fld (a := 11) rfl
  have s20 : m1.1 2 0 = m2.1 2 0 := sm.fld (a := 3) rfl
  have s51 : m1.1 51 4 = m2.1 51 4 := sm.fld (a := 6) rfl
  have s67 : m1.1 67 3 = m2.1 67 3 := sm.fld (a := 9) rfl
  refine ⟨r, er, hQ r m1 ⟨O1, fun k hk => ?_, fun j hj => ?_, ?_, ?_, ?_, ?_, ?_⟩⟩
  · rcases hk with rfl | rfl | rfl
    · rw [sm.row (k := 71) rfl]; exact d1 71 (by decide)
    · rw [sm.row (k := 80) rfl]; exact d1 80 (by decide)
    · rw [sm.row (k := 115) rfl]; exact d1 115 (by decide)
  · have d70 := d1 70 (by decide)
    rcases hj with rfl | rfl | rfl | rfl
    · rw [sm.fld (k := 70) (a := 12) (j := 2) rfl, d70]
    · rw [sm.fld (k := 70) (a := 12) (j := 17) rfl, d70]
    · rw [sm.fld (k := 70) (a := 12) (j := 18) rfl, d70]
    · rw [sm.fld (k := 70) (a := 12) (j := 63) rfl, d70]
  · rw [s01, d2]; decide
  · rw [e]; exact d3
  · rw [s02]; exact d4
  · rw [s20, s51, s67]; exact d5
  · rw [s20, s51, s67]; exact d6
theorem z_X12_read (hO : Ok m) (hQ : ∀ (r : Int32) (m' : dM), Ok m' ∧ E12r m r m' → Q r m') : c_X12_read_70 9 m Q := by
  have b := hO.s (k := 70) (j := 2) rfl
  have b18 := hO.s (k := 70) (j := 18) rfl
  have hn : (m.1 70 2).toInt = ((m.1 70 2).toInt.toNat : Int) := by omega
  obtain ⟨L, s, hL, hL0⟩ : ∃ L s : Nat, L + s = 1 ∧ (m.1 70 18).toInt = (L : Int) := ⟨(m.1 70 18).toInt.toNat, 1 - (m.1 70 18).toInt.toNat, by omega, by omega⟩
  have x := e_read (B := bT m 71 (m.1 70 2).toInt) (n := (m.1 70 2).toInt.toNat) (Q := fun r m' => RE (tK (bT m 71 (m.1 70 2).toInt) (m.1 70 2).toInt.toNat) (tV (bT m 71 (m.1 70 2).toInt) (m.1 70 2).toInt.toNat) (tP (bT m 71 (m.1 70 2).toInt) (m.1 70 2).toInt.toNat) L s r m m') hL hL0 hn (by omega) (fun i => by
    unfold bT
    by_cases q : (i : Int) < (m.1 70 2).toInt
    · rw [if_pos q, if_pos (by omega)]
    · rw [if_neg q, if_neg (by omega)]) (fun r m' h => h)
  have y := m_X12_read (Q := fun _ m' => Ok m') hO (fun r m' O a b => O)
  refine (y.and x).mono (fun v m1 h => ?_)
  obtain ⟨⟨r, er, O1⟩, m2, sm, r2, er2, D⟩ := h
  have e : r = r2 := by rw [er] at er2; cases er2; rfl
  obtain ⟨d1, d2, d3, d4, d5, d6⟩ := D
  have s2 : m1.1 70 2 = m2.1 70 2 := sm.fld (a := 12) rfl
  have s17 : m1.1 70 17 = m2.1 70 17 := sm.fld (a := 12) rfl
  have s18 : m1.1 70 18 = m2.1 70 18 := sm.fld (a := 12) rfl
  have s63 : m1.1 70 63 = m2.1 70 63 := sm.fld (a := 12) rfl
  have s80 : m1.1 80 = m2.1 80 := sm.row (k := 80) rfl
  have s115 : m1.1 115 = m2.1 115 := sm.row (k := 115) rfl
  refine ⟨r, er, hQ r m1 ⟨O1, ⟨?_, ?_, ?_, ?_, ?_⟩, ?_, ?_, ?_, fun z => ?_, fun z => ?_⟩⟩
  · rw [sm.fld (k := 0) (a := 11) (j := 1) rfl, d1 0 (by decide)]
  · rw [sm.fld (k := 0) (a := 11) (j := 2) rfl, d1 0 (by decide)]
  · rw [sm.fld (k := 2) (a := 3) (j := 0) rfl, d1 2 (by decide)]
  · rw [sm.fld (k := 51) (a := 6) (j := 4) rfl, d1 51 (by decide)]
  · rw [sm.fld (k := 67) (a := 9) (j := 3) rfl, d1 67 (by decide)]
  · rw [s2, d2]; decide
  · rw [e]; exact d3
  · rw [s17]; exact d4
  · obtain ⟨a1, a2, a3, a4⟩ := d5 z
    rw [s18, s80, s63, s115, d_cn a1]
    exact ⟨a2, a3, a4⟩
  · obtain ⟨a1, a2, a3, a4⟩ := d6 z
    rw [s18, s80, s63, s115, a1, d_cn hL0]
    exact ⟨a2, a3, a4⟩
theorem j_read {m1 m2 : dM} {r1 r2 : Int32} (hT : Rq m) (h1 : E11r m r1 m1) (h2 : E12r m1 r2 m2) : Rq m2 ∧ r1 = r2 := by
  obtain ⟨⟨e, hb'⟩, ⟨o1, o2, o3, o4⟩⟩ := hT
  unfold E11r at h1
  unfold E12r at h2
  have a2 : m1.1 70 2 = m.1 70 2 := h1.2.1 2 (by decide)
  have eB : bT m1 71 (m1.1 70 2).toInt = bT m 1 (m.1 0 1).toInt := by
    funext i
    unfold bT
    rw [a2, h1.1 71 (by decide), ← e]
    by_cases q : (i : Int) < (m.1 0 1).toInt
    · rw [if_pos q, if_pos q]; exact (hb' i q).symm
    · rw [if_neg q, if_neg q]
  rw [eB, a2, ← e] at h2
  generalize tK (bT m 1 (m.1 0 1).toInt) (m.1 0 1).toInt.toNat = K at h1 h2
  generalize tV (bT m 1 (m.1 0 1).toInt) (m.1 0 1).toInt.toNat = V at h1 h2
  generalize tP (bT m 1 (m.1 0 1).toInt) (m.1 0 1).toInt.toNat = P at h1 h2
  obtain ⟨a1, a70, a3, a4, a5, a6, a7⟩ := h1
  obtain ⟨⟨c1, c2, c3, c4, c5⟩, c6, c7, c8, c9, c10⟩ := h2
  refine ⟨⟨⟨by rw [c1, a3, c6], fun i hi => by rw [c1, a3] at hi; exfalso; omega⟩, ?_, ?_, ?_, ?_⟩, Int32.toInt_inj.mp (by rw [a4, c7])⟩
  · rw [c2, a5, c8]
  · rw [c5]
    by_cases z : (rdR K V).1.1 = 0
    · rw [(a6 z).2.2, (c9 z).2.1]
    · rw [(a7 z).2.2, (c10 z).2.1, a70 63 (by decide)]; exact o2
  · rw [c3]
    by_cases z : (rdR K V).1.1 = 0
    · rw [(a6 z).1, (c9 z).1]
    · rw [(a7 z).1, (c10 z).1, a1 80 (by decide), a70 18 (by decide)]; exact o3
  · intro i hi
    rw [c4]
    by_cases z : (rdR K V).1.1 = 0
    · rw [(a6 z).2.1, (c9 z).2.2 i hi]
      have : i = 0 ∨ i = 1 ∨ i = 2 := by omega
      refine ⟨fun w => ?_, fun w => absurd rfl w⟩
      exfalso
      unfold hb at w
      rcases this with rfl | rfl | rfl <;> exact w (by decide)
    · rw [(a7 z).2.1, (c10 z).2.2, a1 115 (by decide)]; exact o4 i hi
/-- restore -/
def E11s (x1 : Int32) (m : dM) (r : Int32) (m' : dM) : Prop := Kp m m' ∧ (((0 ≤ x1.toInt ∧ x1.toInt ≤ 2 ∧ hb (m.1 51 4) x1.toNatClampNeg) ∧ r = 1) ∨ (¬ (0 ≤ x1.toInt ∧ x1.toInt ≤ 2 ∧ hb (m.1 51 4) x1.toNatClampNeg) ∧ r = 0))
def E12s (x1 : Int32) (m : dM) (r : Int32) (m' : dM) : Prop := Kp m m' ∧ (((0 ≤ x1.toInt ∧ x1.toInt ≤ 2 ∧ (m.1 115 x1.toNatClampNeg).toInt ≠ 0) ∧ r = 1) ∨ (¬ (0 ≤ x1.toInt ∧ x1.toInt ≤ 2 ∧ (m.1 115 x1.toNatClampNeg).toInt ≠ 0) ∧ r = 0))
theorem z_X11_restore {x1 : Int32} (hO : Ok m) (hQ : ∀ (r : Int32) (m' : dM), Ok m' ∧ E11s x1 m r m' → Q r m') : c_X11_restore_0 3 x1 m Q := by
  have e3 : (3 : Int32).toInt = 3 := by decide
  have no : ¬ (0 ≤ x1.toInt ∧ x1.toInt ≤ 2 ∧ hb (m.1 51 4) x1.toNatClampNeg) → j_X6_fetch_51_47_20 2 m (fun r1 m1 => (r1 = 0 ∨ r1 = 1) ∧ Q r1 m1) := fun q => v_X6_fetch_51_47_20 ⟨Or.inl rfl, hQ _ _ ⟨hO, Kp.rf m, Or.inr ⟨q, rfl⟩⟩⟩
  refine v_X11_restore_0 (v_X6_fetch_51_47 ⟨fun q => no (by omega), fun q => ⟨fun q2 => no (by omega), fun q2 => ?_⟩⟩)
  obtain ⟨i, hi⟩ : ∃ i : Nat, x1.toInt = (i : Int) := ⟨x1.toInt.toNat, by omega⟩
  have ex : x1 = Int32.ofNat i := by
    apply d_ce
    rw [hi]
    have : i = 0 ∨ i = 1 ∨ i = 2 := by omega
    rcases this with rfl | rfl | rfl <;> decide
  have f := dMulE (X := x1.toInt) (Y := 33) (x := x1) (y := (33 : Int32)) rfl (by decide) (by omega) (by omega)
  have cn : x1.toNatClampNeg = i := d_cn hi
  have hbi : hb (m.1 51 4) x1.toNatClampNeg ↔ (((m.1 51 4).toUInt32 >>> (x1.toUInt32 &&& Int32.toUInt32 31)).toInt32 &&& (1 : Int32)).toInt ≠ 0 := by
    rw [cn, ex]
    exact Iff.rfl
  refine v_X11_has ⟨fun z => ⟨fun w => absurd rfl w, fun _ => no (fun w => hbi.mp w.2.2 z)⟩, fun z => ⟨fun _ => ?_, fun w => absurd w (by decide)⟩⟩
  refine s_X7_readFrom_47_53 hO.1 hO.2 (by omega) (fun m2 I2 => s_X6_clear_51 hO.1 I2 (fun m3 I3 => ⟨Or.inr rfl, hQ _ _ ⟨Ok.of hO.1 I3, Kp.of I3, Or.inl ⟨⟨q, by omega, hbi.mpr z⟩, rfl⟩⟩⟩))
theorem z_X12_restore {x1 : Int32} (hO : Ok m) (hQ : ∀ (r : Int32) (m' : dM), Ok m' ∧ E12s x1 m r m' → Q r m') : c_X12_restore_70 2 x1 m Q := by
  have e0 : (0 : Int32).toInt = 0 := by decide
  have e2 : (2 : Int32).toInt = 2 := by decide
  have x : c_X12_restore_70 2 x1 m (fun r _ => ((0 ≤ x1.toInt ∧ x1.toInt ≤ 2 ∧ (m.1 115 x1.toNatClampNeg).toInt ≠ 0) ∧ r = 1) ∨ (¬ (0 ≤ x1.toInt ∧ x1.toInt ≤ 2 ∧ (m.1 115 x1.toNatClampNeg).toInt ≠ 0) ∧ r = 0)) := by
    have no : ¬ (0 ≤ x1.toInt ∧ x1.toInt ≤ 2 ∧ (m.1 115 x1.toNatClampNeg).toInt ≠ 0) → j_X12_restore_70_18 2 m (fun r _ => ((0 ≤ x1.toInt ∧ x1.toInt ≤ 2 ∧ (m.1 115 x1.toNatClampNeg).toInt ≠ 0) ∧ r = 1) ∨ (¬ (0 ≤ x1.toInt ∧ x1.toInt ≤ 2 ∧ (m.1 115 x1.toNatClampNeg).toInt ≠ 0) ∧ r = 0)) := fun q => v_X12_restore_70_18 (Or.inr ⟨q, rfl⟩)
    have loop : (0 ≤ x1.toInt ∧ x1.toInt ≤ 2 ∧ (m.1 115 x1.toNatClampNeg).toInt ≠ 0) → ∀ (f i : Nat) (x2 : Int32) (M : dM), i + f = 58 → x2.toInt = (i : Int) → j_X12_restore_70_22 2 x1 x2 M (fun r _ => ((0 ≤ x1.toInt ∧ x1.toInt ≤ 2 ∧ (m.1 115 x1.toNatClampNeg).toInt ≠ 0) ∧ r = 1) ∨ (¬ (0 ≤ x1.toInt ∧ x1.toInt ≤ 2 ∧ (m.1 115 x1.toNatClampNeg).toInt ≠ 0) ∧ r = 0)) := by
      intro hq f
      induction f with
      | zero => intro i x2 M hi h2; exact v_X12_restore_70_22 ⟨fun _ => Or.inl ⟨hq, rfl⟩, fun q => by exfalso; omega⟩
      | succ f ih =>
        intro i x2 M hi h2
        have fm := dMulE (X := 58) (Y := x1.toInt) (x := (58 : Int32)) (y := x1) (by decide) rfl (by omega) (by omega)
        have fa := dAddE (X := 58 * x1.toInt) (Y := (i : Int)) (x := (58 : Int32) * x1) (y := x2) fm h2 (by omega) (by omega)
        exact v_X12_restore_70_22 ⟨fun q => by exfalso; omega, fun _ => ⟨by omega, by omega, ih (i + 1) _ _ (by omega) (d_inc h2 (by omega))⟩⟩
    refine v_X12_restore_70 (v_X12_in ⟨fun q => v_X12_in_14 ⟨fun _ => no (by omega), fun w => absurd rfl w⟩, fun q => ⟨fun q2 => v_X12_in_14 ⟨fun _ => no (by omega), fun w => absurd rfl w⟩, fun q2 => ⟨fun w => absurd w (by decide), fun _ => ⟨by omega, fun z => loop ⟨by omega, by omega, z⟩ 58 0 _ m rfl (by decide), fun z => no (fun w => w.2.2 z)⟩⟩⟩⟩)
  have y := s_X12_restore_70 (x1 := x1) (Q := fun _ m' => Inv m.1 m') hO.1 hO.2 (fun r m' I _ => I)
  refine (y.and x).mono (fun v m1 h => ?_)
  obtain ⟨⟨r, er, I⟩, m2, sm, r2, er2, D⟩ := h
  have e : r = r2 := by rw [er] at er2; cases er2; rfl
  refine ⟨r, er, hQ r m1 ⟨Ok.of hO.1 I, Kp.of I, ?_⟩⟩
  rw [e]; exact D
theorem j_restore {x1 : Int32} {m1 m2 : dM} {r1 r2 : Int32} (hT : Rq m) (h1 : E11s x1 m r1 m1) (h2 : E12s x1 m1 r2 m2) : Rq m2 ∧ r1 = r2 := by
  refine ⟨(hT.kp h1.1).kp h2.1, ?_⟩
  obtain ⟨k1, h1⟩ := h1
  obtain ⟨k2, h2⟩ := h2
  have o4 := hT.2.2.2.2
  rw [k1 115 _ rfl] at h2
  by_cases q : 0 ≤ x1.toInt ∧ x1.toInt ≤ 2
  · have cl : x1.toNatClampNeg < 3 := by
      have := d_cl (x := x1) q.1
      omega
    have o := o4 _ cl
    rcases h1 with ⟨a, b⟩ | ⟨a, b⟩ <;> rcases h2 with ⟨a2, b2⟩ | ⟨a2, b2⟩
    · rw [b, b2]
    · exact absurd ⟨q.1, q.2, o.mp a.2.2⟩ a2
    · exact absurd ⟨q.1, q.2, o.mpr a2.2.2⟩ a
    · rw [b, b2]
  · rcases h1 with ⟨a, b⟩ | ⟨a, b⟩
    · exact absurd ⟨a.1, a.2.1⟩ q
    · rcases h2 with ⟨a2, b2⟩ | ⟨a2, b2⟩
      · exact absurd ⟨a2.1, a2.2.1⟩ q
      · rw [b, b2]
/-- place -/
def E11p (m : dM) (r : Int32) (m' : dM) : Prop := r = m.1 0 2 ∧ m' = m
def E12p (m : dM) (r : Int32) (m' : dM) : Prop := r = m.1 70 17 ∧ m' = m
theorem z_X11_place (hO : Ok m) (hQ : ∀ (r : Int32) (m' : dM), Ok m' ∧ E11p m r m' → Q r m') : c_X11_place_0 1 m Q := v_X11_place_0 (hQ _ _ ⟨hO, rfl, rfl⟩)
theorem z_X12_place (hO : Ok m) (hQ : ∀ (r : Int32) (m' : dM), Ok m' ∧ E12p m r m' → Q r m') : c_X12_place_70 1 m Q := v_X12_place_70 (hQ _ _ ⟨hO, rfl, rfl⟩)
theorem j_place {m1 m2 : dM} {r1 r2 : Int32} (hT : Rq m) (h1 : E11p m r1 m1) (h2 : E12p m1 r2 m2) : Rq m2 ∧ r1 = r2 := by
  obtain ⟨a, rfl⟩ := h1
  obtain ⟨b, rfl⟩ := h2
  exact ⟨hT, by rw [a, b]; exact Int32.toInt_inj.mp hT.2.1⟩
end RDR
end
section
/-! BOTH ALIKE BEHIND THE STARTS -/
theorem z_rq {ad : List Nat} {σ : Nat → Int} {tys : List (ClassId × FieldType)} {ws : va_W} (hs : σ 0 = 0) (h : eAll (eCk ad σ tys) hFresh ws) : Rq (zM ws) := by
  have a1 : ((zM ws).1 0 1).toInt = 0 := z_val hs h (by decide +kernel)
  have a2 : ((zM ws).1 70 2).toInt = 0 := z_val hs h (by decide +kernel)
  have b1 : ((zM ws).1 0 2).toInt = -1 := z_val hs h (by decide +kernel)
  have b2 : ((zM ws).1 70 17).toInt = -1 := z_val hs h (by decide +kernel)
  have c1 : ((zM ws).1 67 3).toInt = 0 := z_val hs h (by decide +kernel)
  have c2 : ((zM ws).1 70 63).toInt = 0 := z_val hs h (by decide +kernel)
  have d1 : ((zM ws).1 2 0).toInt = 0 := z_val hs h (by decide +kernel)
  have d2 : ((zM ws).1 70 18).toInt = ((0 : Nat) : Int) := z_val hs h (by decide +kernel)
  have d3 : ((zM ws).1 80 0).toInt = 0 := z_val hs h (by decide +kernel)
  have e1 : ((zM ws).1 51 4).toInt = 0 := z_val hs h (by decide +kernel)
  have e2 : (zM ws).1 51 4 = 0 := d_ce e1
  refine ⟨⟨by rw [a1, a2], fun i hi => by rw [a1] at hi; exfalso; omega⟩, by rw [b1, b2], by rw [c1, c2], by rw [d_cn d2, d1, d3], fun i hi => ?_⟩
  have f : ((zM ws).1 115 i).toInt = 0 := by
    have : i = 0 ∨ i = 1 ∨ i = 2 := by omega
    rcases this with rfl | rfl | rfl <;> exact z_val hs h (by decide +kernel)
  rw [f, e2]
  refine ⟨fun w => ?_, fun w => absurd rfl w⟩
  exfalso
  unfold hb at w
  have : i = 0 ∨ i = 1 ∨ i = 2 := by omega
  rcases this with rfl | rfl | rfl <;> exact w (by decide)
end
section
/-! BITS of ints, as the sets of both -/
def bt (x : Int32) (i : Nat) : Bool := x.toBitVec.getLsbD i
/-- one bit alone -/
def b1 (u : Nat) : Int32 := (1 : Int32) <<< (Int32.ofNat u &&& 31)
/-- the set of those below n -/
def bs (p : Nat → Bool) : Nat → Int32
  | 0 => 0
  | n + 1 => cond (p n) (bs p n ||| b1 n) (bs p n)
section BIT
variable {x y : Int32} {i u n : Nat}
theorem bt_or : bt (x ||| y) i = (bt x i || bt y i) := by unfold bt; rw [Int32.toBitVec_or, BitVec.getLsbD_or]
theorem bt_and : bt (x &&& y) i = (bt x i && bt y i) := by unfold bt; rw [Int32.toBitVec_and, BitVec.getLsbD_and]
theorem bt_xor : bt (x ^^^ y) i = (bt x i ^^ bt y i) := by unfold bt; rw [Int32.toBitVec_xor, BitVec.getLsbD_xor]
theorem bt_not (h : i < 32) : bt (~~~x) i = !bt x i := by unfold bt; rw [Int32.toBitVec_not, BitVec.getLsbD_not]; simp [h]
theorem bt_0 : bt 0 i = false := by
  unfold bt
  rw [show (0 : Int32).toBitVec = 0#32 from rfl, BitVec.getLsbD_zero]
theorem bt_big (h : 32 ≤ i) : bt x i = false := BitVec.getLsbD_of_ge _ _ h
theorem bt_ext (h : ∀ i : Nat, i < 32 → bt x i = bt y i) : x = y := Int32.toBitVec_inj.mp (BitVec.eq_of_getLsbD_eq (fun i hi => h i hi))
theorem bt_z (h : ∀ i : Nat, i < 32 → bt x i = false) : x = 0 := bt_ext (fun i hi => by rw [h i hi, bt_0])
theorem i32_nat {a : Int32} {k : Nat} (h : a.toInt = (k : Int)) : a = Int32.ofNat k := by
  apply Int32.toInt_inj.mp
  rw [h]
  have h1 := Int32.toInt_lt a
  rw [Int32.toInt_ofNat_of_lt (by omega)]
theorem b1_of {a : Int32} {k : Nat} (h : a.toInt = (k : Int)) : (1 : Int32) <<< (a &&& 31) = b1 k := by
  rw [i32_nat h]
  rfl
theorem b1_bv (h : u < 32) : (b1 u).toBitVec = (1#32 : BitVec 32) <<< u := by
  match u, h with
  | 0, _ | 1, _ | 2, _ | 3, _ | 4, _ | 5, _ | 6, _ | 7, _ | 8, _ | 9, _ | 10, _ | 11, _ | 12, _ | 13, _ | 14, _ | 15, _ | 16, _ | 17, _ | 18, _ | 19, _ | 20, _ | 21, _ | 22, _ | 23, _ | 24, _ | 25, _ | 26, _ | 27, _ | 28, _ | 29, _ | 30, _ | 31, _ => decide
  | u + 32, h => omega
theorem bt_1 (h : u < 32) : bt (b1 u) i = decide (i = u) := by
  unfold bt
  rw [b1_bv h]
  rw [← BitVec.twoPow_eq, BitVec.getLsbD_twoPow]
  by_cases e : i = u
  · subst e; simp [h]
  · have e' : ¬ u = i := fun q => e q.symm
    simp [e, e']
theorem bt_bs {p : Nat → Bool} : ∀ (n : Nat), n ≤ 32 → bt (bs p n) i = (decide (i < n) && p i)
  | 0, _ => by show bt 0 i = _; rw [bt_0]; simp
  | n + 1, h => by
    have ih := bt_bs (p := p) n (by omega)
    show bt (cond (p n) (bs p n ||| b1 n) (bs p n)) i = _
    by_cases e : i = n
    · subst e
      cases hp : p i with
      | true => rw [cond_true, bt_or, bt_1 (by omega)]; simp
      | false => rw [cond_false, ih]; simp
    · have e2 : decide (i < n + 1) = decide (i < n) := by
        by_cases q : i < n
        · simp [q, show i < n + 1 by omega]
        · simp [q, show ¬ i < n + 1 by omega]
      rw [e2]
      cases hp : p n with
      | true => rw [cond_true, bt_or, ih, bt_1 (by omega)]; simp [e]
      | false => rw [cond_false, ih]
theorem bs_congr {p q : Nat → Bool} : ∀ (n : Nat), (∀ i : Nat, i < n → p i = q i) → bs p n = bs q n
  | 0, _ => rfl
  | n + 1, h => by
    show cond (p n) (bs p n ||| b1 n) (bs p n) = cond (q n) (bs q n ||| b1 n) (bs q n)
    rw [bs_congr n (fun i hi => h i (by omega)), h n (by omega)]
/-- how the one asks for a bit -/
theorem bt_u {a : Int32} {k : Nat} (h : a.toInt = (k : Int)) (hk : k < 32) : ((x.toUInt32 >>> (a.toUInt32 &&& Int32.toUInt32 31)).toInt32 &&& (1 : Int32)).toInt = if bt x k then 1 else 0 := by
  have l : (x.toUInt32 >>> (a.toUInt32 &&& Int32.toUInt32 31)).toInt32.toBitVec = x.toBitVec >>> k := by
    rw [i32_nat h]
    match k, hk with
    | 0, _ | 1, _ | 2, _ | 3, _ | 4, _ | 5, _ | 6, _ | 7, _ | 8, _ | 9, _ | 10, _ | 11, _ | 12, _ | 13, _ | 14, _ | 15, _ | 16, _ | 17, _ | 18, _ | 19, _ | 20, _ | 21, _ | 22, _ | 23, _ | 24, _ | 25, _ | 26, _ | 27, _ | 28, _ | 29, _ | 30, _ | 31, _ => rfl
    | k + 32, h => omega
  have e : (x.toUInt32 >>> (a.toUInt32 &&& Int32.toUInt32 31)).toInt32 &&& (1 : Int32) = if bt x k then 1 else 0 := by
    apply bt_ext
    intro i hi
    rw [bt_and]
    have h1 : bt (1 : Int32) i = decide (i = 0) := by
      have := bt_1 (u := 0) (i := i) (by decide)
      rw [show b1 0 = (1 : Int32) by decide] at this
      exact this
    rw [h1]
    by_cases q : i = 0
    · subst q
      have : bt ((x.toUInt32 >>> (a.toUInt32 &&& Int32.toUInt32 31)).toInt32) 0 = bt x k := by
        unfold bt
        rw [l, BitVec.getLsbD_ushiftRight, Nat.add_zero]
      rw [this]
      cases bt x k with
      | true => rfl
      | false => rfl
    · rw [decide_eq_false q, Bool.and_false]
      cases bt x k with
      | true => rw [if_pos rfl, h1, decide_eq_false q]
      | false => rw [if_neg (by decide), bt_0]
  rw [e]
  cases bt x k with
  | true => rfl
  | false => rfl
theorem bt_s {a : Int32} {k : Nat} (h : a.toInt = (k : Int)) (hk : k < 32) : ((x >>> (a &&& 31)) &&& (1 : Int32)).toInt = if bt x k then 1 else 0 := by
  have l : (x >>> (a &&& 31)).toBitVec = x.toBitVec.sshiftRight k := by
    rw [i32_nat h]
    match k, hk with
    | 0, _ | 1, _ | 2, _ | 3, _ | 4, _ | 5, _ | 6, _ | 7, _ | 8, _ | 9, _ | 10, _ | 11, _ | 12, _ | 13, _ | 14, _ | 15, _ | 16, _ | 17, _ | 18, _ | 19, _ | 20, _ | 21, _ | 22, _ | 23, _ | 24, _ | 25, _ | 26, _ | 27, _ | 28, _ | 29, _ | 30, _ | 31, _ => rfl
    | k + 32, h => omega
  have e : (x >>> (a &&& 31)) &&& (1 : Int32) = if bt x k then 1 else 0 := by
    apply bt_ext
    intro i hi
    rw [bt_and]
    have h1 : bt (1 : Int32) i = decide (i = 0) := by
      have := bt_1 (u := 0) (i := i) (by decide)
      rw [show b1 0 = (1 : Int32) by decide] at this
      exact this
    rw [h1]
    by_cases q : i = 0
    · subst q
      have : bt (x >>> (a &&& 31)) 0 = bt x k := by
        unfold bt
        rw [l, BitVec.getLsbD_sshiftRight, Nat.add_zero, if_pos hk]
        simp
      rw [this]
      cases bt x k with
      | true => rfl
      | false => rfl
    · rw [decide_eq_false q, Bool.and_false]
      cases bt x k with
      | true => rw [if_pos rfl, h1, decide_eq_false q]
      | false => rw [if_neg (by decide), bt_0]
  rw [e]
  cases bt x k with
  | true => rfl
  | false => rfl
end BIT
end
