/-! THE REFERENCE's parser, exactly: its pieces -/
def vk (c : Int) : Prop := (0 ≤ c ∧ c ≤ 25) ∨ c = 40 ∨ c = 41 ∨ c = 42 ∨ c = 43 ∨ c = 45 ∨ c = 47 ∨ c = 59 ∨ c = 60 ∨ c = 61
def kr (x : Int) : Int := if 20 ≤ x then x - 20 else if x = 1 then 22 else if x = 2 then 23 else if x = 0 then 24 else if x = 3 then 25 else if x = 4 then 59 else if x = 5 then 61 else if x = 6 then 40 else if x = 7 then 41 else if x = 8 then 43 else if x = 9 then 45 else if x = 10 then 42 else if x = 13 then 60 else 47
theorem vk_cs {c : Int} (h : vk c) : (0 ≤ c ∧ c ≤ 21) ∨ c = 22 ∨ c = 23 ∨ c = 24 ∨ c = 25 ∨ c = 40 ∨ c = 41 ∨ c = 42 ∨ c = 43 ∨ c = 45 ∨ c = 47 ∨ c = 59 ∨ c = 60 ∨ c = 61 := by
  unfold vk at h
  rcases h with h | h | h | h | h | h | h | h | h | h <;> omega
theorem kr_rk {c : Int} (h : vk c) : kr (rk c) = c := by
  rcases vk_cs h with q | rfl | rfl | rfl | rfl | rfl | rfl | rfl | rfl | rfl | rfl | rfl | rfl | rfl
  · unfold rk
    rw [if_pos (by omega)]
    unfold kr
    rw [if_pos (by omega)]
    omega
  all_goals decide
theorem rk_inj {a b : Int} (ha : vk a) (hb : vk b) : rk a = rk b ↔ a = b := ⟨fun e => by rw [← kr_rk ha, e, kr_rk hb], fun e => by rw [e]⟩
theorem rk_rg {c : Int} (h : vk c) : ((20 ≤ rk c ∧ rk c ≤ 41) → (0 ≤ c ∧ c ≤ 21)) ∧ (0 ≤ c ∧ c ≤ 21 → rk c = 20 + c) ∧ (0 ≤ rk c ∧ rk c ≤ 41) := by
  rcases vk_cs h with q | rfl | rfl | rfl | rfl | rfl | rfl | rfl | rfl | rfl | rfl | rfl | rfl | rfl
  · have e : rk c = 20 + c := by unfold rk; rw [if_pos (by omega)]
    rw [e]
    exact ⟨fun _ => q, fun _ => rfl, by omega⟩
  all_goals decide
def plc (m : dM) : Int := (m.1 70 14).toInt
def Cx (m m' : dM) : Prop := (∀ k : Nat, k ≠ 70 → m'.1 k = m.1 k) ∧ (∀ j : Nat, j ≠ 11 → j ≠ 13 → j ≠ 14 → j ≠ 15 → j ≠ 16 → m'.1 70 j = m.1 70 j) ∧ m'.2 = m.2
theorem Cx.rf (m : dM) : Cx m m := ⟨fun _ _ => rfl, fun _ _ _ _ _ _ => rfl, rfl⟩
theorem Cx.tr {a b c : dM} (h : Cx a b) (h' : Cx b c) : Cx a c := ⟨fun k q => (h'.1 k q).trans (h.1 k q), fun j a1 a2 a3 a4 a5 => (h'.2.1 j a1 a2 a3 a4 a5).trans (h.2.1 j a1 a2 a3 a4 a5), h'.2.2.trans h.2.2⟩
def RM (K : Nat → Int) (V : Nat → Int64) (P : Nat → Nat) (m : dM) : Prop := ∀ i : Nat, i ≤ 400 → lvK K i → (m.1 73 i).toInt = rk (K i) ∧ (m.1 74 i).toInt = (P i : Int) ∧ (K i ≤ 22 → m.2.1 76 i = V i) ∧ (K i = 23 → m.1 75 i = (V i).toInt32)
def WR (P : Nat → Nat) (m : dM) (W : gR) : Prop := (m.1 70 15).toInt = (W.1 : Int) ∧ (W.1 ≠ 0 → (m.1 70 16).toInt = (P W.2 : Int))
/-- where the reader stands: no fault, and at which token; or its fault and where -/
def ST (K : Nat → Int) (P : Nat → Nat) (m : dM) (r W : gR) : Prop := (r.1 = 0 → flt m = 0 ∧ tt m = (r.2 : Int) ∧ r.2 ≤ 400 ∧ lvK K r.2 ∧ WR P m W) ∧ (r.1 ≠ 0 → flt m = (r.1 : Int) ∧ plc m = (P r.2 : Int)) ∧ (0 ≤ tt m ∧ tt m ≤ 400)
def wadd (W w : gR) : gR := if W.1 = 0 then w else W
section RPR
variable {K : Nat → Int} {V : Nat → Int64} {P : Nat → Nat} {m : dM} {r W : gR}
theorem RM.cx {m' : dM} (h : RM K V P m) (hc : Cx m m') : RM K V P m' := fun i a b => by rw [hc.1 73 (by decide), hc.1 74 (by decide), hc.1 75 (by decide), hc.2.2]; exact h i a b
theorem RM.of {m' : dM} (h : RM K V P m) (h1 : ∀ k : Nat, 73 ≤ k → k ≤ 75 → m'.1 k = m.1 k) (h2 : m'.2.1 76 = m.2.1 76) : RM K V P m' := fun i a b => by rw [h1 73 (by decide) (by decide), h1 74 (by decide) (by decide), h1 75 (by decide) (by decide), h2]; exact h i a b
theorem WR.of {m' : dM} (h : WR P m W) (h15 : m'.1 70 15 = m.1 70 15) (h16 : m'.1 70 16 = m.1 70 16) : WR P m' W := by unfold WR; rw [h15, h16]; exact h
theorem ST.of {m' : dM} (h : ST K P m r W) (h11 : m'.1 70 11 = m.1 70 11) (h13 : m'.1 70 13 = m.1 70 13) (h14 : m'.1 70 14 = m.1 70 14) (h15 : m'.1 70 15 = m.1 70 15) (h16 : m'.1 70 16 = m.1 70 16) : ST K P m' r W := by
  unfold ST WR flt tt plc
  rw [h11, h13, h14, h15, h16]
  exact h
/-- not by what it holds of the control fields -/
theorem ST.k {k j : Nat} {v : Int32} (h : ST K P m r W) (hk : k ≠ 70) : ST K P (dSet m k j v) r W := h.of (by rw [dSet_k (fun e => hk e.symm)]) (by rw [dSet_k (fun e => hk e.symm)]) (by rw [dSet_k (fun e => hk e.symm)]) (by rw [dSet_k (fun e => hk e.symm)]) (by rw [dSet_k (fun e => hk e.symm)])
theorem ST.j {j : Nat} {v : Int32} (h : ST K P m r W) (hj : j ≠ 11 ∧ j ≠ 13 ∧ j ≠ 14 ∧ j ≠ 15 ∧ j ≠ 16) : ST K P (dSet m 70 j v) r W := h.of (dSet_j (fun e => hj.1 e.symm)) (dSet_j (fun e => hj.2.1 e.symm)) (dSet_j (fun e => hj.2.2.1 e.symm)) (dSet_j (fun e => hj.2.2.2.1 e.symm)) (dSet_j (fun e => hj.2.2.2.2 e.symm))
theorem ST.W' {W' : gR} (h : ST K P m r W) (hr : r.1 ≠ 0) : ST K P m r W' := ⟨fun z => absurd z hr, h.2.1, h.2.2⟩
theorem ST.fl (h : ST K P m r W) : 0 ≤ flt m ∧ (flt m = 0 ↔ r.1 = 0) := by
  by_cases z : r.1 = 0
  · have := (h.1 z).1; exact ⟨by omega, by omega⟩
  · have := (h.2.1 z).1; exact ⟨by omega, by omega⟩
theorem q_fail {x1 : Int32} {c : Nat} {Q : dM → Prop} (hR : RM K V P m) (h : ST K P m r W) (hx : x1.toInt = c) (hc : c ≠ 0) (hQ : ∀ m' : dM, Cx m m' → tt m' = tt m → ST K P m' (if r.1 = 0 then (c, r.2) else r) W → Q m') : c_X12_fail_70 1 x1 m Q := by
  have hf := h.fl
  have ht := h.2.2
  have et : (m.1 70 11).toInt = tt m := rfl
  have ef : (m.1 70 13).toInt = flt m := rfl
  refine v_X12_fail_70 ⟨fun q => ⟨by omega, ?_⟩, fun q => ?_⟩
  · have z : r.1 = 0 := hf.2.mp (by omega)
    obtain ⟨a1, a2, a3, a4, a5⟩ := h.1 z
    refine hQ _ ⟨fun k hk => by rw [dSet_k hk, dSet_k hk], fun j b1 b2 b3 b4 b5 => by rw [dSet_j b3, dSet_j b2], rfl⟩ rfl ?_
    rw [if_pos z]
    refine ⟨fun q => absurd q hc, fun _ => ⟨hx, ?_⟩, ht⟩
    show (m.1 74 (m.1 70 11).toNatClampNeg).toInt = (P r.2 : Int)
    rw [d_cn (show (m.1 70 11).toInt = (r.2 : Int) from a2)]
    exact (hR r.2 a3 a4).2.1
  · have z : r.1 ≠ 0 := fun z => by have := hf.2.mpr z; omega
    refine hQ m (Cx.rf m) rfl ?_
    rw [if_neg z]
    exact h
theorem q_goesOn {Q : dM → Prop} (hR : RM K V P m) (h : ST K P m r W) (hk : r.1 = 0 → K r.2 ≠ 24 ∧ K r.2 ≠ 25) (hQ : ∀ m' : dM, Cx m m' → ST K P m' (rb r gst) W → Q m') : c_X12_goesOn_70 2 m Q := by
  have ht := h.2.2
  have et : (m.1 70 11).toInt = tt m := rfl
  refine v_X12_goesOn_70 ⟨fun q => v_X12_goesOn_70_28 (hQ _ ⟨fun k hk => dSet_k hk, fun j b1 b2 b3 b4 b5 => dSet_j b1, rfl⟩ ?_), fun q => q_fail hR h (c := 2) (by decide) (by decide) (fun m' hc ht' h' => v_X12_goesOn_70_28 (hQ m' hc ?_))⟩
  · have f := dAddE (X := tt m) (Y := 1) (x := m.1 70 11) (y := (1 : Int32)) rfl (by decide) (by omega) (by omega)
    have e1 : tt (dSet m 70 11 (m.1 70 11 + 1)) = tt m + 1 := f
    by_cases z : r.1 = 0
    · obtain ⟨a1, a2, a3, a4, a5⟩ := h.1 z
      rw [rb_k z]
      unfold gst
      rw [if_neg (by omega)]
      exact ⟨fun _ => ⟨a1, by show tt (dSet m 70 11 (m.1 70 11 + 1)) = ((r.2 + 1 : Nat) : Int); omega, by show r.2 + 1 ≤ 400; omega, a4.up (hk z), a5⟩, fun q => absurd rfl q, by omega⟩
    · rw [rb_f z]
      exact ⟨fun q => absurd q z, fun _ => h.2.1 z, by omega⟩
  · by_cases z : r.1 = 0
    · obtain ⟨a1, a2, a3, a4, a5⟩ := h.1 z
      rw [rb_k z]
      unfold gst
      rw [if_pos (by omega)]
      rw [if_pos z] at h'
      exact h'
    · rw [rb_f z]
      rw [if_neg z] at h'
      exact h'
theorem q_is {x1 : Int32} {k : Int} {Q : Int32 → dM → Prop} (hv : ∀ i, vk (K i)) (hR : RM K V P m) (h : ST K P m r W) (hx : x1.toInt = rk k) (hk : vk k) (h1 : r.1 = 0 → K r.2 = k → Q 1 m) (h0 : ¬ (r.1 = 0 ∧ K r.2 = k) → Q 0 m) : c_X12_is_70 1 x1 m Q := by
  have hf := h.fl
  refine p_is h.2.2 (fun a b => ?_) (fun a => h0 (fun ⟨z, b⟩ => ?_))
  · have z := hf.2.mp a
    obtain ⟨a1, a2, a3, a4, a5⟩ := h.1 z
    refine h1 z ((rk_inj (hv r.2) hk).mp ?_)
    rw [d_cn (show (m.1 70 11).toInt = (r.2 : Int) from a2), (hR r.2 a3 a4).1, hx] at b
    exact b
  · obtain ⟨a1, a2, a3, a4, a5⟩ := h.1 z
    refine a ⟨a1, ?_⟩
    rw [d_cn (show (m.1 70 11).toInt = (r.2 : Int) from a2), (hR r.2 a3 a4).1, hx, b]
theorem q_must {x1 : Int32} {k : Int} {Q : dM → Prop} (hv : ∀ i, vk (K i)) (hR : RM K V P m) (h : ST K P m r W) (hx : x1.toInt = rk k) (hk : vk k) (hk2 : k ≠ 24 ∧ k ≠ 25) (hQ : ∀ m' : dM, Cx m m' → ST K P m' (rb r (gnd K k)) W → Q m') : c_X12_must_70 3 x1 m Q := by
  refine v_X12_must_70 (Wp.deep (q_is hv hR h hx hk (fun z a => ⟨fun q => absurd q (by decide), fun _ => q_goesOn hR h (fun _ => by rw [a]; exact hk2) (fun m' hc h' => v_X12_must_70_20 (hQ m' hc ?_))⟩) (fun a => ⟨fun _ => Wp.deep (q_fail hR h (c := 1) (by decide) (by decide) (fun m' hc _ h' => v_X12_must_70_20 (hQ m' hc ?_))) (Nat.le_of_ble_eq_true rfl), fun q => absurd rfl q⟩)) (Nat.le_of_ble_eq_true rfl))
  · rw [rb_k z] at h' ⊢
    unfold gnd
    rw [if_pos a]
    exact h'
  · by_cases z : r.1 = 0
    · rw [rb_k z]
      rw [if_pos z] at h'
      unfold gnd
      rw [if_neg (fun q => a ⟨z, q⟩)]
      exact h'
    · rw [rb_f z]
      rw [if_neg z] at h'
      exact h'
theorem q_roomFor {x1 x2 : Int32} {c most n : Nat} {Q : dM → Prop} (hR : RM K V P m) (h : ST K P m (0, n) W) (hk : K n ≠ 24 ∧ K n ≠ 25) (h1 : x1.toInt = c) (h2 : x2.toInt = most) (hc : c ≤ most) (hQ : ∀ m' : dM, Cx m m' → ST K P m' (if most ≤ c then (2, n) else gst n) W → Q m') : c_X12_roomFor_70 3 x1 x2 m Q := by
  have l10 : ∀ (m' : dM) (g : gR), Cx m m' → ST K P m' g W → (g.1 = 0 → g = (0, n) ∧ ¬ most ≤ c) → (g.1 ≠ 0 → g = (2, n) ∧ most ≤ c) → j_X12_roomFor_70_10 3 m' Q := fun m' g hc' h' g0 g1 => by
    have hf := h'.fl
    refine v_X12_roomFor_70_10 ⟨fun q => v_X12_roomFor_70_21 (hQ m' hc' ?_), fun q => ?_⟩
    · have z : g.1 ≠ 0 := fun z => q (hf.2.mpr z)
      rw [if_pos (g1 z).2, ← (g1 z).1]
      exact h'
    · have z : g.1 = 0 := hf.2.mp q
      obtain ⟨e, e2⟩ := g0 z
      rw [e] at h'
      refine q_goesOn (hR.cx hc') h' (fun _ => hk) (fun m2 hc2 h2' => v_X12_roomFor_70_21 (hQ m2 (hc'.tr hc2) ?_))
      rw [if_neg e2]
      exact h2'
  refine v_X12_roomFor_70 ⟨fun q => l10 m (0, n) (Cx.rf m) h (fun _ => ⟨rfl, by omega⟩) (fun z => absurd rfl z), fun q => Wp.deep (q_fail hR h (c := 2) (by decide) (by decide) (fun m' hc' _ h' => l10 m' (2, n) hc' h' (fun z => absurd z (Nat.succ_ne_zero 1)) (fun _ => ⟨rfl, by omega⟩))) (Nat.le_of_ble_eq_true rfl)⟩
theorem q_wrong {x1 x2 : Int32} {c tok : Nat} {Q : dM → Prop} (hP : ∀ i j : Nat, i < j → lvK K j → P i < P j) (hR : RM K V P m) (h : ST K P m r W) (h1 : x1.toInt = c) (hc : c ≠ 0) (h2 : x2.toInt = tok) (ht : tok ≤ 400) (hl : r.1 = 0 → lvK K tok) (hW : r.1 = 0 → W.1 ≠ 0 → W.2 < tok ∨ (W.2 = tok ∧ W.1 ≤ c)) (hQ : ∀ m' : dM, Cx m m' → tt m' = tt m → ST K P m' r (wadd W (c, tok)) → Q m') : c_X12_wrong_70 1 x1 x2 m Q := by
  have hf := h.fl
  have ef : (m.1 70 13).toInt = flt m := rfl
  refine v_X12_wrong_70 ⟨by omega, fun q => v_X12_wrong_70_45 (hQ m (Cx.rf m) rfl (h.W' (fun z => by have := hf.2.mpr z; omega))), fun q => ?_⟩
  have z : r.1 = 0 := hf.2.mp (by omega)
  obtain ⟨a1, a2, a3, a4, a5⟩ := h.1 z
  have e74 : (m.1 74 x2.toNatClampNeg).toInt = (P tok : Int) := by rw [d_cn h2]; exact (hR tok ht (hl z)).2.1
  have set : W.1 = 0 → j_X12_wrong_70_46 1 x1 (m.1 74 x2.toNatClampNeg) m Q := fun w0 => v_X12_wrong_70_46 (hQ _ ⟨fun k hk => by rw [dSet_k hk, dSet_k hk], fun j b1 b2 b3 b4 b5 => by rw [dSet_j b5, dSet_j b4], rfl⟩ rfl (by
    unfold wadd
    rw [if_pos w0]
    exact ⟨fun _ => ⟨a1, a2, a3, a4, h1, fun _ => e74⟩, fun q => absurd z q, h.2.2⟩))
  have stay : W.1 ≠ 0 → j_X12_wrong_70_45 1 m Q := fun w0 => v_X12_wrong_70_45 (hQ m (Cx.rf m) rfl (by
    unfold wadd
    rw [if_neg w0]
    exact h))
  have e15 := a5.1
  refine ⟨fun w => set (by omega), fun w => ?_⟩
  have w0 : W.1 ≠ 0 := by omega
  have e16 := a5.2 w0
  rcases hW z w0 with lt | ⟨eq, le⟩
  · have := hP W.2 tok lt (hl z)
    exact ⟨fun _ => stay w0, fun q => by exfalso; omega⟩
  · rw [eq] at e16
    exact ⟨fun q => by exfalso; omega, fun _ => ⟨fun q => by exfalso; omega, fun _ => ⟨fun q => by exfalso; omega, fun _ => stay w0⟩⟩⟩
end RPR
