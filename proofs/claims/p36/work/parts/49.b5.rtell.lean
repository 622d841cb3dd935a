section
/-! THE REFERENCE's house, exactly: what each tell has stored, at the side s -/
def HM (V : Nat → Int64) (s : Nat) (st : mSt) (m : dM) : Prop :=
  (∀ i : Nat, i < st.1.length → m.1 81 (7 * s + i) = (V (st.1.getD i 0 + 2)).toInt32) ∧
  (∀ w : Nat, w < st.2.1.length → m.1 85 (10 * s + w) = (V ((st.2.1.getD w (0, 0, 0)).1 + 3)).toInt32) ∧
  (∀ u : Nat, u < st.2.2.1.length → (m.1 87 (8 * s + u)).toInt = ((st.2.2.1.getD u (0, 0)).2 : Int) ∧ m.1 88 (8 * s + u) = (V ((st.2.2.1.getD u (0, 0)).1 + 3)).toInt32 ∧ m.1 89 (8 * s + u) = (V ((st.2.2.1.getD u (0, 0)).1 + 4)).toInt32 ∧ m.1 90 (8 * s + u) = (V ((st.2.2.1.getD u (0, 0)).1 + 5)).toInt32) ∧
  m.1 91 s = oV V st.2.2.2.1 1 0 ∧ m.1 92 s = oV V st.2.2.2.1 2 0 ∧ m.1 93 s = oV V st.2.2.2.2.1 1 100 ∧ m.1 94 s = oV V st.2.2.2.2.2 1 0
section RHO
variable {V : Nat → Int64} {s : Nat} {st : mSt} {m m' : dM}
theorem HM.of (h : HM V s st m) (hk : ∀ k : Nat, k = 81 ∨ k = 85 ∨ (87 ≤ k ∧ k ≤ 94) → m'.1 k = m.1 k) : HM V s st m' := by
  unfold HM
  rw [hk 81 (by omega), hk 85 (by omega), hk 87 (by omega), hk 88 (by omega), hk 89 (by omega), hk 90 (by omega), hk 91 (by omega), hk 92 (by omega), hk 93 (by omega), hk 94 (by omega)]
  exact h
theorem HM.flat {n : Nat} (h : HM V s st m) (h81 : ∀ j : Nat, m'.1 81 j = if j = 7 * s + st.1.length then (V (n + 2)).toInt32 else m.1 81 j) (hk : ∀ k : Nat, k = 85 ∨ (87 ≤ k ∧ k ≤ 94) → m'.1 k = m.1 k) : HM V s (st.1 ++ [n], st.2) m' := by
  obtain ⟨a1, a2, a3, a4⟩ := h
  unfold HM
  rw [hk 85 (by omega), hk 87 (by omega), hk 88 (by omega), hk 89 (by omega), hk 90 (by omega), hk 91 (by omega), hk 92 (by omega), hk 93 (by omega), hk 94 (by omega)]
  refine ⟨fun i hi => ?_, a2, a3, a4⟩
  have hi : i < (st.1 ++ [n]).length := hi
  show m'.1 81 (7 * s + i) = (V ((st.1 ++ [n]).getD i 0 + 2)).toInt32
  rw [List.length_append] at hi
  have hi : i < st.1.length + 1 := hi
  rw [h81]
  by_cases q : i = st.1.length
  · rw [if_pos (by omega), q, getD_last]
  · rw [if_neg (by omega), getD_app (by omega)]; exact a1 i (by omega)
theorem HM.wire {n a b : Nat} (h : HM V s st m) (h85 : ∀ j : Nat, m'.1 85 j = if j = 10 * s + st.2.1.length then (V (n + 3)).toInt32 else m.1 85 j) (hk : ∀ k : Nat, k = 81 ∨ (87 ≤ k ∧ k ≤ 94) → m'.1 k = m.1 k) : HM V s (st.1, st.2.1 ++ [(n, a, b)], st.2.2) m' := by
  obtain ⟨a1, a2, a3, a4⟩ := h
  unfold HM
  rw [hk 81 (by omega), hk 87 (by omega), hk 88 (by omega), hk 89 (by omega), hk 90 (by omega), hk 91 (by omega), hk 92 (by omega), hk 93 (by omega), hk 94 (by omega)]
  refine ⟨a1, fun w hw => ?_, a3, a4⟩
  have hw : w < (st.2.1 ++ [(n, a, b)]).length := hw
  show m'.1 85 (10 * s + w) = (V (((st.2.1 ++ [(n, a, b)]).getD w (0, 0, 0)).1 + 3)).toInt32
  rw [List.length_append] at hw
  have hw : w < st.2.1.length + 1 := hw
  rw [h85]
  by_cases q : w = st.2.1.length
  · rw [if_pos (by omega), q, getD_last]
  · rw [if_neg (by omega), getD_app (by omega)]; exact a2 w (by omega)
theorem HM.use {n a : Nat} {v : Int32} (h : HM V s st m) (hv : v.toInt = (a : Int)) (h87 : ∀ j : Nat, m'.1 87 j = if j = 8 * s + st.2.2.1.length then v else m.1 87 j) (h88 : ∀ j : Nat, m'.1 88 j = if j = 8 * s + st.2.2.1.length then (V (n + 3)).toInt32 else m.1 88 j) (h89 : ∀ j : Nat, m'.1 89 j = if j = 8 * s + st.2.2.1.length then (V (n + 4)).toInt32 else m.1 89 j) (h90 : ∀ j : Nat, m'.1 90 j = if j = 8 * s + st.2.2.1.length then (V (n + 5)).toInt32 else m.1 90 j) (hk : ∀ k : Nat, k = 81 ∨ k = 85 ∨ (91 ≤ k ∧ k ≤ 94) → m'.1 k = m.1 k) : HM V s (st.1, st.2.1, st.2.2.1 ++ [(n, a)], st.2.2.2) m' := by
  obtain ⟨a1, a2, a3, a4⟩ := h
  unfold HM
  rw [hk 81 (by omega), hk 85 (by omega), hk 91 (by omega), hk 92 (by omega), hk 93 (by omega), hk 94 (by omega)]
  refine ⟨a1, a2, fun u hu => ?_, a4⟩
  have hu : u < (st.2.2.1 ++ [(n, a)]).length := hu
  show (m'.1 87 (8 * s + u)).toInt = (((st.2.2.1 ++ [(n, a)]).getD u (0, 0)).2 : Int) ∧ m'.1 88 (8 * s + u) = (V (((st.2.2.1 ++ [(n, a)]).getD u (0, 0)).1 + 3)).toInt32 ∧ m'.1 89 (8 * s + u) = (V (((st.2.2.1 ++ [(n, a)]).getD u (0, 0)).1 + 4)).toInt32 ∧ m'.1 90 (8 * s + u) = (V (((st.2.2.1 ++ [(n, a)]).getD u (0, 0)).1 + 5)).toInt32
  rw [List.length_append] at hu
  have hu : u < st.2.2.1.length + 1 := hu
  rw [h87, h88, h89, h90]
  by_cases q : u = st.2.2.1.length
  · rw [if_pos (by omega), if_pos (by omega), if_pos (by omega), if_pos (by omega), q, getD_last]
    exact ⟨hv, rfl, rfl, rfl⟩
  · rw [if_neg (by omega), if_neg (by omega), if_neg (by omega), if_neg (by omega), getD_app (by omega)]
    exact a3 u (by omega)
theorem HM.sur {n : Nat} (h : HM V s st m) (h91 : m'.1 91 s = (V (n + 1)).toInt32) (h92 : m'.1 92 s = (V (n + 2)).toInt32) (hk : ∀ k : Nat, k = 81 ∨ k = 85 ∨ (87 ≤ k ∧ k ≤ 90) ∨ k = 93 ∨ k = 94 → m'.1 k = m.1 k) : HM V s (st.1, st.2.1, st.2.2.1, (some n, st.2.2.2.2)) m' := by
  obtain ⟨a1, a2, a3, a4, a5, a6, a7⟩ := h
  unfold HM
  rw [hk 81 (by omega), hk 85 (by omega), hk 87 (by omega), hk 88 (by omega), hk 89 (by omega), hk 90 (by omega), hk 93 (by omega), hk 94 (by omega)]
  exact ⟨a1, a2, a3, h91, h92, a6, a7⟩
theorem HM.coi {n : Nat} (h : HM V s st m) (h93 : m'.1 93 s = (V (n + 1)).toInt32) (hk : ∀ k : Nat, k = 81 ∨ k = 85 ∨ (87 ≤ k ∧ k ≤ 92) ∨ k = 94 → m'.1 k = m.1 k) : HM V s (st.1, st.2.1, st.2.2.1, (st.2.2.2.1, some n, st.2.2.2.2.2)) m' := by
  obtain ⟨a1, a2, a3, a4, a5, a6, a7⟩ := h
  unfold HM
  rw [hk 81 (by omega), hk 85 (by omega), hk 87 (by omega), hk 88 (by omega), hk 89 (by omega), hk 90 (by omega), hk 91 (by omega), hk 92 (by omega), hk 94 (by omega)]
  exact ⟨a1, a2, a3, a4, a5, h93, a7⟩
theorem HM.see {n : Nat} (h : HM V s st m) (h94 : m'.1 94 s = (V (n + 1)).toInt32) (hk : ∀ k : Nat, k = 81 ∨ k = 85 ∨ (87 ≤ k ∧ k ≤ 93) → m'.1 k = m.1 k) : HM V s (st.1, st.2.1, st.2.2.1, (st.2.2.2.1, st.2.2.2.2.1, some n)) m' := by
  obtain ⟨a1, a2, a3, a4, a5, a6, a7⟩ := h
  unfold HM
  rw [hk 81 (by omega), hk 85 (by omega), hk 87 (by omega), hk 88 (by omega), hk 89 (by omega), hk 90 (by omega), hk 91 (by omega), hk 92 (by omega), hk 93 (by omega)]
  exact ⟨a1, a2, a3, a4, a5, a6, h94⟩
end RHO
def NH (V : Nat → Int64) (s : Nat) (st : mSt) (m : dM) : Prop := NM V s st m ∧ HM V s st m
theorem NH.cx {V : Nat → Int64} {s : Nat} {st : mSt} {m m' : dM} (h : NH V s st m) (hc : Cx m m') : NH V s st m' := ⟨h.1.cx hc, h.2.of (fun k e => hc.1 k (by omega))⟩
/-! THE REFERENCE's tells, with its house, its laws, and the live side kept -/
/-- places of the side L -/
def lvS (L k j : Nat) : Prop := ((k = 80 ∨ k = 82 ∨ k = 86 ∨ (91 ≤ k ∧ k ≤ 94)) ∧ j = L) ∨ (k = 81 ∧ 7 * L ≤ j ∧ j < 7 * L + 7) ∨ ((83 ≤ k ∧ k ≤ 85) ∧ 10 * L ≤ j ∧ j < 10 * L + 10) ∨ ((87 ≤ k ∧ k ≤ 90) ∧ 8 * L ≤ j ∧ j < 8 * L + 8) ∨ ((k = 95 ∨ k = 96) ∧ 4 * L ≤ j ∧ j < 4 * L + 4) ∨ ((97 ≤ k ∧ k ≤ 101) ∧ 130 * L ≤ j ∧ j < 130 * L + 130) ∨ ((k = 102 ∨ k = 103) ∧ 420 * L ≤ j ∧ j < 420 * L + 420)
theorem lvS_k {L k j : Nat} (h : lvS L k j) : 80 ≤ k ∧ k ≤ 103 := by unfold lvS at h; omega
def FXv (m0 : dM) (L : Nat) (m : dM) : Prop := FX m0 L m ∧ ∀ k j : Nat, lvS L k j → m.1 k j = m0.1 k j
def LDs (m : dM) (s : Nat) (Ds : Nat → lD) : Prop := ∀ k : Nat, k < 4 → LRb m s k (Ds k)
theorem LDs.of {m m' : dM} {s : Nat} {Ds : Nat → lD} (h : LDs m s Ds) (e : ∀ c : Nat, 95 ≤ c → c ≤ 103 → m'.1 c = m.1 c) (e40 : m'.1 70 40 = m.1 70 40) (e46 : m'.1 70 46 = m.1 70 46) : LDs m' s Ds := fun k hk => (h k hk).of e e40 e46
theorem LDs.cx {m m' : dM} {s : Nat} {Ds : Nat → lD} (h : LDs m s Ds) (hc : Cx m m') : LDs m' s Ds := h.of (fun c h1 h2 => hc.1 c (by omega)) (hc.2.1 40 (by decide) (by decide) (by decide) (by decide) (by decide)) (hc.2.1 46 (by decide) (by decide) (by decide) (by decide) (by decide))
def TIv (K : Nat → Int) (V : Nat → Int64) (P : Nat → Nat) (m0 : dM) (L s cf cw cu n : Nat) (W : gR) (st : mSt) (Ds : Nat → lD) (m : dM) : Prop := ST K P m (0, n) W ∧ RM K V P m ∧ FXv m0 L m ∧ CT s cf cw cu m ∧ LQ s m ∧ (W.1 ≠ 0 → W.2 < n) ∧ (W.1 = 0 → NH V s st m ∧ st.1.length = cf ∧ st.2.1.length = cw ∧ st.2.2.1.length = cu) ∧ LDs m s Ds
section RFV
variable {K : Nat → Int} {V : Nat → Int64} {P : Nat → Nat} {m0 m m' : dM} {L s cf cw cu n : Nat} {W : gR} {st : mSt} {Ds : Nat → lD}
theorem FXv.cx (h : FXv m0 L m) (hc : Cx m m') : FXv m0 L m' := ⟨h.1.cx hc, fun k j q => by have := lvS_k q; rw [hc.1 k (by omega)]; exact h.2 k j q⟩
theorem FXv.set {k j : Nat} {v : Int32} (h : FXv m0 L m) (hk : 72 ≤ k) (hk2 : k ≤ 104) (hj : ¬ lvS L k j) : FXv m0 L (dSet m k j v) := ⟨h.1.set hk hk2 (fun e e2 => hj (by unfold lvS; omega)), fun a b q => by
  rw [dSet_e, if_neg (fun w => hj (by rw [← w.1, ← w.2]; exact q))]
  exact h.2 a b q⟩
theorem FXv.en {N : Nat} {y : Int64} {v : Int32} (h : FXv m0 L m) (he : EN N y v m m') : FXv m0 L m' := ⟨h.1.en he, fun k j q => by have := lvS_k q; rw [he.1 k (by omega) (by omega)]; exact h.2 k j q⟩
theorem FXv.sd (h : FXv m0 L m) (hsd : (m0.1 70 19).toInt = (s : Int)) : (m.1 70 19).toInt = (s : Int) ∧ (m.1 70 19).toNatClampNeg = s := h.1.sd hsd
theorem x_flat {Q : dM → Prop} (hL : L + s = 1) (hsd : (m0.1 70 19).toInt = (s : Int)) (hv : ∀ i, vk (K i)) (hP : ∀ i j : Nat, i < j → lvK K j → P i < P j) (hT : TIv K V P m0 L s cf cw cu n W st Ds m) (hk : K n = 0)
    (hB : (gTell K cf cw cu n).1 ≠ 0 → ∀ (m' : dM) (W' : gR), ST K P m' (gTell K cf cw cu n) W' → FXv m0 L m' → Q m')
    (hG : (gTell K cf cw cu n).1 = 0 → ∀ (m' : dM) (W' : gR) (st' : mSt), TIv K V P m0 L s (cf + ct (K n) 0) (cw + ct (K n) 1) (cu + ct (K n) 2) (gTell K cf cw cu n).2 W' st' Ds m' → WN K V n W st W' st' → Q m') (fin : ∀ m', Q m' → j_X12_tellOne_70_371 8 m' Q) :
    c_X12_roomFor_70 7 (m.1 80 (m.1 70 19).toNatClampNeg) (7 : Int32) m (fun m1 => (((m1.1 70 13).toInt ≤ 0 → c_X12_named_70 7 m1 (fun r2 m2 => ((0 ≤ (m2.1 70 19).toInt ∧ (m2.1 70 19).toInt < 2) ∧ c_X12_bounded_70 7 (0 : Int32) (9 : Int32) m2 (fun r3 m3 => ((0 ≤ (((7 : Int32) * (m2.1 70 19)) + (m2.1 80 (m2.1 70 19).toNatClampNeg)).toInt ∧ (((7 : Int32) * (m2.1 70 19)) + (m2.1 80 (m2.1 70 19).toNatClampNeg)).toInt < 14) ∧ ((0 ≤ (m3.1 70 19).toInt ∧ (m3.1 70 19).toInt < 2) ∧ c_X12_endsName_70 7 r2 (m3.1 80 (m3.1 70 19).toNatClampNeg) (dSet m3 81 (((7 : Int32) * (m2.1 70 19)) + (m2.1 80 (m2.1 70 19).toNatClampNeg)).toNatClampNeg r3) (fun m4 => (((m4.1 70 13).toInt ≠ 0 → j_X12_tellOne_70_371 (7 + 1) m4 Q) ∧ ((m4.1 70 13).toInt = 0 → ((0 ≤ (m4.1 70 19).toInt ∧ (m4.1 70 19).toInt < 2) ∧ ((0 ≤ (m4.1 70 19).toInt ∧ (m4.1 70 19).toInt < 2) ∧ j_X12_tellOne_70_371 (7 + 1) (dSet m4 80 (m4.1 70 19).toNatClampNeg ((m4.1 80 (m4.1 70 19).toNatClampNeg) + (1 : Int32))) Q)))))))))) ) ∧ (0 < (m1.1 70 13).toInt → Q m1))) := by
  have hs : s ≤ 1 := by omega
  obtain ⟨hS, hR, hF, hC, hQ, hW, hN, hD⟩ := hT
  have hC5 := hC.2.2.2.2
  have sd := hF.sd hsd
  have gT : gTell K cf cw cu n = if 7 ≤ cf then (2, n) else rb (gst n) (gsq K [22, 23, 59]) := by unfold gTell; rw [if_pos hk]
  have mT : mTell K V n st = mFlat V n st := by unfold mTell; rw [if_pos hk]
  rw [sd.2]
  refine Wp.deep (q_roomFor (most := 7) hR hS (by omega) hC.1 (by decide) hC.2.2.2.2.1 (fun m1 c1 h1 => ?_)) (Nat.le_of_ble_eq_true rfl)
  have f1 := h1.fl
  have e13 : (m1.1 70 13).toInt = flt m1 := rfl
  refine ⟨fun q => ?_, fun q => ?_⟩
  rotate_left
  · have z : (if 7 ≤ cf then ((2, n) : gR) else gst n).1 ≠ 0 := fun z => by have := f1.2.mpr z; omega
    have eT : gTell K cf cw cu n = if 7 ≤ cf then (2, n) else gst n := by
      rw [gT]
      by_cases q7 : 7 ≤ cf
      · rw [if_pos q7, if_pos q7]
      · rw [if_neg q7] at z
        rw [if_neg q7, if_neg q7, rb_f z]
    refine hB (by rw [eT]; exact z) m1 W (by rw [eT]; exact h1) (hF.cx c1)
  have z1 : (if 7 ≤ cf then ((2, n) : gR) else gst n).1 = 0 := f1.2.mp (by omega)
  have c7 : ¬ 7 ≤ cf := fun q7 => by rw [if_pos q7] at z1; exact absurd z1 (Nat.succ_ne_zero 1)
  rw [if_neg c7] at z1 h1 gT
  have g1 := gst_z z1
  rw [g1.1] at h1 gT
  have gT4 : gTell K cf cw cu n = rb (rb (gnd K 22 (n + 1)) (gnd K 23)) (gnd K 59) := by rw [gT, gsq_r, gsq_r, gsq_r, rb_id, rb_0]
  have C1 := hC.cx c1
  have F1 := hF.cx c1
  refine Wp.deep (q_named hv hP (hR.cx c1) h1 C1.2.2.2.1 (by omega) (fun w => by have := hW w; omega) (fun m2 W2 c2 h2 hw2 => ?_)) (Nat.le_of_ble_eq_true rfl)
  have c12 := c1.tr c2
  have F2 := hF.cx c12
  have C2 := hC.cx c12
  have sd2 := F2.sd hsd
  refine ⟨by omega, ?_⟩
  have hW2 : (gnd K 22 (n + 1)).1 = 0 → W2.1 ≠ 0 → W2.2 < (gnd K 22 (n + 1)).2 := fun z w => by
    have e := (gnd_0 z).1
    rw [e]
    show W2.2 < n + 1 + 1
    rcases hw2 z with ⟨-, e2⟩ | ⟨-, e2⟩
    · rw [e2] at w ⊢
      by_cases q0 : W.1 = 0
      · rw [wadd_z q0]; show n + 1 < n + 1 + 1; omega
      · rw [wadd_n q0]; have := hW q0; omega
    · rw [e2] at w ⊢; have := hW w; omega
  refine Wp.deep (q_bounded hv hP (hR.cx c12) h2 hW2 (fun v3 m3 W3 c3 h3 hw3 => ?_)) (Nat.le_of_ble_eq_true rfl)
  have c13 := c12.tr c3
  have F3 := hF.cx c13
  have C3 := hC.cx c13
  have sd3 := F3.sd hsd
  rw [sd2.2, sd3.2]
  have fm := dMulE (X := 7) (Y := (s : Int)) (x := (7 : Int32)) (y := m2.1 70 19) (by decide) sd2.1 (by omega) (by omega)
  have fa := dAddE (X := 7 * (s : Int)) (Y := (cf : Int)) (x := (7 : Int32) * m2.1 70 19) (y := m2.1 80 s) fm C2.1 (by omega) (by omega)
  refine ⟨by omega, ⟨by omega, ?_⟩⟩
  have e11 : (m1.1 70 11).toInt = ((n + 1 : Nat) : Int) := (h1.1 rfl).2.1
  have F3' : FXv m0 L (dSet m3 81 (((7 : Int32) * (m2.1 70 19)) + (m2.1 80 s)).toNatClampNeg v3) := F3.set (by decide) (by decide) (by rw [d_cn (i := 7 * s + cf) (by rw [fa]; omega)]; unfold lvS; omega)
  have S3' : ST K P (dSet m3 81 (((7 : Int32) * (m2.1 70 19)) + (m2.1 80 s)).toNatClampNeg v3) (rb (gnd K 22 (n + 1)) (gnd K 23)) W3 := h3.k (by decide)
  have R3' : RM K V P (dSet m3 81 (((7 : Int32) * (m2.1 70 19)) + (m2.1 80 s)).toNatClampNeg v3) := (hR.cx c13).of (fun k a b => dSet_k (by omega)) rfl
  have k3' : ∀ k : Nat, k ≠ 81 → (dSet m3 81 (((7 : Int32) * (m2.1 70 19)) + (m2.1 80 s)).toNatClampNeg v3).1 k = m3.1 k := fun k e => dSet_k e
  have m81 : ∀ j : Nat, (dSet m3 81 (((7 : Int32) * (m2.1 70 19)) + (m2.1 80 s)).toNatClampNeg v3).1 81 j = if j = 7 * s + cf then v3 else m3.1 81 j := fun j => by
    rw [d_cn (i := 7 * s + cf) (by rw [fa]; omega), dSet_e]
    by_cases q : j = 7 * s + cf
    · rw [if_pos ⟨rfl, q⟩, if_pos q]
    · rw [if_neg (fun w => q w.2), if_neg q]
  have l3' : (dSet m3 81 (((7 : Int32) * (m2.1 70 19)) + (m2.1 80 s)).toNatClampNeg v3).2 = m3.2 := rfl
  generalize dSet m3 81 (((7 : Int32) * (m2.1 70 19)) + (m2.1 80 s)).toNatClampNeg v3 = M3 at F3' S3' R3' k3' l3' m81 ⊢
  have N3 : nms M3 = ((cf + cu : Nat) : Int) := by unfold nms; rw [k3' 70 (by decide)]; exact C3.2.2.2.1
  refine Wp.deep (q_endsName (N := cf + cu) (tok := n + 1) hv R3' S3' e11 (by omega) N3 (by omega) (fun z4 m4 c4 h4 => ?_) (fun z4 m4 E4 h4 => ?_)) (Nat.le_of_ble_eq_true rfl)
  · rw [← gT4] at z4 h4
    have f4 := h4.fl
    exact ⟨fun _ => fin m4 (hB z4 m4 W3 h4 (F3'.cx c4)), fun q => absurd (f4.2.mp q) z4⟩
  · have r4 := rb_z z4
    have r3 := rb_z r4.1
    have t4 : gTell K cf cw cu n = (0, n + 4) := by
      rw [gT4, r4.2, r3.2, (gnd_0 r3.1).1]
      have a1 := r4.1
      rw [r3.2, (gnd_0 r3.1).1] at a1
      have a1 : (gnd K 23 (n + 1 + 1)).1 = 0 := a1
      show gnd K 59 (gnd K 23 (n + 1 + 1)).2 = _
      have a2 := z4
      rw [r4.2, r3.2, (gnd_0 r3.1).1] at a2
      have a2 : (gnd K 59 (gnd K 23 (n + 1 + 1)).2).1 = 0 := a2
      rw [(gnd_0 a1).1] at a2 ⊢
      have a2 : (gnd K 59 (n + 1 + 1 + 1)).1 = 0 := a2
      show gnd K 59 (n + 1 + 1 + 1) = _
      rw [(gnd_0 a2).1]
    rw [← gT4] at z4 h4
    have f4 := h4.fl
    have F4 := F3'.en E4
    have sd4 := F4.sd hsd
    rw [sd4.2]
    refine ⟨fun q => absurd (f4.2.mpr z4) q, fun _ => ⟨by omega, ⟨by omega, fin _ ?_⟩⟩⟩
    have e80 : m4.1 80 s = m3.1 80 s := by rw [E4.1 80 (by decide) (by decide), k3' 80 (by decide)]
    have e80' : (m4.1 80 s).toInt = (cf : Int) := by rw [e80]; exact C3.1
    have hw2' := hw2 r3.1
    have hw3' := hw3 r4.1
    have v21 : (gnd K 22 (n + 1)).2 = n + 2 := by rw [(gnd_0 r3.1).1]
    rw [v21] at hw3'
    have yn : M3.2.1 76 (n + 1) = V (n + 1) := by
      have hk1 := (gnd_0 r3.1).2.1
      exact (R3' (n + 1) (by omega) (h1.1 rfl).2.2.2.1).2.2.1 (by omega)
    rw [yn] at E4
    have cK : ct (K n) 0 = 1 ∧ ct (K n) 1 = 0 ∧ ct (K n) 2 = 0 := by rw [hk]; decide
    rw [t4] at h4 z4
    have S4 : ST K P (dSet m4 80 s (m4.1 80 s + 1)) (0, n + 4) W3 := h4.k (by decide)
    have R4 : RM K V P (dSet m4 80 s (m4.1 80 s + 1)) := R3'.of (fun k a b => by rw [dSet_k (by omega)]; exact E4.1 k (by omega) (by omega)) (by show m4.2.1 76 = M3.2.1 76; exact E4.2.2.2.2.1 76 (by decide))
    have tt4 : tt m4 = ((n + 4 : Nat) : Int) := (h4.1 rfl).2.1
    have tt0 : tt m = (n : Int) := (hS.1 rfl).2.1
    have jj : ∀ j : Nat, j = 12 ∨ j = 40 ∨ j = 46 → m4.1 70 j = m.1 70 j := fun j e => by rw [E4.2.1 j (by omega) (by omega) (by omega) (by omega) (by omega) (by omega), k3' 70 (by decide), c13.2.1 j (by omega) (by omega) (by omega) (by omega) (by omega)]
    have Q4 : LQ s (dSet m4 80 s (m4.1 80 s + 1)) := hQ.j (jj 12 (by omega)) (jj 46 (by omega)) (jj 40 (by omega)) (by show tt m ≤ tt m4; omega)
    have C4 : CT s (cf + 1) cw cu (dSet m4 80 s (m4.1 80 s + 1)) := by
      refine ⟨by rw [dSet_s]; exact d_inc e80' (by omega), ?_, ?_, ?_, by omega, by omega, by omega⟩
      · rw [dSet_k (by decide), E4.1 82 (by decide) (by decide), k3' 82 (by decide)]; exact C3.2.1
      · rw [dSet_k (by decide), E4.1 86 (by decide) (by decide), k3' 86 (by decide)]; exact C3.2.2.1
      · show (m4.1 70 20).toInt = _
        rw [E4.2.2.1]
        omega
    have key : (W3.1 ≠ 0 → W3.2 < n + 4) ∧ ∃ st' : mSt, (W3.1 = 0 → NH V s st' (dSet m4 80 s (m4.1 80 s + 1)) ∧ st'.1.length = cf + 1 ∧ st'.2.1.length = cw ∧ st'.2.2.1.length = cu) ∧ WN K V n W st W3 st' := by
      unfold WN
      rw [mT]
      by_cases w0 : W.1 = 0
      · obtain ⟨⟨hN1, hH1⟩, hl1, hl2, hl3⟩ := hN w0
        have kn : (∃ k : Nat, k < cf + cu ∧ m1.2.1 78 k = V (n + 1)) ↔ knw V st (V (n + 1)) = true := by
          rw [c1.2.2, ← hl1, ← hl3]; exact hN1.kn
        rcases hw2' with ⟨ex, e2⟩ | ⟨ex, e2⟩
        · have kt := kn.mp ex
          rw [wadd_z w0] at e2
          have e3 : W3 = (3, n + 1) := by
            rw [hw3'.2, e2]
            split
            · rfl
            · exact wadd_n (Nat.succ_ne_zero 2)
          have mf : mFlat V n st = ((3, n + 1), st) := by unfold mFlat; rw [kt]; rfl
          rw [e3, mf]
          exact ⟨fun _ => by show n + 1 < n + 4; omega, st, fun q => absurd q (Nat.succ_ne_zero 2), fun q => absurd w0 q, fun _ => ⟨fun q => absurd q (Nat.succ_ne_zero 2), fun _ => rfl⟩⟩
        · have kf : knw V st (V (n + 1)) = false := by
            cases hh : knw V st (V (n + 1)) with
            | false => rfl
            | true =>
              obtain ⟨k, k1, k2⟩ := kn.mpr hh
              exact absurd k2 (ex k k1)
          have mf : mFlat V n st = bnd V (n + 2) 0 9 ((0, 0), (st.1 ++ [n], st.2)) st := by unfold mFlat; rw [kf]; rfl
          rw [mf]
          unfold bnd
          have e3 := hw3'.2
          rw [e2] at e3
          by_cases inb : (0 : Int) ≤ iV V (n + 2) ∧ iV V (n + 2) ≤ 9
          · rw [if_pos inb] at ⊢
            rw [if_pos (show (0 : Int32).toInt ≤ iV V (n + 2) ∧ iV V (n + 2) ≤ (9 : Int32).toInt from inb)] at e3
            rw [e3]
            refine ⟨fun q => absurd w0 q, (st.1 ++ [n], st.2), fun _ => ⟨⟨?_, ?_⟩, ?_, hl2, hl3⟩, fun q => absurd w0 q, fun _ => ⟨fun _ => ⟨w0, rfl⟩, fun q => absurd rfl q⟩⟩
            · refine (hN1.cx c13).flat (N := cf + cu) (v := m3.1 80 s) (by omega) (by rw [hl1]; exact C3.1) kf (fun j => ?_) ?_ ?_ (fun j => ?_)
              · rw [dSet_k (by decide), E4.2.2.2.1 j, k3' 79 (by decide)]
              · rw [dSet_k (by decide), E4.1 83 (by decide) (by decide), k3' 83 (by decide)]
              · rw [dSet_k (by decide), E4.1 84 (by decide) (by decide), k3' 84 (by decide)]
              · show m4.2.1 78 j = _
                rw [E4.2.2.2.2.2.1 j, l3']
            · refine (hH1.of (m' := m3) (fun k e => c13.1 k (by omega))).flat (fun j => ?_) (fun k e => ?_)
              · rw [dSet_k (by decide), E4.1 81 (by decide) (by decide), m81, hl1, hw3'.1]
              · rw [dSet_k (by omega), E4.1 k (by omega) (by omega), k3' k (by omega)]
            · show (st.1 ++ [n]).length = cf + 1
              rw [List.length_append, hl1]; rfl
          · rw [if_neg inb]
            rw [if_neg (show ¬ ((0 : Int32).toInt ≤ iV V (n + 2) ∧ iV V (n + 2) ≤ (9 : Int32).toInt) from inb), wadd_z w0] at e3
            rw [e3]
            exact ⟨fun _ => by show n + 2 < n + 4; omega, st, fun q => absurd q (Nat.succ_ne_zero 4), fun q => absurd w0 q, fun _ => ⟨fun q => absurd q (Nat.succ_ne_zero 4), fun _ => rfl⟩⟩
      · have e2 : W2 = W := by
          rcases hw2' with ⟨-, e2⟩ | ⟨-, e2⟩
          · rw [e2, wadd_n w0]
          · exact e2
        have e3 : W3 = W := by
          rw [hw3'.2, e2]
          split
          · rfl
          · exact wadd_n w0
        rw [e3]
        exact ⟨fun q => by have := hW q; omega, st, fun q => absurd q w0, fun _ => rfl, fun q => absurd q w0⟩
    obtain ⟨kw, st', kn, kwn⟩ := key
    refine hG (by rw [t4]) _ W3 st' ?_ kwn
    rw [cK.1, cK.2.1, cK.2.2, t4]
    exact ⟨S4, R4, F4.set (by decide) (by decide) (by unfold lvS; omega), C4, Q4, kw, kn, hD.of (fun c h1 h2 => by rw [dSet_k (by omega), E4.1 c (by omega) (by omega), k3' c (by omega), c13.1 c (by omega)]) (jj 40 (by omega)) (jj 46 (by omega))⟩
end RFV
end
section
/-! THE REFERENCE's tells, 2: a wire -/
section RWV
variable {K : Nat → Int} {V : Nat → Int64} {P : Nat → Nat} {m0 m : dM} {L s cf cw cu n : Nat} {W : gR} {st : mSt} {Ds : Nat → lD}
theorem x_wire {Q : dM → Prop} (hL : L + s = 1) (hsd : (m0.1 70 19).toInt = (s : Int)) (hv : ∀ i, vk (K i)) (hP : ∀ i j : Nat, i < j → lvK K j → P i < P j) (hS : ST K P m (0, n + 1) W) (hR : RM K V P m) (hF : FXv m0 L m) (hC : CT s cf cw cu m) (h9 : cw ≤ 9) (hQ : LQ s m) (hW : W.1 ≠ 0 → W.2 < n) (hN : W.1 = 0 → NH V s st m ∧ st.1.length = cf ∧ st.2.1.length = cw ∧ st.2.2.1.length = cu) (hD : LDs m s Ds)
    (hB : (gsq K [22, 22, 23, 59] (n + 1)).1 ≠ 0 → ∀ (m' : dM) (W' : gR), ST K P m' (gsq K [22, 22, 23, 59] (n + 1)) W' → FXv m0 L m' → Q m')
    (hG : (gsq K [22, 22, 23, 59] (n + 1)).1 = 0 → ∀ (m' : dM) (W' : gR) (st' : mSt), TIv K V P m0 L s cf (cw + 1) cu (n + 5) W' st' Ds m' → WM (mWire V n st) W W' st' → Q m') : c_X12_tellWire_70 6 m Q := by
  have hs : s ≤ 1 := by omega
  have hC5 := hC.2.2.2.2
  have sd := hF.sd hsd
  have fm := dMulE (X := 10) (Y := (s : Int)) (x := (10 : Int32)) (y := m.1 70 19) (by decide) sd.1 (by omega) (by omega)
  have fx := dAddE (X := 10 * (s : Int)) (Y := (cw : Int)) (x := (10 : Int32) * m.1 70 19) (y := m.1 82 s) fm hC.2.1 (by omega) (by omega)
  have gG : gsq K [22, 22, 23, 59] (n + 1) = rb (rb (rb (gnd K 22 (n + 1)) (gnd K 22)) (gnd K 23)) (gnd K 59) := by
    have : gsq K [22, 22, 23, 59] (n + 1) = rb (gnd K 22 (n + 1)) (gsq K [22, 23, 59]) := rfl
    rw [this, gsq_r, gsq_r, gsq_r, rb_id]
  rw [gG] at hB hG
  refine v_X12_tellWire_70 ⟨by omega, ?_⟩
  rw [sd.2]
  generalize hX : (10 : Int32) * m.1 70 19 + m.1 82 s = X at fx ⊢
  have eX : X.toNatClampNeg = 10 * s + cw := by
    have := d_cl (x := X) (by omega)
    omega
  have e0 : (m.1 70 11).toInt = ((n + 1 : Nat) : Int) := (hS.1 rfl).2.1
  have w72 : ∀ (mm : dM) (r1 r2 : Int32) (W3 : gR), Cx m mm → ST K P mm (rb (gnd K 22 (n + 1)) (gnd K 22)) W3 → ((rb (gnd K 22 (n + 1)) (gnd K 22)).1 = 0 → (W.1 ≠ 0 → W3 = W) ∧ (W.1 = 0 → (W3.1 = 0 ∧ ∃ a b : Nat, fF V st (V (n + 1)) = some a ∧ fF V st (V (n + 2)) = some b ∧ r1.toInt = (a : Int) ∧ r2.toInt = (b : Int) ∧ ¬ (a = b ∨ wx (wE st) a b st.2.1.length 0 = true)) ∨ (W3.1 ≠ 0 ∧ W3 = (mWire V n st).1 ∧ W3.2 ≤ n + 2))) → j_X12_tellWire_70_72 6 X r1 r2 mm Q := by
    intro mm r1 r2 W3 cm h3 hw
    have Fm := hF.cx cm
    have Cm := hC.cx cm
    refine v_X12_tellWire_70_72 ⟨by omega, ⟨by omega, ?_⟩⟩
    rw [eX]
    have F1 : FXv m0 L (dSet (dSet mm 83 (10 * s + cw) r1) 84 (10 * s + cw) r2) := (Fm.set (by decide) (by decide) (by unfold lvS; omega)).set (by decide) (by decide) (by unfold lvS; omega)
    have S1 : ST K P (dSet (dSet mm 83 (10 * s + cw) r1) 84 (10 * s + cw) r2) (rb (gnd K 22 (n + 1)) (gnd K 22)) W3 := (h3.k (by decide)).k (by decide)
    have kM : ∀ k : Nat, k ≠ 83 → k ≠ 84 → (dSet (dSet mm 83 (10 * s + cw) r1) 84 (10 * s + cw) r2).1 k = mm.1 k := fun k h1 h2 => by rw [dSet_k h2, dSet_k h1]
    have m83 : ∀ j : Nat, (dSet (dSet mm 83 (10 * s + cw) r1) 84 (10 * s + cw) r2).1 83 j = if j = 10 * s + cw then r1 else mm.1 83 j := fun j => by
      rw [dSet_k (by decide), dSet_e]
      by_cases q : j = 10 * s + cw
      · rw [if_pos ⟨rfl, q⟩, if_pos q]
      · rw [if_neg (fun z => q z.2), if_neg q]
    have m84 : ∀ j : Nat, (dSet (dSet mm 83 (10 * s + cw) r1) 84 (10 * s + cw) r2).1 84 j = if j = 10 * s + cw then r2 else mm.1 84 j := fun j => by
      rw [dSet_e]
      by_cases q : j = 10 * s + cw
      · rw [if_pos ⟨rfl, q⟩, if_pos q]
      · rw [if_neg (fun z => q z.2), if_neg q, dSet_k (by decide)]
    have lM : (dSet (dSet mm 83 (10 * s + cw) r1) 84 (10 * s + cw) r2).2 = mm.2 := rfl
    generalize dSet (dSet mm 83 (10 * s + cw) r1) 84 (10 * s + cw) r2 = M at F1 S1 kM m83 m84 lM ⊢
    have R1 : RM K V P M := (hR.cx cm).of (fun k a b => kM k (by omega) (by omega)) (by rw [lM])
    have hW3 : (rb (gnd K 22 (n + 1)) (gnd K 22)).1 = 0 → W3.1 ≠ 0 → W3.2 < n + 3 := fun z w => by
      have hh := hw z
      by_cases w0 : W.1 = 0
      · rcases hh.2 w0 with q | q
        · exact absurd q.1 w
        · omega
      · rw [hh.1 w0]; have := hW w0; omega
    refine Wp.deep (q_bounded hv hP R1 S1 (fun z w => by rw [(gnd2_z z).2.2.1]; exact hW3 z w) (fun v4 m4 W4 c4 h4 hw4 => ⟨by omega, ?_⟩)) (Nat.le_of_ble_eq_true rfl)
    have S4 : ST K P (dSet m4 85 (10 * s + cw) v4) (rb (rb (gnd K 22 (n + 1)) (gnd K 22)) (gnd K 23)) W4 := h4.k (by decide)
    have R4 : RM K V P (dSet m4 85 (10 * s + cw) v4) := (R1.cx c4).of (fun k a b => dSet_k (by omega)) rfl
    have F4 : FXv m0 L (dSet m4 85 (10 * s + cw) v4) := (F1.cx c4).set (by decide) (by decide) (by unfold lvS; omega)
    refine Wp.deep (q_must (k := 59) hv R4 S4 (by decide) (by unfold vk; omega) (by decide) (fun m5 c5 h5 => ?_)) (Nat.le_of_ble_eq_true rfl)
    have f5 := h5.fl
    have F5 := F4.cx c5
    have sd5 := F5.sd hsd
    refine ⟨fun q => v_X12_tellWire_70_125 (hB (fun z => q (f5.2.mpr z)) m5 W4 h5 F5), fun q => ⟨by omega, ⟨by omega, v_X12_tellWire_70_125 ?_⟩⟩⟩
    rw [sd5.2]
    have z5 := f5.2.mp q
    have z4 := (rb_z z5).1
    have z3 := (rb_z z4).1
    obtain ⟨g1, g2, g3, g4, g5⟩ := gnd2_z z3
    have gg4 : rb (rb (gnd K 22 (n + 1)) (gnd K 22)) (gnd K 23) = (0, n + 4) ∧ K (n + 3) = 23 := by
      have z := z4
      rw [g3, rb_0] at z ⊢
      have := gnd_0 z
      exact ⟨this.1, this.2.1⟩
    have gg5 : rb (rb (rb (gnd K 22 (n + 1)) (gnd K 22)) (gnd K 23)) (gnd K 59) = (0, n + 5) := by
      have z := z5
      rw [gg4.1, rb_0] at z ⊢
      exact (gnd_0 z).1
    have hw4' := hw4 z4
    rw [g3] at hw4'
    have hw3' := hw z3
    have kk : ∀ k : Nat, k ≠ 70 → k ≠ 83 → k ≠ 84 → k ≠ 85 → m5.1 k = m.1 k := fun k a b c d => by rw [c5.1 k a, dSet_k d, c4.1 k a, kM k b c, cm.1 k a]
    have k834 : ∀ k : Nat, k = 83 ∨ k = 84 → m5.1 k = M.1 k := fun k e => by rw [c5.1 k (by omega), dSet_k (by omega), c4.1 k (by omega)]
    have jj : ∀ j : Nat, j ≠ 11 → j ≠ 13 → j ≠ 14 → j ≠ 15 → j ≠ 16 → m5.1 70 j = m.1 70 j := fun j a b c d e => by rw [c5.2.1 j a b c d e, dSet_k (by decide), c4.2.1 j a b c d e, kM 70 (by decide) (by decide), cm.2.1 j a b c d e]
    have ll : m5.2 = m.2 := by rw [c5.2.2]; show m4.2 = m.2; rw [c4.2.2, lM, cm.2.2]
    rw [gg5] at h5
    have tt5 : tt m5 = ((n + 5 : Nat) : Int) := (h5.1 rfl).2.1
    have tt0 : tt m = ((n + 1 : Nat) : Int) := e0
    have e82 : (m5.1 82 s).toInt = (cw : Int) := by rw [kk 82 (by decide) (by decide) (by decide) (by decide)]; exact hC.2.1
    have R5 : RM K V P (dSet m5 82 s (m5.1 82 s + 1)) := (R4.cx c5).of (fun k a b => dSet_k (by omega)) rfl
    have C5 : CT s cf (cw + 1) cu (dSet m5 82 s (m5.1 82 s + 1)) := by
      refine ⟨?_, by rw [dSet_s]; exact d_inc e82 (by omega), ?_, ?_, by omega, by omega, by omega⟩
      · rw [dSet_k (by decide), kk 80 (by decide) (by decide) (by decide) (by decide)]; exact hC.1
      · rw [dSet_k (by decide), kk 86 (by decide) (by decide) (by decide) (by decide)]; exact hC.2.2.1
      · show (m5.1 70 20).toInt = _
        rw [jj 20 (by decide) (by decide) (by decide) (by decide) (by decide)]; exact hC.2.2.2.1
    have Q5 : LQ s (dSet m5 82 s (m5.1 82 s + 1)) := hQ.j (jj 12 (by decide) (by decide) (by decide) (by decide) (by decide)) (jj 46 (by decide) (by decide) (by decide) (by decide) (by decide)) (jj 40 (by decide) (by decide) (by decide) (by decide) (by decide)) (by show tt m ≤ tt m5; omega)
    have S5 : ST K P (dSet m5 82 s (m5.1 82 s + 1)) (0, n + 5) W4 := h5.k (by decide)
    have F6 : FXv m0 L (dSet m5 82 s (m5.1 82 s + 1)) := F5.set (by decide) (by decide) (by unfold lvS; omega)
    have key : (W4.1 ≠ 0 → W4.2 < n + 5) ∧ ∃ st' : mSt, (W4.1 = 0 → NH V s st' (dSet m5 82 s (m5.1 82 s + 1)) ∧ st'.1.length = cf ∧ st'.2.1.length = cw + 1 ∧ st'.2.2.1.length = cu) ∧ WM (mWire V n st) W W4 st' := by
      unfold WM
      by_cases w0 : W.1 = 0
      · obtain ⟨⟨hN1, hH1⟩, hl1, hl2, hl3⟩ := hN w0
        rcases hw3'.2 w0 with ⟨w3, a, b, ea, eb, ra, rb', nw⟩ | ⟨w3, ew, wl⟩
        · have mw : mWire V n st = bnd V (n + 3) 1 99 ((0, 0), (st.1, st.2.1 ++ [(n, a, b)], st.2.2)) st := by
            unfold mWire
            rw [ea, eb]
            show (if _ then _ else _) = _
            rw [if_neg nw]
          rw [mw]
          unfold bnd
          have e4 := hw4'.2
          by_cases inb : (1 : Int) ≤ iV V (n + 3) ∧ iV V (n + 3) ≤ 99
          · rw [if_pos inb]
            rw [if_pos (show (1 : Int32).toInt ≤ iV V (n + 3) ∧ iV V (n + 3) ≤ (99 : Int32).toInt from inb)] at e4
            rw [e4]
            refine ⟨fun q => absurd w3 q, (st.1, st.2.1 ++ [(n, a, b)], st.2.2), fun _ => ⟨⟨?_, ?_⟩, hl1, ?_, hl3⟩, fun q => absurd w0 q, fun _ => ⟨fun _ => ⟨w3, rfl⟩, fun q => absurd rfl q⟩⟩
            · refine hN1.wire (v1 := r1) (v2 := r2) ra rb' ?_ (fun j => ?_) (fun j => ?_) ?_
              · rw [dSet_k (by decide), kk 79 (by decide) (by decide) (by decide) (by decide)]
              · rw [dSet_k (by decide), k834 83 (Or.inl rfl), m83, hl2, cm.1 83 (by decide)]
              · rw [dSet_k (by decide), k834 84 (Or.inr rfl), m84, hl2, cm.1 84 (by decide)]
              · show m5.2.1 78 = _
                rw [ll]
            · refine hH1.wire (fun j => ?_) (fun k e => ?_)
              · rw [dSet_k (by decide), c5.1 85 (by decide), dSet_e, hl2, hw4'.1, c4.1 85 (by decide), kM 85 (by decide) (by decide), cm.1 85 (by decide)]
                by_cases q : j = 10 * s + cw
                · rw [if_pos ⟨rfl, q⟩, if_pos q]
                · rw [if_neg (fun z => q z.2), if_neg q]
              · rw [dSet_k (by omega), kk k (by omega) (by omega) (by omega) (by omega)]
            · show (st.2.1 ++ [(n, a, b)]).length = cw + 1
              rw [List.length_append, hl2]; rfl
          · rw [if_neg inb]
            rw [if_neg (show ¬ ((1 : Int32).toInt ≤ iV V (n + 3) ∧ iV V (n + 3) ≤ (99 : Int32).toInt) from inb), wadd_z w3] at e4
            rw [e4]
            exact ⟨fun _ => by show n + 3 < n + 5; omega, st, fun q => absurd q (Nat.succ_ne_zero 4), fun q => absurd w0 q, fun _ => ⟨fun q => absurd q (Nat.succ_ne_zero 4), fun _ => rfl⟩⟩
        · have e4 : W4 = W3 := by
            rw [hw4'.2]
            split
            · rfl
            · exact wadd_n w3
          rw [e4]
          exact ⟨fun _ => by omega, st, fun q => absurd q w3, fun q => absurd w0 q, fun _ => ⟨fun q => by rw [ew] at w3; exact absurd q w3, fun _ => ew⟩⟩
      · have e3 := hw3'.1 w0
        have e4 : W4 = W := by
          rw [hw4'.2, e3]
          split
          · rfl
          · exact wadd_n w0
        rw [e4]
        exact ⟨fun q => by have := hW q; omega, st, fun q => absurd q w0, fun _ => rfl, fun q => absurd q w0⟩
    obtain ⟨kw, st', kn, kwn⟩ := key
    exact hG z5 _ W4 st' ⟨S5, R5, F6, C5, Q5, kw, kn, hD.of (fun c h1 h2 => by rw [dSet_k (by omega), kk c (by omega) (by omega) (by omega) (by omega)]) (jj 40 (by decide) (by decide) (by decide) (by decide) (by decide)) (jj 46 (by decide) (by decide) (by decide) (by decide) (by decide))⟩ kwn
  refine Wp.deep (q_knownFlat hv hP hR hS hC.2.2.2.1 (by omega) (fun _ w => by have := hW w; show W.2 < n + 1; omega) (fun r1 m1 W1 c1 h1 hw1 => ?_)) (Nat.le_of_ble_eq_true rfl)
  have h1 : ST K P m1 (gnd K 22 (n + 1)) W1 := h1
  have hw1 : (gnd K 22 (n + 1)).1 = 0 → ((∃ k : Nat, k < cf + cu ∧ m.2.1 78 k = V (n + 1) ∧ 0 ≤ (m.1 79 k).toInt ∧ r1 = m.1 79 k) ∧ W1 = W) ∨ ((∀ k : Nat, k < cf + cu → m.2.1 78 k = V (n + 1) → (m.1 79 k).toInt < 0) ∧ r1 = -1 ∧ W1 = wadd W (4, n + 1)) := hw1
  have hW1 : (gnd K 22 (n + 1)).1 = 0 → W1.1 ≠ 0 → W1.2 < n + 2 := fun z w => by
    rcases hw1 z with ⟨-, e⟩ | ⟨-, -, e⟩
    · rw [e] at w ⊢; have := hW w; omega
    · rw [e] at w ⊢
      by_cases w0 : W.1 = 0
      · rw [wadd_z w0]; show n + 1 < n + 2; omega
      · rw [wadd_n w0]; have := hW w0; omega
  refine Wp.deep (q_knownFlat hv hP (hR.cx c1) h1 (hC.cx c1).2.2.2.1 (by omega) (fun z w => by rw [(gnd_0 z).1]; exact hW1 z w) (fun r2 m2 W2 c2 h2 hw2 => ?_)) (Nat.le_of_ble_eq_true rfl)
  have c12 := c1.tr c2
  have F2 := hF.cx c12
  have C2 := hC.cx c12
  have f2 := h2.fl
  refine ⟨fun q => w72 m2 r1 r2 W2 c12 h2 (fun z => absurd (f2.2.mpr z) q), fun q => ?_⟩
  have z2 : (rb (gnd K 22 (n + 1)) (gnd K 22)).1 = 0 := f2.2.mp q
  obtain ⟨g1, g2, g3, g4, g5⟩ := gnd2_z z2
  have z1 : (gnd K 22 (n + 1)).1 = 0 := (rb_z z2).1
  have hw1' := hw1 z1
  have hw2' := hw2 z2
  rw [g1, c1.2.2, c1.1 79 (by decide)] at hw2'
  have hw2' : ((∃ k : Nat, k < cf + cu ∧ m.2.1 78 k = V (n + 2) ∧ 0 ≤ (m.1 79 k).toInt ∧ r2 = m.1 79 k) ∧ W2 = W1) ∨ ((∀ k : Nat, k < cf + cu → m.2.1 78 k = V (n + 2) → (m.1 79 k).toInt < 0) ∧ r2 = -1 ∧ W2 = wadd W1 (4, n + 2)) := hw2'
  have hx3 : (m1.1 70 11).toInt = ((n + 2 : Nat) : Int) := by
    have := (h1.1 z1).2.1
    rw [g1] at this
    exact this
  have lv2 : lvK K (n + 2) := by
    have := (h1.1 z1).2.2.2.1
    rw [g1] at this
    exact this
  have n2 : n + 2 ≤ 400 := by omega
  have em1 : (-1 : Int32).toInt = -1 := by decide
  have h66 : (W2.1 ≠ 0 → W2.2 < n + 2) → ((W.1 ≠ 0 → wadd W2 (3, n + 2) = W) ∧ (W.1 = 0 → (wadd W2 (3, n + 2)).1 ≠ 0 ∧ wadd W2 (3, n + 2) = (mWire V n st).1 ∧ (wadd W2 (3, n + 2)).2 ≤ n + 2)) → j_X12_tellWire_70_66 6 X r1 (m1.1 70 11) r2 m2 Q := fun a b => by
    refine v_X12_tellWire_70_66 (Wp.deep (q_wrong (c := 3) (tok := n + 2) hP (hR.cx c12) h2 (by decide) (by decide) hx3 n2 (fun _ => lv2) (fun _ w => Or.inl (a w)) (fun m3 c3 _ h3 => w72 m3 r1 r2 _ (c12.tr c3) h3 (fun _ => ⟨b.1, fun w => Or.inr (b.2 w)⟩))) (Nat.le_of_ble_eq_true rfl))
  by_cases w0 : W.1 = 0
  · obtain ⟨⟨hN1, hH1⟩, hl1, hl2, hl3⟩ := hN w0
    rcases hw1' with ⟨⟨k1, k2, k3, k4, k5⟩, e1⟩ | ⟨k1, k2, e1⟩
    · obtain ⟨a, fa, va⟩ := hN1.sm (by omega) k3 k4
      have ra : r1.toInt = (a : Int) := by rw [k5]; exact va
      rcases hw2' with ⟨⟨l1, l2, l3, l4, l5⟩, e2⟩ | ⟨l1, l2, e2⟩
      · obtain ⟨b, fb, vb⟩ := hN1.sm (by omega) l3 l4
        have rb' : r2.toInt = (b : Int) := by rw [l5]; exact vb
        have eW2 : W2.1 = 0 := by rw [e2, e1]; exact w0
        have mw : (a = b ∨ wx (wE st) a b st.2.1.length 0 = true) → mWire V n st = ((3, n + 2), st) := fun o => by
          unfold mWire
          rw [fa, fb]
          show (if _ then _ else _) = _
          rw [if_pos o]
        have go66 : (a = b ∨ wx (wE st) a b st.2.1.length 0 = true) → j_X12_tellWire_70_66 6 X r1 (m1.1 70 11) r2 m2 Q := fun o => h66 (fun w => absurd eW2 w) ⟨fun w => absurd w0 w, fun _ => by rw [wadd_z eW2, mw o]; exact ⟨Nat.succ_ne_zero 2, rfl, Nat.le_refl _⟩⟩
        refine ⟨fun q => by exfalso; omega, fun _ => ⟨fun q => by exfalso; omega, fun _ => ⟨fun q => go66 (Or.inl (by omega)), fun q => ?_⟩⟩⟩
        refine Wp.deep (q_areWired (st := st) hs (F2.sd hsd).1 (by rw [hl2]; exact C2.2.1) (by omega) (hN1.cx c12).2.2.2.2 ra rb' (fun y => ⟨fun q => absurd q (by decide), fun _ => go66 (Or.inr y)⟩) (fun y => ⟨fun _ => w72 m2 r1 r2 W2 c12 h2 (fun _ => ⟨fun w => absurd w0 w, fun _ => Or.inl ⟨eW2, a, b, fa, fb, ra, rb', fun o => ?_⟩⟩), fun q => absurd rfl q⟩)) (Nat.le_of_ble_eq_true rfl)
        rcases o with o | o
        · omega
        · rw [y] at o; cases o
      · have fb := hN1.nn (y := V (n + 2)) (fun k hk he => l1 k (by omega) he)
        have mw : mWire V n st = ((4, n + 2), st) := by
          unfold mWire
          rw [fa, fb]
        have r2v : r2.toInt = -1 := by rw [l2]; exact em1
        have eW2 : W2 = (4, n + 2) := by rw [e2, e1, wadd_z w0]
        refine ⟨fun q => by exfalso; omega, fun _ => ⟨fun q => w72 m2 r1 r2 W2 c12 h2 (fun _ => ⟨fun w => absurd w0 w, fun _ => Or.inr ?_⟩), fun q => by exfalso; omega⟩⟩
        rw [eW2, mw]
        exact ⟨Nat.succ_ne_zero 3, rfl, Nat.le_refl _⟩
    · have fa := hN1.nn (y := V (n + 1)) (fun k hk he => k1 k (by omega) he)
      have mw : mWire V n st = ((4, n + 1), st) := by
        unfold mWire
        rw [fa]
      have r1v : r1.toInt = -1 := by rw [k2]; exact em1
      have eW1 : W1 = (4, n + 1) := by rw [e1, wadd_z w0]
      have eW2 : W2 = (4, n + 1) := by
        rcases hw2' with ⟨-, e⟩ | ⟨-, -, e⟩
        · rw [e, eW1]
        · rw [e, eW1, wadd_n (Nat.succ_ne_zero 3)]
      refine ⟨fun q => w72 m2 r1 r2 W2 c12 h2 (fun _ => ⟨fun w => absurd w0 w, fun _ => Or.inr ?_⟩), fun q => by exfalso; omega⟩
      rw [eW2, mw]
      exact ⟨Nat.succ_ne_zero 3, rfl, by show n + 1 ≤ n + 2; omega⟩
  · have eW1 : W1 = W := by
      rcases hw1' with ⟨-, e⟩ | ⟨-, -, e⟩
      · exact e
      · rw [e, wadd_n w0]
    have eW2 : W2 = W := by
      rcases hw2' with ⟨-, e⟩ | ⟨-, -, e⟩
      · rw [e, eW1]
      · rw [e, eW1, wadd_n w0]
    have go := w72 m2 r1 r2 W2 c12 h2 (fun _ => ⟨fun _ => eW2, fun w => absurd w w0⟩)
    have go66 := h66 (fun w => by rw [eW2] at w ⊢; have := hW w; omega) ⟨fun _ => by rw [eW2, wadd_n w0], fun w => absurd w w0⟩
    refine ⟨fun _ => go, fun _ => ⟨fun _ => go, fun _ => ⟨fun _ => go66, fun _ => ?_⟩⟩⟩
    have b82 := C2.2.1
    exact Wp.deep (p_areWired hs (F2.sd hsd) (by omega) (fun r3 => ⟨fun _ => go, fun _ => go66⟩)) (Nat.le_of_ble_eq_true rfl)
end RWV
end
section
/-! THE REFERENCE's tells, 3: a use -/
section RUV
variable {K : Nat → Int} {V : Nat → Int64} {P : Nat → Nat} {m0 m : dM} {L s cf cw cu n : Nat} {W : gR} {st : mSt} {Ds : Nat → lD}
def UFv (s cu : Nat) (m mm : dM) : Prop := UF m mm ∧ ∀ k j : Nat, 87 ≤ k → k ≤ 90 → j ≠ 8 * s + cu → mm.1 k j = m.1 k j
theorem UFv.cx {a b : dM} (h : UFv s cu m a) (hc : Cx a b) : UFv s cu m b := ⟨h.1.cx hc, fun k j h1 h2 h3 => by rw [hc.1 k (by omega)]; exact h.2 k j h1 h2 h3⟩
theorem UFv.set {a : dM} {k j : Nat} {v : Int32} (h : UFv s cu m a) (hk : 87 ≤ k ∧ k ≤ 90) (hj : j = 8 * s + cu) : UFv s cu m (dSet a k j v) := ⟨h.1.set hk, fun c i h1 h2 h3 => by
  rw [dSet_e, if_neg (fun w => h3 (by omega))]
  exact h.2 c i h1 h2 h3⟩
theorem FXv.uf {mm : dM} (h : FXv m0 L m) (hL : L + s = 1) (hc : cu ≤ 7) (hu : UFv s cu m mm) : FXv m0 L mm := ⟨h.1.uf hu.1, fun k j q => by
  have b := lvS_k q
  by_cases q2 : 87 ≤ k ∧ k ≤ 90
  · rw [hu.2 k j q2.1 q2.2 (by unfold lvS at q; omega)]; exact h.2 k j q
  · rw [hu.1.1 k (by omega) q2]; exact h.2 k j q⟩
theorem x_use {Q : dM → Prop} (hL : L + s = 1) (hsd : (m0.1 70 19).toInt = (s : Int)) (hv : ∀ i, vk (K i)) (hP : ∀ i j : Nat, i < j → lvK K j → P i < P j) (hS : ST K P m (0, n + 1) W) (hR : RM K V P m) (hF : FXv m0 L m) (hC : CT s cf cw cu m) (h7 : cu ≤ 7) (hQ : LQ s m) (hW : W.1 ≠ 0 → W.2 < n) (hN : W.1 = 0 → NH V s st m ∧ st.1.length = cf ∧ st.2.1.length = cw ∧ st.2.2.1.length = cu) (hD : LDs m s Ds)
    (hB : (gsq K [22, 22, 23, 23, 23, 59] (n + 1)).1 ≠ 0 → ∀ (m' : dM) (W' : gR), ST K P m' (gsq K [22, 22, 23, 23, 23, 59] (n + 1)) W' → FXv m0 L m' → Q m')
    (hG : (gsq K [22, 22, 23, 23, 23, 59] (n + 1)).1 = 0 → ∀ (m' : dM) (W' : gR) (st' : mSt), TIv K V P m0 L s cf cw (cu + 1) (n + 7) W' st' Ds m' → WM (mUse V n st) W W' st' → Q m') : c_X12_tellUse_70 6 m Q := by
  have hs : s ≤ 1 := by omega
  have hC5 := hC.2.2.2.2
  have sd := hF.sd hsd
  have fm := dMulE (X := 8) (Y := (s : Int)) (x := (8 : Int32)) (y := m.1 70 19) (by decide) sd.1 (by omega) (by omega)
  have fx := dAddE (X := 8 * (s : Int)) (Y := (cu : Int)) (x := (8 : Int32) * m.1 70 19) (y := m.1 86 s) fm hC.2.2.1 (by omega) (by omega)
  have gG : gsq K [22, 22, 23, 23, 23, 59] (n + 1) = rb (rb (rb (rb (rb (gnd K 22 (n + 1)) (gnd K 22)) (gnd K 23)) (gnd K 23)) (gnd K 23)) (gnd K 59) := by
    have : gsq K [22, 22, 23, 23, 23, 59] (n + 1) = rb (gnd K 22 (n + 1)) (gsq K [22, 23, 23, 23, 59]) := rfl
    rw [this, gsq_r, gsq_r, gsq_r, gsq_r, gsq_r, rb_id]
  rw [gG] at hB hG
  refine v_X12_tellUse_70 ⟨by omega, ?_⟩
  rw [sd.2]
  generalize hX : (8 : Int32) * m.1 70 19 + m.1 86 s = X at fx ⊢
  have eX : X.toNatClampNeg = 8 * s + cu := by
    have := d_cl (x := X) (by omega)
    omega
  have e0 : (m.1 70 11).toInt = ((n + 1 : Nat) : Int) := (hS.1 rfl).2.1
  have lv1 : lvK K (n + 1) := (hS.1 rfl).2.2.2.1
  have n1 : n + 1 ≤ 400 := (hS.1 rfl).2.2.1
  refine Wp.deep (q_named hv hP hR hS hC.2.2.2.1 (by omega) (fun w => by have := hW w; omega) (fun m1 W1 c1 h1 hw1 => ?_)) (Nat.le_of_ble_eq_true rfl)
  have U1 : UFv s cu m m1 := ⟨⟨fun k a _ => c1.1 k a, c1.2.1, c1.2.2⟩, fun k j h1 h2 _ => by rw [c1.1 k (by omega)]⟩
  have hW1 : (gnd K 22 (n + 1)).1 = 0 → W1.1 ≠ 0 → W1.2 < n + 2 := fun z w => by
    rcases hw1 z with ⟨-, e⟩ | ⟨-, e⟩
    · rw [e] at w ⊢
      by_cases w0 : W.1 = 0
      · rw [wadd_z w0]; show n + 1 < n + 2; omega
      · rw [wadd_n w0]; have := hW w0; omega
    · rw [e] at w ⊢; have := hW w; omega
  refine Wp.deep (q_knownFlat hv hP (hR.cx c1) h1 (hC.cx c1).2.2.2.1 (by omega) (fun z w => by rw [(gnd_0 z).1]; exact hW1 z w) (fun r2 m2 W2 c2 h2 hw2 => ?_)) (Nat.le_of_ble_eq_true rfl)
  rw [eX]
  have U2 : UFv s cu m (dSet m2 87 (8 * s + cu) r2) := (U1.cx c2).set (by decide) rfl
  have S2 : ST K P (dSet m2 87 (8 * s + cu) r2) (rb (gnd K 22 (n + 1)) (gnd K 22)) W2 := h2.k (by decide)
  have hw2' : (rb (gnd K 22 (n + 1)) (gnd K 22)).1 = 0 → ((∃ k : Nat, k < cf + cu ∧ m.2.1 78 k = V (n + 2) ∧ 0 ≤ (m.1 79 k).toInt ∧ r2 = m.1 79 k) ∧ W2 = W1) ∨ ((∀ k : Nat, k < cf + cu → m.2.1 78 k = V (n + 2) → (m.1 79 k).toInt < 0) ∧ r2 = -1 ∧ W2 = wadd W1 (4, n + 2)) := fun z => by
    have := hw2 z
    rw [(gnd2_z z).1, c1.2.2, c1.1 79 (by decide)] at this
    exact this
  have hW2 : (rb (gnd K 22 (n + 1)) (gnd K 22)).1 = 0 → W2.1 ≠ 0 → W2.2 < n + 3 := fun z w => by
    have z1 := (rb_z z).1
    rcases hw2' z with ⟨-, e⟩ | ⟨-, -, e⟩
    · rw [e] at w ⊢; have := hW1 z1 w; omega
    · rw [e] at w ⊢
      by_cases w0 : W1.1 = 0
      · rw [wadd_z w0]; show n + 2 < n + 3; omega
      · rw [wadd_n w0]; have := hW1 z1 w0; omega
  have A2 : ∀ j : Nat, (dSet m2 87 (8 * s + cu) r2).1 87 j = if j = 8 * s + cu then r2 else m.1 87 j := fun j => by
    rw [dSet_e, c2.1 87 (by decide), c1.1 87 (by decide)]
    by_cases q : j = 8 * s + cu
    · rw [if_pos ⟨rfl, q⟩, if_pos q]
    · rw [if_neg (fun w => q w.2), if_neg q]
  have B2 : ∀ k : Nat, k = 88 ∨ k = 89 ∨ k = 90 → (dSet m2 87 (8 * s + cu) r2).1 k = m.1 k := fun k e => by rw [dSet_k (by omega), c2.1 k (by omega), c1.1 k (by omega)]
  refine ⟨by omega, ?_⟩
  generalize dSet m2 87 (8 * s + cu) r2 = M2 at U2 S2 A2 B2 ⊢
  refine Wp.deep (q_bounded hv hP (hR.uf U2.1) S2 (fun z w => by rw [(gnd2_z z).2.2.1]; exact hW2 z w) (fun r3 m3 W3 c3 h3 hw3 => ⟨by omega, ?_⟩)) (Nat.le_of_ble_eq_true rfl)
  have U3 : UFv s cu m (dSet m3 88 (8 * s + cu) r3) := (U2.cx c3).set (by decide) rfl
  have S3 : ST K P (dSet m3 88 (8 * s + cu) r3) (rb (rb (gnd K 22 (n + 1)) (gnd K 22)) (gnd K 23)) W3 := h3.k (by decide)
  have hw3' : (rb (rb (gnd K 22 (n + 1)) (gnd K 22)) (gnd K 23)).1 = 0 → rb (rb (gnd K 22 (n + 1)) (gnd K 22)) (gnd K 23) = (0, n + 4) ∧ W3 = bX V 1 19 (n + 3) W2 := fun z => by
    have a := hw3 z
    have z2 := (rb_z z).1
    rw [(gnd2_z z2).2.2.1] at a z ⊢
    exact ⟨(gnd_0 z).1, a.2⟩
  have hW3 : (rb (rb (gnd K 22 (n + 1)) (gnd K 22)) (gnd K 23)).1 = 0 → W3.1 ≠ 0 → W3.2 < n + 4 := fun z => by
    rw [(hw3' z).2]
    exact bX_lt (fun w => by have := hW2 (rb_z z).1 w; omega) (by omega)
  have hr3 : (rb (rb (gnd K 22 (n + 1)) (gnd K 22)) (gnd K 23)).1 = 0 → r3 = (V (n + 3)).toInt32 := fun z => by
    have a := (hw3 z).1
    rw [(gnd2_z (rb_z z).1).2.2.1] at a
    exact a
  have A3 : ∀ j : Nat, (dSet m3 88 (8 * s + cu) r3).1 88 j = if j = 8 * s + cu then r3 else m.1 88 j := fun j => by
    rw [dSet_e, c3.1 88 (by decide), B2 88 (by decide)]
    by_cases q : j = 8 * s + cu
    · rw [if_pos ⟨rfl, q⟩, if_pos q]
    · rw [if_neg (fun w => q w.2), if_neg q]
  have B3 : ∀ k : Nat, k = 89 ∨ k = 90 → (dSet m3 88 (8 * s + cu) r3).1 k = m.1 k := fun k e => by rw [dSet_k (by omega), c3.1 k (by omega), B2 k (by omega)]
  have C3 : (dSet m3 88 (8 * s + cu) r3).1 87 = M2.1 87 := by rw [dSet_k (by decide), c3.1 87 (by decide)]
  generalize dSet m3 88 (8 * s + cu) r3 = M3 at U3 S3 A3 B3 C3 ⊢
  refine Wp.deep (q_bounded hv hP (hR.uf U3.1) S3 (fun z w => by rw [(hw3' z).1]; exact hW3 z w) (fun r4 m4 W4 c4 h4 hw4 => ⟨by omega, ⟨by omega, ?_⟩⟩)) (Nat.le_of_ble_eq_true rfl)
  have U4 : UFv s cu m (dSet m4 89 (8 * s + cu) r4) := (U3.cx c4).set (by decide) rfl
  have S4 : ST K P (dSet m4 89 (8 * s + cu) r4) (rb (rb (rb (gnd K 22 (n + 1)) (gnd K 22)) (gnd K 23)) (gnd K 23)) W4 := h4.k (by decide)
  have hw4' : (rb (rb (rb (gnd K 22 (n + 1)) (gnd K 22)) (gnd K 23)) (gnd K 23)).1 = 0 → rb (rb (rb (gnd K 22 (n + 1)) (gnd K 22)) (gnd K 23)) (gnd K 23) = (0, n + 5) ∧ r4.toInt = iV V (n + 4) ∧ W4 = bX V 0 23 (n + 4) W3 := fun z => by
    have a := hw4 z
    have z2 := (rb_z z).1
    rw [(hw3' z2).1] at a z ⊢
    exact ⟨(gnd_0 z).1, by rw [a.1]; rfl, a.2⟩
  have hW4 : (rb (rb (rb (gnd K 22 (n + 1)) (gnd K 22)) (gnd K 23)) (gnd K 23)).1 = 0 → W4.1 ≠ 0 → W4.2 < n + 5 := fun z => by
    rw [(hw4' z).2.2]
    exact bX_lt (fun w => by have := hW3 (rb_z z).1 w; omega) (by omega)
  have tail : ∀ x : Int32, (W4.1 = 0 → (rb (rb (rb (gnd K 22 (n + 1)) (gnd K 22)) (gnd K 23)) (gnd K 23)).1 = 0 → W3.1 = 0 → x.toInt = iV V (n + 4)) → c_X12_bounded_70 5 x (23 : Int32) (dSet m4 89 (8 * s + cu) r4) (fun r5 m5 => ((0 ≤ X.toInt ∧ X.toInt < 16) ∧ c_X12_endsName_70 5 (m.1 70 11) (-1 : Int32) (dSet m5 90 (8 * s + cu) r5) (fun m6 => (((m6.1 70 13).toInt ≠ 0 → j_X12_tellUse_70_118 (5 + 1) m6 Q) ∧ ((m6.1 70 13).toInt = 0 → ((0 ≤ (m6.1 70 19).toInt ∧ (m6.1 70 19).toInt < 2) ∧ ((0 ≤ (m6.1 70 19).toInt ∧ (m6.1 70 19).toInt < 2) ∧ j_X12_tellUse_70_118 (5 + 1) (dSet m6 86 (m6.1 70 19).toNatClampNeg ((m6.1 86 (m6.1 70 19).toNatClampNeg) + (1 : Int32))) Q))))))) := by
    intro x hx
    have hr4 : (rb (rb (rb (gnd K 22 (n + 1)) (gnd K 22)) (gnd K 23)) (gnd K 23)).1 = 0 → r4 = (V (n + 4)).toInt32 := fun z => by
      have a := (hw4 z).1
      rw [(hw3' (rb_z z).1).1] at a
      exact a
    have A4 : ∀ j : Nat, (dSet m4 89 (8 * s + cu) r4).1 89 j = if j = 8 * s + cu then r4 else m.1 89 j := fun j => by
      rw [dSet_e, c4.1 89 (by decide), B3 89 (by decide)]
      by_cases q : j = 8 * s + cu
      · rw [if_pos ⟨rfl, q⟩, if_pos q]
      · rw [if_neg (fun w => q w.2), if_neg q]
    have B4 : (dSet m4 89 (8 * s + cu) r4).1 90 = m.1 90 := by rw [dSet_k (by decide), c4.1 90 (by decide), B3 90 (by decide)]
    have C4 : ∀ k : Nat, k = 87 ∨ k = 88 → (dSet m4 89 (8 * s + cu) r4).1 k = M3.1 k := fun k e => by rw [dSet_k (by omega), c4.1 k (by omega)]
    generalize dSet m4 89 (8 * s + cu) r4 = M4 at U4 S4 A4 B4 C4 ⊢
    refine Wp.deep (q_bounded hv hP (hR.uf U4.1) S4 (fun z w => by rw [(hw4' z).1]; exact hW4 z w) (fun r5 m5 W5 c5 h5 hw5 => ⟨by omega, ?_⟩)) (Nat.le_of_ble_eq_true rfl)
    have U5 : UFv s cu m (dSet m5 90 (8 * s + cu) r5) := (U4.cx c5).set (by decide) rfl
    have S5 : ST K P (dSet m5 90 (8 * s + cu) r5) (rb (rb (rb (rb (gnd K 22 (n + 1)) (gnd K 22)) (gnd K 23)) (gnd K 23)) (gnd K 23)) W5 := h5.k (by decide)
    have hw5' : (rb (rb (rb (rb (gnd K 22 (n + 1)) (gnd K 22)) (gnd K 23)) (gnd K 23)) (gnd K 23)).1 = 0 → rb (rb (rb (rb (gnd K 22 (n + 1)) (gnd K 22)) (gnd K 23)) (gnd K 23)) (gnd K 23) = (0, n + 6) ∧ W5 = bX V x.toInt 23 (n + 5) W4 := fun z => by
      have a := hw5 z
      have z2 := (rb_z z).1
      rw [(hw4' z2).1] at a z ⊢
      exact ⟨(gnd_0 z).1, a.2⟩
    have hr5 : (rb (rb (rb (rb (gnd K 22 (n + 1)) (gnd K 22)) (gnd K 23)) (gnd K 23)) (gnd K 23)).1 = 0 → r5 = (V (n + 5)).toInt32 := fun z => by
      have a := (hw5 z).1
      rw [(hw4' (rb_z z).1).1] at a
      exact a
    have A5 : ∀ j : Nat, (dSet m5 90 (8 * s + cu) r5).1 90 j = if j = 8 * s + cu then r5 else m.1 90 j := fun j => by
      rw [dSet_e, c5.1 90 (by decide), B4]
      by_cases q : j = 8 * s + cu
      · rw [if_pos ⟨rfl, q⟩, if_pos q]
      · rw [if_neg (fun w => q w.2), if_neg q]
    have C5 : ∀ k : Nat, k = 87 ∨ k = 88 ∨ k = 89 → (dSet m5 90 (8 * s + cu) r5).1 k = M4.1 k := fun k e => by rw [dSet_k (by omega), c5.1 k (by omega)]
    generalize dSet m5 90 (8 * s + cu) r5 = M5 at U5 S5 A5 C5 ⊢
    have F5 := hF.uf hL h7 U5
    have R5 := hR.uf U5.1
    have U5 := U5.1
    have N5 : nms M5 = ((cf + cu : Nat) : Int) := by unfold nms; rw [U5.2.1 20 (by decide) (by decide) (by decide) (by decide) (by decide)]; exact hC.2.2.2.1
    refine Wp.deep (q_endsName (N := cf + cu) (tok := n + 1) hv R5 S5 e0 n1 N5 (by omega) (fun z6 m6 c6 h6 => ?_) (fun z6 m6 E6 h6 => ?_)) (Nat.le_of_ble_eq_true rfl)
    · have f6 := h6.fl
      exact ⟨fun _ => v_X12_tellUse_70_118 (hB z6 m6 W5 h6 (F5.cx c6)), fun q => absurd (f6.2.mp q) z6⟩
    · have f6 := h6.fl
      have F6 := F5.en E6
      have sd6 := F6.sd hsd
      rw [sd6.2]
      refine ⟨fun q => absurd (f6.2.mpr z6) q, fun _ => ⟨by omega, ⟨by omega, v_X12_tellUse_70_118 ?_⟩⟩⟩
      have z5 := (rb_z z6).1
      have z4 := (rb_z z5).1
      have z3 := (rb_z z4).1
      have z2 := (rb_z z3).1
      have z1 := (rb_z z2).1
      have t6 : rb (rb (rb (rb (rb (gnd K 22 (n + 1)) (gnd K 22)) (gnd K 23)) (gnd K 23)) (gnd K 23)) (gnd K 59) = (0, n + 7) := by
        have z := z6
        rw [(hw5' z5).1, rb_0] at z ⊢
        exact (gnd_0 z).1
      have h6' := h6
      rw [t6] at h6'
      have yn : M5.2.1 76 (n + 1) = V (n + 1) := by
        have hk1 := (gnd_0 z1).2.1
        exact (R5 (n + 1) n1 lv1).2.2.1 (by omega)
      rw [yn] at E6
      have e86 : (m6.1 86 s).toInt = (cu : Int) := by rw [E6.1 86 (by decide) (by decide), U5.1 86 (by decide) (by decide)]; exact hC.2.2.1
      have jj : ∀ j : Nat, j = 12 ∨ j = 40 ∨ j = 46 → m6.1 70 j = m.1 70 j := fun j e => by rw [E6.2.1 j (by omega) (by omega) (by omega) (by omega) (by omega) (by omega), U5.2.1 j (by omega) (by omega) (by omega) (by omega) (by omega)]
      have tt6 : tt m6 = ((n + 7 : Nat) : Int) := (h6'.1 rfl).2.1
      have tt0 : tt m = ((n + 1 : Nat) : Int) := e0
      have SS : ST K P (dSet m6 86 s (m6.1 86 s + 1)) (0, n + 7) W5 := h6'.k (by decide)
      have RR : RM K V P (dSet m6 86 s (m6.1 86 s + 1)) := R5.of (fun k a b => by rw [dSet_k (by omega)]; exact E6.1 k (by omega) (by omega)) (by show m6.2.1 76 = M5.2.1 76; exact E6.2.2.2.2.1 76 (by decide))
      have QQ : LQ s (dSet m6 86 s (m6.1 86 s + 1)) := hQ.j (jj 12 (by omega)) (jj 46 (by omega)) (jj 40 (by omega)) (by show tt m ≤ tt m6; omega)
      have FF : FXv m0 L (dSet m6 86 s (m6.1 86 s + 1)) := F6.set (by decide) (by decide) (by unfold lvS; omega)
      have CC : CT s cf cw (cu + 1) (dSet m6 86 s (m6.1 86 s + 1)) := by
        refine ⟨?_, ?_, by rw [dSet_s]; exact d_inc e86 (by omega), ?_, by omega, by omega, by omega⟩
        · rw [dSet_k (by decide), E6.1 80 (by decide) (by decide), U5.1 80 (by decide) (by decide)]; exact hC.1
        · rw [dSet_k (by decide), E6.1 82 (by decide) (by decide), U5.1 82 (by decide) (by decide)]; exact hC.2.1
        · show (m6.1 70 20).toInt = _
          rw [E6.2.2.1]
          omega
      have e3 := (hw3' z3).2
      have e4 := (hw4' z4).2.2
      have e5 := (hw5' z5).2
      have w5lt : W5.1 ≠ 0 → W5.2 < n + 7 := by
        rw [e5]
        exact bX_lt (fun w => by have := hW4 z4 w; omega) (by omega)
      have stays : W2.1 ≠ 0 → W5 = W2 := fun w => by rw [e5, e4, e3, bX_n w, bX_n w, bX_n w]
      have key : ∃ st' : mSt, (W5.1 = 0 → NH V s st' (dSet m6 86 s (m6.1 86 s + 1)) ∧ st'.1.length = cf ∧ st'.2.1.length = cw ∧ st'.2.2.1.length = cu + 1) ∧ WM (mUse V n st) W W5 st' := by
        unfold WM
        by_cases w0 : W.1 = 0
        · obtain ⟨⟨hN1, hH1⟩, hl1, hl2, hl3⟩ := hN w0
          have kn : (∃ k : Nat, k < cf + cu ∧ m.2.1 78 k = V (n + 1)) ↔ knw V st (V (n + 1)) = true := by
            rw [← hl1, ← hl3]; exact hN1.kn
          have wr : ∀ (c i : Nat), W5 = (c + 1, i) → mUse V n st = ((c + 1, i), st) → ∃ st' : mSt, (W5.1 = 0 → NH V s st' (dSet m6 86 s (m6.1 86 s + 1)) ∧ st'.1.length = cf ∧ st'.2.1.length = cw ∧ st'.2.2.1.length = cu + 1) ∧ (W.1 ≠ 0 → W5 = W) ∧ (W.1 = 0 → ((mUse V n st).1.1 = 0 → W5.1 = 0 ∧ st' = (mUse V n st).2) ∧ ((mUse V n st).1.1 ≠ 0 → W5 = (mUse V n st).1)) := fun c i a b => by
            rw [a, b]
            exact ⟨st, fun q => absurd q (Nat.succ_ne_zero c), fun q => absurd w0 q, fun _ => ⟨fun q => absurd q (Nat.succ_ne_zero c), fun _ => rfl⟩⟩
          rcases hw1 z1 with ⟨ex, e1⟩ | ⟨ex, e1⟩
          · have kt := kn.mp ex
            rw [wadd_z w0] at e1
            have e2 : W2 = (3, n + 1) := by
              rcases hw2' z2 with ⟨-, e⟩ | ⟨-, -, e⟩
              · rw [e, e1]
              · rw [e, e1, wadd_n (Nat.succ_ne_zero 2)]
            refine wr 2 (n + 1) (by rw [stays (by rw [e2]; exact Nat.succ_ne_zero 2), e2]) ?_
            unfold mUse
            rw [kt]
            rfl
          · have kf : knw V st (V (n + 1)) = false := by
              cases hh : knw V st (V (n + 1)) with
              | false => rfl
              | true =>
                obtain ⟨k, k1, k2⟩ := kn.mpr hh
                exact absurd k2 (ex k k1)
            rcases hw2' z2 with ⟨⟨k, k2, k3, k4, k5⟩, e2⟩ | ⟨k1, k2, e2⟩
            · obtain ⟨h, fh, vh⟩ := hN1.sm (by omega) k3 k4
              have mU : mUse V n st = bnd V (n + 3) 1 19 (bnd V (n + 4) 0 23 (bnd V (n + 5) (iV V (n + 4)) 23 ((0, 0), (st.1, st.2.1, st.2.2.1 ++ [(n, h)], st.2.2.2)) st) st) st := by
                unfold mUse
                rw [kf, fh]
                rfl
              rw [e1] at e2
              rw [e2] at e3
              unfold bX at e3 e4 e5
              by_cases b3 : (1 : Int) ≤ iV V (n + 3) ∧ iV V (n + 3) ≤ 19
              · rw [if_pos b3] at e3
                rw [e3] at e4
                by_cases b4 : (0 : Int) ≤ iV V (n + 4) ∧ iV V (n + 4) ≤ 23
                · rw [if_pos b4] at e4
                  have ex5 := hx (by rw [e4]; exact w0) z4 (by rw [e3]; exact w0)
                  rw [ex5, e4] at e5
                  by_cases b5 : iV V (n + 4) ≤ iV V (n + 5) ∧ iV V (n + 5) ≤ 23
                  · rw [if_pos b5] at e5
                    have mU' : mUse V n st = ((0, 0), (st.1, st.2.1, st.2.2.1 ++ [(n, h)], st.2.2.2)) := by
                      rw [mU]
                      unfold bnd
                      rw [if_pos b3, if_pos b4, if_pos b5]
                    rw [mU', e5]
                    refine ⟨(st.1, st.2.1, st.2.2.1 ++ [(n, h)], st.2.2.2), fun _ => ⟨⟨?_, ?_⟩, hl1, hl2, ?_⟩, fun q => absurd w0 q, fun _ => ⟨fun _ => ⟨w0, rfl⟩, fun q => absurd rfl q⟩⟩
                    · refine hN1.use (N := cf + cu) (v := (-1 : Int32)) (by omega) (by decide) (fun j => ?_) ?_ ?_ (fun j => ?_)
                      · rw [dSet_k (by decide), E6.2.2.2.1 j, U5.1 79 (by decide) (by decide)]
                      · rw [dSet_k (by decide), E6.1 83 (by decide) (by decide), U5.1 83 (by decide) (by decide)]
                      · rw [dSet_k (by decide), E6.1 84 (by decide) (by decide), U5.1 84 (by decide) (by decide)]
                      · show m6.2.1 78 j = _
                        rw [E6.2.2.2.2.2.1 j, U5.2.2]
                    · refine hH1.use (v := r2) (by rw [k5]; exact vh) (fun j => ?_) (fun j => ?_) (fun j => ?_) (fun j => ?_) (fun k e => ?_)
                      · rw [dSet_k (by decide), E6.1 87 (by decide) (by decide), C5 87 (by decide), C4 87 (by decide), C3, A2, hl3]
                      · rw [dSet_k (by decide), E6.1 88 (by decide) (by decide), C5 88 (by decide), C4 88 (by decide), A3, hl3, hr3 z3]
                      · rw [dSet_k (by decide), E6.1 89 (by decide) (by decide), C5 89 (by decide), A4, hl3, hr4 z4]
                      · rw [dSet_k (by decide), E6.1 90 (by decide) (by decide), A5, hl3, hr5 z5]
                      · rw [dSet_k (by omega), E6.1 k (by omega) (by omega), U5.1 k (by omega) (by omega)]
                    · show (st.2.2.1 ++ [(n, h)]).length = cu + 1
                      rw [List.length_append, hl3]; rfl
                  · rw [if_neg b5, wadd_z w0] at e5
                    refine wr 4 (n + 5) e5 ?_
                    rw [mU]
                    unfold bnd
                    rw [if_pos b3, if_pos b4, if_neg b5]
                · rw [if_neg b4, wadd_z w0] at e4
                  rw [e4] at e5
                  refine wr 4 (n + 4) (by rw [e5]; split; rfl; exact wadd_n (Nat.succ_ne_zero 4)) ?_
                  rw [mU]
                  unfold bnd
                  rw [if_pos b3, if_neg b4]
              · rw [if_neg b3, wadd_z w0] at e3
                have e4' : W4 = (5, n + 3) := by rw [e4, e3]; split; rfl; exact wadd_n (Nat.succ_ne_zero 4)
                refine wr 4 (n + 3) (by rw [e5, e4']; split; rfl; exact wadd_n (Nat.succ_ne_zero 4)) ?_
                rw [mU]
                unfold bnd
                rw [if_neg b3]
            · have fh := hN1.nn (y := V (n + 2)) (fun k hk he => k1 k (by omega) he)
              have e2' : W2 = (4, n + 2) := by rw [e2, e1, wadd_z w0]
              refine wr 3 (n + 2) (by rw [stays (by rw [e2']; exact Nat.succ_ne_zero 3), e2']) ?_
              unfold mUse
              rw [kf, fh]
              rfl
        · have e1 : W1 = W := by
            rcases hw1 z1 with ⟨-, e⟩ | ⟨-, e⟩
            · rw [e, wadd_n w0]
            · exact e
          have e2 : W2 = W := by
            rcases hw2' z2 with ⟨-, e⟩ | ⟨-, -, e⟩
            · rw [e, e1]
            · rw [e, e1, wadd_n w0]
          have e5' : W5 = W := by rw [stays (by rw [e2]; exact w0), e2]
          rw [e5']
          exact ⟨st, fun q => absurd q w0, fun _ => rfl, fun q => absurd q w0⟩
      obtain ⟨st', kn, kwn⟩ := key
      exact hG z6 _ W5 st' ⟨SS, RR, FF, CC, QQ, w5lt, kn, hD.of (fun c h1 h2 => by rw [dSet_k (by omega), E6.1 c (by omega) (by omega), U5.1 c (by omega) (by omega)]) (jj 40 (by omega)) (jj 46 (by omega))⟩ kwn
  refine ⟨fun q => ⟨by omega, tail r4 (fun _ z _ => (hw4' z).2.1)⟩, fun q => tail (0 : Int32) (fun w z w3 => ?_)⟩
  exfalso
  have e23 : (23 : Int32).toInt = 23 := by decide
  have a := hw4' z
  rw [a.2.2] at w
  unfold bX at w
  rw [if_neg (by omega), wadd_z w3] at w
  exact absurd w (Nat.succ_ne_zero 4)
end RUV
end
section
/-! THE REFERENCE's tells, 4: one of them -/
def VFv (s : Nat) (m mm : dM) : Prop := VF m mm ∧ ∀ k j : Nat, 91 ≤ k → k ≤ 94 → j ≠ s → mm.1 k j = m.1 k j
section ROV
variable {K : Nat → Int} {V : Nat → Int64} {P : Nat → Nat} {m0 m : dM} {L s cf cw cu n : Nat} {W : gR} {st : mSt} {Ds : Nat → lD}
theorem VFv.of {b : dM} (hc : Cx m b) : VFv s m b := ⟨VF.of hc, fun k j h1 h2 _ => by rw [hc.1 k (by omega)]⟩
theorem VFv.cx {a b : dM} (h : VFv s m a) (hc : Cx a b) : VFv s m b := ⟨h.1.cx hc, fun k j h1 h2 h3 => by rw [hc.1 k (by omega)]; exact h.2 k j h1 h2 h3⟩
theorem VFv.set {a : dM} {k j : Nat} {v : Int32} (h : VFv s m a) (hk : 91 ≤ k ∧ k ≤ 94) (hj : j = s) : VFv s m (dSet a k j v) := ⟨h.1.set hk, fun c i h1 h2 h3 => by
  rw [dSet_e, if_neg (fun w => h3 (by omega))]
  exact h.2 c i h1 h2 h3⟩
theorem FXv.vf {mm : dM} (h : FXv m0 L m) (hL : L + s = 1) (hu : VFv s m mm) : FXv m0 L mm := ⟨h.1.vf hu.1, fun k j q => by
  have b := lvS_k q
  by_cases q2 : 91 ≤ k ∧ k ≤ 94
  · rw [hu.2 k j q2.1 q2.2 (by unfold lvS at q; omega)]; exact h.2 k j q
  · rw [hu.1.1 k (by omega) q2]; exact h.2 k j q⟩
theorem lTl_n {n : Nat} {Ds : Nat → lD} (h : ¬ (3 ≤ K n ∧ K n ≤ 6)) : lTl K V n Ds = Ds := by
  funext j
  unfold lTl
  rw [if_neg (fun q => h q.1)]
theorem TIv.fin {mm : dM} {n' : Nat} {W' : gR} {z : Option Nat × Option Nat × Option Nat} (hT : TIv K V P m0 L s cf cw cu n W st Ds m) (hL : L + s = 1) (hu : VFv s m mm) (hS : ST K P mm (0, n') W') (hn : n ≤ n') (hw : W'.1 ≠ 0 → W'.2 < n') (h0 : W'.1 = 0 → W.1 = 0) (hH : W'.1 = 0 → HM V s st m → HM V s (st.1, st.2.1, st.2.2.1, z) mm) : TIv K V P m0 L s cf cw cu n' W' (st.1, st.2.1, st.2.2.1, z) Ds mm := by
  obtain ⟨hS0, hR, hF, hC, hQ, hW, hN, hD⟩ := hT
  have hF1 := hF.vf hL hu
  have hu := hu.1
  have t1 : tt mm = (n' : Int) := (hS.1 rfl).2.1
  have t0 : tt m = (n : Int) := (hS0.1 rfl).2.1
  refine ⟨hS, hR.vf hu, hF1, ?_, hQ.j (hu.2.1 12 (by decide) (by decide) (by decide) (by decide) (by decide)) (hu.2.1 46 (by decide) (by decide) (by decide) (by decide) (by decide)) (hu.2.1 40 (by decide) (by decide) (by decide) (by decide) (by decide)) (by omega), hw, fun w => ?_, hD.of (fun c h1 h2 => hu.1 c (by omega) (by omega)) (hu.2.1 40 (by decide) (by decide) (by decide) (by decide) (by decide)) (hu.2.1 46 (by decide) (by decide) (by decide) (by decide) (by decide))⟩
  · unfold CT nms
    rw [hu.1 80 (by decide) (by decide), hu.1 82 (by decide) (by decide), hu.1 86 (by decide) (by decide), hu.2.1 20 (by decide) (by decide) (by decide) (by decide) (by decide)]
    exact hC
  · obtain ⟨a, b⟩ := hN (h0 w)
    exact ⟨⟨(a.1.of (hu.1 79 (by decide) (by decide)) (hu.1 83 (by decide) (by decide)) (hu.1 84 (by decide) (by decide)) (by rw [hu.2.2]) : NM V s st mm), hH w a.2⟩, b⟩
theorem x_one {Q : dM → Prop} (hL : L + s = 1) (hsd : (m0.1 70 19).toInt = (s : Int)) (hv : ∀ i, vk (K i)) (hP : ∀ i j : Nat, i < j → lvK K j → P i < P j) (hV : ∀ n : Nat, K n = 23 → 0 ≤ (V n).toInt32.toInt ∧ (V n).toInt32.toInt ≤ 9999) (hT : TIv K V P m0 L s cf cw cu n W st Ds m)
    (hB : (gTell K cf cw cu n).1 ≠ 0 → ∀ (m' : dM) (W' : gR), ST K P m' (gTell K cf cw cu n) W' → FXv m0 L m' → Q m')
    (hG : (gTell K cf cw cu n).1 = 0 → ∀ (m' : dM) (W' : gR) (st' : mSt), TIv K V P m0 L s (cf + ct (K n) 0) (cw + ct (K n) 1) (cu + ct (K n) 2) (gTell K cf cw cu n).2 W' st' (lTl K V n Ds) m' → WN K V n W st W' st' → Q m') : c_X12_tellOne_70 8 m Q := by
  have hs : s ≤ 1 := by omega
  have hT' := hT
  obtain ⟨hS, hR, hF, hC, hLQ, hW, hN, hD⟩ := hT'
  have hC5 := hC.2.2.2.2
  have sd := hF.sd hsd
  obtain ⟨b1, b2, b3, b4, b5⟩ := hS.1 rfl
  have b2 : (m.1 70 11).toInt = (n : Int) := b2
  have b3 : n ≤ 400 := b3
  have b4 : lvK K n := b4
  have tr : (0 ≤ (m.1 70 11).toInt ∧ (m.1 70 11).toInt < 403) := by omega
  have ek : (m.1 73 (m.1 70 11).toNatClampNeg).toInt = rk (K n) := by
    rw [d_cn b2]
    exact (hR n b3 b4).1
  obtain ⟨ra1, ra2, ra3⟩ := rk_rg (hv n)
  have kn : ∀ c : Int, 0 ≤ c ∧ c ≤ 21 → (m.1 73 (m.1 70 11).toNatClampNeg).toInt = 20 + c → K n = c := fun c hc e => by
    have := ra1 (by omega)
    have := ra2 this
    omega
  have fin : ∀ m', Q m' → j_X12_tellOne_70_371 8 m' Q := fun m' h => v_X12_tellOne_70_371 h
  have ct0 : ∀ c : Int, (c ≠ 0 ∧ c ≠ 1 ∧ c ≠ 2) → ct c 0 = 0 ∧ ct c 1 = 0 ∧ ct c 2 = 0 := fun c h => by
    unfold ct
    rw [if_neg h.1, if_neg h.2.1, if_neg h.2.2]
    exact ⟨rfl, rfl, rfl⟩
  -- a law, or none
  have l354 : ∀ (x1 : Int32) (mm : dM) (r : gR), Cx m mm → ST K P mm r W → (r.1 = 0 → r = (0, n) ∧ (0 ≤ x1.toInt ∧ x1.toInt ≤ 3) ∧ (3 ≤ K n ∧ K n ≤ 6) ∧ x1.toInt = K n - 3) → (r.1 ≠ 0 → r = gTell K cf cw cu n) → j_X12_tellOne_70_354 8 x1 mm Q := by
    intro x1 mm r cm hr h0 h1
    have f := hr.fl
    have ef : (mm.1 70 13).toInt = flt mm := rfl
    refine v_X12_tellOne_70_354 ⟨fun hc => ?_, fun hc => ?_⟩
    · have z : r.1 = 0 := f.2.mp (by omega)
      obtain ⟨er, hx, ⟨k3, k6⟩, hx3⟩ := h0 z
      obtain ⟨k, hk⟩ : ∃ k : Nat, x1.toInt = (k : Int) := ⟨x1.toInt.toNat, by omega⟩
      have hk4 : k < 4 := by omega
      rw [er] at hr
      have gT : gTell K cf cw cu n = gLaw K n := by
        unfold gTell
        rw [if_neg (by omega), if_neg (by omega), if_neg (by omega), if_pos ⟨k3, k6⟩]
      refine Wp.deep (q_goesOn (hR.cx cm) hr (fun _ => by show K n ≠ 24 ∧ K n ≠ 25; omega) (fun m1 c1 s1 => ?_)) (Nat.le_of_ble_eq_true rfl)
      have s1 : ST K P m1 (gst n) W := s1
      have cm1 := cm.tr c1
      have F1 := hF.cx cm1
      have l1 : opn m1 = opn m ∧ cds m1 = cds m ∧ brs m1 = brs m := by
        unfold opn cds brs
        rw [cm1.2.1 12 (by decide) (by decide) (by decide) (by decide) (by decide), cm1.2.1 46 (by decide) (by decide) (by decide) (by decide) (by decide), cm1.2.1 40 (by decide) (by decide) (by decide) (by decide) (by decide)]
        exact ⟨rfl, rfl, rfl⟩
      have t0 : tt m = (n : Int) := b2
      obtain ⟨q1, q2, q3⟩ := hLQ
      refine Wp.deep (x_tellLaw hs (F1.sd hsd).1 hk hk4 hv (hR.cx cm1) hV s1 ⟨by omega, by omega⟩ (by omega) (fun z1 => ?_) (fun m2 x2 xx2 s2 lr2 => fin m2 ?_)) (Nat.le_of_ble_eq_true rfl)
      · have t1 := (s1.1 z1).2.1
        rw [(gst_z z1).1] at t1
        have t1 : tt m1 = ((n + 1 : Nat) : Int) := t1
        exact ⟨by omega, by omega, by omega⟩
      · have s2 : ST K P m2 (gLaw K n) W := s2
        have lr2 : (gLaw K n).1 = 0 → LRb m2 s k (lDf (lIf K V 4 ((gst n).2 + 1))) := lr2
        rw [← gT] at s2 lr2
        have F2 : FXv m0 L m2 := ⟨⟨fun k e => (x2.1 k (by omega) (by omega)).trans (F1.1.1 k e), fun j e => (x2.2.1 j (by omega) (by omega) (by omega) (by omega) (by omega) (by omega) (by omega) (by omega) (by omega)).trans (F1.1.2.1 j e), by rw [x2.1 80 (by decide) (by decide)]; exact F1.1.2.2⟩, fun c j q => by
          have lb := lvS_k q
          have F1' := F1.2 c j q
          obtain ⟨y1, y2, y3⟩ := xx2
          rw [← F1']
          by_cases c1' : c < 95
          · rw [x2.1 c (by omega) (by omega)]
          · by_cases c2' : c = 95
            · subst c2'; exact (y1 j (by unfold lvS at q; omega)).1
            · by_cases c3' : c = 96
              · subst c3'; exact (y1 j (by unfold lvS at q; omega)).2
              · by_cases c4' : c ≤ 101
                · exact y2 c j (by omega) c4' (by unfold lvS at q; omega)
                · by_cases c5' : c = 102
                  · subst c5'; exact (y3 j (by unfold lvS at q; omega)).1
                  · have : c = 103 := by omega
                    subst this; exact (y3 j (by unfold lvS at q; omega)).2⟩
        by_cases zz : (gTell K cf cw cu n).1 = 0
        · have eT : gTell K cf cw cu n = (0, (gTell K cf cw cu n).2) := by rw [← zz]
          have nle : n ≤ (gTell K cf cw cu n).2 := by
            rw [gT] at zz ⊢
            obtain ⟨e, x1', x2', x3', x4'⟩ := gLaw_z zz
            rw [x1']
            have := x4'.1
            show n ≤ e + 1
            omega
          have cc := ct0 (K n) (by omega)
          have f2 : flt m2 = 0 := s2.fl.2.mpr zz
          have lq := x2.2.2.2 f2
          refine hG zz m2 W st ?_ ⟨fun _ => rfl, fun w => ?_⟩
          · rw [cc.1, cc.2.1, cc.2.2]
            refine ⟨by rw [← eT]; exact s2, (hR.cx cm1).of (fun k a b => x2.1 k (by omega) (by omega)) (by rw [x2.2.2.1]), F2, ?_, ⟨lq.1, by omega, by omega⟩, fun w => by have := hW w; omega, fun w => ?_, fun j hj => ?_⟩
            · have C1 := hC.cx cm1
              unfold CT nms at C1 ⊢
              rw [x2.1 80 (by decide) (by decide), x2.1 82 (by decide) (by decide), x2.1 86 (by decide) (by decide), x2.2.1 20 (by decide) (by decide) (by decide) (by decide) (by decide) (by decide) (by decide) (by decide) (by decide)]
              exact C1
            · obtain ⟨a, b⟩ := hN w
              exact ⟨⟨(a.cx cm1).1.of (x2.1 79 (by decide) (by decide)) (x2.1 83 (by decide) (by decide)) (x2.1 84 (by decide) (by decide)) (by rw [x2.2.2.1]), (a.cx cm1).2.of (fun k e => x2.1 k (by omega) (by omega))⟩, b⟩
            · unfold lTl
              by_cases ej : (j : Int) = K n - 3
              · have ejk : j = k := by omega
                rw [if_pos ⟨⟨k3, k6⟩, ej⟩, ejk]
                have g1 : gst n = (0, n + 1) := by
                  have := (rb_z (show (rb (gst n) (fun n => rb (gnd K 61 n) (gIf K 4))).1 = 0 by rw [gT] at zz; exact zz)).1
                  exact (gst_z this).1
                have l := lr2 zz
                rw [g1] at l
                exact l
              · rw [if_neg (fun q => ej q.2)]
                have lj := (hD.cx cm1) j hj
                exact lj.on (xx2.1 (4 * s + j) (by omega)).1 (xx2.1 (4 * s + j) (by omega)).2 (fun c i h1 h2 h3 => xx2.2.1 c i h1 h2 (Or.inl h3)) (fun i h => xx2.2.2 i (Or.inl h)) (by omega) (by omega)
          · have mT : mTell K V n st = ((0, 0), st) := by
              unfold mTell
              rw [if_neg (by omega), if_neg (by omega), if_neg (by omega), if_neg (by omega), if_neg (by omega), if_neg (by omega)]
            rw [mT]
            exact ⟨fun _ => ⟨w, rfl⟩, fun q => absurd rfl q⟩
        · exact hB zz m2 W s2 F2
    · have z : r.1 ≠ 0 := fun z => by have := f.2.mpr z; omega
      have er := h1 z
      rw [er] at hr z
      exact hB z mm W hr (hF.cx cm)
  have l349 : ∀ x1 : Int32, gTell K cf cw cu n = (1, n) → j_X12_tellOne_70_349 8 x1 m Q := fun x1 gT => by
    refine v_X12_tellOne_70_349 (Wp.deep (q_fail hR hS (c := 1) (by decide) (by decide) (fun m1 c1 _ h1 => l354 x1 m1 (1, n) c1 h1 (fun q => absurd q (Nat.succ_ne_zero 0)) (fun _ => gT.symm))) (Nat.le_of_ble_eq_true rfl))
  have law : (m.1 73 (m.1 70 11).toNatClampNeg).toInt < 20 ∨ 29 < (m.1 73 (m.1 70 11).toNatClampNeg).toInt ∨ (23 ≤ (m.1 73 (m.1 70 11).toNatClampNeg).toInt ∧ (m.1 73 (m.1 70 11).toNatClampNeg).toInt ≤ 26) → ((0 ≤ (m.1 70 11).toInt ∧ (m.1 70 11).toInt < 403) ∧ ((((m.1 73 (m.1 70 11).toNatClampNeg) - (23 : Int32)).toInt < 0 → j_X12_tellOne_70_349 (7 + 1) ((m.1 73 (m.1 70 11).toNatClampNeg) - (23 : Int32)) m Q) ∧ (0 ≤ ((m.1 73 (m.1 70 11).toNatClampNeg) - (23 : Int32)).toInt → ((0 ≤ (m.1 70 11).toInt ∧ (m.1 70 11).toInt < 403) ∧ (((m.1 73 (m.1 70 11).toNatClampNeg).toInt ≤ 26 → j_X12_tellOne_70_354 (7 + 1) ((m.1 73 (m.1 70 11).toNatClampNeg) - (23 : Int32)) m Q) ∧ (26 < (m.1 73 (m.1 70 11).toNatClampNeg).toInt → j_X12_tellOne_70_349 (7 + 1) ((m.1 73 (m.1 70 11).toNatClampNeg) - (23 : Int32)) m Q)))))) := fun hkd => by
    have f := dSubE (X := (m.1 73 (m.1 70 11).toNatClampNeg).toInt) (Y := 23) (x := m.1 73 (m.1 70 11).toNatClampNeg) (y := (23 : Int32)) rfl (by decide) (by omega) (by omega)
    have no : (m.1 73 (m.1 70 11).toNatClampNeg).toInt < 20 ∨ 29 < (m.1 73 (m.1 70 11).toNatClampNeg).toInt → gTell K cf cw cu n = (1, n) := fun o => by
      have nk : ¬ (0 ≤ K n ∧ K n ≤ 9) := fun q => by
        have := ra2 (by omega)
        omega
      unfold gTell
      rw [if_neg (by omega), if_neg (by omega), if_neg (by omega), if_neg (by omega), if_neg (by omega), if_neg (by omega)]
    refine ⟨tr, fun q => l349 _ (no (by omega)), fun q => ⟨tr, fun q2 => ?_, fun q2 => l349 _ (no (by omega))⟩⟩
    have := ra1 (by omega)
    have := ra2 this
    exact l354 _ m (0, n) (Cx.rf m) hS (fun _ => ⟨rfl, by omega, by omega, by omega⟩) (fun q => absurd rfl q)
  -- a number, or two
  have one : ∀ (k : Nat) (hi : Int32) (hh : Int) (z : Option Nat × Option Nat × Option Nat), (k = 93 ∨ k = 94) → hi.toInt = hh → (K n = 8 ∨ K n = 9) → mTell K V n st = bnd V (n + 1) 0 hh ((0, 0), (st.1, st.2.1, st.2.2.1, z)) st → (∀ mm : dM, mm.1 k s = (V (n + 1)).toInt32 → (∀ a : Nat, a ≠ 70 → a ≠ k → mm.1 a = m.1 a) → HM V s st m → HM V s (st.1, st.2.1, st.2.2.1, z) mm) → c_X12_goesOn_70 7 m (fun m13 => c_X12_bounded_70 7 (0 : Int32) hi m13 (fun r14 m14 => ((0 ≤ (m13.1 70 19).toInt ∧ (m13.1 70 19).toInt < 2) ∧ c_X12_must_70 7 (4 : Int32) (dSet m14 k (m13.1 70 19).toNatClampNeg r14) (fun m15 => j_X12_tellOne_70_371 (7 + 1) m15 Q)))) := by
    intro k hi hh z hk ehi hK mT hz
    have gT : gTell K cf cw cu n = rb (rb (gst n) (gnd K 23)) (gnd K 59) := by
      unfold gTell
      rw [if_neg (by omega), if_neg (by omega), if_neg (by omega), if_neg (by omega), if_neg (by omega), if_pos hK, gsq_r, gsq_r, rb_id]
    refine Wp.deep (q_goesOn hR hS (fun _ => by show K n ≠ 24 ∧ K n ≠ 25; omega) (fun m1 c1 s1 => ?_)) (Nat.le_of_ble_eq_true rfl)
    have s1 : ST K P m1 (gst n) W := s1
    have sd1 := (hF.cx c1).sd hsd
    refine Wp.deep (q_bounded hv hP (hR.cx c1) s1 (fun z1 w => by rw [(gst_z z1).1]; have := hW w; show W.2 < n + 1; omega) (fun r2 m2 W2 c2 s2 hw2 => ⟨by omega, ?_⟩)) (Nat.le_of_ble_eq_true rfl)
    rw [sd1.2]
    have U2 : VFv s m (dSet m2 k s r2) := (VFv.of (c1.tr c2)).set (by omega) rfl
    have S2 : ST K P (dSet m2 k s r2) (rb (gst n) (gnd K 23)) W2 := s2.k (by omega)
    have A2 : (dSet m2 k s r2).1 k s = r2 := dSet_s _ _ _ _
    have B2 : ∀ a : Nat, a ≠ 70 → a ≠ k → (dSet m2 k s r2).1 a = m.1 a := fun a e1 e2 => by rw [dSet_k e2, c2.1 a e1, c1.1 a e1]
    generalize dSet m2 k s r2 = M2 at U2 S2 A2 B2 ⊢
    refine Wp.deep (q_must (k := 59) hv (hR.vf U2.1) S2 (by decide) (by unfold vk; omega) (by decide) (fun m3 c3 s3 => fin m3 ?_)) (Nat.le_of_ble_eq_true rfl)
    rw [← gT] at s3
    have U3 := U2.cx c3
    by_cases zz : (gTell K cf cw cu n).1 = 0
    · have z3 := zz
      rw [gT] at z3
      have z2 := (rb_z z3).1
      have z1 := (rb_z z2).1
      have g1 := (gst_z z1).1
      have hw2' := hw2 z2
      rw [g1] at hw2'
      have eT : gTell K cf cw cu n = (0, n + 3) := by
        rw [gT]
        rw [g1, rb_0] at z2 z3 ⊢
        rw [(gnd_0 z2).1, rb_0] at z3 ⊢
        rw [(gnd_0 z3).1]
      rw [eT] at s3
      have eW : W2 = bX V 0 hh (n + 1) W := by rw [hw2'.2]; unfold bX; rw [ehi]; rfl
      have cc := ct0 (K n) (by omega)
      refine hG zz m3 W2 (st.1, st.2.1, st.2.2.1, z) ?_ ⟨fun w => by rw [eW, bX_n w], fun w => ?_⟩
      · rw [cc.1, cc.2.1, cc.2.2, eT]
        rw [lTl_n (by omega)]
        refine hT.fin hL U3 s3 (by omega) ?_ (fun w => ?_) (fun _ => hz m3 (by rw [c3.1 k (by omega), A2]; exact hw2'.1) (fun a e1 e2 => by rw [c3.1 a e1, B2 a e1 e2]))
        · rw [eW]; exact bX_lt (fun w => by have := hW w; omega) (by omega)
        · by_cases q : W.1 = 0
          · exact q
          · rw [eW, bX_n q] at w; exact w
      · rw [mT, eW]
        unfold bnd bX
        by_cases inb : (0 : Int) ≤ iV V (n + 1) ∧ iV V (n + 1) ≤ hh
        · rw [if_pos inb, if_pos inb]; exact ⟨fun _ => ⟨w, rfl⟩, fun q => absurd rfl q⟩
        · rw [if_neg inb, if_neg inb, wadd_z w]; exact ⟨fun q => absurd q (Nat.succ_ne_zero 4), fun _ => rfl⟩
    · exact hB zz m3 W2 s3 (hF.vf hL U3)
  refine v_X12_tellOne_70 ⟨tr, fun q => ⟨by omega, x_flat hL hsd hv hP hT (kn 0 (by decide) q) hB (fun z m' W' st' T' wn => hG z m' W' st' (by rw [lTl_n (by have := kn 0 (by decide) q; omega)]; exact T') wn) fin⟩, fun q => ⟨by omega, ?_⟩, fun q => ⟨by omega, ?_⟩, fun q => law (by omega), fun q => law (by omega), fun q => law (by omega), fun q => law (by omega), fun q => ?_, fun q => ?_, fun q => ?_, fun q => law (by omega)⟩
  · have hk := kn 1 (by decide) q
    have gT : gTell K cf cw cu n = if 10 ≤ cw then (2, n) else rb (gst n) (gsq K [22, 22, 23, 59]) := by unfold gTell; rw [if_neg (by omega), if_pos hk]
    rw [sd.2]
    refine Wp.deep (q_roomFor (most := 10) hR hS (by omega) hC.2.1 (by decide) hC5.2.1 (fun m1 c1 h1 => ?_)) (Nat.le_of_ble_eq_true rfl)
    have f1 := h1.fl
    have e13 : (m1.1 70 13).toInt = flt m1 := rfl
    refine ⟨fun q2 => fin m1 ?_, fun q2 => ?_⟩
    · have z : (if 10 ≤ cw then ((2, n) : gR) else gst n).1 ≠ 0 := fun z => q2 (f1.2.mpr z)
      have eT : gTell K cf cw cu n = if 10 ≤ cw then (2, n) else gst n := by
        rw [gT]
        by_cases q7 : 10 ≤ cw
        · rw [if_pos q7, if_pos q7]
        · rw [if_neg q7] at z
          rw [if_neg q7, if_neg q7, rb_f z]
      exact hB (by rw [eT]; exact z) m1 W (by rw [eT]; exact h1) (hF.cx c1)
    · have z1 : (if 10 ≤ cw then ((2, n) : gR) else gst n).1 = 0 := f1.2.mp q2
      have c7 : ¬ 10 ≤ cw := fun q7 => by rw [if_pos q7] at z1; exact absurd z1 (Nat.succ_ne_zero 1)
      rw [if_neg c7] at z1 h1 gT
      have g1 := gst_z z1
      rw [g1.1] at h1 gT
      rw [rb_0] at gT
      have t1 : tt m1 = ((n + 1 : Nat) : Int) := (h1.1 rfl).2.1
      have t0 : tt m = (n : Int) := b2
      refine Wp.deep (x_wire (st := st) hL hsd hv hP h1 (hR.cx c1) (hF.cx c1) (hC.cx c1) (by omega) (hLQ.j (c1.2.1 12 (by decide) (by decide) (by decide) (by decide) (by decide)) (c1.2.1 46 (by decide) (by decide) (by decide) (by decide) (by decide)) (c1.2.1 40 (by decide) (by decide) (by decide) (by decide) (by decide)) (by omega)) hW (fun w => ⟨(hN w).1.cx c1, (hN w).2⟩) (hD.cx c1) (fun z m' W' s' F' => fin m' (hB (by rw [gT]; exact z) m' W' (by rw [gT]; exact s') F')) (fun z m' W' st' T' M' => fin m' (hG (by rw [gT]; exact z) m' W' st' ?_ ?_))) (Nat.le_of_ble_eq_true rfl)
      · have e := (gsq_z _ _ z).1
        rw [gT, e, lTl_n (by omega), hk]
        exact T'
      · have mT : mTell K V n st = mWire V n st := by unfold mTell; rw [if_neg (by omega), if_pos hk]
        unfold WN
        rw [mT]
        exact M'
  · have hk := kn 2 (by decide) q
    have gT : gTell K cf cw cu n = if 8 ≤ cu then (2, n) else rb (gst n) (gsq K [22, 22, 23, 23, 23, 59]) := by unfold gTell; rw [if_neg (by omega), if_neg (by omega), if_pos hk]
    rw [sd.2]
    refine Wp.deep (q_roomFor (most := 8) hR hS (by omega) hC.2.2.1 (by decide) hC5.2.2 (fun m1 c1 h1 => ?_)) (Nat.le_of_ble_eq_true rfl)
    have f1 := h1.fl
    have e13 : (m1.1 70 13).toInt = flt m1 := rfl
    refine ⟨fun q2 => fin m1 ?_, fun q2 => ?_⟩
    · have z : (if 8 ≤ cu then ((2, n) : gR) else gst n).1 ≠ 0 := fun z => q2 (f1.2.mpr z)
      have eT : gTell K cf cw cu n = if 8 ≤ cu then (2, n) else gst n := by
        rw [gT]
        by_cases q7 : 8 ≤ cu
        · rw [if_pos q7, if_pos q7]
        · rw [if_neg q7] at z
          rw [if_neg q7, if_neg q7, rb_f z]
      exact hB (by rw [eT]; exact z) m1 W (by rw [eT]; exact h1) (hF.cx c1)
    · have z1 : (if 8 ≤ cu then ((2, n) : gR) else gst n).1 = 0 := f1.2.mp q2
      have c7 : ¬ 8 ≤ cu := fun q7 => by rw [if_pos q7] at z1; exact absurd z1 (Nat.succ_ne_zero 1)
      rw [if_neg c7] at z1 h1 gT
      have g1 := gst_z z1
      rw [g1.1] at h1 gT
      rw [rb_0] at gT
      have t1 : tt m1 = ((n + 1 : Nat) : Int) := (h1.1 rfl).2.1
      have t0 : tt m = (n : Int) := b2
      refine Wp.deep (x_use (st := st) hL hsd hv hP h1 (hR.cx c1) (hF.cx c1) (hC.cx c1) (by omega) (hLQ.j (c1.2.1 12 (by decide) (by decide) (by decide) (by decide) (by decide)) (c1.2.1 46 (by decide) (by decide) (by decide) (by decide) (by decide)) (c1.2.1 40 (by decide) (by decide) (by decide) (by decide) (by decide)) (by omega)) hW (fun w => ⟨(hN w).1.cx c1, (hN w).2⟩) (hD.cx c1) (fun z m' W' s' F' => fin m' (hB (by rw [gT]; exact z) m' W' (by rw [gT]; exact s') F')) (fun z m' W' st' T' M' => fin m' (hG (by rw [gT]; exact z) m' W' st' ?_ ?_))) (Nat.le_of_ble_eq_true rfl)
      · have e := (gsq_z _ _ z).1
        rw [gT, e, lTl_n (by omega), hk]
        exact T'
      · have mT : mTell K V n st = mUse V n st := by unfold mTell; rw [if_neg (by omega), if_neg (by omega), if_pos hk]
        unfold WN
        rw [mT]
        exact M'
  · have hk := kn 7 (by decide) q
    have gT : gTell K cf cw cu n = rb (rb (rb (gst n) (gnd K 23)) (gnd K 23)) (gnd K 59) := by
      unfold gTell
      rw [if_neg (by omega), if_neg (by omega), if_neg (by omega), if_neg (by omega), if_pos hk, gsq_r, gsq_r, gsq_r, rb_id]
    have mT : mTell K V n st = bnd V (n + 1) 0 100 (bnd V (n + 2) 0 19 ((0, 0), (st.1, st.2.1, st.2.2.1, (some n, st.2.2.2.2))) st) st := by
      unfold mTell
      rw [if_neg (by omega), if_neg (by omega), if_neg (by omega), if_pos hk]
    refine Wp.deep (q_goesOn hR hS (fun _ => by show K n ≠ 24 ∧ K n ≠ 25; omega) (fun m1 c1 s1 => ?_)) (Nat.le_of_ble_eq_true rfl)
    have s1 : ST K P m1 (gst n) W := s1
    have sd1 := (hF.cx c1).sd hsd
    refine Wp.deep (q_bounded hv hP (hR.cx c1) s1 (fun z1 w => by rw [(gst_z z1).1]; have := hW w; show W.2 < n + 1; omega) (fun r2 m2 W2 c2 s2 hw2 => ⟨by omega, ?_⟩)) (Nat.le_of_ble_eq_true rfl)
    have sd2 := (hF.cx (c1.tr c2)).sd hsd
    rw [sd1.2]
    have U2 : VFv s m (dSet m2 91 s r2) := (VFv.of (c1.tr c2)).set (by decide) rfl
    have S2 : ST K P (dSet m2 91 s r2) (rb (gst n) (gnd K 23)) W2 := s2.k (by decide)
    have A2 : (dSet m2 91 s r2).1 91 s = r2 := dSet_s _ _ _ _
    have B2 : ∀ a : Nat, a ≠ 70 → a ≠ 91 → (dSet m2 91 s r2).1 a = m.1 a := fun a e1 e2 => by rw [dSet_k e2, c2.1 a e1, c1.1 a e1]
    generalize dSet m2 91 s r2 = M2 at U2 S2 A2 B2 ⊢
    have hw2' : (rb (gst n) (gnd K 23)).1 = 0 → rb (gst n) (gnd K 23) = (0, n + 2) ∧ W2 = bX V 0 100 (n + 1) W := fun z2 => by
      have a := hw2 z2
      have z1 := (rb_z z2).1
      rw [(gst_z z1).1] at a z2 ⊢
      exact ⟨(gnd_0 z2).1, a.2⟩
    refine Wp.deep (q_bounded hv hP (hR.vf U2.1) S2 (fun z w => by rw [(hw2' z).1]; rw [(hw2' z).2] at w ⊢; exact bX_lt (fun w => by have := hW w; omega) (by omega) w) (fun r3 m3 W3 c3 s3 hw3 => ⟨by omega, ?_⟩)) (Nat.le_of_ble_eq_true rfl)
    rw [sd2.2]
    have U3 : VFv s m (dSet m3 92 s r3) := (U2.cx c3).set (by decide) rfl
    have S3 : ST K P (dSet m3 92 s r3) (rb (rb (gst n) (gnd K 23)) (gnd K 23)) W3 := s3.k (by decide)
    have A3 : (dSet m3 92 s r3).1 92 s = r3 ∧ (dSet m3 92 s r3).1 91 s = r2 := ⟨dSet_s _ _ _ _, by rw [dSet_k (by decide), c3.1 91 (by decide), A2]⟩
    have B3 : ∀ a : Nat, a ≠ 70 → a ≠ 91 → a ≠ 92 → (dSet m3 92 s r3).1 a = m.1 a := fun a e1 e2 e3 => by rw [dSet_k e3, c3.1 a e1, B2 a e1 e2]
    generalize dSet m3 92 s r3 = M3 at U3 S3 A3 B3 ⊢
    have hw3' : (rb (rb (gst n) (gnd K 23)) (gnd K 23)).1 = 0 → rb (rb (gst n) (gnd K 23)) (gnd K 23) = (0, n + 3) ∧ W3 = bX V 0 19 (n + 2) W2 := fun z3 => by
      have a := hw3 z3
      have z2 := (rb_z z3).1
      rw [(hw2' z2).1] at a z3 ⊢
      exact ⟨(gnd_0 z3).1, a.2⟩
    refine Wp.deep (q_must (k := 59) hv (hR.vf U3.1) S3 (by decide) (by unfold vk; omega) (by decide) (fun m4 c4 s4 => fin m4 ?_)) (Nat.le_of_ble_eq_true rfl)
    rw [← gT] at s4
    have U4 := U3.cx c4
    by_cases zz : (gTell K cf cw cu n).1 = 0
    · have z4 := zz
      rw [gT] at z4
      have z3 := (rb_z z4).1
      have z2 := (rb_z z3).1
      have eT : gTell K cf cw cu n = (0, n + 4) := by
        rw [gT]
        rw [(hw3' z3).1, rb_0] at z4 ⊢
        rw [(gnd_0 z4).1]
      rw [eT] at s4
      have e2 := (hw2' z2).2
      have e3 := (hw3' z3).2
      have cc := ct0 (K n) (by omega)
      refine hG zz m4 W3 (st.1, st.2.1, st.2.2.1, (some n, st.2.2.2.2)) ?_ ⟨fun w => by rw [e3, e2, bX_n w, bX_n w], fun w => ?_⟩
      · rw [cc.1, cc.2.1, cc.2.2, eT]
        have v2 : r2 = (V (n + 1)).toInt32 := by
          have a := (hw2 z2).1
          rw [(gst_z (rb_z z2).1).1] at a
          exact a
        have v3 : r3 = (V (n + 2)).toInt32 := by
          have a := (hw3 z3).1
          rw [(hw2' z2).1] at a
          exact a
        rw [lTl_n (by omega)]
        refine hT.fin hL U4 s4 (by omega) ?_ (fun w => ?_) (fun _ hm => hm.sur (by rw [c4.1 91 (by decide), A3.2, v2]) (by rw [c4.1 92 (by decide), A3.1, v3]) (fun k e => by rw [c4.1 k (by omega), B3 k (by omega) (by omega) (by omega)]))
        · rw [e3, e2]; exact bX_lt (bX_lt (fun w => by have := hW w; omega) (by omega)) (by omega)
        · by_cases q0 : W.1 = 0
          · exact q0
          · rw [e3, e2, bX_n q0, bX_n q0] at w; exact w
      · rw [mT, e3, e2]
        unfold bnd bX
        by_cases b1 : (0 : Int) ≤ iV V (n + 1) ∧ iV V (n + 1) ≤ 100
        · rw [if_pos b1, if_pos b1]
          by_cases b2 : (0 : Int) ≤ iV V (n + 2) ∧ iV V (n + 2) ≤ 19
          · rw [if_pos b2, if_pos b2]; exact ⟨fun _ => ⟨w, rfl⟩, fun q => absurd rfl q⟩
          · rw [if_neg b2, if_neg b2, wadd_z w]; exact ⟨fun q => absurd q (Nat.succ_ne_zero 4), fun _ => rfl⟩
        · rw [if_neg b1, if_neg b1, wadd_z w]
          refine ⟨fun q => absurd q (Nat.succ_ne_zero 4), fun _ => ?_⟩
          split
          · rfl
          · exact wadd_n (Nat.succ_ne_zero 4)
    · exact hB zz m4 W3 s4 (hF.vf hL U4)
  · have hk := kn 8 (by decide) q
    refine one 93 _ 999 (st.2.2.2.1, some n, st.2.2.2.2.2) (Or.inl rfl) (by decide) (Or.inl hk) ?_ (fun mm e1 e2 hm => hm.coi e1 (fun k e => e2 k (by omega) (by omega)))
    unfold mTell
    rw [if_neg (by omega), if_neg (by omega), if_neg (by omega), if_neg (by omega), if_pos hk]
  · have hk := kn 9 (by decide) q
    refine one 94 _ 9999 (st.2.2.2.1, st.2.2.2.2.1, some n) (Or.inr rfl) (by decide) (Or.inr hk) ?_ (fun mm e1 e2 hm => hm.see e1 (fun k e => e2 k (by omega) (by omega)))
    unfold mTell
    rw [if_neg (by omega), if_neg (by omega), if_neg (by omega), if_neg (by omega), if_neg (by omega), if_pos hk]
end ROV
end
section
/-! THE REFERENCE's read: all of a text told -/
section RAV
variable {K : Nat → Int} {V : Nat → Int64} {P : Nat → Nat} {m0 m : dM} {L s : Nat} {Q : Int32 → dM → Prop}
def TFv (K : Nat → Int) (V : Nat → Int64) (P : Nat → Nat) (m0 : dM) (L s : Nat) (G : gR) (M : gR × mSt) (DX : Nat → lD) (m : dM) : Prop := ∃ W : gR, ST K P m G W ∧ FXv m0 L m ∧ (G.1 = 0 → ((0 ≤ (m.1 82 s).toInt ∧ (m.1 82 s).toInt ≤ 10) ∧ (0 ≤ (m.1 86 s).toInt ∧ (m.1 86 s).toInt ≤ 8)) ∧ (M.1.1 = 0 → W.1 = 0 ∧ (m.1 80 s).toInt = (M.2.1.length : Int) ∧ NH V s M.2 m ∧ (m.1 82 s).toInt = (M.2.2.1.length : Int) ∧ (m.1 86 s).toInt = (M.2.2.2.1.length : Int)) ∧ (M.1.1 ≠ 0 → W = M.1) ∧ LDs m s DX ∧ (m.1 80 s).toInt ≤ 7)
theorem x_112 (hL : L + s = 1) (hsd : (m0.1 70 19).toInt = (s : Int)) (hv : ∀ i, vk (K i)) (hP : ∀ i j : Nat, i < j → lvK K j → P i < P j) (hV : ∀ n : Nat, K n = 23 → 0 ≤ (V n).toInt32.toInt ∧ (V n).toInt32.toInt ≤ 9999) {DX : Nat → lD} {G : gR} {M : gR × mSt} (hE : ∀ m', TFv K V P m0 L s G M DX m' → j_X12_read_70_134 9 m' Q) : ∀ (f cf cw cu n : Nat) (W : gR) (st : mSt) (Ds : Nat → lD) (m : dM), 401 ≤ f + n → TIv K V P m0 L s cf cw cu n W st Ds m → lAll K V f cf cw cu n Ds = DX → gAll K f cf cw cu n = G → (W.1 = 0 → mAll K V f n st = M) → (W.1 ≠ 0 → W = M.1) → j_X12_read_70_112 9 m Q := by
  intro f
  induction f with
  | zero =>
    intro cf cw cu n W st Ds m hf hT hA hg hm1 hm2
    have : n ≤ 400 := (hT.1.1 rfl).2.2.1
    exfalso; omega
  | succ f ih =>
    intro cf cw cu n W st Ds m hf hT hA hg hm1 hm2
    have hT' := hT
    obtain ⟨hS, hR, hF, hC, hLQ, hW, hN, hD⟩ := hT'
    have f0 : flt m = 0 := hS.fl.2.mpr rfl
    have hC5 := hC.2.2.2.2
    refine v_X12_read_70_112 ⟨fun q => absurd f0 q, fun _ => ?_⟩
    refine Wp.deep (q_is (k := 24) hv hR hS (by decide) (by unfold vk; omega) (fun _ h24 => ⟨fun _ => hE m ⟨W, ?_⟩, fun q => absurd q (by decide)⟩) (fun h24 => ⟨fun q => absurd rfl q, fun _ => ?_⟩)) (Nat.le_of_ble_eq_true rfl)
    · have h24 : K n = 24 := h24
      have eG : G = (0, n) := by rw [← hg]; show (if K n = 24 then _ else _) = _; rw [if_pos h24]
      rw [eG]
      refine ⟨hS, hF, fun _ => ⟨⟨by have := hC.2.1; omega, by have := hC.2.2.1; omega⟩, fun z => ?_, fun z => ?_, ?_, by have := hC.1; omega⟩⟩
      rotate_left 2
      · have eA : lAll K V (f + 1) cf cw cu n Ds = Ds := by show (if K n = 24 then _ else _) = _; rw [if_pos h24]
        rw [← hA, eA]; exact hD
      · by_cases w0 : W.1 = 0
        · have eM : M = ((0, 0), st) := by rw [← hm1 w0]; show (if K n = 24 then _ else _) = _; rw [if_pos h24]
          rw [eM]
          exact ⟨w0, by show (m.1 80 s).toInt = (st.1.length : Int); rw [(hN w0).2.1]; exact hC.1, (hN w0).1, by show (m.1 82 s).toInt = (st.2.1.length : Int); rw [(hN w0).2.2.1]; exact hC.2.1, by show (m.1 86 s).toInt = (st.2.2.1.length : Int); rw [(hN w0).2.2.2]; exact hC.2.2.1⟩
        · have := hm2 w0
          rw [this] at w0
          exact absurd z w0
      · by_cases w0 : W.1 = 0
        · have eM : M = ((0, 0), st) := by rw [← hm1 w0]; show (if K n = 24 then _ else _) = _; rw [if_pos h24]
          rw [eM] at z
          exact absurd rfl z
        · exact hm2 w0
    · have h24 : K n ≠ 24 := fun e => h24 ⟨rfl, e⟩
      have eG : G = rb (gTell K cf cw cu n) (fun n' => gAll K f (cf + ct (K n) 0) (cw + ct (K n) 1) (cu + ct (K n) 2) n') := by rw [← hg]; show (if K n = 24 then _ else _) = _; rw [if_neg h24]
      have eA : lAll K V (f + 1) cf cw cu n Ds = lAll K V f (cf + ct (K n) 0) (cw + ct (K n) 1) (cu + ct (K n) 2) (gTell K cf cw cu n).2 (lTl K V n Ds) := by show (if K n = 24 then _ else _) = _; rw [if_neg h24]
      refine x_one hL hsd hv hP hV hT (fun z m' W' s' F' => ?_) (fun z m' W' st' T' wn => ?_)
      · rw [rb_f z] at eG
        rw [← eG] at s' z
        have f1 := s'.fl
        exact v_X12_read_70_112 ⟨fun _ => hE m' ⟨W', s', F', fun q => absurd q z⟩, fun q => absurd (f1.2.mp q) z⟩
      · rw [rb_k z] at eG
        have nlt : n < (gTell K cf cw cu n).2 := gTell_lt z
        refine ih _ _ _ _ W' st' _ m' (by omega) T' (by rw [← eA]; exact hA) eG.symm (fun w => ?_) (fun w => ?_)
        · by_cases w0 : W.1 = 0
          · have hm := hm1 w0
            have hl := (hN w0).2
            have e2 := wn.2 w0
            have eM : mAll K V (f + 1) n st = mGo (mTell K V n st) (fun s' => mAll K V f (gTell K st.1.length st.2.1.length st.2.2.1.length n).2 s') := by show (if K n = 24 then _ else _) = _; rw [if_neg h24]
            by_cases z2 : (mTell K V n st).1.1 = 0
            · rw [eM, mGo_k z2, hl.1, hl.2.1, hl.2.2] at hm
              rw [(e2.1 z2).2]
              exact hm
            · have := e2.2 z2
              rw [this] at w
              exact absurd w z2
          · have := wn.1 w0
            rw [this] at w
            exact absurd w w0
        · by_cases w0 : W.1 = 0
          · have hm := hm1 w0
            have e2 := wn.2 w0
            have eM : mAll K V (f + 1) n st = mGo (mTell K V n st) (fun s' => mAll K V f (gTell K st.1.length st.2.1.length st.2.2.1.length n).2 s') := by show (if K n = 24 then _ else _) = _; rw [if_neg h24]
            by_cases z2 : (mTell K V n st).1.1 = 0
            · exact absurd (e2.1 z2).1 w
            · rw [eM, mGo_f z2] at hm
              rw [← hm]
              exact e2.2 z2
          · rw [wn.1 w0]
            exact hm2 w0
end RAV
section RPL
variable {m : dM} {L s : Nat}
/-- the side s laid empty -/
theorem x_plain {x1 : Int32} {Q : dM → Prop} (hs : s ≤ 1) (hx : x1.toInt = (s : Int)) (hQ : ∀ m' : dM, (∀ k : Nat, k ≠ 80 → k ≠ 82 → k ≠ 86 → ¬ (91 ≤ k ∧ k ≤ 96) → m'.1 k = m.1 k) → m'.2 = m.2 → (∀ k j : Nat, k < 95 → j ≠ s → m'.1 k j = m.1 k j) → (∀ k j : Nat, k = 95 ∨ k = 96 → ¬ (4 * s ≤ j ∧ j < 4 * s + 4) → m'.1 k j = m.1 k j) → (m'.1 80 s = 0 ∧ m'.1 82 s = 0 ∧ m'.1 86 s = 0) ∧ (m'.1 91 s = 0 ∧ m'.1 92 s = 0 ∧ m'.1 93 s = 100 ∧ m'.1 94 s = 0) → (∀ j : Nat, j < 4 → m'.1 95 (4 * s + j) = 0 ∧ m'.1 96 (4 * s + j) = 0) → Q m') : c_X12_plain_70 1 x1 m Q := by
  have loop : ∀ (f i : Nat) (x2 : Int32) (M : dM), i + f = 4 → x2.toInt = (i : Int) → (∀ k : Nat, k ≠ 80 → k ≠ 82 → k ≠ 86 → ¬ (91 ≤ k ∧ k ≤ 96) → M.1 k = m.1 k) → M.2 = m.2 → (∀ k j : Nat, k < 95 → j ≠ s → M.1 k j = m.1 k j) → (∀ k j : Nat, k = 95 ∨ k = 96 → ¬ (4 * s ≤ j ∧ j < 4 * s + 4) → M.1 k j = m.1 k j) → (M.1 80 s = 0 ∧ M.1 82 s = 0 ∧ M.1 86 s = 0) ∧ (M.1 91 s = 0 ∧ M.1 92 s = 0 ∧ M.1 93 s = 100 ∧ M.1 94 s = 0) → (∀ j : Nat, j < i → M.1 95 (4 * s + j) = 0 ∧ M.1 96 (4 * s + j) = 0) → j_X12_plain_70_52 1 x1 x2 M Q := by
    intro f
    induction f with
    | zero =>
      intro i x2 M hi h2 a b c c2 d e
      exact v_X12_plain_70_52 ⟨fun _ => hQ M a b c c2 d (fun j hj => e j (by omega)), fun q => by exfalso; omega⟩
    | succ f ih =>
      intro i x2 M hi h2 a b c c2 d e
      have fa := y_idx (C := 4) (c := (4 : Int32)) (by decide) hx hs h2 (by decide) (by omega)
      refine v_X12_plain_70_52 ⟨fun q => by exfalso; omega, fun _ => ⟨by omega, by omega, ?_⟩⟩
      rw [d_cn fa]
      refine ih (i + 1) _ _ (by omega) (d_inc h2 (by omega)) (fun k e1 e2 e3 e4 => by rw [dSet_k (by omega), dSet_k (by omega)]; exact a k e1 e2 e3 e4) b (fun k j e1 e2 => by rw [dSet_k (by omega), dSet_k (by omega)]; exact c k j e1 e2) (fun k j e1 e2 => ?_) ?_ (fun j hj => ?_)
      · rw [dSet_e, dSet_e, if_neg (fun w => e2 (by omega)), if_neg (fun w => e2 (by omega))]
        exact c2 k j e1 e2
      · have fr : ∀ k : Nat, k ≠ 95 → k ≠ 96 → ∀ (a b : Nat) (v w : Int32), (dSet (dSet M 95 a v) 96 b w).1 k = M.1 k := fun k e1 e2 a b v w => by rw [dSet_k e2, dSet_k e1]
        rw [fr 80 (by decide) (by decide), fr 82 (by decide) (by decide), fr 86 (by decide) (by decide), fr 91 (by decide) (by decide), fr 92 (by decide) (by decide), fr 93 (by decide) (by decide), fr 94 (by decide) (by decide)]
        exact d
      · by_cases q : j = i
        · subst q
          rw [dSet_k (show 95 ≠ 96 by decide), dSet_s, dSet_s]
          exact ⟨rfl, rfl⟩
        · have := e j (by omega)
          rw [dSet_k (show 95 ≠ 96 by decide), dSet_j (by omega), dSet_j (by omega), dSet_k (show 96 ≠ 95 by decide)]
          exact this
  refine v_X12_plain_70 ⟨by omega, by omega, by omega, by omega, by omega, by omega, by omega, ?_⟩
  rw [d_cn hx]
  refine loop 4 0 _ _ rfl (by decide) (fun k e1 e2 e3 e4 => ?_) rfl (fun k j e1 e2 => ?_) (fun k j e1 _ => ?_) ⟨⟨?_, ?_, ?_⟩, ?_, ?_, ?_, ?_⟩ (fun j hj => absurd hj (Nat.not_lt_zero j))
  · rw [dSet_k (by omega), dSet_k (by omega), dSet_k (by omega), dSet_k (by omega), dSet_k e3, dSet_k e2, dSet_k e1]
  · rw [dSet_j e2, dSet_j e2, dSet_j e2, dSet_j e2, dSet_j e2, dSet_j e2, dSet_j e2]
  · rw [dSet_k (by omega), dSet_k (by omega), dSet_k (by omega), dSet_k (by omega), dSet_k (by omega), dSet_k (by omega), dSet_k (by omega)]
  · rw [dSet_k (by decide), dSet_k (by decide), dSet_k (by decide), dSet_k (by decide), dSet_k (by decide), dSet_k (by decide), dSet_s]
  · rw [dSet_k (by decide), dSet_k (by decide), dSet_k (by decide), dSet_k (by decide), dSet_k (by decide), dSet_s]
  · rw [dSet_k (by decide), dSet_k (by decide), dSet_k (by decide), dSet_k (by decide), dSet_s]
  · rw [dSet_k (by decide), dSet_k (by decide), dSet_k (by decide), dSet_s]
  · rw [dSet_k (by decide), dSet_k (by decide), dSet_s]
  · rw [dSet_k (by decide), dSet_s]
  · rw [dSet_s]
/-- the row of a beginning -/
def beR (m : dM) (s j : Nat) : Int32 := if (j : Int) < (m.1 82 s).toInt then m.1 85 (10 * s + j) else if j = 56 then m.1 93 s else if 47 ≤ j ∧ (j : Int) < 47 + (m.1 86 s).toInt then 1 else 0
theorem x_begins {Q : dM → Prop} (hs : s ≤ 1) (h18 : (m.1 70 18).toInt = (s : Int)) (h82 : 0 ≤ (m.1 82 s).toInt ∧ (m.1 82 s).toInt ≤ 10) (h86 : 0 ≤ (m.1 86 s).toInt ∧ (m.1 86 s).toInt ≤ 8) (hQ : ∀ m' : dM, BG m m' → m'.1 107 = m.1 107 → (∀ j : Nat, j < 58 → m'.1 108 j = beR m s j) → (m'.1 70 56 = m.1 94 s ∧ m'.1 70 57 = 0) → Q m') : c_X12_begins_70 1 m Q := by
  have l64 : ∀ (f i : Nat) (x1 : Int32) (M : dM), 8 < i + f → (i : Int) ≤ (m.1 86 s).toInt → x1.toInt = (i : Int) → BG m M → M.1 107 = m.1 107 → (∀ j : Nat, j < 58 → M.1 108 j = if (j : Int) < (m.1 82 s).toInt then m.1 85 (10 * s + j) else if 47 ≤ j ∧ j < 47 + i then 1 else 0) → j_X12_begins_70_64 1 x1 M Q := by
    intro f
    induction f with
    | zero => intro i x1 M a b; exfalso; omega
    | succ f ih =>
      intro i x1 M hf hi h1 hB h107 hR
      have e18 : (M.1 70 18).toInt = (s : Int) := by rw [hB.2.1 18 (by decide) (by decide)]; exact h18
      have e86 : M.1 86 s = m.1 86 s := by rw [hB.1 86 (by decide) (by decide) (by decide)]
      refine v_X12_begins_70_64 ⟨by omega, ?_⟩
      rw [d_cn e18, e86]
      have f47 := dAddE (X := 47) (Y := (i : Int)) (x := (47 : Int32)) (y := x1) (by decide) h1 (by omega) (by omega)
      refine ⟨fun q => ⟨by omega, by omega, hQ _ ?_ ?_ (fun j hj => ?_) ⟨?_, ?_⟩⟩, fun q => ⟨by omega, ?_⟩⟩
      · have h2 := hB.set (j := 56) (v := M.1 93 s) (k := 108) (Or.inr rfl)
        exact ⟨fun a e1 e2 e3 => by rw [dSet_k e1, dSet_k e1]; exact h2.1 a e1 e2 e3, fun a e1 e2 => by rw [dSet_j e2, dSet_j e1]; exact h2.2.1 a e1 e2, h2.2.2⟩
      · rw [dSet_k (by decide), dSet_k (by decide), dSet_k (by decide)]; exact h107
      · rw [dSet_k (by decide), dSet_k (by decide)]
        unfold beR
        by_cases q56 : j = 56
        · subst q56
          rw [dSet_s, if_neg (by omega), if_pos rfl, hB.1 93 (by decide) (by decide) (by decide)]
        · rw [dSet_j q56, hR j hj, if_neg q56]
          by_cases q1 : (j : Int) < (m.1 82 s).toInt
          · rw [if_pos q1, if_pos q1]
          · rw [if_neg q1, if_neg q1]
            by_cases q2 : 47 ≤ j ∧ j < 47 + i
            · rw [if_pos q2, if_pos (by omega)]
            · rw [if_neg q2, if_neg (by omega)]
      · rw [dSet_j (by decide), dSet_s]
        rw [hB.1 94 (by decide) (by decide) (by decide)]
      · rw [dSet_s]
      · have e47 : ((47 : Int32) + x1).toNatClampNeg = 47 + i := d_cn (by rw [f47]; omega)
        rw [e47]
        refine ih (i + 1) _ _ (by omega) (by omega) (d_inc h1 (by omega)) (hB.set (Or.inr rfl)) (by rw [dSet_k (by decide)]; exact h107) (fun j hj => ?_)
        by_cases qj : j = 47 + i
        · subst qj
          rw [dSet_s, if_neg (by omega), if_pos (by omega)]
        · rw [dSet_j qj, hR j hj]
          by_cases q1 : (j : Int) < (m.1 82 s).toInt
          · rw [if_pos q1, if_pos q1]
          · rw [if_neg q1, if_neg q1]
            by_cases q2 : 47 ≤ j ∧ j < 47 + i
            · rw [if_pos q2, if_pos (by omega)]
            · rw [if_neg q2, if_neg (by omega)]
  have l23 : ∀ (f i : Nat) (x1 : Int32) (M : dM), 10 < i + f → (i : Int) ≤ (m.1 82 s).toInt → x1.toInt = (i : Int) → BG m M → M.1 107 = m.1 107 → (∀ j : Nat, j < 58 → M.1 108 j = if j < i then m.1 85 (10 * s + j) else 0) → j_X12_begins_70_23 1 x1 M Q := by
    intro f
    induction f with
    | zero => intro i x1 M a b; exfalso; omega
    | succ f ih =>
      intro i x1 M hf hi h1 hB h107 hR
      have e18 : (M.1 70 18).toInt = (s : Int) := by rw [hB.2.1 18 (by decide) (by decide)]; exact h18
      have e82 : M.1 82 s = m.1 82 s := by rw [hB.1 82 (by decide) (by decide) (by decide)]
      refine v_X12_begins_70_23 ⟨by omega, ?_⟩
      rw [d_cn e18, e82]
      have fa := y_idx (C := 10) (c := (10 : Int32)) (by decide) e18 hs h1 (by decide) (by omega)
      refine ⟨fun q => l64 9 0 _ M (by omega) (by omega) (by decide) hB h107 (fun j hj => ?_), fun q => ⟨by omega, by omega, ?_⟩⟩
      · rw [hR j hj]
        by_cases q1 : j < i
        · rw [if_pos q1, if_pos (by omega)]
        · rw [if_neg q1, if_neg (by omega), if_neg (by omega)]
      · rw [d_cn fa, d_cn h1, hB.1 85 (by decide) (by decide) (by decide)]
        refine ih (i + 1) _ _ (by omega) (by omega) (d_inc h1 (by omega)) (hB.set (Or.inr rfl)) (by rw [dSet_k (by decide)]; exact h107) (fun j hj => ?_)
        by_cases qj : j = i
        · subst qj
          rw [dSet_s, if_pos (by omega)]
        · rw [dSet_j qj, hR j hj]
          by_cases q1 : j < i
          · rw [if_pos q1, if_pos (by omega)]
          · rw [if_neg q1, if_neg (by omega)]
  have l2 : ∀ (f i : Nat) (x1 : Int32) (M : dM), i + f = 58 → x1.toInt = (i : Int) → BG m M → M.1 107 = m.1 107 → (∀ j : Nat, j < i → M.1 108 j = 0) → j_X12_begins_70_2 1 x1 M Q := by
    intro f
    induction f with
    | zero =>
      intro i x1 M hi h1 hB h107 hR
      exact v_X12_begins_70_2 ⟨fun _ => l23 11 0 _ M (by omega) (by omega) (by decide) hB h107 (fun j hj => by rw [if_neg (Nat.not_lt_zero j)]; exact hR j (by omega)), fun q => by exfalso; omega⟩
    | succ f ih =>
      intro i x1 M hi h1 hB h107 hR
      refine v_X12_begins_70_2 ⟨fun q => by exfalso; omega, fun _ => ⟨by omega, ?_⟩⟩
      rw [d_cn h1]
      refine ih (i + 1) _ _ (by omega) (d_inc h1 (by omega)) (hB.set (Or.inr rfl)) (by rw [dSet_k (by decide)]; exact h107) (fun j hj => ?_)
      by_cases q : j = i
      · rw [q, dSet_s]
      · rw [dSet_j q]; exact hR j (by omega)
  exact v_X12_begins_70 (l2 58 0 _ m rfl (by decide) ⟨fun _ _ _ _ => rfl, fun _ _ _ => rfl, rfl⟩ rfl (fun j hj => absurd hj (Nat.not_lt_zero j)))
theorem x_keepsRow {Q : dM → Prop} (hQ : ∀ m' : dM, (∀ k : Nat, k ≠ 107 → m'.1 k = m.1 k) → m'.2 = m.2 → (∀ j : Nat, j < 58 → m'.1 107 j = m.1 108 j) → Q m') : c_X12_keepsRow_70 1 m Q := by
  have l2 : ∀ (f i : Nat) (x1 : Int32) (M : dM), i + f = 58 → x1.toInt = (i : Int) → (∀ k : Nat, k ≠ 107 → M.1 k = m.1 k) → M.2 = m.2 → (∀ j : Nat, j < i → M.1 107 j = m.1 108 j) → j_X12_keepsRow_70_2 1 x1 M Q := by
    intro f
    induction f with
    | zero => intro i x1 M hi h1 a b c; exact v_X12_keepsRow_70_2 ⟨fun _ => hQ M a b (fun j hj => c j (by omega)), fun q => by exfalso; omega⟩
    | succ f ih =>
      intro i x1 M hi h1 a b c
      refine v_X12_keepsRow_70_2 ⟨fun q => by exfalso; omega, fun _ => ⟨by omega, by omega, ?_⟩⟩
      rw [d_cn h1]
      refine ih (i + 1) _ _ (by omega) (d_inc h1 (by omega)) (fun k hk => by rw [dSet_k hk]; exact a k hk) b (fun j hj => ?_)
      by_cases q : j = i
      · rw [q, dSet_s, a 108 (by decide)]
      · rw [dSet_j q]; exact c j (by omega)
  exact v_X12_keepsRow_70 (l2 58 0 _ m rfl (by decide) (fun _ _ => rfl) rfl (fun j hj => absurd hj (Nat.not_lt_zero j)))
end RPL
end
section
/-! THE REFERENCE's read, in full -/
theorem lD0_1 (k : Nat) : (lD0 k).1 = 0 := Nat.zero_div 3
theorem lD0_ok (k : Nat) : lOk (lD0 k) := ⟨by rw [lD0_1]; omega, fun i hi => by
  rw [lD0_1] at hi
  have : i = 0 := by omega
  subst this
  exact wf_dfl k⟩
/-- the house told: its counts, its rows -/
def HV (V : Nat → Int64) (s : Nat) (st : mSt) (m : dM) : Prop := HM V s st m ∧ (∀ w : Nat, w < st.2.1.length → (m.1 83 (10 * s + w)).toInt = ((wE st w).1 : Int) ∧ (m.1 84 (10 * s + w)).toInt = ((wE st w).2 : Int)) ∧ (m.1 82 s).toInt = (st.2.1.length : Int) ∧ (m.1 86 s).toInt = (st.2.2.1.length : Int)
theorem HV.of {V : Nat → Int64} {s : Nat} {st : mSt} {m m' : dM} (h : HV V s st m) (hk : ∀ k : Nat, 81 ≤ k → k ≤ 94 → m'.1 k = m.1 k) : HV V s st m' := by
  obtain ⟨a, b, c, d⟩ := h
  refine ⟨a.of (fun k e => hk k (by omega) (by omega)), ?_, ?_, ?_⟩
  · rw [hk 83 (by decide) (by decide), hk 84 (by decide) (by decide)]; exact b
  · rw [hk 82 (by decide) (by decide)]; exact c
  · rw [hk 86 (by decide) (by decide)]; exact d
section RKL
variable {H : Ho} {S : Zt} {P : List Zt} {J : Nat → Zt} {m m' : dM} {s : Nat}
theorem LR.lv {k : Nat} {D : lD} (h : LR m s k D) (hk : k < 4) (hg : gLw m.1 s (m.1 95 (4 * s + k)).toInt (m.1 96 (4 * s + k)).toInt) (e : ∀ c j : Nat, lvS s c j → m'.1 c j = m.1 c j) : LR m' s k D := by
  obtain ⟨h1, h2⟩ := h
  refine ⟨h1, ?_⟩
  rw [e 95 (4 * s + k) (by unfold lvS; omega), e 96 (4 * s + k) (by unfold lvS; omega)]
  rcases h2 with h2 | ⟨b, a1, a2, a3, a5, a6, a7⟩
  · exact Or.inl h2
  · rcases hg with g | ⟨g1, g2, g3, g4⟩
    · exfalso; omega
    have eb : ∀ c i : Nat, 97 ≤ c → c ≤ 101 → i ≤ D.1 → m'.1 c (b + i) = m.1 c (b + i) := fun c i q1 q2 q3 => e c (b + i) (by unfold lvS; omega)
    have sb : ∀ (x y : Int32) (L : lC), SB m x y L → gPc m.1 s x.toInt y.toInt → SB m' x y L := fun x y L ⟨a, b1, b2, b3⟩ ⟨p1, p2, p3, p4, p5⟩ => ⟨a, b1, b2, b3.on (fun j q1 q2 => ⟨e 102 j (by unfold lvS; omega), e 103 j (by unfold lvS; omega)⟩)⟩
    refine Or.inr ⟨b, a1, a2, a3, fun i hi => ?_, ?_, ?_⟩
    · obtain ⟨c1, c2, c3, c4⟩ := a5 i hi
      obtain ⟨g5, g6⟩ := g4 (b + i) (by omega) (by omega)
      rw [eb 97 i (by omega) (by omega) (by omega), eb 98 i (by omega) (by omega) (by omega), eb 99 i (by omega) (by omega) (by omega), eb 100 i (by omega) (by omega) (by omega), eb 101 i (by omega) (by omega) (by omega)]
      exact ⟨c1, sb _ _ _ c2 (g5 c1).1, sb _ _ _ c3 (g5 c1).2, sb _ _ _ c4 g6⟩
    · rw [eb 97 D.1 (by omega) (by omega) (by omega)]; exact a6
    · obtain ⟨g5, g6⟩ := g4 (b + D.1) (by omega) (by omega)
      rw [eb 100 D.1 (by omega) (by omega) (by omega), eb 101 D.1 (by omega) (by omega) (by omega)]
      exact sb _ _ _ a7 g6
/-- a read that found a fault leaves it all -/
theorem KR.lv (h : KR H S P J s m) (hg : ∀ k : Nat, k < 4 → gLw m.1 s (m.1 95 (4 * s + k)).toInt (m.1 96 (4 * s + k)).toInt) (e : ∀ c j : Nat, lvS s c j → m'.1 c j = m.1 c j) (e5 : ∀ k : Nat, 105 ≤ k → m'.1 k = m.1 k) (e18 : m'.1 70 18 = m.1 70 18) (e61 : m'.1 70 61 = m.1 70 61) : KR H S P J s m' := by
  obtain ⟨⟨hO, hH, h86, h81, h85, h87, h91, hL⟩, hZ, hP, hS⟩ := h
  obtain ⟨⟨g1, g2⟩, ⟨g3, g4⟩, ⟨g5, g6⟩, g7⟩ := hH
  obtain ⟨o1, o2, o3, o4, o5, o6⟩ := hO
  refine ⟨⟨⟨o1, o2, o3, o4, o5, o6⟩, ⟨⟨by rw [e18]; exact g1, g2⟩, ⟨by rw [e 80 s (by unfold lvS; omega)]; exact g3, g4⟩, ⟨by rw [e 82 s (by unfold lvS; omega)]; exact g5, g6⟩, fun w hw => ?_⟩, ?_, fun f hf => ?_, fun w hw => ?_, fun u hu => ?_, ?_, fun k hk => (hL k hk).lv hk (hg k hk) e⟩, ?_, ?_, ?_⟩
  · rw [e 83 (10 * s + w) (by unfold lvS; omega), e 84 (10 * s + w) (by unfold lvS; omega)]; exact g7 w hw
  · rw [e 86 s (by unfold lvS; omega)]; exact h86
  · rw [e 81 (7 * s + f) (by unfold lvS; omega)]; exact h81 f hf
  · rw [e 85 (10 * s + w) (by unfold lvS; omega)]; exact h85 w hw
  · rw [e 87 (8 * s + u) (by unfold lvS; omega), e 88 (8 * s + u) (by unfold lvS; omega), e 89 (8 * s + u) (by unfold lvS; omega), e 90 (8 * s + u) (by unfold lvS; omega)]; exact h87 u hu
  · rw [e 91 s (by unfold lvS; omega), e 92 s (by unfold lvS; omega), e 93 s (by unfold lvS; omega), e 94 s (by unfold lvS; omega)]; exact h91
  · unfold RZ; rw [e5 107 (by decide)]; exact hZ
  · unfold RP; rw [e61, e5 111 (by decide)]; exact hP
  · unfold RSl; rw [e5 115 (by decide), e5 116 (by decide)]; exact hS
theorem LR.ofs {k : Nat} {D : lD} (h : LR m s k D) (e : ∀ c : Nat, 95 ≤ c → c ≤ 103 → m'.1 c = m.1 c) : LR m' s k D := h.of e
/-- a house just told -/
theorem RW.told {V : Nat → Int64} {st : mSt} {Ds : Nat → lD} (hs : s ≤ 1) (hM : MI V st) (h18 : (m.1 70 18).toInt = (s : Int)) (h80 : (m.1 80 s).toInt = (st.1.length : Int)) (h7 : st.1.length ≤ 7) (h10 : st.2.1.length ≤ 10) (h8 : st.2.2.1.length ≤ 8) (hv : HV V s st m) (hD : ∀ k : Nat, k < 4 → LR m s k (Ds k)) : RW (hoX V st Ds) s m := by
  obtain ⟨⟨a1, a2, a3, a4⟩, b, c, d⟩ := hv
  exact ⟨hoX_ok hM h7 h10 h8 (fun k hk => (hD k hk).1), ⟨⟨h18, hs⟩, ⟨h80, h7⟩, ⟨c, h10⟩, fun w hw => ⟨b w hw, (hM.1 w hw).1, (hM.1 w hw).2.1, (hM.1 w hw).2.2.1⟩⟩, d, a1, a2, a3, a4, hD⟩
end RKL
/-- what the reference's read has done -/
def RdQ (K : Nat → Int) (V : Nat → Int64) (L s : Nat) (H : Ho) (S : Zt) (Ps : List Zt) (J : Nat → Zt) (m' : dM) : Prop := ((rdR K V).1.1 = 0 → ∀ (R : Nat → Int32) (J' : Nat → Zt), (∀ w : Nat, w < (rdR K V).2.2.1.length → R w = (V (((rdR K V).2.2.1.getD w (0, 0, 0)).1 + 3)).toInt32) → KR (hoX V (rdR K V).2 (lAll K V 401 0 0 0 0 lD0)) (sz0 (hoX V (rdR K V).2 (lAll K V 401 0 0 0 0 lD0)) R) [] J' s m') ∧ ((rdR K V).1.1 ≠ 0 → KR H S Ps J L m')
section RRV
variable {K : Nat → Int} {V : Nat → Int64} {P : Nat → Nat} {m0 m : dM} {L s : Nat} {H : Ho} {S : Zt} {Ps : List Zt} {J : Nat → Zt}
theorem bi_0 (i : Nat) : bi (bt 0 i) = 0 := by rw [bt_0]; rfl
theorem x_134 {Q : Int32 → dM → Prop} (hL : L + s = 1) (hsd : (m0.1 70 19).toInt = (s : Int)) (h0 : ∀ k : Nat, k ≠ 70 → m0.1 k = m.1 k) (h18 : m0.1 70 18 = m.1 70 18) (h61 : m0.1 70 61 = m.1 70 61) (hK : KR H S Ps J L m) (hg : ∀ k : Nat, k < 4 → gLw m.1 L (m.1 95 (4 * L + k)).toInt (m.1 96 (4 * L + k)).toInt) (hQ : ∀ (r : Int32) (m' : dM), RcF m m' → RdQ K V L s H S Ps J m' → Q r m') {M : dM} (hT : TFv K V P m0 L s (gAll K 401 0 0 0 0) (mAll K V 401 0 mS0) (lAll K V 401 0 0 0 0 lD0) M) : j_X12_read_70_134 9 M Q := by
  have hs : s ≤ 1 := by omega
  obtain ⟨W, hS, hF, hG⟩ := hT
  have sd := hF.sd hsd
  have f := hS.fl
  have ef : (M.1 70 13).toInt = flt M := rfl
  have fr : ∀ k : Nat, k < 70 ∨ 105 ≤ k → M.1 k = m.1 k := fun k hk => by rw [hF.1.1 k (by omega), h0 k (by omega)]
  have bad : ∀ (r v : Int32), (rdR K V).1.1 ≠ 0 → Q r (dSet M 70 17 v) := fun r v b => by
    refine hQ r _ (fun k hk => by rw [dSet_k (by omega)]; exact fr k (by omega)) ⟨fun q => absurd q b, fun _ => hK.lv hg (fun c j q => ?_) (fun k hk => ?_) ?_ ?_⟩
    · have lb := lvS_k q
      rw [dSet_k (by omega), hF.2 c j q, h0 c (by omega)]
    · rw [dSet_k (by omega)]; exact fr k (by omega)
    · rw [dSet_j (by decide), hF.1.2.1 18 (by omega)]; exact h18
    · rw [dSet_j (by decide), hF.1.2.1 61 (by omega)]; exact h61
  by_cases z : (gAll K 401 0 0 0 0).1 = 0
  · have eR : rdR K V = mAll K V 401 0 mS0 := by unfold rdR; rw [if_pos z]
    obtain ⟨⟨b82, b86⟩, g0, g1, hD, b80⟩ := hG z
    obtain ⟨a1, a2, a3, a4, a5⟩ := hS.1 z
    have e15 := a5.1
    rw [← eR] at g0 g1
    by_cases w : (rdR K V).1.1 = 0
    · obtain ⟨w0, e80, nh, e82, e86⟩ := g0 w
      have hv0 : HV V s (rdR K V).2 M := ⟨nh.2, nh.1.2.2.2.2, e82, e86⟩
      have good : c_X12_begins_70 8 (dSet (dSet M 70 17 (-1 : Int32)) 70 18 (M.1 70 19)) (fun m1 => c_X12_keepsRow_70 8 m1 (fun m2 => j_X12_read_70_219 9 (0 : Int32) (dSet (dSet m2 70 61 (0 : Int32)) 70 63 (0 : Int32)) Q)) := by
        refine Wp.deep (x_begins (s := s) hs (by rw [dSet_s]; exact sd.1) b82 b86 (fun m1 B1 _ r1 _ => Wp.deep (x_keepsRow (fun m2 k2 _ r2 => ?_)) (Nat.le_of_ble_eq_true rfl))) (Nat.le_of_ble_eq_true rfl)
        have e2 : ∀ k : Nat, k ≠ 70 → k ≠ 107 → k ≠ 108 → m2.1 k = M.1 k := fun k q1 q2 q3 => by rw [k2 k q2, B1.1 k q1 q2 q3, dSet_k q1, dSet_k q1]
        have e18 : (m2.1 70 18).toInt = (s : Int) := by rw [k2 70 (by decide), B1.2.1 18 (by decide) (by decide), dSet_s]; exact sd.1
        have rr : ∀ j : Nat, j < 58 → m2.1 107 j = beR M s j := fun j hj => by
          rw [r2 j hj, r1 j hj]
          unfold beR
          rw [dSet_k (by decide), dSet_k (by decide), dSet_k (by decide), dSet_k (by decide), dSet_k (by decide), dSet_k (by decide), dSet_k (by decide), dSet_k (by decide)]
        have l219 : ∀ (f i : Nat) (x1 : Int32) (X : dM), i + f = 3 → x1.toInt = (i : Int) → (∀ k : Nat, k ≠ 115 → X.1 k = (dSet (dSet m2 70 61 (0 : Int32)) 70 63 (0 : Int32)).1 k) → (∀ j : Nat, j < i → X.1 115 j = 0) → j_X12_read_70_219 9 x1 X Q := by
          intro f
          induction f with
          | zero =>
            intro i x1 X hi h1 hX hz
            have eX : ∀ k : Nat, k ≠ 70 → k ≠ 107 → k ≠ 108 → k ≠ 115 → X.1 k = M.1 k := fun k q1 q2 q3 q4 => by rw [hX k q4, dSet_k q1, dSet_k q1, e2 k q1 q2 q3]
            refine v_X12_read_70_219 ⟨fun _ => hQ _ X (fun k hk => ?_) ⟨fun _ R J' hR => ?_, fun q => absurd w q⟩, fun q => by exfalso; omega⟩
            · rw [eX k (by omega) (by omega) (by omega) (by omega)]; exact fr k (by omega)
            · have hM := MI_rd w
              have hv1 : HV V s (rdR K V).2 X := hv0.of (fun k q1 q2 => eX k (by omega) (by omega) (by omega) (by omega))
              have x18 : (X.1 70 18).toInt = (s : Int) := by rw [hX 70 (by decide), dSet_j (by decide), dSet_j (by decide)]; exact e18
              have x80 : (X.1 80 s).toInt = ((rdR K V).2.1.length : Int) := by rw [eX 80 (by decide) (by decide) (by decide) (by decide)]; exact e80
              have x107 : ∀ j : Nat, j < 58 → X.1 107 j = beR M s j := fun j hj => by rw [hX 107 (by decide), dSet_k (by decide), dSet_k (by decide)]; exact rr j hj
              have l7 : (rdR K V).2.1.length ≤ 7 := by omega
              have l10 : (rdR K V).2.2.1.length ≤ 10 := by omega
              have l8 : (rdR K V).2.2.2.1.length ≤ 8 := by omega
              refine ⟨RW.told hs hM x18 x80 l7 l10 l8 hv1 (fun k hk => (hD k hk).lr.of (fun c q1 q2 => eX c (by omega) (by omega) (by omega) (by omega))), ⟨⟨?_, ?_, ?_⟩, fun w' hw => ?_, fun f' hf => ?_, fun u hu => ?_⟩, ⟨?_, by decide, fun k T hk => ?_⟩, fun i hi q => ?_⟩
              · rw [x107 55 (by decide)]
                unfold beR
                rw [if_neg (by omega), if_neg (by decide), if_neg (by omega)]
                rfl
              · rw [x107 56 (by decide)]
                unfold beR
                rw [if_neg (by omega), if_pos rfl]
                exact hv0.1.2.2.2.2.2.1
              · rw [x107 57 (by decide)]
                unfold beR
                rw [if_neg (by omega), if_neg (by decide), if_neg (by omega)]
                rfl
              · have hw : w' < (rdR K V).2.2.1.length := hw
                rw [x107 w' (by omega), x107 (10 + w') (by omega), x107 (20 + w') (by omega), x107 (30 + w') (by omega)]
                unfold beR
                rw [if_pos (by omega), if_neg (by omega), if_neg (by omega), if_neg (by omega), if_neg (by omega), if_neg (by omega), if_neg (by omega), if_neg (by omega), if_neg (by omega), if_neg (by omega)]
                exact ⟨by rw [hv0.1.2.1 w' hw]; exact (hR w' hw).symm, (bi_0 w').symm, rfl, (bi_0 w').symm⟩
              · have hf : f' < (rdR K V).2.1.length := hf
                rw [x107 (40 + f') (by omega)]
                unfold beR
                rw [if_neg (by omega), if_neg (by omega), if_neg (by omega)]
                rfl
              · have hu : u < (rdR K V).2.2.2.1.length := hu
                rw [x107 (47 + u) (by omega)]
                unfold beR
                rw [if_neg (by omega), if_neg (by omega), if_pos (by omega)]
                show (1 : Int32) = bi (bt (b1 (rdR K V).2.2.2.1.length - 1) u)
                rw [bt_all l8, decide_eq_true hu]
                rfl
              · rw [hX 70 (by decide), dSet_j (by decide), dSet_s]; rfl
              · cases hk
              · exact absurd (by rw [hz i (by omega)]; rfl) q
          | succ f ih =>
            intro i x1 X hi h1 hX hz
            refine v_X12_read_70_219 ⟨fun q => by exfalso; omega, fun _ => ⟨by omega, ih (i + 1) _ _ (by omega) (d_inc h1 (by omega)) (fun k hk => by rw [dSet_k hk]; exact hX k hk) (fun j hj => ?_)⟩⟩
            rw [d_cn h1]
            by_cases q : j = i
            · rw [q, dSet_s]
            · rw [dSet_j q]; exact hz j (by omega)
        exact l219 3 0 _ _ rfl (by decide) (fun _ _ => rfl) (fun j hj => by omega)
      exact v_X12_read_70_134 ⟨fun _ => ⟨fun _ => ⟨fun _ => ⟨fun _ => good, fun q => by exfalso; omega⟩, fun q => by exfalso; omega⟩, fun q => by exfalso; omega⟩, fun q => by exfalso; omega⟩
    · have eW := g1 w
      have w1 : W.1 ≠ 0 := by rw [eW]; exact w
      rw [eW] at e15
      have bd := bad (M.1 70 15) (M.1 70 16) w
      exact v_X12_read_70_134 ⟨fun _ => ⟨fun q => by exfalso; omega, fun _ => ⟨fun _ => ⟨fun q => by exfalso; omega, fun _ => bd⟩, fun q => by exfalso; omega⟩⟩, fun q => by exfalso; omega⟩
  · have eR : rdR K V = (gAll K 401 0 0 0 0, mS0) := by unfold rdR; rw [if_neg z]
    obtain ⟨a1, a2⟩ := hS.2.1 z
    have bd := bad (M.1 70 13) (M.1 70 14) (by rw [eR]; exact z)
    exact v_X12_read_70_134 ⟨fun q => by exfalso; omega, fun _ => ⟨fun q => by exfalso; omega, fun _ => bd⟩⟩
theorem x_read {m : dM} {B : Nat → Int32} {n : Nat} {Q : Int32 → dM → Prop} (HV9 : ∀ i : Nat, tK B n i = 23 → 0 ≤ (tV B n i).toInt32.toInt ∧ (tV B n i).toInt32.toInt ≤ 9999) (hL : L + s = 1) (h18 : (m.1 70 18).toInt = (L : Int)) (hn : (m.1 70 2).toInt = (n : Int)) (h2000 : n ≤ 2000) (hB : ∀ i : Nat, B i = if i < n then (m.1 71 i) &&& 255 else 0) (hKR : KR H S Ps J L m) (hg : ∀ k : Nat, k < 4 → gLw m.1 L (m.1 95 (4 * L + k)).toInt (m.1 96 (4 * L + k)).toInt) (hQ : ∀ (r : Int32) (m' : dM), RcF m m' → RdQ (tK B n) (tV B n) L s H S Ps J m' → Q r m') : c_X12_read_70 9 m Q := by
  have hV9 : ∀ i : Nat, tK B n i = 23 → 0 ≤ (tV B n i).toInt32.toInt ∧ (tV B n i).toInt32.toInt ≤ 9999 := HV9
  have hs : s ≤ 1 := by omega
  have fs := dSubE (X := 1) (Y := (L : Int)) (x := (1 : Int32)) (y := m.1 70 18) (by decide) h18 (by omega) (by omega)
  have l10 : ∀ (f i : Nat) (x1 : Int32) (M : dM), i + f = n → x1.toInt = (i : Int) → (∀ k : Nat, k ≠ 70 → k ≠ 72 → M.1 k = m.1 k) → (∀ j : Nat, j ≠ 4 → M.1 70 j = m.1 70 j) → M.1 70 4 = m.1 70 2 → M.2 = m.2 → (∀ j : Nat, j < i → M.1 72 j = (m.1 71 j).toInt8.toInt32) → j_X12_read_70_10 9 x1 M Q := by
    intro f
    induction f with
    | succ f ih =>
      intro i x1 M hi h1 a b c d e
      have e4 : (M.1 70 4).toInt = (n : Int) := by rw [c]; exact hn
      refine v_X12_read_70_10 ⟨fun q => by exfalso; omega, fun _ => ⟨by omega, by omega, ih (i + 1) _ _ (by omega) (d_inc h1 (by omega)) (fun k e1 e2 => by rw [dSet_k e2]; exact a k e1 e2) (fun j e1 => by rw [dSet_k (by decide)]; exact b j e1) (by rw [dSet_k (by decide)]; exact c) d (fun j hj => ?_)⟩⟩
      rw [d_cn h1]
      by_cases q : j = i
      · rw [q, dSet_s, a 71 (by decide) (by decide)]
      · rw [dSet_j q]; exact e j (by omega)
    | zero =>
      intro i x1 M hi h1 a b c d e
      have e4 : (M.1 70 4).toInt = (n : Int) := by rw [c]; exact hn
      refine v_X12_read_70_10 ⟨fun _ => ?_, fun q => by exfalso; omega⟩
      have hRX : RX B n (dSet M 70 2 (0 : Int32)) := by
        refine ⟨by rw [dSet_j (by decide)]; exact e4, h2000, fun j => ?_⟩
        rw [hB j, dSet_k (by decide)]
        by_cases q : j < n
        · rw [if_pos q, if_pos q, e j (by omega), i8_and]
        · rw [if_neg q, if_neg q]
      refine Wp.deep (g_cutsUp hRX (fun m1 hF hK => ?_)) (Nat.le_of_ble_eq_true rfl)
      have k1 : ∀ k : Nat, k ≠ 70 → k ≠ 72 → k ≠ 73 → k ≠ 74 → k ≠ 75 → m1.1 k = m.1 k := fun k e1 e2 e3 e4 e5 => by rw [hF.1 k e1 e3 e4 e5, dSet_k e1, a k e1 e2]
      have j1 : ∀ j : Nat, j ≠ 2 → j ≠ 4 → j ≠ 10 → m1.1 70 j = m.1 70 j := fun j e1 e2 e3 => by rw [hF.2.1 j e3, dSet_j e1, b j e2]
      have j2 : m1.1 70 2 = 0 := by rw [hF.2.1 2 (by decide), dSet_s]
      have e18 : m1.1 70 18 = m.1 70 18 := j1 18 (by decide) (by decide) (by decide)
      rw [e18]
      have X70 : ∀ k : Nat, k ≠ 70 → (dSet (dSet (dSet (dSet (dSet (dSet m1 70 11 (0 : Int32)) 70 12 (0 : Int32)) 70 13 (0 : Int32)) 70 15 (0 : Int32)) 70 19 ((1 : Int32) - (m.1 70 18))) 70 20 (0 : Int32)).1 k = m1.1 k := fun k hk => by rw [dSet_k hk, dSet_k hk, dSet_k hk, dSet_k hk, dSet_k hk, dSet_k hk]
      have Xj : ∀ j : Nat, j ≠ 11 → j ≠ 12 → j ≠ 13 → j ≠ 15 → j ≠ 19 → j ≠ 20 → (dSet (dSet (dSet (dSet (dSet (dSet m1 70 11 (0 : Int32)) 70 12 (0 : Int32)) 70 13 (0 : Int32)) 70 15 (0 : Int32)) 70 19 ((1 : Int32) - (m.1 70 18))) 70 20 (0 : Int32)).1 70 j = m1.1 70 j := fun j b1 b2 b3 b4 b5 b6 => by rw [dSet_j b6, dSet_j b5, dSet_j b4, dSet_j b3, dSet_j b2, dSet_j b1]
      have Xz : ∀ j : Nat, j = 11 ∨ j = 12 ∨ j = 13 ∨ j = 15 ∨ j = 20 → ((dSet (dSet (dSet (dSet (dSet (dSet m1 70 11 (0 : Int32)) 70 12 (0 : Int32)) 70 13 (0 : Int32)) 70 15 (0 : Int32)) 70 19 ((1 : Int32) - (m.1 70 18))) 70 20 (0 : Int32)).1 70 j).toInt = 0 := fun j hj => by rcases hj with rfl | rfl | rfl | rfl | rfl <;> rfl
      have X19 : (dSet (dSet (dSet (dSet (dSet (dSet m1 70 11 (0 : Int32)) 70 12 (0 : Int32)) 70 13 (0 : Int32)) 70 15 (0 : Int32)) 70 19 ((1 : Int32) - (m.1 70 18))) 70 20 (0 : Int32)).1 70 19 = (1 : Int32) - (m.1 70 18) := rfl
      have X2 : (dSet (dSet (dSet (dSet (dSet (dSet m1 70 11 (0 : Int32)) 70 12 (0 : Int32)) 70 13 (0 : Int32)) 70 15 (0 : Int32)) 70 19 ((1 : Int32) - (m.1 70 18))) 70 20 (0 : Int32)).2 = m1.2 := rfl
      generalize dSet (dSet (dSet (dSet (dSet (dSet m1 70 11 (0 : Int32)) 70 12 (0 : Int32)) 70 13 (0 : Int32)) 70 15 (0 : Int32)) 70 19 ((1 : Int32) - (m.1 70 18))) 70 20 (0 : Int32) = X at X70 Xj Xz X19 X2 ⊢
      refine Wp.deep (x_plain (s := s) (m := X) hs (by omega) (fun m2 p1 p2 p3 p5 p4 p6 => ?_)) (Nat.le_of_ble_eq_true rfl)
      have e70 : m2.1 70 = X.1 70 := p1 70 (by decide) (by decide) (by decide) (by decide)
      have v19 : (m2.1 70 19).toInt = (s : Int) := by rw [e70, X19]; omega
      have fb := dMulE (X := 130) (Y := (s : Int)) (x := (130 : Int32)) (y := m2.1 70 19) (by decide) v19 (by omega) (by omega)
      have fc := dMulE (X := 420) (Y := (s : Int)) (x := (420 : Int32)) (y := m2.1 70 19) (by decide) v19 (by omega) (by omega)
      have Y70 : ∀ k : Nat, k ≠ 70 → (dSet (dSet m2 70 40 ((130 : Int32) * (m2.1 70 19))) 70 46 ((420 : Int32) * (m2.1 70 19))).1 k = m2.1 k := fun k hk => by rw [dSet_k hk, dSet_k hk]
      have Yj : ∀ j : Nat, j ≠ 40 → j ≠ 46 → (dSet (dSet m2 70 40 ((130 : Int32) * (m2.1 70 19))) 70 46 ((420 : Int32) * (m2.1 70 19))).1 70 j = X.1 70 j := fun j b1 b2 => by rw [dSet_j b2, dSet_j b1, e70]
      have Yb : brs (dSet (dSet m2 70 40 ((130 : Int32) * (m2.1 70 19))) 70 46 ((420 : Int32) * (m2.1 70 19))) = 130 * s := fb
      have Yc : cds (dSet (dSet m2 70 40 ((130 : Int32) * (m2.1 70 19))) 70 46 ((420 : Int32) * (m2.1 70 19))) = 420 * s := fc
      have Y2 : (dSet (dSet m2 70 40 ((130 : Int32) * (m2.1 70 19))) 70 46 ((420 : Int32) * (m2.1 70 19))).2 = m1.2 := by show m2.2 = m1.2; rw [p2, X2]
      generalize dSet (dSet m2 70 40 ((130 : Int32) * (m2.1 70 19))) 70 46 ((420 : Int32) * (m2.1 70 19)) = Y at Y70 Yj Yb Yc Y2 ⊢
      have Yz : ∀ j : Nat, j = 11 ∨ j = 12 ∨ j = 13 ∨ j = 15 ∨ j = 20 → (Y.1 70 j).toInt = 0 := fun j hj => by rw [Yj j (by omega) (by omega)]; exact Xz j hj
      have t0 : tt Y = 0 := Yz 11 (by decide)
      have f0 : flt Y = 0 := Yz 13 (by decide)
      have o0 : opn Y = 0 := Yz 12 (by decide)
      have n0 : nms Y = 0 := Yz 20 (by decide)
      have w0 := Yz 15 (by decide)
      have Yk : ∀ k : Nat, k ≠ 70 → k ≠ 72 → k ≠ 73 → k ≠ 74 → k ≠ 75 → k ≠ 80 → k ≠ 82 → k ≠ 86 → ¬ (91 ≤ k ∧ k ≤ 96) → Y.1 k = m.1 k := fun k b1 b2 b3 b4 b5 b6 b7 b8 b9 => by rw [Y70 k b1, p1 k b6 b7 b8 b9, X70 k b1, k1 k b1 b2 b3 b4 b5]
      have Yt : ∀ k : Nat, 73 ≤ k → k ≤ 75 → Y.1 k = m1.1 k := fun k b1 b2 => by rw [Y70 k (by omega), p1 k (by omega) (by omega) (by omega) (by omega), X70 k (by omega)]
      have hRM : RM (tK B n) (tV B n) (tP B n) Y := fun i hi hl => by
        have := hK i hi hl
        unfold RK at this
        rw [Yt 73 (by decide) (by decide), Yt 74 (by decide) (by decide), Yt 75 (by decide) (by decide), Y2]
        exact this
      have Y80 : (Y.1 80 s).toInt = 0 := by rw [Y70 80 (by decide), p4.1.1]; decide
      have Y82 : (Y.1 82 s).toInt = 0 := by rw [Y70 82 (by decide), p4.1.2.1]; decide
      have Y86 : (Y.1 86 s).toInt = 0 := by rw [Y70 86 (by decide), p4.1.2.2]; decide
      -- m0: as it was, its tape empty, the side of the text told
      have hTI : TIv (tK B n) (tV B n) (tP B n) (dSet (dSet m 70 2 (0 : Int32)) 70 19 ((1 : Int32) - (m.1 70 18))) L s 0 0 0 0 (0, 0) mS0 lD0 Y := by
        refine ⟨⟨fun _ => ⟨f0, t0, by decide, fun j hj => by exfalso; exact Nat.not_lt_zero j hj, w0, fun q => absurd rfl q⟩, fun q => absurd rfl q, by omega⟩, hRM, ⟨⟨fun k hk => ?_, fun j hj => ?_, ?_⟩, fun c j q => ?_⟩, ⟨Y80, Y82, Y86, n0, by decide, by decide, by decide⟩, ⟨o0, by omega, by omega⟩, fun q => absurd rfl q, fun _ => ⟨⟨⟨fun k hk => ?_, fun i hi => absurd hi (Nat.not_lt_zero i), fun i hi => absurd hi (Nat.not_lt_zero i), fun i j hi => absurd hi (Nat.not_lt_zero i), fun i hi => absurd hi (Nat.not_lt_zero i)⟩, fun i hi => absurd hi (Nat.not_lt_zero i), fun i hi => absurd hi (Nat.not_lt_zero i), fun i hi => absurd hi (Nat.not_lt_zero i), by rw [Y70 91 (by decide), p4.2.1]; rfl, by rw [Y70 92 (by decide), p4.2.2.1]; rfl, by rw [Y70 93 (by decide), p4.2.2.2.1]; rfl, by rw [Y70 94 (by decide), p4.2.2.2.2]; rfl⟩, rfl, rfl, rfl⟩, fun k hk => ?_⟩
        · rw [dSet_k (by omega), dSet_k (by omega)]
          exact Yk k (by omega) (by omega) (by omega) (by omega) (by omega) (by omega) (by omega) (by omega) (by omega)
        · by_cases q19 : j = 19
          · rw [q19, dSet_s, Yj 19 (by decide) (by decide), X19]
          · rw [dSet_j q19, Yj j (by omega) (by omega), Xj j (by omega) (by omega) (by omega) (by omega) q19 (by omega)]
            by_cases q2 : j = 2
            · rw [q2, dSet_s, j2]
            · rw [dSet_j q2, j1 j q2 (by omega) (by omega)]
        · rw [dSet_k (by decide), dSet_k (by decide), Y70 80 (by decide), p3 80 L (by decide) (by omega), X70 80 (by decide), k1 80 (by decide) (by decide) (by decide) (by decide) (by decide)]
        · have lb := lvS_k q
          rw [dSet_k (by omega), dSet_k (by omega), Y70 c (by omega)]
          have e1 : m2.1 c j = X.1 c j := by
            by_cases c1 : c < 95
            · by_cases cj : j = s
              · rw [p1 c (by unfold lvS at q; omega) (by unfold lvS at q; omega) (by unfold lvS at q; omega) (by unfold lvS at q; omega)]
              · exact p3 c j c1 cj
            · by_cases c2 : c = 95 ∨ c = 96
              · exact p5 c j c2 (by unfold lvS at q; omega)
              · rw [p1 c (by omega) (by omega) (by omega) (by omega)]
          rw [e1, X70 c (by omega), k1 c (by omega) (by omega) (by omega) (by omega) (by omega)]
        · exact absurd hk (Nat.not_lt_zero k)
        · refine ⟨lD0_ok k, Or.inl ⟨?_, lD0_1 k, rfl⟩⟩
          rw [Y70 95 (by decide), Y70 96 (by decide), (p6 k hk).1, (p6 k hk).2]
      have sd0 : ((dSet (dSet m 70 2 (0 : Int32)) 70 19 ((1 : Int32) - (m.1 70 18))).1 70 19).toInt = (s : Int) := by rw [dSet_s]; omega
      refine x_112 hL sd0 (tK_vk B n) (fun i j hij hl => tP_mono hij hl) hV9 (fun M' hM' => x_134 hL sd0 (fun k hk => by rw [dSet_k (by omega), dSet_k (by omega)]) (by rw [dSet_j (by decide), dSet_j (by decide)]) (by rw [dSet_j (by decide), dSet_j (by decide)]) hKR hg hQ hM') 401 0 0 0 0 (0, 0) mS0 lD0 Y (by omega) hTI rfl rfl (fun _ => rfl) (fun q => absurd rfl q)
  refine v_X12_read_70 (l10 n 0 _ _ (by omega) (by decide) (fun k e1 e2 => dSet_k e1) (fun j e1 => dSet_j e1) (dSet_s _ _ _ _) rfl (fun j hj => by omega))
end RRV
end
section
/-! BOTH, joined -/
section BTH
variable {H H' : Ho} {S S' : Zt} {P P' : List Zt} {J J' : Nat → Zt} {m m' : dM} {s : Nat}
theorem KC.sm (h : KC H S P J m) (q : Sm m' m) : KC H S P J m' := by
  obtain ⟨⟨hO, ⟨hH, h22, hT, hR, hU, hX, hL⟩, hW⟩, hZ, hP, hS⟩ := h
  have f2 : ∀ j : Nat, j < 7 → m'.1 2 j = m.1 2 j := fun j hj => by
    match j, hj with
    | 0, _ | 1, _ | 2, _ | 3, _ | 4, _ | 5, _ | 6, _ => exact q.fld (a := 3) rfl
    | j + 7, h => omega
  have f47 : ∀ j : Nat, j < 6 → m'.1 47 j = m.1 47 j := fun j hj => by
    match j, hj with
    | 0, _ | 1, _ | 2, _ | 3, _ | 4, _ | 5, _ => exact q.fld (a := 7) rfl
    | j + 6, h => omega
  have f51 : ∀ j : Nat, 2 ≤ j → j < 5 → m'.1 51 j = m.1 51 j := fun j hj hj2 => by
    match j, hj, hj2 with
    | 2, _, _ | 3, _, _ | 4, _, _ => exact q.fld (a := 6) rfl
    | 0, h, _ => omega
    | 1, h, _ => omega
    | j + 5, _, h => omega
  have r3 : m'.1 3 = m.1 3 := q.row (k := 3) rfl
  have r4 : m'.1 4 = m.1 4 := q.row (k := 4) rfl
  have r5 : m'.1 5 = m.1 5 := q.row (k := 5) rfl
  have r6 : m'.1 6 = m.1 6 := q.row (k := 6) rfl
  have r7 : m'.1 7 = m.1 7 := q.row (k := 7) rfl
  have r8 : m'.1 8 = m.1 8 := q.row (k := 8) rfl
  have r9 : m'.1 9 = m.1 9 := q.row (k := 9) rfl
  have r10 : m'.1 10 = m.1 10 := q.row (k := 10) rfl
  have r12 : m'.1 12 = m.1 12 := q.row (k := 12) rfl
  have r18 : m'.1 18 = m.1 18 := q.row (k := 18) rfl
  have r14 : ∀ k : Nat, k < 4 → m'.1 (14 + k) = m.1 (14 + k) := fun k hk => by
    match k, hk with
    | 0, _ => exact q.row (k := 14) rfl
    | 1, _ => exact q.row (k := 15) rfl
    | 2, _ => exact q.row (k := 16) rfl
    | 3, _ => exact q.row (k := 17) rfl
    | k + 4, h => omega
  have r48 : m'.1 48 = m.1 48 := q.row (k := 48) rfl
  have r49 : m'.1 49 = m.1 49 := q.row (k := 49) rfl
  have r50 : m'.1 50 = m.1 50 := q.row (k := 50) rfl
  have r52 : m'.1 52 = m.1 52 := q.row (k := 52) rfl
  have r53 : m'.1 53 = m.1 53 := q.row (k := 53) rfl
  have r58 : m'.1 58 = m.1 58 := q.row (k := 58) rfl
  have r59 : m'.1 59 = m.1 59 := q.row (k := 59) rfl
  have r60 : m'.1 60 = m.1 60 := q.row (k := 60) rfl
  have f57 : m'.1 57 1 = m.1 57 1 := q.fld (a := 10) rfl
  have f575 : m'.1 57 5 = m.1 57 5 := q.fld (a := 10) rfl
  refine ⟨⟨hO, ⟨?_, ?_, ?_, ?_, ?_, ?_, fun k hk => ?_⟩, ?_⟩, ?_, ?_, ?_⟩
  · unfold HW; rw [f2 0 (by decide), f2 1 (by decide), r4, r5]; exact hH
  · rw [f2 2 (by decide)]; exact h22
  · rw [r3]; exact hT
  · rw [r6]; exact hR
  · rw [r7, r8, r9, r10]; exact hU
  · rw [f2 3 (by decide), f2 4 (by decide), f2 5 (by decide), f2 6 (by decide)]; exact hX
  · have := hL k hk
    unfold LC SG at this ⊢
    rw [r14 k hk, r18, r12]
    exact this
  · unfold WI WyR at hW ⊢
    rw [f57, f575, r58, r59, r60]
    exact hW
  · unfold CZ at hZ ⊢
    rw [f47 0 (by decide), f47 1 (by decide), f47 2 (by decide), f47 3 (by decide), f47 4 (by decide), f47 5 (by decide)]
    show _ ∧ (∀ j : Nat, j < 10 → m'.1 48 j = szR S j) ∧ (∀ j : Nat, j < 10 → m'.1 49 j = szE S j) ∧ ∀ j : Nat, j < 7 → m'.1 50 j = szD S j
    rw [r48, r49, r50]
    exact hZ
  · unfold CP CPz at hP ⊢
    rw [f51 2 (by decide) (by decide), f51 3 (by decide) (by decide), r52]
    exact hP
  · unfold CSl CPz at hS ⊢
    rw [f51 4 (by decide) (by decide), r53]
    exact hS
theorem KR.fr (h : KR H S P J s m) (e : ∀ k : Nat, (80 ≤ k ∧ k ≤ 103) ∨ k = 107 ∨ k = 111 ∨ k = 115 ∨ k = 116 → m'.1 k = m.1 k) (e18 : m'.1 70 18 = m.1 70 18) (e61 : m'.1 70 61 = m.1 70 61) : KR H S P J s m' := by
  obtain ⟨⟨hO, hH, h86, h81, h85, h87, h91, hL⟩, hZ, hP, hS⟩ := h
  refine ⟨⟨hO, ?_, ?_, ?_, ?_, ?_, ?_, fun k hk => (hL k hk).of (fun c q1 q2 => e c (by omega))⟩, ?_, ?_, ?_⟩
  · unfold HR at hH ⊢; rw [e18, e 80 (by omega), e 82 (by omega), e 83 (by omega), e 84 (by omega)]; exact hH
  · rw [e 86 (by omega)]; exact h86
  · rw [e 81 (by omega)]; exact h81
  · rw [e 85 (by omega)]; exact h85
  · rw [e 87 (by omega), e 88 (by omega), e 89 (by omega), e 90 (by omega)]; exact h87
  · rw [e 91 (by omega), e 92 (by omega), e 93 (by omega), e 94 (by omega)]; exact h91
  · unfold RZ; rw [e 107 (by omega)]; exact hZ
  · unfold RP; rw [e61, e 111 (by omega)]; exact hP
  · unfold RSl; rw [e 115 (by omega), e 116 (by omega)]; exact hS
theorem KR.sm (h : KR H S P J s m) (q : Sm m' m) : KR H S P J s m' := by
  refine h.fr (fun k hk => ?_) (q.fld (a := 12) rfl) (q.fld (a := 12) rfl)
  rcases hk with hk | rfl | rfl | rfl | rfl
  · obtain ⟨i, rfl⟩ : ∃ i : Nat, k = 80 + i := ⟨k - 80, by omega⟩
    match i, hk with
    | 0, _ | 1, _ | 2, _ | 3, _ | 4, _ | 5, _ | 6, _ | 7, _ | 8, _ | 9, _ | 10, _ | 11, _ | 12, _ | 13, _ | 14, _ | 15, _ | 16, _ | 17, _ | 18, _ | 19, _ | 20, _ | 21, _ | 22, _ | 23, _ => exact q.row rfl
    | i + 24, h => omega
  · exact q.row rfl
  · exact q.row rfl
  · exact q.row rfl
  · exact q.row rfl
/-- the reference's side is left by the class's call -/
theorem KR.cc (h : KR H S P J s m) (hF : CcF m m') : KR H S P J s m' := h.fr (fun k hk => hF.1 k (by omega)) (by rw [hF.1 70 (by decide)]) (by rw [hF.1 70 (by decide)])
/-- and the class's by the reference's -/
theorem KC.rc (h : KC H S P J m) (hF : RcF m m') : KC H S P J m' := h.fr (fun k h1 h2 => hF k (by omega))
def Zb (H : Ho) (S : Zt) (P : List Zt) (J : Nat → Zt) (H' : Ho) (S' : Zt) (P' : List Zt) (J' : Nat → Zt) (s : Nat) (m : dM) : Prop := KC H S P J m ∧ KR H' S' P' J' s m
theorem Zb.sm (h : Zb H S P J H' S' P' J' s m) (q : Sm m' m) : Zb H S P J H' S' P' J' s m' := ⟨h.1.sm q, h.2.sm q⟩
/-- two contracts of one call -/
theorem both {d d' y pc : Nat} {l : dL} {st : List cV} {A Z : Int32 → dM → Prop} (h : Wp d y pc l st m (qI A)) (h' : Wp d' y pc l st m (qI Z)) (hZ : ∀ (r : Int32) (m1 m2 : dM), Sm m1 m2 → Z r m2 → Z r m1) : Wp d y pc l st m (qI (fun r m1 => A r m1 ∧ Z r m1)) := by
  refine (h.and h').mono (fun v m1 hh => ?_)
  obtain ⟨⟨r, er, a⟩, m2, q, r2, er2, z⟩ := hh
  have e : r = r2 := by rw [er] at er2; cases er2; rfl
  subst e
  exact ⟨r, er, a, hZ r m1 m2 q z⟩
/-- how both stand between calls -/
def Fr (m : dM) : Prop := ∃ (H : Ho) (S : Zt) (P : List Zt) (J : Nat → Zt) (s : Nat), hBo H ∧ zOk H S ∧ (∀ T : Zt, T ∈ P → zOk H T) ∧ (∀ i : Nat, zOk H (J i)) ∧ Zb H S P J H S P J s m
end BTH
end
section
/-! HOW BOTH STAND BEHIND THE STARTS -/
section ZFR
variable {ad : List Nat} {σ : Nat → Int} {tys : List (ClassId × FieldType)} {ws : va_W}
def hE0 : Ho := hoX (fun _ => 0) mS0 lD0
theorem z_fr (hs : σ 0 = 0) (h : eAll (eCk ad σ tys) hFresh ws) : Fr (zM ws) := by
  have h8 : (0 : Nat) ≤ 8 := by decide
  have hz : zOk hE0 (sz0 hE0 (fun _ => 0)) := sz0_ok MI_0 h8 (fun w hw => absurd hw (Nat.not_lt_zero w))
  have hO : hOk hE0 := hoX_ok MI_0 (by decide) (by decide) (by decide) (fun k _ => lD0_ok k)
  have a0 : (zM ws).1 2 0 = 0 := d_ce (z_val hs h (k := 2) (j := 0) (b := 0) (by decide +kernel))
  have a1 : (zM ws).1 2 1 = 0 := d_ce (z_val hs h (k := 2) (j := 1) (b := 0) (by decide +kernel))
  have a2 : (zM ws).1 2 2 = 0 := d_ce (z_val hs h (k := 2) (j := 2) (b := 0) (by decide +kernel))
  have a3 : (zM ws).1 2 3 = 0 := d_ce (z_val hs h (k := 2) (j := 3) (b := 0) (by decide +kernel))
  have a4 : (zM ws).1 2 4 = 0 := d_ce (z_val hs h (k := 2) (j := 4) (b := 0) (by decide +kernel))
  have a5 : (zM ws).1 2 5 = 100 := d_ce (z_val hs h (k := 2) (j := 5) (b := 100) (by decide +kernel))
  have a6 : (zM ws).1 2 6 = 0 := d_ce (z_val hs h (k := 2) (j := 6) (b := 0) (by decide +kernel))
  have c0 : (zM ws).1 18 0 = 1 := d_ce (z_val hs h (k := 18) (j := 0) (b := 1) (by decide +kernel))
  have c1 : (zM ws).1 18 1 = 1 := d_ce (z_val hs h (k := 18) (j := 1) (b := 1) (by decide +kernel))
  have c2 : (zM ws).1 18 2 = 1 := d_ce (z_val hs h (k := 18) (j := 2) (b := 1) (by decide +kernel))
  have c3 : (zM ws).1 18 3 = 1 := d_ce (z_val hs h (k := 18) (j := 3) (b := 1) (by decide +kernel))
  have l14 : (zM ws).1 14 0 = 0 := d_ce (z_val hs h (k := 14) (j := 0) (b := 0) (by decide +kernel))
  have g14 : (zM ws).1 14 1 = 3 := d_ce (z_val hs h (k := 14) (j := 1) (b := 3) (by decide +kernel))
  have l15 : (zM ws).1 15 0 = 3 := d_ce (z_val hs h (k := 15) (j := 0) (b := 3) (by decide +kernel))
  have g15 : (zM ws).1 15 1 = 4 := d_ce (z_val hs h (k := 15) (j := 1) (b := 4) (by decide +kernel))
  have l16 : (zM ws).1 16 0 = 4 := d_ce (z_val hs h (k := 16) (j := 0) (b := 4) (by decide +kernel))
  have g16 : (zM ws).1 16 1 = 5 := d_ce (z_val hs h (k := 16) (j := 1) (b := 5) (by decide +kernel))
  have l17 : (zM ws).1 17 0 = 5 := d_ce (z_val hs h (k := 17) (j := 0) (b := 5) (by decide +kernel))
  have g17 : (zM ws).1 17 1 = 6 := d_ce (z_val hs h (k := 17) (j := 1) (b := 6) (by decide +kernel))
  have p0 : (zM ws).1 12 0 = 4 := d_ce (z_val hs h (k := 12) (j := 0) (b := 4) (by decide +kernel))
  have p1 : (zM ws).1 12 1 = 5 := d_ce (z_val hs h (k := 12) (j := 1) (b := 5) (by decide +kernel))
  have p2 : (zM ws).1 12 2 = 1 := d_ce (z_val hs h (k := 12) (j := 2) (b := 1) (by decide +kernel))
  have p3 : (zM ws).1 12 3 = 13 := d_ce (z_val hs h (k := 12) (j := 3) (b := 13) (by decide +kernel))
  have p4 : (zM ws).1 12 4 = 5 := d_ce (z_val hs h (k := 12) (j := 4) (b := 5) (by decide +kernel))
  have p5 : (zM ws).1 12 5 = 9 := d_ce (z_val hs h (k := 12) (j := 5) (b := 9) (by decide +kernel))
  have s0 : (zM ws).1 47 0 = 0 := d_ce (z_val hs h (k := 47) (j := 0) (b := 0) (by decide +kernel))
  have s1 : (zM ws).1 47 1 = 100 := d_ce (z_val hs h (k := 47) (j := 1) (b := 100) (by decide +kernel))
  have s2 : (zM ws).1 47 2 = 0 := d_ce (z_val hs h (k := 47) (j := 2) (b := 0) (by decide +kernel))
  have s3 : (zM ws).1 47 3 = 0 := d_ce (z_val hs h (k := 47) (j := 3) (b := 0) (by decide +kernel))
  have s4 : (zM ws).1 47 4 = 0 := d_ce (z_val hs h (k := 47) (j := 4) (b := 0) (by decide +kernel))
  have s5 : (zM ws).1 47 5 = 0 := d_ce (z_val hs h (k := 47) (j := 5) (b := 0) (by decide +kernel))
  have t2 : (zM ws).1 51 2 = 0 := d_ce (z_val hs h (k := 51) (j := 2) (b := 0) (by decide +kernel))
  have t3 : (zM ws).1 51 3 = 0 := d_ce (z_val hs h (k := 51) (j := 3) (b := 0) (by decide +kernel))
  have t4 : (zM ws).1 51 4 = 0 := d_ce (z_val hs h (k := 51) (j := 4) (b := 0) (by decide +kernel))
  have w1 : ((zM ws).1 57 1).toInt = -1 := z_val hs h (k := 57) (j := 1) (b := -1) (by decide +kernel)
  have r48 : ∀ j : Nat, j < 10 → (zM ws).1 48 j = 0 := fun j hj => by
    match j, hj with
    | 0, _ | 1, _ | 2, _ | 3, _ | 4, _ | 5, _ | 6, _ | 7, _ | 8, _ | 9, _ => exact d_ce (z_val hs h (b := 0) (by decide +kernel))
    | j + 10, h => omega
  have r49 : ∀ j : Nat, j < 10 → (zM ws).1 49 j = 0 := fun j hj => by
    match j, hj with
    | 0, _ | 1, _ | 2, _ | 3, _ | 4, _ | 5, _ | 6, _ | 7, _ | 8, _ | 9, _ => exact d_ce (z_val hs h (b := 0) (by decide +kernel))
    | j + 10, h => omega
  have r50 : ∀ j : Nat, j < 7 → (zM ws).1 50 j = 0 := fun j hj => by
    match j, hj with
    | 0, _ | 1, _ | 2, _ | 3, _ | 4, _ | 5, _ | 6, _ => exact d_ce (z_val hs h (b := 0) (by decide +kernel))
    | j + 7, h => omega
  have q18 : (zM ws).1 70 18 = 0 := d_ce (z_val hs h (k := 70) (j := 18) (b := 0) (by decide +kernel))
  have q61 : (zM ws).1 70 61 = 0 := d_ce (z_val hs h (k := 70) (j := 61) (b := 0) (by decide +kernel))
  have h80 : (zM ws).1 80 0 = 0 := d_ce (z_val hs h (k := 80) (j := 0) (b := 0) (by decide +kernel))
  have h82 : (zM ws).1 82 0 = 0 := d_ce (z_val hs h (k := 82) (j := 0) (b := 0) (by decide +kernel))
  have h86 : (zM ws).1 86 0 = 0 := d_ce (z_val hs h (k := 86) (j := 0) (b := 0) (by decide +kernel))
  have h91 : (zM ws).1 91 0 = 0 := d_ce (z_val hs h (k := 91) (j := 0) (b := 0) (by decide +kernel))
  have h92 : (zM ws).1 92 0 = 0 := d_ce (z_val hs h (k := 92) (j := 0) (b := 0) (by decide +kernel))
  have h94 : (zM ws).1 94 0 = 0 := d_ce (z_val hs h (k := 94) (j := 0) (b := 0) (by decide +kernel))
  have h93 : (zM ws).1 93 0 = 100 := d_ce (z_val hs h (k := 93) (j := 0) (b := 100) (by decide +kernel))
  have m0 : (zM ws).1 95 0 = 0 := d_ce (z_val hs h (k := 95) (j := 0) (b := 0) (by decide +kernel))
  have n0 : (zM ws).1 96 0 = 0 := d_ce (z_val hs h (k := 96) (j := 0) (b := 0) (by decide +kernel))
  have m1 : (zM ws).1 95 1 = 0 := d_ce (z_val hs h (k := 95) (j := 1) (b := 0) (by decide +kernel))
  have n1 : (zM ws).1 96 1 = 0 := d_ce (z_val hs h (k := 96) (j := 1) (b := 0) (by decide +kernel))
  have m2 : (zM ws).1 95 2 = 0 := d_ce (z_val hs h (k := 95) (j := 2) (b := 0) (by decide +kernel))
  have n2 : (zM ws).1 96 2 = 0 := d_ce (z_val hs h (k := 96) (j := 2) (b := 0) (by decide +kernel))
  have m3 : (zM ws).1 95 3 = 0 := d_ce (z_val hs h (k := 95) (j := 3) (b := 0) (by decide +kernel))
  have n3 : (zM ws).1 96 3 = 0 := d_ce (z_val hs h (k := 96) (j := 3) (b := 0) (by decide +kernel))
  have z55 : (zM ws).1 107 55 = 0 := d_ce (z_val hs h (k := 107) (j := 55) (b := 0) (by decide +kernel))
  have z56 : (zM ws).1 107 56 = 100 := d_ce (z_val hs h (k := 107) (j := 56) (b := 100) (by decide +kernel))
  have z57 : (zM ws).1 107 57 = 0 := d_ce (z_val hs h (k := 107) (j := 57) (b := 0) (by decide +kernel))
  have y115 : ∀ j : Nat, j < 3 → (zM ws).1 115 j = 0 := fun j hj => by
    match j, hj with
    | 0, _ | 1, _ | 2, _ => exact d_ce (z_val hs h (b := 0) (by decide +kernel))
    | j + 3, h => omega
  have lc : ∀ k : Nat, k < 4 → LC (zM ws) k (lD0 k) := fun k hk => by
    refine ⟨?_, lD0_ok k, fun i hi => ?_⟩
    · rw [lD0_1]
      match k, hk with
      | 0, _ => rw [c0]; rfl
      | 1, _ => rw [c1]; rfl
      | 2, _ => rw [c2]; rfl
      | 3, _ => rw [c3]; rfl
      | k + 4, h => omega
    · rw [lD0_1] at hi
      have e0 : i = 0 := by omega
      subst e0
      match k, hk with
      | 0, _ => exact ⟨0, by rw [l14]; rfl, by rw [g14]; rfl, by decide, fun j hj => by match j, hj with | 0, _ => exact p0 | 1, _ => exact p1 | 2, _ => exact p2 | j + 3, hj => exact absurd hj (by show ¬ j + 3 < 3; omega)⟩
      | 1, _ => exact ⟨3, by rw [l15]; rfl, by rw [g15]; rfl, by decide, fun j hj => by match j, hj with | 0, _ => exact p3 | j + 1, hj => exact absurd hj (by show ¬ j + 1 < 1; omega)⟩
      | 2, _ => exact ⟨4, by rw [l16]; rfl, by rw [g16]; rfl, by decide, fun j hj => by match j, hj with | 0, _ => exact p4 | j + 1, hj => exact absurd hj (by show ¬ j + 1 < 1; omega)⟩
      | 3, _ => exact ⟨5, by rw [l17]; rfl, by rw [g17]; rfl, by decide, fun j hj => by match j, hj with | 0, _ => exact p5 | j + 1, hj => exact absurd hj (by show ¬ j + 1 < 1; omega)⟩
      | k + 4, h => omega
  have lr : ∀ k : Nat, k < 4 → LR (zM ws) 0 k (lD0 k) := fun k hk => by
    refine ⟨lD0_ok k, Or.inl ⟨?_, lD0_1 k, rfl⟩⟩
    match k, hk with
    | 0, _ => show ((zM ws).1 95 0).toInt = ((zM ws).1 96 0).toInt; rw [m0, n0]
    | 1, _ => show ((zM ws).1 95 1).toInt = ((zM ws).1 96 1).toInt; rw [m1, n1]
    | 2, _ => show ((zM ws).1 95 2).toInt = ((zM ws).1 96 2).toInt; rw [m2, n2]
    | 3, _ => show ((zM ws).1 95 3).toInt = ((zM ws).1 96 3).toInt; rw [m3, n3]
    | k + 4, h => omega
  refine ⟨hE0, sz0 hE0 (fun _ => 0), [], fun _ => sz0 hE0 (fun _ => 0), 0, hoX_b MI_0, hz, fun T hT => absurd hT (List.not_mem_nil), fun _ => hz, ⟨⟨hO, ⟨⟨⟨by rw [a0]; rfl, by decide⟩, ⟨by rw [a1]; rfl, by decide⟩, fun w hw => absurd hw (Nat.not_lt_zero w)⟩, by rw [a2]; rfl, fun f hf => absurd hf (Nat.not_lt_zero f), fun w hw => absurd hw (Nat.not_lt_zero w), fun u hu => absurd hu (Nat.not_lt_zero u), ⟨a3, a4, a5, a6⟩, lc⟩, fun q => absurd w1 q⟩, ⟨⟨s0, s1, s2, s3, s4, s5⟩, r48, r49, r50⟩, ⟨0, by decide, by rw [t2]; rfl, by rw [t3]; rfl, by decide, fun k T hk => by cases hk⟩, fun i hi => by rw [t4, bt_0], fun i hi hb => by rw [t4, bt_0] at hb; cases hb⟩, ⟨⟨hO, ⟨⟨by rw [q18]; rfl, by decide⟩, ⟨by rw [h80]; rfl, by decide⟩, ⟨by rw [h82]; rfl, by decide⟩, fun w hw => absurd hw (Nat.not_lt_zero w)⟩, by rw [h86]; rfl, fun f hf => absurd hf (Nat.not_lt_zero f), fun w hw => absurd hw (Nat.not_lt_zero w), fun u hu => absurd hu (Nat.not_lt_zero u), ⟨h91, h92, h93, h94⟩, lr⟩, ⟨⟨z55, z56, z57⟩, fun w hw => absurd hw (Nat.not_lt_zero w), fun f hf => absurd hf (Nat.not_lt_zero f), fun u hu => absurd hu (Nat.not_lt_zero u)⟩, ⟨by rw [q61]; rfl, by decide, fun k T hk => by cases hk⟩, fun i hi q => absurd (by rw [y115 i hi]; rfl) q⟩⟩
end ZFR
end
section
/-! QUESTIONS, exactly: flat, wire -/
theorem ofI {x : Int32} {z : Int} (h : x.toInt = z) : Int32.ofInt z = x := by rw [← h]; exact Int32.ofInt_toInt x
def aFlt (H : Ho) (S : Zt) (x1 x2 : Int32) : Int32 := if 0 ≤ x1.toInt ∧ x1.toInt < (hoF H : Int) then (if x2.toInt = 0 then hoT H x1.toNatClampNeg else if x2.toInt = 1 then bi (lt H (szG S) x1.toNatClampNeg) else if x2.toInt = 2 then szD S x1.toNatClampNeg else if x2.toInt = 3 then cond (lt H (szG S) x1.toNatClampNeg) (Int32.ofInt (wyD H (szG S) x1.toNatClampNeg : Int)) (-2) else if x2.toInt = 4 then qrl H S x1.toNatClampNeg else if x2.toInt = 5 then amf H (onA H S (hod (szH S))) x1.toNatClampNeg (hoU H) else -1) else -1
def aWir (H : Ho) (S : Zt) (x1 x2 : Int32) : Int32 := if 0 ≤ x1.toInt ∧ x1.toInt < (hoW H : Int) then (if x2.toInt = 0 then Int32.ofInt (hoA H x1.toNatClampNeg : Int) else if x2.toInt = 1 then Int32.ofInt (hoB H x1.toNatClampNeg : Int) else if x2.toInt = 2 then szR S x1.toNatClampNeg else if x2.toInt = 3 then 1 - bi (bt (szG S) x1.toNatClampNeg) else if x2.toInt = 4 then szE S x1.toNatClampNeg else if x2.toInt = 5 then bi (bt (szP S) x1.toNatClampNeg) else if x2.toInt = 6 then lod H (szG S) (onA H S (hod (szH S))) x1.toNatClampNeg else if x2.toInt = 7 then cst H S x1.toNatClampNeg else if x2.toInt = 8 then bi (gop H S (onA H S (hod (szH S))) (hod (szH S)) 0 x1.toNatClampNeg) else -1) else -1
theorem bi_z {b : Bool} (h : (bi b).toInt = 0) : bi b = 0 := by
  cases b with
  | false => rfl
  | true => exact absurd h (by decide)
theorem bi_n {b : Bool} (h : (bi b).toInt ≠ 0) : bi b = 1 := by
  cases b with
  | false => exact absurd rfl h
  | true => rfl
section QFW
variable {H : Ho} {S : Zt} {P : List Zt} {L : Nat → Zt} {m : dM} {s : Nat} {x1 x2 : Int32}
theorem lt_bits {g : Int32} {f : Nat} (l : LA H g m) (hf : f < hoF H) (h32 : f < 32) : bt (m.1 57 5) f = lt H g f := by
  rw [l.2.2.2.2 f h32, decide_eq_true hf, Bool.true_and]
  rfl
theorem ea_flat {Q : Int32 → dM → Prop} (hK : KC H S P L m) (hO : zOk H S) (hQ : ∀ m' : dM, QC H S P L m m' → Q (aFlt H S x1 x2) m') : c_X11_flat_0 6 x1 x2 m Q := by
  have q0 := QC.rf hK
  have f7 := hK.1.1.1
  have hQ' : ∀ (v : Int32) (m' : dM), aFlt H S x1 x2 = v → QC H S P L m m' → Q v m' := fun v m' e q => by rw [← e]; exact hQ m' q
  refine v_X11_flat_0 (Wp.deep (y_isFlatc hK.1 (fun hu => ⟨fun _ => ?_, fun z => absurd z (by decide)⟩) (fun hu => ⟨fun z => absurd rfl z, fun _ => hQ' _ m (by unfold aFlt; rw [if_neg hu]) q0⟩)) (Nat.le_of_ble_eq_true rfl))
  have hx := toNat_of hu.1
  have hf : x1.toNatClampNeg < hoF H := by omega
  refine Wp.deep (k_ways q0 hO (fun M q1 l1 => ?_)) (Nat.le_of_ble_eq_true rfl)
  have lb := lt_bits l1 hf (by omega)
  refine ⟨fun q => ⟨by omega, hQ' _ M ?_ q1⟩, fun q => Wp.deep (y_has hx (by omega) (fun b => ⟨fun z => absurd z (by decide), fun _ => hQ' _ M ?_ q1⟩) (fun b => ⟨fun _ => hQ' _ M ?_ q1, fun z => absurd rfl z⟩)) (Nat.le_of_ble_eq_true rfl), fun q => ⟨by omega, hQ' _ M ?_ q1⟩, fun q => Wp.deep (y_has hx (by omega) (fun b => ⟨fun z => absurd z (by decide), fun _ => ⟨by omega, hQ' _ M ?_ q1⟩⟩) (fun b => ⟨fun _ => hQ' _ M ?_ q1, fun z => absurd rfl z⟩)) (Nat.le_of_ble_eq_true rfl), fun q => Wp.deep (y_quarrel47 q1.2.1 q1.2.2.1 hx (by omega) (fun M2 f2 => hQ' _ M2 ?_ (q1.va f2))) (Nat.le_of_ble_eq_true rfl), fun q => Wp.deep (k_usesNow q1 hO (fun M2 q2 l2 => Wp.deep (k_amps q2.2.1 hx (hQ' _ M2 ?_ q2)) (Nat.le_of_ble_eq_true rfl))) (Nat.le_of_ble_eq_true rfl), fun q => hQ' _ M ?_ q1⟩
  · unfold aFlt; rw [if_pos hu, if_pos q]; exact (q1.2.1.2.1.2.2.1 _ hf).symm
  · unfold aFlt; rw [if_pos hu, if_neg (by omega), if_pos q, ← lb, b]; rfl
  · unfold aFlt; rw [if_pos hu, if_neg (by omega), if_pos q, ← lb, b]; rfl
  · unfold aFlt; rw [if_pos hu, if_neg (by omega), if_neg (by omega), if_pos q]; exact (q1.2.2.1.2.2.2 _ (by omega)).symm
  · unfold aFlt
    rw [if_pos hu, if_neg (by omega), if_neg (by omega), if_neg (by omega), if_pos q, ← lb, b]
    have e : (M.1 59 x1.toNatClampNeg).toInt = ewy (wyD H (szG S) x1.toNatClampNeg) := l1.2.1 x1.toNatClampNeg (by omega)
    have ne : wyD H (szG S) x1.toNatClampNeg ≠ 99 := by
      have := lb.symm.trans b
      exact of_decide_eq_true this
    unfold ewy at e
    rw [if_neg ne] at e
    exact ofI e
  · unfold aFlt; rw [if_pos hu, if_neg (by omega), if_neg (by omega), if_neg (by omega), if_pos q, ← lb, b]; rfl
  · unfold aFlt; rw [if_pos hu, if_neg (by omega), if_neg (by omega), if_neg (by omega), if_neg (by omega), if_pos q]
  · unfold aFlt; rw [if_pos hu, if_neg (by omega), if_neg (by omega), if_neg (by omega), if_neg (by omega), if_neg (by omega), if_pos q]
  · unfold aFlt; rw [if_pos hu, if_neg (by omega), if_neg (by omega), if_neg (by omega), if_neg (by omega), if_neg (by omega), if_neg (by omega)]
theorem eb_flat {Q : Int32 → dM → Prop} (hK : KR H S P L s m) (hQ : ∀ m' : dM, RsF m m' → Q (aFlt H S x1 x2) m') : c_X12_flat_70 7 x1 x2 m Q := by
  have f7 := hK.1.1.1
  have hQ' : ∀ (v : Int32) (m' : dM), aFlt H S x1 x2 = v → RsF m m' → Q v m' := fun v m' e q => by rw [← e]; exact hQ m' q
  refine v_X12_flat_70 (Wp.deep (y_isFlatr hK.1 (fun hu => ⟨fun _ => ?_, fun z => absurd z (by decide)⟩) (fun hu => ⟨fun z => absurd rfl z, fun _ => hQ' _ m (by unfold aFlt; rw [if_neg hu]) (RsF.rf m)⟩)) (Nat.le_of_ble_eq_true rfl))
  have hx := toNat_of hu.1
  have hf : x1.toNatClampNeg < hoF H := by omega
  refine y_copies hK.1 hK.2.1 (fun M f cy _ _ => ?_)
  have a := cy.1.2.1.1
  have e7 := y_idx (C := 7) (c := (7 : Int32)) (by decide) a.1 a.2 hx (by decide) (by omega)
  have e40 := d_add (k := x1) (K := x1.toNatClampNeg) (x := (40 : Int32)) (i := 40) (by decide) hx (by omega)
  refine ⟨fun q => ⟨by omega, hQ' _ M ?_ f⟩, fun q => Wp.deep (y_isLit cy.2.2 hx (by omega) (fun b => ⟨fun z => absurd z (by decide), fun _ => hQ' _ M ?_ f⟩) (fun b => ⟨fun _ => hQ' _ M ?_ f, fun z => absurd rfl z⟩)) (Nat.le_of_ble_eq_true rfl), fun q => ⟨by omega, hQ' _ M ?_ f⟩, fun q => Wp.deep (y_isLit cy.2.2 hx (by omega) (fun b => ⟨fun z => absurd z (by decide), fun _ => ⟨by omega, hQ' _ M ?_ f⟩⟩) (fun b => ⟨fun _ => hQ' _ M ?_ f, fun z => absurd rfl z⟩)) (Nat.le_of_ble_eq_true rfl), fun q => Wp.deep (y_quarrelOf cy.1 cy.2.1 hx (by omega) (fun M2 f2 => hQ' _ M2 ?_ (f.tr f2.rs))) (Nat.le_of_ble_eq_true rfl), fun q => Wp.deep (y_ampsOn cy hx (hQ' _ M ?_ f)) (Nat.le_of_ble_eq_true rfl), fun q => hQ' _ M ?_ f⟩
  · unfold aFlt; rw [if_pos hu, if_pos q, d_cn e7]; exact (cy.1.2.2.2.1 _ hf).symm
  · unfold aFlt; rw [if_pos hu, if_neg (by omega), if_pos q, b]; rfl
  · unfold aFlt; rw [if_pos hu, if_neg (by omega), if_pos q, b]; rfl
  · unfold aFlt; rw [if_pos hu, if_neg (by omega), if_neg (by omega), if_pos q, d_cn e40]; exact (cy.2.1.2.2.1 _ hf).symm
  · unfold aFlt; rw [if_pos hu, if_neg (by omega), if_neg (by omega), if_neg (by omega), if_pos q, b]; exact ofI (cy.2.2.1 x1.toNatClampNeg (by omega))
  · unfold aFlt; rw [if_pos hu, if_neg (by omega), if_neg (by omega), if_neg (by omega), if_pos q, b]; rfl
  · unfold aFlt; rw [if_pos hu, if_neg (by omega), if_neg (by omega), if_neg (by omega), if_neg (by omega), if_pos q]
  · unfold aFlt; rw [if_pos hu, if_neg (by omega), if_neg (by omega), if_neg (by omega), if_neg (by omega), if_neg (by omega), if_pos q]
  · unfold aFlt; rw [if_pos hu, if_neg (by omega), if_neg (by omega), if_neg (by omega), if_neg (by omega), if_neg (by omega), if_neg (by omega)]
theorem ea_wire {Q : Int32 → dM → Prop} (hK : KC H S P L m) (hO : zOk H S) (hQ : ∀ m' : dM, QC H S P L m m' → Q (aWir H S x1 x2) m') : c_X11_wire_0 7 x1 x2 m Q := by
  have q0 := QC.rf hK
  have w10 := hK.1.1.2.1
  have hQ' : ∀ (v : Int32) (m' : dM), aWir H S x1 x2 = v → QC H S P L m m' → Q v m' := fun v m' e q => by rw [← e]; exact hQ m' q
  refine v_X11_wire_0 (Wp.deep (y_isWirec hK.1 (fun hu => ⟨fun _ => ?_, fun z => absurd z (by decide)⟩) (fun hu => ⟨fun z => absurd rfl z, fun _ => hQ' _ m (by unfold aWir; rw [if_neg hu]) q0⟩)) (Nat.le_of_ble_eq_true rfl))
  have hx := toNat_of hu.1
  have hw : x1.toNatClampNeg < hoW H := by omega
  have g3 : m.1 47 3 = szG S := hK.2.1.1.2.2.2.1
  have g4 : m.1 47 4 = szP S := hK.2.1.1.2.2.2.2.1
  refine ⟨fun q => ⟨by omega, hQ' _ m ?_ q0⟩, fun q => ⟨by omega, hQ' _ m ?_ q0⟩, fun q => ⟨by omega, hQ' _ m ?_ q0⟩, fun q => Wp.deep (y_has hx (by omega) (fun b => ⟨fun z => absurd z (by decide), fun _ => hQ' _ m ?_ q0⟩) (fun b => ⟨fun _ => hQ' _ m ?_ q0, fun z => absurd rfl z⟩)) (Nat.le_of_ble_eq_true rfl), fun q => ⟨by omega, hQ' _ m ?_ q0⟩, fun q => Wp.deep (y_has hx (by omega) (fun b => ⟨fun z => absurd z (by decide), fun _ => hQ' _ m ?_ q0⟩) (fun b => ⟨fun _ => hQ' _ m ?_ q0, fun z => absurd rfl z⟩)) (Nat.le_of_ble_eq_true rfl), fun q => Wp.deep (k_load hK hO hx (by omega) (fun M q1 => hQ' _ M ?_ q1)) (Nat.le_of_ble_eq_true rfl), fun q => Wp.deep (y_cost47 hK.1 hK.2.1 hx (by omega) (fun M f => hQ' _ M ?_ (q0.va f))) (Nat.le_of_ble_eq_true rfl), fun q => v_X0_goingNow_54_47 (Wp.deep (k_usesNow q0 hO (fun M q1 _ => k_goingWith q1 hO (fun M2 q2 => Wp.deep (y_has hx (by omega) (fun b => ⟨fun z => absurd z (by decide), fun _ => hQ' _ M2 ?_ q2⟩) (fun b => ⟨fun _ => hQ' _ M2 ?_ q2, fun z => absurd rfl z⟩)) (Nat.le_of_ble_eq_true rfl)))) (Nat.le_of_ble_eq_true rfl)), fun q => hQ' _ m ?_ q0⟩
  · unfold aWir; rw [if_pos hu, if_pos q]; exact ofI (hK.1.2.1.1.2.2 _ hw).1.1
  · unfold aWir; rw [if_pos hu, if_neg (by omega), if_pos q]; exact ofI (hK.1.2.1.1.2.2 _ hw).1.2
  · unfold aWir; rw [if_pos hu, if_neg (by omega), if_neg (by omega), if_pos q]; exact (hK.2.1.2.1 _ (by omega)).symm
  · rw [g3] at b; unfold aWir; rw [if_pos hu, if_neg (by omega), if_neg (by omega), if_neg (by omega), if_pos q, b]; decide
  · rw [g3] at b; unfold aWir; rw [if_pos hu, if_neg (by omega), if_neg (by omega), if_neg (by omega), if_pos q, b]; decide
  · unfold aWir; rw [if_pos hu, if_neg (by omega), if_neg (by omega), if_neg (by omega), if_neg (by omega), if_pos q]; exact (hK.2.1.2.2.1 _ (by omega)).symm
  · rw [g4] at b; unfold aWir; rw [if_pos hu, if_neg (by omega), if_neg (by omega), if_neg (by omega), if_neg (by omega), if_neg (by omega), if_pos q, b]; rfl
  · rw [g4] at b; unfold aWir; rw [if_pos hu, if_neg (by omega), if_neg (by omega), if_neg (by omega), if_neg (by omega), if_neg (by omega), if_pos q, b]; rfl
  · unfold aWir; rw [if_pos hu, if_neg (by omega), if_neg (by omega), if_neg (by omega), if_neg (by omega), if_neg (by omega), if_neg (by omega), if_pos q]
  · unfold aWir; rw [if_pos hu, if_neg (by omega), if_neg (by omega), if_neg (by omega), if_neg (by omega), if_neg (by omega), if_neg (by omega), if_neg (by omega), if_pos q]
  · unfold gng at b; rw [bt_bs _ (by omega), decide_eq_true hw, Bool.true_and] at b; unfold aWir; rw [if_pos hu, if_neg (by omega), if_neg (by omega), if_neg (by omega), if_neg (by omega), if_neg (by omega), if_neg (by omega), if_neg (by omega), if_neg (by omega), if_pos q, b]; rfl
  · unfold gng at b; rw [bt_bs _ (by omega), decide_eq_true hw, Bool.true_and] at b; unfold aWir; rw [if_pos hu, if_neg (by omega), if_neg (by omega), if_neg (by omega), if_neg (by omega), if_neg (by omega), if_neg (by omega), if_neg (by omega), if_neg (by omega), if_pos q, b]; rfl
  · unfold aWir; rw [if_pos hu, if_neg (by omega), if_neg (by omega), if_neg (by omega), if_neg (by omega), if_neg (by omega), if_neg (by omega), if_neg (by omega), if_neg (by omega), if_neg (by omega)]
theorem eb_wire {Q : Int32 → dM → Prop} (hK : KR H S P L s m) (hQ : ∀ m' : dM, RsF m m' → Q (aWir H S x1 x2) m') : c_X12_wire_70 7 x1 x2 m Q := by
  have w10 := hK.1.1.2.1
  have hQ' : ∀ (v : Int32) (m' : dM), aWir H S x1 x2 = v → RsF m m' → Q v m' := fun v m' e q => by rw [← e]; exact hQ m' q
  refine v_X12_wire_70 (Wp.deep (y_isWire hK.1.2.1 (fun hu => ⟨fun _ => ?_, fun z => absurd z (by decide)⟩) (fun hu => ⟨fun z => absurd rfl z, fun _ => hQ' _ m (by unfold aWir; rw [if_neg hu]) (RsF.rf m)⟩)) (Nat.le_of_ble_eq_true rfl))
  have hx := toNat_of hu.1
  have hw : x1.toNatClampNeg < hoW H := by omega
  refine y_copies hK.1 hK.2.1 (fun M f cy _ _ => ?_)
  have a := cy.1.2.1.1
  have e0 := y_idx (C := 10) (c := (10 : Int32)) (by decide) a.1 a.2 hx (by decide) (by omega)
  have e10 := d_add (k := x1) (K := x1.toNatClampNeg) (x := (10 : Int32)) (i := 10) (by decide) hx (by omega)
  have e20 := d_add (k := x1) (K := x1.toNatClampNeg) (x := (20 : Int32)) (i := 20) (by decide) hx (by omega)
  have e30 := d_add (k := x1) (K := x1.toNatClampNeg) (x := (30 : Int32)) (i := 30) (by decide) hx (by omega)
  have z := cy.2.1.2.1 _ hw
  have eh : M.1 108 55 = szH S := cy.2.1.1.1
  refine ⟨fun q => ⟨by omega, hQ' _ M ?_ f⟩, fun q => ⟨by omega, hQ' _ M ?_ f⟩, fun q => ⟨by omega, hQ' _ M ?_ f⟩, fun q => ⟨by omega, hQ' _ M ?_ f⟩, fun q => ⟨by omega, hQ' _ M ?_ f⟩, fun q => ⟨by omega, hQ' _ M ?_ f⟩, fun q => Wp.deep (y_onNow cy (Wp.deep (y_loadBy cy.1 cy.2.2 hx (by omega) (hQ' _ M ?_ f)) (Nat.le_of_ble_eq_true rfl))) (Nat.le_of_ble_eq_true rfl), fun q => Wp.deep (y_costsOf cy.1 cy.2.1 hx (by omega) (fun M2 f2 => hQ' _ M2 ?_ (f.tr f2.rs))) (Nat.le_of_ble_eq_true rfl), fun q => Wp.deep (y_onNow cy (Wp.deep (y_doesGo cy.1 cy.2.1 cy.2.2 hx (by omega) (fun M2 f2 => ⟨fun b => hQ' _ M2 ?_ (f.tr f2.rs), fun b => hQ' _ M2 ?_ (f.tr f2.rs)⟩)) (Nat.le_of_ble_eq_true rfl))) (Nat.le_of_ble_eq_true rfl), fun q => hQ' _ M ?_ f⟩
  · unfold aWir; rw [if_pos hu, if_pos q, d_cn e0]; exact ofI (cy.1.2.1.2.2.2 _ hw).1.1
  · unfold aWir; rw [if_pos hu, if_neg (by omega), if_pos q, d_cn e0]; exact ofI (cy.1.2.1.2.2.2 _ hw).1.2
  · unfold aWir; rw [if_pos hu, if_neg (by omega), if_neg (by omega), if_pos q]; exact z.1.symm
  · unfold aWir; rw [if_pos hu, if_neg (by omega), if_neg (by omega), if_neg (by omega), if_pos q, d_cn e10, z.2.1]
  · unfold aWir; rw [if_pos hu, if_neg (by omega), if_neg (by omega), if_neg (by omega), if_neg (by omega), if_pos q, d_cn e20]; exact z.2.2.1.symm
  · unfold aWir; rw [if_pos hu, if_neg (by omega), if_neg (by omega), if_neg (by omega), if_neg (by omega), if_neg (by omega), if_pos q, d_cn e30]; exact z.2.2.2.symm
  · unfold aWir; rw [if_pos hu, if_neg (by omega), if_neg (by omega), if_neg (by omega), if_neg (by omega), if_neg (by omega), if_neg (by omega), if_pos q]
  · unfold aWir; rw [if_pos hu, if_neg (by omega), if_neg (by omega), if_neg (by omega), if_neg (by omega), if_neg (by omega), if_neg (by omega), if_neg (by omega), if_pos q]
  · rw [eh] at b; unfold aWir; rw [if_pos hu, if_neg (by omega), if_neg (by omega), if_neg (by omega), if_neg (by omega), if_neg (by omega), if_neg (by omega), if_neg (by omega), if_neg (by omega), if_pos q]; exact bi_z b
  · rw [eh] at b; unfold aWir; rw [if_pos hu, if_neg (by omega), if_neg (by omega), if_neg (by omega), if_neg (by omega), if_neg (by omega), if_neg (by omega), if_neg (by omega), if_neg (by omega), if_pos q]; exact bi_n b
  · unfold aWir; rw [if_pos hu, if_neg (by omega), if_neg (by omega), if_neg (by omega), if_neg (by omega), if_neg (by omega), if_neg (by omega), if_neg (by omega), if_neg (by omega), if_neg (by omega)]
end QFW
end
section
/-! QUESTIONS, exactly: way, share -/
/-- along its way, so many wires on -/
def wGo (H : Ho) (g : Int32) : Nat → Nat → Nat
  | 0, f => f
  | k + 1, f => wGo H g k (ot (hoA H) (hoB H) (wyN H g f) f)
def aWay (H : Ho) (S : Zt) (x1 x2 : Int32) : Int32 := if (0 ≤ x1.toInt ∧ x1.toInt < (hoF H : Int)) ∧ 0 ≤ x2.toInt then cond (lt H (szG S) x1.toNatClampNeg) (if x2.toInt < (wyD H (szG S) x1.toNatClampNeg : Int) then Int32.ofInt (wyN H (szG S) (wGo H (szG S) x2.toNatClampNeg x1.toNatClampNeg) : Int) else -1) (-2) else -1
def aShr (H : Ho) (S : Zt) (x1 x2 : Int32) : Int32 := if (0 ≤ x1.toInt ∧ x1.toInt < (hoF H : Int)) ∧ 0 ≤ x2.toInt ∧ x2.toInt < (hoW H : Int) then cond (bt (wyV H (szG S) x1.toNatClampNeg) x2.toNatClampNeg) (amf H (onA H S (hod (szH S))) x1.toNatClampNeg (hoU H)) 0 else -1
section QWS
variable {H : Ho} {S : Zt} {P : List Zt} {L : Nat → Zt} {m : dM} {s : Nat} {x1 x2 : Int32}
theorem ea_way {Q : Int32 → dM → Prop} (hK : KC H S P L m) (hO : zOk H S) (hQ : ∀ m' : dM, QC H S P L m m' → Q (aWay H S x1 x2) m') : c_X11_way_0 4 x1 x2 m Q := by
  have q0 := QC.rf hK
  have f7 := hK.1.1.1
  have w10 := hK.1.1.2.1
  have hQ' : ∀ (v : Int32) (m' : dM), aWay H S x1 x2 = v → QC H S P L m m' → Q v m' := fun v m' e q => by rw [← e]; exact hQ m' q
  have no : ¬ ((0 ≤ x1.toInt ∧ x1.toInt < (hoF H : Int)) ∧ 0 ≤ x2.toInt) → j_X11_way_0_12 4 m Q := fun q => v_X11_way_0_12 (hQ' _ m (by unfold aWay; rw [if_neg q]) q0)
  refine v_X11_way_0 (Wp.deep (y_isFlatc hK.1 (fun hu => ⟨fun z => absurd z (by decide), fun _ => ⟨fun h2 => ?_, fun q => no (fun w => by omega)⟩⟩) (fun hu => ⟨fun _ => no (fun w => hu w.1), fun z => absurd rfl z⟩)) (Nat.le_of_ble_eq_true rfl))
  have hx := toNat_of hu.1
  have h2x := toNat_of h2
  have hf0 : x1.toNatClampNeg < hoF H := by omega
  refine k_ways q0 hO (fun M q1 l1 => ?_)
  have lb := lt_bits l1 hf0 (by omega)
  have eA : aWay H S x1 x2 = cond (lt H (szG S) x1.toNatClampNeg) (if x2.toInt < (wyD H (szG S) x1.toNatClampNeg : Int) then Int32.ofInt (wyN H (szG S) (wGo H (szG S) x2.toNatClampNeg x1.toNatClampNeg) : Int) else -1) (-2) := by unfold aWay; rw [if_pos ⟨hu, h2⟩]
  refine Wp.deep (y_has hx (by omega) (fun g => ⟨fun z => absurd z (by decide), fun _ => ?_⟩) (fun g => ⟨fun _ => hQ' _ M (by rw [eA, ← lb, g]; rfl) q1, fun z => absurd rfl z⟩)) (Nat.le_of_ble_eq_true rfl)
  have eB : aWay H S x1 x2 = if x2.toInt < (wyD H (szG S) x1.toNatClampNeg : Int) then Int32.ofInt (wyN H (szG S) (wGo H (szG S) x2.toNatClampNeg x1.toNatClampNeg) : Int) else -1 := by rw [eA, ← lb, g]; rfl
  have hH := q1.2.1.2.1.1
  have loop : ∀ (t i f : Nat) (x3 x4 : Int32), i + t = 7 → x4.toInt = (i : Int) → x3.toInt = (f : Int) → f < hoF H → (x2.toInt < (i : Int) + (wyD H (szG S) f : Int) ∧ i + wyD H (szG S) f ≤ 6 ∧ i ≤ x2.toNatClampNeg) → aWay H S x1 x2 = Int32.ofInt (wyN H (szG S) (wGo H (szG S) (x2.toNatClampNeg - i) f) : Int) → j_X10_wireAt_57_21 3 x2 x3 x4 M Q := by
    intro t
    induction t with
    | zero =>
      intro i f x3 x4 hi h4 h3 hf hd e
      exfalso
      omega
    | succ t ih =>
      intro i f x3 x4 hi h4 h3 hf hd e
      obtain ⟨n, hn⟩ : ∃ n, wyD H (szG S) f = n + 1 := ⟨wyD H (szG S) f - 1, by omega⟩
      have nk := nx_ok (nf := hoF H) (nw := hoW H) (e1 := hoA H) (e2 := hoB H) (G := bt (szG S)) (n := n) (f := f) (by omega) hn
      have e58 := l1.2.2.2.1 f hf (by show wyD H (szG S) f ≠ 99; omega) (by show wyD H (szG S) f ≠ 0; omega)
      obtain ⟨⟨w1, w2⟩, q1', q2', q3'⟩ := hH.2.2 _ nk.1
      refine v_X10_wireAt_57_21 ⟨fun q => ⟨by omega, hQ' _ M ?_ q1⟩, fun q => ⟨by omega, ?_⟩⟩
      · rw [e, show x2.toNatClampNeg - i = 0 by omega, d_cn h3]
        exact ofI e58
      rw [d_cn h3, d_cn e58, w1, h3]
      have dn : wyD H (szG S) (ot (hoA H) (hoB H) (nx (hoF H) (hoW H) (hoA H) (hoB H) (bt (szG S)) f) f) = n := nk.2.2
      rw [show x2.toNatClampNeg - i = (x2.toNatClampNeg - (i + 1)) + 1 by omega] at e
      have e : aWay H S x1 x2 = Int32.ofInt (wyN H (szG S) (wGo H (szG S) (x2.toNatClampNeg - (i + 1)) (ot (hoA H) (hoB H) (nx (hoF H) (hoW H) (hoA H) (hoB H) (bt (szG S)) f) f)) : Int) := e
      refine ⟨by omega, fun ne => ⟨by omega, ih (i + 1) (hoA H (nx (hoF H) (hoW H) (hoA H) (hoB H) (bt (szG S)) f)) _ _ (by omega) (d_inc h4 (by omega)) w1 q1' ?_ ?_⟩, fun ee => ⟨by omega, ih (i + 1) (hoB H (nx (hoF H) (hoW H) (hoA H) (hoB H) (bt (szG S)) f)) _ _ (by omega) (d_inc h4 (by omega)) w2 q2' ?_ ?_⟩⟩
      · unfold ot at dn
        rw [if_neg (by omega)] at dn
        omega
      · unfold ot at e
        rw [if_neg (by omega)] at e
        exact e
      · unfold ot at dn
        rw [if_pos (by omega)] at dn
        omega
      · unfold ot at e
        rw [if_pos (by omega)] at e
        exact e
  have e59 := l1.2.1 x1.toNatClampNeg (by omega)
  have lit : wyD H (szG S) x1.toNatClampNeg ≠ 99 := by
    have := lb.symm.trans g
    exact of_decide_eq_true this
  have e59 : (M.1 59 x1.toNatClampNeg).toInt = ewy (wyD H (szG S) x1.toNatClampNeg) := e59
  unfold ewy at e59
  rw [if_neg lit] at e59
  refine v_X10_wireAt_57 ⟨fun q => by exfalso; omega, fun _ => ⟨by omega, fun q => ?_, fun q => v_X10_wireAt_57_14 (hQ' _ M (by rw [eB, if_neg (by omega)]) q1)⟩⟩
  have b0 := dD_le (nf := hoF H) (nw := hoW H) (e1 := hoA H) (e2 := hoB H) (G := bt (szG S)) (f := x1.toNatClampNeg)
  have b0 : wyD H (szG S) x1.toNatClampNeg ≤ 6 ∨ wyD H (szG S) x1.toNatClampNeg = 99 := b0
  exact loop 7 0 x1.toNatClampNeg _ _ rfl (by decide) hx (by omega) ⟨by omega, by omega, by omega⟩ (by rw [eB, if_pos (by omega)]; rfl)
theorem eb_way {Q : Int32 → dM → Prop} (hK : KR H S P L s m) (hQ : ∀ m' : dM, RsF m m' → Q (aWay H S x1 x2) m') : c_X12_way_70 7 x1 x2 m Q := by
  have f7 := hK.1.1.1
  have hQ' : ∀ (v : Int32) (m' : dM), aWay H S x1 x2 = v → RsF m m' → Q v m' := fun v m' e q => by rw [← e]; exact hQ m' q
  have no : ¬ ((0 ≤ x1.toInt ∧ x1.toInt < (hoF H : Int)) ∧ 0 ≤ x2.toInt) → j_X12_way_70_12 7 m Q := fun q => v_X12_way_70_12 (hQ' _ m (by unfold aWay; rw [if_neg q]) (RsF.rf m))
  refine v_X12_way_70 (Wp.deep (y_isFlatr hK.1 (fun hu => ⟨fun z => absurd z (by decide), fun _ => ⟨fun h2 => ?_, fun q => no (fun w => by omega)⟩⟩) (fun hu => ⟨fun _ => no (fun w => hu w.1), fun z => absurd rfl z⟩)) (Nat.le_of_ble_eq_true rfl))
  have hx := toNat_of hu.1
  have h2x := toNat_of h2
  have eA : aWay H S x1 x2 = cond (lt H (szG S) x1.toNatClampNeg) (if x2.toInt < (wyD H (szG S) x1.toNatClampNeg : Int) then Int32.ofInt (wyN H (szG S) (wGo H (szG S) x2.toNatClampNeg x1.toNatClampNeg) : Int) else -1) (-2) := by unfold aWay; rw [if_pos ⟨hu, h2⟩]
  refine y_copies hK.1 hK.2.1 (fun M f cy _ _ => ?_)
  have e109 := cy.2.2.1 x1.toNatClampNeg (by omega)
  refine Wp.deep (y_isLit cy.2.2 hx (by omega) (fun g => ⟨fun _ => ⟨by omega, fun lt' => ?_, fun q => hQ' _ M (by rw [eA, g]; show (if _ then _ else _) = _; rw [if_neg (by omega)]) f⟩, fun z => absurd z (by decide)⟩) (fun g => ⟨fun z => absurd rfl z, fun _ => hQ' _ M (by rw [eA, g]; rfl) f⟩)) (Nat.le_of_ble_eq_true rfl)
  have eB : aWay H S x1 x2 = Int32.ofInt (wyN H (szG S) (wGo H (szG S) x2.toNatClampNeg x1.toNatClampNeg) : Int) := by
    rw [eA, g]
    show (if _ then _ else _) = _
    rw [if_pos (by omega)]
  have hG : RG (hoW H) (bt (szG S)) M := cy.2.1.rg (r := 0)
  have loop : ∀ (t i f' : Nat) (x3 x4 : Int32), i + t = 7 → x4.toInt = (i : Int) → x3.toInt = (f' : Int) → f' < hoF H → (x2.toInt < (i : Int) + (wyD H (szG S) f' : Int) ∧ i + wyD H (szG S) f' ≤ 6 ∧ (i : Int) ≤ x2.toInt) → aWay H S x1 x2 = Int32.ofInt (wyN H (szG S) (wGo H (szG S) (x2.toNatClampNeg - i) f') : Int) → j_X12_way_70_46 7 x2 x3 x4 M Q := by
    intro t
    induction t with
    | zero => intro i f' x3 x4 hi h4 h3 hf hd; exfalso; omega
    | succ t ih =>
      intro i f' x3 x4 hi h4 h3 hf hd e
      refine v_X12_way_70_46 ⟨fun q => ?_, fun q => ?_⟩
      · obtain ⟨n, hn⟩ : ∃ n, wyD H (szG S) f' = n + 1 := ⟨wyD H (szG S) f' - 1, by omega⟩
        exact Wp.deep (y_wireFrom cy.1.2.1 hG cy.2.2.1 h3 (by omega) (by omega : n < 6) hn (fun r hr => hQ' _ M (by rw [e, show x2.toNatClampNeg - i = 0 by omega]; exact ofI hr) f)) (Nat.le_of_ble_eq_true rfl)
      · obtain ⟨n, hn⟩ : ∃ n, wyD H (szG S) f' = n + 1 := ⟨wyD H (szG S) f' - 1, by omega⟩
        have nk := nx_ok (nf := hoF H) (nw := hoW H) (e1 := hoA H) (e2 := hoB H) (G := bt (szG S)) (n := n) (f := f') (by omega) hn
        have en := (cy.1.1.2.2.2.1 _ nk.1)
        refine Wp.deep (y_wireFrom cy.1.2.1 hG cy.2.2.1 h3 (by omega) (by omega : n < 6) hn (fun r hr => Wp.deep (y_otherEnd cy.1.2.1 hr nk.1 h3 (fun r2 ht hr2 => ih (i + 1) _ _ _ (by omega) (d_inc h4 (by omega)) hr2 ?_ ?_ ?_) (fun no2 => ?_)) (Nat.le_of_ble_eq_true rfl))) (Nat.le_of_ble_eq_true rfl)
        · unfold ot; split <;> omega
        · have dn : wyD H (szG S) (ot (hoA H) (hoB H) (nx (hoF H) (hoW H) (hoA H) (hoB H) (bt (szG S)) f') f') = n := nk.2.2
          rw [dn]
          omega
        · rw [show x2.toNatClampNeg - i = (x2.toNatClampNeg - (i + 1)) + 1 by omega] at e
          exact e
        · exfalso
          have k2 := nk.2.1
          unfold tch at k2
          rw [Bool.and_eq_true, Bool.or_eq_true, decide_eq_true_eq, decide_eq_true_eq] at k2
          exact no2 k2.2
  have lit : wyD H (szG S) x1.toNatClampNeg ≠ 99 := by
    unfold lt at g
    exact of_decide_eq_true g
  have b0 := dD_le (nf := hoF H) (nw := hoW H) (e1 := hoA H) (e2 := hoB H) (G := bt (szG S)) (f := x1.toNatClampNeg)
  have b0 : wyD H (szG S) x1.toNatClampNeg ≤ 6 ∨ wyD H (szG S) x1.toNatClampNeg = 99 := b0
  exact loop 7 0 x1.toNatClampNeg _ _ rfl (by decide) hx (by omega) ⟨by omega, by omega, by omega⟩ eB
theorem ea_share {Q : Int32 → dM → Prop} (hK : KC H S P L m) (hO : zOk H S) (hQ : ∀ m' : dM, QC H S P L m m' → Q (aShr H S x1 x2) m') : c_X11_share_0 5 x1 x2 m Q := by
  have q0 := QC.rf hK
  have f7 := hK.1.1.1
  have w10 := hK.1.1.2.1
  have hQ' : ∀ (v : Int32) (m' : dM), aShr H S x1 x2 = v → QC H S P L m m' → Q v m' := fun v m' e q => by rw [← e]; exact hQ m' q
  have no : ¬ ((0 ≤ x1.toInt ∧ x1.toInt < (hoF H : Int)) ∧ 0 ≤ x2.toInt ∧ x2.toInt < (hoW H : Int)) → j_X11_share_0_16 5 m Q := fun q => v_X11_share_0_16 (hQ' _ m (by unfold aShr; rw [if_neg q]) q0)
  refine v_X11_share_0 (Wp.deep (y_isFlatc hK.1 (fun hu => ⟨fun z => absurd z (by decide), fun _ => ?_⟩) (fun hu => ⟨fun _ => no (fun w => hu w.1), fun z => absurd rfl z⟩)) (Nat.le_of_ble_eq_true rfl))
  have hx := toNat_of hu.1
  have hf : x1.toNatClampNeg < hoF H := by omega
  refine Wp.deep (y_isWirec hK.1 (fun hw => ⟨fun _ => ?_, fun z => absurd z (by decide)⟩) (fun hw => ⟨fun z => absurd rfl z, fun _ => no (fun w => hw w.2)⟩)) (Nat.le_of_ble_eq_true rfl)
  have hy := toNat_of hw.1
  refine Wp.deep (k_ways q0 hO (fun M q1 l1 => ⟨by omega, ?_⟩)) (Nat.le_of_ble_eq_true rfl)
  have e60 : M.1 60 x1.toNatClampNeg = wyV H (szG S) x1.toNatClampNeg := by
    rw [l1.2.2.1 _ hf]
    by_cases q : dD (hoF H) (hoW H) (hoA H) (hoB H) (bt (szG S)) x1.toNatClampNeg = 99
    · rw [if_pos q]; exact (via_99 q).symm
    · rw [if_neg q]; rfl
  have eA : aShr H S x1 x2 = cond (bt (wyV H (szG S) x1.toNatClampNeg) x2.toNatClampNeg) (amf H (onA H S (hod (szH S))) x1.toNatClampNeg (hoU H)) 0 := by unfold aShr; rw [if_pos ⟨hu, hw⟩]
  rw [e60]
  exact Wp.deep (y_has hy (by omega) (fun b => ⟨fun z => absurd z (by decide), fun _ => k_usesNow q1 hO (fun M2 q2 l2 => Wp.deep (k_amps q2.2.1 hx (hQ' _ M2 (by rw [eA, b]; rfl) q2)) (Nat.le_of_ble_eq_true rfl))⟩) (fun b => ⟨fun _ => hQ' _ M (by rw [eA, b]; rfl) q1, fun z => absurd rfl z⟩)) (Nat.le_of_ble_eq_true rfl)
theorem eb_share {Q : Int32 → dM → Prop} (hK : KR H S P L s m) (hQ : ∀ m' : dM, RsF m m' → Q (aShr H S x1 x2) m') : c_X12_share_70 7 x1 x2 m Q := by
  have f7 := hK.1.1.1
  have w10 := hK.1.1.2.1
  have hQ' : ∀ (v : Int32) (m' : dM), aShr H S x1 x2 = v → RsF m m' → Q v m' := fun v m' e q => by rw [← e]; exact hQ m' q
  have no : ¬ ((0 ≤ x1.toInt ∧ x1.toInt < (hoF H : Int)) ∧ 0 ≤ x2.toInt ∧ x2.toInt < (hoW H : Int)) → j_X12_share_70_16 7 m Q := fun q => v_X12_share_70_16 (hQ' _ m (by unfold aShr; rw [if_neg q]) (RsF.rf m))
  refine v_X12_share_70 (Wp.deep (y_isFlatr hK.1 (fun hu => ⟨fun z => absurd z (by decide), fun _ => Wp.deep (y_isWire hK.1.2.1 (fun hw => ⟨fun _ => ?_, fun z => absurd z (by decide)⟩) (fun hw => ⟨fun z => absurd rfl z, fun _ => no (fun w => hw w.2)⟩)) (Nat.le_of_ble_eq_true rfl)⟩) (fun hu => ⟨fun _ => no (fun w => hu w.1), fun z => absurd rfl z⟩)) (Nat.le_of_ble_eq_true rfl))
  have hx := toNat_of hu.1
  have hy := toNat_of hw.1
  have eA : aShr H S x1 x2 = cond (bt (wyV H (szG S) x1.toNatClampNeg) x2.toNatClampNeg) (amf H (onA H S (hod (szH S))) x1.toNatClampNeg (hoU H)) 0 := by unfold aShr; rw [if_pos ⟨hu, hw⟩]
  refine y_copies hK.1 hK.2.1 (fun M f cy _ _ => ?_)
  have e110 := cy.2.2.2 x1.toNatClampNeg (by omega)
  have sh := bt_s (x := M.1 110 x1.toNatClampNeg) hy (by omega)
  rw [e110] at sh ⊢
  cases b : bt (wyV H (szG S) x1.toNatClampNeg) x2.toNatClampNeg with
  | true =>
    rw [b, if_pos rfl] at sh
    exact ⟨by omega, fun q => absurd sh q, fun _ => Wp.deep (y_ampsOn cy hx (hQ' _ M (by rw [eA, b]; rfl) f)) (Nat.le_of_ble_eq_true rfl)⟩
  | false =>
    rw [b, if_neg (by decide)] at sh
    exact ⟨by omega, fun _ => hQ' _ M (by rw [eA, b]; rfl) f, fun q => by exfalso; omega⟩
end QWS
end
section
/-! QUESTIONS, exactly: what is lit without some wires; without, needed -/
section LIW
variable {nf nw : Nat} {e1 e2 : Nat → Nat} {G : Nat → Bool}
theorem dD_0 {f : Nat} (h : dD nf nw e1 e2 G f = 0) : f = 0 ∧ 0 < nf := by
  have h0 := (dD_lvl (by omega : 0 ≤ 6)).mp h
  have h0 : (if f = 0 ∧ 0 < nf then 0 else 99) = 0 := h0
  by_cases q : f = 0 ∧ 0 < nf
  · exact q
  · rw [if_neg q] at h0
    omega
theorem dD_00 (h : 0 < nf) : dD nf nw e1 e2 G 0 = 0 := (dD_lvl (by omega : 0 ≤ 6)).mpr (by show (if 0 = 0 ∧ 0 < nf then 0 else 99) = 0; rw [if_pos ⟨rfl, h⟩])
theorem dD_lt (hE : ∀ w : Nat, w < nw → e1 w < nf ∧ e2 w < nf) {f : Nat} (h : dD nf nw e1 e2 G f ≠ 99) : f < nf := by
  by_cases q : f < nf
  · exact q
  · exact absurd (dst_far hE (by omega : nf ≤ f) 6) h
/-- so far, so many -/
theorem lvl_cn (hE : ∀ w : Nat, w < nw → e1 w < nf ∧ e2 w < nf) : ∀ (n a : Nat), n ≤ 6 → dD nf nw e1 e2 G a = n → n + 1 ≤ cn (fun f => decide (dD nf nw e1 e2 G f ≤ n)) nf
  | 0, a, _, h => by
    have q := dD_0 h
    exact cn_pos (p := fun f => decide (dD nf nw e1 e2 G f ≤ 0)) (j := a) (decide_eq_true (by omega)) nf (by omega)
  | n + 1, a, hn, h => by
    have k := nx_ok (by omega : n < 6) h
    have ih := lvl_cn hE n _ (by omega) k.2.2
    have ha := dD_lt (G := G) hE (f := a) (by omega)
    have := cn_more (p := fun f => decide (dD nf nw e1 e2 G f ≤ n)) (q := fun f => decide (dD nf nw e1 e2 G f ≤ n + 1)) (fun i hi => decide_eq_true (by have := of_decide_eq_true hi; omega)) (j := a) (decide_eq_false (by omega)) (decide_eq_true (by omega)) nf ha
    omega
/-- a whole wire: its ends are lit both or none -/
theorem dD_cl (hE : ∀ w : Nat, w < nw → e1 w < nf ∧ e2 w < nf) (h7 : nf ≤ 7) {w a b : Nat} (hw : w < nw) (hG : G w = false) (hab : (e1 w = a ∧ e2 w = b) ∨ (e2 w = a ∧ e1 w = b)) (ha : dD nf nw e1 e2 G a ≠ 99) : dD nf nw e1 e2 G b ≠ 99 := by
  by_cases eab : a = b
  · rw [← eab]; exact ha
  have bl := dD_le (nf := nf) (nw := nw) (e1 := e1) (e2 := e2) (G := G) (f := a)
  obtain ⟨l, hl⟩ : ∃ l, dD nf nw e1 e2 G a = l := ⟨_, rfl⟩
  have hEw := hE w hw
  by_cases q6 : l = 6
  · have c := lvl_cn (G := G) hE 6 a (by omega) (by omega)
    have c2 := cn_le (p := fun f => decide (dD nf nw e1 e2 G f ≤ 6)) nf
    have hb : b < nf := by rcases hab with ⟨p, q⟩ | ⟨p, q⟩ <;> omega
    have := of_decide_eq_true (cn_all (p := fun f => decide (dD nf nw e1 e2 G f ≤ 6)) nf (by omega) b hb)
    omega
  · intro hb
    have hb6 : dst nf nw e1 e2 G 6 b = 99 := hb
    have la : dst nf nw e1 e2 G l a = l := (dD_lvl (by omega : l ≤ 6)).mp hl
    have k1 : dst nf nw e1 e2 G l b = 99 := by
      by_cases q : dst nf nw e1 e2 G l b = 99
      · exact q
      · exfalso
        have := dst_keep q (6 - l)
        rw [show l + (6 - l) = 6 by omega] at this
        omega
    have o : ot e1 e2 w b = a := by
      unfold ot
      rcases hab with ⟨p, q⟩ | ⟨p, q⟩
      · rw [if_neg (by omega)]; exact p
      · rw [if_pos q]; exact p
    have t : tch e1 e2 G w b = true := by
      unfold tch
      rw [hG, Bool.not_false, Bool.true_and, Bool.or_eq_true, decide_eq_true_eq, decide_eq_true_eq]
      rcases hab with ⟨p, q⟩ | ⟨p, q⟩
      · exact Or.inr q
      · exact Or.inl q
    have an1 : an (br e1 e2 G (dst nf nw e1 e2 G l) l b) nw = true := (an_iff nw).mpr ⟨w, hw, by
      unfold br
      rw [t, o, Bool.true_and]
      exact decide_eq_true la⟩
    have s1 : dst nf nw e1 e2 G (l + 1) b = l + 1 := by rw [dst_s, if_pos ⟨k1, an1⟩]
    have := dst_keep (n := l + 1) (f := b) (by rw [s1]; omega) (6 - (l + 1))
    rw [show l + 1 + (6 - (l + 1)) = 6 by omega, s1] at this
    omega
end LIW
def ltB (H : Ho) (g : Int32) : Int32 := bs (lt H g) (hoF H)
section QLT
variable {H : Ho} {S : Zt} {P : List Zt} {L : Nat → Zt} {m : dM} {s : Nat} {x1 x2 : Int32}
theorem bt_ltB {g : Int32} {i : Nat} (h7 : hoF H ≤ 7) : bt (ltB H g) i = (decide (i < hoF H) && lt H g i) := bt_bs _ (by omega)
theorem ea_lit {x : Int32} {Q : Int32 → dM → Prop} (hW : CW H m) (hQ : Q (ltB H x) m) : c_X3_litWithout_2 2 x m Q := by
  have f7 := hW.1.1
  have w10 := hW.1.2.1
  have hOk := hW.1.2.2.2.1
  have hE : ∀ w : Nat, w < hoW H → hoA H w < hoF H ∧ hoB H w < hoF H := fun w hw => ⟨(hOk w hw).1, (hOk w hw).2.1⟩
  have e20 := hW.2.1.1.1.1
  have e21 := hW.2.1.1.2.1.1
  have fin : ∀ y : Int32, (∀ i : Nat, bt y i = true → i < hoF H ∧ wyD H x i ≠ 99) → (∀ f : Nat, wyD H x f ≠ 99 → bt y f = true) → j_X3_litWithout_2_88 2 y m Q := fun y h1 h2 => by
    have e : y = ltB H x := bt_ext (fun i hi => by
      rw [bt_ltB f7]
      cases b : bt y i with
      | true =>
        have := h1 i b
        rw [decide_eq_true this.1, Bool.true_and]
        exact (decide_eq_true this.2).symm
      | false =>
        by_cases q : wyD H x i = 99
        · have : lt H x i = false := decide_eq_false (fun w => w q)
          rw [this, Bool.and_false]
        · rw [h2 i q] at b; cases b)
    rw [e]
    exact v_X3_litWithout_2_88 hQ
  have l15 : ∀ (t n : Nat) (x2 x3 : Int32), n + t = 7 → x3.toInt = ((n + 1 : Nat) : Int) → (∀ i : Nat, bt x2 i = true → i < hoF H ∧ wyD H x i ≠ 99) → (∀ f : Nat, wyD H x f ≤ n → bt x2 f = true) → n + 1 ≤ cn (bt x2) (hoF H) → j_X3_litWithout_2_15 2 x x2 x3 m Q := by
    intro t
    have full : ∀ (n : Nat) (x2 : Int32), hoF H ≤ n + 1 → (∀ i : Nat, bt x2 i = true → i < hoF H ∧ wyD H x i ≠ 99) → n + 1 ≤ cn (bt x2) (hoF H) → j_X3_litWithout_2_88 2 x2 m Q := fun n x2 hn hS hC => by
      have c2 := cn_le (p := bt x2) (hoF H)
      have ca := cn_all (p := bt x2) (hoF H) (by omega)
      exact fin x2 hS (fun f hf => ca f (dD_lt hE hf))
    induction t with
    | zero =>
      intro n x2 x3 hn h3 hS hP hC
      exact v_X3_litWithout_2_15 ⟨fun _ => full n x2 (by omega) hS hC, fun q => by exfalso; omega⟩
    | succ t ih =>
      intro n x2 x3 hn h3 hS hP hC
      have f := dAddE (X := x3.toInt) (Y := 1) (x := x3) (y := (1 : Int32)) rfl (by decide) (by omega) (by omega)
      have l29 : ∀ (u w : Nat) (y x5 : Int32), w + u = hoW H → x5.toInt = (w : Int) → (∀ i : Nat, bt y i = true → i < hoF H ∧ wyD H x i ≠ 99) → (∀ i : Nat, bt x2 i = true → bt y i = true) → (∀ w' : Nat, w' < w → bt x w' = false → (bt x2 (hoA H w') = true ∨ bt x2 (hoB H w') = true) → bt y (hoA H w') = true ∧ bt y (hoB H w') = true) → j_X3_litWithout_2_29 2 x y x3 x2 x5 m Q := by
        intro u
        induction u with
        | zero =>
          intro w y x5 hw h5 hy hi hc
          have ew : w = hoW H := by omega
          subst ew
          have step : ∀ (k f' : Nat), k < 6 → wyD H x f' = k + 1 → (∀ g : Nat, wyD H x g = k → bt x2 g = true) → bt y f' = true := fun k f' hk hd hg => by
            have nk := nx_ok (nf := hoF H) (nw := hoW H) (e1 := hoA H) (e2 := hoB H) (G := bt x) (n := k) (f := f') hk hd
            obtain ⟨n1, n2, n3⟩ := nk
            generalize nx (hoF H) (hoW H) (hoA H) (hoB H) (bt x) f' = v at n1 n2 n3
            have ho := hg _ n3
            unfold tch at n2
            rw [Bool.and_eq_true, Bool.or_eq_true, decide_eq_true_eq, decide_eq_true_eq] at n2
            have hGv : bt x v = false := by
              have := n2.1
              cases b : bt x v with
              | true => rw [b] at this; cases this
              | false => rfl
            have hv : bt x2 (hoA H v) = true ∨ bt x2 (hoB H v) = true := by
              unfold ot at ho
              by_cases q : hoA H v = f'
              · rw [if_pos q] at ho; exact Or.inr ho
              · rw [if_neg q] at ho; exact Or.inl ho
            have := hc v n1 hGv hv
            rcases n2.2 with q | q
            · rw [← q]; exact this.1
            · rw [← q]; exact this.2
          refine v_X3_litWithout_2_29 ⟨fun _ => ⟨fun ne => ?_, fun ee => ?_⟩, fun q => by exfalso; omega⟩
          · refine ih (n + 1) y _ (by omega) (by rw [f, h3]; omega) hy (fun f' hf' => ?_) ?_
            · by_cases q : wyD H x f' ≤ n
              · exact hi f' (hP f' q)
              · have b := dD_le (nf := hoF H) (nw := hoW H) (e1 := hoA H) (e2 := hoB H) (G := bt x) (f := f')
                have b : wyD H x f' ≤ 6 ∨ wyD H x f' = 99 := b
                exact step n f' (by omega) (by omega) (fun g hg => hP g (by omega))
            · by_cases ex : ∃ j : Nat, bt x2 j = false ∧ bt y j = true
              · obtain ⟨j, j1, j2⟩ := ex
                have := cn_more (p := bt x2) (q := bt y) hi j1 j2 (hoF H) (hy j j2).1
                omega
              · exfalso
                apply ne
                have : y = x2 := bt_ext (fun i _ => by
                  cases b : bt x2 i with
                  | true => exact hi i b
                  | false =>
                    cases b2 : bt y i with
                    | true => exact absurd ⟨i, b, b2⟩ ex
                    | false => rfl)
                rw [this]
          · have e : y = x2 := Int32.toInt_inj.mp ee
            have all : ∀ (k f' : Nat), k ≤ 6 → wyD H x f' = k → bt y f' = true := by
              intro k
              induction k with
              | zero => intro f' _ hd; rw [e]; exact hP f' (by omega)
              | succ k ihk =>
                intro f' hk hd
                exact step k f' (by omega) hd (fun g hg => by rw [← e]; exact ihk g (by omega) hg)
            refine fin y hy (fun f' hf' => ?_)
            have b := dD_le (nf := hoF H) (nw := hoW H) (e1 := hoA H) (e2 := hoB H) (G := bt x) (f := f')
            have b : wyD H x f' ≤ 6 ∨ wyD H x f' = 99 := b
            exact all _ f' (by omega) rfl
        | succ u ih2 =>
          intro w y x5 hw h5 hy hi hc
          have hww : w < hoW H := by omega
          have hEw := hE w hww
          have on : ∀ z : Int32, (∀ i : Nat, bt z i = true → i < hoF H ∧ wyD H x i ≠ 99) → (∀ i : Nat, bt y i = true → bt z i = true) → (bt x w = false → (bt x2 (hoA H w) = true ∨ bt x2 (hoB H w) = true) → bt z (hoA H w) = true ∧ bt z (hoB H w) = true) → j_X3_litWithout_2_67 2 x z x3 x2 x5 m Q := fun z a b c => v_X3_litWithout_2_67 (ih2 (w + 1) z _ (by omega) (d_inc h5 (by omega)) a (fun i q => b i (hi i q)) (fun w' hw' hg hor => by
            by_cases q : w' = w
            · rw [q] at hg hor ⊢; exact c hg hor
            · have := hc w' (by omega) hg hor
              exact ⟨b _ this.1, b _ this.2⟩))
          have ends := hW.2.1.1.2.2 w hww
          refine v_X3_litWithout_2_29 ⟨fun q => by exfalso; omega, fun _ => v_X3_endsOf_2 ⟨by omega, by omega, ?_⟩⟩
          rw [d_cn h5, b1_of ends.1.1, b1_of ends.1.2]
          have bb : ∀ i : Nat, bt (b1 (hoA H w) ||| b1 (hoB H w)) i = (decide (i = hoA H w) || decide (i = hoB H w)) := fun i => by rw [bt_or, bt_1 (by omega), bt_1 (by omega)]
          refine y_has h5 (by omega) (fun g => ⟨fun _ => on y hy (fun i q => q) (fun q => by rw [q] at g; cases g), fun z => absurd z (by decide)⟩) (fun g => ⟨fun z => absurd rfl z, fun _ => ⟨fun z0 => ?_, fun z0 => ?_⟩⟩)
          · have e0 : (b1 (hoA H w) ||| b1 (hoB H w)) &&& y = 0 := d_ce z0
            have nb : ∀ i : Nat, (i = hoA H w ∨ i = hoB H w) → bt y i = false := fun i q => by
              have b : bt ((b1 (hoA H w) ||| b1 (hoB H w)) &&& y) i = false := by rw [e0, bt_0]
              rw [bt_and, bb] at b
              cases b2 : bt y i with
              | false => rfl
              | true =>
                rw [b2, Bool.and_true] at b
                rcases q with q | q
                · rw [decide_eq_true q, Bool.true_or] at b; cases b
                · rw [decide_eq_true q, Bool.or_true] at b; cases b
            refine on y hy (fun i q => q) (fun _ hor => ?_)
            exfalso
            rcases hor with q | q
            · have := hi _ q; rw [nb _ (Or.inl rfl)] at this; cases this
            · have := hi _ q; rw [nb _ (Or.inr rfl)] at this; cases this
          · have one : bt y (hoA H w) = true ∨ bt y (hoB H w) = true := by
              cases a1 : bt y (hoA H w) with
              | true => exact Or.inl rfl
              | false =>
                cases a2 : bt y (hoB H w) with
                | true => exact Or.inr rfl
                | false =>
                  exfalso
                  apply z0
                  have : (b1 (hoA H w) ||| b1 (hoB H w)) &&& y = 0 := bt_z (fun i _ => by
                    rw [bt_and, bb]
                    by_cases q1 : i = hoA H w
                    · rw [q1, a1, Bool.and_false]
                    · by_cases q2 : i = hoB H w
                      · rw [q2, a2, Bool.and_false]
                      · rw [decide_eq_false q1, decide_eq_false q2]; rfl)
                  rw [this]; rfl
            have both' : wyD H x (hoA H w) ≠ 99 ∧ wyD H x (hoB H w) ≠ 99 := by
              rcases one with q | q
              · have d := (hy _ q).2
                exact ⟨d, dD_cl (nf := hoF H) (nw := hoW H) (e1 := hoA H) (e2 := hoB H) (G := bt x) hE f7 hww g (Or.inl ⟨rfl, rfl⟩) d⟩
              · have d := (hy _ q).2
                exact ⟨dD_cl (nf := hoF H) (nw := hoW H) (e1 := hoA H) (e2 := hoB H) (G := bt x) hE f7 hww g (Or.inr ⟨rfl, rfl⟩) d, d⟩
            refine on _ (fun i q => ?_) (fun i q => by rw [bt_or, q, Bool.true_or]) (fun _ _ => ⟨by rw [bt_or, bb, decide_eq_true rfl, Bool.true_or, Bool.or_true], by rw [bt_or, bb, decide_eq_true (rfl : hoB H w = hoB H w), Bool.or_true, Bool.or_true]⟩)
            rw [bt_or, bb, Bool.or_eq_true, Bool.or_eq_true, decide_eq_true_eq, decide_eq_true_eq] at q
            rcases q with q | q | q
            · exact hy i q
            · rw [q]; exact ⟨hEw.1, both'.1⟩
            · rw [q]; exact ⟨hEw.2, both'.2⟩
      exact v_X3_litWithout_2_15 ⟨fun q => full n x2 (by omega) hS hC, fun _ => l29 (hoW H) 0 x2 _ (by omega) (by decide) hS (fun i q => q) (fun w' hw' => absurd hw' (Nat.not_lt_zero w'))⟩
  refine v_X3_litWithout_2 ⟨fun q => ?_, fun q => ?_⟩
  · have f0 : hoF H = 0 := by omega
    refine v_X3_litWithout_2_15 ⟨fun _ => fin 0 (fun i b => by rw [bt_0] at b; cases b) (fun f' hf' => ?_), fun q2 => ?_⟩
    · have := dD_lt hE hf'
      omega
    · exfalso
      have e1 : (1 : Int32).toInt = 1 := by decide
      omega
  · have b1e : ∀ i : Nat, bt 1 i = decide (i = 0) := fun i => by
      have e : (1 : Int32) = b1 0 := by decide
      rw [e, bt_1 (by omega)]
    have d0 : wyD H x 0 = 0 := dD_00 (by omega)
    refine l15 7 0 _ _ rfl (by decide) (fun i b => ?_) (fun f' hf' => ?_) ?_
    · rw [b1e, decide_eq_true_eq] at b
      rw [b]
      exact ⟨by omega, by omega⟩
    · have := dD_0 (nf := hoF H) (nw := hoW H) (e1 := hoA H) (e2 := hoB H) (G := bt x) (f := f') (by show wyD H x f' = 0; omega)
      rw [this.1, b1e]
      rfl
    · exact cn_pos (p := bt 1) (j := 0) (by rw [b1e]; rfl) (hoF H) (by omega)
def aWo (H : Ho) (S : Zt) (x1 : Int32) : Int32 := if 0 ≤ x1.toInt ∧ x1.toInt < (hoW H : Int) then (b1 (hoF H) - (1 : Int32)) &&& (ltB H (szG S ||| b1 x1.toNatClampNeg) ^^^ (-1 : Int32)) else -1
theorem ea_without {Q : Int32 → dM → Prop} (hK : KC H S P L m) (hQ : ∀ m' : dM, QC H S P L m m' → Q (aWo H S x1) m') : c_X11_without_0 3 x1 m Q := by
  have q0 := QC.rf hK
  have hQ' : ∀ (v : Int32) (m' : dM), aWo H S x1 = v → QC H S P L m m' → Q v m' := fun v m' e q => by rw [← e]; exact hQ m' q
  refine v_X11_without_0 (Wp.deep (y_isWirec hK.1 (fun hu => ⟨fun z => absurd z (by decide), fun _ => v_X3_allFlats_2 (ea_lit hK.1 (hQ' _ m ?_ q0))⟩) (fun hu => ⟨fun _ => hQ' _ m (by unfold aWo; rw [if_neg hu]) q0, fun z => absurd rfl z⟩)) (Nat.le_of_ble_eq_true rfl))
  have hx := toNat_of hu.1
  have g3 : m.1 47 3 = szG S := hK.2.1.1.2.2.2.1
  unfold aWo
  rw [if_pos hu, g3, b1_of hx, b1_of hK.1.2.1.1.1.1]
theorem eb_without {Q : Int32 → dM → Prop} (hK : KR H S P L s m) (hQ : ∀ m' : dM, RsF m m' → Q (aWo H S x1) m') : c_X12_without_70 8 x1 m Q := by
  have hQ' : ∀ (v : Int32) (m' : dM), aWo H S x1 = v → RsF m m' → Q v m' := fun v m' e q => by rw [← e]; exact hQ m' q
  refine v_X12_without_70 (Wp.deep (y_isWire hK.1.2.1 (fun hu => ⟨fun _ => y_loses hK (RsF.rf m) (fun M f W1 L1 => Wp.deep (y_darkBits W1 L1 (hQ' _ M ?_ f)) (Nat.le_of_ble_eq_true rfl)), fun z => absurd z (by decide)⟩) (fun hu => ⟨fun z => absurd rfl z, fun _ => hQ' _ m (by unfold aWo; rw [if_neg hu]) (RsF.rf m)⟩)) (Nat.le_of_ble_eq_true rfl))
  have hx := toNat_of hu.1
  unfold aWo
  rw [if_pos hu, b1_of hx]
  rfl
def ndp (H : Ho) (S : Zt) (w : Nat) : Bool := !bt (szG S) w && decide (ltB H (szG S ||| b1 w) ≠ ltB H (szG S))
theorem ea_needed {Q : Int32 → dM → Prop} (hK : KC H S P L m) (hQ : ∀ m' : dM, QC H S P L m m' → Q (bs (ndp H S) (hoW H)) m') : c_X11_needed_0 3 m Q := by
  have q0 := QC.rf hK
  have w10 := hK.1.1.2.1
  have e21 := hK.1.2.1.1.2.1.1
  have g3 : m.1 47 3 = szG S := hK.2.1.1.2.2.2.1
  have loop : ∀ (t w : Nat) (x3 : Int32), w + t = hoW H → x3.toInt = (w : Int) → j_X11_needed_0_19 3 (ltB H (szG S)) (bs (ndp H S) w) x3 m Q := by
    intro t
    induction t with
    | zero =>
      intro w x3 hw h3
      have ew : w = hoW H := by omega
      rw [ew]
      exact v_X11_needed_0_19 ⟨fun _ => hQ m q0, fun q => by exfalso; omega⟩
    | succ t ih =>
      intro w x3 hw h3
      have on : ∀ z : Int32, z = bs (ndp H S) (w + 1) → j_X11_needed_0_72 3 (ltB H (szG S)) z x3 m Q := fun z e => by
        rw [e]
        exact v_X11_needed_0_72 (ih (w + 1) _ (by omega) (d_inc h3 (by omega)))
      have eS : bs (ndp H S) (w + 1) = cond (ndp H S w) (bs (ndp H S) w ||| b1 w) (bs (ndp H S) w) := rfl
      refine v_X11_needed_0_19 ⟨fun q => by exfalso; omega, fun _ => ?_⟩
      rw [g3]
      refine Wp.deep (y_has h3 (by omega) (fun b => ⟨fun _ => on _ ?_, fun z => absurd z (by decide)⟩) (fun b => ⟨fun z => absurd rfl z, fun _ => ?_⟩)) (Nat.le_of_ble_eq_true rfl)
      · rw [eS]; unfold ndp; rw [b]; rfl
      rw [b1_of h3, g3]
      refine ea_lit hK.1 ⟨fun ee => on _ ?_, fun ne => on _ ?_⟩
      · rw [eS]; unfold ndp; rw [b, decide_eq_false (fun q => q (Int32.toInt_inj.mp ee))]; rfl
      · rw [eS]; unfold ndp; rw [b, decide_eq_true (show ltB H (szG S ||| b1 w) ≠ ltB H (szG S) from fun q => ne (by rw [q]))]; rfl
  refine v_X11_needed_0 ?_
  rw [g3]
  exact ea_lit hK.1 (loop (hoW H) 0 _ (by omega) (by decide))
theorem dark_inj {a b : Int32} (f7 : hoF H ≤ 7) : (b1 (hoF H) - (1 : Int32)) &&& (ltB H a ^^^ (-1 : Int32)) = (b1 (hoF H) - (1 : Int32)) &&& (ltB H b ^^^ (-1 : Int32)) ↔ ltB H a = ltB H b := by
  refine ⟨fun e => bt_ext (fun i hi => ?_), fun e => by rw [e]⟩
  have q : bt ((b1 (hoF H) - (1 : Int32)) &&& (ltB H a ^^^ (-1 : Int32))) i = bt ((b1 (hoF H) - (1 : Int32)) &&& (ltB H b ^^^ (-1 : Int32))) i := by rw [e]
  rw [bt_and, bt_and, bt_xor, bt_xor, bt_m1 hi, bt_all (by omega)] at q
  by_cases lf : i < hoF H
  · rw [decide_eq_true lf, Bool.true_and, Bool.true_and, Bool.xor_true, Bool.xor_true] at q
    cases u : bt (ltB H a) i <;> cases v : bt (ltB H b) i <;> rw [u, v] at q <;> first | rfl | cases q
  · rw [bt_ltB f7, bt_ltB f7, decide_eq_false lf, Bool.false_and, Bool.false_and]
theorem eb_needed {Q : Int32 → dM → Prop} (hK : KR H S P L s m) (hQ : ∀ m' : dM, RsF m m' → Q (bs (ndp H S) (hoW H)) m') : c_X12_needed_70 8 m Q := by
  have w10 := hK.1.1.2.1
  have f7 := hK.1.1.1
  have loop : ∀ (t w : Nat) (x3 : Int32) (M : dM), w + t = hoW H → x3.toInt = (w : Int) → RsF m M → j_X12_needed_70_13 8 ((b1 (hoF H) - (1 : Int32)) &&& (ltB H (szG S) ^^^ (-1 : Int32))) (bs (ndp H S) w) x3 M Q := by
    intro t
    induction t with
    | zero =>
      intro w x3 M hw h3 fM
      have hKM := hK.rs fM
      have a := hKM.1.2.1.1
      have ew : w = hoW H := by omega
      refine v_X12_needed_70_13 ?_
      rw [d_cn a.1, hKM.1.2.1.2.2.1.1, a.1, ew]
      exact ⟨by omega, fun _ => hQ M fM, fun q => by exfalso; omega⟩
    | succ t ih =>
      intro w x3 M hw h3 fM
      have hKM := hK.rs fM
      have a := hKM.1.2.1.1
      have e10 := d_add (k := x3) (K := w) (x := (10 : Int32)) (i := 10) (by decide) h3 (by omega)
      have on : ∀ (z : Int32) (M1 : dM), z = bs (ndp H S) (w + 1) → RsF m M1 → j_X12_needed_70_63 8 ((b1 (hoF H) - (1 : Int32)) &&& (ltB H (szG S) ^^^ (-1 : Int32))) z x3 M1 Q := fun z M1 e f1 => by
        rw [e]
        exact v_X12_needed_70_63 (ih (w + 1) _ M1 (by omega) (d_inc h3 (by omega)) f1)
      have eS : bs (ndp H S) (w + 1) = cond (ndp H S w) (bs (ndp H S) w ||| b1 w) (bs (ndp H S) w) := rfl
      have zg := (hKM.2.1.2.1 w (by omega)).2.1
      refine v_X12_needed_70_13 ?_
      rw [d_cn a.1, hKM.1.2.1.2.2.1.1, a.1, d_cn e10, zg, b1_of h3]
      refine ⟨by omega, fun q => by exfalso; omega, fun _ => ⟨by omega, fun q => ?_, fun q => on _ M ?_ fM⟩⟩
      · have b : bt (szG S) w = false := by
          cases b : bt (szG S) w with
          | false => rfl
          | true => rw [b] at q; exact absurd rfl q
        refine y_loses hK fM (fun M1 f1 W1 L1 => Wp.deep (y_darkBits W1 L1 ⟨fun ee => on _ M1 ?_ f1, fun ne => on _ M1 ?_ f1⟩) (Nat.le_of_ble_eq_true rfl))
        · have e := (dark_inj (H := H) (a := szG S ||| b1 w) (b := szG S) f7).mp (Int32.toInt_inj.mp ee)
          rw [eS]; unfold ndp; rw [b, decide_eq_false (fun q => q e)]; rfl
        · rw [eS]; unfold ndp; rw [b, decide_eq_true (show ltB H (szG S ||| b1 w) ≠ ltB H (szG S) from fun q => ne (congrArg Int32.toInt ((dark_inj (H := H) (a := szG S ||| b1 w) (b := szG S) f7).mpr q)))]; rfl
      · have b : bt (szG S) w = true := by
          cases b : bt (szG S) w with
          | true => rfl
          | false => rw [b] at q; exact absurd q (by decide)
        rw [eS]; unfold ndp; rw [b]; rfl
  exact v_X12_needed_70 (Wp.deep (y_copies hK.1 hK.2.1 (fun M f cy _ _ => Wp.deep (y_darkBits cy.1 cy.2.2 (loop (hoW H) 0 _ M (by omega) (by decide) f)) (Nat.le_of_ble_eq_true rfl))) (Nat.le_of_ble_eq_true rfl))
end QLT
end
section
/-! QUESTIONS, exactly: bits counted; hottest, clash -/
def pcn (x : Int32) : Int32 := ((((((((x - ((x.toUInt32 >>> ((1 : Int32).toUInt32 &&& Int32.toUInt32 31)).toInt32 &&& (1431655765 : Int32))) &&& (858993459 : Int32)) + (((x - ((x.toUInt32 >>> ((1 : Int32).toUInt32 &&& Int32.toUInt32 31)).toInt32 &&& (1431655765 : Int32))).toUInt32 >>> ((2 : Int32).toUInt32 &&& Int32.toUInt32 31)).toInt32 &&& (858993459 : Int32))) + ((((x - ((x.toUInt32 >>> ((1 : Int32).toUInt32 &&& Int32.toUInt32 31)).toInt32 &&& (1431655765 : Int32))) &&& (858993459 : Int32)) + (((x - ((x.toUInt32 >>> ((1 : Int32).toUInt32 &&& Int32.toUInt32 31)).toInt32 &&& (1431655765 : Int32))).toUInt32 >>> ((2 : Int32).toUInt32 &&& Int32.toUInt32 31)).toInt32 &&& (858993459 : Int32))).toUInt32 >>> ((4 : Int32).toUInt32 &&& Int32.toUInt32 31)).toInt32) &&& (252645135 : Int32)) + ((((((x - ((x.toUInt32 >>> ((1 : Int32).toUInt32 &&& Int32.toUInt32 31)).toInt32 &&& (1431655765 : Int32))) &&& (858993459 : Int32)) + (((x - ((x.toUInt32 >>> ((1 : Int32).toUInt32 &&& Int32.toUInt32 31)).toInt32 &&& (1431655765 : Int32))).toUInt32 >>> ((2 : Int32).toUInt32 &&& Int32.toUInt32 31)).toInt32 &&& (858993459 : Int32))) + ((((x - ((x.toUInt32 >>> ((1 : Int32).toUInt32 &&& Int32.toUInt32 31)).toInt32 &&& (1431655765 : Int32))) &&& (858993459 : Int32)) + (((x - ((x.toUInt32 >>> ((1 : Int32).toUInt32 &&& Int32.toUInt32 31)).toInt32 &&& (1431655765 : Int32))).toUInt32 >>> ((2 : Int32).toUInt32 &&& Int32.toUInt32 31)).toInt32 &&& (858993459 : Int32))).toUInt32 >>> ((4 : Int32).toUInt32 &&& Int32.toUInt32 31)).toInt32) &&& (252645135 : Int32)).toUInt32 >>> ((8 : Int32).toUInt32 &&& Int32.toUInt32 31)).toInt32) + (((((((x - ((x.toUInt32 >>> ((1 : Int32).toUInt32 &&& Int32.toUInt32 31)).toInt32 &&& (1431655765 : Int32))) &&& (858993459 : Int32)) + (((x - ((x.toUInt32 >>> ((1 : Int32).toUInt32 &&& Int32.toUInt32 31)).toInt32 &&& (1431655765 : Int32))).toUInt32 >>> ((2 : Int32).toUInt32 &&& Int32.toUInt32 31)).toInt32 &&& (858993459 : Int32))) + ((((x - ((x.toUInt32 >>> ((1 : Int32).toUInt32 &&& Int32.toUInt32 31)).toInt32 &&& (1431655765 : Int32))) &&& (858993459 : Int32)) + (((x - ((x.toUInt32 >>> ((1 : Int32).toUInt32 &&& Int32.toUInt32 31)).toInt32 &&& (1431655765 : Int32))).toUInt32 >>> ((2 : Int32).toUInt32 &&& Int32.toUInt32 31)).toInt32 &&& (858993459 : Int32))).toUInt32 >>> ((4 : Int32).toUInt32 &&& Int32.toUInt32 31)).toInt32) &&& (252645135 : Int32)) + ((((((x - ((x.toUInt32 >>> ((1 : Int32).toUInt32 &&& Int32.toUInt32 31)).toInt32 &&& (1431655765 : Int32))) &&& (858993459 : Int32)) + (((x - ((x.toUInt32 >>> ((1 : Int32).toUInt32 &&& Int32.toUInt32 31)).toInt32 &&& (1431655765 : Int32))).toUInt32 >>> ((2 : Int32).toUInt32 &&& Int32.toUInt32 31)).toInt32 &&& (858993459 : Int32))) + ((((x - ((x.toUInt32 >>> ((1 : Int32).toUInt32 &&& Int32.toUInt32 31)).toInt32 &&& (1431655765 : Int32))) &&& (858993459 : Int32)) + (((x - ((x.toUInt32 >>> ((1 : Int32).toUInt32 &&& Int32.toUInt32 31)).toInt32 &&& (1431655765 : Int32))).toUInt32 >>> ((2 : Int32).toUInt32 &&& Int32.toUInt32 31)).toInt32 &&& (858993459 : Int32))).toUInt32 >>> ((4 : Int32).toUInt32 &&& Int32.toUInt32 31)).toInt32) &&& (252645135 : Int32)).toUInt32 >>> ((8 : Int32).toUInt32 &&& Int32.toUInt32 31)).toInt32).toUInt32 >>> ((16 : Int32).toUInt32 &&& Int32.toUInt32 31)).toInt32) &&& (63 : Int32))
/-- how many of ten bits -/
def pc10 (x : Int32) : Nat → Int32
  | 0 => 0
  | n + 1 => pc10 x n + cond (bt x n) 1 0
theorem pcn_all : (List.range 1024).all (fun n => decide (pcn (Int32.ofNat n) = pc10 (Int32.ofNat n) 10)) = true := by decide +kernel
theorem low10 {x : Int32} (h : ∀ i : Nat, 10 ≤ i → bt x i = false) : ∃ n : Nat, n < 1024 ∧ x = Int32.ofNat n := by
  refine ⟨x.toBitVec.toNat, ?_, ?_⟩
  · exact Nat.lt_pow_two_of_testBit (n := 10) _ (fun i hi => h i hi)
  · apply Int32.toBitVec_inj.mp
    show x.toBitVec = BitVec.ofNat 32 x.toBitVec.toNat
    rw [BitVec.ofNat_toNat, BitVec.setWidth_eq]
theorem pcn_ok {x : Int32} (h : ∀ i : Nat, 10 ≤ i → bt x i = false) : pcn x = pc10 x 10 := by
  obtain ⟨n, hn, e⟩ := low10 h
  rw [e]
  exact of_decide_eq_true (List.all_eq_true.mp pcn_all n (List.mem_range.mpr hn))
section QBC
variable {H : Ho} {S : Zt} {P : List Zt} {L : Nat → Zt} {m : dM} {s : Nat} {x1 x2 : Int32}
theorem ea_bits {x : Int32} {Q : Int32 → dM → Prop} {M : dM} (h : ∀ i : Nat, 10 ≤ i → bt x i = false) (hQ : Q (pc10 x 10) M) : c_J6_bitCount 1 x M Q := by
  rw [← pcn_ok h] at hQ
  exact v_J6_bitCount hQ
theorem eb_bits {x : Int32} {Q : Int32 → dM → Prop} {M : dM} (hQ : Q (pc10 x 10) M) : c_X12_bits 1 x M Q := by
  have loop : ∀ (t i : Nat) (x2 : Int32), i + t = 10 → x2.toInt = (i : Int) → j_X12_bits_4 1 x (pc10 x i) x2 M Q := by
    intro t
    induction t with
    | zero =>
      intro i x2 hi h2
      have ei : i = 10 := by omega
      subst ei
      exact v_X12_bits_4 ⟨fun _ => hQ, fun q => by exfalso; omega⟩
    | succ t ih =>
      intro i x2 hi h2
      have e : ((x >>> (x2 &&& 31)) &&& (1 : Int32)) = cond (bt x i) 1 0 := by
        have b := bt_s (x := x) h2 (by omega)
        apply d_ce
        rw [b]
        cases bt x i <;> decide
      refine v_X12_bits_4 ⟨fun q => by exfalso; omega, fun _ => ?_⟩
      rw [e]
      exact ih (i + 1) _ (by omega) (d_inc h2 (by omega))
  exact v_X12_bits (loop 10 0 _ rfl (by decide))
/-- the hottest wire so far -/
def hotv (H : Ho) (S : Zt) (w : Nat) : Int32 := lod H (szG S) (onA H S (hod (szH S))) w - szR S w
def hot (H : Ho) (S : Zt) : Nat → Option (Nat × Int32)
  | 0 => none
  | w + 1 => cond (bt (szG S) w) (hot H S w) (match hot H S w with
    | none => some (w, hotv H S w)
    | some (b, v) => if v.toInt < (hotv H S w).toInt then some (w, hotv H S w) else some (b, v))
def aHot (H : Ho) (S : Zt) (x1 : Int32) : Int32 := if 0 ≤ x1.toInt ∧ x1.toInt ≤ 1 then (match hot H S (hoW H) with
    | none => -2000
    | some (b, v) => if x1.toInt = 0 then Int32.ofInt (b : Int) else v) else -1000
def Rhc (o : Option (Nat × Int32)) (x2 x3 : Int32) : Prop := match o with
  | none => x2.toInt = -1
  | some (b, v) => x2.toInt = (b : Int) ∧ x3 = v
def Rhr (o : Option (Nat × Int32)) (x3 x4 : Int32) : Prop := match o with
  | none => x3 = -2000 ∧ x4 = -2000
  | some (b, v) => x3.toInt = (b : Int) ∧ x4 = v
theorem ea_hottest {Q : Int32 → dM → Prop} (hK : KC H S P L m) (hO : zOk H S) (hQ : ∀ m' : dM, QC H S P L m m' → Q (aHot H S x1) m') : c_X11_hottest_0 5 x1 m Q := by
  have q0 := QC.rf hK
  have w10 := hK.1.1.2.1
  have hQ' : ∀ (v : Int32) (m' : dM), aHot H S x1 = v → QC H S P L m m' → Q v m' := fun v m' e q => by rw [← e]; exact hQ m' q
  have no : ¬ (0 ≤ x1.toInt ∧ x1.toInt ≤ 1) → j_X11_hottest_0_9 5 m Q := fun q => v_X11_hottest_0_9 (hQ' _ m (by unfold aHot; rw [if_neg q]) q0)
  refine v_X11_hottest_0 ⟨fun q => no (by omega), fun h0 => ⟨fun h1 => k_usesNow q0 hO (fun M q1 l1 => Wp.deep (y_putOn47 q1.2.1 q1.2.2.1 (hO.g1 hK.1.1) (fun M2 f2 w2 l2 d2 => ?_)) (Nat.le_of_ble_eq_true rfl)), fun q => no (by omega)⟩⟩
  have q2 := q1.sc f2 w2
  have e21 := w2.2.1.1.2.1.1
  have g3 : M2.1 47 3 = szG S := q2.2.2.1.1.2.2.2.1
  have eA : aHot H S x1 = (match hot H S (hoW H) with
    | none => -2000
    | some (b, v) => if x1.toInt = 0 then Int32.ofInt (b : Int) else v) := by unfold aHot; rw [if_pos ⟨h0, h1⟩]
  have loop : ∀ (t w : Nat) (x2 x3 x4 : Int32), w + t = hoW H → x4.toInt = (w : Int) → Rhc (hot H S w) x2 x3 → j_X11_hottest_0_42 5 x1 x2 x3 x4 M2 Q := by
    intro t
    induction t with
    | zero =>
      intro w x2 x3 x4 hw h4 hR
      have ew : w = hoW H := by omega
      subst ew
      refine v_X11_hottest_0_42 ⟨fun _ => ⟨fun ne => ⟨fun nz => hQ' _ M2 ?_ q2, fun z => hQ' _ M2 ?_ q2⟩, fun e => hQ' _ M2 ?_ q2⟩, fun q => by exfalso; omega⟩
      all_goals rw [eA]
      all_goals
        cases hh : hot H S (hoW H) with
        | none =>
          rewrite [hh] at hR
          have hR : x2.toInt = -1 := hR
          first | rfl | exact absurd hR ne
        | some p =>
          obtain ⟨b, v⟩ := p
          rewrite [hh] at hR
          have hR : x2.toInt = (b : Int) ∧ x3 = v := hR
          show (if x1.toInt = 0 then Int32.ofInt (b : Int) else v) = _
          first
            | (rw [if_neg nz]; exact hR.2.symm)
            | (rw [if_pos z]; exact ofI hR.1)
            | (exfalso; omega)
    | succ t ih =>
      intro w x2 x3 x4 hw h4 hR
      have on : ∀ y z : Int32, Rhc (hot H S (w + 1)) y z → j_X11_hottest_0_109 5 x1 y z x4 M2 Q := fun y z r => v_X11_hottest_0_109 (ih (w + 1) _ _ _ (by omega) (d_inc h4 (by omega)) r)
      have ev : M2.1 56 w - M2.1 48 w = hotv H S w := by rw [d2 w (by omega), (show M2.1 48 w = szR S w from q2.2.2.1.2.1 w (by omega))]; rfl
      have eS : hot H S (w + 1) = cond (bt (szG S) w) (hot H S w) (match hot H S w with
        | none => some (w, hotv H S w)
        | some (b, v) => if v.toInt < (hotv H S w).toInt then some (w, hotv H S w) else some (b, v)) := rfl
      refine v_X11_hottest_0_42 ⟨fun q => by exfalso; omega, fun _ => ⟨by omega, by omega, ?_⟩⟩
      rw [g3, d_cn h4, ev]
      refine Wp.deep (y_has h4 (by omega) (fun b => ⟨fun _ => on _ _ (by rw [eS, b]; exact hR), fun z => absurd z (by decide)⟩) (fun b => ⟨fun z => absurd rfl z, fun _ => ⟨fun e => v_X11_hottest_0_103 (on _ _ ?_), fun e => ⟨fun le => on _ _ ?_, fun lt' => v_X11_hottest_0_103 (on _ _ ?_)⟩⟩⟩)) (Nat.le_of_ble_eq_true rfl)
      all_goals rw [eS, b]
      all_goals
        cases hh : hot H S w with
        | none =>
          rewrite [hh] at hR
          have hR : x2.toInt = -1 := hR
          first
            | exact ⟨h4, rfl⟩
            | exact absurd hR e
        | some p =>
          obtain ⟨b', v⟩ := p
          rewrite [hh] at hR
          have hR : x2.toInt = (b' : Int) ∧ x3 = v := hR
          have e3 := hR.2
          subst e3
          show Rhc (if x3.toInt < (hotv H S w).toInt then some (w, hotv H S w) else some (b', x3)) _ _
          first
            | (exfalso; omega)
            | (rw [if_neg (by omega)]; exact ⟨hR.1, rfl⟩)
            | (rw [if_pos lt']; exact ⟨h4, rfl⟩)
  exact loop (hoW H) 0 _ _ _ (by omega) (by decide) (by show (-1 : Int32).toInt = -1; decide)
theorem eb_hottest {Q : Int32 → dM → Prop} (hK : KR H S P L s m) (hQ : ∀ m' : dM, RsF m m' → Q (aHot H S x1) m') : c_X12_hottest_70 7 x1 m Q := by
  have w10 := hK.1.1.2.1
  have hQ' : ∀ (v : Int32) (m' : dM), aHot H S x1 = v → RsF m m' → Q v m' := fun v m' e q => by rw [← e]; exact hQ m' q
  have i0 : (0 : Int32).toInt = 0 := by decide
  have i1 : (1 : Int32).toInt = 1 := by decide
  refine v_X12_hottest_70 (Wp.deep (y_in (fun h => ⟨fun _ => y_copies hK.1 hK.2.1 (fun M f cy _ _ => Wp.deep (y_onNow cy ?_) (Nat.le_of_ble_eq_true rfl)), fun z => absurd z (by decide)⟩) (fun h => ⟨fun z => absurd rfl z, fun _ => hQ' _ m (by unfold aHot; rw [if_neg (by omega)]) (RsF.rf m)⟩)) (Nat.le_of_ble_eq_true rfl))
  have a := cy.1.2.1.1
  have eA : aHot H S x1 = (match hot H S (hoW H) with
    | none => -2000
    | some (b, v) => if x1.toInt = 0 then Int32.ofInt (b : Int) else v) := by unfold aHot; rw [if_pos (by omega)]
  have m2 : (-2000 : Int32).toInt = -2000 := by decide
  have loop : ∀ (t w : Nat) (x3 x4 x5 : Int32), w + t = hoW H → x5.toInt = (w : Int) → Rhr (hot H S w) x3 x4 → j_X12_hottest_70_34 7 x1 (onA H S (hod (szH S))) x3 x4 x5 M Q := by
    intro t
    induction t with
    | zero =>
      intro w x3 x4 x5 hw h5 hR
      have ew : w = hoW H := by omega
      subst ew
      refine v_X12_hottest_70_34 ?_
      rw [d_cn a.1, cy.1.2.1.2.2.1.1, a.1]
      refine ⟨by omega, fun _ => ⟨fun nz => hQ' _ M ?_ f, fun z => hQ' _ M ?_ f⟩, fun q => by exfalso; omega⟩
      all_goals rw [eA]
      all_goals
        cases hh : hot H S (hoW H) with
        | none =>
          rewrite [hh] at hR
          have hR : x3 = -2000 ∧ x4 = -2000 := hR
          first | exact hR.2.symm | exact hR.1.symm
        | some p =>
          obtain ⟨b, v⟩ := p
          rewrite [hh] at hR
          have hR : x3.toInt = (b : Int) ∧ x4 = v := hR
          show (if x1.toInt = 0 then Int32.ofInt (b : Int) else v) = _
          first
            | (rw [if_neg nz]; exact hR.2.symm)
            | (rw [if_pos z]; exact ofI hR.1)
    | succ t ih =>
      intro w x3 x4 x5 hw h5 hR
      have on : ∀ y z : Int32, Rhr (hot H S (w + 1)) y z → j_X12_hottest_70_95 7 x1 (onA H S (hod (szH S))) y z x5 M Q := fun y z r => v_X12_hottest_70_95 (ih (w + 1) _ _ _ (by omega) (d_inc h5 (by omega)) r)
      have eS : hot H S (w + 1) = cond (bt (szG S) w) (hot H S w) (match hot H S w with
        | none => some (w, hotv H S w)
        | some (b, v) => if v.toInt < (hotv H S w).toInt then some (w, hotv H S w) else some (b, v)) := rfl
      have ev : lod H (szG S) (onA H S (hod (szH S))) w - M.1 108 w = hotv H S w := by rw [(cy.2.1.2.1 w (by omega)).1]; rfl
      refine v_X12_hottest_70_34 ?_
      rw [d_cn a.1, cy.1.2.1.2.2.1.1, a.1, d_cn h5]
      refine ⟨by omega, fun q => by exfalso; omega, fun _ => Wp.deep (y_loadBy cy.1 cy.2.2 h5 (by omega) ⟨by omega, ?_⟩) (Nat.le_of_ble_eq_true rfl)⟩
      rw [ev]
      refine Wp.deep (y_isWhole cy.1.2.1 (cy.2.1.rg (r := 0)) h5 (by omega) (fun b => ⟨fun z => absurd z (by decide), fun _ => ⟨fun n0 => v_X12_hottest_70_88 (on _ _ ?_), fun n0 => ⟨fun lt' => v_X12_hottest_70_88 (on _ _ ?_), fun le => on _ _ ?_⟩⟩⟩) (fun b => ⟨fun _ => on _ _ (by rw [eS, b]; exact hR), fun z => absurd rfl z⟩)) (Nat.le_of_ble_eq_true rfl)
      all_goals rw [eS, b]
      all_goals
        cases hh : hot H S w with
        | none =>
          rewrite [hh] at hR
          have hR : x3 = -2000 ∧ x4 = -2000 := hR
          first
            | exact ⟨h5, rfl⟩
            | (rw [hR.1] at n0; exfalso; omega)
        | some p =>
          obtain ⟨b', v⟩ := p
          rewrite [hh] at hR
          have hR : x3.toInt = (b' : Int) ∧ x4 = v := hR
          have e3 := hR.2
          subst e3
          show Rhr (if x4.toInt < (hotv H S w).toInt then some (w, hotv H S w) else some (b', x4)) _ _
          first
            | (exfalso; omega)
            | (rw [if_pos lt']; exact ⟨h5, rfl⟩)
            | (rw [if_neg (by omega)]; exact ⟨hR.1, rfl⟩)
  exact loop (hoW H) 0 _ _ _ (by omega) (by decide) ⟨rfl, rfl⟩
end QBC
end
section
/-! QUESTIONS, exactly: clash, then, litIn -/
def clB (H : Ho) (S : Zt) (u o : Nat) : Int32 := gng H S (b1 u ||| b1 o) (hod (szH S)) 0 &&& ((gng H S (b1 u) (hod (szH S)) 0 ||| gng H S (b1 o) (hod (szH S)) 0) ^^^ (-1 : Int32))
def aCls (H : Ho) (S : Zt) (x1 x2 : Int32) : Int32 := if (0 ≤ x1.toInt ∧ x1.toInt < (hoU H : Int)) ∧ (0 ≤ x2.toInt ∧ x2.toInt < (hoU H : Int)) ∧ x1.toInt ≠ x2.toInt then cond (lt H (szG S) (hoH H x1.toNatClampNeg) && lt H (szG S) (hoH H x2.toNatClampNeg)) (pc10 (clB H S x1.toNatClampNeg x2.toNatClampNeg) 10) 0 else -1
theorem and_nots {a b c : Int32} : a &&& ((b ||| c) ^^^ (-1 : Int32)) = (a &&& (b ^^^ (-1 : Int32))) &&& (c ^^^ (-1 : Int32)) := bt_ext (fun i hi => by
  simp only [bt_and, bt_xor, bt_or, bt_m1 hi]
  cases bt a i <;> cases bt b i <;> cases bt c i <;> rfl)
theorem pc10_cut {x : Int32} {n : Nat} (h : ∀ i : Nat, n ≤ i → bt x i = false) : ∀ k : Nat, pc10 x (n + k) = pc10 x n
  | 0 => rfl
  | k + 1 => by
    have e : pc10 x (n + (k + 1)) = pc10 x (n + k) + cond (bt x (n + k)) 1 0 := rfl
    rw [e, h (n + k) (by omega), cond_false, Int32.add_zero]
    exact pc10_cut h k
section QCL
variable {H : Ho} {S : Zt} {P : List Zt} {L : Nat → Zt} {m : dM} {s : Nat} {x1 x2 : Int32}
theorem gng_hi {on h more : Int32} {i : Nat} (hw : hoW H ≤ 10) (hi : 10 ≤ i) : bt (gng H S on h more) i = false := by
  unfold gng
  rw [bt_bs _ (by omega), decide_eq_false (by omega), Bool.false_and]
theorem ea_clash {Q : Int32 → dM → Prop} (hK : KC H S P L m) (hO : zOk H S) (hQ : ∀ m' : dM, QC H S P L m m' → Q (aCls H S x1 x2) m') : c_X11_clash_0 7 x1 x2 m Q := by
  have q0 := QC.rf hK
  have f7 := hK.1.1.1
  have w10 := hK.1.1.2.1
  have u8 := hK.1.1.2.2.1
  have hQ' : ∀ (v : Int32) (m' : dM), aCls H S x1 x2 = v → QC H S P L m m' → Q v m' := fun v m' e q => by rw [← e]; exact hQ m' q
  have no : ¬ ((0 ≤ x1.toInt ∧ x1.toInt < (hoU H : Int)) ∧ (0 ≤ x2.toInt ∧ x2.toInt < (hoU H : Int)) ∧ x1.toInt ≠ x2.toInt) → j_X11_clash_0_37 7 m Q := fun q => v_X11_clash_0_37 (hQ' _ m (by unfold aCls; rw [if_neg q]) q0)
  refine v_X11_clash_0 (Wp.deep (y_isUsec hK.1 (fun hu => ⟨fun z => absurd z (by decide), fun _ => Wp.deep (y_isUsec hK.1 (fun hv => ⟨fun z => absurd z (by decide), fun _ => ⟨fun e => no (fun w => w.2.2 e), fun ne => ?_⟩⟩) (fun hv => ⟨fun _ => no (fun w => hv w.2.1), fun z => absurd rfl z⟩)) (Nat.le_of_ble_eq_true rfl)⟩) (fun hu => ⟨fun _ => no (fun w => hu w.1), fun z => absurd rfl z⟩)) (Nat.le_of_ble_eq_true rfl))
  have hx := toNat_of hu.1
  have hy := toNat_of hv.1
  refine v_X1_clashOf_61_47 (Wp.deep (k_ways q0 hO (fun M q1 l1 => ⟨by omega, ?_⟩)) (Nat.le_of_ble_eq_true rfl))
  have hh1 := (q1.2.1.2.1.2.2.2.2.1 x1.toNatClampNeg (by omega)).1
  have hh2 := (q1.2.1.2.1.2.2.2.2.1 x2.toNatClampNeg (by omega)).1
  have o1 := (hK.1.1.2.2.2.2.1 x1.toNatClampNeg (by omega)).1
  have o2 := (hK.1.1.2.2.2.2.1 x2.toNatClampNeg (by omega)).1
  have lb1 := lt_bits l1 o1 (by omega)
  have lb2 := lt_bits l1 o2 (by omega)
  have eA : aCls H S x1 x2 = cond (lt H (szG S) (hoH H x1.toNatClampNeg) && lt H (szG S) (hoH H x2.toNatClampNeg)) (pc10 (clB H S x1.toNatClampNeg x2.toNatClampNeg) 10) 0 := by unfold aCls; rw [if_pos ⟨hu, hv, ne⟩]
  have no2 : (lt H (szG S) (hoH H x1.toNatClampNeg) && lt H (szG S) (hoH H x2.toNatClampNeg)) = false → j_X1_clashOf_61_47_47 6 M Q := fun e => v_X1_clashOf_61_47_47 (hQ' _ M (by rw [eA, e]; rfl) q1)
  refine Wp.deep (y_has hh1 (by omega) (fun g1 => ⟨fun z => absurd z (by decide), fun _ => ⟨by omega, Wp.deep (y_has hh2 (by omega) (fun g2 => ⟨fun _ => ?_, fun z => absurd z (by decide)⟩) (fun g2 => ⟨fun z => absurd rfl z, fun _ => no2 (by rw [← lb2, g2, Bool.and_false])⟩)) (Nat.le_of_ble_eq_true rfl)⟩⟩) (fun g1 => ⟨fun _ => no2 (by rw [← lb1, g1, Bool.false_and]), fun z => absurd rfl z⟩)) (Nat.le_of_ble_eq_true rfl)
  rw [b1_of hx, b1_of hy]
  refine k_goingWith q1 hO (fun M2 q2 => k_goingWith q2 hO (fun M3 q3 => k_goingWith q3 hO (fun M4 q4 => Wp.deep (ea_bits (fun i hi => ?_) (hQ' _ M4 ?_ q4)) (Nat.le_of_ble_eq_true rfl))))
  · rw [bt_and, gng_hi w10 hi, Bool.false_and]
  · rw [eA, ← lb1, ← lb2, g1, g2]
    rfl
theorem eb_clash {Q : Int32 → dM → Prop} (hK : KR H S P L s m) (hQ : ∀ m' : dM, RsF m m' → Q (aCls H S x1 x2) m') : c_X12_clash_70 7 x1 x2 m Q := by
  obtain ⟨o1, o2, o3, o4, o5, o6⟩ := hK.1.1
  have hQ' : ∀ (v : Int32) (m' : dM), aCls H S x1 x2 = v → RsF m m' → Q v m' := fun v m' e q => by rw [← e]; exact hQ m' q
  have no : ¬ ((0 ≤ x1.toInt ∧ x1.toInt < (hoU H : Int)) ∧ (0 ≤ x2.toInt ∧ x2.toInt < (hoU H : Int)) ∧ x1.toInt ≠ x2.toInt) → j_X12_clash_70_21 7 m Q := fun q => v_X12_clash_70_21 (hQ' _ m (by unfold aCls; rw [if_neg q]) (RsF.rf m))
  refine v_X12_clash_70 (Wp.deep (y_isUser hK.1 (fun hu => ⟨fun z => absurd z (by decide), fun _ => Wp.deep (y_isUser hK.1 (fun hv => ⟨fun z => absurd z (by decide), fun _ => ⟨fun ne => ?_, fun e => no (fun w => w.2.2 e)⟩⟩) (fun hv => ⟨fun _ => no (fun w => hv w.2.1), fun z => absurd rfl z⟩)) (Nat.le_of_ble_eq_true rfl)⟩) (fun hu => ⟨fun _ => no (fun w => hu w.1), fun z => absurd rfl z⟩)) (Nat.le_of_ble_eq_true rfl))
  have hx := toNat_of hu.1
  have hy := toNat_of hv.1
  refine y_copies hK.1 hK.2.1 (fun M f cy _ _ => ?_)
  have c1 := (o5 x1.toNatClampNeg (by omega)).1
  have c2 := (o5 x2.toNatClampNeg (by omega)).1
  have eA : aCls H S x1 x2 = cond (lt H (szG S) (hoH H x1.toNatClampNeg) && lt H (szG S) (hoH H x2.toNatClampNeg)) (pc10 (clB H S x1.toNatClampNeg x2.toNatClampNeg) 10) 0 := by unfold aCls; rw [if_pos ⟨hu, hv, ne⟩]
  have n0 : (lt H (szG S) (hoH H x1.toNatClampNeg) && lt H (szG S) (hoH H x2.toNatClampNeg)) = false → j_X12_clash_70_51 7 M Q := fun e => v_X12_clash_70_51 (hQ' _ M (by rw [eA, e]; rfl) f)
  have go : ∀ (on : Int32) (M1 : dM) (Q' : Int32 → dM → Prop), RsF m M1 → CY H S s M1 → (∀ M2 : dM, RsF m M2 → CY H S s M2 → Q' (gng H S on (hod (szH S)) 0) M2) → c_X12_goingBits_70 6 on (hod (szH S)) (0 : Int32) M1 Q' := fun on M1 Q' f1 d1 hq => Wp.deep (y_goingBits d1.1 d1.2.1 d1.2.2 (fun M2 f2 => hq M2 (f1.tr f2.rs) (d1.xa f2))) (Nat.le_of_ble_eq_true rfl)
  have eh : (M.1 108 55) - (M.1 108 55) / (24 : Int32) * (24 : Int32) = hod (szH S) := by rw [cy.2.1.1.1]; rfl
  refine Wp.deep (y_flatAt cy.1 hx (by omega) (fun r hr => Wp.deep (y_isLit cy.2.2 hr (by omega) (fun g1 => ⟨fun z => absurd z (by decide), fun _ => Wp.deep (y_flatAt cy.1 hy (by omega) (fun r2 hr2 => Wp.deep (y_isLit cy.2.2 hr2 (by omega) (fun g2 => ⟨fun _ => ?_, fun z => absurd z (by decide)⟩) (fun g2 => ⟨fun z => absurd rfl z, fun _ => n0 (by rw [g2, Bool.and_false])⟩)) (Nat.le_of_ble_eq_true rfl))) (Nat.le_of_ble_eq_true rfl)⟩) (fun g1 => ⟨fun _ => n0 (by rw [g1, Bool.false_and]), fun z => absurd rfl z⟩)) (Nat.le_of_ble_eq_true rfl))) (Nat.le_of_ble_eq_true rfl)
  rw [eh, b1_of hx, b1_of hy]
  refine go _ M _ f cy (fun M2 f2 d2 => go _ M2 _ f2 d2 (fun M3 f3 d3 => go _ M3 _ f3 d3 (fun M4 f4 d4 => Wp.deep (eb_bits (hQ' _ M4 ?_ f4)) (Nat.le_of_ble_eq_true rfl))))
  rw [eA, g1, g2, ← and_nots]
  rfl
/-- behind so many hours -/
def aThn (H : Ho) (S : Zt) (x1 x2 : Int32) : Int32 := if (0 ≤ x1.toInt ∧ x1.toInt ≤ 72) ∧ 0 ≤ x2.toInt ∧ x2.toInt ≤ 2 then (if x2.toInt = 0 then szC (itr H x1.toNatClampNeg S) - szC S else if x2.toInt = 1 then szQ (itr H x1.toNatClampNeg S) - szQ S else pc10 (szG (itr H x1.toNatClampNeg S)) 10) else -1
theorem ea_then {Q : Int32 → dM → Prop} (hK : KC H S P L m) (hO : zOk H S) (hQ : ∀ m' : dM, QC H S P L m m' → Q (aThn H S x1 x2) m') : c_X11_then_0 8 x1 x2 m Q := by
  have q0 := QC.rf hK
  have w10 := hK.1.1.2.1
  have hQ' : ∀ (v : Int32) (m' : dM), aThn H S x1 x2 = v → QC H S P L m m' → Q v m' := fun v m' e q => by rw [← e]; exact hQ m' q
  have no : ¬ ((0 ≤ x1.toInt ∧ x1.toInt ≤ 72) ∧ 0 ≤ x2.toInt ∧ x2.toInt ≤ 2) → j_X11_then_0_19 8 m Q := fun q => v_X11_then_0_19 (hQ' _ m (by unfold aThn; rw [if_neg q]) q0)
  refine v_X11_then_0 ⟨fun q => no (by omega), fun q1 => ⟨fun q => no (by omega), fun q2 => ⟨fun q => no (by omega), fun q3 => ⟨fun q4 => y_after q0 hO (toNat_of q1) (by have := toNat_of q1; omega) (fun M qM zM => ?_), fun q => no (by omega)⟩⟩⟩⟩
  have eA : aThn H S x1 x2 = (if x2.toInt = 0 then szC (itr H x1.toNatClampNeg S) - szC S else if x2.toInt = 1 then szQ (itr H x1.toNatClampNeg S) - szQ S else pc10 (szG (itr H x1.toNatClampNeg S)) 10) := by unfold aThn; rw [if_pos ⟨⟨q1, q2⟩, q3, q4⟩]
  have z47 := qM.2.2.1
  have zi := zOk.i hK.1.1 x1.toNatClampNeg S hO
  refine ⟨fun n0 => ⟨fun n1 => Wp.deep (ea_bits (fun i hi => ?_) (hQ' _ M ?_ qM)) (Nat.le_of_ble_eq_true rfl), fun e1 => hQ' _ M ?_ qM⟩, fun e0 => hQ' _ M ?_ qM⟩
  · rw [zM.1.2.2.2.1]
    cases b : bt (szG (itr H x1.toNatClampNeg S)) i with
    | false => rfl
    | true => have := zi.2.2.1 i b; omega
  · rw [eA, if_neg n0, if_neg n1, zM.1.2.2.2.1]
  · rw [eA, if_neg n0, if_pos e1, zM.1.2.2.1, z47.1.2.2.1]
  · rw [eA, if_pos e0, zM.1.2.1, z47.1.2.1]
theorem eb_then {Q : Int32 → dM → Prop} (hK : KR H S P L s m) (hO : zOk H S) (hQ : ∀ m' : dM, RsF m m' → Q (aThn H S x1 x2) m') : c_X12_then_70 8 x1 x2 m Q := by
  have w10 := hK.1.1.2.1
  have hQ' : ∀ (v : Int32) (m' : dM), aThn H S x1 x2 = v → RsF m m' → Q v m' := fun v m' e q => by rw [← e]; exact hQ m' q
  have e0 := ti_0
  have e2 := ti_2
  have no : ¬ ((0 ≤ x1.toInt ∧ x1.toInt ≤ 72) ∧ 0 ≤ x2.toInt ∧ x2.toInt ≤ 2) → j_X12_then_70_16 8 m Q := fun q => v_X12_then_70_16 (hQ' _ m (by unfold aThn; rw [if_neg q]) (RsF.rf m))
  refine v_X12_then_70 (Wp.deep (y_isLong (fun h => ⟨fun z => absurd z (by decide), fun _ => Wp.deep (y_in (fun h2 => ⟨fun _ => Wp.deep (y_copies hK.1 hK.2.1 (fun M f cy a6 a7 => y_goes cy hO a6 a7 (toNat_of h.1) (by have := toNat_of h.1; omega) (fun M2 f2 c2 => ?_))) (Nat.le_of_ble_eq_true rfl), fun z => absurd z (by decide)⟩) (fun q => ⟨fun z => absurd rfl z, fun _ => no (by omega)⟩)) (Nat.le_of_ble_eq_true rfl)⟩) (fun q => ⟨fun _ => no (by omega), fun z => absurd rfl z⟩)) (Nat.le_of_ble_eq_true rfl))
  have F2 := f.tr f2
  have a := c2.1.2.1.1
  have hKM := hK.rs F2
  have zi := zOk.i hK.1.1 x1.toNatClampNeg S hO
  have eA : aThn H S x1 x2 = (if x2.toInt = 0 then szC (itr H x1.toNatClampNeg S) - szC S else if x2.toInt = 1 then szQ (itr H x1.toNatClampNeg S) - szQ S else pc10 (szG (itr H x1.toNatClampNeg S)) 10) := by unfold aThn; rw [if_pos (by omega)]
  refine ⟨fun ge => ?_, fun l2 => ?_⟩
  · have loop : ∀ (t w : Nat) (x4 : Int32), w + t = hoW H → x4.toInt = (w : Int) → j_X12_then_70_57 8 (pc10 (szG (itr H x1.toNatClampNeg S)) w) x4 M2 Q := by
      intro t
      induction t with
      | zero =>
        intro w x4 hw h4
        have ew : w = hoW H := by omega
        refine v_X12_then_70_57 ?_
        rw [d_cn a.1, c2.1.2.1.2.2.1.1, a.1]
        refine ⟨by omega, fun _ => hQ' _ M2 ?_ F2, fun q => by exfalso; omega⟩
        have pc := pc10_cut (x := szG (itr H x1.toNatClampNeg S)) (n := hoW H) (fun i hi => by
          cases b : bt (szG (itr H x1.toNatClampNeg S)) i with
          | false => rfl
          | true => have := zi.2.2.1 i b; omega) (10 - hoW H)
        rw [show hoW H + (10 - hoW H) = 10 by omega] at pc
        rw [eA, if_neg (by omega), if_neg (by omega), ew]
        exact pc
      | succ t ih =>
        intro w x4 hw h4
        have e10 := d_add (k := x4) (K := w) (x := (10 : Int32)) (i := 10) (by decide) h4 (by omega)
        have e : pc10 (szG (itr H x1.toNatClampNeg S)) w + bi (bt (szG (itr H x1.toNatClampNeg S)) w) = pc10 (szG (itr H x1.toNatClampNeg S)) (w + 1) := by
          show _ = pc10 (szG (itr H x1.toNatClampNeg S)) w + cond (bt (szG (itr H x1.toNatClampNeg S)) w) 1 0
          cases bt (szG (itr H x1.toNatClampNeg S)) w <;> rfl
        refine v_X12_then_70_57 ?_
        rw [d_cn a.1, c2.1.2.1.2.2.1.1, a.1, d_cn e10, (c2.2.1.2.1 w (by omega)).2.1, e]
        exact ⟨by omega, fun q => by exfalso; omega, fun _ => ⟨by omega, ih (w + 1) _ (by omega) (d_inc h4 (by omega))⟩⟩
    exact loop (hoW H) 0 _ (by omega) (by decide)
  · have f56 := dAddE (X := 56) (Y := x2.toInt) (x := (56 : Int32)) (y := x2) (by decide) rfl (by omega) (by omega)
    refine ⟨by omega, by omega, hQ' _ M2 ?_ F2⟩
    rcases (show x2.toInt = 0 ∨ x2.toInt = 1 by omega) with q | q
    · have e : ((56 : Int32) + x2).toInt = ((56 : Nat) : Int) := by omega
      rw [eA, if_pos q, d_cn e, c2.2.1.1.2.1, hKM.2.1.1.2.1]
    · have e : ((56 : Int32) + x2).toInt = ((57 : Nat) : Int) := by omega
      rw [eA, if_neg (by omega), if_pos q, d_cn e, c2.2.1.1.2.2, hKM.2.1.1.2.2]
def aLin (H : Ho) (S : Zt) (x1 x2 : Int32) : Int32 := if (0 ≤ x1.toInt ∧ x1.toInt < (hoF H : Int)) ∧ 0 ≤ x2.toInt ∧ x2.toInt ≤ 72 then bi (lt H (szG (itr H x2.toNatClampNeg S)) x1.toNatClampNeg) else -1
theorem ea_litIn {Q : Int32 → dM → Prop} (hK : KC H S P L m) (hO : zOk H S) (hQ : ∀ m' : dM, QC H S P L m m' → Q (aLin H S x1 x2) m') : c_X11_litIn_0 8 x1 x2 m Q := by
  have q0 := QC.rf hK
  have f7 := hK.1.1.1
  have hQ' : ∀ (v : Int32) (m' : dM), aLin H S x1 x2 = v → QC H S P L m m' → Q v m' := fun v m' e q => by rw [← e]; exact hQ m' q
  have no : ¬ ((0 ≤ x1.toInt ∧ x1.toInt < (hoF H : Int)) ∧ 0 ≤ x2.toInt ∧ x2.toInt ≤ 72) → j_X11_litIn_0_18 8 m Q := fun q => v_X11_litIn_0_18 (hQ' _ m (by unfold aLin; rw [if_neg q]) q0)
  refine v_X11_litIn_0 (Wp.deep (y_isFlatc hK.1 (fun hu => ⟨fun z => absurd z (by decide), fun _ => ⟨fun q => no (by omega), fun q1 => ⟨fun q2 => y_after q0 hO (toNat_of q1) (by have := toNat_of q1; omega) (fun M qM zM => ?_), fun q => no (by omega)⟩⟩⟩) (fun hu => ⟨fun _ => no (fun w => hu w.1), fun z => absurd rfl z⟩)) (Nat.le_of_ble_eq_true rfl))
  have hx := toNat_of hu.1
  have eA : aLin H S x1 x2 = bi (lt H (szG (itr H x2.toNatClampNeg S)) x1.toNatClampNeg) := by unfold aLin; rw [if_pos ⟨hu, q1, q2⟩]
  have lb : bt (ltB H (szG (itr H x2.toNatClampNeg S))) x1.toNatClampNeg = lt H (szG (itr H x2.toNatClampNeg S)) x1.toNatClampNeg := by rw [bt_ltB f7, decide_eq_true (by omega), Bool.true_and]
  rw [zM.1.2.2.2.1]
  refine Wp.deep (ea_lit qM.2.1 (Wp.deep (d := 1) (y_has hx (by omega) (fun b => ⟨fun z => absurd z (by decide), fun _ => hQ' _ M ?_ qM⟩) (fun b => ⟨fun _ => hQ' _ M ?_ qM, fun z => absurd rfl z⟩)) (Nat.le_of_ble_eq_true rfl))) (Nat.le_of_ble_eq_true rfl)
  · rw [eA, ← lb, b]; rfl
  · rw [eA, ← lb, b]; rfl
theorem eb_litIn {Q : Int32 → dM → Prop} (hK : KR H S P L s m) (hO : zOk H S) (hQ : ∀ m' : dM, RsF m m' → Q (aLin H S x1 x2) m') : c_X12_litIn_70 8 x1 x2 m Q := by
  have f7 := hK.1.1.1
  have hQ' : ∀ (v : Int32) (m' : dM), aLin H S x1 x2 = v → RsF m m' → Q v m' := fun v m' e q => by rw [← e]; exact hQ m' q
  have no : ¬ ((0 ≤ x1.toInt ∧ x1.toInt < (hoF H : Int)) ∧ 0 ≤ x2.toInt ∧ x2.toInt ≤ 72) → j_X12_litIn_70_15 8 m Q := fun q => v_X12_litIn_70_15 (hQ' _ m (by unfold aLin; rw [if_neg q]) (RsF.rf m))
  refine v_X12_litIn_70 (Wp.deep (y_isFlatr hK.1 (fun hu => ⟨fun z => absurd z (by decide), fun _ => Wp.deep (y_isLong (fun h => ⟨fun _ => Wp.deep (y_copies hK.1 hK.2.1 (fun M f cy a6 a7 => y_goes cy hO a6 a7 (toNat_of h.1) (by have := toNat_of h.1; omega) (fun M2 f2 c2 => Wp.deep (y_isLit c2.2.2 (toNat_of hu.1) (by have := toNat_of hu.1; omega) (fun b => ⟨fun z => absurd z (by decide), fun _ => hQ' _ M2 ?_ (f.tr f2)⟩) (fun b => ⟨fun _ => hQ' _ M2 ?_ (f.tr f2), fun z => absurd rfl z⟩)) (Nat.le_of_ble_eq_true rfl)))) (Nat.le_of_ble_eq_true rfl), fun z => absurd z (by decide)⟩) (fun q => ⟨fun z => absurd rfl z, fun _ => no (by omega)⟩)) (Nat.le_of_ble_eq_true rfl)⟩) (fun hu => ⟨fun _ => no (fun w => hu w.1), fun z => absurd rfl z⟩)) (Nat.le_of_ble_eq_true rfl))
  · unfold aLin; rw [if_pos (by omega), b]; rfl
  · unfold aLin; rw [if_pos (by omega), b]; rfl
end QCL
end
section
/-! QUESTIONS, exactly: hours tried; peak, first, thick -/
theorem z_of {x : Int32} (h : x.toInt = 0) : x = 0 := d_ce (h.trans ti_0.symm)
theorem i32_n {n : Nat} (h : n ≤ 1000000) : (Int32.ofInt (n : Int)).toInt = (n : Int) := Int32.toInt_ofInt_of_le (by omega) (by omega)
/-- alike as far as wires know of it -/
def Wl (S T : Zt) : Prop := szH S = szH T ∧ szG S = szG T ∧ szP S = szP T ∧ szA S = szA T ∧ szR S = szR T ∧ szE S = szE T
abbrev wgo (H : Ho) (T : Zt) (x : Int32) : Int32 := gng H T (onA H T (hod (szH T))) (hod (szH T)) x
section QTA
variable {H : Ho} {S T : Zt}
theorem Wl.rf (S : Zt) : Wl S S := ⟨rfl, rfl, rfl, rfl, rfl, rfl⟩
theorem Wl.p (h : Wl S T) : Wl S (pst H T) := ⟨h.1, h.2.1, h.2.2.1, h.2.2.2.1, h.2.2.2.2.1, h.2.2.2.2.2⟩
theorem Wl.on (h : Wl S T) {x : Int32} : onA H S x = onA H T x := by
  unfold onA
  exact bs_congr _ (fun u _ => by unfold onp; rw [h.2.2.2.1, h.2.1])
theorem Wl.gn (h : Wl S T) {on x more : Int32} : gng H S on x more = gng H T on x more := by
  unfold gng
  exact bs_congr _ (fun w _ => by unfold gop vGo; rw [h.1, h.2.1, h.2.2.1, h.2.2.2.2.1, h.2.2.2.2.2])
theorem Wl.go (h : Wl S T) {x : Int32} : wgo H S x = wgo H T x := by
  show gng H S (onA H S (hod (szH S))) (hod (szH S)) x = gng H T (onA H T (hod (szH T))) (hod (szH T)) x
  rw [h.gn, h.on, h.1]
theorem Wl.w (h : Wl S T) {x : Int32} : Wl (wsz H S x) (wsz H T x) := by
  have g : szG S ||| wgo H S x = szG T ||| wgo H T x := by rw [h.go, h.2.1]
  have g : szG S ||| gng H S (onA H S (hod (szH S))) (hod (szH S)) x = szG T ||| gng H T (onA H T (hod (szH T))) (hod (szH T)) x := g
  refine ⟨?_, g, h.2.2.1, h.2.2.2.1, h.2.2.2.2.1, ?_⟩
  · show szH S + 1 = szH T + 1
    rw [h.1]
  · show (fun w => if w < hoW H ∧ bt (szG S ||| gng H S (onA H S (hod (szH S))) (hod (szH S)) x) w = false then (if (szE S w + 1) < (999 : Int32) then (szE S w + 1) else 999) else szE S w) = (fun w => if w < hoW H ∧ bt (szG T ||| gng H T (onA H T (hod (szH T))) (hod (szH T)) x) w = false then (if (szE T w + 1) < (999 : Int32) then (szE T w + 1) else 999) else szE T w)
    rw [g, h.2.2.2.2.2]
def wtr (H : Ho) (S : Zt) : Nat → Zt
  | 0 => S
  | k + 1 => wsz H (wtr H S k) 0
theorem zOk.ws (hH : hOk H) (h : zOk H S) : ∀ k : Nat, zOk H (wtr H S k)
  | 0 => h
  | k + 1 => (zOk.ws hH h k).w hH _
def pkv (H : Ho) (S : Zt) (w k : Nat) : Int32 := lod H (szG (wtr H S k)) (onA H (wtr H S k) (hod (szH (wtr H S k)))) w
def pkB (H : Ho) (S : Zt) (w : Nat) : Nat → Int32 × Int32
  | 0 => (0, 0)
  | k + 1 => if (pkB H S w k).1.toInt < (pkv H S w k).toInt then (pkv H S w k, Int32.ofInt (k : Int)) else pkB H S w k
def aPk (H : Ho) (S : Zt) (x1 x2 x3 : Int32) : Int32 := if (0 ≤ x1.toInt ∧ x1.toInt < (hoW H : Int)) ∧ (1 ≤ x2.toInt ∧ x2.toInt ≤ 48) ∧ 0 ≤ x3.toInt ∧ x3.toInt ≤ 1 then (if x3.toInt = 1 then (pkB H S x1.toNatClampNeg x2.toNatClampNeg).2 else (pkB H S x1.toNatClampNeg x2.toNatClampNeg).1) else -1
/-- behind how many hours which wires go -/
def fgo (H : Ho) : Nat → Nat → Zt → Nat × Int32
  | 0, _, _ => (201, 0)
  | t + 1, i, T => if (wgo H T 0).toInt = 0 then fgo H t (i + 1) (wsz H T 0) else (i, wgo H T 0)
theorem fgo_s {t i : Nat} : fgo H (t + 1) i T = if (wgo H T 0).toInt = 0 then fgo H t (i + 1) (wsz H T 0) else (i, wgo H T 0) := rfl
theorem fgo_le : ∀ (t i : Nat) (T : Zt), i + t = 201 → (fgo H t i T).1 ≤ 201
  | 0, _, _, _ => Nat.le_refl _
  | t + 1, i, T, h => by
    rw [fgo_s]
    by_cases q : (wgo H T 0).toInt = 0
    · rw [if_pos q]; exact fgo_le t (i + 1) _ (by omega)
    · rw [if_neg q]
      show i ≤ 201
      omega
theorem fgo_hi (hw : hoW H ≤ 10) {j : Nat} (hj : 10 ≤ j) : ∀ (t i : Nat) (T : Zt), bt (fgo H t i T).2 j = false
  | 0, _, _ => bt_0
  | t + 1, i, T => by
    rw [fgo_s]
    by_cases q : (wgo H T 0).toInt = 0
    · rw [if_pos q]; exact fgo_hi hw hj t (i + 1) _
    · rw [if_neg q]; exact gng_hi hw hj
theorem fgo_nz : ∀ (t i : Nat) (T : Zt), (fgo H t i T).1 ≠ 201 → (fgo H t i T).2.toInt ≠ 0
  | 0, _, _, h => absurd rfl h
  | t + 1, i, T, h => by
    rw [fgo_s] at h ⊢
    by_cases q : (wgo H T 0).toInt = 0
    · rw [if_pos q] at h ⊢; exact fgo_nz t (i + 1) _ h
    · rw [if_neg q]; exact q
end QTA
/-- the r-th of the bits, from b on -/
def ithB (x : Int32) : Nat → Nat → Nat → Int32
  | 0, _, _ => -1
  | t + 1, b, r => cond (bt x b) (if r = 0 then Int32.ofInt (b : Int) else ithB x t (b + 1) (r - 1)) (ithB x t (b + 1) r)
theorem ithB_s {x : Int32} {t b r : Nat} : ithB x (t + 1) b r = cond (bt x b) (if r = 0 then Int32.ofInt (b : Int) else ithB x t (b + 1) (r - 1)) (ithB x t (b + 1) r) := rfl
theorem ithB_0 {x : Int32} (h : ∀ i : Nat, 10 ≤ i → bt x i = false) : ∀ (t b r : Nat), 10 ≤ b → ithB x t b r = -1
  | 0, _, _, _ => rfl
  | t + 1, b, r, hb => by
    rw [ithB_s, h b hb, cond_false]
    exact ithB_0 h t (b + 1) r (by omega)
theorem ithB_c {x : Int32} (h : ∀ i : Nat, 10 ≤ i → bt x i = false) : ∀ (t b r : Nat), b + t = 10 → ithB x (t + 22) b r = ithB x t b r
  | 0, b, r, hb => by
    rw [ithB_0 h (0 + 22) b r (by omega)]
    rfl
  | t + 1, b, r, hb => by
    rw [show t + 1 + 22 = (t + 22) + 1 by omega, ithB_s (t := t + 22), ithB_s (t := t), ithB_c h t (b + 1) (r - 1) (by omega), ithB_c h t (b + 1) r (by omega)]
section QTR
variable {H : Ho} {S : Zt} {P : List Zt} {L : Nat → Zt} {m : dM} {s : Nat} {x1 x2 x3 : Int32}
theorem ea_bitAt {x0 : Int32} {k : Nat} {Q : Int32 → dM → Prop} {M : dM} (h1 : x1.toInt = (k : Int)) (hk : k ≤ 3) (hQ : Q (ithB x0 32 0 k) M) : c_X11_bitAt 2 x0 x1 M Q := by
  have loop : ∀ (t b r : Nat) (x2 x3 : Int32), b + t = 32 → x3.toInt = (b : Int) → x2.toInt + (r : Int) = (k : Int) → 0 ≤ x2.toInt → Q (ithB x0 t b r) M → j_X11_bitAt_4 2 x0 x1 x2 x3 M Q := by
    intro t
    induction t with
    | zero => intro b r x2 x3 hb h3 h2 h20 hq; exact v_X11_bitAt_4 ⟨fun _ => hq, fun q => by exfalso; omega⟩
    | succ t ih =>
      intro b r x2 x3 hb h3 h2 h20 hq
      rw [ithB_s] at hq
      refine v_X11_bitAt_4 ⟨fun q => by exfalso; omega, fun _ => y_has h3 (by omega) (fun g => ⟨fun z => absurd z (by decide), fun _ => ⟨fun ne => v_X11_bitAt_28 ?_, fun e => ?_⟩⟩) (fun g => ⟨fun _ => v_X11_bitAt_28 ?_, fun z => absurd rfl z⟩)⟩
      · rw [g, cond_true, if_neg (by omega)] at hq
        have f := dAddE (X := x2.toInt) (Y := 1) (x := x2) (y := (1 : Int32)) rfl (by decide) (by omega) (by omega)
        exact ih (b + 1) (r - 1) _ _ (by omega) (d_inc h3 (by omega)) (by omega) (by omega) hq
      · rw [g, cond_true, if_pos (by omega), ofI h3] at hq
        exact hq
      · rw [g, cond_false] at hq
        exact ih (b + 1) r _ _ (by omega) (d_inc h3 (by omega)) h2 h20 hq
  exact v_X11_bitAt (loop 32 0 k _ _ rfl (by decide) (by have := ti_0; omega) (by decide) hQ)
theorem eb_low {x0 : Int32} {Q : Int32 → dM → Prop} {M : dM} (hx : ∃ j : Nat, j < 10 ∧ bt x0 j = true) (hQ : Q (ithB x0 10 0 0) M) : c_X12_lowestOf 7 x0 M Q := by
  have loop : ∀ (t b : Nat) (x1 : Int32), b + t = 10 → x1.toInt = (b : Int) → (∃ j : Nat, b ≤ j ∧ j < 10 ∧ bt x0 j = true) → Q (ithB x0 t b 0) M → j_X12_lowestOf_2 7 x0 x1 M Q := by
    intro t
    induction t with
    | zero => intro b x1 hb h1 hj hq; exfalso; obtain ⟨j, j1, j2, j3⟩ := hj; omega
    | succ t ih =>
      intro b x1 hb h1 hj hq
      rw [ithB_s] at hq
      refine v_X12_lowestOf_2 ⟨fun q => by exfalso; omega, fun _ => ?_⟩
      rw [bt_s h1 (by omega)]
      cases e : bt x0 b with
      | true =>
        rw [e, cond_true, if_pos rfl, ofI h1] at hq
        exact ⟨fun _ => v_X12_lowestOf_22 hq, fun q => absurd q (by decide)⟩
      | false =>
        rw [e, cond_false] at hq
        refine ⟨fun q => absurd rfl q, fun _ => ih (b + 1) _ (by omega) (d_inc h1 (by omega)) ?_ hq⟩
        obtain ⟨j, j1, j2, j3⟩ := hj
        refine ⟨j, ?_, j2, j3⟩
        by_cases q : j = b
        · rw [q, e] at j3; cases j3
        · omega
  obtain ⟨j, j2, j3⟩ := hx
  exact v_X12_lowestOf (loop 10 0 _ rfl (by decide) ⟨j, Nat.zero_le _, j2, j3⟩ hQ)
theorem e_still {Q : dM → Prop} {M : dM} (hK : KR H S P L s m) (hF : RsF m M) (hQ : ∀ m' : dM, RsF m m' → CY H S s m' → (m'.1 70 57).toInt ≠ 0 → Q m') : c_X12_copiesStill_70 7 M Q := by
  have hK' := hK.rs hF
  refine v_X12_copiesStill_70 (y_copies hK'.1 hK'.2.1 (fun M1 f cy _ _ => hQ _ ((hF.tr f).s70 (by decide)) ⟨cy.1.rs ((RsF.rf M1).s70 (by decide)), cy.2.1.of (dSet_k (by decide)), cy.2.2.of (dSet_k (by decide)) (dSet_k (by decide))⟩ (by rw [dSet_s]; decide)))
theorem e_hour {Q : dM → Prop} {M : dM} {T T0 : Zt} (hC : CY H T s M) (hO : zOk H T) (hF : RsF m M) (h57 : (M.1 70 57).toInt ≠ 0) (hw : Wl T0 T) (hQ : ∀ (T' : Zt) (m' : dM), RsF m m' → CY H T' s m' → zOk H T' → (m'.1 70 57).toInt ≠ 0 → Wl (wsz H T0 0) T' → m'.1 70 60 = wgo H T0 0 → Q m') : c_X12_hourGoes_70 6 M Q :=
  y_hourGoes hC.1 hC.2.1 hC.2.2 hO (fun M1 f1 W1 g1 Z1 L1 => by
    have e0 : mor H T M = 0 := by unfold mor; rw [decide_eq_true h57]; rfl
    rw [e0] at g1 Z1 L1
    exact hQ _ M1 (hF.tr f1.rs) ⟨W1, Z1, L1⟩ (zOk.hh hC.1.1 hO _) (by rw [f1.2.1 57 (by decide) (by decide)]; exact h57) hw.p.w (g1.trans (hw.go (H := H)).symm))
theorem ea_peak {Q : Int32 → dM → Prop} (hK : KC H S P L m) (hO : zOk H S) (hQ : ∀ m' : dM, QC H S P L m m' → Q (aPk H S x1 x2 x3) m') : c_X11_peak_0 7 x1 x2 x3 m Q := by
  have q0 := QC.rf hK
  have w10 := hK.1.1.2.1
  have hQ' : ∀ (v : Int32) (m' : dM), aPk H S x1 x2 x3 = v → QC H S P L m m' → Q v m' := fun v m' e q => by rw [← e]; exact hQ m' q
  have no : ¬ ((0 ≤ x1.toInt ∧ x1.toInt < (hoW H : Int)) ∧ (1 ≤ x2.toInt ∧ x2.toInt ≤ 48) ∧ 0 ≤ x3.toInt ∧ x3.toInt ≤ 1) → j_X11_peak_0_28 7 m Q := fun q => v_X11_peak_0_28 (hQ' _ m (by unfold aPk; rw [if_neg q]) q0)
  refine v_X11_peak_0 (Wp.deep (y_isWirec hK.1 (fun hu => ⟨fun z => absurd z (by decide), fun _ => ⟨fun q => no (by omega), fun a1 => ⟨fun q => no (by omega), fun a2 => ⟨fun q => no (by omega), fun a3 => ⟨fun a4 => ?_, fun q => no (by omega)⟩⟩⟩⟩⟩) (fun hu => ⟨fun _ => no (fun w => hu w.1), fun z => absurd rfl z⟩)) (Nat.le_of_ble_eq_true rfl))
  have hx := toNat_of hu.1
  have hn := toNat_of (x := x2) (by omega)
  have hwW : x1.toNatClampNeg < hoW H := by omega
  have eA : aPk H S x1 x2 x3 = (if x3.toInt = 1 then (pkB H S x1.toNatClampNeg x2.toNatClampNeg).2 else (pkB H S x1.toNatClampNeg x2.toNatClampNeg).1) := by unfold aPk; rw [if_pos ⟨hu, ⟨a1, a2⟩, a3, a4⟩]
  have go : ∀ y : Int32, (y.toInt = 0 → aPk H S x1 x2 x3 = (pkB H S x1.toNatClampNeg x2.toNatClampNeg).1) → (y.toInt ≠ 0 → aPk H S x1 x2 x3 = (pkB H S x1.toNatClampNeg x2.toNatClampNeg).2) → c_X1_peakOf_61_47 6 x1 x2 y m (fun r2 m2 => Q r2 m2) := fun y e0 e1 => by
    refine v_X1_peakOf_61_47 (Wp.deep (y_copy62 q0 (fun M q1 z1 => ?_)) (Nat.le_of_ble_eq_true rfl))
    have loop : ∀ (t i : Nat) (x7 : Int32) (M : dM), i + t = x2.toNatClampNeg → x7.toInt = (i : Int) → QC H S P L m M → CZ 62 M (wtr H S i) → j_X1_peakOf_61_47_17 6 x1 x2 y (pkB H S x1.toNatClampNeg i).1 (pkB H S x1.toNatClampNeg i).2 x7 M Q := by
      intro t
      induction t with
      | zero =>
        intro i x7 M hi h7 qM zM
        have ei : i = x2.toNatClampNeg := by omega
        rw [ei]
        exact v_X1_peakOf_61_47_17 ⟨fun _ => ⟨fun z => hQ' _ M (e0 z) qM, fun z => hQ' _ M (e1 z) qM⟩, fun q => by exfalso; omega⟩
      | succ t ih =>
        intro i x7 M hi h7 qM zM
        have zi := zOk.ws hK.1.1 hO i
        have eS : pkB H S x1.toNatClampNeg (i + 1) = if (pkB H S x1.toNatClampNeg i).1.toInt < (pkv H S x1.toNatClampNeg i).toInt then (pkv H S x1.toNatClampNeg i, Int32.ofInt (i : Int)) else pkB H S x1.toNatClampNeg i := rfl
        refine v_X1_peakOf_61_47_17 ⟨fun q => by exfalso; omega, fun _ => y_passWires62 qM.2.1 zM (zi.g1 hK.1.1) (fun M2 f2 w2 z2 d2 => ?_)⟩
        have ev : M2.1 56 x1.toNatClampNeg = pkv H S x1.toNatClampNeg i := d2 _ hwW
        have n := ih (i + 1) _ M2 (by omega) (d_inc h7 (by omega)) (qM.t62 f2 w2) z2
        rw [ev]
        refine ⟨by omega, fun le => v_X1_peakOf_61_47_65 ?_, fun l => ⟨by omega, v_X1_peakOf_61_47_65 ?_⟩⟩
        · rw [eS, if_neg (by omega)] at n
          exact n
        · rw [eS, if_pos l, ofI h7] at n
          exact n
    exact loop x2.toNatClampNeg 0 _ M (by omega) (by decide) q1 z1
  exact ⟨fun n => go _ (fun _ => by rw [eA, if_neg n]) (fun z => absurd rfl z), fun e => go _ (fun z => absurd z (by decide)) (fun _ => by rw [eA, if_pos e])⟩
theorem eb_peak {Q : Int32 → dM → Prop} (hK : KR H S P L s m) (hO : zOk H S) (hQ : ∀ m' : dM, RsF m m' → Q (aPk H S x1 x2 x3) m') : c_X12_peak_70 8 x1 x2 x3 m Q := by
  have w10 := hK.1.1.2.1
  have hQ' : ∀ (v : Int32) (m' : dM), aPk H S x1 x2 x3 = v → RsF m m' → Q v m' := fun v m' e q => by rw [← e]; exact hQ m' q
  have e0 := ti_0
  have e1 := ti_1
  have e48 := ti_48
  have em := ti_m1
  have no : ¬ ((0 ≤ x1.toInt ∧ x1.toInt < (hoW H : Int)) ∧ (1 ≤ x2.toInt ∧ x2.toInt ≤ 48) ∧ 0 ≤ x3.toInt ∧ x3.toInt ≤ 1) → j_X12_peak_70_27 8 m Q := fun q => v_X12_peak_70_27 (hQ' _ m (by unfold aPk; rw [if_neg q]) (RsF.rf m))
  refine v_X12_peak_70 (Wp.deep (y_isWire hK.1.2.1 (fun hu => ⟨fun z => absurd z (by decide), fun _ => Wp.deep (y_in (fun h2 => ⟨fun z => absurd z (by decide), fun _ => Wp.deep (y_in (fun h3 => ⟨fun _ => ?_, fun z => absurd z (by decide)⟩) (fun q => ⟨fun z => absurd rfl z, fun _ => no (by omega)⟩)) (Nat.le_of_ble_eq_true rfl)⟩) (fun q => ⟨fun _ => no (by omega), fun z => absurd rfl z⟩)) (Nat.le_of_ble_eq_true rfl)⟩) (fun hu => ⟨fun _ => no (fun w => hu w.1), fun z => absurd rfl z⟩)) (Nat.le_of_ble_eq_true rfl))
  have hx := toNat_of hu.1
  have hn := toNat_of (x := x2) (by omega)
  have eA : aPk H S x1 x2 x3 = (if x3.toInt = 1 then (pkB H S x1.toNatClampNeg x2.toNatClampNeg).2 else (pkB H S x1.toNatClampNeg x2.toNatClampNeg).1) := by unfold aPk; rw [if_pos (by omega)]
  refine e_still hK (RsF.rf m) (fun M f cy h57 => ?_)
  have vb : ∀ k : Nat, 0 ≤ (pkv H S x1.toNatClampNeg k).toInt := fun k => (lds_b hK.1.1 (hoU H) (Nat.le_refl _)).1
  have loop : ∀ (t i : Nat) (x4 x5 x6 : Int32) (T : Zt) (M : dM), i + t = x2.toNatClampNeg → x6.toInt = (i : Int) → ((i = 0 ∧ x4 = 0 ∧ x5 = -1) ∨ (0 < i ∧ x4 = (pkB H S x1.toNatClampNeg i).2 ∧ x5 = (pkB H S x1.toNatClampNeg i).1)) → RsF m M → CY H T s M → zOk H T → Wl (wtr H S i) T → (M.1 70 57).toInt ≠ 0 → j_X12_peak_70_42 8 x1 x2 x3 x4 x5 x6 M Q := by
    intro t
    induction t with
    | zero =>
      intro i x4 x5 x6 T M hi h6 hb fM cM hT hw h57
      have ei : i = x2.toNatClampNeg := by omega
      rcases hb with ⟨b1, _, _⟩ | ⟨_, b2, b3⟩
      · exfalso; omega
      · rw [ei] at b2 b3
        exact v_X12_peak_70_42 ⟨fun _ => ⟨fun n => hQ' _ M (by rw [eA, if_pos (by omega), b2]) fM, fun z => hQ' _ M (by rw [eA, if_neg (by omega), b3]) fM⟩, fun q => by exfalso; omega⟩
    | succ t ih =>
      intro i x4 x5 x6 T M hi h6 hb fM cM hT hw h57
      have ev : lod H (szG T) (onA H T (hod (szH T))) x1.toNatClampNeg = pkv H S x1.toNatClampNeg i := by
        unfold pkv
        rw [hw.on, hw.1, hw.2.1]
      have vi := vb i
      have eS : pkB H S x1.toNatClampNeg (i + 1) = if (pkB H S x1.toNatClampNeg i).1.toInt < (pkv H S x1.toNatClampNeg i).toInt then (pkv H S x1.toNatClampNeg i, Int32.ofInt (i : Int)) else pkB H S x1.toNatClampNeg i := rfl
      have on : ∀ y z : Int32, (y = (pkB H S x1.toNatClampNeg (i + 1)).2 ∧ z = (pkB H S x1.toNatClampNeg (i + 1)).1) → j_X12_peak_70_86 8 x1 x2 x3 y z x6 M Q := fun y z hyz => v_X12_peak_70_86 (Wp.deep (e_hour cM hT fM h57 hw (fun T' M1 f1 c1 h1 h57' w1 _ => ih (i + 1) _ _ _ T' M1 (by omega) (d_inc h6 (by omega)) (Or.inr ⟨by omega, hyz⟩) f1 c1 h1 w1 h57')) (Nat.le_of_ble_eq_true rfl))
      have up : x5.toInt < (pkv H S x1.toNatClampNeg i).toInt → j_X12_peak_70_86 8 x1 x2 x3 x6 (pkv H S x1.toNatClampNeg i) x6 M Q := fun l => on _ _ (by
        rcases hb with ⟨b1, b2, b3⟩ | ⟨b1, b2, b3⟩
        · have p0 : pkB H S x1.toNatClampNeg i = (0, 0) := by rw [b1]; rfl
          rw [eS, p0]
          by_cases q : (0 : Int32).toInt < (pkv H S x1.toNatClampNeg i).toInt
          · rw [if_pos q]; exact ⟨(ofI h6).symm, rfl⟩
          · rw [if_neg q]; exact ⟨z_of (by omega), z_of (by omega)⟩
        · rw [b3] at l
          rw [eS, if_pos l]; exact ⟨(ofI h6).symm, rfl⟩)
      have stay : (pkv H S x1.toNatClampNeg i).toInt ≤ x5.toInt → j_X12_peak_70_86 8 x1 x2 x3 x4 x5 x6 M Q := fun l => on _ _ (by
        rcases hb with ⟨b1, b2, b3⟩ | ⟨b1, b2, b3⟩
        · exfalso; rw [b3] at l; omega
        · rw [eS, if_neg (by rw [b3] at l; omega)]; exact ⟨b2, b3⟩)
      refine v_X12_peak_70_42 ⟨fun q => by exfalso; omega, fun _ => Wp.deep (y_isWhole cM.1.2.1 (cM.2.1.rg (r := 0)) hx (by omega) (fun g => ⟨fun z => absurd z (by decide), fun _ => Wp.deep (y_onNow cM (Wp.deep (y_loadBy cM.1 cM.2.2 hx (by omega) ?_) (Nat.le_of_ble_eq_true rfl))) (Nat.le_of_ble_eq_true rfl)⟩) (fun g => ⟨fun _ => ?_, fun z => absurd rfl z⟩)) (Nat.le_of_ble_eq_true rfl)⟩
      · rw [ev]; exact ⟨stay, up⟩
      · have e00 : pkv H S x1.toNatClampNeg i = 0 := by rw [← ev]; exact lod_gone hK.1.1 g
        rw [e00] at stay up
        exact ⟨fun q => stay (by omega), fun q => up (by omega)⟩
  exact loop x2.toNatClampNeg 0 _ _ _ S M (by omega) (by decide) (Or.inl ⟨rfl, rfl, rfl⟩) f cy hO (Wl.rf S) h57
theorem ea_till {Q : Int32 → dM → Prop} {T : Zt} {M : dM} (hq : QC H S P L m M) (hZ : CZ 62 M T) (hT : zOk H T) (hQ : ∀ m' : dM, QC H S P L m m' → m'.1 61 4 = (fgo H 200 1 T).2 → Q (Int32.ofInt ((fgo H 200 1 T).1 : Int)) m') : c_X1_trialTillGone_61 6 M Q := by
  have hH := hq.2.1.1
  have loop : ∀ (t i : Nat) (x1 : Int32) (T' : Zt) (M : dM), i + t = 201 → x1.toInt = (i : Int) → QC H S P L m M → CZ 62 M T' → zOk H T' → M.1 61 4 = 0 → fgo H t i T' = fgo H 200 1 T → j_X1_trialTillGone_61_7 6 x1 M Q := by
    intro t
    induction t with
    | zero =>
      intro i x1 T' M hi h1 qM zM hT' h4 e
      have e : ((201, 0) : Nat × Int32) = fgo H 200 1 T := e
      rw [← e] at hQ
      have h' : Q (Int32.ofInt ((201 : Nat) : Int)) M := hQ M qM h4
      rw [show Int32.ofInt ((201 : Nat) : Int) = 201 by decide] at h'
      exact v_X1_trialTillGone_61_7 ⟨fun _ => h', fun q => by exfalso; omega⟩
    | succ t ih =>
      intro i x1 T' M hi h1 qM zM hT' h4 e
      rw [fgo_s] at e
      refine v_X1_trialTillGone_61_7 ⟨fun q => by exfalso; omega, fun _ => y_passWires62 qM.2.1 zM (hT'.g1 hH) (fun M2 f2 w2 z2 _ => ⟨fun z => ?_, fun nz => ?_⟩)⟩
      · have z : (wgo H T' 0).toInt = 0 := z
        rw [if_pos z] at e
        exact ih (i + 1) _ _ _ (by omega) (d_inc h1 (by omega)) ((qM.t62 f2 w2).s61 (Or.inl rfl)) (z2.of (fun k a b => dSet_k (by omega))) (hT'.w hH _) (by rw [dSet_s]; exact z_of z) e
      · have nz : (wgo H T' 0).toInt ≠ 0 := nz
        rw [if_neg nz] at e
        rw [← e] at hQ
        have h' : Q (Int32.ofInt (i : Int)) (dSet M2 61 4 (wgo H T' 0)) := hQ _ ((qM.t62 f2 w2).s61 (Or.inl rfl)) (dSet_s _ _ _ _)
        rw [ofI h1] at h'
        exact h'
  exact v_X1_trialTillGone_61 (loop 200 1 _ T _ (by decide) (by decide) (hq.s61 (Or.inl rfl)) (hZ.of (fun k a b => dSet_k (by omega))) hT (dSet_s _ _ _ _) rfl)
theorem eb_fgo {Q : Int32 → dM → Prop} {M : dM} {T T0 : Zt} (hC : CY H T s M) (hO : zOk H T) (hF : RsF m M) (h57 : (M.1 70 57).toInt ≠ 0) (hw : Wl T0 T) (hQ : ∀ m' : dM, RsF m m' → ((fgo H 200 1 T0).1 ≠ 201 → m'.1 70 60 = (fgo H 200 1 T0).2) → Q (Int32.ofInt ((fgo H 200 1 T0).1 : Int)) m') : c_X12_firstGoing_70 7 M Q := by
  have loop : ∀ (t i : Nat) (x1 : Int32) (T' T0' : Zt) (M : dM), i + t = 201 → x1.toInt = (i : Int) → RsF m M → CY H T' s M → zOk H T' → (M.1 70 57).toInt ≠ 0 → Wl T0' T' → fgo H t i T0' = fgo H 200 1 T0 → j_X12_firstGoing_70_2 7 x1 M Q := by
    intro t
    induction t with
    | zero =>
      intro i x1 T' T0' M hi h1 fM cM hT' h57 hw' e
      have e : ((201, 0) : Nat × Int32) = fgo H 200 1 T0 := e
      rw [← e] at hQ
      have h' : Q (Int32.ofInt ((201 : Nat) : Int)) M := hQ M fM (fun n => absurd rfl n)
      rw [show Int32.ofInt ((201 : Nat) : Int) = 201 by decide] at h'
      exact v_X12_firstGoing_70_2 ⟨fun _ => h', fun q => by exfalso; omega⟩
    | succ t ih =>
      intro i x1 T' T0' M hi h1 fM cM hT' h57 hw' e
      rw [fgo_s] at e
      refine v_X12_firstGoing_70_2 ⟨fun q => by exfalso; omega, fun _ => e_hour cM hT' fM h57 hw' (fun T2 M1 f1 c1 k1 h57' w1 g1 => ?_)⟩
      rw [g1]
      refine ⟨fun z => ?_, fun nz => ?_⟩
      · rw [if_pos z] at e
        exact ih (i + 1) _ T2 _ M1 (by omega) (d_inc h1 (by omega)) f1 c1 k1 h57' w1 e
      · rw [if_neg nz] at e
        rw [← e] at hQ
        have h' : Q (Int32.ofInt (i : Int)) M1 := hQ M1 f1 (fun _ => g1)
        rw [ofI h1] at h'
        exact h'
  exact v_X12_firstGoing_70 (loop 200 1 _ T T0 M (by decide) (by decide) hF hC hO h57 hw rfl)
def aFst (H : Ho) (S : Zt) (x1 : Int32) : Int32 := if 0 ≤ x1.toInt ∧ x1.toInt ≤ 1 then (if (fgo H 200 1 S).1 = 201 then -2 else if x1.toInt = 0 then Int32.ofInt ((fgo H 200 1 S).1 : Int) else ithB (fgo H 200 1 S).2 10 0 0) else -1
theorem ea_first {Q : Int32 → dM → Prop} (hK : KC H S P L m) (hO : zOk H S) (hQ : ∀ m' : dM, QC H S P L m m' → Q (aFst H S x1) m') : c_X11_first_0 8 x1 m Q := by
  have q0 := QC.rf hK
  have w10 := hK.1.1.2.1
  have hQ' : ∀ (v : Int32) (m' : dM), aFst H S x1 = v → QC H S P L m m' → Q v m' := fun v m' e q => by rw [← e]; exact hQ m' q
  have no : ¬ (0 ≤ x1.toInt ∧ x1.toInt ≤ 1) → j_X11_first_0_9 8 m Q := fun q => v_X11_first_0_9 (hQ' _ m (by unfold aFst; rw [if_neg q]) q0)
  have fl := fgo_le (H := H) 200 1 S rfl
  have fi : (Int32.ofInt ((fgo H 200 1 S).1 : Int)).toInt = ((fgo H 200 1 S).1 : Int) := i32_n (by omega)
  refine v_X11_first_0 ⟨fun q => no (by omega), fun h0 => ⟨fun h1 => v_X1_firstGone_61_47 (Wp.deep (y_copy62 q0 (fun M q1 z1 => ea_till q1 z1 hO (fun M2 q2 e4 => ?_))) (Nat.le_of_ble_eq_true rfl)), fun q => no (by omega)⟩⟩
  have eA : aFst H S x1 = (if (fgo H 200 1 S).1 = 201 then -2 else if x1.toInt = 0 then Int32.ofInt ((fgo H 200 1 S).1 : Int) else ithB (fgo H 200 1 S).2 10 0 0) := by unfold aFst; rw [if_pos ⟨h0, h1⟩]
  rw [fi]
  refine ⟨fun le => ⟨fun n => v_X1_firstWire_61 (Wp.deep (ea_bitAt (k := 0) (by decide) (by decide) (hQ' _ M2 ?_ q2)) (Nat.le_of_ble_eq_true rfl)), fun z => hQ' _ M2 (by rw [eA, if_neg (by omega), if_pos z]) q2⟩, fun g => hQ' _ M2 (by rw [eA, if_pos (by omega)]) q2⟩
  rw [eA, if_neg (by omega), if_neg n, e4]
  exact (ithB_c (fun j hj => fgo_hi w10 hj 200 1 S) 10 0 0 rfl).symm
theorem eb_first {Q : Int32 → dM → Prop} (hK : KR H S P L s m) (hO : zOk H S) (hQ : ∀ m' : dM, RsF m m' → Q (aFst H S x1) m') : c_X12_first_70 8 x1 m Q := by
  have w10 := hK.1.1.2.1
  have hQ' : ∀ (v : Int32) (m' : dM), aFst H S x1 = v → RsF m m' → Q v m' := fun v m' e q => by rw [← e]; exact hQ m' q
  have e0 := ti_0
  have e1 := ti_1
  have fl := fgo_le (H := H) 200 1 S rfl
  have fi : (Int32.ofInt ((fgo H 200 1 S).1 : Int)).toInt = ((fgo H 200 1 S).1 : Int) := i32_n (by omega)
  refine v_X12_first_70 (Wp.deep (y_in (fun h => ⟨fun _ => e_still hK (RsF.rf m) (fun M f cy h57 => eb_fgo cy hO f h57 (Wl.rf S) (fun M2 f2 e60 => ?_)), fun z => absurd z (by decide)⟩) (fun q => ⟨fun z => absurd rfl z, fun _ => hQ' _ m (by unfold aFst; rw [if_neg (by omega)]) (RsF.rf m)⟩)) (Nat.le_of_ble_eq_true rfl))
  have eA : aFst H S x1 = (if (fgo H 200 1 S).1 = 201 then -2 else if x1.toInt = 0 then Int32.ofInt ((fgo H 200 1 S).1 : Int) else ithB (fgo H 200 1 S).2 10 0 0) := by unfold aFst; rw [if_pos (by omega)]
  rw [fi]
  refine ⟨fun ne => ⟨fun n => ?_, fun z => hQ' _ M2 (by rw [eA, if_neg (by omega), if_pos z]) f2⟩, fun g => hQ' _ M2 (by rw [eA, if_pos (by omega)]) f2⟩
  have n201 : (fgo H 200 1 S).1 ≠ 201 := fun q => ne (by rw [q]; rfl)
  rw [e60 n201]
  refine eb_low ?_ (hQ' _ M2 (by rw [eA, if_neg n201, if_neg n]) f2)
  have nz := fgo_nz (H := H) 200 1 S n201
  by_cases ex : ∃ j : Nat, j < 10 ∧ bt (fgo H 200 1 S).2 j = true
  · exact ex
  · exfalso
    apply nz
    have z : (fgo H 200 1 S).2 = 0 := bt_z (fun i _ => by
      by_cases q : i < 10
      · cases b : bt (fgo H 200 1 S).2 i with
        | false => rfl
        | true => exact absurd ⟨i, q, b⟩ ex
      · exact fgo_hi w10 (by omega) 200 1 S)
    rw [z]
    exact e0
/-- rated so much more -/
def thR (S : Zt) (k : Int32) (w : Nat) : Zt := setR S (upd (szR S) w (if szR S w + k < (99 : Int32) then szR S w + k else 99))
def thB (H : Ho) (S : Zt) (k : Int32) : Nat → Int32 × Nat
  | 0 => (-2, (fgo H 200 1 S).1)
  | w + 1 => cond (bt (szG S) w) (thB H S k w) (if (thB H S k w).2 < (fgo H 200 1 (thR S k w)).1 then (Int32.ofInt (w : Int), (fgo H 200 1 (thR S k w)).1) else thB H S k w)
def aTck (H : Ho) (S : Zt) (x1 : Int32) : Int32 := if 1 ≤ x1.toInt ∧ x1.toInt ≤ 20 then (thB H S x1 (hoW H)).1 else -1
theorem thR_ok {k : Int32} {w : Nat} (h1 : 1 ≤ k.toInt) (h2 : k.toInt ≤ 20) (hw : w < hoW H) (hO : zOk H S) : zOk H (thR S k w) := by
  obtain ⟨a, b, c, d, e, f, g⟩ := hO
  refine ⟨a, b, c, d, e, fun j hj => ?_, g⟩
  show 0 ≤ (upd (szR S) w (if szR S w + k < (99 : Int32) then szR S w + k else 99) j).toInt ∧ (upd (szR S) w (if szR S w + k < (99 : Int32) then szR S w + k else 99) j).toInt ≤ 99
  rw [upd_j]
  by_cases q3 : j = w
  · have lti : (szR S w + k < (99 : Int32)) ↔ (szR S w + k).toInt < (99 : Int32).toInt := Int32.lt_iff_toInt_lt
    have e9 := ti_99
    have fw := f w hw
    have fa := dAddE (X := (szR S w).toInt) (Y := k.toInt) (x := szR S w) (y := k) rfl rfl (by omega) (by omega)
    rw [if_pos q3]
    by_cases q : szR S w + k < (99 : Int32)
    · rw [if_pos q]
      have := lti.mp q
      omega
    · rw [if_neg q]; omega
  · rw [if_neg q3]; exact f j hj
theorem thB_s {k : Int32} {w : Nat} : thB H S k (w + 1) = cond (bt (szG S) w) (thB H S k w) (if (thB H S k w).2 < (fgo H 200 1 (thR S k w)).1 then (Int32.ofInt (w : Int), (fgo H 200 1 (thR S k w)).1) else thB H S k w) := rfl
theorem thB_le {k : Int32} : ∀ w : Nat, (thB H S k w).2 ≤ 201
  | 0 => fgo_le 200 1 S rfl
  | w + 1 => by
    rw [thB_s]
    cases bt (szG S) w with
    | true => exact thB_le w
    | false =>
      rw [cond_false]
      by_cases q : (thB H S k w).2 < (fgo H 200 1 (thR S k w)).1
      · rw [if_pos q]; exact fgo_le 200 1 (thR S k w) rfl
      · rw [if_neg q]; exact thB_le w
theorem thB_st {k : Int32} {w : Nat} (h : 200 < (thB H S k w).2) : ∀ j : Nat, thB H S k (w + j) = thB H S k w
  | 0 => rfl
  | j + 1 => by
    have ih := thB_st h j
    rw [show w + (j + 1) = (w + j) + 1 by omega, thB_s, ih]
    cases bt (szG S) (w + j) with
    | true => rfl
    | false =>
      rw [cond_false]
      have := fgo_le (H := H) 200 1 (thR S k (w + j)) rfl
      rw [if_neg (by omega)]
theorem ea_thick {Q : Int32 → dM → Prop} (hK : KC H S P L m) (hO : zOk H S) (hQ : ∀ m' : dM, QC H S P L m m' → Q (aTck H S x1) m') : c_X11_thick_0 8 x1 m Q := by
  have q0 := QC.rf hK
  have w10 := hK.1.1.2.1
  have hQ' : ∀ (v : Int32) (m' : dM), aTck H S x1 = v → QC H S P L m m' → Q v m' := fun v m' e q => by rw [← e]; exact hQ m' q
  have no : ¬ (1 ≤ x1.toInt ∧ x1.toInt ≤ 20) → j_X11_thick_0_11 8 m Q := fun q => v_X11_thick_0_11 (hQ' _ m (by unfold aTck; rw [if_neg q]) q0)
  refine v_X11_thick_0 ⟨fun q => no (by omega), fun h0 => ⟨fun h1 => ?_, fun q => no (by omega)⟩⟩
  have eA : aTck H S x1 = (thB H S x1 (hoW H)).1 := by unfold aTck; rw [if_pos ⟨h0, h1⟩]
  have loop : ∀ (t w : Nat) (x5 : Int32) (M : dM), w + t = hoW H → x5.toInt = (w : Int) → QC H S P L m M → j_X1_bestThicker_61_47_20 7 x1 (Int32.ofInt ((thB H S x1 w).2 : Int)) (thB H S x1 w).1 x5 M Q := by
    intro t
    induction t with
    | zero =>
      intro w x5 M hw h5 qM
      have e21 := qM.2.1.2.1.1.2.1.1
      have ew : w = hoW H := by omega
      rw [ew]
      exact v_X1_bestThicker_61_47_20 ⟨fun _ => v_X1_bestThicker_61_47_111 (hQ' _ M eA qM), fun q => by exfalso; omega⟩
    | succ t ih =>
      intro w x5 M hw h5 qM
      have e21 := qM.2.1.2.1.1.2.1.1
      have g3 : M.1 47 3 = szG S := qM.2.2.1.1.2.2.2.1
      have tl := thB_le (H := H) (S := S) (k := x1) w
      have ti : (Int32.ofInt ((thB H S x1 w).2 : Int)).toInt = ((thB H S x1 w).2 : Int) := i32_n (by omega)
      have n := ih (w + 1)
      rw [thB_s] at n
      refine v_X1_bestThicker_61_47_20 ?_
      rw [ti, g3]
      refine ⟨fun q => by exfalso; omega, fun _ => ⟨fun g => v_X1_bestThicker_61_47_111 (hQ' _ M ?_ qM), fun le => Wp.deep (y_has h5 (by omega) (fun b => ⟨fun _ => v_X1_bestThicker_61_47_105 ?_, fun z => absurd z (by decide)⟩) (fun b => ⟨fun z => absurd rfl z, fun _ => Wp.deep (y_copy62 qM (fun M3 q3 z3 => ⟨by omega, by omega, ?_⟩)) (Nat.le_of_ble_eq_true rfl)⟩)) (Nat.le_of_ble_eq_true rfl)⟩⟩
      · rw [eA]
        have st := thB_st (H := H) (S := S) (k := x1) (w := w) (by omega) (hoW H - w)
        rw [show w + (hoW H - w) = hoW H by omega] at st
        rw [st]
      · rw [b, cond_true] at n
        exact n _ M (by omega) (d_inc h5 (by omega)) qM
      · rw [b, cond_false] at n
        have er : M3.1 63 w = szR S w := z3.2.1 w (by omega)
        rw [d_cn h5, er]
        have hT : zOk H (thR S x1 w) := thR_ok h0 h1 (by omega) hO
        have q4 : QC H S P L m (dSet M3 63 w (if szR S w + x1 < (99 : Int32) then szR S w + x1 else 99)) := q3.t62 ((TyF.rf 62 M3).set (by decide) (Or.inr rfl)) (q3.2.1.ty (n := 62) (by decide) (Or.inr rfl))
        refine ea_till q4 (T := thR S x1 w) z3.r hT (fun M5 q5 _ => ?_)
        have fl := fgo_le (H := H) 200 1 (thR S x1 w) rfl
        rw [i32_n (n := (fgo H 200 1 (thR S x1 w)).1) (by omega)]
        refine ⟨fun le2 => v_X1_bestThicker_61_47_105 ?_, fun l2 => v_X1_bestThicker_61_47_105 ?_⟩
        · rw [if_neg (by omega)] at n
          exact n _ M5 (by omega) (d_inc h5 (by omega)) q5
        · rw [if_pos (by omega), ofI h5] at n
          exact n _ M5 (by omega) (d_inc h5 (by omega)) q5
  exact v_X1_bestThicker_61_47 (Wp.deep (y_copy62 q0 (fun M q1 z1 => ea_till q1 z1 hO (fun M2 q2 _ => loop (hoW H) 0 _ M2 (by omega) (by decide) q2))) (Nat.le_of_ble_eq_true rfl))
theorem eb_thick {Q : Int32 → dM → Prop} (hK : KR H S P L s m) (hO : zOk H S) (hQ : ∀ m' : dM, RsF m m' → Q (aTck H S x1) m') : c_X12_thick_70 8 x1 m Q := by
  have w10 := hK.1.1.2.1
  have hQ' : ∀ (v : Int32) (m' : dM), aTck H S x1 = v → RsF m m' → Q v m' := fun v m' e q => by rw [← e]; exact hQ m' q
  have e1 := ti_1
  have e20 := ti_20
  have e99 := ti_99
  refine v_X12_thick_70 (Wp.deep (y_in (fun h => ⟨fun _ => e_still hK (RsF.rf m) (fun M f cy h57 => eb_fgo cy hO f h57 (Wl.rf S) (fun M2 f2 _ => ?_)), fun z => absurd z (by decide)⟩) (fun q => ⟨fun z => absurd rfl z, fun _ => hQ' _ m (by unfold aTck; rw [if_neg (by omega)]) (RsF.rf m)⟩)) (Nat.le_of_ble_eq_true rfl))
  have eA : aTck H S x1 = (thB H S x1 (hoW H)).1 := by unfold aTck; rw [if_pos (by omega)]
  have loop : ∀ (t w : Nat) (x4 : Int32) (M : dM), w + t = hoW H → x4.toInt = (w : Int) → RsF m M → j_X12_thick_70_27 8 x1 (Int32.ofInt ((thB H S x1 w).2 : Int)) (thB H S x1 w).1 x4 M Q := by
    intro t
    induction t with
    | zero =>
      intro w x4 M hw h4 fM
      have hKM := hK.rs fM
      have a := hKM.1.2.1.1
      have ew : w = hoW H := by omega
      refine v_X12_thick_70_27 ?_
      rw [d_cn a.1, hKM.1.2.1.2.2.1.1, a.1, ew]
      exact ⟨by omega, fun _ => hQ' _ M eA fM, fun q => by exfalso; omega⟩
    | succ t ih =>
      intro w x4 M hw h4 fM
      have hKM := hK.rs fM
      have a := hKM.1.2.1.1
      have e10 := d_add (k := x4) (K := w) (x := (10 : Int32)) (i := 10) (by decide) h4 (by omega)
      have tl := thB_le (H := H) (S := S) (k := x1) w
      have ti : (Int32.ofInt ((thB H S x1 w).2 : Int)).toInt = ((thB H S x1 w).2 : Int) := i32_n (by omega)
      have n := ih (w + 1)
      rw [thB_s] at n
      have zg := (hKM.2.1.2.1 w (by omega)).2.1
      have r9 := hO.2.2.2.2.2.1 w (by omega)
      refine v_X12_thick_70_27 ?_
      rw [d_cn a.1, hKM.1.2.1.2.2.1.1, a.1, d_cn e10, zg, ti]
      refine ⟨by omega, fun q => by exfalso; omega, fun _ => ⟨by omega, fun nb => ?_, fun bb => v_X12_thick_70_105 ?_⟩⟩
      · rw [bi_ne1 nb, cond_false] at n
        refine e_still hK fM (fun M1 f1 cy1 h57 => ⟨by omega, ?_⟩)
        rw [d_cn h4, (cy1.2.1.2.1 w (by omega)).1]
        have fa := dAddE (X := (szR S w).toInt) (Y := x1.toInt) (x := szR S w) (y := x1) rfl rfl (by omega) (by omega)
        have wi : ∀ Q' : Int32 → dM → Prop, Q' (if szR S w + x1 < (99 : Int32) then szR S w + x1 else 99) M1 → c_X12_within 7 (szR S w + x1) (1 : Int32) (99 : Int32) M1 Q' := fun Q' hq => by
          have lti : (szR S w + x1 < (99 : Int32)) ↔ (szR S w + x1).toInt < (99 : Int32).toInt := Int32.lt_iff_toInt_lt
          refine Wp.deep (d := 1) (v_X12_within ⟨fun q => ⟨fun q2 => ?_, fun q2 => ?_⟩, fun q => by exfalso; omega⟩) (Nat.le_of_ble_eq_true rfl)
          · by_cases l : szR S w + x1 < (99 : Int32)
            · rw [if_pos l] at hq; exact hq
            · rw [if_neg l] at hq
              have : szR S w + x1 = 99 := d_ce (by
                have : ¬ (szR S w + x1).toInt < (99 : Int32).toInt := fun y => l (lti.mpr y)
                omega)
              rw [this]; exact hq
          · rw [if_neg (fun l => by have := lti.mp l; omega)] at hq
            exact hq
        refine wi _ ⟨by omega, ?_⟩
        have hT : zOk H (thR S x1 w) := thR_ok (by omega) (by omega) (by omega) hO
        have c2 : CY H (thR S x1 w) s (dSet M1 108 w (if szR S w + x1 < (99 : Int32) then szR S w + x1 else 99)) := ⟨cy1.1.rs (RsF.rf M1).set, cy1.2.1.r hK.1.1 (by omega), cy1.2.2.of (dSet_k (by decide)) (dSet_k (by decide))⟩
        refine eb_fgo c2 hT f1.set (by rw [dSet_k (by decide)]; exact h57) (Wl.rf _) (fun M3 f3 _ => ?_)
        have fl := fgo_le (H := H) 200 1 (thR S x1 w) rfl
        rw [i32_n (n := (fgo H 200 1 (thR S x1 w)).1) (by omega)]
        refine ⟨fun l2 => v_X12_thick_70_105 ?_, fun le2 => v_X12_thick_70_105 ?_⟩
        · rw [if_pos (by omega), ofI h4] at n
          exact n _ M3 (by omega) (d_inc h4 (by omega)) f3
        · rw [if_neg (by omega)] at n
          exact n _ M3 (by omega) (d_inc h4 (by omega)) f3
      · rw [bi_eq1 bb, cond_true] at n
        exact n _ M (by omega) (d_inc h4 (by omega)) fM
  exact loop (hoW H) 0 _ M2 (by omega) (by decide) f2
end QTR
end
