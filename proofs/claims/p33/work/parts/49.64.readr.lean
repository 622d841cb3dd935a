/-! READ AND RESTORE OF BOTH, exactly as far as told, slots, place, flats go -/
section RDR
variable {m : dM} {Q : Int32 → dM → Prop}
def bT (m : dM) (c : Nat) (n : Int) : Nat → Int32 := fun i => if (i : Int) < n then (m.1 c i) &&& 255 else 0
def EC (K : Nat → Int) (V : Nat → Int64) (P : Nat → Nat) (m : dM) (r : Int32) (m' : dM) : Prop :=
  (∀ k : Nat, k = 71 ∨ k = 80 ∨ k = 115 ∨ k = 68 ∨ k = 69 ∨ k = 112 ∨ k = 113 → m'.1 k = m.1 k) ∧ (∀ j : Nat, j = 2 ∨ j = 17 ∨ j = 18 ∨ j = 63 → m'.1 70 j = m.1 70 j) ∧ (m'.1 0 1).toInt = 0 ∧ r.toInt = ((rdR K V).1.1 : Int) ∧ (m'.1 0 2).toInt = (if (rdR K V).1.1 = 0 then -1 else ((P (rdR K V).1.2 : Nat) : Int)) ∧ ((rdR K V).1.1 = 0 → (m'.1 2 0).toInt = ((rdR K V).2.1.length : Int) ∧ m'.1 51 4 = 0 ∧ m'.1 67 3 = 0) ∧ ((rdR K V).1.1 ≠ 0 → m'.1 2 0 = m.1 2 0 ∧ m'.1 51 4 = m.1 51 4 ∧ m'.1 67 3 = m.1 67 3)
def ER (K : Nat → Int) (V : Nat → Int64) (P : Nat → Nat) (m : dM) (r : Int32) (m' : dM) : Prop :=
  (m'.1 0 1 = m.1 0 1 ∧ m'.1 0 2 = m.1 0 2 ∧ m'.1 2 0 = m.1 2 0 ∧ m'.1 51 4 = m.1 51 4 ∧ m'.1 67 3 = m.1 67 3) ∧ (m'.1 70 2).toInt = 0 ∧ r.toInt = ((rdR K V).1.1 : Int) ∧ (m'.1 70 17).toInt = (if (rdR K V).1.1 = 0 then -1 else ((P (rdR K V).1.2 : Nat) : Int)) ∧ ((rdR K V).1.1 = 0 → (m'.1 80 (m'.1 70 18).toNatClampNeg).toInt = ((rdR K V).2.1.length : Int) ∧ m'.1 70 63 = 0 ∧ ∀ j : Nat, j < 3 → m'.1 115 j = 0) ∧ ((rdR K V).1.1 ≠ 0 → m'.1 80 (m'.1 70 18).toNatClampNeg = m.1 80 (m.1 70 18).toNatClampNeg ∧ m'.1 70 63 = m.1 70 63 ∧ m'.1 115 = m.1 115 ∧ m'.1 112 = m.1 112 ∧ m'.1 113 = m.1 113 ∧ m'.1 68 = m.1 68 ∧ m'.1 69 = m.1 69)
def E11r (m : dM) (r : Int32) (m' : dM) : Prop := EC (tK (bT m 1 (m.1 0 1).toInt) (m.1 0 1).toInt.toNat) (tV (bT m 1 (m.1 0 1).toInt) (m.1 0 1).toInt.toNat) (tP (bT m 1 (m.1 0 1).toInt) (m.1 0 1).toInt.toNat) m r m'
def E12r (m : dM) (r : Int32) (m' : dM) : Prop := ER (tK (bT m 71 (m.1 70 2).toInt) (m.1 70 2).toInt.toNat) (tV (bT m 71 (m.1 70 2).toInt) (m.1 70 2).toInt.toNat) (tP (bT m 71 (m.1 70 2).toInt) (m.1 70 2).toInt.toNat) m r m'
theorem z_X11_read (hO : Ok m) (hQ : ∀ (r : Int32) (m' : dM), Ok m' ∧ E11r m r m' → Q r m') : c_X11_read_0 70 m Q := by
  have b := hO.s (k := 0) (j := 1) rfl
  have hn : (m.1 0 1).toInt = ((m.1 0 1).toInt.toNat : Int) := by omega
  have hL : GL m := ⟨hO.w (k := 29) (j := 1) rfl, fun j => hO.w (k := 36) (j := j) rfl⟩
  have x := f_read (B := bT m 1 (m.1 0 1).toInt) (n := (m.1 0 1).toInt.toNat) (Q := fun r m' => RD (bT m 1 (m.1 0 1).toInt) (m.1 0 1).toInt.toNat r m m') hL hn (by omega) (fun i => by
    unfold bT
    by_cases q : (i : Int) < (m.1 0 1).toInt
    · rw [if_pos q, if_pos (by omega)]
    · rw [if_neg q, if_neg (by omega)]) (fun r m' h => h)
  have y := m_X11_read (Q := fun _ m' => Ok m') hO (fun r m' O a b => O)
  refine (y.and x).mono (fun v m1 h => ?_)
  obtain ⟨⟨r, er, O1⟩, m2, sm, r2, er2, D⟩ := h
  have e : r = r2 := by rw [er] at er2; cases er2; rfl
  obtain ⟨d1, d2, d3, d4, d5, d6⟩ := D
  have s01 : m1.1 0 1 = m2.1 0 1 := sm.fld (a := 11) rfl
  have s02 : m1.1 0 2 = m2.1 0 2 := sm.fld (a := 11) rfl
  have s20 : m1.1 2 0 = m2.1 2 0 := sm.fld (a := 3) rfl
  have s51 : m1.1 51 4 = m2.1 51 4 := sm.fld (a := 6) rfl
  have s67 : m1.1 67 3 = m2.1 67 3 := sm.fld (a := 9) rfl
  refine ⟨r, er, hQ r m1 ⟨O1, fun k hk => ?_, fun j hj => ?_, ?_, ?_, ?_, ?_, ?_⟩⟩
  · rcases hk with rfl | rfl | rfl | rfl | rfl | rfl | rfl
    · rw [sm.row (k := 71) rfl]; exact d1 71 (by decide)
    · rw [sm.row (k := 80) rfl]; exact d1 80 (by decide)
    · rw [sm.row (k := 115) rfl]; exact d1 115 (by decide)
    · rw [sm.row (k := 68) rfl]; exact d1 68 (by decide)
    · rw [sm.row (k := 69) rfl]; exact d1 69 (by decide)
    · rw [sm.row (k := 112) rfl]; exact d1 112 (by decide)
    · rw [sm.row (k := 113) rfl]; exact d1 113 (by decide)
  · have d70 := d1 70 (by decide)
    rcases hj with rfl | rfl | rfl | rfl
    · rw [sm.fld (k := 70) (a := 12) (j := 2) rfl, d70]
    · rw [sm.fld (k := 70) (a := 12) (j := 17) rfl, d70]
    · rw [sm.fld (k := 70) (a := 12) (j := 18) rfl, d70]
    · rw [sm.fld (k := 70) (a := 12) (j := 63) rfl, d70]
  · rw [s01, d2]; decide
  · rw [e]; exact d3
  · rw [s02]; exact d4
  · rw [s20, s51, s67]; exact d5
  · rw [s20, s51, s67]; exact d6
theorem z_X12_read (hO : Ok m) (hQ : ∀ (r : Int32) (m' : dM), Ok m' ∧ E12r m r m' → Q r m') : c_X12_read_70 9 m Q := by
  have b := hO.s (k := 70) (j := 2) rfl
  have b18 := hO.s (k := 70) (j := 18) rfl
  have hn : (m.1 70 2).toInt = ((m.1 70 2).toInt.toNat : Int) := by omega
  obtain ⟨L, s, hL, hL0⟩ : ∃ L s : Nat, L + s = 1 ∧ (m.1 70 18).toInt = (L : Int) := ⟨(m.1 70 18).toInt.toNat, 1 - (m.1 70 18).toInt.toNat, by omega, by omega⟩
  have x := e_read (B := bT m 71 (m.1 70 2).toInt) (n := (m.1 70 2).toInt.toNat) (Q := fun r m' => RE (tK (bT m 71 (m.1 70 2).toInt) (m.1 70 2).toInt.toNat) (tV (bT m 71 (m.1 70 2).toInt) (m.1 70 2).toInt.toNat) (tP (bT m 71 (m.1 70 2).toInt) (m.1 70 2).toInt.toNat) L s r m m') hL hL0 hn (by omega) (fun i => by
    unfold bT
    by_cases q : (i : Int) < (m.1 70 2).toInt
    · rw [if_pos q, if_pos (by omega)]
    · rw [if_neg q, if_neg (by omega)]) (fun r m' h => h)
  have y := m_X12_read (Q := fun _ m' => Ok m') hO (fun r m' O a b => O)
  refine (y.and x).mono (fun v m1 h => ?_)
  obtain ⟨⟨r, er, O1⟩, m2, sm, r2, er2, D⟩ := h
  have e : r = r2 := by rw [er] at er2; cases er2; rfl
  obtain ⟨d1, d2, d3, d4, d5, d6⟩ := D
  have s2 : m1.1 70 2 = m2.1 70 2 := sm.fld (a := 12) rfl
  have s17 : m1.1 70 17 = m2.1 70 17 := sm.fld (a := 12) rfl
  have s18 : m1.1 70 18 = m2.1 70 18 := sm.fld (a := 12) rfl
  have s63 : m1.1 70 63 = m2.1 70 63 := sm.fld (a := 12) rfl
  have s80 : m1.1 80 = m2.1 80 := sm.row (k := 80) rfl
  have s115 : m1.1 115 = m2.1 115 := sm.row (k := 115) rfl
  have s112 : m1.1 112 = m2.1 112 := sm.row (k := 112) rfl
  have s113 : m1.1 113 = m2.1 113 := sm.row (k := 113) rfl
  refine ⟨r, er, hQ r m1 ⟨O1, ⟨?_, ?_, ?_, ?_, ?_⟩, ?_, ?_, ?_, fun z => ?_, fun z => ?_⟩⟩
  · rw [sm.fld (k := 0) (a := 11) (j := 1) rfl, d1 0 (by decide)]
  · rw [sm.fld (k := 0) (a := 11) (j := 2) rfl, d1 0 (by decide)]
  · rw [sm.fld (k := 2) (a := 3) (j := 0) rfl, d1 2 (by decide)]
  · rw [sm.fld (k := 51) (a := 6) (j := 4) rfl, d1 51 (by decide)]
  · rw [sm.fld (k := 67) (a := 9) (j := 3) rfl, d1 67 (by decide)]
  · rw [s2, d2]; decide
  · rw [e]; exact d3
  · rw [s17]; exact d4
  · obtain ⟨a1, a2, a3, a4⟩ := d5 z
    rw [s18, s80, s63, s115, d_cn a1]
    exact ⟨a2, a3, a4⟩
  · obtain ⟨a1, a2, a3, a4⟩ := d6 z
    rw [s18, s80, s63, s115, s112, s113, a1, d_cn hL0]
    exact ⟨a2, a3, a4.1, a4.2.1, a4.2.2, by rw [sm.row (k := 68) rfl]; exact d1 68 (by decide), by rw [sm.row (k := 69) rfl]; exact d1 69 (by decide)⟩
theorem j_read {m1 m2 : dM} {r1 r2 : Int32} (hT : Rq m) (h1 : E11r m r1 m1) (h2 : E12r m1 r2 m2) : Rq m2 ∧ r1 = r2 := by
  obtain ⟨⟨e, hb'⟩, ⟨o1, o2, o3, o4⟩⟩ := hT
  unfold E11r at h1
  unfold E12r at h2
  have a2 : m1.1 70 2 = m.1 70 2 := h1.2.1 2 (by decide)
  have eB : bT m1 71 (m1.1 70 2).toInt = bT m 1 (m.1 0 1).toInt := by
    funext i
    unfold bT
    rw [a2, h1.1 71 (by decide), ← e]
    by_cases q : (i : Int) < (m.1 0 1).toInt
    · rw [if_pos q, if_pos q]; exact (hb' i q).symm
    · rw [if_neg q, if_neg q]
  rw [eB, a2, ← e] at h2
  generalize tK (bT m 1 (m.1 0 1).toInt) (m.1 0 1).toInt.toNat = K at h1 h2
  generalize tV (bT m 1 (m.1 0 1).toInt) (m.1 0 1).toInt.toNat = V at h1 h2
  generalize tP (bT m 1 (m.1 0 1).toInt) (m.1 0 1).toInt.toNat = P at h1 h2
  obtain ⟨a1, a70, a3, a4, a5, a6, a7⟩ := h1
  obtain ⟨⟨c1, c2, c3, c4, c5⟩, c6, c7, c8, c9, c10⟩ := h2
  refine ⟨⟨⟨by rw [c1, a3, c6], fun i hi => by rw [c1, a3] at hi; exfalso; omega⟩, ?_, ?_, ?_, ?_⟩, Int32.toInt_inj.mp (by rw [a4, c7])⟩
  · rw [c2, a5, c8]
  · rw [c5]
    by_cases z : (rdR K V).1.1 = 0
    · rw [(a6 z).2.2, (c9 z).2.1]
    · rw [(a7 z).2.2, (c10 z).2.1, a70 63 (by decide)]; exact o2
  · rw [c3]
    by_cases z : (rdR K V).1.1 = 0
    · rw [(a6 z).1, (c9 z).1]
    · rw [(a7 z).1, (c10 z).1, a1 80 (by decide), a70 18 (by decide)]; exact o3
  · intro i hi
    rw [c4]
    by_cases z : (rdR K V).1.1 = 0
    · rw [(a6 z).2.1, (c9 z).2.2 i hi]
      have : i = 0 ∨ i = 1 ∨ i = 2 := by omega
      refine ⟨fun w => ?_, fun w => absurd rfl w⟩
      exfalso
      unfold hb at w
      rcases this with rfl | rfl | rfl <;> exact w (by decide)
    · rw [(a7 z).2.1, (c10 z).2.2.1, a1 115 (by decide)]; exact o4 i hi
/-- restore -/
def E11s (x1 : Int32) (m : dM) (r : Int32) (m' : dM) : Prop := Kp m m' ∧ (((0 ≤ x1.toInt ∧ x1.toInt ≤ 2 ∧ hb (m.1 51 4) x1.toNatClampNeg) ∧ r = 1) ∨ (¬ (0 ≤ x1.toInt ∧ x1.toInt ≤ 2 ∧ hb (m.1 51 4) x1.toNatClampNeg) ∧ r = 0))
def E12s (x1 : Int32) (m : dM) (r : Int32) (m' : dM) : Prop := Kp m m' ∧ (((0 ≤ x1.toInt ∧ x1.toInt ≤ 2 ∧ (m.1 115 x1.toNatClampNeg).toInt ≠ 0) ∧ r = 1) ∨ (¬ (0 ≤ x1.toInt ∧ x1.toInt ≤ 2 ∧ (m.1 115 x1.toNatClampNeg).toInt ≠ 0) ∧ r = 0))
theorem z_X11_restore {x1 : Int32} (hO : Ok m) (hQ : ∀ (r : Int32) (m' : dM), Ok m' ∧ E11s x1 m r m' → Q r m') : c_X11_restore_0 3 x1 m Q := by
  have e3 : (3 : Int32).toInt = 3 := by decide
  have no : ¬ (0 ≤ x1.toInt ∧ x1.toInt ≤ 2 ∧ hb (m.1 51 4) x1.toNatClampNeg) → j_X6_fetch_51_47_20 2 m (fun r1 m1 => (r1 = 0 ∨ r1 = 1) ∧ Q r1 m1) := fun q => v_X6_fetch_51_47_20 ⟨Or.inl rfl, hQ _ _ ⟨hO, Kp.rf m, Or.inr ⟨q, rfl⟩⟩⟩
  refine v_X11_restore_0 (v_X6_fetch_51_47 ⟨fun q => no (by omega), fun q => ⟨fun q2 => no (by omega), fun q2 => ?_⟩⟩)
  obtain ⟨i, hi⟩ : ∃ i : Nat, x1.toInt = (i : Int) := ⟨x1.toInt.toNat, by omega⟩
  have ex : x1 = Int32.ofNat i := by
    apply d_ce
    rw [hi]
    have : i = 0 ∨ i = 1 ∨ i = 2 := by omega
    rcases this with rfl | rfl | rfl <;> decide
  have f := dMulE (X := x1.toInt) (Y := 33) (x := x1) (y := (33 : Int32)) rfl (by decide) (by omega) (by omega)
  have cn : x1.toNatClampNeg = i := d_cn hi
  have hbi : hb (m.1 51 4) x1.toNatClampNeg ↔ (((m.1 51 4).toUInt32 >>> (x1.toUInt32 &&& Int32.toUInt32 31)).toInt32 &&& (1 : Int32)).toInt ≠ 0 := by
    rw [cn, ex]
    exact Iff.rfl
  refine v_X11_has ⟨fun z => ⟨fun w => absurd rfl w, fun _ => no (fun w => hbi.mp w.2.2 z)⟩, fun z => ⟨fun _ => ?_, fun w => absurd w (by decide)⟩⟩
  refine s_X7_readFrom_47_53 hO.1 hO.2 (by omega) (fun m2 I2 => s_X6_clear_51 hO.1 I2 (fun m3 I3 => ⟨Or.inr rfl, hQ _ _ ⟨Ok.of hO.1 I3, Kp.of I3, Or.inl ⟨⟨q, by omega, hbi.mpr z⟩, rfl⟩⟩⟩))
theorem z_X12_restore {x1 : Int32} (hO : Ok m) (hQ : ∀ (r : Int32) (m' : dM), Ok m' ∧ E12s x1 m r m' → Q r m') : c_X12_restore_70 2 x1 m Q := by
  have e0 : (0 : Int32).toInt = 0 := by decide
  have e2 : (2 : Int32).toInt = 2 := by decide
  have x : c_X12_restore_70 2 x1 m (fun r _ => ((0 ≤ x1.toInt ∧ x1.toInt ≤ 2 ∧ (m.1 115 x1.toNatClampNeg).toInt ≠ 0) ∧ r = 1) ∨ (¬ (0 ≤ x1.toInt ∧ x1.toInt ≤ 2 ∧ (m.1 115 x1.toNatClampNeg).toInt ≠ 0) ∧ r = 0)) := by
    have no : ¬ (0 ≤ x1.toInt ∧ x1.toInt ≤ 2 ∧ (m.1 115 x1.toNatClampNeg).toInt ≠ 0) → j_X12_restore_70_18 2 m (fun r _ => ((0 ≤ x1.toInt ∧ x1.toInt ≤ 2 ∧ (m.1 115 x1.toNatClampNeg).toInt ≠ 0) ∧ r = 1) ∨ (¬ (0 ≤ x1.toInt ∧ x1.toInt ≤ 2 ∧ (m.1 115 x1.toNatClampNeg).toInt ≠ 0) ∧ r = 0)) := fun q => v_X12_restore_70_18 (Or.inr ⟨q, rfl⟩)
    have loop : (0 ≤ x1.toInt ∧ x1.toInt ≤ 2 ∧ (m.1 115 x1.toNatClampNeg).toInt ≠ 0) → ∀ (f i : Nat) (x2 : Int32) (M : dM), i + f = 58 → x2.toInt = (i : Int) → j_X12_restore_70_22 2 x1 x2 M (fun r _ => ((0 ≤ x1.toInt ∧ x1.toInt ≤ 2 ∧ (m.1 115 x1.toNatClampNeg).toInt ≠ 0) ∧ r = 1) ∨ (¬ (0 ≤ x1.toInt ∧ x1.toInt ≤ 2 ∧ (m.1 115 x1.toNatClampNeg).toInt ≠ 0) ∧ r = 0)) := by
      intro hq f
      induction f with
      | zero => intro i x2 M hi h2; exact v_X12_restore_70_22 ⟨fun _ => Or.inl ⟨hq, rfl⟩, fun q => by exfalso; omega⟩
      | succ f ih =>
        intro i x2 M hi h2
        have fm := dMulE (X := 58) (Y := x1.toInt) (x := (58 : Int32)) (y := x1) (by decide) rfl (by omega) (by omega)
        have fa := dAddE (X := 58 * x1.toInt) (Y := (i : Int)) (x := (58 : Int32) * x1) (y := x2) fm h2 (by omega) (by omega)
        exact v_X12_restore_70_22 ⟨fun q => by exfalso; omega, fun _ => ⟨by omega, by omega, ih (i + 1) _ _ (by omega) (d_inc h2 (by omega))⟩⟩
    refine v_X12_restore_70 (v_X12_in ⟨fun q => v_X12_in_14 ⟨fun _ => no (by omega), fun w => absurd rfl w⟩, fun q => ⟨fun q2 => v_X12_in_14 ⟨fun _ => no (by omega), fun w => absurd rfl w⟩, fun q2 => ⟨fun w => absurd w (by decide), fun _ => ⟨by omega, fun z => loop ⟨by omega, by omega, z⟩ 58 0 _ m rfl (by decide), fun z => no (fun w => w.2.2 z)⟩⟩⟩⟩)
  have y := s_X12_restore_70 (x1 := x1) (Q := fun _ m' => Inv m.1 m') hO.1 hO.2 (fun r m' I _ => I)
  refine (y.and x).mono (fun v m1 h => ?_)
  obtain ⟨⟨r, er, I⟩, m2, sm, r2, er2, D⟩ := h
  have e : r = r2 := by rw [er] at er2; cases er2; rfl
  refine ⟨r, er, hQ r m1 ⟨Ok.of hO.1 I, Kp.of I, ?_⟩⟩
  rw [e]; exact D
theorem j_restore {x1 : Int32} {m1 m2 : dM} {r1 r2 : Int32} (hT : Rq m) (h1 : E11s x1 m r1 m1) (h2 : E12s x1 m1 r2 m2) : Rq m2 ∧ r1 = r2 := by
  refine ⟨(hT.kp h1.1).kp h2.1, ?_⟩
  obtain ⟨k1, h1⟩ := h1
  obtain ⟨k2, h2⟩ := h2
  have o4 := hT.2.2.2.2
  rw [k1 115 _ rfl] at h2
  by_cases q : 0 ≤ x1.toInt ∧ x1.toInt ≤ 2
  · have cl : x1.toNatClampNeg < 3 := by
      have := d_cl (x := x1) q.1
      omega
    have o := o4 _ cl
    rcases h1 with ⟨a, b⟩ | ⟨a, b⟩ <;> rcases h2 with ⟨a2, b2⟩ | ⟨a2, b2⟩
    · rw [b, b2]
    · exact absurd ⟨q.1, q.2, o.mp a.2.2⟩ a2
    · exact absurd ⟨q.1, q.2, o.mpr a2.2.2⟩ a
    · rw [b, b2]
  · rcases h1 with ⟨a, b⟩ | ⟨a, b⟩
    · exact absurd ⟨a.1, a.2.1⟩ q
    · rcases h2 with ⟨a2, b2⟩ | ⟨a2, b2⟩
      · exact absurd ⟨a2.1, a2.2.1⟩ q
      · rw [b, b2]
/-- place -/
def E11p (m : dM) (r : Int32) (m' : dM) : Prop := r = m.1 0 2 ∧ m' = m
def E12p (m : dM) (r : Int32) (m' : dM) : Prop := r = m.1 70 17 ∧ m' = m
theorem z_X11_place (hO : Ok m) (hQ : ∀ (r : Int32) (m' : dM), Ok m' ∧ E11p m r m' → Q r m') : c_X11_place_0 1 m Q := v_X11_place_0 (hQ _ _ ⟨hO, rfl, rfl⟩)
theorem z_X12_place (hO : Ok m) (hQ : ∀ (r : Int32) (m' : dM), Ok m' ∧ E12p m r m' → Q r m') : c_X12_place_70 1 m Q := v_X12_place_70 (hQ _ _ ⟨hO, rfl, rfl⟩)
theorem j_place {m1 m2 : dM} {r1 r2 : Int32} (hT : Rq m) (h1 : E11p m r1 m1) (h2 : E12p m1 r2 m2) : Rq m2 ∧ r1 = r2 := by
  obtain ⟨a, rfl⟩ := h1
  obtain ⟨b, rfl⟩ := h2
  exact ⟨hT, by rw [a, b]; exact Int32.toInt_inj.mp hT.2.1⟩
end RDR
