/-! FEED AND READ OF BOTH, exactly as far as the tapes go -/
def cB (x : Int32) (k : Nat) : Int32 := ((x.toUInt32 >>> ((Int32.ofNat k).toUInt32 &&& Int32.toUInt32 31)).toInt32.toInt8.toInt32.toInt8.toInt32) &&& 255
def rB (x : Int32) (k : Nat) : Int32 := ((x >>> ((Int32.ofNat k) &&& 31)).toInt8.toInt32.toInt8.toInt32) &&& 255
theorem sh_lo (x : BitVec 32) (k : Nat) (hk : k ≤ 24) : (x >>> k) &&& 255#32 = (x.sshiftRight k) &&& 255#32 := by
  apply BitVec.eq_of_getLsbD_eq
  intro i hi
  rw [BitVec.getLsbD_and, BitVec.getLsbD_and]
  by_cases q : i < 8
  · rw [BitVec.getLsbD_ushiftRight, BitVec.getLsbD_sshiftRight]
    have h1 : k + i < 32 := by omega
    simp [h1, Nat.not_le.mpr hi]
  · have : (255#32).getLsbD i = false := by
      rw [BitVec.getLsbD_ofNat]
      have : Nat.testBit 255 i = false := Nat.testBit_lt_two_pow (Nat.lt_of_lt_of_le (by decide : 255 < 2 ^ 8) (Nat.pow_le_pow_right (by decide) (by omega)))
      rw [this, Bool.and_false]
    rw [this, Bool.and_false, Bool.and_false]
theorem cB_rB (x : Int32) (k : Nat) (hk : k = 0 ∨ k = 8 ∨ k = 16 ∨ k = 24) : cB x k = rB x k := by
  unfold cB rB
  rw [i8_and, i8_and, i8_and, i8_and]
  apply Int32.toBitVec_inj.mp
  have e : Int32.toBitVec 255 = 255#32 := by decide
  rw [Int32.toBitVec_and, Int32.toBitVec_and, e]
  have l : (x.toUInt32 >>> ((Int32.ofNat k).toUInt32 &&& Int32.toUInt32 31)).toInt32.toBitVec = x.toBitVec >>> k := by
    rcases hk with rfl | rfl | rfl | rfl <;> rfl
  have r : (x >>> ((Int32.ofNat k) &&& 31)).toBitVec = x.toBitVec.sshiftRight k := by
    rcases hk with rfl | rfl | rfl | rfl <;> rfl
  rw [l, r]
  exact sh_lo _ _ (by omega)
section FED
variable {m : dM}
/-- n more on the class's tape -/
theorem y_put11 {x1 : Int32} {Q : dM → Prop} : ∀ (n t : Nat) (x2 : Int32) (m : dM), x2.toInt = 8 * n - 8 → n ≤ 4 → (m.1 0 1).toInt = (t : Int) → t + n ≤ 2000 → Ok m → (∀ m' : dM, Ok m' → m'.1 70 2 = m.1 70 2 → m'.1 71 = m.1 71 → (m'.1 0 1).toInt = ((t + n : Nat) : Int) → (∀ j : Nat, j < t → m'.1 1 j = m.1 1 j) → (∀ i : Nat, i < n → (m'.1 1 (t + i)) &&& 255 = cB x1 (8 * (n - 1 - i))) → Q m') → j_X11_putBytes_0_3 1 x1 x2 m Q := by
  intro n
  induction n with
  | zero =>
    intro t x2 m hx hn ht h2000 hO hQ
    exact v_X11_putBytes_0_3 ⟨fun _ => v_X11_putBytes_0_46 (hQ m hO rfl rfl ht (fun _ _ => rfl) (fun i hi => by omega)), fun h => by exfalso; omega⟩
  | succ n ih =>
    intro t x2 m hx hn ht h2000 hO hQ
    have e2 : x2 = Int32.ofNat (8 * n) := by
      apply d_ce
      rw [hx]
      have : n = 0 ∨ n = 1 ∨ n = 2 ∨ n = 3 := by omega
      rcases this with rfl | rfl | rfl | rfl <;> decide
    have f := dAddE (X := x2.toInt) (Y := -8) (x := x2) (y := (-8 : Int32)) rfl (by decide) (by omega) (by omega)
    refine v_X11_putBytes_0_3 ⟨fun h => by exfalso; omega, fun h => ⟨fun _ => by exfalso; omega, fun h2 => ⟨by omega, ?_⟩⟩⟩
    rw [d_cn ht]
    have f2 := d_inc ht (by omega)
    refine ih (t + 1) _ _ (by omega) (by omega) (by rw [dSet_s]; exact f2) (by omega) (Ok.set1 (lo := 0) (hi := 2000) (Ok.gen0 hO (by decide) rfl rfl) (Or.inl rfl) rfl rfl (by omega) (by omega)) (fun m' a b c d e g => hQ m' a ?_ ?_ (by rw [d]; omega) (fun j hj => ?_) (fun i hi => ?_))
    · rw [b, dSet_k (by decide), dSet_k (by decide)]
    · rw [c, dSet_k (by decide), dSet_k (by decide)]
    · rw [e j (by omega), dSet_k (by decide), dSet_j (by omega)]
    · by_cases q : i = 0
      · rw [q]
        show (m'.1 1 t) &&& 255 = _
        rw [e t (by omega), dSet_k (by decide), dSet_s, e2]
        rfl
      · have := g (i - 1) (by omega)
        rw [show t + 1 + (i - 1) = t + i by omega] at this
        rw [this, show n - 1 - (i - 1) = n + 1 - 1 - i by omega]
theorem y_put12 {x1 : Int32} {Q : dM → Prop} : ∀ (n t : Nat) (x2 : Int32) (m : dM), x2.toInt = 8 * n - 8 → n ≤ 4 → (m.1 70 2).toInt = (t : Int) → t + n ≤ 2000 → Ok m → (∀ m' : dM, Ok m' → m'.1 0 1 = m.1 0 1 → m'.1 1 = m.1 1 → (m'.1 70 2).toInt = ((t + n : Nat) : Int) → (∀ j : Nat, j < t → m'.1 71 j = m.1 71 j) → (∀ i : Nat, i < n → (m'.1 71 (t + i)) &&& 255 = rB x1 (8 * (n - 1 - i))) → Q m') → j_X12_put_70_3 1 x1 x2 m Q := by
  intro n
  induction n with
  | zero =>
    intro t x2 m hx hn ht h2000 hO hQ
    exact v_X12_put_70_3 ⟨fun _ => hQ m hO rfl rfl ht (fun _ _ => rfl) (fun i hi => by omega), fun h => by exfalso; omega⟩
  | succ n ih =>
    intro t x2 m hx hn ht h2000 hO hQ
    have e2 : x2 = Int32.ofNat (8 * n) := by
      apply d_ce
      rw [hx]
      have : n = 0 ∨ n = 1 ∨ n = 2 ∨ n = 3 := by omega
      rcases this with rfl | rfl | rfl | rfl <;> decide
    have f := dAddE (X := x2.toInt) (Y := -8) (x := x2) (y := (-8 : Int32)) rfl (by decide) (by omega) (by omega)
    refine v_X12_put_70_3 ⟨fun h => by exfalso; omega, fun h => ⟨by omega, ?_⟩⟩
    rw [d_cn ht]
    have f2 := d_inc ht (by omega)
    refine ih (t + 1) _ _ (by omega) (by omega) (by rw [dSet_s]; exact f2) (by omega) (Ok.set70 (Ok.gen0 hO (by decide) rfl rfl) (by decide) (fun lo hi h => ?_)) (fun m' a b c d e g => hQ m' a ?_ ?_ (by rw [d]; omega) (fun j hj => ?_) (fun i hi => ?_))
    · rcases h with h | h
      · cases h
      · cases h; omega
    · rw [b, dSet_k (by decide), dSet_k (by decide)]
    · rw [c, dSet_k (by decide), dSet_k (by decide)]
    · rw [e j (by omega), dSet_k (by decide), dSet_j (by omega)]
    · by_cases q : i = 0
      · rw [q]
        show (m'.1 71 t) &&& 255 = _
        rw [e t (by omega), dSet_k (by decide), dSet_s, e2]
        rfl
      · have := g (i - 1) (by omega)
        rw [show t + 1 + (i - 1) = t + i by omega] at this
        rw [this, show n - 1 - (i - 1) = n + 1 - 1 - i by omega]
def x5 (x1 x2 x3 x4 x5 : Int32) : Nat → Int32
  | 0 => x1
  | 1 => x2
  | 2 => x3
  | 3 => x4
  | _ => x5
/-- q words fed to the class -/
def Y11 (xs : Nat → Int32) (t : Nat) (m : dM) (q : Nat) (m' : dM) : Prop := Ok m' ∧ m'.1 70 2 = m.1 70 2 ∧ m'.1 71 = m.1 71 ∧ (m'.1 0 1).toInt = ((t + 4 * q : Nat) : Int) ∧ (∀ j : Nat, j < t → m'.1 1 j = m.1 1 j) ∧ (∀ i : Nat, i < 4 * q → (m'.1 1 (t + i)) &&& 255 = cB (xs (i / 4)) (8 * (3 - i % 4)))
def Y12 (xs : Nat → Int32) (t : Nat) (m : dM) (q : Nat) (m' : dM) : Prop := Ok m' ∧ m'.1 0 1 = m.1 0 1 ∧ m'.1 1 = m.1 1 ∧ (m'.1 70 2).toInt = ((t + 4 * q : Nat) : Int) ∧ (∀ j : Nat, j < t → m'.1 71 j = m.1 71 j) ∧ (∀ i : Nat, i < 4 * q → (m'.1 71 (t + i)) &&& 255 = rB (xs (i / 4)) (8 * (3 - i % 4)))
theorem Y11.go {xs : Nat → Int32} {t q : Nat} {m1 : dM} {Q : dM → Prop} (h : Y11 xs t m q m1) (hb : t + 20 ≤ 2000) (hq : q < 5) (hQ : ∀ m', Y11 xs t m (q + 1) m' → Q m') : c_X11_putBytes_0 1 (xs q) m1 Q := by
  obtain ⟨a, b, c, d, e, g⟩ := h
  refine v_X11_putBytes_0 (y_put11 4 (t + 4 * q) _ m1 (by decide) (by omega) d (by omega) a (fun m' a' b' c' d' e' g' => hQ m' ⟨a', b'.trans b, c'.trans c, by rw [d']; omega, fun j hj => by rw [e' j (by omega)]; exact e j hj, fun i hi => ?_⟩))
  by_cases w : i < 4 * q
  · rw [e' (t + i) (by omega)]; exact g i w
  · have := g' (i - 4 * q) (by omega)
    rw [show t + 4 * q + (i - 4 * q) = t + i by omega] at this
    rw [this, show i / 4 = q by omega, show 4 - 1 - (i - 4 * q) = 3 - i % 4 by omega]
theorem Y12.go {xs : Nat → Int32} {t q : Nat} {m1 : dM} {Q : dM → Prop} (h : Y12 xs t m q m1) (hb : t + 20 ≤ 2000) (hq : q < 5) (hQ : ∀ m', Y12 xs t m (q + 1) m' → Q m') : c_X12_put_70 1 (xs q) m1 Q := by
  obtain ⟨a, b, c, d, e, g⟩ := h
  refine v_X12_put_70 (y_put12 4 (t + 4 * q) _ m1 (by decide) (by omega) d (by omega) a (fun m' a' b' c' d' e' g' => hQ m' ⟨a', b'.trans b, c'.trans c, by rw [d']; omega, fun j hj => by rw [e' j (by omega)]; exact e j hj, fun i hi => ?_⟩))
  by_cases w : i < 4 * q
  · rw [e' (t + i) (by omega)]; exact g i w
  · have := g' (i - 4 * q) (by omega)
    rw [show t + 4 * q + (i - 4 * q) = t + i by omega] at this
    rw [this, show i / 4 = q by omega, show 4 - 1 - (i - 4 * q) = 3 - i % 4 by omega]
/-- the class's feed, and the reference's -/
def E11f (xs : Nat → Int32) (m : dM) (r : Int32) (m' : dM) : Prop := ((m.1 0 1).toInt + 20 ≤ 2000 ∧ ∃ t : Nat, (m.1 0 1).toInt = (t : Int) ∧ r.toInt = (t : Int) + 20 ∧ Y11 xs t m 5 m') ∨ (2000 < (m.1 0 1).toInt + 20 ∧ r.toInt = -1 ∧ Tp m m')
def E12f (xs : Nat → Int32) (m : dM) (r : Int32) (m' : dM) : Prop := ((m.1 70 2).toInt + 20 ≤ 2000 ∧ ∃ t : Nat, (m.1 70 2).toInt = (t : Int) ∧ r.toInt = (t : Int) + 20 ∧ Y12 xs t m 5 m') ∨ (2000 < (m.1 70 2).toInt + 20 ∧ r.toInt = -1 ∧ Tp m m')
theorem b_X11_feed {x1 x2 x3 x4 x5' : Int32} {Q : Int32 → dM → Prop} (hO : Ok m) (hQ : ∀ (r : Int32) (m' : dM), Ok m' ∧ E11f (x5 x1 x2 x3 x4 x5') m r m' → Q r m') : c_X11_feed_0 2 x1 x2 x3 x4 x5' m Q := by
  have b := hO.s (k := 0) (j := 1) rfl
  obtain ⟨t, ht⟩ : ∃ t : Nat, (m.1 0 1).toInt = (t : Int) := ⟨(m.1 0 1).toInt.toNat, by omega⟩
  have f := dAddE (X := (t : Int)) (Y := 20) (x := m.1 0 1) (y := (20 : Int32)) ht (by decide) (by omega) (by omega)
  refine v_X11_feed_0 ⟨fun q => ?_, fun q => hQ _ _ ⟨hO, Or.inr ⟨by omega, by decide, Tp.rf m⟩⟩⟩
  have Y0 : Y11 (x5 x1 x2 x3 x4 x5') t m 0 m := ⟨hO, rfl, rfl, by rw [ht]; omega, fun _ _ => rfl, fun i hi => by omega⟩
  exact Y0.go (by omega) (by decide) (fun m1 Y1 => Y1.go (by omega) (by decide) (fun m2 Y2 => Y2.go (by omega) (by decide) (fun m3 Y3 => Y3.go (by omega) (by decide) (fun m4 Y4 => Y4.go (by omega) (by decide) (fun m5 Y5 => hQ _ _ ⟨Y5.1, Or.inl ⟨by omega, t, ht, by rw [Y5.2.2.2.1]; omega, Y5⟩⟩)))))
theorem b_X12_feed {x1 x2 x3 x4 x5' : Int32} {Q : Int32 → dM → Prop} (hO : Ok m) (hQ : ∀ (r : Int32) (m' : dM), Ok m' ∧ E12f (x5 x1 x2 x3 x4 x5') m r m' → Q r m') : c_X12_feed_70 2 x1 x2 x3 x4 x5' m Q := by
  have b := hO.s (k := 70) (j := 2) rfl
  obtain ⟨t, ht⟩ : ∃ t : Nat, (m.1 70 2).toInt = (t : Int) := ⟨(m.1 70 2).toInt.toNat, by omega⟩
  have f := dAddE (X := (t : Int)) (Y := 20) (x := m.1 70 2) (y := (20 : Int32)) ht (by decide) (by omega) (by omega)
  refine v_X12_feed_70 ⟨fun q => ?_, fun q => hQ _ _ ⟨hO, Or.inr ⟨by omega, by decide, Tp.rf m⟩⟩⟩
  have Y0 : Y12 (x5 x1 x2 x3 x4 x5') t m 0 m := ⟨hO, rfl, rfl, by rw [ht]; omega, fun _ _ => rfl, fun i hi => by omega⟩
  exact Y0.go (by omega) (by decide) (fun m1 Y1 => Y1.go (by omega) (by decide) (fun m2 Y2 => Y2.go (by omega) (by decide) (fun m3 Y3 => Y3.go (by omega) (by decide) (fun m4 Y4 => Y4.go (by omega) (by decide) (fun m5 Y5 => hQ _ _ ⟨Y5.1, Or.inl ⟨by omega, t, ht, by rw [Y5.2.2.2.1]; omega, Y5⟩⟩)))))
theorem j_feed {xs : Nat → Int32} {m1 m2 : dM} {r1 r2 : Int32} (hT : Tq m) (h1 : E11f xs m r1 m1) (h2 : E12f xs m1 r2 m2) : Tq m2 ∧ r1 = r2 := by
  obtain ⟨e, hb⟩ := hT
  rcases h1 with ⟨a, t, b, c, Y⟩ | ⟨a, b, T⟩
  · obtain ⟨O, y1, y2, y3, y4, y5⟩ := Y
    rcases h2 with ⟨a2, t2, b2, c2, O2, z1, z2, z3, z4, z5⟩ | ⟨a2, -⟩
    · rw [y1] at b2
      have et : t2 = t := by omega
      subst et
      refine ⟨⟨by rw [z1, y3, z3], fun i hi => ?_⟩, Int32.toInt_inj.mp (by omega)⟩
      rw [z1, y3] at hi
      rw [z2]
      by_cases q : i < t2
      · rw [y4 i q, z4 i q, y2]
        exact hb i (by omega)
      · have u := y5 (i - t2) (by omega)
        have v := z5 (i - t2) (by omega)
        rw [show t2 + (i - t2) = i by omega] at u v
        rw [u, v]
        exact cB_rB _ _ (by omega)
    · rw [y1] at a2; exfalso; omega
  · rcases h2 with ⟨a2, -⟩ | ⟨a2, b2, T2⟩
    · rw [T.2.1] at a2; exfalso; omega
    · exact ⟨(Tq.tp (Tq.tp ⟨e, hb⟩ T) T2), Int32.toInt_inj.mp (by omega)⟩
/-- back -/
def E11b (x1 : Int32) (m : dM) (r : Int32) (m' : dM) : Prop := m'.1 70 2 = m.1 70 2 ∧ m'.1 1 = m.1 1 ∧ m'.1 71 = m.1 71 ∧ (((0 ≤ x1.toInt ∧ x1.toInt ≤ (m.1 0 1).toInt) ∧ r.toInt = (m.1 0 1).toInt - x1.toInt ∧ (m'.1 0 1).toInt = (m.1 0 1).toInt - x1.toInt) ∨ (¬ (0 ≤ x1.toInt ∧ x1.toInt ≤ (m.1 0 1).toInt) ∧ r.toInt = -1 ∧ m'.1 0 1 = m.1 0 1))
def E12b (x1 : Int32) (m : dM) (r : Int32) (m' : dM) : Prop := m'.1 0 1 = m.1 0 1 ∧ m'.1 1 = m.1 1 ∧ m'.1 71 = m.1 71 ∧ (((0 ≤ x1.toInt ∧ x1.toInt ≤ (m.1 70 2).toInt) ∧ r.toInt = (m.1 70 2).toInt - x1.toInt ∧ (m'.1 70 2).toInt = (m.1 70 2).toInt - x1.toInt) ∨ (¬ (0 ≤ x1.toInt ∧ x1.toInt ≤ (m.1 70 2).toInt) ∧ r.toInt = -1 ∧ m'.1 70 2 = m.1 70 2))
theorem b_X11_back {x1 : Int32} {Q : Int32 → dM → Prop} (hO : Ok m) (hQ : ∀ (r : Int32) (m' : dM), Ok m' ∧ E11b x1 m r m' → Q r m') : c_X11_back_0 1 x1 m Q := by
  have b := hO.s (k := 0) (j := 1) rfl
  have no : ¬ (0 ≤ x1.toInt ∧ x1.toInt ≤ (m.1 0 1).toInt) → j_X11_back_0_12 1 m Q := fun q => v_X11_back_0_12 (hQ _ _ ⟨hO, rfl, rfl, rfl, Or.inr ⟨q, by decide, rfl⟩⟩)
  refine v_X11_back_0 ⟨fun q => no (by omega), fun q => ⟨fun q2 => ?_, fun q2 => no (by omega)⟩⟩
  have f := dSubE (X := (m.1 0 1).toInt) (Y := x1.toInt) (x := m.1 0 1) (y := x1) rfl rfl (by omega) (by omega)
  exact hQ _ _ ⟨Ok.set1 (lo := 0) (hi := 2000) hO (Or.inl rfl) rfl rfl (by omega) (by omega), rfl, rfl, rfl, Or.inl ⟨⟨q, q2⟩, f, f⟩⟩
theorem b_X12_back {x1 : Int32} {Q : Int32 → dM → Prop} (hO : Ok m) (hQ : ∀ (r : Int32) (m' : dM), Ok m' ∧ E12b x1 m r m' → Q r m') : c_X12_back_70 1 x1 m Q := by
  have b := hO.s (k := 70) (j := 2) rfl
  have no : ¬ (0 ≤ x1.toInt ∧ x1.toInt ≤ (m.1 70 2).toInt) → j_X12_back_70_12 1 m Q := fun q => v_X12_back_70_12 (hQ _ _ ⟨hO, rfl, rfl, rfl, Or.inr ⟨q, by decide, rfl⟩⟩)
  refine v_X12_back_70 ⟨fun q => no (by omega), fun q => ⟨fun q2 => ?_, fun q2 => no (by omega)⟩⟩
  have f := dSubE (X := (m.1 70 2).toInt) (Y := x1.toInt) (x := m.1 70 2) (y := x1) rfl rfl (by omega) (by omega)
  refine hQ _ _ ⟨Ok.set70 hO (by decide) (fun lo hi h => ?_), rfl, rfl, rfl, Or.inl ⟨⟨q, q2⟩, f, f⟩⟩
  rcases h with h | h
  · cases h
  · cases h; omega
theorem j_back {x1 : Int32} {m1 m2 : dM} {r1 r2 : Int32} (hT : Tq m) (h1 : E11b x1 m r1 m1) (h2 : E12b x1 m1 r2 m2) : Tq m2 ∧ r1 = r2 := by
  obtain ⟨e, hb⟩ := hT
  obtain ⟨a1, a2, a3, a4⟩ := h1
  obtain ⟨c1, c2, c3, c4⟩ := h2
  rw [a1] at c4
  have k : (m2.1 0 1).toInt = (m1.1 0 1).toInt := by rw [c1]
  have d1 : (m1.1 0 1 = m.1 0 1) → (m1.1 0 1).toInt = (m.1 0 1).toInt := fun q => by rw [q]
  have d2 : (m2.1 70 2 = m.1 70 2) → (m2.1 70 2).toInt = (m.1 70 2).toInt := fun q => by rw [q]
  have h : (m2.1 0 1).toInt = (m2.1 70 2).toInt ∧ r1.toInt = r2.toInt ∧ (m2.1 0 1).toInt ≤ (m.1 0 1).toInt := by
    rcases a4 with ⟨u, v, w⟩ | ⟨u, v, w⟩ <;> rcases c4 with ⟨u2, v2, w2⟩ | ⟨u2, v2, w2⟩
    · omega
    · exfalso; omega
    · exfalso; omega
    · have := d1 w; have := d2 w2; omega
  refine ⟨⟨h.1, fun i hi => ?_⟩, Int32.toInt_inj.mp h.2.1⟩
  rw [c2, c3, a2, a3]
  exact hb i (by omega)
/-- read -/
def bT (m : dM) (c : Nat) (n : Int) : Nat → Int32 := fun i => if (i : Int) < n then (m.1 c i) &&& 255 else 0
def E11r (m : dM) (r : Int32) (m' : dM) : Prop := (m'.1 0 1).toInt = 0 ∧ m'.1 70 2 = m.1 70 2 ∧ m'.1 71 = m.1 71 ∧ r.toInt = ((rdR (tK (bT m 1 (m.1 0 1).toInt) (m.1 0 1).toInt.toNat) (tV (bT m 1 (m.1 0 1).toInt) (m.1 0 1).toInt.toNat)).1.1 : Int)
def E12r (m : dM) (r : Int32) (m' : dM) : Prop := (m'.1 70 2).toInt = 0 ∧ m'.1 0 1 = m.1 0 1 ∧ r.toInt = ((rdR (tK (bT m 71 (m.1 70 2).toInt) (m.1 70 2).toInt.toNat) (tV (bT m 71 (m.1 70 2).toInt) (m.1 70 2).toInt.toNat)).1.1 : Int)
theorem b_X11_read {Q : Int32 → dM → Prop} (hO : Ok m) (hQ : ∀ (r : Int32) (m' : dM), Ok m' ∧ E11r m r m' → Q r m') : c_X11_read_0 70 m Q := by
  have b := hO.s (k := 0) (j := 1) rfl
  have hn : (m.1 0 1).toInt = ((m.1 0 1).toInt.toNat : Int) := by omega
  have hL : GL m := ⟨hO.w (k := 29) (j := 1) rfl, fun j => hO.w (k := 36) (j := j) rfl⟩
  have x := f_read (B := bT m 1 (m.1 0 1).toInt) (n := (m.1 0 1).toInt.toNat) (Q := fun r m' => RD (bT m 1 (m.1 0 1).toInt) (m.1 0 1).toInt.toNat r m m') hL hn (by omega) (fun i => by
    unfold bT
    by_cases q : (i : Int) < (m.1 0 1).toInt
    · rw [if_pos q, if_pos (by omega)]
    · rw [if_neg q, if_neg (by omega)]) (fun r m' h => h)
  have y := m_X11_read (Q := fun _ m' => Ok m' ∧ (m'.1 0 1).toInt = 0 ∧ m'.1 70 2 = m.1 70 2) hO (fun r m' O a b => ⟨O, a, b⟩)
  refine (y.and x).mono (fun v m1 h => ?_)
  obtain ⟨⟨r, er, O1, a1, b1⟩, m2, sm, r2, er2, D⟩ := h
  have e : r = r2 := by rw [er] at er2; cases er2; rfl
  refine ⟨r, er, hQ r m1 ⟨O1, a1, b1, ?_, ?_⟩⟩
  · rw [sm.row (k := 71) rfl]; exact D.1 71 (by decide)
  · rw [e]; exact D.2.2.1
theorem b_X12_read {Q : Int32 → dM → Prop} (hO : Ok m) (hQ : ∀ (r : Int32) (m' : dM), Ok m' ∧ E12r m r m' → Q r m') : c_X12_read_70 9 m Q := by
  have b := hO.s (k := 70) (j := 2) rfl
  have b18 := hO.s (k := 70) (j := 18) rfl
  have hn : (m.1 70 2).toInt = ((m.1 70 2).toInt.toNat : Int) := by omega
  obtain ⟨L, s, hL, hL0⟩ : ∃ L s : Nat, L + s = 1 ∧ (m.1 70 18).toInt = (L : Int) := ⟨(m.1 70 18).toInt.toNat, 1 - (m.1 70 18).toInt.toNat, by omega, by omega⟩
  have x := e_read (B := bT m 71 (m.1 70 2).toInt) (n := (m.1 70 2).toInt.toNat) (Q := fun r m' => RE (tK (bT m 71 (m.1 70 2).toInt) (m.1 70 2).toInt.toNat) (tV (bT m 71 (m.1 70 2).toInt) (m.1 70 2).toInt.toNat) (tP (bT m 71 (m.1 70 2).toInt) (m.1 70 2).toInt.toNat) L s r m m') hL hL0 hn (by omega) (fun i => by
    unfold bT
    by_cases q : (i : Int) < (m.1 70 2).toInt
    · rw [if_pos q, if_pos (by omega)]
    · rw [if_neg q, if_neg (by omega)]) (fun r m' h => h)
  have y := m_X12_read (Q := fun _ m' => Ok m' ∧ (m'.1 70 2).toInt = 0 ∧ m'.1 0 1 = m.1 0 1) hO (fun r m' O a b => ⟨O, a, b⟩)
  refine (y.and x).mono (fun v m1 h => ?_)
  obtain ⟨⟨r, er, O1, a1, b1⟩, m2, sm, r2, er2, D⟩ := h
  have e : r = r2 := by rw [er] at er2; cases er2; rfl
  refine ⟨r, er, hQ r m1 ⟨O1, a1, b1, ?_⟩⟩
  rw [e]; exact D.2.2.1
theorem j_read {m1 m2 : dM} {r1 r2 : Int32} (hT : Tq m) (h1 : E11r m r1 m1) (h2 : E12r m1 r2 m2) : Tq m2 ∧ r1 = r2 := by
  obtain ⟨e, hb⟩ := hT
  obtain ⟨a1, a2, a3, a4⟩ := h1
  obtain ⟨c1, c2, c3⟩ := h2
  have eB : bT m1 71 (m1.1 70 2).toInt = bT m 1 (m.1 0 1).toInt := by
    funext i
    unfold bT
    rw [a2, a3, ← e]
    by_cases q : (i : Int) < (m.1 0 1).toInt
    · rw [if_pos q, if_pos q]; exact (hb i q).symm
    · rw [if_neg q, if_neg q]
  refine ⟨⟨by rw [c2, a1, c1], fun i hi => by rw [c2, a1] at hi; exfalso; omega⟩, Int32.toInt_inj.mp ?_⟩
  rw [a4, c3, eB, a2, ← e]
end FED
