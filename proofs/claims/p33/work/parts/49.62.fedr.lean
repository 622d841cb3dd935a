/-! FEED AND READ OF BOTH, exactly as far as the tapes go -/
def cB (x : Int32) (k : Nat) : Int32 := ((x.toUInt32 >>> ((Int32.ofNat k).toUInt32 &&& Int32.toUInt32 31)).toInt32.toInt8.toInt32.toInt8.toInt32) &&& 255
def rB (x : Int32) (k : Nat) : Int32 := ((x >>> ((Int32.ofNat k) &&& 31)).toInt8.toInt32.toInt8.toInt32) &&& 255
theorem sh_lo (x : BitVec 32) (k : Nat) (hk : k ≤ 24) : (x >>> k) &&& 255#32 = (x.sshiftRight k) &&& 255#32 := by
  apply BitVec.eq_of_getLsbD_eq
  intro i hi
  rw [BitVec.getLsbD_and, BitVec.getLsbD_and]
  by_cases q : i < 8
  · rw [BitVec.getLsbD_ushiftRight, BitVec.getLsbD_sshiftRight]
    have h1 : k + i < 32 := by omega
    simp [h1, Nat.not_le.mpr hi]
  · have : (255#32).getLsbD i = false := by
      rw [BitVec.getLsbD_ofNat]
      have : Nat.testBit 255 i = false := Nat.testBit_lt_two_pow (Nat.lt_of_lt_of_le (by decide : 255 < 2 ^ 8) (Nat.pow_le_pow_right (by decide) (by omega)))
      rw [this, Bool.and_false]
    rw [this, Bool.and_false, Bool.and_false]
theorem cB_rB (x : Int32) (k : Nat) (hk : k = 0 ∨ k = 8 ∨ k = 16 ∨ k = 24) : cB x k = rB x k := by
  unfold cB rB
  rw [i8_and, i8_and, i8_and, i8_and]
  apply Int32.toBitVec_inj.mp
  have e : Int32.toBitVec 255 = 255#32 := by decide
  rw [Int32.toBitVec_and, Int32.toBitVec_and, e]
  have l : (x.toUInt32 >>> ((Int32.ofNat k).toUInt32 &&& Int32.toUInt32 31)).toInt32.toBitVec = x.toBitVec >>> k := by
    rcases hk with rfl | rfl | rfl | rfl <;> rfl
  have r : (x >>> ((Int32.ofNat k) &&& 31)).toBitVec = x.toBitVec.sshiftRight k := by
    rcases hk with rfl | rfl | rfl | rfl <;> rfl
  rw [l, r]
  exact sh_lo _ _ (by omega)
/-! BOTH BETWEEN CALLS: tapes, place, told, slots, flats alike -/
def hb (x : Int32) (i : Nat) : Prop := ((x.toUInt32 >>> ((Int32.ofNat i).toUInt32 &&& Int32.toUInt32 31)).toInt32 &&& (1 : Int32)).toInt ≠ 0
theorem hb_bit (x : Int32) (j : Nat) (hj : j = 0 ∨ j = 1 ∨ j = 2) : hb x j ↔ x.toBitVec.getLsbD j = true := by
  unfold hb
  have l : ((x.toUInt32 >>> ((Int32.ofNat j).toUInt32 &&& Int32.toUInt32 31)).toInt32 &&& (1 : Int32)).toBitVec = (x.toBitVec >>> j) &&& 1#32 := by
    rcases hj with rfl | rfl | rfl <;> rfl
  show ((x.toUInt32 >>> ((Int32.ofNat j).toUInt32 &&& Int32.toUInt32 31)).toInt32 &&& (1 : Int32)).toBitVec.toInt ≠ 0 ↔ _
  rw [l, BitVec.and_one_eq_setWidth_ofBool_getLsbD, BitVec.getLsbD_ushiftRight, Nat.add_zero]
  cases x.toBitVec.getLsbD j with
  | false => decide
  | true => decide
theorem hb_or (x : Int32) (i j : Nat) (hi : i = 0 ∨ i = 1 ∨ i = 2) (hj : j = 0 ∨ j = 1 ∨ j = 2) : hb (x ||| ((1 : Int32) <<< (Int32.ofNat i &&& 31))) j ↔ (j = i ∨ hb x j) := by
  rw [hb_bit _ j hj, hb_bit _ j hj, Int32.toBitVec_or, BitVec.getLsbD_or, Bool.or_eq_true]
  have e : ((1 : Int32) <<< (Int32.ofNat i &&& 31)).toBitVec.getLsbD j = true ↔ j = i := by
    rcases hi with rfl | rfl | rfl <;> rcases hj with rfl | rfl | rfl <;> decide
  rw [e]
  exact Or.comm
def Ro (m : dM) : Prop := (m.1 0 2).toInt = (m.1 70 17).toInt ∧ (m.1 67 3).toInt = (m.1 70 63).toInt ∧ (m.1 2 0).toInt = (m.1 80 (m.1 70 18).toNatClampNeg).toInt ∧ ∀ i : Nat, i < 3 → (hb (m.1 51 4) i ↔ (m.1 115 i).toInt ≠ 0)
def Rq (m : dM) : Prop := Tq m ∧ Ro m
theorem Ro.of {m m' : dM} (h : Ro m) (a1 : m'.1 0 2 = m.1 0 2) (a2 : m'.1 67 3 = m.1 67 3) (a3 : m'.1 2 0 = m.1 2 0) (a4 : m'.1 51 4 = m.1 51 4) (a5 : m'.1 70 17 = m.1 70 17) (a6 : m'.1 70 63 = m.1 70 63) (a7 : m'.1 70 18 = m.1 70 18) (a8 : m'.1 80 = m.1 80) (a9 : m'.1 115 = m.1 115) : Ro m' := by
  unfold Ro
  rw [a1, a2, a3, a4, a5, a6, a7, a8, a9]
  exact h
theorem Ro.kp {m m' : dM} (h : Ro m) (hk : Kp m m') : Ro m' := h.of (hk 0 2 rfl) (hk 67 3 rfl) (hk 2 0 rfl) (hk 51 4 rfl) (hk 70 17 rfl) (hk 70 63 rfl) (hk 70 18 rfl) (funext fun j => hk 80 j rfl) (funext fun j => hk 115 j rfl)
theorem Rq.kp {m m' : dM} (h : Rq m) (hk : Kp m m') : Rq m' := ⟨h.1.tp (Tp.kp hk), h.2.kp hk⟩
def FR0 (m m' : dM) : Prop := ∀ k j : Nat, k ≠ 1 → ¬ (k = 0 ∧ j = 1) → m'.1 k j = m.1 k j
def FR70 (m m' : dM) : Prop := ∀ k j : Nat, k ≠ 71 → ¬ (k = 70 ∧ j = 2) → m'.1 k j = m.1 k j
theorem Ro.fr0 {m m' : dM} (h : Ro m) (hk : FR0 m m') : Ro m' := h.of (hk 0 2 (by decide) (by decide)) (hk 67 3 (by decide) (by decide)) (hk 2 0 (by decide) (by decide)) (hk 51 4 (by decide) (by decide)) (hk 70 17 (by decide) (by decide)) (hk 70 63 (by decide) (by decide)) (hk 70 18 (by decide) (by decide)) (funext fun j => hk 80 j (by decide) (by omega)) (funext fun j => hk 115 j (by decide) (by omega))
theorem Ro.fr70 {m m' : dM} (h : Ro m) (hk : FR70 m m') : Ro m' := h.of (hk 0 2 (by decide) (by decide)) (hk 67 3 (by decide) (by decide)) (hk 2 0 (by decide) (by decide)) (hk 51 4 (by decide) (by decide)) (hk 70 17 (by decide) (by decide)) (hk 70 63 (by decide) (by decide)) (hk 70 18 (by decide) (by decide)) (funext fun j => hk 80 j (by decide) (by omega)) (funext fun j => hk 115 j (by decide) (by omega))
section FED
variable {m : dM}
/-- n more on the class's tape -/
theorem y_put11 {x1 : Int32} {Q : dM → Prop} : ∀ (n t : Nat) (x2 : Int32) (m : dM), x2.toInt = 8 * n - 8 → n ≤ 4 → (m.1 0 1).toInt = (t : Int) → t + n ≤ 2000 → Ok m → (∀ m' : dM, Ok m' → FR0 m m' → (m'.1 0 1).toInt = ((t + n : Nat) : Int) → (∀ j : Nat, j < t → m'.1 1 j = m.1 1 j) → (∀ i : Nat, i < n → (m'.1 1 (t + i)) &&& 255 = cB x1 (8 * (n - 1 - i))) → Q m') → j_X11_putBytes_0_3 1 x1 x2 m Q := by
  intro n
  induction n with
  | zero =>
    intro t x2 m hx hn ht h2000 hO hQ
    exact v_X11_putBytes_0_3 ⟨fun _ => v_X11_putBytes_0_46 (hQ m hO (fun _ _ _ _ => rfl) ht (fun _ _ => rfl) (fun i hi => by omega)), fun h => by exfalso; omega⟩
  | succ n ih =>
    intro t x2 m hx hn ht h2000 hO hQ
    have e2 : x2 = Int32.ofNat (8 * n) := by
      apply d_ce
      rw [hx]
      have : n = 0 ∨ n = 1 ∨ n = 2 ∨ n = 3 := by omega
      rcases this with rfl | rfl | rfl | rfl <;> decide
    have f := dAddE (X := x2.toInt) (Y := -8) (x := x2) (y := (-8 : Int32)) rfl (by decide) (by omega) (by omega)
    refine v_X11_putBytes_0_3 ⟨fun h => by exfalso; omega, fun h => ⟨fun _ => by exfalso; omega, fun h2 => ⟨by omega, ?_⟩⟩⟩
    rw [d_cn ht]
    have f2 := d_inc ht (by omega)
    refine ih (t + 1) _ _ (by omega) (by omega) (by rw [dSet_s]; exact f2) (by omega) (Ok.set1 (lo := 0) (hi := 2000) (Ok.gen0 hO (by decide) rfl rfl) (Or.inl rfl) rfl rfl (by omega) (by omega)) (fun m' a b d e g => hQ m' a (fun k j h1 h2 => by rw [b k j h1 h2, dSet_e, if_neg h2, dSet_k h1]) (by rw [d]; omega) (fun j hj => ?_) (fun i hi => ?_))
    · rw [e j (by omega), dSet_k (by decide), dSet_j (by omega)]
    · by_cases q : i = 0
      · rw [q]
        show (m'.1 1 t) &&& 255 = _
        rw [e t (by omega), dSet_k (by decide), dSet_s, e2]
        rfl
      · have := g (i - 1) (by omega)
        rw [show t + 1 + (i - 1) = t + i by omega] at this
        rw [this, show n - 1 - (i - 1) = n + 1 - 1 - i by omega]
theorem y_put12 {x1 : Int32} {Q : dM → Prop} : ∀ (n t : Nat) (x2 : Int32) (m : dM), x2.toInt = 8 * n - 8 → n ≤ 4 → (m.1 70 2).toInt = (t : Int) → t + n ≤ 2000 → Ok m → (∀ m' : dM, Ok m' → FR70 m m' → (m'.1 70 2).toInt = ((t + n : Nat) : Int) → (∀ j : Nat, j < t → m'.1 71 j = m.1 71 j) → (∀ i : Nat, i < n → (m'.1 71 (t + i)) &&& 255 = rB x1 (8 * (n - 1 - i))) → Q m') → j_X12_put_70_3 1 x1 x2 m Q := by
  intro n
  induction n with
  | zero =>
    intro t x2 m hx hn ht h2000 hO hQ
    exact v_X12_put_70_3 ⟨fun _ => hQ m hO (fun _ _ _ _ => rfl) ht (fun _ _ => rfl) (fun i hi => by omega), fun h => by exfalso; omega⟩
  | succ n ih =>
    intro t x2 m hx hn ht h2000 hO hQ
    have e2 : x2 = Int32.ofNat (8 * n) := by
      apply d_ce
      rw [hx]
      have : n = 0 ∨ n = 1 ∨ n = 2 ∨ n = 3 := by omega
      rcases this with rfl | rfl | rfl | rfl <;> decide
    have f := dAddE (X := x2.toInt) (Y := -8) (x := x2) (y := (-8 : Int32)) rfl (by decide) (by omega) (by omega)
    refine v_X12_put_70_3 ⟨fun h => by exfalso; omega, fun h => ⟨by omega, ?_⟩⟩
    rw [d_cn ht]
    have f2 := d_inc ht (by omega)
    refine ih (t + 1) _ _ (by omega) (by omega) (by rw [dSet_s]; exact f2) (by omega) (Ok.set70 (Ok.gen0 hO (by decide) rfl rfl) (by decide) (fun lo hi h => ?_)) (fun m' a b d e g => hQ m' a (fun k j h1 h2 => by rw [b k j h1 h2, dSet_e, if_neg h2, dSet_k h1]) (by rw [d]; omega) (fun j hj => ?_) (fun i hi => ?_))
    · rcases h with h | h
      · cases h
      · cases h; omega
    · rw [e j (by omega), dSet_k (by decide), dSet_j (by omega)]
    · by_cases q : i = 0
      · rw [q]
        show (m'.1 71 t) &&& 255 = _
        rw [e t (by omega), dSet_k (by decide), dSet_s, e2]
        rfl
      · have := g (i - 1) (by omega)
        rw [show t + 1 + (i - 1) = t + i by omega] at this
        rw [this, show n - 1 - (i - 1) = n + 1 - 1 - i by omega]
def x5 (x1 x2 x3 x4 x5 : Int32) : Nat → Int32
  | 0 => x1
  | 1 => x2
  | 2 => x3
  | 3 => x4
  | _ => x5
/-- q words fed to the class -/
def Y11 (xs : Nat → Int32) (t : Nat) (m : dM) (q : Nat) (m' : dM) : Prop := Ok m' ∧ FR0 m m' ∧ (m'.1 0 1).toInt = ((t + 4 * q : Nat) : Int) ∧ (∀ j : Nat, j < t → m'.1 1 j = m.1 1 j) ∧ (∀ i : Nat, i < 4 * q → (m'.1 1 (t + i)) &&& 255 = cB (xs (i / 4)) (8 * (3 - i % 4)))
def Y12 (xs : Nat → Int32) (t : Nat) (m : dM) (q : Nat) (m' : dM) : Prop := Ok m' ∧ FR70 m m' ∧ (m'.1 70 2).toInt = ((t + 4 * q : Nat) : Int) ∧ (∀ j : Nat, j < t → m'.1 71 j = m.1 71 j) ∧ (∀ i : Nat, i < 4 * q → (m'.1 71 (t + i)) &&& 255 = rB (xs (i / 4)) (8 * (3 - i % 4)))
theorem Y11.go {xs : Nat → Int32} {t q : Nat} {m1 : dM} {Q : dM → Prop} (h : Y11 xs t m q m1) (hb : t + 20 ≤ 2000) (hq : q < 5) (hQ : ∀ m', Y11 xs t m (q + 1) m' → Q m') : c_X11_putBytes_0 1 (xs q) m1 Q := by
  obtain ⟨a, b, d, e, g⟩ := h
  refine v_X11_putBytes_0 (y_put11 4 (t + 4 * q) _ m1 (by decide) (by omega) d (by omega) a (fun m' a' b' d' e' g' => hQ m' ⟨a', fun k j h1 h2 => (b' k j h1 h2).trans (b k j h1 h2), by rw [d']; omega, fun j hj => by rw [e' j (by omega)]; exact e j hj, fun i hi => ?_⟩))
  by_cases w : i < 4 * q
  · rw [e' (t + i) (by omega)]; exact g i w
  · have := g' (i - 4 * q) (by omega)
    rw [show t + 4 * q + (i - 4 * q) = t + i by omega] at this
    rw [this, show i / 4 = q by omega, show 4 - 1 - (i - 4 * q) = 3 - i % 4 by omega]
theorem Y12.go {xs : Nat → Int32} {t q : Nat} {m1 : dM} {Q : dM → Prop} (h : Y12 xs t m q m1) (hb : t + 20 ≤ 2000) (hq : q < 5) (hQ : ∀ m', Y12 xs t m (q + 1) m' → Q m') : c_X12_put_70 1 (xs q) m1 Q := by
  obtain ⟨a, b, d, e, g⟩ := h
  refine v_X12_put_70 (y_put12 4 (t + 4 * q) _ m1 (by decide) (by omega) d (by omega) a (fun m' a' b' d' e' g' => hQ m' ⟨a', fun k j h1 h2 => (b' k j h1 h2).trans (b k j h1 h2), by rw [d']; omega, fun j hj => by rw [e' j (by omega)]; exact e j hj, fun i hi => ?_⟩))
  by_cases w : i < 4 * q
  · rw [e' (t + i) (by omega)]; exact g i w
  · have := g' (i - 4 * q) (by omega)
    rw [show t + 4 * q + (i - 4 * q) = t + i by omega] at this
    rw [this, show i / 4 = q by omega, show 4 - 1 - (i - 4 * q) = 3 - i % 4 by omega]
/-- the class's feed, and the reference's -/
def E11f (xs : Nat → Int32) (m : dM) (r : Int32) (m' : dM) : Prop := ((m.1 0 1).toInt + 20 ≤ 2000 ∧ ∃ t : Nat, (m.1 0 1).toInt = (t : Int) ∧ r.toInt = (t : Int) + 20 ∧ Y11 xs t m 5 m') ∨ (2000 < (m.1 0 1).toInt + 20 ∧ r.toInt = -1 ∧ m' = m)
def E12f (xs : Nat → Int32) (m : dM) (r : Int32) (m' : dM) : Prop := ((m.1 70 2).toInt + 20 ≤ 2000 ∧ ∃ t : Nat, (m.1 70 2).toInt = (t : Int) ∧ r.toInt = (t : Int) + 20 ∧ Y12 xs t m 5 m') ∨ (2000 < (m.1 70 2).toInt + 20 ∧ r.toInt = -1 ∧ m' = m)
theorem b_X11_feed {x1 x2 x3 x4 x5' : Int32} {Q : Int32 → dM → Prop} (hO : Ok m) (hQ : ∀ (r : Int32) (m' : dM), Ok m' ∧ E11f (x5 x1 x2 x3 x4 x5') m r m' → Q r m') : c_X11_feed_0 2 x1 x2 x3 x4 x5' m Q := by
  have b := hO.s (k := 0) (j := 1) rfl
  obtain ⟨t, ht⟩ : ∃ t : Nat, (m.1 0 1).toInt = (t : Int) := ⟨(m.1 0 1).toInt.toNat, by omega⟩
  have f := dAddE (X := (t : Int)) (Y := 20) (x := m.1 0 1) (y := (20 : Int32)) ht (by decide) (by omega) (by omega)
  refine v_X11_feed_0 ⟨fun q => ?_, fun q => hQ _ _ ⟨hO, Or.inr ⟨by omega, by decide, rfl⟩⟩⟩
  have Y0 : Y11 (x5 x1 x2 x3 x4 x5') t m 0 m := ⟨hO, fun _ _ _ _ => rfl, by rw [ht]; omega, fun _ _ => rfl, fun i hi => by omega⟩
  exact Y0.go (by omega) (by decide) (fun m1 Y1 => Y1.go (by omega) (by decide) (fun m2 Y2 => Y2.go (by omega) (by decide) (fun m3 Y3 => Y3.go (by omega) (by decide) (fun m4 Y4 => Y4.go (by omega) (by decide) (fun m5 Y5 => hQ _ _ ⟨Y5.1, Or.inl ⟨by omega, t, ht, by rw [Y5.2.2.1]; omega, Y5⟩⟩)))))
theorem b_X12_feed {x1 x2 x3 x4 x5' : Int32} {Q : Int32 → dM → Prop} (hO : Ok m) (hQ : ∀ (r : Int32) (m' : dM), Ok m' ∧ E12f (x5 x1 x2 x3 x4 x5') m r m' → Q r m') : c_X12_feed_70 2 x1 x2 x3 x4 x5' m Q := by
  have b := hO.s (k := 70) (j := 2) rfl
  obtain ⟨t, ht⟩ : ∃ t : Nat, (m.1 70 2).toInt = (t : Int) := ⟨(m.1 70 2).toInt.toNat, by omega⟩
  have f := dAddE (X := (t : Int)) (Y := 20) (x := m.1 70 2) (y := (20 : Int32)) ht (by decide) (by omega) (by omega)
  refine v_X12_feed_70 ⟨fun q => ?_, fun q => hQ _ _ ⟨hO, Or.inr ⟨by omega, by decide, rfl⟩⟩⟩
  have Y0 : Y12 (x5 x1 x2 x3 x4 x5') t m 0 m := ⟨hO, fun _ _ _ _ => rfl, by rw [ht]; omega, fun _ _ => rfl, fun i hi => by omega⟩
  exact Y0.go (by omega) (by decide) (fun m1 Y1 => Y1.go (by omega) (by decide) (fun m2 Y2 => Y2.go (by omega) (by decide) (fun m3 Y3 => Y3.go (by omega) (by decide) (fun m4 Y4 => Y4.go (by omega) (by decide) (fun m5 Y5 => hQ _ _ ⟨Y5.1, Or.inl ⟨by omega, t, ht, by rw [Y5.2.2.1]; omega, Y5⟩⟩)))))
theorem j_feed {xs : Nat → Int32} {m1 m2 : dM} {r1 r2 : Int32} (hT : Rq m) (h1 : E11f xs m r1 m1) (h2 : E12f xs m1 r2 m2) : Rq m2 ∧ r1 = r2 := by
  obtain ⟨⟨e, hb⟩, ho⟩ := hT
  rcases h1 with ⟨a, t, b, c, Y⟩ | ⟨a, b, T⟩
  · obtain ⟨O, y1, y3, y4, y5⟩ := Y
    have e2 : m1.1 70 2 = m.1 70 2 := y1 70 2 (by decide) (by decide)
    rcases h2 with ⟨a2, t2, b2, c2, O2, z1, z3, z4, z5⟩ | ⟨a2, -⟩
    · rw [e2] at b2
      have et : t2 = t := by omega
      subst et
      have z2 : m2.1 0 1 = m1.1 0 1 := z1 0 1 (by decide) (by decide)
      refine ⟨⟨⟨by rw [z2, y3, z3], fun i hi => ?_⟩, (ho.fr0 y1).fr70 z1⟩, Int32.toInt_inj.mp (by omega)⟩
      rw [z2, y3] at hi
      rw [z1 1 i (by decide) (by omega)]
      by_cases q : i < t2
      · rw [y4 i q, z4 i q, y1 71 i (by decide) (by omega)]
        exact hb i (by omega)
      · have u := y5 (i - t2) (by omega)
        have v := z5 (i - t2) (by omega)
        rw [show t2 + (i - t2) = i by omega] at u v
        rw [u, v]
        exact cB_rB _ _ (by omega)
    · rw [e2] at a2; exfalso; omega
  · subst T
    rcases h2 with ⟨a2, -⟩ | ⟨a2, b2, T2⟩
    · exfalso; omega
    · subst T2
      exact ⟨⟨⟨e, hb⟩, ho⟩, Int32.toInt_inj.mp (by omega)⟩
/-- back -/
def E11b (x1 : Int32) (m : dM) (r : Int32) (m' : dM) : Prop := (FR0 m m' ∧ m'.1 1 = m.1 1) ∧ (((0 ≤ x1.toInt ∧ x1.toInt ≤ (m.1 0 1).toInt) ∧ r.toInt = (m.1 0 1).toInt - x1.toInt ∧ (m'.1 0 1).toInt = (m.1 0 1).toInt - x1.toInt) ∨ (¬ (0 ≤ x1.toInt ∧ x1.toInt ≤ (m.1 0 1).toInt) ∧ r.toInt = -1 ∧ m'.1 0 1 = m.1 0 1))
def E12b (x1 : Int32) (m : dM) (r : Int32) (m' : dM) : Prop := (FR70 m m' ∧ m'.1 71 = m.1 71) ∧ (((0 ≤ x1.toInt ∧ x1.toInt ≤ (m.1 70 2).toInt) ∧ r.toInt = (m.1 70 2).toInt - x1.toInt ∧ (m'.1 70 2).toInt = (m.1 70 2).toInt - x1.toInt) ∨ (¬ (0 ≤ x1.toInt ∧ x1.toInt ≤ (m.1 70 2).toInt) ∧ r.toInt = -1 ∧ m'.1 70 2 = m.1 70 2))
theorem b_X11_back {x1 : Int32} {Q : Int32 → dM → Prop} (hO : Ok m) (hQ : ∀ (r : Int32) (m' : dM), Ok m' ∧ E11b x1 m r m' → Q r m') : c_X11_back_0 1 x1 m Q := by
  have b := hO.s (k := 0) (j := 1) rfl
  have no : ¬ (0 ≤ x1.toInt ∧ x1.toInt ≤ (m.1 0 1).toInt) → j_X11_back_0_12 1 m Q := fun q => v_X11_back_0_12 (hQ _ _ ⟨hO, ⟨fun _ _ _ _ => rfl, rfl⟩, Or.inr ⟨q, by decide, rfl⟩⟩)
  refine v_X11_back_0 ⟨fun q => no (by omega), fun q => ⟨fun q2 => ?_, fun q2 => no (by omega)⟩⟩
  have f := dSubE (X := (m.1 0 1).toInt) (Y := x1.toInt) (x := m.1 0 1) (y := x1) rfl rfl (by omega) (by omega)
  exact hQ _ _ ⟨Ok.set1 (lo := 0) (hi := 2000) hO (Or.inl rfl) rfl rfl (by omega) (by omega), ⟨fun k j h1 h2 => by rw [dSet_e, if_neg h2], rfl⟩, Or.inl ⟨⟨q, q2⟩, f, f⟩⟩
theorem b_X12_back {x1 : Int32} {Q : Int32 → dM → Prop} (hO : Ok m) (hQ : ∀ (r : Int32) (m' : dM), Ok m' ∧ E12b x1 m r m' → Q r m') : c_X12_back_70 1 x1 m Q := by
  have b := hO.s (k := 70) (j := 2) rfl
  have no : ¬ (0 ≤ x1.toInt ∧ x1.toInt ≤ (m.1 70 2).toInt) → j_X12_back_70_12 1 m Q := fun q => v_X12_back_70_12 (hQ _ _ ⟨hO, ⟨fun _ _ _ _ => rfl, rfl⟩, Or.inr ⟨q, by decide, rfl⟩⟩)
  refine v_X12_back_70 ⟨fun q => no (by omega), fun q => ⟨fun q2 => ?_, fun q2 => no (by omega)⟩⟩
  have f := dSubE (X := (m.1 70 2).toInt) (Y := x1.toInt) (x := m.1 70 2) (y := x1) rfl rfl (by omega) (by omega)
  refine hQ _ _ ⟨Ok.set70 hO (by decide) (fun lo hi h => ?_), ⟨fun k j h1 h2 => by rw [dSet_e, if_neg h2], rfl⟩, Or.inl ⟨⟨q, q2⟩, f, f⟩⟩
  rcases h with h | h
  · cases h
  · cases h; omega
theorem j_back {x1 : Int32} {m1 m2 : dM} {r1 r2 : Int32} (hT : Rq m) (h1 : E11b x1 m r1 m1) (h2 : E12b x1 m1 r2 m2) : Rq m2 ∧ r1 = r2 := by
  obtain ⟨⟨e, hb⟩, ho⟩ := hT
  obtain ⟨⟨a1, a2⟩, a4⟩ := h1
  obtain ⟨⟨c1, c3⟩, c4⟩ := h2
  rw [a1 70 2 (by decide) (by decide)] at c4
  have k0 : m2.1 0 1 = m1.1 0 1 := c1 0 1 (by decide) (by decide)
  have k : (m2.1 0 1).toInt = (m1.1 0 1).toInt := by rw [k0]
  have d1 : (m1.1 0 1 = m.1 0 1) → (m1.1 0 1).toInt = (m.1 0 1).toInt := fun q => by rw [q]
  have d2 : (m2.1 70 2 = m.1 70 2) → (m2.1 70 2).toInt = (m.1 70 2).toInt := fun q => by rw [q]
  have h : (m2.1 0 1).toInt = (m2.1 70 2).toInt ∧ r1.toInt = r2.toInt ∧ (m2.1 0 1).toInt ≤ (m.1 0 1).toInt := by
    rcases a4 with ⟨u, v, w⟩ | ⟨u, v, w⟩ <;> rcases c4 with ⟨u2, v2, w2⟩ | ⟨u2, v2, w2⟩
    · omega
    · exfalso; omega
    · exfalso; omega
    · have := d1 w; have := d2 w2; omega
  refine ⟨⟨⟨h.1, fun i hi => ?_⟩, (ho.fr0 a1).fr70 c1⟩, Int32.toInt_inj.mp h.2.1⟩
  rw [c1 1 i (by decide) (by omega), c3, a2, a1 71 i (by decide) (by omega)]
  exact hb i (by omega)
end FED
