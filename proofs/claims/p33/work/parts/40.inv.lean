/-! WHAT HOLDS BETWEEN CALLS (printed by wip/p34/mk40.py). wT: what most methods may write, and its bounds; what it leaves out stays as g has it; sT: bounds of what stays. -/
abbrev gM : Type := Nat → Nat → Int32
def fR : Option (Int × Int) := some (-2147483648, 2147483647)
def wT (k j : Nat) : Option (Int × Int) := match k with
  | 0 => match j with
    | 1 => none
    | 2 => none
    | _ => fR
  | 1 => none
  | 2 => match j with
    | 0 => none
    | 1 => none
    | 2 => none
    | 3 => none
    | 4 => none
    | 5 => none
    | 6 => none
    | _ => fR
  | 3 => none
  | 4 => none
  | 5 => none
  | 6 => none
  | 7 => none
  | 8 => none
  | 9 => none
  | 10 => none
  | 11 => match j with
    | 1 => none
    | _ => fR
  | 12 => none
  | 14 => none
  | 15 => none
  | 16 => none
  | 17 => none
  | 18 => none
  | 19 => fR
  | 20 => match j with
    | 0 => none
    | 1 => none
    | 2 => none
    | _ => fR
  | 21 => fR
  | 22 => some (0, 6)
  | 23 => some (0, 6)
  | 24 => fR
  | 25 => none
  | 26 => fR
  | 27 => fR
  | 28 => fR
  | 29 => match j with
    | 1 => some (0, 406)
    | _ => fR
  | 30 => fR
  | 32 => some (0, 406)
  | 33 => some (0, 406)
  | 34 => some (0, 406)
  | 35 => some (0, 406)
  | 36 => some (0, 13)
  | 37 => fR
  | 38 => match j with
    | 5 => some (0, 2000)
    | _ => fR
  | 39 => fR
  | 40 => fR
  | 43 => fR
  | 44 => fR
  | 47 => fR
  | 48 => fR
  | 49 => fR
  | 50 => fR
  | 51 => match j with
    | 4 => none
    | _ => fR
  | 52 => fR
  | 53 => fR
  | 54 => fR
  | 55 => fR
  | 56 => fR
  | 57 => fR
  | 58 => some (0, 9)
  | 59 => some (-1, 7)
  | 60 => fR
  | 61 => fR
  | 62 => fR
  | 63 => fR
  | 64 => fR
  | 65 => fR
  | 66 => fR
  | 67 => match j with
    | 3 => none
    | _ => fR
  | 68 => none
  | 69 => none
  | 70 => match j with
    | 2 => none
    | 4 => none
    | 10 => none
    | 11 => none
    | 12 => none
    | 13 => none
    | 14 => none
    | 15 => none
    | 16 => none
    | 17 => none
    | 18 => none
    | 19 => none
    | 20 => none
    | 40 => none
    | 46 => none
    | 50 => none
    | 61 => some (0, 40)
    | 63 => none
    | _ => fR
  | 71 => none
  | 72 => none
  | 73 => none
  | 74 => none
  | 75 => none
  | 79 => none
  | 80 => none
  | 81 => none
  | 82 => none
  | 83 => none
  | 84 => none
  | 85 => none
  | 86 => none
  | 87 => none
  | 88 => none
  | 89 => none
  | 90 => none
  | 91 => none
  | 92 => none
  | 93 => none
  | 94 => none
  | 95 => none
  | 96 => none
  | 97 => none
  | 98 => none
  | 99 => none
  | 100 => none
  | 101 => none
  | 102 => none
  | 103 => none
  | 104 => none
  | 105 => fR
  | 106 => fR
  | 107 => fR
  | 108 => fR
  | 109 => fR
  | 110 => fR
  | 111 => fR
  | 112 => none
  | 113 => none
  | 114 => fR
  | 115 => none
  | 116 => fR
  | _ => fR
def sT (k j : Nat) : Option (Int × Int) := match k with
  | 0 => match j with
    | 1 => some (0, 2000)
    | _ => none
  | 2 => match j with
    | 0 => some (0, 7)
    | 1 => some (0, 10)
    | 2 => some (0, 8)
    | _ => none
  | 4 => some (0, 6)
  | 5 => some (0, 6)
  | 11 => match j with
    | 1 => some (0, 406)
    | _ => none
  | 14 => some (0, 406)
  | 15 => some (0, 406)
  | 16 => some (0, 406)
  | 17 => some (0, 406)
  | 18 => some (0, 13)
  | 20 => match j with
    | 0 => some (0, 7)
    | 1 => some (0, 10)
    | 2 => some (0, 8)
    | _ => none
  | 25 => some (-1, 6)
  | 67 => match j with
    | 3 => some (0, 20)
    | _ => none
  | 70 => match j with
    | 2 => some (0, 2000)
    | 18 => some (0, 1)
    | 63 => some (0, 20)
    | _ => none
  | 73 => some (0, 41)
  | 75 => some (0, 9999)
  | 79 => some (-1, 6)
  | 80 => some (0, 7)
  | 82 => some (0, 10)
  | 86 => some (0, 8)
  | 89 => some (0, 9999)
  | 90 => some (0, 9999)
  | _ => none
/-- a stretch of code that can be worked with t waiting -/
def gSeg (g : gM) : Nat → Nat → Nat → Prop
  | 0, _, _ => True
  | n + 1, p, t => ((g 102 p).toInt < 2 ∧ ((g 102 p).toInt ≠ 0 → 0 ≤ (g 103 p).toInt ∧ (g 103 p).toInt ≤ 8) ∧ gSeg g n (p + 1) (t + 1)) ∨ ((2 ≤ (g 102 p).toInt ∧ (g 102 p).toInt ≤ 5) ∧ 2 ≤ t ∧ gSeg g n (p + 1) (t - 1))
def gPc (g : gM) (L : Nat) (a b : Int) : Prop := 420 * (L : Int) ≤ a ∧ a ≤ b ∧ b ≤ 420 * (L : Int) + 420 ∧ b - a ≤ 400 ∧ gSeg g (b - a).toNat a.toNat 0
def gBr (g : gM) (L b : Nat) : Prop := ((g 97 b).toInt ≠ 0 → gPc g L (g 98 b).toInt (g 99 b).toInt ∧ gPc g L (g 99 b).toInt (g 100 b).toInt) ∧ gPc g L (g 100 b).toInt (g 101 b).toInt
def gLw (g : gM) (L : Nat) (a b : Int) : Prop := a = b ∨ (130 * (L : Int) ≤ a ∧ a ≤ b ∧ b ≤ 130 * (L : Int) + 130 ∧ ∀ j : Nat, a ≤ j → (j : Int) < b → gBr g L j)
/-- which side is live -/
def gL (g : gM) : Nat := (g 70 18).toInt.toNat
def Gx (g : gM) : Prop :=
  (∀ u : Nat, (u : Int) < (g 2 2).toInt → 0 ≤ (g 7 u).toInt ∧ (g 7 u).toInt ≤ 6) ∧
  (∀ u : Nat, (u : Int) < (g 86 (gL g)).toInt → 0 ≤ (g 87 (8 * gL g + u)).toInt ∧ (g 87 (8 * gL g + u)).toInt ≤ 6) ∧
  (∀ w : Nat, (w : Int) < (g 82 (gL g)).toInt → (0 ≤ (g 83 (10 * gL g + w)).toInt ∧ (g 83 (10 * gL g + w)).toInt ≤ 6) ∧ (0 ≤ (g 84 (10 * gL g + w)).toInt ∧ (g 84 (10 * gL g + w)).toInt ≤ 6)) ∧
  (∀ k : Nat, k < 4 → gLw g (gL g) (g 95 (4 * gL g + k)).toInt (g 96 (4 * gL g + k)).toInt)
def Gd (g : gM) : Prop := (∀ (k j : Nat) (lo hi : Int), sT k j = some (lo, hi) → lo ≤ (g k j).toInt ∧ (g k j).toInt ≤ hi) ∧ Gx g
def Inv (g : gM) (m : dM) : Prop := (∀ (k j : Nat) (lo hi : Int), wT k j = some (lo, hi) → lo ≤ (m.1 k j).toInt ∧ (m.1 k j).toInt ≤ hi) ∧ ∀ k j : Nat, wT k j = none → m.1 k j = g k j
section INV
variable {g : gM} {m : dM} {k j : Nat} {lo hi : Int} {v : Int32}
theorem Inv.w (hI : Inv g m) (h : wT k j = some (lo, hi)) : lo ≤ (m.1 k j).toInt ∧ (m.1 k j).toInt ≤ hi := hI.1 k j lo hi h
theorem Inv.s (hG : Gd g) (hI : Inv g m) (hw : wT k j = none) (h : sT k j = some (lo, hi)) : lo ≤ (m.1 k j).toInt ∧ (m.1 k j).toInt ≤ hi := by
  rw [hI.2 k j hw]
  exact hG.1 k j lo hi h
theorem Inv.set (hI : Inv g m) (hw : wT k j = some (lo, hi)) (h1 : lo ≤ v.toInt) (h2 : v.toInt ≤ hi) : Inv g (dSet m k j v) := by
  refine ⟨fun k' j' lo' hi' h => ?_, fun k' j' h => ?_⟩
  · rw [dSet_e]
    by_cases hc : k' = k ∧ j' = j
    · rw [if_pos hc]
      rw [hc.1, hc.2, hw] at h
      cases h
      exact ⟨h1, h2⟩
    · rw [if_neg hc]
      exact hI.1 k' j' lo' hi' h
  · rw [dSet_e]
    by_cases hc : k' = k ∧ j' = j
    · rw [hc.1, hc.2, hw] at h
      cases h
    · rw [if_neg hc]
      exact hI.2 k' j' h
theorem Inv.setA (hI : Inv g m) (hw : wT k j = fR) : Inv g (dSet m k j v) := Inv.set hI hw (e_lo v) (e_hi v)
theorem Inv.setL {x : Int64} (hI : Inv g m) : Inv g (dSetL m k j x) := hI
theorem Inv.tx (hI : Inv g m) : Inv g (dTx m) := hI
theorem Inv.cpy {k0 sp k1 dp n : Nat} (hI : Inv g m) (hw : ∀ j, wT k1 j = fR) : Inv g (dCpy m k0 sp k1 dp n) := by
  refine ⟨fun k' j' lo' hi' h => ?_, fun k' j' h => ?_⟩
  · rw [dCpy_e]
    by_cases hc : k' = k1 ∧ dp ≤ j' ∧ j' < dp + n
    · rw [if_pos hc]
      rw [hc.1, hw] at h
      cases h
      exact ⟨e_lo _, e_hi _⟩
    · rw [if_neg hc]
      exact hI.1 k' j' lo' hi' h
  · rw [dCpy_e]
    by_cases hc : k' = k1 ∧ dp ≤ j' ∧ j' < dp + n
    · rw [hc.1, hw] at h
      cases h
    · rw [if_neg hc]
      exact hI.2 k' j' h
theorem d_cl {x : Int32} (h : 0 ≤ x.toInt) : (x.toNatClampNeg : Int) = x.toInt := by rw [Int32.toNatClampNeg]; exact Int.toNat_of_nonneg h
theorem dAddE {x y : Int32} {X Y : Int} (hx : x.toInt = X) (hy : y.toInt = Y) (h1 : -2147483648 ≤ X + Y) (h2 : X + Y ≤ 2147483647) : (x + y).toInt = X + Y := by
  subst hx
  subst hy
  exact eAddI h1 h2
theorem dSubE {x y : Int32} {X Y : Int} (hx : x.toInt = X) (hy : y.toInt = Y) (h1 : -2147483648 ≤ X - Y) (h2 : X - Y ≤ 2147483647) : (x - y).toInt = X - Y := by
  subst hx
  subst hy
  exact eSubI h1 h2
theorem dMulE {x y : Int32} {X Y : Int} (hx : x.toInt = X) (hy : y.toInt = Y) (h1 : -2147483648 ≤ X * Y) (h2 : X * Y ≤ 2147483647) : (x * y).toInt = X * Y := by
  subst hx
  subst hy
  rw [Int32.toInt_mul]
  exact Int.bmod_eq_of_le (by omega) (by omega)
theorem dB01 {x : Int32} (h : 0 ≤ x.toInt ∧ x.toInt ≤ 1) : x = 0 ∨ x = 1 := by
  by_cases h0 : x.toInt = 0
  · left; exact Int32.toInt_inj.mp h0
  · right; exact Int32.toInt_inj.mp (show x.toInt = 1 by omega)
theorem dRemE {x y : Int32} {Y : Int} (hy : y.toInt = Y) (h : 1 ≤ Y) : (x - x / y * y).toInt ≤ Y - 1 ∧ 1 - Y ≤ (x - x / y * y).toInt ∧ (0 ≤ x.toInt → 0 ≤ (x - x / y * y).toInt) := by
  subst hy
  have e := rem_toInt x y
  have hb := tmod_bounds (a := x.toInt) (M := y.toInt) (by omega)
  refine ⟨by rw [e]; omega, by rw [e]; omega, fun hx => ?_⟩
  rw [e]
  exact Int.tmod_nonneg _ hx
theorem dMinE (x y : Int32) : (if y < x then y else x).toInt ≤ x.toInt ∧ (if y < x then y else x).toInt ≤ y.toInt ∧ ((if y < x then y else x).toInt = x.toInt ∨ (if y < x then y else x).toInt = y.toInt) := by
  by_cases h : y < x
  · have := Int32.lt_iff_toInt_lt.mp h
    rw [if_pos h]; omega
  · have : ¬ y.toInt < x.toInt := fun q => h (Int32.lt_iff_toInt_lt.mpr q)
    rw [if_neg h]; omega
theorem dMaxE (x y : Int32) : x.toInt ≤ (if x < y then y else x).toInt ∧ y.toInt ≤ (if x < y then y else x).toInt ∧ ((if x < y then y else x).toInt = x.toInt ∨ (if x < y then y else x).toInt = y.toInt) := by
  by_cases h : x < y
  · have := Int32.lt_iff_toInt_lt.mp h
    rw [if_pos h]; omega
  · have : ¬ x.toInt < y.toInt := fun q => h (Int32.lt_iff_toInt_lt.mpr q)
    rw [if_neg h]; omega
theorem dCmpE (x y : Int64) : -1 ≤ (lg_cmp x y).toInt ∧ (lg_cmp x y).toInt ≤ 1 ∧ ((lg_cmp x y).toInt = 0 ↔ x = y) := by
  unfold lg_cmp
  by_cases h : x > y
  · rw [if_pos h]
    refine ⟨by decide, by decide, ⟨fun q => absurd q (by decide), fun q => ?_⟩⟩
    rw [q] at h
    exact absurd h (Int64.lt_irrefl)
  · rw [if_neg h]
    by_cases h2 : x = y
    · rw [if_pos h2]
      exact ⟨by decide, by decide, ⟨fun _ => h2, fun _ => by decide⟩⟩
    · rw [if_neg h2]
      exact ⟨by decide, by decide, ⟨fun q => absurd q (by decide), fun q => absurd q h2⟩⟩
theorem d_nat {x : Int32} (h : 0 ≤ x.toInt) : x = Int32.ofNat x.toInt.toNat := by
  apply Int32.toInt_inj.mp
  have := e_hi x
  rw [Int32.toInt_ofNat_of_lt (by omega)]
  omega
theorem dShl8 {x : Int32} (h1 : 0 ≤ x.toInt) (h2 : x.toInt ≤ 8) : 1 ≤ ((1 : Int32) <<< (x &&& 31)).toInt ∧ ((1 : Int32) <<< (x &&& 31)).toInt ≤ 256 := by
  have H : ∀ n : Nat, n < 9 → 1 ≤ ((1 : Int32) <<< (Int32.ofNat n &&& 31)).toInt ∧ ((1 : Int32) <<< (Int32.ofNat n &&& 31)).toInt ≤ 256 := by decide
  rw [d_nat h1]
  exact H _ (by omega)
theorem dShl10 {x : Int32} (h1 : 0 ≤ x.toInt) (h2 : x.toInt ≤ 10) : 1 ≤ ((1 : Int32) <<< (x &&& 31)).toInt ∧ ((1 : Int32) <<< (x &&& 31)).toInt ≤ 1024 := by
  have H : ∀ n : Nat, n < 11 → 1 ≤ ((1 : Int32) <<< (Int32.ofNat n &&& 31)).toInt ∧ ((1 : Int32) <<< (Int32.ofNat n &&& 31)).toInt ≤ 1024 := by decide
  rw [d_nat h1]
  exact H _ (by omega)
theorem dAndE {x y : Int32} (h : 0 ≤ y.toInt) : 0 ≤ (x &&& y).toInt ∧ (x &&& y).toInt ≤ y.toInt := by
  have e1 : (x &&& y).toInt = (x.toBitVec &&& y.toBitVec).toInt := rfl
  have e2 : y.toInt = y.toBitVec.toInt := rfl
  have h3 : (x.toBitVec &&& y.toBitVec).toNat ≤ y.toBitVec.toNat := by rw [BitVec.toNat_and]; exact Nat.and_le_right
  rw [e2] at h ⊢
  rw [e1]
  have hy : 2 * y.toBitVec.toNat < 2 ^ 32 := by
    rw [BitVec.toInt_eq_toNat_cond] at h
    split at h
    · assumption
    · have := y.toBitVec.isLt; omega
  rw [BitVec.toInt_eq_toNat_cond, BitVec.toInt_eq_toNat_cond, if_pos hy, if_pos (by omega)]
  omega
/-! what hangs on an index below a count -/
theorem Inv.home {u : Int32} (hG : Gd g) (hI : Inv g m) (h1 : 0 ≤ u.toInt) (h2 : u.toInt < (m.1 2 2).toInt) : 0 ≤ (m.1 7 u.toNatClampNeg).toInt ∧ (m.1 7 u.toNatClampNeg).toInt ≤ 6 := by
  rw [hI.2 7 _ rfl]
  rw [hI.2 2 2 rfl] at h2
  exact hG.2.1 _ (by rw [d_cl h1]; exact h2)
theorem Inv.live (hG : Gd g) (hI : Inv g m) : m.1 70 18 = g 70 18 ∧ 0 ≤ (g 70 18).toInt ∧ (g 70 18).toInt ≤ 1 ∧ (m.1 70 18).toNatClampNeg = gL g ∧ (gL g : Int) = (m.1 70 18).toInt := by
  have e := hI.2 70 18 rfl
  have b := hG.1 70 18 0 1 rfl
  refine ⟨e, b.1, b.2, by rw [e]; rfl, ?_⟩
  rw [e]
  exact Int.toNat_of_nonneg b.1
theorem d_idx {c l u : Int32} {C : Int} {L : Nat} (hc : c.toInt = C) (hC : 0 ≤ C ∧ C ≤ 1000) (hl : (L : Int) = l.toInt) (hL : l.toInt ≤ 1) (h1 : 0 ≤ u.toInt) (h2 : u.toInt ≤ 10000) : (c * l + u).toNatClampNeg = C.toNat * L + u.toInt.toNat := by
  have b0 : 0 ≤ C * l.toInt ∧ C * l.toInt ≤ 1000 := by
    have : l.toInt = 0 ∨ l.toInt = 1 := by omega
    rcases this with q | q <;> rw [q] <;> omega
  have e1 := dMulE hc rfl (show -2147483648 ≤ C * l.toInt by omega) (by omega)
  have e2 := dAddE e1 (rfl : u.toInt = _) (by omega) (by omega)
  rw [Int32.toNatClampNeg, e2, ← hl]
  have : (C * (L : Int)).toNat = C.toNat * L := by
    have h3 : l.toInt = 0 ∨ l.toInt = 1 := by omega
    rcases h3 with q | q
    · have : L = 0 := by omega
      subst this
      simp
    · have : L = 1 := by omega
      subst this
      simp
  rw [← hl] at b0
  omega
theorem Inv.flat {u : Int32} (hG : Gd g) (hI : Inv g m) (h1 : 0 ≤ u.toInt) (h2 : u.toInt < (m.1 86 (m.1 70 18).toNatClampNeg).toInt) : 0 ≤ (m.1 87 ((8 : Int32) * m.1 70 18 + u).toNatClampNeg).toInt ∧ (m.1 87 ((8 : Int32) * m.1 70 18 + u).toNatClampNeg).toInt ≤ 6 := by
  obtain ⟨l1, l2, l3, l4, l5⟩ := Inv.live hG hI
  rw [l4, hI.2 86 _ rfl] at h2
  have hb := hG.1 86 (gL g) 0 8 rfl
  have e := d_idx (c := 8) (C := 8) (by decide) (by decide) l5 (by rw [l1]; exact l3) h1 (by omega)
  rw [e, hI.2 87 _ rfl]
  have q : ((u.toInt.toNat : Nat) : Int) < (g 86 (gL g)).toInt := by omega
  exact hG.2.2.1 _ q
theorem Inv.one {u : Int32} (hG : Gd g) (hI : Inv g m) (h1 : 0 ≤ u.toInt) (h2 : u.toInt < (m.1 82 (m.1 70 18).toNatClampNeg).toInt) : 0 ≤ (m.1 83 ((10 : Int32) * m.1 70 18 + u).toNatClampNeg).toInt ∧ (m.1 83 ((10 : Int32) * m.1 70 18 + u).toNatClampNeg).toInt ≤ 6 := by
  obtain ⟨l1, l2, l3, l4, l5⟩ := Inv.live hG hI
  rw [l4, hI.2 82 _ rfl] at h2
  have hb := hG.1 82 (gL g) 0 10 rfl
  have e := d_idx (c := 10) (C := 10) (by decide) (by decide) l5 (by rw [l1]; exact l3) h1 (by omega)
  rw [e, hI.2 83 _ rfl]
  have q : ((u.toInt.toNat : Nat) : Int) < (g 82 (gL g)).toInt := by omega
  exact (hG.2.2.2.1 _ q).1
theorem Inv.two {u : Int32} (hG : Gd g) (hI : Inv g m) (h1 : 0 ≤ u.toInt) (h2 : u.toInt < (m.1 82 (m.1 70 18).toNatClampNeg).toInt) : 0 ≤ (m.1 84 ((10 : Int32) * m.1 70 18 + u).toNatClampNeg).toInt ∧ (m.1 84 ((10 : Int32) * m.1 70 18 + u).toNatClampNeg).toInt ≤ 6 := by
  obtain ⟨l1, l2, l3, l4, l5⟩ := Inv.live hG hI
  rw [l4, hI.2 82 _ rfl] at h2
  have hb := hG.1 82 (gL g) 0 10 rfl
  have e := d_idx (c := 10) (C := 10) (by decide) (by decide) l5 (by rw [l1]; exact l3) h1 (by omega)
  rw [e, hI.2 84 _ rfl]
  have q : ((u.toInt.toNat : Nat) : Int) < (g 82 (gL g)).toInt := by omega
  exact (hG.2.2.2.1 _ q).2
theorem Inv.cnt80 (hG : Gd g) (hI : Inv g m) : (m.1 80 (m.1 70 18).toNatClampNeg).toInt = (g 80 (gL g)).toInt := by
  obtain ⟨l1, l2, l3, l4, l5⟩ := Inv.live hG hI
  rw [l4, hI.2 80 _ rfl]
theorem Inv.cnt82 (hG : Gd g) (hI : Inv g m) : (m.1 82 (m.1 70 18).toNatClampNeg).toInt = (g 82 (gL g)).toInt := by
  obtain ⟨l1, l2, l3, l4, l5⟩ := Inv.live hG hI
  rw [l4, hI.2 82 _ rfl]
theorem Inv.cnt86 (hG : Gd g) (hI : Inv g m) : (m.1 86 (m.1 70 18).toNatClampNeg).toInt = (g 86 (gL g)).toInt := by
  obtain ⟨l1, l2, l3, l4, l5⟩ := Inv.live hG hI
  rw [l4, hI.2 86 _ rfl]
end INV
