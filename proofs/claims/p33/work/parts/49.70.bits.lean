/-! BITS of ints, as the sets of both -/
def bt (x : Int32) (i : Nat) : Bool := x.toBitVec.getLsbD i
/-- one bit alone -/
def b1 (u : Nat) : Int32 := (1 : Int32) <<< (Int32.ofNat u &&& 31)
/-- the set of those below n -/
def bs (p : Nat → Bool) : Nat → Int32
  | 0 => 0
  | n + 1 => cond (p n) (bs p n ||| b1 n) (bs p n)
section BIT
variable {x y : Int32} {i u n : Nat}
theorem bt_or : bt (x ||| y) i = (bt x i || bt y i) := by unfold bt; rw [Int32.toBitVec_or, BitVec.getLsbD_or]
theorem bt_and : bt (x &&& y) i = (bt x i && bt y i) := by unfold bt; rw [Int32.toBitVec_and, BitVec.getLsbD_and]
theorem bt_xor : bt (x ^^^ y) i = (bt x i ^^ bt y i) := by unfold bt; rw [Int32.toBitVec_xor, BitVec.getLsbD_xor]
theorem bt_not (h : i < 32) : bt (~~~x) i = !bt x i := by unfold bt; rw [Int32.toBitVec_not, BitVec.getLsbD_not]; simp [h]
theorem bt_0 : bt 0 i = false := by
  unfold bt
  rw [show (0 : Int32).toBitVec = 0#32 from rfl, BitVec.getLsbD_zero]
theorem bt_big (h : 32 ≤ i) : bt x i = false := BitVec.getLsbD_of_ge _ _ h
theorem bt_ext (h : ∀ i : Nat, i < 32 → bt x i = bt y i) : x = y := Int32.toBitVec_inj.mp (BitVec.eq_of_getLsbD_eq (fun i hi => h i hi))
theorem bt_z (h : ∀ i : Nat, i < 32 → bt x i = false) : x = 0 := bt_ext (fun i hi => by rw [h i hi, bt_0])
theorem i32_nat {a : Int32} {k : Nat} (h : a.toInt = (k : Int)) : a = Int32.ofNat k := by
  apply Int32.toInt_inj.mp
  rw [h]
  have h1 := Int32.toInt_lt a
  rw [Int32.toInt_ofNat_of_lt (by omega)]
theorem b1_of {a : Int32} {k : Nat} (h : a.toInt = (k : Int)) : (1 : Int32) <<< (a &&& 31) = b1 k := by
  rw [i32_nat h]
  rfl
theorem b1_bv (h : u < 32) : (b1 u).toBitVec = (1#32 : BitVec 32) <<< u := by
  match u, h with
  | 0, _ | 1, _ | 2, _ | 3, _ | 4, _ | 5, _ | 6, _ | 7, _ | 8, _ | 9, _ | 10, _ | 11, _ | 12, _ | 13, _ | 14, _ | 15, _ | 16, _ | 17, _ | 18, _ | 19, _ | 20, _ | 21, _ | 22, _ | 23, _ | 24, _ | 25, _ | 26, _ | 27, _ | 28, _ | 29, _ | 30, _ | 31, _ => decide
  | u + 32, h => omega
theorem bt_1 (h : u < 32) : bt (b1 u) i = decide (i = u) := by
  unfold bt
  rw [b1_bv h]
  rw [← BitVec.twoPow_eq, BitVec.getLsbD_twoPow]
  by_cases e : i = u
  · subst e; simp [h]
  · have e' : ¬ u = i := fun q => e q.symm
    simp [e, e']
theorem bt_bs {p : Nat → Bool} : ∀ (n : Nat), n ≤ 32 → bt (bs p n) i = (decide (i < n) && p i)
  | 0, _ => by show bt 0 i = _; rw [bt_0]; simp
  | n + 1, h => by
    have ih := bt_bs (p := p) n (by omega)
    show bt (cond (p n) (bs p n ||| b1 n) (bs p n)) i = _
    by_cases e : i = n
    · subst e
      cases hp : p i with
      | true => rw [cond_true, bt_or, bt_1 (by omega)]; simp
      | false => rw [cond_false, ih]; simp
    · have e2 : decide (i < n + 1) = decide (i < n) := by
        by_cases q : i < n
        · simp [q, show i < n + 1 by omega]
        · simp [q, show ¬ i < n + 1 by omega]
      rw [e2]
      cases hp : p n with
      | true => rw [cond_true, bt_or, ih, bt_1 (by omega)]; simp [e]
      | false => rw [cond_false, ih]
theorem bs_congr {p q : Nat → Bool} : ∀ (n : Nat), (∀ i : Nat, i < n → p i = q i) → bs p n = bs q n
  | 0, _ => rfl
  | n + 1, h => by
    show cond (p n) (bs p n ||| b1 n) (bs p n) = cond (q n) (bs q n ||| b1 n) (bs q n)
    rw [bs_congr n (fun i hi => h i (by omega)), h n (by omega)]
/-- how the one asks for a bit -/
theorem bt_u {a : Int32} {k : Nat} (h : a.toInt = (k : Int)) (hk : k < 32) : ((x.toUInt32 >>> (a.toUInt32 &&& Int32.toUInt32 31)).toInt32 &&& (1 : Int32)).toInt = if bt x k then 1 else 0 := by
  have l : (x.toUInt32 >>> (a.toUInt32 &&& Int32.toUInt32 31)).toInt32.toBitVec = x.toBitVec >>> k := by
    rw [i32_nat h]
    match k, hk with
    | 0, _ | 1, _ | 2, _ | 3, _ | 4, _ | 5, _ | 6, _ | 7, _ | 8, _ | 9, _ | 10, _ | 11, _ | 12, _ | 13, _ | 14, _ | 15, _ | 16, _ | 17, _ | 18, _ | 19, _ | 20, _ | 21, _ | 22, _ | 23, _ | 24, _ | 25, _ | 26, _ | 27, _ | 28, _ | 29, _ | 30, _ | 31, _ => rfl
    | k + 32, h => omega
  have e : (x.toUInt32 >>> (a.toUInt32 &&& Int32.toUInt32 31)).toInt32 &&& (1 : Int32) = if bt x k then 1 else 0 := by
    apply bt_ext
    intro i hi
    rw [bt_and]
    have h1 : bt (1 : Int32) i = decide (i = 0) := by
      have := bt_1 (u := 0) (i := i) (by decide)
      rw [show b1 0 = (1 : Int32) by decide] at this
      exact this
    rw [h1]
    by_cases q : i = 0
    · subst q
      have : bt ((x.toUInt32 >>> (a.toUInt32 &&& Int32.toUInt32 31)).toInt32) 0 = bt x k := by
        unfold bt
        rw [l, BitVec.getLsbD_ushiftRight, Nat.add_zero]
      rw [this]
      cases bt x k with
      | true => rfl
      | false => rfl
    · rw [decide_eq_false q, Bool.and_false]
      cases bt x k with
      | true => rw [if_pos rfl, h1, decide_eq_false q]
      | false => rw [if_neg (by decide), bt_0]
  rw [e]
  cases bt x k with
  | true => rfl
  | false => rfl
theorem bt_s {a : Int32} {k : Nat} (h : a.toInt = (k : Int)) (hk : k < 32) : ((x >>> (a &&& 31)) &&& (1 : Int32)).toInt = if bt x k then 1 else 0 := by
  have l : (x >>> (a &&& 31)).toBitVec = x.toBitVec.sshiftRight k := by
    rw [i32_nat h]
    match k, hk with
    | 0, _ | 1, _ | 2, _ | 3, _ | 4, _ | 5, _ | 6, _ | 7, _ | 8, _ | 9, _ | 10, _ | 11, _ | 12, _ | 13, _ | 14, _ | 15, _ | 16, _ | 17, _ | 18, _ | 19, _ | 20, _ | 21, _ | 22, _ | 23, _ | 24, _ | 25, _ | 26, _ | 27, _ | 28, _ | 29, _ | 30, _ | 31, _ => rfl
    | k + 32, h => omega
  have e : (x >>> (a &&& 31)) &&& (1 : Int32) = if bt x k then 1 else 0 := by
    apply bt_ext
    intro i hi
    rw [bt_and]
    have h1 : bt (1 : Int32) i = decide (i = 0) := by
      have := bt_1 (u := 0) (i := i) (by decide)
      rw [show b1 0 = (1 : Int32) by decide] at this
      exact this
    rw [h1]
    by_cases q : i = 0
    · subst q
      have : bt (x >>> (a &&& 31)) 0 = bt x k := by
        unfold bt
        rw [l, BitVec.getLsbD_sshiftRight, Nat.add_zero, if_pos hk]
        simp
      rw [this]
      cases bt x k with
      | true => rfl
      | false => rfl
    · rw [decide_eq_false q, Bool.and_false]
      cases bt x k with
      | true => rw [if_pos rfl, h1, decide_eq_false q]
      | false => rw [if_neg (by decide), bt_0]
  rw [e]
  cases bt x k with
  | true => rfl
  | false => rfl
end BIT
