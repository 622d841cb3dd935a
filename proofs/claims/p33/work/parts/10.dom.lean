/-! THE ENGINE, 1: what is known of a value, of a cell; reckoning with it. A symbol's number stands first (0: none); then the bounds of what comes to it. -/
abbrev eI : Type := Nat × Int × Int
abbrev eV : Type := eI ⊕ (Option Nat ⊕ Option Int64)
abbrev eC : Type := (Nat × List eV) ⊕ (Nat × Nat × (List eV ⊕ (Int × Int)))
def eTop : eI := (0, -2147483648, 2147483647)
def eLe (a b : Int) : Bool := match b - a with
  | .ofNat _ => true
  | .negSucc _ => false
theorem eLe_ok {a b : Int} (h : eLe a b = true) : a ≤ b := by
  unfold eLe at h
  split at h
  · rename_i n hn
    have : (0 : Int) ≤ Int.ofNat n := Int.natCast_nonneg n
    omega
  · cases h
theorem eLe_no {a b : Int} (h : eLe a b = false) : b < a := by
  unfold eLe at h
  split at h
  · cases h
  · rename_i n hn; omega
def eIn (σ : Nat → Int) (q : eI) (x : Int32) : Prop := σ q.1 + q.2.1 ≤ x.toInt ∧ x.toInt ≤ σ q.1 + q.2.2
def eSg (sr : List (Int × Int)) (σ : Nat → Int) : Prop := σ 0 = 0 ∧ ∀ (j : Nat) (q : Int × Int), sr[j]? = some q → q.1 ≤ σ j ∧ σ j ≤ q.2
def eOk (ad : List Nat) (σ : Nat → Int) (v : eV) (w : Value) : Prop := match v with
  | .inl q => ∃ x : Int32, w = .int x ∧ eIn σ q x
  | .inr (.inl none) => w = .null
  | .inr (.inl (some k)) => ∃ a : Nat, ad[k]? = some a ∧ w = .ref a
  | .inr (.inr o) => ∃ x : Int64, w = .long x ∧ ∀ y : Int64, o = some y → x = y
def eCat (v : eV) : Nat := match v with
  | .inr (.inr _) => 2
  | _ => 1
theorem eOk_cat {ad : List Nat} {σ : Nat → Int} {v : eV} {w : Value} (h : eOk ad σ v w) : w.category = eCat v := by
  match v, h with
  | .inl q, ⟨x, hw, _⟩ => rw [hw]; rfl
  | .inr (.inl none), h => rw [show w = .null from h]; rfl
  | .inr (.inl (some k)), ⟨a, _, hw⟩ => rw [hw]; rfl
  | .inr (.inr _), ⟨x, hw, _⟩ => rw [hw]; rfl
theorem e_lo (x : Int32) : -2147483648 ≤ x.toInt := by have := Int32.le_toInt x; omega
theorem e_hi (x : Int32) : x.toInt ≤ 2147483647 := by have := Int32.toInt_lt x; omega
theorem eIn_mk {σ : Nat → Int} {b : Nat} {lo hi : Int} {x : Int32} (h1 : σ b + lo ≤ x.toInt) (h2 : x.toInt ≤ σ b + hi) : eIn σ (b, lo, hi) x := ⟨h1, h2⟩
theorem eTop_ok {σ : Nat → Int} (h0 : σ 0 = 0) (x : Int32) : eIn σ eTop x := ⟨by show σ 0 + -2147483648 ≤ _; have := e_lo x; omega, by show _ ≤ σ 0 + 2147483647; have := e_hi x; omega⟩
/-- plain bounds -/
def eRg (sr : List (Int × Int)) (q : eI) : Int × Int := match sr[q.1]? with
  | some r => (r.1 + q.2.1, r.2 + q.2.2)
  | none => (-2147483648, 2147483647)
theorem eRg_ok {sr : List (Int × Int)} {σ : Nat → Int} (hs : eSg sr σ) {q : eI} {x : Int32} (h : eIn σ q x) : (eRg sr q).1 ≤ x.toInt ∧ x.toInt ≤ (eRg sr q).2 := by
  unfold eRg
  split
  · rename_i r hr
    have := hs.2 _ _ hr
    obtain ⟨h1, h2⟩ := h
    exact ⟨by show r.1 + q.2.1 ≤ _; omega, by show _ ≤ r.2 + q.2.2; omega⟩
  · exact ⟨e_lo x, e_hi x⟩
theorem eAddI {x y : Int32} (h1 : -2147483648 ≤ x.toInt + y.toInt) (h2 : x.toInt + y.toInt ≤ 2147483647) : (x + y).toInt = x.toInt + y.toInt := by
  rw [Int32.toInt_add]; exact Int.bmod_eq_of_le (by omega) (by omega)
theorem eSubI {x y : Int32} (h1 : -2147483648 ≤ x.toInt - y.toInt) (h2 : x.toInt - y.toInt ≤ 2147483647) : (x - y).toInt = x.toInt - y.toInt := by
  rw [Int32.toInt_sub]; exact Int.bmod_eq_of_le (by omega) (by omega)
def eFit (lo hi : Int) : Bool := eLe (-2147483648) lo && eLe hi 2147483647
theorem eFit_ok {lo hi : Int} (h : eFit lo hi = true) : -2147483648 ≤ lo ∧ hi ≤ 2147483647 := by
  unfold eFit at h
  rw [Bool.and_eq_true] at h
  exact ⟨eLe_ok h.1, eLe_ok h.2⟩
def eAdd (sr : List (Int × Int)) (a b : eI) : eI :=
  cond (eFit ((eRg sr a).1 + (eRg sr b).1) ((eRg sr a).2 + (eRg sr b).2))
    (cond (Nat.beq b.1 0) (a.1, a.2.1 + b.2.1, a.2.2 + b.2.2) (cond (Nat.beq a.1 0) (b.1, a.2.1 + b.2.1, a.2.2 + b.2.2) (0, (eRg sr a).1 + (eRg sr b).1, (eRg sr a).2 + (eRg sr b).2)))
    eTop
theorem eAdd_ok {sr : List (Int × Int)} {σ : Nat → Int} (hs : eSg sr σ) {a b : eI} {x y : Int32} (ha : eIn σ a x) (hb : eIn σ b y) : eIn σ (eAdd sr a b) (x + y) := by
  have ra := eRg_ok hs ha
  have rb := eRg_ok hs hb
  have h0 := hs.1
  unfold eAdd
  cases hf : eFit ((eRg sr a).1 + (eRg sr b).1) ((eRg sr a).2 + (eRg sr b).2) with
  | false => exact eTop_ok h0 _
  | true =>
    have hf := eFit_ok hf
    have e := eAddI (x := x) (y := y) (by omega) (by omega)
    obtain ⟨ha1, ha2⟩ := ha
    obtain ⟨hb1, hb2⟩ := hb
    simp only [cond_true]
    cases hz : Nat.beq b.1 0 with
    | true =>
      have hz : b.1 = 0 := Nat.eq_of_beq_eq_true hz
      rw [hz, h0] at hb1 hb2
      simp only [cond_true]
      exact eIn_mk (by rw [e]; omega) (by rw [e]; omega)
    | false =>
      simp only [cond_false]
      cases hz : Nat.beq a.1 0 with
      | true =>
        have hz : a.1 = 0 := Nat.eq_of_beq_eq_true hz
        rw [hz, h0] at ha1 ha2
        simp only [cond_true]
        exact eIn_mk (by rw [e]; omega) (by rw [e]; omega)
      | false =>
        simp only [cond_false]
        exact eIn_mk (by rw [h0, e]; omega) (by rw [h0, e]; omega)
def eSub (sr : List (Int × Int)) (a b : eI) : eI :=
  cond (Nat.beq a.1 b.1 && eFit (a.2.1 - b.2.2) (a.2.2 - b.2.1)) (0, a.2.1 - b.2.2, a.2.2 - b.2.1)
    (cond (eFit ((eRg sr a).1 - (eRg sr b).2) ((eRg sr a).2 - (eRg sr b).1))
      (cond (Nat.beq b.1 0) (a.1, a.2.1 - b.2.2, a.2.2 - b.2.1) (0, (eRg sr a).1 - (eRg sr b).2, (eRg sr a).2 - (eRg sr b).1))
      eTop)
theorem eSub_ok {sr : List (Int × Int)} {σ : Nat → Int} (hs : eSg sr σ) {a b : eI} {x y : Int32} (ha : eIn σ a x) (hb : eIn σ b y) : eIn σ (eSub sr a b) (x - y) := by
  have ra := eRg_ok hs ha
  have rb := eRg_ok hs hb
  have h0 := hs.1
  unfold eSub
  obtain ⟨ha1, ha2⟩ := ha
  obtain ⟨hb1, hb2⟩ := hb
  cases hq : (Nat.beq a.1 b.1 && eFit (a.2.1 - b.2.2) (a.2.2 - b.2.1)) with
  | true =>
    rw [Bool.and_eq_true] at hq
    have hz : a.1 = b.1 := Nat.eq_of_beq_eq_true hq.1
    have hf := eFit_ok hq.2
    rw [hz] at ha1 ha2
    simp only [cond_true]
    have e := eSubI (x := x) (y := y) (by omega) (by omega)
    exact eIn_mk (by rw [h0, e]; omega) (by rw [h0, e]; omega)
  | false =>
    simp only [cond_false]
    cases hf : eFit ((eRg sr a).1 - (eRg sr b).2) ((eRg sr a).2 - (eRg sr b).1) with
    | false => exact eTop_ok h0 _
    | true =>
      have hf := eFit_ok hf
      have e := eSubI (x := x) (y := y) (by omega) (by omega)
      simp only [cond_true]
      cases hz : Nat.beq b.1 0 with
      | true =>
        have hz : b.1 = 0 := Nat.eq_of_beq_eq_true hz
        rw [hz, h0] at hb1 hb2
        simp only [cond_true]
        exact eIn_mk (by rw [e]; omega) (by rw [e]; omega)
      | false =>
        simp only [cond_false]
        exact eIn_mk (by rw [h0, e]; omega) (by rw [h0, e]; omega)
/-- one value alone -/
def eOne (q : eI) : Option Int32 := cond (Nat.beq q.1 0 && eLe q.2.2 q.2.1) (some (Int32.ofInt q.2.1)) none
theorem eOne_ok {σ : Nat → Int} (h0 : σ 0 = 0) {q : eI} {x y : Int32} (h : eIn σ q x) (hq : eOne q = some y) : x = y := by
  unfold eOne at hq
  cases hc : (Nat.beq q.1 0 && eLe q.2.2 q.2.1) with
  | false => rw [hc] at hq; cases hq
  | true =>
    rw [hc] at hq
    rw [Bool.and_eq_true] at hc
    have hz : q.1 = 0 := Nat.eq_of_beq_eq_true hc.1
    have hl := eLe_ok hc.2
    cases hq
    obtain ⟨h1, h2⟩ := h
    rw [hz, h0] at h1 h2
    rw [show q.2.1 = x.toInt by omega]
    exact (Int32.ofInt_toInt x).symm
def ePt (x : Int32) : eI := (0, x.toInt, x.toInt)
theorem ePt_ok {σ : Nat → Int} (h0 : σ 0 = 0) (x : Int32) : eIn σ (ePt x) x := eIn_mk (by omega) (by omega)
def eBin (f : Int32 → Int32 → Int32) (g a b : eI) : eI := match eOne a, eOne b with
  | some x, some y => ePt (f x y)
  | _, _ => g
theorem eBin_ok {σ : Nat → Int} (h0 : σ 0 = 0) {f : Int32 → Int32 → Int32} {g a b : eI} {x y : Int32} (ha : eIn σ a x) (hb : eIn σ b y) (hg : eIn σ g (f x y)) : eIn σ (eBin f g a b) (f x y) := by
  unfold eBin
  split
  · rename_i x' y' h1 h2
    rw [← eOne_ok h0 ha h1, ← eOne_ok h0 hb h2]
    exact ePt_ok h0 _
  · exact hg
/-- the remainder by a number above 0 -/
def eRem (sr : List (Int × Int)) (a b : eI) : eI := match eOne b with
  | some y => cond (eLe 1 y.toInt) (cond (eLe 0 (eRg sr a).1) (0, 0, y.toInt - 1) (0, 1 - y.toInt, y.toInt - 1)) eTop
  | none => eTop
theorem eRem_ok {sr : List (Int × Int)} {σ : Nat → Int} (hs : eSg sr σ) {a b : eI} {x y : Int32} (ha : eIn σ a x) (hb : eIn σ b y) : eIn σ (eRem sr a b) (x - x / y * y) := by
  have ra := eRg_ok hs ha
  have h0 := hs.1
  unfold eRem
  split
  · rename_i y' hy
    have hy := eOne_ok h0 hb hy
    subst hy
    cases hc : eLe 1 y.toInt with
    | false => exact eTop_ok h0 _
    | true =>
      have hc := eLe_ok hc
      have e := rem_toInt x y
      have hb := tmod_bounds (a := x.toInt) (M := y.toInt) (by omega)
      simp only [cond_true]
      cases hd : eLe 0 (eRg sr a).1 with
      | true =>
        have hd := eLe_ok hd
        have hn : 0 ≤ x.toInt.tmod y.toInt := Int.tmod_nonneg _ (by omega)
        exact eIn_mk (by rw [h0, e]; omega) (by rw [h0, e]; omega)
      | false => exact eIn_mk (by rw [h0, e]; omega) (by rw [h0, e]; omega)
  · exact eTop_ok h0 _
/-- the shift to the right without a sign, by 1 to 31 -/
def eUsh (b : eI) : eI := match eOne b with
  | some y => cond (eLe 1 y.toInt && eLe y.toInt 31) (0, 0, 2147483647) eTop
  | none => eTop
theorem e_ush : ∀ k : Nat, k < 32 → 0 < k → ∀ x : Int32, 0 ≤ (x.toUInt32 >>> ((Int32.ofNat k).toUInt32 &&& Int32.toUInt32 31)).toInt32.toInt := by
  intro k hk h0 x
  have e : (x.toUInt32 >>> ((Int32.ofNat k).toUInt32 &&& Int32.toUInt32 31)).toInt32.toBitVec.toNat = x.toBitVec.toNat / 2 ^ k := pk_ushr x (Int32.ofNat k) k (by revert k; decide)
  have hx : x.toBitVec.toNat < 2 ^ 32 := x.toBitVec.isLt
  have h2 : 2 ^ 1 ≤ 2 ^ k := Nat.pow_le_pow_right (by omega) h0
  have h3 : x.toBitVec.toNat / 2 ^ k ≤ x.toBitVec.toNat / 2 := Nat.div_le_div_left h2 (by omega)
  have h4 : (x.toUInt32 >>> ((Int32.ofNat k).toUInt32 &&& Int32.toUInt32 31)).toInt32.toInt = (x.toUInt32 >>> ((Int32.ofNat k).toUInt32 &&& Int32.toUInt32 31)).toInt32.toBitVec.toInt := rfl
  rw [h4, BitVec.toInt_eq_toNat_cond]
  split <;> omega
theorem eUsh_ok {σ : Nat → Int} (h0 : σ 0 = 0) {b : eI} {x y : Int32} (hb : eIn σ b y) : eIn σ (eUsh b) (x.toUInt32 >>> (y.toUInt32 &&& Int32.toUInt32 31)).toInt32 := by
  unfold eUsh
  split
  · rename_i y' hy
    have hy := eOne_ok h0 hb hy
    subst hy
    cases hc : (eLe 1 y.toInt && eLe y.toInt 31) with
    | false => exact eTop_ok h0 _
    | true =>
      rw [Bool.and_eq_true] at hc
      have h1 := eLe_ok hc.1
      have h2 := eLe_ok hc.2
      have ey : y = Int32.ofNat y.toInt.toNat := by
        apply Int32.toInt_inj.mp
        rw [Int32.toInt_ofNat_of_lt (by omega)]
        omega
      simp only [cond_true]
      have h3 := e_ush y.toInt.toNat (by omega) (by omega) x
      rw [← ey] at h3
      exact eIn_mk (by rw [h0]; omega) (by rw [h0]; have := e_hi (x.toUInt32 >>> (y.toUInt32 &&& Int32.toUInt32 31)).toInt32; omega)
  · exact eTop_ok h0 _
/-- one is below another: known, or not -/
def eLt (sr : List (Int × Int)) (a b : eI) : Option Bool :=
  cond (Nat.beq a.1 b.1)
    (cond (eLe (a.2.2 + 1) b.2.1) (some true) (cond (eLe b.2.2 a.2.1) (some false) none))
    (cond (eLe ((eRg sr a).2 + 1) (eRg sr b).1) (some true) (cond (eLe (eRg sr b).2 (eRg sr a).1) (some false) none))
theorem eLt_ok {sr : List (Int × Int)} {σ : Nat → Int} (hs : eSg sr σ) {a b : eI} {x y : Int32} (ha : eIn σ a x) (hb : eIn σ b y) {r : Bool} (h : eLt sr a b = some r) : (x < y) = (r = true) := by
  have ra := eRg_ok hs ha
  have rb := eRg_ok hs hb
  obtain ⟨ha1, ha2⟩ := ha
  obtain ⟨hb1, hb2⟩ := hb
  have tt : x.toInt < y.toInt → (x < y) = (true = true) := fun q => by simp [Int32.lt_iff_toInt_lt, q]
  have ff : y.toInt ≤ x.toInt → (x < y) = (false = true) := fun q => by simp [Int32.lt_iff_toInt_lt, Int.not_lt.mpr q]
  unfold eLt at h
  cases hz : Nat.beq a.1 b.1 with
  | true =>
    rw [hz] at h
    have hz : a.1 = b.1 := Nat.eq_of_beq_eq_true hz
    rw [hz] at ha1 ha2
    simp only [cond_true] at h
    cases h1 : eLe (a.2.2 + 1) b.2.1 with
    | true => rw [h1] at h; have h1 := eLe_ok h1; cases h; exact tt (by omega)
    | false =>
      rw [h1] at h
      cases h2 : eLe b.2.2 a.2.1 with
      | true => rw [h2] at h; have h2 := eLe_ok h2; cases h; exact ff (by omega)
      | false => rw [h2] at h; cases h
  | false =>
    rw [hz] at h
    simp only [cond_false] at h
    cases h1 : eLe ((eRg sr a).2 + 1) (eRg sr b).1 with
    | true => rw [h1] at h; have h1 := eLe_ok h1; cases h; exact tt (by omega)
    | false =>
      rw [h1] at h
      cases h2 : eLe (eRg sr b).2 (eRg sr a).1 with
      | true => rw [h2] at h; have h2 := eLe_ok h2; cases h; exact ff (by omega)
      | false => rw [h2] at h; cases h
def eEq (sr : List (Int × Int)) (a b : eI) : Option Bool := match eLt sr a b, eLt sr b a with
  | some false, some false => some true
  | some true, _ => some false
  | _, some true => some false
  | _, _ => none
theorem eEq_ok {sr : List (Int × Int)} {σ : Nat → Int} (hs : eSg sr σ) {a b : eI} {x y : Int32} (ha : eIn σ a x) (hb : eIn σ b y) {r : Bool} (h : eEq sr a b = some r) : (x = y) = (r = true) := by
  have lt := @eLt_ok sr σ hs a b x y ha hb
  have gt := @eLt_ok sr σ hs b a y x hb ha
  have eqi : (x = y) = (x.toInt = y.toInt) := propext (Int32.toInt_inj.symm)
  unfold eEq at h
  split at h
  · rename_i h1 h2
    have h1 := lt h1
    have h2 := gt h2
    simp only [Int32.lt_iff_toInt_lt, Bool.false_eq_true, eq_iff_iff, iff_false] at h1 h2
    cases h
    rw [eqi]
    simp only [eq_iff_iff, iff_true]
    omega
  · rename_i h1
    have h1 := lt h1
    simp only [Int32.lt_iff_toInt_lt, eq_iff_iff, iff_true] at h1
    cases h
    rw [eqi]
    simp only [Bool.false_eq_true, eq_iff_iff, iff_false]
    omega
  · rename_i h1 hx
    have h1 := gt h1
    simp only [Int32.lt_iff_toInt_lt, eq_iff_iff, iff_true] at h1
    cases h
    rw [eqi]
    simp only [Bool.false_eq_true, eq_iff_iff, iff_false]
    omega
  · cases h
/-- a comparison by its name -/
def eCmp (sr : List (Int × Int)) (c : Jvm.ClassFile.Cond) (a b : eI) : Option Bool := match c with
  | .eq => eEq sr a b
  | .ne => (eEq sr a b).map (!·)
  | .lt => eLt sr a b
  | .ge => (eLt sr a b).map (!·)
  | .gt => eLt sr b a
  | .le => (eLt sr b a).map (!·)
def eL2 (f : Int64 → Int64 → Int64) (a b : Option Int64) : Option Int64 := match a, b with
  | some x, some y => some (f x y)
  | _, _ => none
theorem eL2_ok {f : Int64 → Int64 → Int64} {a b : Option Int64} {x y : Int64} (ha : ∀ z, a = some z → x = z) (hb : ∀ z, b = some z → y = z) : ∀ z, eL2 f a b = some z → f x y = z := by
  intro z h
  unfold eL2 at h
  split at h
  · rename_i u v
    cases h
    rw [ha _ rfl, hb _ rfl]
  · cases h
