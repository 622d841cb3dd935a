section
/-! THE ENGINE, 1: what is known of a value, of a cell; reckoning with it. A symbol's number stands first (0: none); then the bounds of what comes to it. -/
abbrev eI : Type := Nat × Int × Int
abbrev eV : Type := eI ⊕ (Option Nat ⊕ Option Int64)
abbrev eC : Type := (Nat × List eV) ⊕ (Nat × Nat × (List eV ⊕ (Int × Int)))
def eTop : eI := (0, -2147483648, 2147483647)
def eLe (a b : Int) : Bool := match b - a with
  | .ofNat _ => true
  | .negSucc _ => false
theorem eLe_ok {a b : Int} (h : eLe a b = true) : a ≤ b := by
  unfold eLe at h
  split at h
  · rename_i n hn
    have : (0 : Int) ≤ Int.ofNat n := Int.natCast_nonneg n
    omega
  · cases h
theorem eLe_no {a b : Int} (h : eLe a b = false) : b < a := by
  unfold eLe at h
  split at h
  · cases h
  · rename_i n hn; omega
def eIn (σ : Nat → Int) (q : eI) (x : Int32) : Prop := σ q.1 + q.2.1 ≤ x.toInt ∧ x.toInt ≤ σ q.1 + q.2.2
def eSg (sr : List (Int × Int)) (σ : Nat → Int) : Prop := σ 0 = 0 ∧ ∀ (j : Nat) (q : Int × Int), sr[j]? = some q → q.1 ≤ σ j ∧ σ j ≤ q.2
def eOk (ad : List Nat) (σ : Nat → Int) (v : eV) (w : Value) : Prop := match v with
  | .inl q => ∃ x : Int32, w = .int x ∧ eIn σ q x
  | .inr (.inl none) => w = .null
  | .inr (.inl (some k)) => ∃ a : Nat, ad[k]? = some a ∧ w = .ref a
  | .inr (.inr o) => ∃ x : Int64, w = .long x ∧ ∀ y : Int64, o = some y → x = y
def eCat (v : eV) : Nat := match v with
  | .inr (.inr _) => 2
  | _ => 1
theorem eOk_cat {ad : List Nat} {σ : Nat → Int} {v : eV} {w : Value} (h : eOk ad σ v w) : w.category = eCat v := by
  match v, h with
  | .inl q, ⟨x, hw, _⟩ => rw [hw]; rfl
  | .inr (.inl none), h => rw [show w = .null from h]; rfl
  | .inr (.inl (some k)), ⟨a, _, hw⟩ => rw [hw]; rfl
  | .inr (.inr _), ⟨x, hw, _⟩ => rw [hw]; rfl
theorem e_lo (x : Int32) : -2147483648 ≤ x.toInt := by have := Int32.le_toInt x; omega
theorem e_hi (x : Int32) : x.toInt ≤ 2147483647 := by have := Int32.toInt_lt x; omega
theorem eIn_mk {σ : Nat → Int} {b : Nat} {lo hi : Int} {x : Int32} (h1 : σ b + lo ≤ x.toInt) (h2 : x.toInt ≤ σ b + hi) : eIn σ (b, lo, hi) x := ⟨h1, h2⟩
theorem eTop_ok {σ : Nat → Int} (h0 : σ 0 = 0) (x : Int32) : eIn σ eTop x := ⟨by show σ 0 + -2147483648 ≤ _; have := e_lo x; omega, by show _ ≤ σ 0 + 2147483647; have := e_hi x; omega⟩
/-- plain bounds -/
def eRg (sr : List (Int × Int)) (q : eI) : Int × Int := match sr[q.1]? with
  | some r => (r.1 + q.2.1, r.2 + q.2.2)
  | none => (-2147483648, 2147483647)
theorem eRg_ok {sr : List (Int × Int)} {σ : Nat → Int} (hs : eSg sr σ) {q : eI} {x : Int32} (h : eIn σ q x) : (eRg sr q).1 ≤ x.toInt ∧ x.toInt ≤ (eRg sr q).2 := by
  unfold eRg
  split
  · rename_i r hr
    have := hs.2 _ _ hr
    obtain ⟨h1, h2⟩ := h
    exact ⟨by show r.1 + q.2.1 ≤ _; omega, by show _ ≤ r.2 + q.2.2; omega⟩
  · exact ⟨e_lo x, e_hi x⟩
theorem eAddI {x y : Int32} (h1 : -2147483648 ≤ x.toInt + y.toInt) (h2 : x.toInt + y.toInt ≤ 2147483647) : (x + y).toInt = x.toInt + y.toInt := by
  rw [Int32.toInt_add]; exact Int.bmod_eq_of_le (by omega) (by omega)
theorem eSubI {x y : Int32} (h1 : -2147483648 ≤ x.toInt - y.toInt) (h2 : x.toInt - y.toInt ≤ 2147483647) : (x - y).toInt = x.toInt - y.toInt := by
  rw [Int32.toInt_sub]; exact Int.bmod_eq_of_le (by omega) (by omega)
def eFit (lo hi : Int) : Bool := eLe (-2147483648) lo && eLe hi 2147483647
theorem eFit_ok {lo hi : Int} (h : eFit lo hi = true) : -2147483648 ≤ lo ∧ hi ≤ 2147483647 := by
  unfold eFit at h
  rw [Bool.and_eq_true] at h
  exact ⟨eLe_ok h.1, eLe_ok h.2⟩
def eAdd (sr : List (Int × Int)) (a b : eI) : eI :=
  cond (eFit ((eRg sr a).1 + (eRg sr b).1) ((eRg sr a).2 + (eRg sr b).2))
    (cond (Nat.beq b.1 0) (a.1, a.2.1 + b.2.1, a.2.2 + b.2.2) (cond (Nat.beq a.1 0) (b.1, a.2.1 + b.2.1, a.2.2 + b.2.2) (0, (eRg sr a).1 + (eRg sr b).1, (eRg sr a).2 + (eRg sr b).2)))
    eTop
theorem eAdd_ok {sr : List (Int × Int)} {σ : Nat → Int} (hs : eSg sr σ) {a b : eI} {x y : Int32} (ha : eIn σ a x) (hb : eIn σ b y) : eIn σ (eAdd sr a b) (x + y) := by
  have ra := eRg_ok hs ha
  have rb := eRg_ok hs hb
  have h0 := hs.1
  unfold eAdd
  cases hf : eFit ((eRg sr a).1 + (eRg sr b).1) ((eRg sr a).2 + (eRg sr b).2) with
  | false => exact eTop_ok h0 _
  | true =>
    have hf := eFit_ok hf
    have e := eAddI (x := x) (y := y) (by omega) (by omega)
    obtain ⟨ha1, ha2⟩ := ha
    obtain ⟨hb1, hb2⟩ := hb
    simp only [cond_true]
    cases hz : Nat.beq b.1 0 with
    | true =>
      have hz : b.1 = 0 := Nat.eq_of_beq_eq_true hz
      rw [hz, h0] at hb1 hb2
      simp only [cond_true]
      exact eIn_mk (by rw [e]; omega) (by rw [e]; omega)
    | false =>
      simp only [cond_false]
      cases hz : Nat.beq a.1 0 with
      | true =>
        have hz : a.1 = 0 := Nat.eq_of_beq_eq_true hz
        rw [hz, h0] at ha1 ha2
        simp only [cond_true]
        exact eIn_mk (by rw [e]; omega) (by rw [e]; omega)
      | false =>
        simp only [cond_false]
        exact eIn_mk (by rw [h0, e]; omega) (by rw [h0, e]; omega)
def eSub (sr : List (Int × Int)) (a b : eI) : eI :=
  cond (Nat.beq a.1 b.1 && eFit (a.2.1 - b.2.2) (a.2.2 - b.2.1)) (0, a.2.1 - b.2.2, a.2.2 - b.2.1)
    (cond (eFit ((eRg sr a).1 - (eRg sr b).2) ((eRg sr a).2 - (eRg sr b).1))
      (cond (Nat.beq b.1 0) (a.1, a.2.1 - b.2.2, a.2.2 - b.2.1) (0, (eRg sr a).1 - (eRg sr b).2, (eRg sr a).2 - (eRg sr b).1))
      eTop)
theorem eSub_ok {sr : List (Int × Int)} {σ : Nat → Int} (hs : eSg sr σ) {a b : eI} {x y : Int32} (ha : eIn σ a x) (hb : eIn σ b y) : eIn σ (eSub sr a b) (x - y) := by
  have ra := eRg_ok hs ha
  have rb := eRg_ok hs hb
  have h0 := hs.1
  unfold eSub
  obtain ⟨ha1, ha2⟩ := ha
  obtain ⟨hb1, hb2⟩ := hb
  cases hq : (Nat.beq a.1 b.1 && eFit (a.2.1 - b.2.2) (a.2.2 - b.2.1)) with
  | true =>
    rw [Bool.and_eq_true] at hq
    have hz : a.1 = b.1 := Nat.eq_of_beq_eq_true hq.1
    have hf := eFit_ok hq.2
    rw [hz] at ha1 ha2
    simp only [cond_true]
    have e := eSubI (x := x) (y := y) (by omega) (by omega)
    exact eIn_mk (by rw [h0, e]; omega) (by rw [h0, e]; omega)
  | false =>
    simp only [cond_false]
    cases hf : eFit ((eRg sr a).1 - (eRg sr b).2) ((eRg sr a).2 - (eRg sr b).1) with
    | false => exact eTop_ok h0 _
    | true =>
      have hf := eFit_ok hf
      have e := eSubI (x := x) (y := y) (by omega) (by omega)
      simp only [cond_true]
      cases hz : Nat.beq b.1 0 with
      | true =>
        have hz : b.1 = 0 := Nat.eq_of_beq_eq_true hz
        rw [hz, h0] at hb1 hb2
        simp only [cond_true]
        exact eIn_mk (by rw [e]; omega) (by rw [e]; omega)
      | false =>
        simp only [cond_false]
        exact eIn_mk (by rw [h0, e]; omega) (by rw [h0, e]; omega)
/-- one value alone -/
def eOne (q : eI) : Option Int32 := cond (Nat.beq q.1 0 && eLe q.2.2 q.2.1) (some (Int32.ofInt q.2.1)) none
theorem eOne_ok {σ : Nat → Int} (h0 : σ 0 = 0) {q : eI} {x y : Int32} (h : eIn σ q x) (hq : eOne q = some y) : x = y := by
  unfold eOne at hq
  cases hc : (Nat.beq q.1 0 && eLe q.2.2 q.2.1) with
  | false => rw [hc] at hq; cases hq
  | true =>
    rw [hc] at hq
    rw [Bool.and_eq_true] at hc
    have hz : q.1 = 0 := Nat.eq_of_beq_eq_true hc.1
    have hl := eLe_ok hc.2
    cases hq
    obtain ⟨h1, h2⟩ := h
    rw [hz, h0] at h1 h2
    rw [show q.2.1 = x.toInt by omega]
    exact (Int32.ofInt_toInt x).symm
def ePt (x : Int32) : eI := (0, x.toInt, x.toInt)
theorem ePt_ok {σ : Nat → Int} (h0 : σ 0 = 0) (x : Int32) : eIn σ (ePt x) x := eIn_mk (by omega) (by omega)
def eBin (f : Int32 → Int32 → Int32) (g a b : eI) : eI := match eOne a, eOne b with
  | some x, some y => ePt (f x y)
  | _, _ => g
theorem eBin_ok {σ : Nat → Int} (h0 : σ 0 = 0) {f : Int32 → Int32 → Int32} {g a b : eI} {x y : Int32} (ha : eIn σ a x) (hb : eIn σ b y) (hg : eIn σ g (f x y)) : eIn σ (eBin f g a b) (f x y) := by
  unfold eBin
  split
  · rename_i x' y' h1 h2
    rw [← eOne_ok h0 ha h1, ← eOne_ok h0 hb h2]
    exact ePt_ok h0 _
  · exact hg
/-- the remainder by a number above 0 -/
def eRem (sr : List (Int × Int)) (a b : eI) : eI := match eOne b with
  | some y => cond (eLe 1 y.toInt) (cond (eLe 0 (eRg sr a).1) (0, 0, y.toInt - 1) (0, 1 - y.toInt, y.toInt - 1)) eTop
  | none => eTop
theorem eRem_ok {sr : List (Int × Int)} {σ : Nat → Int} (hs : eSg sr σ) {a b : eI} {x y : Int32} (ha : eIn σ a x) (hb : eIn σ b y) : eIn σ (eRem sr a b) (x - x / y * y) := by
  have ra := eRg_ok hs ha
  have h0 := hs.1
  unfold eRem
  split
  · rename_i y' hy
    have hy := eOne_ok h0 hb hy
    subst hy
    cases hc : eLe 1 y.toInt with
    | false => exact eTop_ok h0 _
    | true =>
      have hc := eLe_ok hc
      have e := rem_toInt x y
      have hb := tmod_bounds (a := x.toInt) (M := y.toInt) (by omega)
      simp only [cond_true]
      cases hd : eLe 0 (eRg sr a).1 with
      | true =>
        have hd := eLe_ok hd
        have hn : 0 ≤ x.toInt.tmod y.toInt := Int.tmod_nonneg _ (by omega)
        exact eIn_mk (by rw [h0, e]; omega) (by rw [h0, e]; omega)
      | false => exact eIn_mk (by rw [h0, e]; omega) (by rw [h0, e]; omega)
  · exact eTop_ok h0 _
/-- the shift to the right without a sign, by 1 to 31 -/
def eUsh (b : eI) : eI := match eOne b with
  | some y => cond (eLe 1 y.toInt && eLe y.toInt 31) (0, 0, 2147483647) eTop
  | none => eTop
theorem e_ush : ∀ k : Nat, k < 32 → 0 < k → ∀ x : Int32, 0 ≤ (x.toUInt32 >>> ((Int32.ofNat k).toUInt32 &&& Int32.toUInt32 31)).toInt32.toInt := by
  intro k hk h0 x
  have e : (x.toUInt32 >>> ((Int32.ofNat k).toUInt32 &&& Int32.toUInt32 31)).toInt32.toBitVec.toNat = x.toBitVec.toNat / 2 ^ k := pk_ushr x (Int32.ofNat k) k (by revert k; decide)
  have hx : x.toBitVec.toNat < 2 ^ 32 := x.toBitVec.isLt
  have h2 : 2 ^ 1 ≤ 2 ^ k := Nat.pow_le_pow_right (by omega) h0
  have h3 : x.toBitVec.toNat / 2 ^ k ≤ x.toBitVec.toNat / 2 := Nat.div_le_div_left h2 (by omega)
  have h4 : (x.toUInt32 >>> ((Int32.ofNat k).toUInt32 &&& Int32.toUInt32 31)).toInt32.toInt = (x.toUInt32 >>> ((Int32.ofNat k).toUInt32 &&& Int32.toUInt32 31)).toInt32.toBitVec.toInt := rfl
  rw [h4, BitVec.toInt_eq_toNat_cond]
  split <;> omega
theorem eUsh_ok {σ : Nat → Int} (h0 : σ 0 = 0) {b : eI} {x y : Int32} (hb : eIn σ b y) : eIn σ (eUsh b) (x.toUInt32 >>> (y.toUInt32 &&& Int32.toUInt32 31)).toInt32 := by
  unfold eUsh
  split
  · rename_i y' hy
    have hy := eOne_ok h0 hb hy
    subst hy
    cases hc : (eLe 1 y.toInt && eLe y.toInt 31) with
    | false => exact eTop_ok h0 _
    | true =>
      rw [Bool.and_eq_true] at hc
      have h1 := eLe_ok hc.1
      have h2 := eLe_ok hc.2
      have ey : y = Int32.ofNat y.toInt.toNat := by
        apply Int32.toInt_inj.mp
        rw [Int32.toInt_ofNat_of_lt (by omega)]
        omega
      simp only [cond_true]
      have h3 := e_ush y.toInt.toNat (by omega) (by omega) x
      rw [← ey] at h3
      exact eIn_mk (by rw [h0]; omega) (by rw [h0]; have := e_hi (x.toUInt32 >>> (y.toUInt32 &&& Int32.toUInt32 31)).toInt32; omega)
  · exact eTop_ok h0 _
/-- one is below another: known, or not -/
def eLt (sr : List (Int × Int)) (a b : eI) : Option Bool :=
  cond (Nat.beq a.1 b.1)
    (cond (eLe (a.2.2 + 1) b.2.1) (some true) (cond (eLe b.2.2 a.2.1) (some false) none))
    (cond (eLe ((eRg sr a).2 + 1) (eRg sr b).1) (some true) (cond (eLe (eRg sr b).2 (eRg sr a).1) (some false) none))
theorem eLt_ok {sr : List (Int × Int)} {σ : Nat → Int} (hs : eSg sr σ) {a b : eI} {x y : Int32} (ha : eIn σ a x) (hb : eIn σ b y) {r : Bool} (h : eLt sr a b = some r) : (x < y) = (r = true) := by
  have ra := eRg_ok hs ha
  have rb := eRg_ok hs hb
  obtain ⟨ha1, ha2⟩ := ha
  obtain ⟨hb1, hb2⟩ := hb
  have tt : x.toInt < y.toInt → (x < y) = (true = true) := fun q => by simp [Int32.lt_iff_toInt_lt, q]
  have ff : y.toInt ≤ x.toInt → (x < y) = (false = true) := fun q => by simp [Int32.lt_iff_toInt_lt, Int.not_lt.mpr q]
  unfold eLt at h
  cases hz : Nat.beq a.1 b.1 with
  | true =>
    rw [hz] at h
    have hz : a.1 = b.1 := Nat.eq_of_beq_eq_true hz
    rw [hz] at ha1 ha2
    simp only [cond_true] at h
    cases h1 : eLe (a.2.2 + 1) b.2.1 with
    | true => rw [h1] at h; have h1 := eLe_ok h1; cases h; exact tt (by omega)
    | false =>
      rw [h1] at h
      cases h2 : eLe b.2.2 a.2.1 with
      | true => rw [h2] at h; have h2 := eLe_ok h2; cases h; exact ff (by omega)
      | false => rw [h2] at h; cases h
  | false =>
    rw [hz] at h
    simp only [cond_false] at h
    cases h1 : eLe ((eRg sr a).2 + 1) (eRg sr b).1 with
    | true => rw [h1] at h; have h1 := eLe_ok h1; cases h; exact tt (by omega)
    | false =>
      rw [h1] at h
      cases h2 : eLe (eRg sr b).2 (eRg sr a).1 with
      | true => rw [h2] at h; have h2 := eLe_ok h2; cases h; exact ff (by omega)
      | false => rw [h2] at h; cases h
def eEq (sr : List (Int × Int)) (a b : eI) : Option Bool := match eLt sr a b, eLt sr b a with
  | some false, some false => some true
  | some true, _ => some false
  | _, some true => some false
  | _, _ => none
theorem eEq_ok {sr : List (Int × Int)} {σ : Nat → Int} (hs : eSg sr σ) {a b : eI} {x y : Int32} (ha : eIn σ a x) (hb : eIn σ b y) {r : Bool} (h : eEq sr a b = some r) : (x = y) = (r = true) := by
  have lt := @eLt_ok sr σ hs a b x y ha hb
  have gt := @eLt_ok sr σ hs b a y x hb ha
  have eqi : (x = y) = (x.toInt = y.toInt) := propext (Int32.toInt_inj.symm)
  unfold eEq at h
  split at h
  · rename_i h1 h2
    have h1 := lt h1
    have h2 := gt h2
    simp only [Int32.lt_iff_toInt_lt, Bool.false_eq_true, eq_iff_iff, iff_false] at h1 h2
    cases h
    rw [eqi]
    simp only [eq_iff_iff, iff_true]
    omega
  · rename_i h1
    have h1 := lt h1
    simp only [Int32.lt_iff_toInt_lt, eq_iff_iff, iff_true] at h1
    cases h
    rw [eqi]
    simp only [Bool.false_eq_true, eq_iff_iff, iff_false]
    omega
  · rename_i h1 hx
    have h1 := gt h1
    simp only [Int32.lt_iff_toInt_lt, eq_iff_iff, iff_true] at h1
    cases h
    rw [eqi]
    simp only [Bool.false_eq_true, eq_iff_iff, iff_false]
    omega
  · cases h
/-- a comparison by its name -/
def eCmp (sr : List (Int × Int)) (c : Jvm.ClassFile.Cond) (a b : eI) : Option Bool := match c with
  | .eq => eEq sr a b
  | .ne => (eEq sr a b).map (!·)
  | .lt => eLt sr a b
  | .ge => (eLt sr a b).map (!·)
  | .gt => eLt sr b a
  | .le => (eLt sr b a).map (!·)
def eL2 (f : Int64 → Int64 → Int64) (a b : Option Int64) : Option Int64 := match a, b with
  | some x, some y => some (f x y)
  | _, _ => none
theorem eL2_ok {f : Int64 → Int64 → Int64} {a b : Option Int64} {x y : Int64} (ha : ∀ z, a = some z → x = z) (hb : ∀ z, b = some z → y = z) : ∀ z, eL2 f a b = some z → f x y = z := by
  intro z h
  unfold eL2 at h
  split at h
  · rename_i u v
    cases h
    rw [ha _ rfl, hb _ rfl]
  · cases h
end
section
/-! THE ENGINE, 2: lists that answer to lists; cells, locals, stacks. -/
def eAll {α β : Type} (r : α → β → Prop) : List α → List β → Prop
  | [], [] => True
  | a :: as, b :: bs => r a b ∧ eAll r as bs
  | [], _ :: _ => False
  | _ :: _, [] => False
section EAL
variable {α β : Type} {r : α → β → Prop}
theorem eAll_cons {a : α} {as : List α} {bs : List β} (h : eAll r (a :: as) bs) : ∃ (b : β) (bs' : List β), bs = b :: bs' ∧ r a b ∧ eAll r as bs' := by
  match bs, h with
  | b :: bs', h => exact ⟨b, bs', rfl, h.1, h.2⟩
theorem eAll_nil {bs : List β} (h : eAll r ([] : List α) bs) : bs = [] := by
  match bs, h with
  | [], _ => rfl
theorem eAll_len : ∀ {as : List α} {bs : List β}, eAll r as bs → as.length = bs.length
  | [], [], _ => rfl
  | _ :: as, _ :: bs, h => by simp [eAll_len (as := as) (bs := bs) h.2]
theorem eAll_get : ∀ {as : List α} {bs : List β}, eAll r as bs → ∀ {k : Nat} {a : α}, as[k]? = some a → ∃ b, bs[k]? = some b ∧ r a b
  | [], [], _, k, a, hk => by simp at hk
  | a' :: as, b' :: bs, h, 0, a, hk => by simp at hk; subst hk; exact ⟨b', by simp, h.1⟩
  | a' :: as, b' :: bs, h, k + 1, a, hk => by
    simp at hk
    obtain ⟨b, h1, h2⟩ := eAll_get h.2 hk
    exact ⟨b, by simpa using h1, h2⟩
theorem eAll_getR : ∀ {as : List α} {bs : List β}, eAll r as bs → ∀ {k : Nat} {b : β}, bs[k]? = some b → ∃ a, as[k]? = some a ∧ r a b
  | [], [], _, k, b, hk => by simp at hk
  | a' :: as, b' :: bs, h, 0, b, hk => by simp at hk; subst hk; exact ⟨a', by simp, h.1⟩
  | a' :: as, b' :: bs, h, k + 1, b, hk => by
    simp at hk
    obtain ⟨a, h1, h2⟩ := eAll_getR h.2 hk
    exact ⟨a, by simpa using h1, h2⟩
theorem eAll_set : ∀ {as : List α} {bs : List β}, eAll r as bs → ∀ (k : Nat) {a : α} {b : β}, r a b → eAll r (as.set k a) (bs.set k b)
  | [], [], _, _, _, _, _ => trivial
  | _ :: _, _ :: _, h, 0, _, _, hr => ⟨hr, h.2⟩
  | _ :: _, _ :: _, h, k + 1, _, _, hr => ⟨h.1, eAll_set h.2 k hr⟩
theorem eAll_app : ∀ {as : List α} {bs : List β} {cs : List α} {ds : List β}, eAll r as bs → eAll r cs ds → eAll r (as ++ cs) (bs ++ ds)
  | [], [], _, _, _, h2 => h2
  | _ :: _, _ :: _, _, _, h, h2 => ⟨h.1, eAll_app h.2 h2⟩
theorem eAll_mono {r' : α → β → Prop} (hm : ∀ a b, r a b → r' a b) : ∀ {as : List α} {bs : List β}, eAll r as bs → eAll r' as bs
  | [], [], _ => trivial
  | _ :: _, _ :: _, h => ⟨hm _ _ h.1, eAll_mono hm h.2⟩
theorem eAll_filter {f : α → Bool} {g : β → Bool} (hm : ∀ a b, r a b → f a = g b) : ∀ {as : List α} {bs : List β}, eAll r as bs → eAll r (as.filter f) (bs.filter g)
  | [], [], _ => trivial
  | a :: as, b :: bs, h => by
    have e := hm a b h.1
    cases hg : g b with
    | true => rw [List.filter_cons_of_pos (by rw [e, hg]), List.filter_cons_of_pos hg]; exact ⟨h.1, eAll_filter hm h.2⟩
    | false => rw [List.filter_cons_of_neg (by rw [e, hg]; decide), List.filter_cons_of_neg (by rw [hg]; decide)]; exact eAll_filter hm h.2
theorem eAll_mem : ∀ {as : List α} {bs : List β}, eAll r as bs → ∀ {a : α}, a ∈ as → ∃ b, b ∈ bs ∧ r a b := by
  intro as bs h a ha
  obtain ⟨k, hk⟩ := List.getElem?_of_mem ha
  obtain ⟨b, h1, h2⟩ := eAll_get h hk
  exact ⟨b, List.mem_of_getElem? h1, h2⟩
theorem eAll_rev {as : List α} {bs : List β} (h : eAll r as bs) : eAll r as.reverse bs.reverse := by
  induction as generalizing bs with
  | nil => rw [eAll_nil h]; trivial
  | cons a as ih =>
    obtain ⟨b, bs', rfl, h1, h2⟩ := eAll_cons h
    simp only [List.reverse_cons]
    exact eAll_app (ih h2) ⟨h1, trivial⟩
end EAL
theorem eOk_ad {ad ad' : List Nat} {σ : Nat → Int} (hp : ∃ t, ad' = ad ++ t) {v : eV} {w : Value} (h : eOk ad σ v w) : eOk ad' σ v w := by
  match v, h with
  | .inl q, h => exact h
  | .inr (.inl none), h => exact h
  | .inr (.inl (some k)), ⟨a, h1, h2⟩ =>
    obtain ⟨t, rfl⟩ := hp
    refine ⟨a, ?_, h2⟩
    rw [List.getElem?_append_left (List.getElem?_eq_some_iff.mp h1).1]
    exact h1
  | .inr (.inr _), h => exact h
/-- arrays: 0 ints, 1 bytes, 2 booleans, 3 longs, 4 rows of ints -/
def eTy (k : Nat) : FieldType := match k with
  | 0 => .int
  | 1 => .byte
  | 2 => .boolean
  | 3 => .long
  | _ => .array .int
def eCt (ad : List Nat) (σ : Nat → Int) (n : Nat) (f : Nat → Int32) (c : List eV ⊕ (Int × Int)) : Prop := match c with
  | .inl es => ∀ j, j < n → ∃ v, es[j]? = some v ∧ eOk ad σ v (.int (f j))
  | .inr q => ∀ j, j < n → q.1 ≤ (f j).toInt ∧ (f j).toInt ≤ q.2
def eAr (ad : List Nat) (σ : Nat → Int) (k n : Nat) (c : List eV ⊕ (Int × Int)) (cA : ClassId) (e : va_E) : Prop := match k with
  | 3 => ∃ f : Nat → Int64, e = .inl (cA, n, .inr (.inl f)) ∧ match c with
    | .inl es => ∀ j, j < n → ∃ v, es[j]? = some v ∧ eOk ad σ v (.long (f j))
    | .inr _ => True
  | 4 => ∃ f : Nat → Option Nat, e = .inl (cA, n, .inr (.inr (.inr (.inr f)))) ∧ match c with
    | .inl es => ∀ j, j < n → ∃ v, es[j]? = some v ∧ eOk ad σ v (va_rf (f j))
    | .inr _ => True
  | _ => ∃ f : Nat → Int32, e = .inl (cA, n, .inl f) ∧ eCt ad σ n f c
def eCk (ad : List Nat) (σ : Nat → Int) (tys : List (ClassId × FieldType)) (c : eC) (q : Nat × va_E) : Prop := match c with
  | .inl o => ∃ vs : List Value, q.2 = .inr (o.1, vs) ∧ eAll (eOk ad σ) o.2 vs
  | .inr a => ∃ (cA : ClassId) (t0 : Nat), tys[t0]? = some (cA, eTy a.1) ∧ a.2.1 < 2 ^ 31 ∧ eAr ad σ a.1 a.2.1 a.2.2 cA q.2
theorem eAr_ad {ad ad' : List Nat} {σ : Nat → Int} (hp : ∃ t, ad' = ad ++ t) {k n : Nat} {c : List eV ⊕ (Int × Int)} {cA : ClassId} {e : va_E} (h : eAr ad σ k n c cA e) : eAr ad' σ k n c cA e := by
  unfold eAr at h ⊢
  split at h
  · obtain ⟨f, h1, h2⟩ := h
    refine ⟨f, h1, ?_⟩
    cases c with
    | inl es => exact fun j hj => by obtain ⟨v, g1, g2⟩ := h2 j hj; exact ⟨v, g1, eOk_ad hp g2⟩
    | inr q => trivial
  · obtain ⟨f, h1, h2⟩ := h
    refine ⟨f, h1, ?_⟩
    cases c with
    | inl es => exact fun j hj => by obtain ⟨v, g1, g2⟩ := h2 j hj; exact ⟨v, g1, eOk_ad hp g2⟩
    | inr q => trivial
  · obtain ⟨f, h1, h2⟩ := h
    refine ⟨f, h1, ?_⟩
    cases c with
    | inl es => exact fun j hj => by obtain ⟨v, g1, g2⟩ := h2 j hj; exact ⟨v, g1, eOk_ad hp g2⟩
    | inr q => exact h2
theorem eCk_ad {ad ad' : List Nat} {σ : Nat → Int} {tys tys' : List (ClassId × FieldType)} (hp : ∃ t, ad' = ad ++ t) (ht : ∃ t, tys' = tys ++ t) {c : eC} {q : Nat × va_E} (h : eCk ad σ tys c q) : eCk ad' σ tys' c q := by
  match c, h with
  | .inl o, ⟨vs, h1, h2⟩ => exact ⟨vs, h1, eAll_mono (fun _ _ => eOk_ad hp) h2⟩
  | .inr a, ⟨cA, t0, h1, h2, h3⟩ =>
    obtain ⟨t, rfl⟩ := ht
    exact ⟨cA, t0, by rw [List.getElem?_append_left (List.getElem?_eq_some_iff.mp h1).1]; exact h1, h2, eAr_ad hp h3⟩
abbrev eH : Type := List eC
abbrev eL : Type := List (Nat × eV)
/-- a place in a method: where, locals, stack, cells, how many cells and slots it has made -/
abbrev eS : Type := Nat × eL × List eV × eH × Nat × Nat
def eLo (ad : List Nat) (σ : Nat → Int) (q : Nat × eV) (w : Nat × Value) : Prop := q.1 = w.1 ∧ eOk ad σ q.2 w.2
def eGet (l : eL) (i : Nat) : Option eV := match l with
  | [] => none
  | q :: l => cond (Nat.beq q.1 i) (some q.2) (eGet l i)
theorem eGet_ok {ad : List Nat} {σ : Nat → Int} : ∀ {l : eL} {lv : List (Nat × Value)} {i : Nat} {v : eV}, eAll (eLo ad σ) l lv → eGet l i = some v → ∃ w, (i, w) ∈ lv ∧ eOk ad σ v w
  | [], _, i, v, h, hg => by simp [eGet] at hg
  | q :: l, lv, i, v, h, hg => by
    obtain ⟨b, bs, rfl, h1, h2⟩ := eAll_cons h
    unfold eGet at hg
    cases hb : Nat.beq q.1 i with
    | true =>
      rw [hb] at hg
      have e := Nat.eq_of_beq_eq_true hb
      simp only [cond_true, Option.some.injEq] at hg
      subst hg
      refine ⟨b.2, ?_, h1.2⟩
      rw [← e, h1.1]
      exact List.mem_cons_self
    | false =>
      rw [hb] at hg
      obtain ⟨w, g1, g2⟩ := eGet_ok h2 hg
      exact ⟨w, List.mem_cons_of_mem _ g1, g2⟩
def ePut (l : eL) (i : Nat) (v : eV) : eL := (i, v) :: l.filter (fun q => !(q.1 == i) && !(q.1 + 1 == i && eCat q.2 == 2))
def ePut2 (l : eL) (i : Nat) (v : eV) : eL := (i, v) :: l.filter (fun q => !(q.1 == i) && (!(q.1 == i + 1) && !(q.1 + 1 == i && eCat q.2 == 2)))
theorem ePut_ok {ad : List Nat} {σ : Nat → Int} {l : eL} {lv : List (Nat × Value)} (h : eAll (eLo ad σ) l lv) {i : Nat} {v : eV} {w : Value} (hv : eOk ad σ v w) : eAll (eLo ad σ) (ePut l i v) ((i, w) :: lv.filter (fun q => !(q.1 == i) && !(q.1 + 1 == i && q.2.category == 2))) :=
  ⟨⟨rfl, hv⟩, eAll_filter (fun a b hab => by rw [hab.1, eOk_cat hab.2]) h⟩
theorem ePut2_ok {ad : List Nat} {σ : Nat → Int} {l : eL} {lv : List (Nat × Value)} (h : eAll (eLo ad σ) l lv) {i : Nat} {v : eV} {w : Value} (hv : eOk ad σ v w) : eAll (eLo ad σ) (ePut2 l i v) ((i, w) :: lv.filter (fun q => !(q.1 == i) && (!(q.1 == i + 1) && !(q.1 + 1 == i && q.2.category == 2)))) :=
  ⟨⟨rfl, hv⟩, eAll_filter (fun a b hab => by rw [hab.1, eOk_cat hab.2]) h⟩
end
section
/-! THE ENGINE, 3: one step. -/
/-- an instruction of the table: where, what, how long, and four numbers that its links come to -/
abbrev eN : Type := Nat × Instr × Nat × Nat × Nat × Nat × Nat
def eLen (i : Instr) : Nat := match i with
  | .bipush _ | .iload _ | .lload _ | .aload _ | .istore _ | .lstore _ | .astore _ | .ldc _ | .newarray _ => 2
  | .sipush _ | .iinc _ _ | .ldc_w _ | .ldc2_w _ | .getfield _ | .putfield _ | .goto _ | .ifCond _ _ | .if_icmp _ _ | .ifnull _ | .ifnonnull _ | .new _ | .invokevirtual _ | .invokestatic _ | .invokespecial _ => 3
  | .multianewarray _ _ => 4
  | .tableswitch _ _ _ _ | .lookupswitch _ _ => 0
  | _ => 1
def eTwo (st : List eV) : Option (eI × eI × List eV) := match st with
  | .inl b :: .inl a :: r => some (a, b, r)
  | _ => none
def eFld (h : eH) (k a b : Nat) : Option eV := match h[k]? with
  | some (.inl o) => cond (Nat.beq o.1 a) (o.2[b]?) none
  | _ => none
def eSetF (h : eH) (k a b : Nat) (v : eV) : Option eH := match h[k]? with
  | some (.inl o) => cond (Nat.beq o.1 a && Nat.blt b o.2.length) (some (h.set k (.inl (o.1, o.2.set b v)))) none
  | _ => none
def eIx (sr : List (Int × Int)) (q : eI) (n : Nat) : Bool := eLe 0 (eRg sr q).1 && eLe ((eRg sr q).2 + 1) (n : Int)
def eALd1 (q : eI) (c : List eV ⊕ (Int × Int)) : Option eI := match c with
  | .inr r => some (0, r.1, r.2)
  | .inl es => match eOne q with
    | some x => match es[x.toNatClampNeg]? with
      | some (.inl v) => some v
      | _ => none
    | none => some eTop
/-- a value out of a row of ints, bytes, booleans (kd) -/
def eALd (sr : List (Int × Int)) (h : eH) (k : Nat) (q : eI) (kd : Nat) : Option eI := match h[k]? with
  | some (.inr (t, n, c)) => cond (Nat.beq t kd && eIx sr q n) (eALd1 q c) none
  | _ => none
def eMin (a b : Int) : Int := cond (eLe a b) a b
def eMax (a b : Int) : Int := cond (eLe a b) b a
def eASt1 (sr : List (Int × Int)) (q v : eI) (c : List eV ⊕ (Int × Int)) : Option (List eV ⊕ (Int × Int)) := match c with
  | .inr r => some (.inr (eMin r.1 (eRg sr v).1, eMax r.2 (eRg sr v).2))
  | .inl es => match eOne q with
    | some x => some (.inl (es.set x.toNatClampNeg (.inl v)))
    | none => none
/-- a value into a row of ints (0), booleans (2) -/
def eASt (sr : List (Int × Int)) (h : eH) (k : Nat) (q v : eI) (kd : Nat) : Option eH := match h[k]? with
  | some (.inr (t, n, c)) => match eASt1 sr q v c with
    | some c' => cond (Nat.beq t kd && eIx sr q n) (some (h.set k (.inr (t, n, c')))) none
    | none => none
  | _ => none
/-- bytes: what they hold isn't followed -/
def eBSt (sr : List (Int × Int)) (h : eH) (k : Nat) (q : eI) : Bool := match h[k]? with
  | some (.inr (t, n, .inr r)) => Nat.beq t 1 && eIx sr q n && eLe r.1 (-128) && eLe 127 r.2
  | _ => false
/-- a row of longs -/
def eLng (sr : List (Int × Int)) (h : eH) (k : Nat) (q : eI) : Bool := match h[k]? with
  | some (.inr (t, n, _)) => Nat.beq t 3 && eIx sr q n
  | _ => false
def eLSt (sr : List (Int × Int)) (h : eH) (k : Nat) (q : eI) (u : Option Int64) : Option eH := match h[k]? with
  | some (.inr (t, n, .inr _)) => cond (Nat.beq t 3 && eIx sr q n) (some h) none
  | some (.inr (t, n, .inl es)) => match eOne q with
    | some x => cond (Nat.beq t 3 && eIx sr q n) (some (h.set k (.inr (t, n, .inl (es.set x.toNatClampNeg (.inr (.inr u))))))) none
    | none => none
  | _ => none
def eRow (sr : List (Int × Int)) (h : eH) (k : Nat) (q : eI) : Option eV := match h[k]? with
  | some (.inr (t, n, .inl es)) => match eOne q with
    | some x => cond (Nat.beq t 4 && eIx sr q n) (es[x.toNatClampNeg]?) none
    | none => none
  | _ => none
def eZero : eV := .inl (0, 0, 0)
def eNew (kd n : Nat) : Option eC := match kd with
  | 0 => some (.inr (0, n, cond (Nat.ble n 410) (.inl (List.replicate n eZero)) (.inr (0, 0))))
  | 1 => some (.inr (1, n, .inr (-128, 127)))
  | 2 => some (.inr (2, n, cond (Nat.ble n 410) (.inl (List.replicate n eZero)) (.inr (0, 0))))
  | 3 => some (.inr (3, n, cond (Nat.beq n 22) (.inl (List.replicate n (.inr (.inr (some 0))))) (.inr (0, 0))))
  | _ => none
def eBr (r : Option Bool) (yes no : eS) : Option (List eS) := match r with
  | some true => some [yes]
  | some false => some [no]
  | none => some [yes, no]
/-- all that isn't a call, a return, a jump by a table -/
def eStep (sr : List (Int × Int)) (dfs : List (List eV)) (Rc Rs nL : Nat) (i : Instr) (a b d pc : Nat) (l : eL) (st : List eV) (h : eH) (cs sl : Nat) : Option (List eS) := match i with
  | .iconst n => some [(pc + 1, l, .inl (ePt (Int32.ofInt n)) :: st, h, cs, sl)]
  | .bipush n => some [(pc + 2, l, .inl (ePt (Int8.ofInt n).toInt32) :: st, h, cs, sl)]
  | .sipush n => some [(pc + 3, l, .inl (ePt (Int16.ofInt n).toInt32) :: st, h, cs, sl)]
  | .lconst n => some [(pc + 1, l, .inr (.inr (some (Int64.ofNat (n : Nat)))) :: st, h, cs, sl)]
  | .ldc _ => some [(pc + 2, l, .inl (ePt (Int32.ofNat a)) :: st, h, cs, sl)]
  | .ldc_w _ => some [(pc + 3, l, .inl (ePt (Int32.ofNat a)) :: st, h, cs, sl)]
  | .ldc2_w _ => some [(pc + 3, l, .inr (.inr (some (Int64.ofNat a))) :: st, h, cs, sl)]
  | .iload_n k => match eGet l k with
    | some (.inl q) => some [(pc + 1, l, .inl q :: st, h, cs, sl)]
    | _ => none
  | .iload k => match eGet l k with
    | some (.inl q) => some [(pc + 2, l, .inl q :: st, h, cs, sl)]
    | _ => none
  | .lload_n k => match eGet l k with
    | some (.inr (.inr u)) => some [(pc + 1, l, .inr (.inr u) :: st, h, cs, sl)]
    | _ => none
  | .lload k => match eGet l k with
    | some (.inr (.inr u)) => some [(pc + 2, l, .inr (.inr u) :: st, h, cs, sl)]
    | _ => none
  | .aload_n k => match eGet l k with
    | some (.inr (.inl (some v))) => some [(pc + 1, l, .inr (.inl (some v)) :: st, h, cs, sl)]
    | _ => none
  | .aload k => match eGet l k with
    | some (.inr (.inl (some v))) => some [(pc + 2, l, .inr (.inl (some v)) :: st, h, cs, sl)]
    | _ => none
  | .istore_n k => match st with
    | .inl q :: r => cond (Nat.blt k nL) (some [(pc + 1, ePut l k (.inl q), r, h, cs, sl)]) none
    | _ => none
  | .istore k => match st with
    | .inl q :: r => cond (Nat.blt k nL) (some [(pc + 2, ePut l k (.inl q), r, h, cs, sl)]) none
    | _ => none
  | .lstore_n k => match st with
    | .inr (.inr u) :: r => cond (Nat.blt (k + 1) nL) (some [(pc + 1, ePut2 l k (.inr (.inr u)), r, h, cs, sl)]) none
    | _ => none
  | .lstore k => match st with
    | .inr (.inr u) :: r => cond (Nat.blt (k + 1) nL) (some [(pc + 2, ePut2 l k (.inr (.inr u)), r, h, cs, sl)]) none
    | _ => none
  | .astore_n k => match st with
    | .inr (.inl (some v)) :: r => cond (Nat.blt k nL) (some [(pc + 1, ePut l k (.inr (.inl (some v))), r, h, cs, sl)]) none
    | _ => none
  | .astore k => match st with
    | .inr (.inl (some v)) :: r => cond (Nat.blt k nL) (some [(pc + 2, ePut l k (.inr (.inl (some v))), r, h, cs, sl)]) none
    | _ => none
  | .iinc k n => match eGet l k with
    | some (.inl q) => cond (Nat.blt k nL) (some [(pc + 3, ePut l k (.inl (eAdd sr q (ePt (Int32.ofInt n)))), st, h, cs, sl)]) none
    | _ => none
  | .iadd => match eTwo st with
    | some (x, y, r) => some [(pc + 1, l, .inl (eAdd sr x y) :: r, h, cs, sl)]
    | none => none
  | .isub => match eTwo st with
    | some (x, y, r) => some [(pc + 1, l, .inl (eSub sr x y) :: r, h, cs, sl)]
    | none => none
  | .imul => match eTwo st with
    | some (x, y, r) => some [(pc + 1, l, .inl (eBin (fun u v => u * v) eTop x y) :: r, h, cs, sl)]
    | none => none
  | .iand => match eTwo st with
    | some (x, y, r) => some [(pc + 1, l, .inl (eBin (fun u v => u &&& v) eTop x y) :: r, h, cs, sl)]
    | none => none
  | .ior => match eTwo st with
    | some (x, y, r) => some [(pc + 1, l, .inl (eBin (fun u v => u ||| v) eTop x y) :: r, h, cs, sl)]
    | none => none
  | .ixor => match eTwo st with
    | some (x, y, r) => some [(pc + 1, l, .inl (eBin (fun u v => u ^^^ v) eTop x y) :: r, h, cs, sl)]
    | none => none
  | .ishl => match eTwo st with
    | some (x, y, r) => some [(pc + 1, l, .inl (eBin (fun u v => u <<< (v &&& 31)) eTop x y) :: r, h, cs, sl)]
    | none => none
  | .ishr => match eTwo st with
    | some (x, y, r) => some [(pc + 1, l, .inl (eBin (fun u v => u >>> (v &&& 31)) eTop x y) :: r, h, cs, sl)]
    | none => none
  | .iushr => match eTwo st with
    | some (x, y, r) => some [(pc + 1, l, .inl (eBin (fun u v => (u.toUInt32 >>> (v.toUInt32 &&& Int32.toUInt32 31)).toInt32) (eUsh y) x y) :: r, h, cs, sl)]
    | none => none
  | .irem => match eTwo st with
    | some (x, y, r) => cond (eEq sr y (0, 0, 0) == some false) (some [(pc + 1, l, .inl (eBin (fun u v => u - u / v * v) (eRem sr x y) x y) :: r, h, cs, sl)]) none
    | none => none
  | .idiv => match eTwo st with
    | some (x, y, r) => cond (eEq sr y (0, 0, 0) == some false) (some [(pc + 1, l, .inl (eBin (fun u v => u / v) eTop x y) :: r, h, cs, sl)]) none
    | none => none
  | .i2b => match st with
    | .inl _ :: r => some [(pc + 1, l, .inl eTop :: r, h, cs, sl)]
    | _ => none
  | .i2l => match st with
    | .inl q :: r => some [(pc + 1, l, .inr (.inr ((eOne q).map Int32.toInt64)) :: r, h, cs, sl)]
    | _ => none
  | .l2i => match st with
    | .inr (.inr _) :: r => some [(pc + 1, l, .inl eTop :: r, h, cs, sl)]
    | _ => none
  | .ladd => match st with
    | .inr (.inr u) :: .inr (.inr v) :: r => some [(pc + 1, l, .inr (.inr (eL2 (fun x y => x + y) v u)) :: r, h, cs, sl)]
    | _ => none
  | .lmul => match st with
    | .inr (.inr u) :: .inr (.inr v) :: r => some [(pc + 1, l, .inr (.inr (eL2 (fun x y => x * y) v u)) :: r, h, cs, sl)]
    | _ => none
  | .lcmp => match st with
    | .inr (.inr _) :: .inr (.inr _) :: r => some [(pc + 1, l, .inl eTop :: r, h, cs, sl)]
    | _ => none
  | .dup => match st with
    | v :: r => cond (Nat.beq (eCat v) 1) (some [(pc + 1, l, v :: v :: r, h, cs, sl)]) none
    | _ => none
  | .dup2 => match st with
    | v :: w :: r => cond (Nat.beq (eCat v) 1 && Nat.beq (eCat w) 1) (some [(pc + 1, l, v :: w :: v :: w :: r, h, cs, sl)]) none
    | _ => none
  | .pop => match st with
    | v :: r => cond (Nat.beq (eCat v) 1) (some [(pc + 1, l, r, h, cs, sl)]) none
    | _ => none
  | .getfield _ => match st with
    | .inr (.inl (some k)) :: r => match eFld h k a b with
      | some v => some [(pc + 3, l, v :: r, h, cs, sl)]
      | none => none
    | _ => none
  | .putfield _ => match st with
    | .inl q :: .inr (.inl (some k)) :: r => cond (Nat.beq d 0 || (Nat.beq d 2 && (eOne q == some 0 || eOne q == some 1))) (match eSetF h k a b (.inl q) with
      | some h' => some [(pc + 3, l, r, h', cs, sl)]
      | none => none) none
    | .inr (.inl (some v)) :: .inr (.inl (some k)) :: r => cond (Nat.beq d 5) (match eSetF h k a b (.inr (.inl (some v))) with
      | some h' => some [(pc + 3, l, r, h', cs, sl)]
      | none => none) none
    | _ => none
  | .iaload => match st with
    | .inl q :: .inr (.inl (some k)) :: r => match eALd sr h k q 0 with
      | some v => some [(pc + 1, l, .inl v :: r, h, cs, sl)]
      | none => none
    | _ => none
  | .baload => match st with
    | .inl q :: .inr (.inl (some k)) :: r => match eALd sr h k q 1, eALd sr h k q 2 with
      | some v, _ => some [(pc + 1, l, .inl v :: r, h, cs, sl)]
      | none, some v => some [(pc + 1, l, .inl v :: r, h, cs, sl)]
      | none, none => none
    | _ => none
  | .laload => match st with
    | .inl q :: .inr (.inl (some k)) :: r => cond (eLng sr h k q) (some [(pc + 1, l, .inr (.inr none) :: r, h, cs, sl)]) none
    | _ => none
  | .aaload => match st with
    | .inl q :: .inr (.inl (some k)) :: r => match eRow sr h k q with
      | some v => some [(pc + 1, l, v :: r, h, cs, sl)]
      | none => none
    | _ => none
  | .iastore => match st with
    | .inl v :: .inl q :: .inr (.inl (some k)) :: r => match eASt sr h k q v 0 with
      | some h' => some [(pc + 1, l, r, h', cs, sl)]
      | none => none
    | _ => none
  | .bastore => match st with
    | .inl v :: .inl q :: .inr (.inl (some k)) :: r => cond (eBSt sr h k q) (some [(pc + 1, l, r, h, cs, sl)]) (cond (eOne v == some 0 || eOne v == some 1) (match eASt sr h k q v 2 with
      | some h' => some [(pc + 1, l, r, h', cs, sl)]
      | none => none) none)
    | _ => none
  | .lastore => match st with
    | .inr (.inr u) :: .inl q :: .inr (.inl (some k)) :: r => match eLSt sr h k q u with
      | some h' => some [(pc + 1, l, r, h', cs, sl)]
      | none => none
    | _ => none
  | .arraylength => match st with
    | .inr (.inl (some k)) :: r => match h[k]? with
      | some (.inr (_, n, _)) => some [(pc + 1, l, .inl (ePt (Int32.ofNat n)) :: r, h, cs, sl)]
      | _ => none
    | _ => none
  | .newarray _ => match st with
    | .inl q :: r => match eOne q with
      | some x => cond (eLe 0 x.toInt && Nat.ble x.toNatClampNeg 60000000 && Nat.ble (cs + 1) Rc && Nat.ble (sl + x.toNatClampNeg) Rs) (match eNew a x.toNatClampNeg with
        | some c => some [(pc + 2, l, .inr (.inl (some h.length)) :: r, h ++ [c], cs + 1, sl + x.toNatClampNeg)]
        | none => none) none
      | none => none
    | _ => none
  | .new _ => match dfs[a]? with
    | some fs => cond (Nat.ble (cs + 1) Rc && Nat.ble (sl + fs.length) Rs) (some [(pc + 3, l, .inr (.inl (some h.length)) :: st, h ++ [.inl (a, fs)], cs + 1, sl + fs.length)]) none
    | none => none
  | .goto _ => some [(a, l, st, h, cs, sl)]
  | .ifCond k _ => match st with
    | .inl x :: r => eBr (eCmp sr k x (0, 0, 0)) (a, l, r, h, cs, sl) (pc + 3, l, r, h, cs, sl)
    | _ => none
  | .if_icmp k _ => match eTwo st with
    | some (x, y, r) => eBr (eCmp sr k x y) (a, l, r, h, cs, sl) (pc + 3, l, r, h, cs, sl)
    | none => none
  | .ifnull _ => match st with
    | .inr (.inl (some _)) :: r => some [(pc + 3, l, r, h, cs, sl)]
    | .inr (.inl none) :: r => some [(a, l, r, h, cs, sl)]
    | _ => none
  | .ifnonnull _ => match st with
    | .inr (.inl (some _)) :: r => some [(a, l, r, h, cs, sl)]
    | .inr (.inl none) :: r => some [(pc + 3, l, r, h, cs, sl)]
    | _ => none
  | .tableswitch dflt lo hi offs => match st with
    | .inl q :: r => match eOne q with
      | some x => cond (eLe lo x.toInt && eLe x.toInt hi) (match offs[(x.toInt - lo).toNat]? with
        | some off => cond (eLe 0 ((pc : Int) + off)) (some [(((pc : Int) + off).toNat, l, r, h, cs, sl)]) none
        | none => none) (cond (eLe 0 ((pc : Int) + dflt)) (some [(((pc : Int) + dflt).toNat, l, r, h, cs, sl)]) none)
      | none => cond ((eLe ((eRg sr q).2 + 1) lo || eLe (hi + 1) (eRg sr q).1) && eLe 0 ((pc : Int) + dflt)) (some [(((pc : Int) + dflt).toNat, l, r, h, cs, sl)]) none
    | _ => none
  | _ => none
end
section
/-! THE ENGINE, 4: the run of a method, with the calls in it. -/
/-- a method: its instructions by 32s of places, its locals, the cells and slots that it may make, what it hands back (0 nothing, 1 int, 2 boolean, 3 long, 4 a cell), how many arguments -/
abbrev eM : Type := List (List eN) × Nat × Nat × Nat × Nat × Nat
def eFind (ch : List eN) (pc : Nat) : Option eN := match ch with
  | [] => none
  | q :: ch => cond (Nat.beq q.1 pc) (some q) (eFind ch pc)
def eAt (code : List (List eN)) (pc : Nat) : Option eN := match code[pc / 32]? with
  | some ch => eFind ch pc
  | none => none
def eArgs (i : Nat) (vs : List eV) : eL := match vs with
  | [] => []
  | v :: vs => (i, v) :: eArgs (cond (Nat.beq (eCat v) 2) (i + 2) (i + 1)) vs
def eCats (vs : List eV) : Nat := match vs with
  | [] => 0
  | v :: vs => eCat v + eCats vs
def eMn (sr : List (Int × Int)) (a b : eI) : eI := (0, eMin (eRg sr a).1 (eRg sr b).1, eMin (eRg sr a).2 (eRg sr b).2)
def eMx (sr : List (Int × Int)) (a b : eI) : eI := (0, eMax (eRg sr a).1 (eRg sr b).1, eMax (eRg sr a).2 (eRg sr b).2)
def eJoin (sr : List (Int × Int)) (es : List eV) (q : Int × Int) : Option (Int × Int) := match es with
  | [] => some q
  | .inl v :: es => eJoin sr es (eMin q.1 (eRg sr v).1, eMax q.2 (eRg sr v).2)
  | _ :: _ => none
def eCopy (sr : List (Int × Int)) (h : eH) (k0 sp k1 dp n : Nat) : Option eH := match h[k0]?, h[k1]? with
  | some (.inr (t0, n0, c0)), some (.inr (t1, n1, c1)) => cond (Nat.beq t0 0 && Nat.beq t1 0 && !(Nat.beq k0 k1) && Nat.ble (sp + n) n0 && Nat.ble (dp + n) n1) (match c0, c1 with
    | .inl e0, .inl e1 => some (h.set k1 (.inr (t1, n1, .inl (e1.take dp ++ ((e0.drop sp).take n ++ e1.drop (dp + n))))))
    | .inl e0, .inr q => match eJoin sr e0 q with
      | some q' => some (h.set k1 (.inr (t1, n1, .inr q')))
      | none => none
    | .inr q0, .inr q1 => some (h.set k1 (.inr (t1, n1, .inr (eMin q0.1 q1.1, eMax q0.2 q1.2))))
    | .inr _, .inl _ => none) none
  | _, _ => none
/-- what the machine has rows of its own for: Object's start, Math.min, Math.max, arraycopy -/
def eBlt (sr : List (Int × Int)) (kd : Nat) (h : eH) (st : List eV) : Option (List eV × eH) := match kd with
  | 6 => match st with
    | .inr (.inl (some _)) :: r => cond (Nat.ble (eCats r) 8) (some (r, h)) none
    | _ => none
  | 7 => match eTwo st with
    | some (x, y, r) => cond (Nat.ble (eCats r) 8) (some (.inl (eMn sr x y) :: r, h)) none
    | none => none
  | 8 => match eTwo st with
    | some (x, y, r) => cond (Nat.ble (eCats r) 8) (some (.inl (eMx sr x y) :: r, h)) none
    | none => none
  | 9 => match st with
    | .inl n :: .inl dp :: .inr (.inl (some k1)) :: .inl sp :: .inr (.inl (some k0)) :: r => cond (Nat.ble (eCats r) 8) (match eOne n, eOne dp, eOne sp with
      | some n, some dp, some sp => cond (eLe 0 n.toInt && eLe 0 dp.toInt && eLe 0 sp.toInt) (match eCopy sr h k0 sp.toNatClampNeg k1 dp.toNatClampNeg n.toNatClampNeg with
        | some h' => some (r, h')
        | none => none) none
      | _, _, _ => none) none
    | _ => none
  | _ => none
def eColl {α : Type} (f : α → Option (List eS)) (xs : List α) : Option (List eS) := match xs with
  | [] => some []
  | x :: xs => match f x with
    | none => none
    | some a => match eColl f xs with
      | none => none
      | some b => some (a ++ b)
/-- what a method that stands at its return hands back: nothing, or a value -/
def eRet (M : eM) (f : eS) : Option (Option eV) := cond (Nat.ble f.2.2.2.2.1 M.2.2.1 && Nat.ble f.2.2.2.2.2 M.2.2.2.1) (match eAt M.1 f.1 with
  | some en => match M.2.2.2.2.1, en.2.1, f.2.2.1 with
    | 0, .return_, [] => some none
    | 1, .ireturn, [.inl q] => some (some (.inl q))
    | 2, .ireturn, [.inl q] => cond (eOne q == some 0 || eOne q == some 1) (some (some (.inl q))) none
    | 3, .lreturn, [.inr (.inr u)] => some (some (.inr (.inr u)))
    | 4, .areturn, [.inr (.inl (some k))] => some (some (.inr (.inl (some k))))
    | _, _, _ => none
  | none => none) none
def eOuts (N : eM) (fs : List eS) : Option (List (Option eV × eH)) := match fs with
  | [] => some []
  | f :: fs => match eRet N f with
    | none => none
    | some v => match eOuts N fs with
      | none => none
      | some os => some ((v, f.2.2.2.1) :: os)
/-- the arguments out of the stack: how many, with the one that is called upon or without -/
def ePop (st : List eV) (np : Nat) (kd : Nat) : Option (List eV × List eV) := match kd with
  | 1 | 4 => cond (Nat.ble np st.length) (some ((st.take np).reverse, st.drop np)) none
  | _ => match st[np]? with
    | some (.inr (.inl (some k))) => some (.inr (.inl (some k)) :: (st.take np).reverse, st.drop (np + 1))
    | _ => none
def eGrid (b n k : Nat) : eH := .inr (4, n, .inl ((List.range n).map (fun j => .inr (.inl (some (b + 1 + j)))))) :: List.replicate n (.inr (0, k, .inl (List.replicate k eZero)))
/-- a new row of rows of ints -/
def eMul (Rc Rs : Nat) (st : List eV) (h : eH) (cs sl : Nat) : Option (List eV × eH × Nat × Nat) := match st with
  | .inl qk :: .inl qn :: r => match eOne qk, eOne qn with
    | some k, some n => cond (eLe 0 k.toInt && eLe 0 n.toInt && Nat.ble k.toNatClampNeg 410 && Nat.ble n.toNatClampNeg 410 && Nat.ble (cs + (1 + n.toNatClampNeg)) Rc && Nat.ble (sl + (n.toNatClampNeg + n.toNatClampNeg * k.toNatClampNeg)) Rs)
      (some (.inr (.inl (some h.length)) :: r, h ++ eGrid h.length n.toNatClampNeg k.toNatClampNeg, cs + 1 + n.toNatClampNeg, sl + n.toNatClampNeg + n.toNatClampNeg * k.toNatClampNeg)) none
    | _, _ => none
  | _ => none
/-- what is called upon is of the class that the call selects -/
def eRcv (h : eH) (kd d0 : Nat) (as : List eV) : Bool := match kd with
  | 0 => match as with
    | .inr (.inl (some k)) :: _ => match h[k]? with
      | some (.inl o) => Nat.beq o.1 d0
      | _ => false
    | _ => false
  | _ => true
/-- a call; 'orc': calls that are known already -/
def eInv (sr : List (Int × Int)) (ms : List eM) (orc : Nat → Nat → List eV → eH → Option (List (Option eV × eH))) (ih : Nat → Nat → List Nat → eS → Option (List eS)) (d y : Nat) (stop : List Nat) (S : eS) (kd b d0 : Nat) (M : eM) : Option (List eS) :=
  match d with
  | 0 => none
  | d' + 1 => cond (Nat.ble 6 kd)
    (match eBlt sr kd S.2.2.2.1 S.2.2.1 with
      | some (st', h') => cond (Nat.ble S.2.2.2.2.1 M.2.2.1 && Nat.ble S.2.2.2.2.2 M.2.2.2.1) (cond (stop.elem (S.1 + 3)) (some [(S.1 + 3, S.2.1, st', h', S.2.2.2.2.1, S.2.2.2.2.2)]) (ih (d' + 1) y stop (S.1 + 3, S.2.1, st', h', S.2.2.2.2.1, S.2.2.2.2.2))) none
      | none => none)
    (match ms[b]? with
      | none => none
      | some N => match ePop S.2.2.1 N.2.2.2.2.2 kd with
        | none => none
        | some (as, r) => cond (Nat.ble (eCats r) 8 && Nat.ble (S.2.2.2.2.1 + N.2.2.1) M.2.2.1 && Nat.ble (S.2.2.2.2.2 + N.2.2.2.1) M.2.2.2.1 && Nat.ble (eCats as) N.2.1 && eRcv S.2.2.2.1 kd d0 as)
          (match (match orc d' b as S.2.2.2.1 with
              | some os => some os
              | none => match ih d' b [] (0, eArgs 0 as, [], S.2.2.2.1, 0, 0) with
                | none => none
                | some fs => eOuts N fs) with
            | none => none
            | some os => eColl (fun o : Option eV × eH => cond (stop.elem (S.1 + 3)) (some [(S.1 + 3, S.2.1, o.1.toList ++ r, o.2, S.2.2.2.2.1 + N.2.2.1, S.2.2.2.2.2 + N.2.2.2.1)]) (ih (d' + 1) y stop (S.1 + 3, S.2.1, o.1.toList ++ r, o.2, S.2.2.2.2.1 + N.2.2.1, S.2.2.2.2.2 + N.2.2.2.1))) os)
          none)
def eBody (sr : List (Int × Int)) (dfs : List (List eV)) (ms : List eM) (orc : Nat → Nat → List eV → eH → Option (List (Option eV × eH))) (ih : Nat → Nat → List Nat → eS → Option (List eS)) (d y : Nat) (stop : List Nat) (S : eS) : Option (List eS) := match ms[y]? with
  | none => none
  | some M => match eAt M.1 S.1 with
    | none => none
    | some en => match en.2.1 with
      | .ireturn => some [S]
      | .return_ => some [S]
      | .lreturn => some [S]
      | .areturn => some [S]
      | .invokevirtual _ => eInv sr ms orc ih d y stop S en.2.2.2.1 en.2.2.2.2.1 en.2.2.2.2.2.2 M
      | .invokestatic _ => eInv sr ms orc ih d y stop S en.2.2.2.1 en.2.2.2.2.1 en.2.2.2.2.2.2 M
      | .invokespecial _ => eInv sr ms orc ih d y stop S en.2.2.2.1 en.2.2.2.2.1 en.2.2.2.2.2.2 M
      | .multianewarray _ _ => match eMul M.2.2.1 M.2.2.2.1 S.2.2.1 S.2.2.2.1 S.2.2.2.2.1 S.2.2.2.2.2 with
        | none => none
        | some (st', h', cs', sl') => cond (stop.elem (S.1 + 4)) (some [(S.1 + 4, S.2.1, st', h', cs', sl')]) (ih d y stop (S.1 + 4, S.2.1, st', h', cs', sl'))
      | i => match eStep sr dfs M.2.2.1 M.2.2.2.1 M.2.1 i en.2.2.2.1 en.2.2.2.2.1 en.2.2.2.2.2.2 S.1 S.2.1 S.2.2.1 S.2.2.2.1 S.2.2.2.2.1 S.2.2.2.2.2 with
        | none => none
        | some outs => eColl (fun S' => cond (stop.elem S'.1) (some [S']) (ih d y stop S')) outs
def eExec (sr : List (Int × Int)) (dfs : List (List eV)) (ms : List eM) (orc : Nat → Nat → List eV → eH → Option (List (Option eV × eH))) (fuel : Nat) : Nat → Nat → List Nat → eS → Option (List eS) :=
  Nat.rec (fun _ _ _ _ => none) (fun _ ih => eBody sr dfs ms orc ih) fuel
end
section
/-! THE ENGINE, 5: what its reckonings say of the cells. -/
theorem eCond {α : Type} {b : Bool} {x : Option α} {y : α} (h : cond b x none = some y) : b = true ∧ x = some y := by
  cases b with
  | true => exact ⟨rfl, h⟩
  | false => cases h
def eHolds (k : Jvm.ClassFile.Cond) (x y : Int32) : Prop := match k with
  | .eq => x = y
  | .ne => ¬ x = y
  | .lt => x < y
  | .ge => y ≤ x
  | .gt => y < x
  | .le => x ≤ y
theorem eNotMap {o : Option Bool} {r : Bool} (h : o.map (!·) = some r) : o = some (!r) := by
  cases o with
  | none => cases h
  | some b => cases h; simp
theorem eCmp_ok {sr : List (Int × Int)} {σ : Nat → Int} (hs : eSg sr σ) {k : Jvm.ClassFile.Cond} {a b : eI} {x y : Int32} (ha : eIn σ a x) (hb : eIn σ b y) {r : Bool} (h : eCmp sr k a b = some r) : eHolds k x y ↔ r = true := by
  cases k with
  | eq => exact iff_of_eq (eEq_ok hs ha hb h)
  | ne =>
    have h1 := eEq_ok hs ha hb (eNotMap h)
    show ¬ x = y ↔ _
    rw [h1]
    cases r <;> simp
  | lt => exact iff_of_eq (eLt_ok hs ha hb h)
  | ge =>
    have h1 := eLt_ok hs ha hb (eNotMap h)
    show y ≤ x ↔ _
    rw [← Int32.not_lt, h1]
    cases r <;> simp
  | gt => exact iff_of_eq (eLt_ok hs hb ha h)
  | le =>
    have h1 := eLt_ok hs hb ha (eNotMap h)
    show x ≤ y ↔ _
    rw [← Int32.not_lt, h1]
    cases r <;> simp
theorem eBr_yes {sr : List (Int × Int)} {σ : Nat → Int} (hs : eSg sr σ) {k : Jvm.ClassFile.Cond} {a b : eI} {x y : Int32} (ha : eIn σ a x) (hb : eIn σ b y) {S1 S2 : eS} {outs : List eS} (h : eBr (eCmp sr k a b) S1 S2 = some outs) (hq : eHolds k x y) : S1 ∈ outs := by
  cases hc : eCmp sr k a b with
  | none => rw [hc] at h; cases h; exact List.mem_cons_self
  | some r =>
    have := (eCmp_ok hs ha hb hc).mp hq
    subst this
    rw [hc] at h
    cases h
    exact List.mem_cons_self
theorem eBr_no {sr : List (Int × Int)} {σ : Nat → Int} (hs : eSg sr σ) {k : Jvm.ClassFile.Cond} {a b : eI} {x y : Int32} (ha : eIn σ a x) (hb : eIn σ b y) {S1 S2 : eS} {outs : List eS} (h : eBr (eCmp sr k a b) S1 S2 = some outs) (hq : ¬ eHolds k x y) : S2 ∈ outs := by
  cases hc : eCmp sr k a b with
  | none => rw [hc] at h; cases h; exact List.mem_cons_of_mem _ List.mem_cons_self
  | some r =>
    have hr : r = false := by
      cases r with
      | false => rfl
      | true => exact absurd ((eCmp_ok hs ha hb hc).mpr rfl) hq
    subst hr
    rw [hc] at h
    cases h
    exact List.mem_cons_self
section ELM
variable {ad : List Nat} {σ : Nat → Int} {tys : List (ClassId × FieldType)} {h h' : eH} {ws : va_W} {sr : List (Int × Int)}
theorem eAd_set {k q : Nat} {e0 e1 : va_E} (hk : ws[k]? = some (q, e0)) : (ws.set k (q, e1)).map Prod.fst = ws.map Prod.fst := by
  rw [List.map_set]
  apply List.ext_getElem?
  intro j
  by_cases hj : k = j
  · subst hj
    have hlt : k < (ws.map Prod.fst).length := by rw [List.length_map]; exact (List.getElem?_eq_some_iff.mp hk).1
    rw [List.getElem?_set_self hlt, List.getElem?_map, hk]
    rfl
  · rw [List.getElem?_set_ne hj]
theorem eAd_at {k q a : Nat} {e0 : va_E} (hk : ws[k]? = some (q, e0)) (ha : (ws.map Prod.fst)[k]? = some a) : a = q := by
  rw [List.getElem?_map, hk] at ha
  exact (Option.some.inj ha).symm
theorem eFld_ok {k a b : Nat} {v : eV} (hf : eFld h k a b = some v) (hh : eAll (eCk ad σ tys) h ws) : ∃ (q : Nat) (vs : List Value) (w : Value), ws[k]? = some (q, .inr (a, vs)) ∧ vs[b]? = some w ∧ eOk ad σ v w := by
  unfold eFld at hf
  split at hf
  · rename_i o ho
    obtain ⟨hc, hg⟩ := eCond hf
    clear hf
    have hc := Nat.eq_of_beq_eq_true hc
    obtain ⟨⟨q, e⟩, h1, vs, h2, h3⟩ := eAll_get hh ho
    obtain ⟨w, h4, h5⟩ := eAll_get h3 hg
    have h2 : e = .inr (o.1, vs) := h2
    subst h2
    rw [hc] at h1
    exact ⟨q, vs, w, h1, h4, h5⟩
  · cases hf
theorem eSetF_ok {k a b : Nat} {v : eV} {w : Value} (hf : eSetF h k a b v = some h') (hh : eAll (eCk ad σ tys) h ws) (hv : eOk ad σ v w) : ∃ (q : Nat) (vs : List Value), ws[k]? = some (q, .inr (a, vs)) ∧ b < vs.length ∧ eAll (eCk ad σ tys) h' (ws.set k (q, .inr (a, vs.set b w))) := by
  unfold eSetF at hf
  split at hf
  · rename_i o ho
    obtain ⟨hc, hg⟩ := eCond hf
    clear hf
    rw [Bool.and_eq_true] at hc
    have h9 := Nat.eq_of_beq_eq_true hc.1
    have hb : b < o.2.length := Nat.le_of_ble_eq_true hc.2
    obtain ⟨⟨q, e⟩, h1, vs, h2, h3⟩ := eAll_get hh ho
    have h2 : e = .inr (o.1, vs) := h2
    subst h2
    cases hg
    subst h9
    rw [eAll_len h3] at hb
    exact ⟨q, vs, h1, hb, eAll_set hh k ⟨vs.set b w, rfl, eAll_set h3 b hv⟩⟩
  · cases hf
theorem eIx_ok (hs : eSg sr σ) {q : eI} {n : Nat} {x : Int32} (hx : eIn σ q x) (h : eIx sr q n = true) : vp_in x n ∧ x.toNatClampNeg < n := by
  unfold eIx at h
  rw [Bool.and_eq_true] at h
  have h1 := eLe_ok h.1
  have h2 := eLe_ok h.2
  have h3 := eRg_ok hs hx
  have h4 : vp_in x n := vp_in_iff.mpr ⟨by omega, by omega⟩
  exact ⟨h4, Nat.not_le.mp fun q => h4 (Or.inr q)⟩
theorem eAr_int {k n : Nat} {c : List eV ⊕ (Int × Int)} {cA : ClassId} {e : va_E} (hk : k = 0 ∨ k = 1 ∨ k = 2) (h : eAr ad σ k n c cA e) : ∃ f : Nat → Int32, e = .inl (cA, n, .inl f) ∧ eCt ad σ n f c := by
  rcases hk with rfl | rfl | rfl <;> exact h
theorem eInt_ar {k n : Nat} {c : List eV ⊕ (Int × Int)} {cA : ClassId} {f : Nat → Int32} (hk : k = 0 ∨ k = 1 ∨ k = 2) (h : eCt ad σ n f c) : eAr ad σ k n c cA (.inl (cA, n, .inl f)) := by
  rcases hk with rfl | rfl | rfl <;> exact ⟨f, rfl, h⟩
theorem eALd1_ok (h0 : σ 0 = 0) {n : Nat} {q v : eI} {x : Int32} {f : Nat → Int32} {c : List eV ⊕ (Int × Int)} (hf : eALd1 q c = some v) (hx : eIn σ q x) (h5 : eCt ad σ n f c) (hlt : x.toNatClampNeg < n) : eIn σ v (f x.toNatClampNeg) := by
  cases c with
  | inr r =>
    cases hf
    have := h5 _ hlt
    exact eIn_mk (by rw [h0]; omega) (by rw [h0]; omega)
  | inl es =>
    unfold eALd1 at hf
    simp only at hf
    split at hf
    · rename_i y hy
      have := eOne_ok h0 hx hy
      subst this
      obtain ⟨v', g1, g2⟩ := h5 _ hlt
      rw [g1] at hf
      match v', hf, g2 with
      | .inl v', hf, ⟨z, hz, g2⟩ =>
        cases hf
        cases hz
        exact g2
    · cases hf
      exact eTop_ok h0 _
theorem eALd_ok (hs : eSg sr σ) {k kd : Nat} {q v : eI} {x : Int32} (hk : kd = 0 ∨ kd = 1 ∨ kd = 2) (hf : eALd sr h k q kd = some v) (hh : eAll (eCk ad σ tys) h ws) (hx : eIn σ q x) : ∃ (a : Nat) (cA : ClassId) (t0 n : Nat) (f : Nat → Int32), ws[k]? = some (a, .inl (cA, n, .inl f)) ∧ tys[t0]? = some (cA, eTy kd) ∧ vp_in x n ∧ eIn σ v (f x.toNatClampNeg) := by
  unfold eALd at hf
  split at hf
  · rename_i t n c ho
    obtain ⟨hc, hg⟩ := eCond hf
    clear hf
    rw [Bool.and_eq_true] at hc
    have ht := Nat.eq_of_beq_eq_true hc.1
    subst ht
    obtain ⟨hin, hlt⟩ := eIx_ok hs hx hc.2
    obtain ⟨⟨a, e⟩, h1, cA, t0, h2, -, h3⟩ := eAll_get hh ho
    obtain ⟨f, h4, h5⟩ := eAr_int hk h3
    have h4 : e = .inl (cA, n, .inl f) := h4
    subst h4
    exact ⟨a, cA, t0, n, f, h1, h2, hin, eALd1_ok hs.1 hg hx h5 hlt⟩
  · cases hf
theorem eMin_ok (a b : Int) : eMin a b ≤ a ∧ eMin a b ≤ b := by
  unfold eMin
  cases hc : eLe a b with
  | true => have := eLe_ok hc; exact ⟨Int.le_refl _, this⟩
  | false => have := eLe_no hc; exact ⟨by show b ≤ a; omega, Int.le_refl _⟩
theorem eMax_ok (a b : Int) : a ≤ eMax a b ∧ b ≤ eMax a b := by
  unfold eMax
  cases hc : eLe a b with
  | true => have := eLe_ok hc; exact ⟨this, Int.le_refl _⟩
  | false => have := eLe_no hc; exact ⟨Int.le_refl _, by show b ≤ a; omega⟩
theorem eASt1_ok (hs : eSg sr σ) {n : Nat} {q v : eI} {x z : Int32} {f : Nat → Int32} {c c' : List eV ⊕ (Int × Int)} (hf : eASt1 sr q v c = some c') (hx : eIn σ q x) (hz : eIn σ v z) (h5 : eCt ad σ n f c) : eCt ad σ n (upd f x.toNatClampNeg z) c' := by
  cases c with
  | inr r =>
    cases hf
    have hr := eRg_ok hs hz
    intro j hj
    have h6 := h5 j hj
    have m1 := eMin_ok r.1 (eRg sr v).1
    have m2 := eMax_ok r.2 (eRg sr v).2
    show eMin r.1 (eRg sr v).1 ≤ _ ∧ _ ≤ eMax r.2 (eRg sr v).2
    unfold upd
    split
    · exact ⟨by omega, by omega⟩
    · exact ⟨by omega, by omega⟩
  | inl es =>
    unfold eASt1 at hf
    simp only at hf
    split at hf
    · rename_i y hy
      have := eOne_ok hs.1 hx hy
      subst this
      cases hf
      intro j hj
      obtain ⟨v0, g1, g2⟩ := h5 j hj
      by_cases hq : x.toNatClampNeg = j
      · refine ⟨.inl v, ?_, z, ?_, hz⟩
        · rw [← hq, List.getElem?_set_self (by rw [hq]; exact (List.getElem?_eq_some_iff.mp g1).1)]
        · simp [upd, hq]
      · refine ⟨v0, by rw [List.getElem?_set_ne hq]; exact g1, ?_⟩
        have : upd f x.toNatClampNeg z j = f j := by simp [upd, Ne.symm hq]
        rw [this]
        exact g2
    · cases hf
theorem eASt_ok (hs : eSg sr σ) {k kd : Nat} {q v : eI} {x z : Int32} (hk : kd = 0 ∨ kd = 1 ∨ kd = 2) (hf : eASt sr h k q v kd = some h') (hh : eAll (eCk ad σ tys) h ws) (hx : eIn σ q x) (hz : eIn σ v z) : ∃ (a : Nat) (cA : ClassId) (t0 n : Nat) (f : Nat → Int32), ws[k]? = some (a, .inl (cA, n, .inl f)) ∧ tys[t0]? = some (cA, eTy kd) ∧ vp_in x n ∧ eAll (eCk ad σ tys) h' (ws.set k (a, .inl (cA, n, .inl (upd f x.toNatClampNeg z)))) := by
  unfold eASt at hf
  split at hf
  · rename_i t n c ho
    split at hf
    · rename_i c' hc'
      obtain ⟨hc, hg⟩ := eCond hf
      clear hf
      rw [Bool.and_eq_true] at hc
      have ht := Nat.eq_of_beq_eq_true hc.1
      subst ht
      obtain ⟨hin, hlt⟩ := eIx_ok hs hx hc.2
      obtain ⟨⟨a, e⟩, h1, cA, t0, h2, hN, h3⟩ := eAll_get hh ho
      obtain ⟨f, h4, h5⟩ := eAr_int hk h3
      have h4 : e = .inl (cA, n, .inl f) := h4
      subst h4
      cases hg
      exact ⟨a, cA, t0, n, f, h1, h2, hin, eAll_set hh k ⟨cA, t0, h2, hN, eInt_ar hk (eASt1_ok hs hc' hx hz h5)⟩⟩
    · cases hf
  · cases hf
theorem eBSt_ok (hs : eSg sr σ) {k : Nat} {q : eI} {x : Int32} (hf : eBSt sr h k q = true) (hh : eAll (eCk ad σ tys) h ws) (hx : eIn σ q x) (z : Int32) : ∃ (a : Nat) (cA : ClassId) (t0 n : Nat) (f : Nat → Int32), ws[k]? = some (a, .inl (cA, n, .inl f)) ∧ tys[t0]? = some (cA, .byte) ∧ vp_in x n ∧ eAll (eCk ad σ tys) h (ws.set k (a, .inl (cA, n, .inl (upd f x.toNatClampNeg (vp_nar .byte z))))) := by
  unfold eBSt at hf
  split at hf
  · rename_i t n r ho
    simp only [Bool.and_eq_true] at hf
    obtain ⟨⟨⟨hf1, hf2⟩, hf3⟩, hf4⟩ := hf
    have ht := Nat.eq_of_beq_eq_true hf1
    subst ht
    obtain ⟨hin, hlt⟩ := eIx_ok hs hx hf2
    have l3 := eLe_ok hf3
    have l4 := eLe_ok hf4
    obtain ⟨⟨a, e⟩, h1, cA, t0, h2, hN, h3⟩ := eAll_get hh ho
    obtain ⟨f, h4, h5⟩ := eAr_int (Or.inr (Or.inl rfl)) h3
    have h4 : e = .inl (cA, n, .inl f) := h4
    subst h4
    refine ⟨a, cA, t0, n, f, h1, h2, hin, ?_⟩
    have e1 : h.set k (.inr (1, n, .inr r)) = h := by
      apply List.ext_getElem?
      intro j
      by_cases hj : k = j
      · subst hj
        rw [List.getElem?_set_self (List.getElem?_eq_some_iff.mp ho).1, ho]
      · rw [List.getElem?_set_ne hj]
    rw [← e1]
    refine eAll_set hh k ⟨cA, t0, h2, hN, eInt_ar (Or.inr (Or.inl rfl)) ?_⟩
    intro j hj
    have h6 := h5 j hj
    unfold upd
    split
    · rw [vp_nar_byte]
      have b1 : -128 ≤ z.toInt8.toInt32.toInt := by rw [Int8.toInt_toInt32]; have := Int8.le_toInt z.toInt8; omega
      have b2 : z.toInt8.toInt32.toInt ≤ 127 := by rw [Int8.toInt_toInt32]; have := Int8.toInt_lt z.toInt8; omega
      exact ⟨by omega, by omega⟩
    · exact h6
  · cases hf
theorem eLng_ok (hs : eSg sr σ) {k : Nat} {q : eI} {x : Int32} (hf : eLng sr h k q = true) (hh : eAll (eCk ad σ tys) h ws) (hx : eIn σ q x) : ∃ (a : Nat) (cA : ClassId) (t0 n : Nat) (f : Nat → Int64), ws[k]? = some (a, .inl (cA, n, .inr (.inl f))) ∧ tys[t0]? = some (cA, .long) ∧ vp_in x n := by
  unfold eLng at hf
  split at hf
  · rename_i t n r ho
    simp only [Bool.and_eq_true] at hf
    have ht := Nat.eq_of_beq_eq_true hf.1
    subst ht
    obtain ⟨hin, hlt⟩ := eIx_ok hs hx hf.2
    obtain ⟨⟨a, e⟩, h1, cA, t0, h2, hN, f, h4, h5⟩ := eAll_get hh ho
    have h4 : e = .inl (cA, n, .inr (.inl f)) := h4
    subst h4
    exact ⟨a, cA, t0, n, f, h1, h2, hin⟩
  · cases hf
theorem eLSt_ok (hs : eSg sr σ) {k : Nat} {q : eI} {x : Int32} {u : Option Int64} {z : Int64} {h' : eH} (hf : eLSt sr h k q u = some h') (hh : eAll (eCk ad σ tys) h ws) (hx : eIn σ q x) (hz : ∀ y, u = some y → z = y) : ∃ (a : Nat) (cA : ClassId) (t0 n : Nat) (f : Nat → Int64), ws[k]? = some (a, .inl (cA, n, .inr (.inl f))) ∧ tys[t0]? = some (cA, .long) ∧ vp_in x n ∧ eAll (eCk ad σ tys) h' (ws.set k (a, .inl (cA, n, .inr (.inl (vp_updL f x.toNatClampNeg z))))) := by
  unfold eLSt at hf
  split at hf
  · rename_i t n r ho
    obtain ⟨hc, hg⟩ := eCond hf
    cases hg
    simp only [Bool.and_eq_true] at hc
    have ht := Nat.eq_of_beq_eq_true hc.1
    subst ht
    obtain ⟨hin, hlt⟩ := eIx_ok hs hx hc.2
    obtain ⟨⟨a, e⟩, h1, cA, t0, h2, hN, f, h4, h5⟩ := eAll_get hh ho
    have h4 : e = .inl (cA, n, .inr (.inl f)) := h4
    subst h4
    refine ⟨a, cA, t0, n, f, h1, h2, hin, ?_⟩
    have e1 : h.set k (.inr (3, n, .inr r)) = h := by
      apply List.ext_getElem?
      intro j
      by_cases hj : k = j
      · subst hj
        rw [List.getElem?_set_self (List.getElem?_eq_some_iff.mp ho).1, ho]
      · rw [List.getElem?_set_ne hj]
    rw [← e1]
    exact eAll_set hh k ⟨cA, t0, h2, hN, vp_updL f x.toNatClampNeg z, rfl, trivial⟩
  · rename_i t n es ho
    split at hf
    · rename_i y hy
      obtain ⟨hc, hg⟩ := eCond hf
      cases hg
      simp only [Bool.and_eq_true] at hc
      have ht := Nat.eq_of_beq_eq_true hc.1
      subst ht
      obtain ⟨hin, hlt⟩ := eIx_ok hs hx hc.2
      obtain ⟨⟨a, e⟩, h1, cA, t0, h2, hN, f, h4, h5⟩ := eAll_get hh ho
      have h4 : e = .inl (cA, n, .inr (.inl f)) := h4
      subst h4
      refine ⟨a, cA, t0, n, f, h1, h2, hin, ?_⟩
      have hy := eOne_ok hs.1 hx hy
      subst hy
      refine eAll_set hh k ⟨cA, t0, h2, hN, vp_updL f x.toNatClampNeg z, rfl, fun j hj => ?_⟩
      obtain ⟨v, g1, g2⟩ := h5 j hj
      by_cases hj2 : j = x.toNatClampNeg
      · subst hj2
        refine ⟨.inr (.inr u), ?_, z, ?_, hz⟩
        · rw [List.getElem?_set_self (List.getElem?_eq_some_iff.mp g1).1]
        · simp [vp_updL]
      · refine ⟨v, ?_, ?_⟩
        · rw [List.getElem?_set_ne (fun q => hj2 q.symm)]
          exact g1
        · have : vp_updL f x.toNatClampNeg z j = f j := by simp [vp_updL, hj2]
          rw [this]
          exact g2
    · cases hf
  · cases hf
theorem eRow_ok (hs : eSg sr σ) {k : Nat} {q : eI} {v : eV} {x : Int32} (hf : eRow sr h k q = some v) (hh : eAll (eCk ad σ tys) h ws) (hx : eIn σ q x) : ∃ (a : Nat) (cA : ClassId) (t0 n : Nat) (f : Nat → Option Nat), ws[k]? = some (a, .inl (cA, n, .inr (.inr (.inr (.inr f))))) ∧ tys[t0]? = some (cA, .array .int) ∧ vp_in x n ∧ eOk ad σ v (va_rf (f x.toNatClampNeg)) := by
  unfold eRow at hf
  split at hf
  · rename_i t n es ho
    split at hf
    · rename_i y hy
      obtain ⟨hc, hg⟩ := eCond hf
      clear hf
      rw [Bool.and_eq_true] at hc
      have ht := Nat.eq_of_beq_eq_true hc.1
      subst ht
      obtain ⟨hin, hlt⟩ := eIx_ok hs hx hc.2
      obtain ⟨⟨a, e⟩, h1, cA, t0, h2, hN, f, h4, h5⟩ := eAll_get hh ho
      have h4 : e = .inl (cA, n, .inr (.inr (.inr (.inr f)))) := h4
      subst h4
      refine ⟨a, cA, t0, n, f, h1, h2, hin, ?_⟩
      have := eOne_ok hs.1 hx hy
      subst this
      obtain ⟨v', g1, g2⟩ := h5 _ hlt
      rw [g1] at hg
      cases hg
      exact g2
    · cases hf
  · cases hf
end ELM
end
section
/-! THE ENGINE, 5: one step is right. -/
/-- what holds of a place: the world, the locals, the stack -/
def eCn (D : va_G) (cl : List vw_C) (A : Nat → Prop) (H0 : Heap) (s : State) (σ : Nat → Int) (nL : Nat) (ad0 : List Nat) (S : eS) (H : Heap) (locs : List Loc) (ws : va_W) (tys : List (ClassId × FieldType)) (ls : Array Slot) (lv : List (Nat × Value)) (stk : List Value) : Prop :=
  va_K D cl tys s ∧ va_P D cl ws H ∧ va_D A ws ∧ va_S A H0 H locs ∧ (∃ t, ws.map Prod.fst = ad0 ++ t) ∧ eAll (eCk (ws.map Prod.fst) σ tys) S.2.2.2.1 ws ∧ lv_has ls nL lv ∧ eAll (eLo (ws.map Prod.fst) σ) S.2.1 lv ∧ eAll (eOk (ws.map Prod.fst) σ) S.2.2.1 stk
/-- what an instruction's links come to -/
def eLk (cl : List vw_C) (Ts : List Cond) (own : String) (init : Bool) (i : Instr) (pc a b d : Nat) : Prop := match i with
  | .getfield idx => ∃ (C : String) (T : u_T) (N : Nat), cl[a]? = some (C, T, N) ∧ b < N ∧ Cond.fieldLink own idx (T b).1 (T b).2.1 (T b).2.2.1 ∈ Ts
  | .putfield idx => ∃ (C : String) (T : u_T) (N : Nat), cl[a]? = some (C, T, N) ∧ b < N ∧ Cond.fieldLink own idx (T b).1 (T b).2.1 (T b).2.2.1 ∈ Ts ∧ ((T b).2.2.2 = false ∨ (init = true ∧ (T b).1 = own)) ∧ (d = 0 → parseFieldDescriptor (T b).2.2.1 = some .int) ∧ (d = 2 → parseFieldDescriptor (T b).2.2.1 = some .boolean) ∧ (d = 5 → ∃ ty, parseFieldDescriptor (T b).2.2.1 = some ty ∧ ((∃ n, ty = .object n) ∨ ∃ t, ty = .array t))
  | .ldc idx => Cond.constant own idx (Int32.ofNat a) ∈ Ts
  | .ldc_w idx => Cond.constant own idx (Int32.ofNat a) ∈ Ts
  | .ldc2_w idx => Cond.constantLong own idx (Int64.ofNat a) ∈ Ts
  | .newarray t => Cond.arrayClass (newarray.typeOf t) ∈ Ts ∧ newarray.typeOf t = eTy a
  | .new idx => ∃ (C : String) (T : u_T) (N : Nat), cl[a]? = some (C, T, N) ∧ Cond.classLink own idx C ∈ Ts ∧ Cond.instantiable C N ∈ Ts ∧ Cond.initialized C ∈ Ts
  | .goto off => (pc : Int) + off = (a : Int)
  | .ifCond _ off => (pc : Int) + off = (a : Int)
  | .if_icmp _ off => (pc : Int) + off = (a : Int)
  | .ifnull off => (pc : Int) + off = (a : Int)
  | .ifnonnull off => (pc : Int) + off = (a : Int)
  | _ => True
/-- what is known of the classes -/
def eKl (cl : List vw_C) (Ts : List Cond) (dfs : List (List eV)) : Prop := ∀ (ci : Nat) (C : String) (T : u_T) (N : Nat), cl[ci]? = some (C, T, N) → (∀ w ∈ u_ws C T N, w ∈ Ts) ∧ ∃ ty : Nat → FieldType, (∀ k, k < N → parseFieldDescriptor (T k).2.2.1 = some (ty k)) ∧ (∀ a, a < N → ∀ b, b < N → a ≠ b → (T a).2.1 ≠ (T b).2.1) ∧ ∀ fs, dfs[ci]? = some fs → fs.length = N ∧ ∃ vs : List Value, (∀ (ad : List Nat) (σ : Nat → Int), σ 0 = 0 → eAll (eOk ad σ) fs vs) ∧ ∀ j, j < N → defaultValue (ty j) = vp_V vs j
section ESO
variable {p : Program} {l0 : Launch} {e : Env} {R : Room} {s : State} {m : MethodId} {args : Array Value} {below : List Frame} {meth : Method} {c : Code} {Q : State → Prop}
variable {cc : ByteArray} {own : String} {Ts : List Cond} {cl : List vw_C} {dfs : List (List eV)} {init : Bool} {sr : List (Int × Int)} {σ : Nat → Int} {D : va_G} {A : Nat → Prop} {H0 : Heap} {ad0 : List Nat} {nL Rc Rs : Nat}
theorem eTwo_ok {ad : List Nat} {st r : List eV} {a b : eI} {w : List Value} (h : eTwo st = some (a, b, r)) (hw : eAll (eOk ad σ) st w) : ∃ (x y : Int32) (r' : List Value), w = .int y :: .int x :: r' ∧ eIn σ a x ∧ eIn σ b y ∧ eAll (eOk ad σ) r r' := by
  match st, h with
  | .inl b' :: .inl a' :: r', h =>
    cases h
    obtain ⟨w1, ws1, rfl, ⟨y, rfl, hy⟩, h2⟩ := eAll_cons hw
    obtain ⟨w2, ws2, rfl, ⟨x, rfl, hx⟩, h3⟩ := eAll_cons h2
    exact ⟨x, y, ws2, rfl, hx, hy, h3⟩
theorem eGet_at {ad : List Nat} {l : eL} {lv : List (Nat × Value)} {ls : Array Slot} {i : Nat} {v : eV} (hl : lv_has ls nL lv) (h : eAll (eLo ad σ) l lv) (hg : eGet l i = some v) : ∃ w, ls[i]? = some (.val w) ∧ eOk ad σ v w ∧ ∃ k : Nat, lv[k]? = some (i, w) := by
  obtain ⟨w, h1, h2⟩ := eGet_ok h hg
  exact ⟨w, hl.2.2 _ h1, h2, List.getElem?_of_mem h1⟩
theorem eCn_set {k q pc cs sl : Nat} {e0 e1 : va_E} {H1 : Heap} {locs1 : List Loc} {ws : va_W} {tys : List (ClassId × FieldType)} {ls : Array Slot} {lv : List (Nat × Value)} {stk : List Value} {l : eL} {st : List eV} {h' : eH} (hK : va_K D cl tys s) (he : ws[k]? = some (q, e0)) (hP : va_P D cl (ws.set k (q, e1)) H1) (hD : va_D A (ws.set k (q, e1))) (hS : va_S A H0 H1 locs1) (hpre : ∃ t, ws.map Prod.fst = ad0 ++ t) (hh : eAll (eCk (ws.map Prod.fst) σ tys) h' (ws.set k (q, e1))) (hl : lv_has ls nL lv) (hlv : eAll (eLo (ws.map Prod.fst) σ) l lv) (hsk : eAll (eOk (ws.map Prod.fst) σ) st stk) : eCn D cl A H0 s σ nL ad0 (pc, l, st, h', cs, sl) H1 locs1 (ws.set k (q, e1)) tys ls lv stk := by
  have e := eAd_set (e1 := e1) he
  refine ⟨hK, hP, hD, hS, ?_, ?_, hl, ?_, ?_⟩ <;> rw [e] <;> assumption
theorem eCn_app {q pc cs sl : Nat} {e1 : va_E} {cc' : eC} {H1 : Heap} {locs1 : List Loc} {ws : va_W} {tys tys' : List (ClassId × FieldType)} {ls : Array Slot} {lv : List (Nat × Value)} {stk : List Value} {l : eL} {st : List eV} {h : eH} (hK : va_K D cl tys' s) (ht : ∃ t, tys' = tys ++ t) (hP : va_P D cl (ws ++ [(q, e1)]) H1) (hD : va_D A (ws ++ [(q, e1)])) (hS : va_S A H0 H1 locs1) (hpre : ∃ t, ws.map Prod.fst = ad0 ++ t) (hh : eAll (eCk (ws.map Prod.fst) σ tys) h ws) (hc : eCk ((ws ++ [(q, e1)]).map Prod.fst) σ tys' cc' (q, e1)) (hl : lv_has ls nL lv) (hlv : eAll (eLo (ws.map Prod.fst) σ) l lv) (hsk : eAll (eOk (ws.map Prod.fst) σ) st stk) : eCn D cl A H0 s σ nL ad0 (pc, l, .inr (.inl (some h.length)) :: st, h ++ [cc'], cs, sl) H1 locs1 (ws ++ [(q, e1)]) tys' ls lv (.ref q :: stk) := by
  have e : ∃ t, (ws ++ [(q, e1)]).map Prod.fst = ws.map Prod.fst ++ t := ⟨[q], by simp⟩
  refine ⟨hK, hP, hD, hS, ?_, eAll_app (eAll_mono (fun _ _ => eCk_ad e ht) hh) ⟨hc, trivial⟩, hl, eAll_mono (fun _ _ z => ⟨z.1, eOk_ad e z.2⟩) hlv, ⟨q, ?_, rfl⟩, eAll_mono (fun _ _ => eOk_ad e) hsk⟩
  · obtain ⟨t, ht⟩ := hpre
    exact ⟨t ++ [q], by simp [ht]⟩
  · rw [eAll_len hh]
    simp
theorem eNew_ok {a n : Nat} {c' : eC} (h : eNew a n = some c') (hn : n ≤ 60000000) : ∃ a0 : vp_A, (∀ cA : ClassId, vp_cell cA a0 = arrV cA n (fun _ => defaultValue (eTy a))) ∧ n * componentBytes (eTy a) ≤ 536870912 ∧ ∀ (ad : List Nat) (σ : Nat → Int) (tys : List (ClassId × FieldType)) (cA : ClassId) (t0 q : Nat), σ 0 = 0 → tys[t0]? = some (cA, eTy a) → eCk ad σ tys c' (q, .inl (cA, a0)) := by
  have z : ∀ (ad : List Nat) (σ : Nat → Int), σ 0 = 0 → eCt ad σ n (fun _ => 0) (cond (Nat.ble n 410) (.inl (List.replicate n eZero)) (.inr (0, 0))) := by
    intro ad σ h0
    cases Nat.ble n 410 with
    | true => exact fun j hj => ⟨eZero, by simp [hj], 0, rfl, eIn_mk (by rw [h0]; decide) (by rw [h0]; decide)⟩
    | false => exact fun j hj => ⟨by show (0 : Int) ≤ (0 : Int32).toInt; decide, by show (0 : Int32).toInt ≤ (0 : Int); decide⟩
  unfold eNew at h
  split at h
  · cases h
    exact ⟨(n, .inl (fun _ => 0)), fun _ => rfl, by show n * 4 ≤ _; omega, fun ad σ tys cA t0 q h0 ht => ⟨cA, t0, ht, by show n < 2 ^ 31; omega, _, rfl, z ad σ h0⟩⟩
  · cases h
    exact ⟨(n, .inl (fun _ => 0)), fun _ => rfl, by show n * 1 ≤ _; omega, fun ad σ tys cA t0 q h0 ht => ⟨cA, t0, ht, by show n < 2 ^ 31; omega, _, rfl, fun j hj => ⟨by show (-128 : Int) ≤ (0 : Int32).toInt; decide, by show (0 : Int32).toInt ≤ (127 : Int); decide⟩⟩⟩
  · cases h
    exact ⟨(n, .inl (fun _ => 0)), fun _ => rfl, by show n * 1 ≤ _; omega, fun ad σ tys cA t0 q h0 ht => ⟨cA, t0, ht, by show n < 2 ^ 31; omega, _, rfl, z ad σ h0⟩⟩
  · cases h
    exact ⟨(n, .inr (.inl (fun _ => 0))), fun _ => rfl, by show n * 8 ≤ _; omega, fun ad σ tys cA t0 q h0 ht => ⟨cA, t0, ht, by show n < 2 ^ 31; omega, _, rfl, by
      cases hb : Nat.beq n 22 with
      | true => exact fun j hj => ⟨.inr (.inr (some 0)), by simp [hj], 0, rfl, fun y hy => by cases hy; rfl⟩
      | false => trivial⟩⟩
  · cases h
theorem eStF (hx : p.tables.exec = Jvm.exec) (hb : c.code = cc) (hown : s.vm.findClass own = some m.cls) (hts : ∀ w ∈ Ts, w.before args s = true) (hcl : eKl cl Ts dfs) (hin : init = true → meth.name = "<init>")
    {H : Heap} {locs : List Loc} {ws : va_W} {tys : List (ClassId × FieldType)} {ls : Array Slot} {pc idx k a b q cs sl : Nat} {vs rest : List Value} {w : Value} {C : String} {T : u_T} {N : Nat} {ty : FieldType} (hK : va_K D cl tys s) (hP : va_P D cl ws H) (hD : va_D A ws) (hS : va_S A H0 H locs) (he : ws[k]? = some (q, .inr (a, vs))) (hl : b < vs.length) (hc : cl[a]? = some (C, T, N)) (hbN : b < N) (hlink : Cond.fieldLink own idx (T b).1 (T b).2.1 (T b).2.2.1 ∈ Ts) (hfin : (T b).2.2.2 = false ∨ (init = true ∧ (T b).1 = own)) (hty : parseFieldDescriptor (T b).2.2.1 = some ty) (hn : narrow ty w = w) (hfit : fits ty w = true) (hdg : decode cc pc = .ok (.putfield idx, 3))
    (kk : ∀ (H1 : Heap) (locs1 : List Loc), va_P D cl (ws.set k (q, .inr (a, vs.set b w))) H1 → va_D A (ws.set k (q, .inr (a, vs.set b w))) → va_S A H0 H1 locs1 → W p l0 e R s m args below meth c H1 locs1 cs sl Q (F0 m (pc + 3) ls rest)) : W p l0 e R s m args below meth c H locs cs sl Q (F0 m pc ls (w :: .ref q :: rest)) := by
  obtain ⟨h1, ty0, h2, h3, -⟩ := hcl a C T N hc
  cases hf : (T b).2.2.2 with
  | false => exact va_put hx hb hts h1 ty0 h2 h3 hown hK hP hD hS k he hc b hbN (hts _ hlink) (fun _ z => z) hf hty hn hfit hl hdg kk
  | true =>
    rcases hfin with z | ⟨z1, z2⟩
    · rw [hf] at z; cases z
    · exact va_putF hx hb hts h1 ty0 h2 h3 hown hK hP hD hS k he hc b hbN (hts _ hlink) (fun _ z => z) hf (hin z1) z2 hty hn hfit hl hdg kk
theorem e_bool {q : eI} {x : Int32} (h0 : σ 0 = 0) (hq : eIn σ q x) (h : (eOne q == some 0 || eOne q == some 1) = true) : x = 0 ∨ x = 1 := by
  rw [Bool.or_eq_true] at h
  rcases h with h | h
  · exact Or.inl (eOne_ok h0 hq (eq_of_beq h))
  · exact Or.inr (eOne_ok h0 hq (eq_of_beq h))
theorem eAr_len {ad : List Nat} {k n : Nat} {c9 : List eV ⊕ (Int × Int)} {cA : ClassId} {e9 : va_E} (h : eAr ad σ k n c9 cA e9) : ∃ z : vp_A, e9 = .inl (cA, z) ∧ z.1 = n := by
  unfold eAr at h
  split at h
  · obtain ⟨f, h1, -⟩ := h; exact ⟨_, h1, rfl⟩
  · obtain ⟨f, h1, -⟩ := h; exact ⟨_, h1, rfl⟩
  · obtain ⟨f, h1, -⟩ := h; exact ⟨_, h1, rfl⟩
theorem va_aldA {H : Heap} {locs : List Loc} {ws : va_W} {tys : List (ClassId × FieldType)} {ls : Array Slot} {pc cs sl a : Nat} {rest : List Value} (hexec : p.tables.exec = Jvm.exec) (hb : c.code = cc) (hK : va_K D cl tys s) (hP : va_P D cl ws H) (q0 t0 : Nat) {cA : ClassId} {n : Nat} {f : Nat → Option Nat} (ha : ws[q0]? = some (a, .inl (cA, n, .inr (.inr (.inr (.inr f)))))) (ht : tys[t0]? = some (cA, .array .int)) {i : Int32} (hin : vp_in i n) (hdg : decode cc pc = .ok (.aaload, 1))
    (kk : W p l0 e R s m args below meth c H locs cs sl Q (F0 m (pc + 1) ls (va_rf (f i.toNatClampNeg) :: rest))) : W p l0 e R s m args below meth c H locs cs sl Q (F0 m pc ls (.int i :: .ref a :: rest)) := by
  have hlt : i.toNatClampNeg < n := Nat.not_le.mp fun q => hin (Or.inr q)
  exact W.aald (v := va_rf (f i.toNatClampNeg)) (ty := .array .int) hexec hb (hP q0 _ ha) ((hK.2 t0 _ ht).1 n (fun j => va_rf (f j))) rfl (fun q => by cases q) (by show ¬ (i < 0 ∨ (arrV _ _ _).slots.size ≤ _); rw [arrV_size]; exact hin) (by show (arrV _ _ _).slots[_]? = _; rw [arrV_read _ _ hlt]) rfl rfl hdg kk
set_option maxHeartbeats 4000000 in
theorem eStep_ok (hx : p.tables.exec = Jvm.exec) (hb : c.code = cc) (hown : s.vm.findClass own = some m.cls) (hts : ∀ w ∈ Ts, w.before args s = true) (hcl : eKl cl Ts dfs) (hin : init = true → meth.name = "<init>") (hRc : R.cells = Rc) (hRs : R.slots = Rs) (hs : eSg sr σ) (hA : ∀ q, H0.size ≤ q → A q)
    {i : Instr} {pc a b d cs sl : Nat} {l : eL} {st : List eV} {h : eH} {outs : List eS} (hd : eLen i ≠ 0 → decode cc pc = .ok (i, eLen i)) (hd0 : ∃ len, decode cc pc = .ok (i, len)) (hlk : eLk cl Ts own init i pc a b d)
    (hst : eStep sr dfs Rc Rs nL i a b d pc l st h cs sl = some outs)
    (K : ∀ S' ∈ outs, ∀ (H : Heap) (locs : List Loc) (ws : va_W) (tys : List (ClassId × FieldType)) (ls : Array Slot) (lv : List (Nat × Value)) (stk : List Value), eCn D cl A H0 s σ nL ad0 S' H locs ws tys ls lv stk → W p l0 e R s m args below meth c H locs S'.2.2.2.2.1 S'.2.2.2.2.2 Q (F0 m S'.1 ls stk)) :
    ∀ (H : Heap) (locs : List Loc) (ws : va_W) (tys : List (ClassId × FieldType)) (ls : Array Slot) (lv : List (Nat × Value)) (stk : List Value), eCn D cl A H0 s σ nL ad0 (pc, l, st, h, cs, sl) H locs ws tys ls lv stk → W p l0 e R s m args below meth c H locs cs sl Q (F0 m pc ls stk) := by
  intro H locs ws tys ls lv stk hc
  obtain ⟨hK, hP, hD, hS, hpre, hh, hl, hlv, hsk⟩ := hc
  have h0 := hs.1
  unfold eStep at hst
  split at hst
  · cases hst
    exact lv_iconst hx hb (hd (by simp [eLen])) rfl (K _ List.mem_cons_self _ _ _ _ _ _ _ ⟨hK, hP, hD, hS, hpre, hh, hl, hlv, ⟨_, rfl, ePt_ok h0 _⟩, hsk⟩)
  · cases hst
    exact lv_bipush hx hb (hd (by simp [eLen])) rfl (K _ List.mem_cons_self _ _ _ _ _ _ _ ⟨hK, hP, hD, hS, hpre, hh, hl, hlv, ⟨_, rfl, ePt_ok h0 _⟩, hsk⟩)
  · cases hst
    exact lv_sipush hx hb (hd (by simp [eLen])) rfl (K _ List.mem_cons_self _ _ _ _ _ _ _ ⟨hK, hP, hD, hS, hpre, hh, hl, hlv, ⟨_, rfl, ePt_ok h0 _⟩, hsk⟩)
  · cases hst
    exact lv_lconst hx hb (hd (by simp [eLen])) rfl (K _ List.mem_cons_self _ _ _ _ _ _ _ ⟨hK, hP, hD, hS, hpre, hh, hl, hlv, ⟨_, rfl, fun y hy => by cases hy; rfl⟩, hsk⟩)
  · cases hst
    exact lv_ldc hx hb hown (hts _ hlk) (hd (by simp [eLen])) (K _ List.mem_cons_self _ _ _ _ _ _ _ ⟨hK, hP, hD, hS, hpre, hh, hl, hlv, ⟨_, rfl, ePt_ok h0 _⟩, hsk⟩)
  · cases hst
    exact lv_ldcw hx hb hown (hts _ hlk) (hd (by simp [eLen])) (K _ List.mem_cons_self _ _ _ _ _ _ _ ⟨hK, hP, hD, hS, hpre, hh, hl, hlv, ⟨_, rfl, ePt_ok h0 _⟩, hsk⟩)
  · cases hst
    exact lv_ldc2 hx hb hown (hts _ hlk) (hd (by simp [eLen])) (K _ List.mem_cons_self _ _ _ _ _ _ _ ⟨hK, hP, hD, hS, hpre, hh, hl, hlv, ⟨_, rfl, fun y hy => by cases hy; rfl⟩, hsk⟩)
  · split at hst
    · rename_i v hg
      obtain ⟨w, h1, h2, -⟩ := eGet_at hl hlv hg
      obtain ⟨x, rfl, hxq⟩ := h2
      cases hst
      exact lv_iload_n hx hb (hd (by simp [eLen])) rfl h1 (K _ List.mem_cons_self _ _ _ _ _ _ _ ⟨hK, hP, hD, hS, hpre, hh, hl, hlv, ⟨_, rfl, hxq⟩, hsk⟩)
    · cases hst
  · split at hst
    · rename_i v hg
      obtain ⟨w, h1, h2, -⟩ := eGet_at hl hlv hg
      obtain ⟨x, rfl, hxq⟩ := h2
      cases hst
      exact lv_iload hx hb (hd (by simp [eLen])) h1 (K _ List.mem_cons_self _ _ _ _ _ _ _ ⟨hK, hP, hD, hS, hpre, hh, hl, hlv, ⟨_, rfl, hxq⟩, hsk⟩)
    · cases hst
  · split at hst
    · rename_i v hg
      obtain ⟨w, h1, h2, -⟩ := eGet_at hl hlv hg
      obtain ⟨x, rfl, hxy⟩ := h2
      cases hst
      exact lv_lload_n hx hb (hd (by simp [eLen])) rfl h1 (K _ List.mem_cons_self _ _ _ _ _ _ _ ⟨hK, hP, hD, hS, hpre, hh, hl, hlv, ⟨_, rfl, hxy⟩, hsk⟩)
    · cases hst
  · split at hst
    · rename_i v hg
      obtain ⟨w, h1, h2, -⟩ := eGet_at hl hlv hg
      obtain ⟨x, rfl, hxy⟩ := h2
      cases hst
      exact lv_lload hx hb (hd (by simp [eLen])) h1 (K _ List.mem_cons_self _ _ _ _ _ _ _ ⟨hK, hP, hD, hS, hpre, hh, hl, hlv, ⟨_, rfl, hxy⟩, hsk⟩)
    · cases hst
  · split at hst
    · rename_i v hg
      obtain ⟨w, h1, h2, -⟩ := eGet_at hl hlv hg
      obtain ⟨x, hxa, rfl⟩ := h2
      cases hst
      exact lv_aload_n hx hb (hd (by simp [eLen])) rfl h1 (K _ List.mem_cons_self _ _ _ _ _ _ _ ⟨hK, hP, hD, hS, hpre, hh, hl, hlv, ⟨_, hxa, rfl⟩, hsk⟩)
    · cases hst
  · split at hst
    · rename_i v hg
      obtain ⟨w, h1, h2, -⟩ := eGet_at hl hlv hg
      obtain ⟨x, hxa, rfl⟩ := h2
      cases hst
      exact lv_aload hx hb (hd (by simp [eLen])) h1 (K _ List.mem_cons_self _ _ _ _ _ _ _ ⟨hK, hP, hD, hS, hpre, hh, hl, hlv, ⟨_, hxa, rfl⟩, hsk⟩)
    · cases hst
  · split at hst
    · obtain ⟨hn, hg⟩ := eCond hst
      cases hg
      obtain ⟨w, stk, rfl, ⟨x, rfl, hxq⟩, hsk1⟩ := eAll_cons hsk
      exact lv_istore_n hx hb (hd (by simp [eLen])) rfl hl (Nat.le_of_ble_eq_true hn) rfl (fun ls hl => K _ List.mem_cons_self _ _ _ _ _ _ _ ⟨hK, hP, hD, hS, hpre, hh, hl, ePut_ok hlv ⟨x, rfl, hxq⟩, hsk1⟩)
    · cases hst
  · split at hst
    · obtain ⟨hn, hg⟩ := eCond hst
      cases hg
      obtain ⟨w, stk, rfl, ⟨x, rfl, hxq⟩, hsk1⟩ := eAll_cons hsk
      exact lv_istore hx hb (hd (by simp [eLen])) hl (Nat.le_of_ble_eq_true hn) rfl (fun ls hl => K _ List.mem_cons_self _ _ _ _ _ _ _ ⟨hK, hP, hD, hS, hpre, hh, hl, ePut_ok hlv ⟨x, rfl, hxq⟩, hsk1⟩)
    · cases hst
  · split at hst
    · obtain ⟨hn, hg⟩ := eCond hst
      cases hg
      obtain ⟨w, stk, rfl, ⟨x, rfl, hxy⟩, hsk1⟩ := eAll_cons hsk
      exact lv_lstore_n hx hb (hd (by simp [eLen])) rfl hl (Nat.le_of_ble_eq_true hn) rfl (fun ls hl => K _ List.mem_cons_self _ _ _ _ _ _ _ ⟨hK, hP, hD, hS, hpre, hh, hl, ePut2_ok hlv ⟨x, rfl, hxy⟩, hsk1⟩)
    · cases hst
  · split at hst
    · obtain ⟨hn, hg⟩ := eCond hst
      cases hg
      obtain ⟨w, stk, rfl, ⟨x, rfl, hxy⟩, hsk1⟩ := eAll_cons hsk
      exact lv_lstore hx hb (hd (by simp [eLen])) hl (Nat.le_of_ble_eq_true hn) rfl (fun ls hl => K _ List.mem_cons_self _ _ _ _ _ _ _ ⟨hK, hP, hD, hS, hpre, hh, hl, ePut2_ok hlv ⟨x, rfl, hxy⟩, hsk1⟩)
    · cases hst
  · split at hst
    · obtain ⟨hn, hg⟩ := eCond hst
      cases hg
      obtain ⟨w, stk, rfl, ⟨x, hxa, rfl⟩, hsk1⟩ := eAll_cons hsk
      exact lv_astore_n hx hb (hd (by simp [eLen])) rfl hl (Nat.le_of_ble_eq_true hn) rfl (fun ls hl => K _ List.mem_cons_self _ _ _ _ _ _ _ ⟨hK, hP, hD, hS, hpre, hh, hl, ePut_ok hlv ⟨x, hxa, rfl⟩, hsk1⟩)
    · cases hst
  · split at hst
    · obtain ⟨hn, hg⟩ := eCond hst
      cases hg
      obtain ⟨w, stk, rfl, ⟨x, hxa, rfl⟩, hsk1⟩ := eAll_cons hsk
      exact lv_astore hx hb (hd (by simp [eLen])) hl (Nat.le_of_ble_eq_true hn) rfl (fun ls hl => K _ List.mem_cons_self _ _ _ _ _ _ _ ⟨hK, hP, hD, hS, hpre, hh, hl, ePut_ok hlv ⟨x, hxa, rfl⟩, hsk1⟩)
    · cases hst
  · split at hst
    · rename_i v hg
      obtain ⟨hn, hg2⟩ := eCond hst
      cases hg2
      obtain ⟨w, -, ⟨x, rfl, hxq⟩, kk, hkk⟩ := eGet_at hl hlv hg
      exact lv_iinc hx hb (hd (by simp [eLen])) hl hkk rfl (Nat.le_of_ble_eq_true hn) rfl (fun ls hl => K _ List.mem_cons_self _ _ _ _ _ _ _ ⟨hK, hP, hD, hS, hpre, hh, hl, ePut_ok hlv ⟨_, rfl, eAdd_ok hs hxq (ePt_ok h0 _)⟩, hsk⟩)
    · cases hst
  · split at hst
    · rename_i x y r hg
      cases hst
      obtain ⟨u, v, r, rfl, hu, hv, hr⟩ := eTwo_ok hg hsk
      exact lv_iadd hx hb (hd (by simp [eLen])) (K _ List.mem_cons_self _ _ _ _ _ _ _ ⟨hK, hP, hD, hS, hpre, hh, hl, hlv, ⟨_, rfl, eAdd_ok hs hu hv⟩, hr⟩)
    · cases hst
  · split at hst
    · rename_i x y r hg
      cases hst
      obtain ⟨u, v, r, rfl, hu, hv, hr⟩ := eTwo_ok hg hsk
      exact lv_isub hx hb (hd (by simp [eLen])) (K _ List.mem_cons_self _ _ _ _ _ _ _ ⟨hK, hP, hD, hS, hpre, hh, hl, hlv, ⟨_, rfl, eSub_ok hs hu hv⟩, hr⟩)
    · cases hst
  · split at hst
    · rename_i x y r hg
      cases hst
      obtain ⟨u, v, r, rfl, hu, hv, hr⟩ := eTwo_ok hg hsk
      exact lv_imul hx hb (hd (by simp [eLen])) (K _ List.mem_cons_self _ _ _ _ _ _ _ ⟨hK, hP, hD, hS, hpre, hh, hl, hlv, ⟨_, rfl, eBin_ok (f := fun u v => u * v) h0 hu hv (eTop_ok h0 _)⟩, hr⟩)
    · cases hst
  · split at hst
    · rename_i x y r hg
      cases hst
      obtain ⟨u, v, r, rfl, hu, hv, hr⟩ := eTwo_ok hg hsk
      exact lv_iand hx hb (hd (by simp [eLen])) (K _ List.mem_cons_self _ _ _ _ _ _ _ ⟨hK, hP, hD, hS, hpre, hh, hl, hlv, ⟨_, rfl, eBin_ok (f := fun u v => u &&& v) h0 hu hv (eTop_ok h0 _)⟩, hr⟩)
    · cases hst
  · split at hst
    · rename_i x y r hg
      cases hst
      obtain ⟨u, v, r, rfl, hu, hv, hr⟩ := eTwo_ok hg hsk
      exact lv_ior hx hb (hd (by simp [eLen])) (K _ List.mem_cons_self _ _ _ _ _ _ _ ⟨hK, hP, hD, hS, hpre, hh, hl, hlv, ⟨_, rfl, eBin_ok (f := fun u v => u ||| v) h0 hu hv (eTop_ok h0 _)⟩, hr⟩)
    · cases hst
  · split at hst
    · rename_i x y r hg
      cases hst
      obtain ⟨u, v, r, rfl, hu, hv, hr⟩ := eTwo_ok hg hsk
      exact lv_ixor hx hb (hd (by simp [eLen])) (K _ List.mem_cons_self _ _ _ _ _ _ _ ⟨hK, hP, hD, hS, hpre, hh, hl, hlv, ⟨_, rfl, eBin_ok (f := fun u v => u ^^^ v) h0 hu hv (eTop_ok h0 _)⟩, hr⟩)
    · cases hst
  · split at hst
    · rename_i x y r hg
      cases hst
      obtain ⟨u, v, r, rfl, hu, hv, hr⟩ := eTwo_ok hg hsk
      exact lv_ishl hx hb (hd (by simp [eLen])) (K _ List.mem_cons_self _ _ _ _ _ _ _ ⟨hK, hP, hD, hS, hpre, hh, hl, hlv, ⟨_, rfl, eBin_ok (f := fun u v => u <<< (v &&& 31)) h0 hu hv (eTop_ok h0 _)⟩, hr⟩)
    · cases hst
  · split at hst
    · rename_i x y r hg
      cases hst
      obtain ⟨u, v, r, rfl, hu, hv, hr⟩ := eTwo_ok hg hsk
      exact lv_ishr hx hb (hd (by simp [eLen])) (K _ List.mem_cons_self _ _ _ _ _ _ _ ⟨hK, hP, hD, hS, hpre, hh, hl, hlv, ⟨_, rfl, eBin_ok (f := fun u v => u >>> (v &&& 31)) h0 hu hv (eTop_ok h0 _)⟩, hr⟩)
    · cases hst
  · split at hst
    · rename_i x y r hg
      cases hst
      obtain ⟨u, v, r, rfl, hu, hv, hr⟩ := eTwo_ok hg hsk
      exact lv_iushr hx hb (hd (by simp [eLen])) rfl (K _ List.mem_cons_self _ _ _ _ _ _ _ ⟨hK, hP, hD, hS, hpre, hh, hl, hlv, ⟨_, rfl, eBin_ok (f := fun u v => (u.toUInt32 >>> (v.toUInt32 &&& Int32.toUInt32 31)).toInt32) h0 hu hv (eUsh_ok h0 hv)⟩, hr⟩)
    · cases hst
  · split at hst
    · rename_i x y r hg
      obtain ⟨hn, hg2⟩ := eCond hst
      cases hg2
      obtain ⟨u, v, r, rfl, hu, hv, hr⟩ := eTwo_ok hg hsk
      have hz := eEq_ok hs hv (y := 0) (b := (0, 0, 0)) (eIn_mk (by rw [h0]; decide) (by rw [h0]; decide)) (eq_of_beq hn)
      have hz : ¬ v = 0 := by rw [hz]; decide
      exact lv_irem hx hb (hd (by simp [eLen])) hz (K _ List.mem_cons_self _ _ _ _ _ _ _ ⟨hK, hP, hD, hS, hpre, hh, hl, hlv, ⟨_, rfl, eBin_ok (f := fun u v => u - u / v * v) h0 hu hv (eRem_ok hs hu hv)⟩, hr⟩)
    · cases hst
  · split at hst
    · rename_i x y r hg
      obtain ⟨hn, hg2⟩ := eCond hst
      cases hg2
      obtain ⟨u, v, r, rfl, hu, hv, hr⟩ := eTwo_ok hg hsk
      have hz := eEq_ok hs hv (y := 0) (b := (0, 0, 0)) (eIn_mk (by rw [h0]; decide) (by rw [h0]; decide)) (eq_of_beq hn)
      have hz : ¬ v = 0 := by rw [hz]; decide
      exact lv_idiv hx hb (hd (by simp [eLen])) hz (K _ List.mem_cons_self _ _ _ _ _ _ _ ⟨hK, hP, hD, hS, hpre, hh, hl, hlv, ⟨_, rfl, eBin_ok (f := fun u v => u / v) h0 hu hv (eTop_ok h0 _)⟩, hr⟩)
    · cases hst
  · split at hst
    · cases hst
      obtain ⟨w, stk, rfl, ⟨x, rfl, hxq⟩, hsk1⟩ := eAll_cons hsk
      exact lv_i2b hx hb (hd (by simp [eLen])) rfl (K _ List.mem_cons_self _ _ _ _ _ _ _ ⟨hK, hP, hD, hS, hpre, hh, hl, hlv, ⟨_, rfl, eTop_ok h0 _⟩, hsk1⟩)
    · cases hst
  · split at hst
    · cases hst
      obtain ⟨w, stk, rfl, ⟨x, rfl, hxq⟩, hsk1⟩ := eAll_cons hsk
      exact lv_i2l hx hb (hd (by simp [eLen])) rfl (K _ List.mem_cons_self _ _ _ _ _ _ _ ⟨hK, hP, hD, hS, hpre, hh, hl, hlv, ⟨_, rfl, fun y hy => by
        rw [Option.map_eq_some_iff] at hy
        obtain ⟨x', hx', rfl⟩ := hy
        rw [eOne_ok h0 hxq hx']⟩, hsk1⟩)
    · cases hst
  · split at hst
    · cases hst
      obtain ⟨w, stk, rfl, ⟨x, rfl, -⟩, hsk1⟩ := eAll_cons hsk
      exact lv_l2i hx hb (hd (by simp [eLen])) rfl (K _ List.mem_cons_self _ _ _ _ _ _ _ ⟨hK, hP, hD, hS, hpre, hh, hl, hlv, ⟨_, rfl, eTop_ok h0 _⟩, hsk1⟩)
    · cases hst
  · split at hst
    · cases hst
      obtain ⟨w, stk, rfl, ⟨x, rfl, hxu⟩, hsk1⟩ := eAll_cons hsk
      obtain ⟨w, stk, rfl, ⟨y, rfl, hyu⟩, hsk2⟩ := eAll_cons hsk1
      exact lv_ladd hx hb (hd (by simp [eLen])) (K _ List.mem_cons_self _ _ _ _ _ _ _ ⟨hK, hP, hD, hS, hpre, hh, hl, hlv, ⟨_, rfl, eL2_ok hyu hxu⟩, hsk2⟩)
    · cases hst
  · split at hst
    · cases hst
      obtain ⟨w, stk, rfl, ⟨x, rfl, hxu⟩, hsk1⟩ := eAll_cons hsk
      obtain ⟨w, stk, rfl, ⟨y, rfl, hyu⟩, hsk2⟩ := eAll_cons hsk1
      exact lv_lmul hx hb (hd (by simp [eLen])) (K _ List.mem_cons_self _ _ _ _ _ _ _ ⟨hK, hP, hD, hS, hpre, hh, hl, hlv, ⟨_, rfl, eL2_ok hyu hxu⟩, hsk2⟩)
    · cases hst
  · split at hst
    · cases hst
      obtain ⟨w, stk, rfl, ⟨x, rfl, -⟩, hsk1⟩ := eAll_cons hsk
      obtain ⟨w, stk, rfl, ⟨y, rfl, -⟩, hsk2⟩ := eAll_cons hsk1
      exact W.lcmp hx hb (hd (by simp [eLen])) (K _ List.mem_cons_self _ _ _ _ _ _ _ ⟨hK, hP, hD, hS, hpre, hh, hl, hlv, ⟨_, rfl, eTop_ok h0 _⟩, hsk2⟩)
    · cases hst
  · split at hst
    · obtain ⟨hn, hg⟩ := eCond hst
      cases hg
      have hn := Nat.eq_of_beq_eq_true hn
      obtain ⟨w, stk, rfl, hw, hsk1⟩ := eAll_cons hsk
      exact lv_dup hx hb (hd (by simp [eLen])) (by rw [eOk_cat hw, hn]) (K _ List.mem_cons_self _ _ _ _ _ _ _ ⟨hK, hP, hD, hS, hpre, hh, hl, hlv, hw, hw, hsk1⟩)
    · cases hst
  · split at hst
    · obtain ⟨hn, hg⟩ := eCond hst
      cases hg
      rw [Bool.and_eq_true] at hn
      have hn1 := Nat.eq_of_beq_eq_true hn.1
      have hn2 := Nat.eq_of_beq_eq_true hn.2
      obtain ⟨w, stk, rfl, hw, hsk1⟩ := eAll_cons hsk
      obtain ⟨w2, stk, rfl, hw2, hsk2⟩ := eAll_cons hsk1
      exact lv_dup2_11 hx hb (hd (by simp [eLen])) (by rw [eOk_cat hw, hn1]) (by rw [eOk_cat hw2, hn2]) (K _ List.mem_cons_self _ _ _ _ _ _ _ ⟨hK, hP, hD, hS, hpre, hh, hl, hlv, hw, hw2, hw, hw2, hsk2⟩)
    · cases hst
  · split at hst
    · obtain ⟨hn, hg⟩ := eCond hst
      cases hg
      have hn := Nat.eq_of_beq_eq_true hn
      obtain ⟨w, stk, rfl, hw, hsk1⟩ := eAll_cons hsk
      exact lv_pop hx hb (hd (by simp [eLen])) (by rw [eOk_cat hw, hn]) (K _ List.mem_cons_self _ _ _ _ _ _ _ ⟨hK, hP, hD, hS, hpre, hh, hl, hlv, hsk1⟩)
    · cases hst
  · split at hst
    · split at hst
      · rename_i v hg
        cases hst
        obtain ⟨w, stk, rfl, ⟨x, hxa, rfl⟩, hsk1⟩ := eAll_cons hsk
        obtain ⟨q, vs, w, he, hv, hw⟩ := eFld_ok hg hh
        have e1 := eAd_at he hxa
        subst e1
        obtain ⟨C, T, N, hc, hbN, hlink⟩ := hlk
        exact va_get hx hb hts (hcl _ C T N hc).1 hown hK hP _ he hc _ hbN (hts _ hlink) (fun _ z => z) hv (hd (by simp [eLen])) (K _ List.mem_cons_self _ _ _ _ _ _ _ ⟨hK, hP, hD, hS, hpre, hh, hl, hlv, hw, hsk1⟩)
      · cases hst
    · cases hst
  · obtain ⟨C, T, N, hc, hbN, hlink, hfin, t0, t2, t5⟩ := hlk
    split at hst
    · obtain ⟨hn, hg⟩ := eCond hst
      clear hst
      split at hg
      · rename_i h2 hg2
        cases hg
        obtain ⟨w, stk, rfl, ⟨x, rfl, hxq⟩, hsk1⟩ := eAll_cons hsk
        obtain ⟨w, stk, rfl, ⟨y, hya, rfl⟩, hsk2⟩ := eAll_cons hsk1
        obtain ⟨q, vs, he, hbl, hh2⟩ := eSetF_ok (w := .int x) hg2 hh ⟨x, rfl, hxq⟩
        have e1 := eAd_at he hya
        subst e1
        have hk : ∃ ty, parseFieldDescriptor (T b).2.2.1 = some ty ∧ narrow ty (.int x) = .int x ∧ fits ty (.int x) = true := by
          rw [Bool.or_eq_true] at hn
          rcases hn with hn | hn
          · exact ⟨_, t0 (Nat.eq_of_beq_eq_true hn), rfl, rfl⟩
          · rw [Bool.and_eq_true] at hn
            refine ⟨_, t2 (Nat.eq_of_beq_eq_true hn.1), ?_⟩
            rcases e_bool h0 hxq hn.2 with rfl | rfl <;> exact ⟨by decide, by decide⟩
        obtain ⟨ty, k1, k2, k3⟩ := hk
        exact eStF hx hb hown hts hcl hin hK hP hD hS he hbl hc hbN hlink hfin k1 k2 k3 (hd (by simp [eLen])) (fun H1 locs1 hP hD hS => K _ List.mem_cons_self _ _ _ _ _ _ _ (eCn_set hK he hP hD hS hpre hh2 hl hlv hsk2))
      · cases hg
    · obtain ⟨hn, hg⟩ := eCond hst
      clear hst
      split at hg
      · rename_i h2 hg2
        cases hg
        obtain ⟨w, stk, rfl, ⟨x, hxa, rfl⟩, hsk1⟩ := eAll_cons hsk
        obtain ⟨w, stk, rfl, ⟨y, hya, rfl⟩, hsk2⟩ := eAll_cons hsk1
        obtain ⟨q, vs, he, hbl, hh2⟩ := eSetF_ok (w := .ref x) hg2 hh ⟨x, hxa, rfl⟩
        have e1 := eAd_at he hya
        subst e1
        obtain ⟨ty, k1, k2⟩ := t5 (Nat.eq_of_beq_eq_true hn)
        have k3 : narrow ty (.ref x) = .ref x ∧ fits ty (.ref x) = true := by rcases k2 with ⟨n, rfl⟩ | ⟨n, rfl⟩ <;> exact ⟨rfl, rfl⟩
        exact eStF hx hb hown hts hcl hin hK hP hD hS he hbl hc hbN hlink hfin k1 k3.1 k3.2 (hd (by simp [eLen])) (fun H1 locs1 hP hD hS => K _ List.mem_cons_self _ _ _ _ _ _ _ (eCn_set hK he hP hD hS hpre hh2 hl hlv hsk2))
      · cases hg
    · cases hst
  · split at hst
    · split at hst
      · rename_i v hg
        cases hst
        obtain ⟨w, stk, rfl, ⟨x, rfl, hxq⟩, hsk1⟩ := eAll_cons hsk
        obtain ⟨w, stk, rfl, ⟨y, hya, rfl⟩, hsk2⟩ := eAll_cons hsk1
        obtain ⟨q, cA, t0, n, f, he, ht, hxi, hv⟩ := eALd_ok hs (Or.inl rfl) hg hh hxq
        have e1 := eAd_at he hya
        subst e1
        exact va_iald hx hb hK hP _ t0 he ht hxi (hd (by simp [eLen])) (K _ List.mem_cons_self _ _ _ _ _ _ _ ⟨hK, hP, hD, hS, hpre, hh, hl, hlv, ⟨_, rfl, hv⟩, hsk2⟩)
      · cases hst
    · cases hst
  · split at hst
    · split at hst
      · rename_i v hg
        cases hst
        obtain ⟨w, stk, rfl, ⟨x, rfl, hxq⟩, hsk1⟩ := eAll_cons hsk
        obtain ⟨w, stk, rfl, ⟨y, hya, rfl⟩, hsk2⟩ := eAll_cons hsk1
        obtain ⟨q, cA, t0, n, f, he, ht, hxi, hv⟩ := eALd_ok hs (Or.inr (Or.inl rfl)) hg hh hxq
        have e1 := eAd_at he hya
        subst e1
        exact va_bald hx hb hK hP _ t0 he ht hxi (hd (by simp [eLen])) (K _ List.mem_cons_self _ _ _ _ _ _ _ ⟨hK, hP, hD, hS, hpre, hh, hl, hlv, ⟨_, rfl, hv⟩, hsk2⟩)
      · rename_i v hg0 hg
        cases hst
        obtain ⟨w, stk, rfl, ⟨x, rfl, hxq⟩, hsk1⟩ := eAll_cons hsk
        obtain ⟨w, stk, rfl, ⟨y, hya, rfl⟩, hsk2⟩ := eAll_cons hsk1
        obtain ⟨q, cA, t0, n, f, he, ht, hxi, hv⟩ := eALd_ok hs (Or.inr (Or.inr rfl)) hg hh hxq
        have e1 := eAd_at he hya
        subst e1
        exact va_zald hx hb hK hP _ t0 he ht hxi (hd (by simp [eLen])) (K _ List.mem_cons_self _ _ _ _ _ _ _ ⟨hK, hP, hD, hS, hpre, hh, hl, hlv, ⟨_, rfl, hv⟩, hsk2⟩)
      · cases hst
    · cases hst
  · split at hst
    · obtain ⟨hn, hg⟩ := eCond hst
      cases hg
      obtain ⟨w, stk, rfl, ⟨x, rfl, hxq⟩, hsk1⟩ := eAll_cons hsk
      obtain ⟨w, stk, rfl, ⟨y, hya, rfl⟩, hsk2⟩ := eAll_cons hsk1
      obtain ⟨q, cA, t0, n, f, he, ht, hxi⟩ := eLng_ok hs hn hh hxq
      have e1 := eAd_at he hya
      subst e1
      exact va_lald hx hb hK hP _ t0 he ht hxi (hd (by simp [eLen])) (K _ List.mem_cons_self _ _ _ _ _ _ _ ⟨hK, hP, hD, hS, hpre, hh, hl, hlv, ⟨_, rfl, fun y hy => by cases hy⟩, hsk2⟩)
    · cases hst
  · split at hst
    · split at hst
      · rename_i v hg
        cases hst
        obtain ⟨w, stk, rfl, ⟨x, rfl, hxq⟩, hsk1⟩ := eAll_cons hsk
        obtain ⟨w, stk, rfl, ⟨y, hya, rfl⟩, hsk2⟩ := eAll_cons hsk1
        obtain ⟨q, cA, t0, n, f, he, ht, hxi, hv⟩ := eRow_ok hs hg hh hxq
        have e1 := eAd_at he hya
        subst e1
        exact va_aldA hx hb hK hP _ t0 he ht hxi (hd (by simp [eLen])) (K _ List.mem_cons_self _ _ _ _ _ _ _ ⟨hK, hP, hD, hS, hpre, hh, hl, hlv, hv, hsk2⟩)
      · cases hst
    · cases hst
  · split at hst
    · split at hst
      · rename_i h2 hg
        cases hst
        obtain ⟨w, stk, rfl, ⟨z, rfl, hzq⟩, hsk1⟩ := eAll_cons hsk
        obtain ⟨w, stk, rfl, ⟨x, rfl, hxq⟩, hsk2⟩ := eAll_cons hsk1
        obtain ⟨w, stk, rfl, ⟨y, hya, rfl⟩, hsk3⟩ := eAll_cons hsk2
        obtain ⟨q, cA, t0, n, f, he, ht, hxi, hh2⟩ := eASt_ok hs (Or.inl rfl) hg hh hxq hzq
        have e1 := eAd_at he hya
        subst e1
        exact va_iast hx hb hK hP hD hS _ t0 he ht hxi (hd (by simp [eLen])) (fun H1 locs1 hP hD hS => K _ List.mem_cons_self _ _ _ _ _ _ _ (eCn_set hK he hP hD hS hpre hh2 hl hlv hsk3))
      · cases hst
    · cases hst
  · split at hst
    · rename_i v q k r
      cases hc : eBSt sr h k q with
      | true =>
        rw [hc] at hst
        cases hst
        obtain ⟨w, stk, rfl, ⟨z, rfl, hzq⟩, hsk1⟩ := eAll_cons hsk
        obtain ⟨w, stk, rfl, ⟨x, rfl, hxq⟩, hsk2⟩ := eAll_cons hsk1
        obtain ⟨w, stk, rfl, ⟨y, hya, rfl⟩, hsk3⟩ := eAll_cons hsk2
        obtain ⟨q, cA, t0, n, f, he, ht, hxi, hh2⟩ := eBSt_ok hs hc hh hxq z
        have e1 := eAd_at he hya
        subst e1
        exact va_bast hx hb hK hP hD hS _ t0 he ht hxi (hd (by simp [eLen])) (fun H1 locs1 hP hD hS => K _ List.mem_cons_self _ _ _ _ _ _ _ (eCn_set hK he hP hD hS hpre hh2 hl hlv hsk3))
      | false =>
        rw [hc] at hst
        obtain ⟨hn, hg⟩ := eCond (show cond _ _ none = some outs from hst)
        clear hst
        split at hg
        · rename_i h2 hg2
          cases hg
          obtain ⟨w, stk, rfl, ⟨z, rfl, hzq⟩, hsk1⟩ := eAll_cons hsk
          obtain ⟨w, stk, rfl, ⟨x, rfl, hxq⟩, hsk2⟩ := eAll_cons hsk1
          obtain ⟨w, stk, rfl, ⟨y, hya, rfl⟩, hsk3⟩ := eAll_cons hsk2
          have hzz : vp_nar .boolean z = z := by rcases e_bool h0 hzq hn with rfl | rfl <;> decide
          obtain ⟨q, cA, t0, n, f, he, ht, hxi, hh2⟩ := eASt_ok hs (Or.inr (Or.inr rfl)) hg2 hh hxq hzq
          have e1 := eAd_at he hya
          subst e1
          exact va_zast hx hb hK hP hD hS _ t0 he ht hxi (hd (by simp [eLen])) (fun H1 locs1 hP hD hS => K _ List.mem_cons_self _ _ _ _ _ _ _ (eCn_set hK he hP hD hS hpre (by rw [hzz]; exact hh2) hl hlv hsk3))
        · cases hg
    · cases hst
  · split at hst
    · split at hst
      · rename_i h2 hg
        cases hst
        obtain ⟨w, stk, rfl, ⟨z, rfl, hzy⟩, hsk1⟩ := eAll_cons hsk
        obtain ⟨w, stk, rfl, ⟨x, rfl, hxq⟩, hsk2⟩ := eAll_cons hsk1
        obtain ⟨w, stk, rfl, ⟨y, hya, rfl⟩, hsk3⟩ := eAll_cons hsk2
        obtain ⟨q, cA, t0, n, f, he, ht, hxi, hh2⟩ := eLSt_ok hs hg hh hxq hzy
        have e1 := eAd_at he hya
        subst e1
        exact va_last hx hb hK hP hD hS _ t0 he ht hxi (hd (by simp [eLen])) (fun H1 locs1 hP hD hS => K _ List.mem_cons_self _ _ _ _ _ _ _ (eCn_set hK he hP hD hS hpre hh2 hl hlv hsk3))
      · cases hst
    · cases hst
  · split at hst
    · split at hst
      · rename_i n9 c9 ho
        cases hst
        obtain ⟨w, stk, rfl, ⟨y, hya, rfl⟩, hsk1⟩ := eAll_cons hsk
        obtain ⟨⟨q, e9⟩, he, cA, t0, ht, hN, har⟩ := eAll_get hh ho
        have e1 := eAd_at he hya
        subst e1
        obtain ⟨z, hz1, hz2⟩ := eAr_len har
        have hz1 : e9 = .inl (cA, z) := hz1
        subst hz1
        exact va_alen hx hb hK hP _ t0 he ht (by rw [hz2]) (hd (by simp [eLen])) (K _ List.mem_cons_self _ _ _ _ _ _ _ ⟨hK, hP, hD, hS, hpre, hh, hl, hlv, ⟨_, rfl, ePt_ok h0 _⟩, hsk1⟩)
      · cases hst
    · cases hst
  · split at hst
    · split at hst
      · rename_i y hy
        obtain ⟨hn, hg⟩ := eCond hst
        clear hst
        split at hg
        · rename_i c9 hc9
          cases hg
          obtain ⟨w, stk, rfl, ⟨x, rfl, hxq⟩, hsk1⟩ := eAll_cons hsk
          have e1 := eOne_ok h0 hxq hy
          subst e1
          simp only [Bool.and_eq_true] at hn
          obtain ⟨⟨⟨n1, n2⟩, n3⟩, n4⟩ := hn
          have n1 := eLe_ok n1
          have n2 := Nat.le_of_ble_eq_true n2
          have n3 := Nat.le_of_ble_eq_true n3
          have n4 := Nat.le_of_ble_eq_true n4
          obtain ⟨a0, z1, z2, z3⟩ := eNew_ok hc9 n2
          exact va_newa hx hb (hts _ hlk.1) hlk.2 hK hP hD hS hA z1 (by rw [Int32.lt_iff_toInt_lt]; show ¬ x.toInt < 0; omega) rfl z2 (by rw [hRc]; exact n3) (by rw [hRs]; exact n4) (hd (by simp [eLen])) (fun q cA H1 hK2 hP hD hS => K _ List.mem_cons_self _ _ _ _ _ _ _ (eCn_app hK2 ⟨_, rfl⟩ hP hD hS hpre hh (z3 _ _ _ cA tys.length q h0 (by simp)) hl hlv hsk1))
        · cases hg
      · cases hst
    · cases hst
  · split at hst
    · rename_i fs hfs
      obtain ⟨hn, hg⟩ := eCond hst
      cases hg
      rw [Bool.and_eq_true] at hn
      have n1 := Nat.le_of_ble_eq_true hn.1
      have n2 := Nat.le_of_ble_eq_true hn.2
      obtain ⟨C, T, N, hc, w1, w2, w3⟩ := hlk
      obtain ⟨hin1, ty, hty, hnm, hdf⟩ := hcl _ C T N hc
      obtain ⟨hlen, vs, hvs, hdv⟩ := hdf fs hfs
      subst hlen
      exact va_new hx hb hts hin1 ty hty hown (hts _ w1) (hts _ w2) (hts _ w3) hK hP hD hS hA hc hdv (by rw [hRc]; exact n1) (by rw [hRs]; exact n2) (hd (by simp [eLen])) (fun q H1 hP hD hS => K _ List.mem_cons_self _ _ _ _ _ _ _ (eCn_app hK ⟨[], by simp⟩ hP hD hS hpre hh ⟨vs, rfl, hvs _ _ h0⟩ hl hlv hsk))
    · cases hst
  · cases hst
    exact lv_goto hx hb (hd (by simp [eLen])) hlk (K _ List.mem_cons_self _ _ _ _ _ _ _ ⟨hK, hP, hD, hS, hpre, hh, hl, hlv, hsk⟩)
  · rename_i kc off
    split at hst
    · obtain ⟨w, stk, rfl, ⟨x, rfl, hxq⟩, hsk1⟩ := eAll_cons hsk
      have hz : eIn σ (0, 0, 0) 0 := eIn_mk (by rw [h0]; decide) (by rw [h0]; decide)
      cases kc
      · exact lv_if_eq hx hb (hd (by simp [eLen])) hlk (fun hq => K _ (eBr_yes hs hxq hz hst hq) _ _ _ _ _ _ _ ⟨hK, hP, hD, hS, hpre, hh, hl, hlv, hsk1⟩) (fun hq => K _ (eBr_no hs hxq hz hst hq) _ _ _ _ _ _ _ ⟨hK, hP, hD, hS, hpre, hh, hl, hlv, hsk1⟩)
      · exact lv_if_ne hx hb (hd (by simp [eLen])) hlk (fun hq => K _ (eBr_yes hs hxq hz hst hq) _ _ _ _ _ _ _ ⟨hK, hP, hD, hS, hpre, hh, hl, hlv, hsk1⟩) (fun hq => K _ (eBr_no hs hxq hz hst (fun z => z hq)) _ _ _ _ _ _ _ ⟨hK, hP, hD, hS, hpre, hh, hl, hlv, hsk1⟩)
      · exact lv_if_lt hx hb (hd (by simp [eLen])) hlk (fun hq => K _ (eBr_yes hs hxq hz hst hq) _ _ _ _ _ _ _ ⟨hK, hP, hD, hS, hpre, hh, hl, hlv, hsk1⟩) (fun hq => K _ (eBr_no hs hxq hz hst hq) _ _ _ _ _ _ _ ⟨hK, hP, hD, hS, hpre, hh, hl, hlv, hsk1⟩)
      · exact lv_if_ge hx hb (hd (by simp [eLen])) hlk (fun hq => K _ (eBr_yes hs hxq hz hst hq) _ _ _ _ _ _ _ ⟨hK, hP, hD, hS, hpre, hh, hl, hlv, hsk1⟩) (fun hq => K _ (eBr_no hs hxq hz hst hq) _ _ _ _ _ _ _ ⟨hK, hP, hD, hS, hpre, hh, hl, hlv, hsk1⟩)
      · exact lv_if_gt hx hb (hd (by simp [eLen])) hlk (fun hq => K _ (eBr_yes hs hxq hz hst hq) _ _ _ _ _ _ _ ⟨hK, hP, hD, hS, hpre, hh, hl, hlv, hsk1⟩) (fun hq => K _ (eBr_no hs hxq hz hst hq) _ _ _ _ _ _ _ ⟨hK, hP, hD, hS, hpre, hh, hl, hlv, hsk1⟩)
      · exact lv_if_le hx hb (hd (by simp [eLen])) hlk (fun hq => K _ (eBr_yes hs hxq hz hst hq) _ _ _ _ _ _ _ ⟨hK, hP, hD, hS, hpre, hh, hl, hlv, hsk1⟩) (fun hq => K _ (eBr_no hs hxq hz hst hq) _ _ _ _ _ _ _ ⟨hK, hP, hD, hS, hpre, hh, hl, hlv, hsk1⟩)
    · cases hst
  · rename_i kc off
    split at hst
    · rename_i x y r hg
      obtain ⟨u, v, r, rfl, hu, hv, hr⟩ := eTwo_ok hg hsk
      cases kc
      · exact lv_icmp_eq hx hb (hd (by simp [eLen])) hlk (fun hq => K _ (eBr_yes hs hu hv hst hq) _ _ _ _ _ _ _ ⟨hK, hP, hD, hS, hpre, hh, hl, hlv, hr⟩) (fun hq => K _ (eBr_no hs hu hv hst hq) _ _ _ _ _ _ _ ⟨hK, hP, hD, hS, hpre, hh, hl, hlv, hr⟩)
      · exact lv_icmp_ne hx hb (hd (by simp [eLen])) hlk (fun hq => K _ (eBr_yes hs hu hv hst hq) _ _ _ _ _ _ _ ⟨hK, hP, hD, hS, hpre, hh, hl, hlv, hr⟩) (fun hq => K _ (eBr_no hs hu hv hst (fun z => z hq)) _ _ _ _ _ _ _ ⟨hK, hP, hD, hS, hpre, hh, hl, hlv, hr⟩)
      · exact lv_icmp_lt hx hb (hd (by simp [eLen])) hlk (fun hq => K _ (eBr_yes hs hu hv hst hq) _ _ _ _ _ _ _ ⟨hK, hP, hD, hS, hpre, hh, hl, hlv, hr⟩) (fun hq => K _ (eBr_no hs hu hv hst hq) _ _ _ _ _ _ _ ⟨hK, hP, hD, hS, hpre, hh, hl, hlv, hr⟩)
      · exact lv_icmp_ge hx hb (hd (by simp [eLen])) hlk (fun hq => K _ (eBr_yes hs hu hv hst hq) _ _ _ _ _ _ _ ⟨hK, hP, hD, hS, hpre, hh, hl, hlv, hr⟩) (fun hq => K _ (eBr_no hs hu hv hst hq) _ _ _ _ _ _ _ ⟨hK, hP, hD, hS, hpre, hh, hl, hlv, hr⟩)
      · exact lv_icmp_gt hx hb (hd (by simp [eLen])) hlk (fun hq => K _ (eBr_yes hs hu hv hst hq) _ _ _ _ _ _ _ ⟨hK, hP, hD, hS, hpre, hh, hl, hlv, hr⟩) (fun hq => K _ (eBr_no hs hu hv hst hq) _ _ _ _ _ _ _ ⟨hK, hP, hD, hS, hpre, hh, hl, hlv, hr⟩)
      · exact lv_icmp_le hx hb (hd (by simp [eLen])) hlk (fun hq => K _ (eBr_yes hs hu hv hst hq) _ _ _ _ _ _ _ ⟨hK, hP, hD, hS, hpre, hh, hl, hlv, hr⟩) (fun hq => K _ (eBr_no hs hu hv hst hq) _ _ _ _ _ _ _ ⟨hK, hP, hD, hS, hpre, hh, hl, hlv, hr⟩)
    · cases hst
  · split at hst
    · cases hst
      obtain ⟨w, stk, rfl, ⟨y, hya, rfl⟩, hsk1⟩ := eAll_cons hsk
      exact lv_ifnull hx hb (hd (by simp [eLen])) (K _ List.mem_cons_self _ _ _ _ _ _ _ ⟨hK, hP, hD, hS, hpre, hh, hl, hlv, hsk1⟩)
    · cases hst
      obtain ⟨w, stk, rfl, hw, hsk1⟩ := eAll_cons hsk
      have hw : w = .null := hw
      subst hw
      exact lv_ifnullN hx hb (hd (by simp [eLen])) hlk (K _ List.mem_cons_self _ _ _ _ _ _ _ ⟨hK, hP, hD, hS, hpre, hh, hl, hlv, hsk1⟩)
    · cases hst
  · split at hst
    · cases hst
      obtain ⟨w, stk, rfl, ⟨y, hya, rfl⟩, hsk1⟩ := eAll_cons hsk
      exact lv_ifnonnull hx hb (hd (by simp [eLen])) hlk (K _ List.mem_cons_self _ _ _ _ _ _ _ ⟨hK, hP, hD, hS, hpre, hh, hl, hlv, hsk1⟩)
    · cases hst
      obtain ⟨w, stk, rfl, hw, hsk1⟩ := eAll_cons hsk
      have hw : w = .null := hw
      subst hw
      exact lv_ifnonnullN hx hb (hd (by simp [eLen])) (K _ List.mem_cons_self _ _ _ _ _ _ _ ⟨hK, hP, hD, hS, hpre, hh, hl, hlv, hsk1⟩)
    · cases hst
  · rename_i dflt lo hi offs
    obtain ⟨len, hd0⟩ := hd0
    split at hst
    · rename_i q r
      obtain ⟨w, stk, rfl, ⟨x, rfl, hxq⟩, hsk1⟩ := eAll_cons hsk
      split at hst
      · rename_i y hy
        have e1 := eOne_ok h0 hxq hy
        subst e1
        cases hc : (eLe lo x.toInt && eLe x.toInt hi) with
        | true =>
          rw [hc] at hst
          rw [Bool.and_eq_true] at hc
          have c1 := eLe_ok hc.1
          have c2 := eLe_ok hc.2
          simp only [cond_true] at hst
          split at hst
          · rename_i off hoff
            obtain ⟨hn, hg⟩ := eCond hst
            cases hg
            have hn := eLe_ok hn
            exact lv_tableIn hx hb hd0 (by omega) (by omega) hoff (by omega) (K _ List.mem_cons_self _ _ _ _ _ _ _ ⟨hK, hP, hD, hS, hpre, hh, hl, hlv, hsk1⟩)
          · cases hst
        | false =>
          rw [hc] at hst
          obtain ⟨hn, hg⟩ := eCond (show cond _ _ none = some outs from hst)
          cases hg
          have hn := eLe_ok hn
          rw [Bool.and_eq_false_iff] at hc
          exact lv_tableOut hx hb hd0 (by rcases hc with z | z; exact Or.inl (eLe_no z); exact Or.inr (eLe_no z)) (by omega) (K _ List.mem_cons_self _ _ _ _ _ _ _ ⟨hK, hP, hD, hS, hpre, hh, hl, hlv, hsk1⟩)
      · obtain ⟨hn, hg⟩ := eCond hst
        cases hg
        rw [Bool.and_eq_true, Bool.or_eq_true] at hn
        have hr := eRg_ok hs hxq
        have hn2 := eLe_ok hn.2
        exact lv_tableOut hx hb hd0 (by rcases hn.1 with z | z; exact Or.inl (by have := eLe_ok z; omega); exact Or.inr (by have := eLe_ok z; omega)) (by omega) (K _ List.mem_cons_self _ _ _ _ _ _ _ ⟨hK, hP, hD, hS, hpre, hh, hl, hlv, hsk1⟩)
    · cases hst
  · cases hst
end ESO
end
section
/-! ===== BEGIN new T[n][m]: the outer array a place, the inner ones among the pooled ===== -/
/-- f, but v at every address of l -/
def vr_up {α : Type} (f : Nat → α) (l : List Nat) (v : α) : Nat → α := fun a => if a ∈ l then v else f a
theorem vr_up_in {α : Type} {f : Nat → α} {l : List Nat} {v : α} {a : Nat} (h : a ∈ l) : vr_up f l v a = v := if_pos h
theorem vr_up_ne {α : Type} {f : Nat → α} {l : List Nat} {v : α} {a : Nat} (h : a ∉ l) : vr_up f l v a = f a := if_neg h
theorem vr_rows {L l : List Nat} {f : Nat → va_E} {e : va_E} (h : ∀ a, a ∈ l → a ∉ L) : va_pl L f ++ l.map (fun a => (a, e)) = va_pl (L ++ l) (vr_up f l e) := by
  unfold va_pl
  rw [List.map_append]
  congr 1
  · apply List.map_congr_left
    intro a ha
    rw [vr_up_ne (fun q => h a q ha)]
  · apply List.map_congr_left
    intro a ha
    rw [vr_up_in ha]
theorem vr_lay {X rows : va_W} {x : Nat × va_E} {pl : va_W} {D : va_G} {cl : List vw_C} {H : Heap} (hP : va_P D cl (((X ++ pl) ++ [x]) ++ rows) H) : va_P D cl ((X ++ [x]) ++ (pl ++ rows)) H := by
  rw [List.append_assoc (X ++ pl)] at hP
  have h := va_P.swap hP
  rw [← List.append_assoc X] at h
  have h2 := va_P.swap h
  rw [List.append_assoc (X ++ [x])] at h2
  exact h2
theorem vr_layD {X rows : va_W} {x : Nat × va_E} {pl : va_W} {A : Nat → Prop} (hD : va_D A (((X ++ pl) ++ [x]) ++ rows)) : va_D A ((X ++ [x]) ++ (pl ++ rows)) := by
  rw [List.append_assoc (X ++ pl)] at hD
  have h := va_D.swap hD
  rw [← List.append_assoc X] at h
  have h2 := va_D.swap h
  rw [List.append_assoc (X ++ [x])] at h2
  exact h2
theorem vr_outer (c : ClassId) (N h0 : Nat) : ∀ i : Nat, Jvm.Free.Multi.outerC c N h0 i = arrV c N (fun j => va_rf (if j < i then some (h0 + 1 + j) else none))
  | 0 => by
    show ({ cls := c, slots := Array.replicate N .null, vm := .none } : Cell) = _
    rw [arrV_new]
    refine congrArg (arrV c N) (funext fun j => ?_)
    simp [va_rf]
  | i + 1 => by
    show (Jvm.Free.Multi.outerC c N h0 i).setSlot i (.ref (h0 + 1 + i)) = _
    rw [vr_outer c N h0 i, arrV_store]
    refine congrArg (arrV c N) (funext fun j => ?_)
    by_cases e : j = i
    · subst e
      simp [updV, va_rf]
    · by_cases h : j < i
      · simp [updV, e, h, Nat.lt_succ_of_lt h]
      · simp [updV, e, h, show ¬ j < i + 1 by omega]
section VGM
variable {p : Program} {l : Launch} {e : Env} {R : Room} {s : State} {m : MethodId} {args : Array Value} {below : List Frame} {meth : Method} {c : Code} {H : Heap} {locs : List Loc} {cells slots : Nat} {Q : State → Prop}
variable {cc : ByteArray} {pc : Nat} {ls : Array Slot} {rest : List Value} {D : va_G} {cl : List vw_C} {A : Nat → Prop} {a : Nat} {tys : List (ClassId × FieldType)} {ws : va_W} {H0 : Heap}
theorem va_mna {X : va_W} {L : List Nat} {f : Nat → va_E} {cc : ByteArray} (hexec : p.tables.exec = Jvm.exec) (hb : c.code = cc) {own : String} {index : Nat} {ty : FieldType} {cy : ClassId} (hown : s.vm.findClass own = some m.cls) (hclink : (Cond.classLink own index ("[" ++ (FieldType.array ty).toString)).before args s = true) (hover : (Cond.arrayOver (.array ty)).before args s = true) (harr : (Cond.arrayClass ty).before args s = true) (hcy : s.vm.findClass (FieldType.array ty).toString = some cy)
    (hK : va_K D cl tys s) (hP : va_P D cl (X ++ va_pl L f) H) (hD : va_D A (X ++ va_pl L f)) (hS : va_S A H0 H locs) (hA : ∀ q, H0.size ≤ q → A q) {n k : Int32} {N' K' : Nat} {z : vp_A} (hn : ¬ n < 0) (hk : ¬ k < 0) (hN : n.toNatClampNeg = N') (hM : k.toNatClampNeg = K')
    (hb1 : N' * 4 ≤ 536870912) (hb2 : K' * componentBytes ty ≤ 536870912) (hb3 : K' ≤ 536870912) (hdf : fits ty (defaultValue ty) = true) (hdd : (defaultValue ty).isDefault = true) (hcells : cells + (1 + N') ≤ R.cells) (hslots : slots + (N' + N' * K') ≤ R.slots) (hz : ∀ c : ClassId, Jvm.Free.Multi.innerC c K' (defaultValue ty) = vp_cell c z) (hdg : decode cc pc = .ok (.multianewarray index 2, 4))
    (kk : ∀ (q : Nat) (r : Nat → Nat) (cA : ClassId) (H1 : Heap), (∀ i j : Nat, i < N' → j < N' → r i = r j → i = j) → (∀ i : Nat, i < N' → r i ∉ L) → va_K D cl (tys ++ [(cA, .array ty)]) s →
      va_P D cl ((X ++ [(q, .inl (cA, N', .inr (.inr (.inr (.inr (fun i => if i < N' then some (r i) else none))))))]) ++ va_pl (L ++ (List.range N').map r) (vr_up f ((List.range N').map r) (.inl (cy, z)))) H1 → va_D A ((X ++ [(q, .inl (cA, N', .inr (.inr (.inr (.inr (fun i => if i < N' then some (r i) else none))))))]) ++ va_pl (L ++ (List.range N').map r) (vr_up f ((List.range N').map r) (.inl (cy, z)))) → va_S A H0 H1 locs →
      W p l e R s m args below meth c H1 locs (cells + 1 + N') (slots + N' + N' * K') Q (F0 m (pc + 4) ls (.ref q :: rest))) : W p l e R s m args below meth c H locs cells slots Q (F0 m pc ls (.int k :: .int n :: rest)) := by
  subst hN
  subst hM
  intro T hT Xs
  obtain ⟨vm₁, cA, comp, -, fA, fC, hO, -, X', step⟩ := Xs.multianewarray2F hexec hown hclink hover harr (g := F0 m pc ls (.int k :: .int n :: rest)) rfl (by rw [hb]; exact hdg) rfl hn hk hb1 hb2 hb3 hdf hdd hcells hslots
  have ec : some cy = some comp := hcy.symm.trans fC
  cases ec
  generalize hF : Jvm.Free.Multi.fill (T.setVm vm₁) cA cy n.toNatClampNeg k.toNatClampNeg (defaultValue ty) n.toNatClampNeg = F at X' step
  have hTh : (T.setVm vm₁).heap = H := hT
  obtain ⟨f1, f2, -, -⟩ := Jvm.Free.Multi.fill_facts (T.setVm vm₁) cA cy n.toNatClampNeg k.toNatClampNeg (defaultValue ty) n.toNatClampNeg
  rw [hF, hTh] at f1 f2
  have hold : ∀ x : Nat, x < H.size → F.heap[x]? = H[x]? := fun x hx => by
    have := Jvm.Free.Multi.fill_old (T.setVm vm₁) cA cy n.toNatClampNeg k.toNatClampNeg (defaultValue ty) (a := x) (by rw [hTh]; exact hx) n.toNatClampNeg
    rw [hF, hTh] at this
    exact this
  have hrow : ∀ j : Nat, j < n.toNatClampNeg → F.heap[H.size + 1 + j]? = some (vp_cell cy z) := fun j hj => by
    have := Jvm.Free.Multi.fill_inner (T.setVm vm₁) cA cy n.toNatClampNeg k.toNatClampNeg (defaultValue ty) n.toNatClampNeg j hj
    rw [hF, hTh, hz] at this
    exact this
  have hout : Jvm.Free.Multi.outerC cA n.toNatClampNeg H.size n.toNatClampNeg = vp_cell cA (n.toNatClampNeg, .inr (.inr (.inr (.inr (fun i => if i < n.toNatClampNeg then some (H.size + 1 + i) else none))))) := by
    rw [vp_cell_q]
    exact vr_outer cA n.toNatClampNeg H.size n.toNatClampNeg
  rw [hout] at f2
  have hlt : ∀ a, a ∈ L → a < H.size := fun a ha => by
    obtain ⟨k9, hk9⟩ := va_pl_get (X := X) (f := f) ha
    exact (hP k9 _ hk9).lt
  have hnl : ∀ i : Nat, i < n.toNatClampNeg → H.size + 1 + i ∉ L := fun i _ h => by
    have := hlt _ h
    omega
  have hnm : ∀ a, a ∈ (List.range n.toNatClampNeg).map (fun i => H.size + 1 + i) → a ∉ L := fun a ha h => by
    obtain ⟨i, -, rfl⟩ := List.mem_map.mp ha
    have := hlt _ h
    omega
  have hP0 : va_P D cl (X ++ va_pl L f) F.heap := hP.kept (fun k9 x hx => hold x.1 ((hP k9 x hx).lt))
  have hP1 : va_P D cl ((X ++ va_pl L f) ++ [(H.size, .inl (cA, n.toNatClampNeg, .inr (.inr (.inr (.inr (fun i => if i < n.toNatClampNeg then some (H.size + 1 + i) else none))))))]) F.heap := hP0.app (fun k9 x hx => by
    have h0 : k9 < 1 := (List.getElem?_eq_some_iff.mp hx).1
    rw [show k9 = 0 by omega] at hx
    cases hx
    exact f2)
  have hP2 : va_P D cl (((X ++ va_pl L f) ++ [(H.size, .inl (cA, n.toNatClampNeg, .inr (.inr (.inr (.inr (fun i => if i < n.toNatClampNeg then some (H.size + 1 + i) else none))))))]) ++ ((List.range n.toNatClampNeg).map (fun i => H.size + 1 + i)).map (fun a => (a, .inl (cy, z)))) F.heap := hP1.app (fun k9 x hx => by
    obtain ⟨a, ha, rfl⟩ := List.mem_map.mp (List.mem_of_getElem? hx)
    obtain ⟨i, hi, rfl⟩ := List.mem_map.mp ha
    exact hrow i (List.mem_range.mp hi))
  have hD2 : va_D A (((X ++ va_pl L f) ++ [(H.size, .inl (cA, n.toNatClampNeg, .inr (.inr (.inr (.inr (fun i => if i < n.toNatClampNeg then some (H.size + 1 + i) else none))))))]) ++ ((List.range n.toNatClampNeg).map (fun i => H.size + 1 + i)).map (fun a => (a, .inl (cy, z)))) := by
    have hD1 := hD.push (e := .inl (cA, n.toNatClampNeg, .inr (.inr (.inr (.inr (fun i => if i < n.toNatClampNeg then some (H.size + 1 + i) else none)))))) hP rfl (hA _ hS.1)
    generalize hW1 : (X ++ va_pl L f) ++ [(H.size, .inl (cA, n.toNatClampNeg, .inr (.inr (.inr (.inr (fun i => if i < n.toNatClampNeg then some (H.size + 1 + i) else none))))))] = W1 at hD1 hP1 ⊢
    have hle : ∀ (k9 : Nat) (x : Nat × va_E), W1[k9]? = some x → x.1 ≤ H.size := fun k9 x hx => by
      rw [← hW1] at hx
      by_cases hl : k9 < (X ++ va_pl L f).length
      · rw [List.getElem?_append_left hl] at hx
        exact Nat.le_of_lt ((hP k9 x hx).lt)
      · rw [List.getElem?_append_right (by omega)] at hx
        have h0 : k9 - (X ++ va_pl L f).length < 1 := (List.getElem?_eq_some_iff.mp hx).1
        rw [show k9 - (X ++ va_pl L f).length = 0 by omega] at hx
        cases hx
        exact Nat.le_refl _
    have hr : ∀ (k9 : Nat) (x : Nat × va_E), (((List.range n.toNatClampNeg).map (fun i => H.size + 1 + i)).map (fun a => ((a, .inl (cy, z)) : Nat × va_E)))[k9]? = some x → x.1 = H.size + 1 + k9 := fun k9 x hx => by
      rw [List.getElem?_map, List.getElem?_map] at hx
      by_cases h9 : k9 < n.toNatClampNeg
      · rw [List.getElem?_range h9] at hx
        cases hx
        rfl
      · have hn0 : (List.range n.toNatClampNeg)[k9]? = none := List.getElem?_eq_none (by rw [List.length_range]; omega)
        rw [hn0] at hx
        cases hx
    refine ⟨fun i j x y hi hj hxy => ?_, fun k9 x hx => ?_⟩
    · by_cases h1 : i < W1.length <;> by_cases h2 : j < W1.length
      · rw [List.getElem?_append_left h1] at hi
        rw [List.getElem?_append_left h2] at hj
        exact hD1.1 i j x y hi hj hxy
      · rw [List.getElem?_append_left h1] at hi
        rw [List.getElem?_append_right (by omega)] at hj
        have := hle _ _ hi
        have := hr _ _ hj
        omega
      · rw [List.getElem?_append_right (by omega)] at hi
        rw [List.getElem?_append_left h2] at hj
        have := hle _ _ hj
        have := hr _ _ hi
        omega
      · rw [List.getElem?_append_right (by omega)] at hi hj
        have := hr _ _ hi
        have := hr _ _ hj
        omega
    · by_cases h1 : k9 < W1.length
      · rw [List.getElem?_append_left h1] at hx
        exact hD1.2 k9 x hx
      · rw [List.getElem?_append_right (by omega)] at hx
        have := hr _ _ hx
        exact hA _ (by have := hS.1; omega)
  have hAr : ArrOfT s cA (.array ty) := fun N9 z9 => by
    obtain ⟨-, k9, hk9, cm9, hkk9⟩ := (hO 0 0 0).1
    exact ⟨(fun q hq => by cases hq), k9, hk9, cm9, hkk9⟩
  have hK2 : va_K D cl (tys ++ [(cA, .array ty)]) s := ⟨hK.1, fun k9 x hx => by
    by_cases hl : k9 < tys.length
    · rw [List.getElem?_append_left hl] at hx
      exact hK.2 k9 x hx
    · rw [List.getElem?_append_right (by omega)] at hx
      have h0 : k9 - tys.length < 1 := (List.getElem?_eq_some_iff.mp hx).1
      rw [show k9 - tys.length = 0 by omega] at hx
      cases hx
      exact ⟨hAr, fA⟩⟩
  obtain ⟨t, a1, b1⟩ := kk H.size (fun i => H.size + 1 + i) cA F.heap (fun i j _ _ h => by have h9 : H.size + 1 + i = H.size + 1 + j := h; omega) hnl hK2 (by rw [← vr_rows hnm]; exact vr_lay hP2) (by rw [← vr_rows hnm]; exact vr_layD hD2) ⟨by rw [f1]; have := hS.1; omega, fun x h1 h2 => (hold x (Nat.lt_of_lt_of_le h1 hS.1)).trans (hS.2.1 x h1 h2), hS.2.2⟩ F rfl X'
  refine ⟨t, step t ?_, b1⟩
  have e : T.heap.size = H.size := by rw [hT]
  rw [e]
  exact a1
end VGM
/-! ===== END ===== -/
end
