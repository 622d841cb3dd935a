section
/-! THE ENGINE, 1: what is known of a value, of a cell; reckoning with it. A symbol's number stands first (0: none); then the bounds of what comes to it. -/
abbrev eI : Type := Nat × Int × Int
abbrev eV : Type := eI ⊕ (Option Nat ⊕ Unit)
abbrev eC : Type := (Nat × List eV) ⊕ (Nat × Nat × (List eV ⊕ (Int × Int)))
def eTop : eI := (0, -2147483648, 2147483647)
def eLe (a b : Int) : Bool := match b - a with
  | .ofNat _ => true
  | .negSucc _ => false
theorem eLe_ok {a b : Int} (h : eLe a b = true) : a ≤ b := by
  unfold eLe at h
  split at h
  · rename_i n hn
    have : (0 : Int) ≤ Int.ofNat n := Int.natCast_nonneg n
    omega
  · cases h
theorem eLe_no {a b : Int} (h : eLe a b = false) : b < a := by
  unfold eLe at h
  split at h
  · cases h
  · rename_i n hn; omega
def eIn (σ : Nat → Int) (q : eI) (x : Int32) : Prop := σ q.1 + q.2.1 ≤ x.toInt ∧ x.toInt ≤ σ q.1 + q.2.2
def eSg (sr : List (Int × Int)) (σ : Nat → Int) : Prop := σ 0 = 0 ∧ ∀ (j : Nat) (q : Int × Int), sr[j]? = some q → q.1 ≤ σ j ∧ σ j ≤ q.2
def eOk (ad : List Nat) (σ : Nat → Int) (v : eV) (w : Value) : Prop := match v with
  | .inl q => ∃ x : Int32, w = .int x ∧ eIn σ q x
  | .inr (.inl none) => w = .null
  | .inr (.inl (some k)) => ∃ a : Nat, ad[k]? = some a ∧ w = .ref a
  | .inr (.inr _) => ∃ x : Int64, w = .long x
def eCat (v : eV) : Nat := match v with
  | .inr (.inr _) => 2
  | _ => 1
theorem eOk_cat {ad : List Nat} {σ : Nat → Int} {v : eV} {w : Value} (h : eOk ad σ v w) : w.category = eCat v := by
  match v, h with
  | .inl q, ⟨x, hw, _⟩ => rw [hw]; rfl
  | .inr (.inl none), h => rw [show w = .null from h]; rfl
  | .inr (.inl (some k)), ⟨a, _, hw⟩ => rw [hw]; rfl
  | .inr (.inr _), ⟨x, hw⟩ => rw [hw]; rfl
theorem e_lo (x : Int32) : -2147483648 ≤ x.toInt := by have := Int32.le_toInt x; omega
theorem e_hi (x : Int32) : x.toInt ≤ 2147483647 := by have := Int32.toInt_lt x; omega
theorem eIn_mk {σ : Nat → Int} {b : Nat} {lo hi : Int} {x : Int32} (h1 : σ b + lo ≤ x.toInt) (h2 : x.toInt ≤ σ b + hi) : eIn σ (b, lo, hi) x := ⟨h1, h2⟩
theorem eTop_ok {σ : Nat → Int} (h0 : σ 0 = 0) (x : Int32) : eIn σ eTop x := ⟨by show σ 0 + -2147483648 ≤ _; have := e_lo x; omega, by show _ ≤ σ 0 + 2147483647; have := e_hi x; omega⟩
/-- plain bounds -/
def eRg (sr : List (Int × Int)) (q : eI) : Int × Int := match sr[q.1]? with
  | some r => (r.1 + q.2.1, r.2 + q.2.2)
  | none => (-2147483648, 2147483647)
theorem eRg_ok {sr : List (Int × Int)} {σ : Nat → Int} (hs : eSg sr σ) {q : eI} {x : Int32} (h : eIn σ q x) : (eRg sr q).1 ≤ x.toInt ∧ x.toInt ≤ (eRg sr q).2 := by
  unfold eRg
  split
  · rename_i r hr
    have := hs.2 _ _ hr
    obtain ⟨h1, h2⟩ := h
    exact ⟨by show r.1 + q.2.1 ≤ _; omega, by show _ ≤ r.2 + q.2.2; omega⟩
  · exact ⟨e_lo x, e_hi x⟩
theorem eAddI {x y : Int32} (h1 : -2147483648 ≤ x.toInt + y.toInt) (h2 : x.toInt + y.toInt ≤ 2147483647) : (x + y).toInt = x.toInt + y.toInt := by
  rw [Int32.toInt_add]; exact Int.bmod_eq_of_le (by omega) (by omega)
theorem eSubI {x y : Int32} (h1 : -2147483648 ≤ x.toInt - y.toInt) (h2 : x.toInt - y.toInt ≤ 2147483647) : (x - y).toInt = x.toInt - y.toInt := by
  rw [Int32.toInt_sub]; exact Int.bmod_eq_of_le (by omega) (by omega)
def eFit (lo hi : Int) : Bool := eLe (-2147483648) lo && eLe hi 2147483647
theorem eFit_ok {lo hi : Int} (h : eFit lo hi = true) : -2147483648 ≤ lo ∧ hi ≤ 2147483647 := by
  unfold eFit at h
  rw [Bool.and_eq_true] at h
  exact ⟨eLe_ok h.1, eLe_ok h.2⟩
def eAdd (sr : List (Int × Int)) (a b : eI) : eI :=
  cond (eFit ((eRg sr a).1 + (eRg sr b).1) ((eRg sr a).2 + (eRg sr b).2))
    (cond (Nat.beq b.1 0) (a.1, a.2.1 + b.2.1, a.2.2 + b.2.2) (cond (Nat.beq a.1 0) (b.1, a.2.1 + b.2.1, a.2.2 + b.2.2) (0, (eRg sr a).1 + (eRg sr b).1, (eRg sr a).2 + (eRg sr b).2)))
    eTop
theorem eAdd_ok {sr : List (Int × Int)} {σ : Nat → Int} (hs : eSg sr σ) {a b : eI} {x y : Int32} (ha : eIn σ a x) (hb : eIn σ b y) : eIn σ (eAdd sr a b) (x + y) := by
  have ra := eRg_ok hs ha
  have rb := eRg_ok hs hb
  have h0 := hs.1
  unfold eAdd
  cases hf : eFit ((eRg sr a).1 + (eRg sr b).1) ((eRg sr a).2 + (eRg sr b).2) with
  | false => exact eTop_ok h0 _
  | true =>
    have hf := eFit_ok hf
    have e := eAddI (x := x) (y := y) (by omega) (by omega)
    obtain ⟨ha1, ha2⟩ := ha
    obtain ⟨hb1, hb2⟩ := hb
    simp only [cond_true]
    cases hz : Nat.beq b.1 0 with
    | true =>
      have hz : b.1 = 0 := Nat.eq_of_beq_eq_true hz
      rw [hz, h0] at hb1 hb2
      simp only [cond_true]
      exact eIn_mk (by rw [e]; omega) (by rw [e]; omega)
    | false =>
      simp only [cond_false]
      cases hz : Nat.beq a.1 0 with
      | true =>
        have hz : a.1 = 0 := Nat.eq_of_beq_eq_true hz
        rw [hz, h0] at ha1 ha2
        simp only [cond_true]
        exact eIn_mk (by rw [e]; omega) (by rw [e]; omega)
      | false =>
        simp only [cond_false]
        exact eIn_mk (by rw [h0, e]; omega) (by rw [h0, e]; omega)
def eSub (sr : List (Int × Int)) (a b : eI) : eI :=
  cond (Nat.beq a.1 b.1 && eFit (a.2.1 - b.2.2) (a.2.2 - b.2.1)) (0, a.2.1 - b.2.2, a.2.2 - b.2.1)
    (cond (eFit ((eRg sr a).1 - (eRg sr b).2) ((eRg sr a).2 - (eRg sr b).1))
      (cond (Nat.beq b.1 0) (a.1, a.2.1 - b.2.2, a.2.2 - b.2.1) (0, (eRg sr a).1 - (eRg sr b).2, (eRg sr a).2 - (eRg sr b).1))
      eTop)
theorem eSub_ok {sr : List (Int × Int)} {σ : Nat → Int} (hs : eSg sr σ) {a b : eI} {x y : Int32} (ha : eIn σ a x) (hb : eIn σ b y) : eIn σ (eSub sr a b) (x - y) := by
  have ra := eRg_ok hs ha
  have rb := eRg_ok hs hb
  have h0 := hs.1
  unfold eSub
  obtain ⟨ha1, ha2⟩ := ha
  obtain ⟨hb1, hb2⟩ := hb
  cases hq : (Nat.beq a.1 b.1 && eFit (a.2.1 - b.2.2) (a.2.2 - b.2.1)) with
  | true =>
    rw [Bool.and_eq_true] at hq
    have hz : a.1 = b.1 := Nat.eq_of_beq_eq_true hq.1
    have hf := eFit_ok hq.2
    rw [hz] at ha1 ha2
    simp only [cond_true]
    have e := eSubI (x := x) (y := y) (by omega) (by omega)
    exact eIn_mk (by rw [h0, e]; omega) (by rw [h0, e]; omega)
  | false =>
    simp only [cond_false]
    cases hf : eFit ((eRg sr a).1 - (eRg sr b).2) ((eRg sr a).2 - (eRg sr b).1) with
    | false => exact eTop_ok h0 _
    | true =>
      have hf := eFit_ok hf
      have e := eSubI (x := x) (y := y) (by omega) (by omega)
      simp only [cond_true]
      cases hz : Nat.beq b.1 0 with
      | true =>
        have hz : b.1 = 0 := Nat.eq_of_beq_eq_true hz
        rw [hz, h0] at hb1 hb2
        simp only [cond_true]
        exact eIn_mk (by rw [e]; omega) (by rw [e]; omega)
      | false =>
        simp only [cond_false]
        exact eIn_mk (by rw [h0, e]; omega) (by rw [h0, e]; omega)
/-- one value alone -/
def eOne (q : eI) : Option Int32 := cond (Nat.beq q.1 0 && eLe q.2.2 q.2.1) (some (Int32.ofInt q.2.1)) none
theorem eOne_ok {σ : Nat → Int} (h0 : σ 0 = 0) {q : eI} {x y : Int32} (h : eIn σ q x) (hq : eOne q = some y) : x = y := by
  unfold eOne at hq
  cases hc : (Nat.beq q.1 0 && eLe q.2.2 q.2.1) with
  | false => rw [hc] at hq; cases hq
  | true =>
    rw [hc] at hq
    rw [Bool.and_eq_true] at hc
    have hz : q.1 = 0 := Nat.eq_of_beq_eq_true hc.1
    have hl := eLe_ok hc.2
    cases hq
    obtain ⟨h1, h2⟩ := h
    rw [hz, h0] at h1 h2
    rw [show q.2.1 = x.toInt by omega]
    exact (Int32.ofInt_toInt x).symm
def ePt (x : Int32) : eI := (0, x.toInt, x.toInt)
theorem ePt_ok {σ : Nat → Int} (h0 : σ 0 = 0) (x : Int32) : eIn σ (ePt x) x := eIn_mk (by omega) (by omega)
def eBin (f : Int32 → Int32 → Int32) (g a b : eI) : eI := match eOne a, eOne b with
  | some x, some y => ePt (f x y)
  | _, _ => g
theorem eBin_ok {σ : Nat → Int} (h0 : σ 0 = 0) {f : Int32 → Int32 → Int32} {g a b : eI} {x y : Int32} (ha : eIn σ a x) (hb : eIn σ b y) (hg : eIn σ g (f x y)) : eIn σ (eBin f g a b) (f x y) := by
  unfold eBin
  split
  · rename_i x' y' h1 h2
    rw [← eOne_ok h0 ha h1, ← eOne_ok h0 hb h2]
    exact ePt_ok h0 _
  · exact hg
/-- the remainder by a number above 0 -/
def eRem (sr : List (Int × Int)) (a b : eI) : eI := match eOne b with
  | some y => cond (eLe 1 y.toInt) (cond (eLe 0 (eRg sr a).1) (0, 0, y.toInt - 1) (0, 1 - y.toInt, y.toInt - 1)) eTop
  | none => eTop
theorem eRem_ok {sr : List (Int × Int)} {σ : Nat → Int} (hs : eSg sr σ) {a b : eI} {x y : Int32} (ha : eIn σ a x) (hb : eIn σ b y) : eIn σ (eRem sr a b) (x - x / y * y) := by
  have ra := eRg_ok hs ha
  have h0 := hs.1
  unfold eRem
  split
  · rename_i y' hy
    have hy := eOne_ok h0 hb hy
    subst hy
    cases hc : eLe 1 y.toInt with
    | false => exact eTop_ok h0 _
    | true =>
      have hc := eLe_ok hc
      have e := rem_toInt x y
      have hb := tmod_bounds (a := x.toInt) (M := y.toInt) (by omega)
      simp only [cond_true]
      cases hd : eLe 0 (eRg sr a).1 with
      | true =>
        have hd := eLe_ok hd
        have hn : 0 ≤ x.toInt.tmod y.toInt := Int.tmod_nonneg _ (by omega)
        exact eIn_mk (by rw [h0, e]; omega) (by rw [h0, e]; omega)
      | false => exact eIn_mk (by rw [h0, e]; omega) (by rw [h0, e]; omega)
  · exact eTop_ok h0 _
/-- the shift to the right without a sign, by 1 to 31 -/
def eUsh (b : eI) : eI := match eOne b with
  | some y => cond (eLe 1 y.toInt && eLe y.toInt 31) (0, 0, 2147483647) eTop
  | none => eTop
theorem e_ush : ∀ k : Nat, k < 32 → 0 < k → ∀ x : Int32, 0 ≤ (x.toUInt32 >>> ((Int32.ofNat k).toUInt32 &&& Int32.toUInt32 31)).toInt32.toInt := by
  intro k hk h0 x
  have e : (x.toUInt32 >>> ((Int32.ofNat k).toUInt32 &&& Int32.toUInt32 31)).toInt32.toBitVec.toNat = x.toBitVec.toNat / 2 ^ k := pk_ushr x (Int32.ofNat k) k (by revert k; decide)
  have hx : x.toBitVec.toNat < 2 ^ 32 := x.toBitVec.isLt
  have h2 : 2 ^ 1 ≤ 2 ^ k := Nat.pow_le_pow_right (by omega) h0
  have h3 : x.toBitVec.toNat / 2 ^ k ≤ x.toBitVec.toNat / 2 := Nat.div_le_div_left h2 (by omega)
  have h4 : (x.toUInt32 >>> ((Int32.ofNat k).toUInt32 &&& Int32.toUInt32 31)).toInt32.toInt = (x.toUInt32 >>> ((Int32.ofNat k).toUInt32 &&& Int32.toUInt32 31)).toInt32.toBitVec.toInt := rfl
  rw [h4, BitVec.toInt_eq_toNat_cond]
  split <;> omega
theorem eUsh_ok {σ : Nat → Int} (h0 : σ 0 = 0) {b : eI} {x y : Int32} (hb : eIn σ b y) : eIn σ (eUsh b) (x.toUInt32 >>> (y.toUInt32 &&& Int32.toUInt32 31)).toInt32 := by
  unfold eUsh
  split
  · rename_i y' hy
    have hy := eOne_ok h0 hb hy
    subst hy
    cases hc : (eLe 1 y.toInt && eLe y.toInt 31) with
    | false => exact eTop_ok h0 _
    | true =>
      rw [Bool.and_eq_true] at hc
      have h1 := eLe_ok hc.1
      have h2 := eLe_ok hc.2
      have ey : y = Int32.ofNat y.toInt.toNat := by
        apply Int32.toInt_inj.mp
        rw [Int32.toInt_ofNat_of_lt (by omega)]
        omega
      simp only [cond_true]
      have h3 := e_ush y.toInt.toNat (by omega) (by omega) x
      rw [← ey] at h3
      exact eIn_mk (by rw [h0]; omega) (by rw [h0]; have := e_hi (x.toUInt32 >>> (y.toUInt32 &&& Int32.toUInt32 31)).toInt32; omega)
  · exact eTop_ok h0 _
/-- one is below another: known, or not -/
def eLt (sr : List (Int × Int)) (a b : eI) : Option Bool :=
  cond (Nat.beq a.1 b.1)
    (cond (eLe (a.2.2 + 1) b.2.1) (some true) (cond (eLe b.2.2 a.2.1) (some false) none))
    (cond (eLe ((eRg sr a).2 + 1) (eRg sr b).1) (some true) (cond (eLe (eRg sr b).2 (eRg sr a).1) (some false) none))
theorem eLt_ok {sr : List (Int × Int)} {σ : Nat → Int} (hs : eSg sr σ) {a b : eI} {x y : Int32} (ha : eIn σ a x) (hb : eIn σ b y) {r : Bool} (h : eLt sr a b = some r) : (x < y) = (r = true) := by
  have ra := eRg_ok hs ha
  have rb := eRg_ok hs hb
  obtain ⟨ha1, ha2⟩ := ha
  obtain ⟨hb1, hb2⟩ := hb
  have tt : x.toInt < y.toInt → (x < y) = (true = true) := fun q => by simp [Int32.lt_iff_toInt_lt, q]
  have ff : y.toInt ≤ x.toInt → (x < y) = (false = true) := fun q => by simp [Int32.lt_iff_toInt_lt, Int.not_lt.mpr q]
  unfold eLt at h
  cases hz : Nat.beq a.1 b.1 with
  | true =>
    rw [hz] at h
    have hz : a.1 = b.1 := Nat.eq_of_beq_eq_true hz
    rw [hz] at ha1 ha2
    simp only [cond_true] at h
    cases h1 : eLe (a.2.2 + 1) b.2.1 with
    | true => rw [h1] at h; have h1 := eLe_ok h1; cases h; exact tt (by omega)
    | false =>
      rw [h1] at h
      cases h2 : eLe b.2.2 a.2.1 with
      | true => rw [h2] at h; have h2 := eLe_ok h2; cases h; exact ff (by omega)
      | false => rw [h2] at h; cases h
  | false =>
    rw [hz] at h
    simp only [cond_false] at h
    cases h1 : eLe ((eRg sr a).2 + 1) (eRg sr b).1 with
    | true => rw [h1] at h; have h1 := eLe_ok h1; cases h; exact tt (by omega)
    | false =>
      rw [h1] at h
      cases h2 : eLe (eRg sr b).2 (eRg sr a).1 with
      | true => rw [h2] at h; have h2 := eLe_ok h2; cases h; exact ff (by omega)
      | false => rw [h2] at h; cases h
def eEq (sr : List (Int × Int)) (a b : eI) : Option Bool := match eLt sr a b, eLt sr b a with
  | some false, some false => some true
  | some true, _ => some false
  | _, some true => some false
  | _, _ => none
theorem eEq_ok {sr : List (Int × Int)} {σ : Nat → Int} (hs : eSg sr σ) {a b : eI} {x y : Int32} (ha : eIn σ a x) (hb : eIn σ b y) {r : Bool} (h : eEq sr a b = some r) : (x = y) = (r = true) := by
  have lt := @eLt_ok sr σ hs a b x y ha hb
  have gt := @eLt_ok sr σ hs b a y x hb ha
  have eqi : (x = y) = (x.toInt = y.toInt) := propext (Int32.toInt_inj.symm)
  unfold eEq at h
  split at h
  · rename_i h1 h2
    have h1 := lt h1
    have h2 := gt h2
    simp only [Int32.lt_iff_toInt_lt, Bool.false_eq_true, eq_iff_iff, iff_false] at h1 h2
    cases h
    rw [eqi]
    simp only [eq_iff_iff, iff_true]
    omega
  · rename_i h1
    have h1 := lt h1
    simp only [Int32.lt_iff_toInt_lt, eq_iff_iff, iff_true] at h1
    cases h
    rw [eqi]
    simp only [Bool.false_eq_true, eq_iff_iff, iff_false]
    omega
  · rename_i h1 hx
    have h1 := gt h1
    simp only [Int32.lt_iff_toInt_lt, eq_iff_iff, iff_true] at h1
    cases h
    rw [eqi]
    simp only [Bool.false_eq_true, eq_iff_iff, iff_false]
    omega
  · cases h
/-- a comparison by its name -/
def eCmp (sr : List (Int × Int)) (c : Jvm.ClassFile.Cond) (a b : eI) : Option Bool := match c with
  | .eq => eEq sr a b
  | .ne => (eEq sr a b).map (!·)
  | .lt => eLt sr a b
  | .ge => (eLt sr a b).map (!·)
  | .gt => eLt sr b a
  | .le => (eLt sr b a).map (!·)
end
section
/-! THE ENGINE, 2: lists that answer to lists; cells, locals, stacks. -/
def eAll {α β : Type} (r : α → β → Prop) : List α → List β → Prop
  | [], [] => True
  | a :: as, b :: bs => r a b ∧ eAll r as bs
  | [], _ :: _ => False
  | _ :: _, [] => False
section EAL
variable {α β : Type} {r : α → β → Prop}
theorem eAll_cons {a : α} {as : List α} {bs : List β} (h : eAll r (a :: as) bs) : ∃ (b : β) (bs' : List β), bs = b :: bs' ∧ r a b ∧ eAll r as bs' := by
  match bs, h with
  | b :: bs', h => exact ⟨b, bs', rfl, h.1, h.2⟩
theorem eAll_nil {bs : List β} (h : eAll r ([] : List α) bs) : bs = [] := by
  match bs, h with
  | [], _ => rfl
theorem eAll_len : ∀ {as : List α} {bs : List β}, eAll r as bs → as.length = bs.length
  | [], [], _ => rfl
  | _ :: as, _ :: bs, h => by simp [eAll_len (as := as) (bs := bs) h.2]
theorem eAll_get : ∀ {as : List α} {bs : List β}, eAll r as bs → ∀ {k : Nat} {a : α}, as[k]? = some a → ∃ b, bs[k]? = some b ∧ r a b
  | [], [], _, k, a, hk => by simp at hk
  | a' :: as, b' :: bs, h, 0, a, hk => by simp at hk; subst hk; exact ⟨b', by simp, h.1⟩
  | a' :: as, b' :: bs, h, k + 1, a, hk => by
    simp at hk
    obtain ⟨b, h1, h2⟩ := eAll_get h.2 hk
    exact ⟨b, by simpa using h1, h2⟩
theorem eAll_getR : ∀ {as : List α} {bs : List β}, eAll r as bs → ∀ {k : Nat} {b : β}, bs[k]? = some b → ∃ a, as[k]? = some a ∧ r a b
  | [], [], _, k, b, hk => by simp at hk
  | a' :: as, b' :: bs, h, 0, b, hk => by simp at hk; subst hk; exact ⟨a', by simp, h.1⟩
  | a' :: as, b' :: bs, h, k + 1, b, hk => by
    simp at hk
    obtain ⟨a, h1, h2⟩ := eAll_getR h.2 hk
    exact ⟨a, by simpa using h1, h2⟩
theorem eAll_set : ∀ {as : List α} {bs : List β}, eAll r as bs → ∀ (k : Nat) {a : α} {b : β}, r a b → eAll r (as.set k a) (bs.set k b)
  | [], [], _, _, _, _, _ => trivial
  | _ :: _, _ :: _, h, 0, _, _, hr => ⟨hr, h.2⟩
  | _ :: _, _ :: _, h, k + 1, _, _, hr => ⟨h.1, eAll_set h.2 k hr⟩
theorem eAll_app : ∀ {as : List α} {bs : List β} {cs : List α} {ds : List β}, eAll r as bs → eAll r cs ds → eAll r (as ++ cs) (bs ++ ds)
  | [], [], _, _, _, h2 => h2
  | _ :: _, _ :: _, _, _, h, h2 => ⟨h.1, eAll_app h.2 h2⟩
theorem eAll_mono {r' : α → β → Prop} (hm : ∀ a b, r a b → r' a b) : ∀ {as : List α} {bs : List β}, eAll r as bs → eAll r' as bs
  | [], [], _ => trivial
  | _ :: _, _ :: _, h => ⟨hm _ _ h.1, eAll_mono hm h.2⟩
theorem eAll_filter {f : α → Bool} {g : β → Bool} (hm : ∀ a b, r a b → f a = g b) : ∀ {as : List α} {bs : List β}, eAll r as bs → eAll r (as.filter f) (bs.filter g)
  | [], [], _ => trivial
  | a :: as, b :: bs, h => by
    have e := hm a b h.1
    cases hg : g b with
    | true => rw [List.filter_cons_of_pos (by rw [e, hg]), List.filter_cons_of_pos hg]; exact ⟨h.1, eAll_filter hm h.2⟩
    | false => rw [List.filter_cons_of_neg (by rw [e, hg]; decide), List.filter_cons_of_neg (by rw [hg]; decide)]; exact eAll_filter hm h.2
theorem eAll_mem : ∀ {as : List α} {bs : List β}, eAll r as bs → ∀ {a : α}, a ∈ as → ∃ b, b ∈ bs ∧ r a b := by
  intro as bs h a ha
  obtain ⟨k, hk⟩ := List.getElem?_of_mem ha
  obtain ⟨b, h1, h2⟩ := eAll_get h hk
  exact ⟨b, List.mem_of_getElem? h1, h2⟩
theorem eAll_rev {as : List α} {bs : List β} (h : eAll r as bs) : eAll r as.reverse bs.reverse := by
  induction as generalizing bs with
  | nil => rw [eAll_nil h]; trivial
  | cons a as ih =>
    obtain ⟨b, bs', rfl, h1, h2⟩ := eAll_cons h
    simp only [List.reverse_cons]
    exact eAll_app (ih h2) ⟨h1, trivial⟩
end EAL
theorem eOk_ad {ad ad' : List Nat} {σ : Nat → Int} (hp : ∃ t, ad' = ad ++ t) {v : eV} {w : Value} (h : eOk ad σ v w) : eOk ad' σ v w := by
  match v, h with
  | .inl q, h => exact h
  | .inr (.inl none), h => exact h
  | .inr (.inl (some k)), ⟨a, h1, h2⟩ =>
    obtain ⟨t, rfl⟩ := hp
    refine ⟨a, ?_, h2⟩
    rw [List.getElem?_append_left (List.getElem?_eq_some_iff.mp h1).1]
    exact h1
  | .inr (.inr _), h => exact h
/-- arrays: 0 ints, 1 bytes, 2 booleans, 3 longs, 4 rows of ints -/
def eTy (k : Nat) : FieldType := match k with
  | 0 => .int
  | 1 => .byte
  | 2 => .boolean
  | 3 => .long
  | _ => .array .int
def eAr (ad : List Nat) (σ : Nat → Int) (k n : Nat) (c : List eV ⊕ (Int × Int)) (cA : ClassId) (e : va_E) : Prop := match k with
  | 3 => ∃ f : Nat → Int64, e = .inl (cA, n, .inr (.inl f))
  | 4 => ∃ f : Nat → Option Nat, e = .inl (cA, n, .inr (.inr (.inr (.inr f)))) ∧ match c with
    | .inl es => ∀ j, j < n → ∃ v, es[j]? = some v ∧ eOk ad σ v (va_rf (f j))
    | .inr _ => True
  | _ => ∃ f : Nat → Int32, e = .inl (cA, n, .inl f) ∧ match c with
    | .inl es => ∀ j, j < n → ∃ v, es[j]? = some v ∧ eOk ad σ v (.int (f j))
    | .inr q => ∀ j, j < n → q.1 ≤ (f j).toInt ∧ (f j).toInt ≤ q.2
def eCk (ad : List Nat) (σ : Nat → Int) (tys : List (ClassId × FieldType)) (c : eC) (q : Nat × va_E) : Prop := match c with
  | .inl o => ∃ vs : List Value, q.2 = .inr (o.1, vs) ∧ eAll (eOk ad σ) o.2 vs
  | .inr a => ∃ (cA : ClassId) (t0 : Nat), tys[t0]? = some (cA, eTy a.1) ∧ a.2.1 < 2 ^ 31 ∧ eAr ad σ a.1 a.2.1 a.2.2 cA q.2
theorem eAr_ad {ad ad' : List Nat} {σ : Nat → Int} (hp : ∃ t, ad' = ad ++ t) {k n : Nat} {c : List eV ⊕ (Int × Int)} {cA : ClassId} {e : va_E} (h : eAr ad σ k n c cA e) : eAr ad' σ k n c cA e := by
  unfold eAr at h ⊢
  split at h
  · exact h
  · obtain ⟨f, h1, h2⟩ := h
    refine ⟨f, h1, ?_⟩
    cases c with
    | inl es => exact fun j hj => by obtain ⟨v, g1, g2⟩ := h2 j hj; exact ⟨v, g1, eOk_ad hp g2⟩
    | inr q => trivial
  · obtain ⟨f, h1, h2⟩ := h
    refine ⟨f, h1, ?_⟩
    cases c with
    | inl es => exact fun j hj => by obtain ⟨v, g1, g2⟩ := h2 j hj; exact ⟨v, g1, eOk_ad hp g2⟩
    | inr q => exact h2
theorem eCk_ad {ad ad' : List Nat} {σ : Nat → Int} {tys tys' : List (ClassId × FieldType)} (hp : ∃ t, ad' = ad ++ t) (ht : ∃ t, tys' = tys ++ t) {c : eC} {q : Nat × va_E} (h : eCk ad σ tys c q) : eCk ad' σ tys' c q := by
  match c, h with
  | .inl o, ⟨vs, h1, h2⟩ => exact ⟨vs, h1, eAll_mono (fun _ _ => eOk_ad hp) h2⟩
  | .inr a, ⟨cA, t0, h1, h2, h3⟩ =>
    obtain ⟨t, rfl⟩ := ht
    exact ⟨cA, t0, by rw [List.getElem?_append_left (List.getElem?_eq_some_iff.mp h1).1]; exact h1, h2, eAr_ad hp h3⟩
abbrev eH : Type := List eC
abbrev eL : Type := List (Nat × eV)
/-- a place in a method: where, locals, stack, cells, how many cells and slots it has made -/
abbrev eS : Type := Nat × eL × List eV × eH × Nat × Nat
def eLo (ad : List Nat) (σ : Nat → Int) (q : Nat × eV) (w : Nat × Value) : Prop := q.1 = w.1 ∧ eOk ad σ q.2 w.2
def eGet (l : eL) (i : Nat) : Option eV := match l with
  | [] => none
  | q :: l => cond (Nat.beq q.1 i) (some q.2) (eGet l i)
theorem eGet_ok {ad : List Nat} {σ : Nat → Int} : ∀ {l : eL} {lv : List (Nat × Value)} {i : Nat} {v : eV}, eAll (eLo ad σ) l lv → eGet l i = some v → ∃ w, (i, w) ∈ lv ∧ eOk ad σ v w
  | [], _, i, v, h, hg => by simp [eGet] at hg
  | q :: l, lv, i, v, h, hg => by
    obtain ⟨b, bs, rfl, h1, h2⟩ := eAll_cons h
    unfold eGet at hg
    cases hb : Nat.beq q.1 i with
    | true =>
      rw [hb] at hg
      have e := Nat.eq_of_beq_eq_true hb
      simp only [cond_true, Option.some.injEq] at hg
      subst hg
      refine ⟨b.2, ?_, h1.2⟩
      rw [← e, h1.1]
      exact List.mem_cons_self
    | false =>
      rw [hb] at hg
      obtain ⟨w, g1, g2⟩ := eGet_ok h2 hg
      exact ⟨w, List.mem_cons_of_mem _ g1, g2⟩
def ePut (l : eL) (i : Nat) (v : eV) : eL := (i, v) :: l.filter (fun q => !(q.1 == i) && !(q.1 + 1 == i && eCat q.2 == 2))
def ePut2 (l : eL) (i : Nat) (v : eV) : eL := (i, v) :: l.filter (fun q => !(q.1 == i) && (!(q.1 == i + 1) && !(q.1 + 1 == i && eCat q.2 == 2)))
theorem ePut_ok {ad : List Nat} {σ : Nat → Int} {l : eL} {lv : List (Nat × Value)} (h : eAll (eLo ad σ) l lv) {i : Nat} {v : eV} {w : Value} (hv : eOk ad σ v w) : eAll (eLo ad σ) (ePut l i v) ((i, w) :: lv.filter (fun q => !(q.1 == i) && !(q.1 + 1 == i && q.2.category == 2))) :=
  ⟨⟨rfl, hv⟩, eAll_filter (fun a b hab => by rw [hab.1, eOk_cat hab.2]) h⟩
theorem ePut2_ok {ad : List Nat} {σ : Nat → Int} {l : eL} {lv : List (Nat × Value)} (h : eAll (eLo ad σ) l lv) {i : Nat} {v : eV} {w : Value} (hv : eOk ad σ v w) : eAll (eLo ad σ) (ePut2 l i v) ((i, w) :: lv.filter (fun q => !(q.1 == i) && (!(q.1 == i + 1) && !(q.1 + 1 == i && q.2.category == 2)))) :=
  ⟨⟨rfl, hv⟩, eAll_filter (fun a b hab => by rw [hab.1, eOk_cat hab.2]) h⟩
end
section
/-! THE ENGINE, 3: one step. -/
/-- an instruction of the table: where, what, how long, and four numbers that its links come to -/
abbrev eN : Type := Nat × Instr × Nat × Nat × Nat × Nat × Nat
def eLen (i : Instr) : Nat := match i with
  | .bipush _ | .iload _ | .lload _ | .aload _ | .istore _ | .lstore _ | .astore _ | .ldc _ | .newarray _ => 2
  | .sipush _ | .iinc _ _ | .ldc_w _ | .ldc2_w _ | .getfield _ | .putfield _ | .goto _ | .ifCond _ _ | .if_icmp _ _ | .ifnull _ | .ifnonnull _ | .new _ | .invokevirtual _ | .invokestatic _ | .invokespecial _ => 3
  | .multianewarray _ _ => 4
  | .tableswitch _ _ _ _ | .lookupswitch _ _ => 0
  | _ => 1
def eTwo (st : List eV) : Option (eI × eI × List eV) := match st with
  | .inl b :: .inl a :: r => some (a, b, r)
  | _ => none
def eFld (h : eH) (k a b : Nat) : Option eV := match h[k]? with
  | some (.inl o) => cond (Nat.beq o.1 a) (o.2[b]?) none
  | _ => none
def eSetF (h : eH) (k a b : Nat) (v : eV) : Option eH := match h[k]? with
  | some (.inl o) => cond (Nat.beq o.1 a && Nat.blt b o.2.length) (some (h.set k (.inl (o.1, o.2.set b v)))) none
  | _ => none
def eIx (sr : List (Int × Int)) (q : eI) (n : Nat) : Bool := eLe 0 (eRg sr q).1 && eLe ((eRg sr q).2 + 1) (n : Int)
/-- a value out of a row of ints, bytes, booleans (kd) -/
def eALd (sr : List (Int × Int)) (h : eH) (k : Nat) (q : eI) (kd : Nat) : Option eI := match h[k]? with
  | some (.inr (t, n, c)) => cond (Nat.beq t kd && eIx sr q n) (match c with
    | .inr r => some (0, r.1, r.2)
    | .inl es => match eOne q with
      | some x => match es[x.toNatClampNeg]? with
        | some (.inl v) => some v
        | _ => none
      | none => some eTop) none
  | _ => none
def eMin (a b : Int) : Int := cond (eLe a b) a b
def eMax (a b : Int) : Int := cond (eLe a b) b a
/-- a value into a row of ints (0), booleans (2) -/
def eASt (sr : List (Int × Int)) (h : eH) (k : Nat) (q v : eI) (kd : Nat) : Option eH := match h[k]? with
  | some (.inr (t, n, c)) => cond (Nat.beq t kd && eIx sr q n) (match c with
    | .inr r => some (h.set k (.inr (t, n, .inr (eMin r.1 (eRg sr v).1, eMax r.2 (eRg sr v).2))))
    | .inl es => match eOne q with
      | some x => some (h.set k (.inr (t, n, .inl (es.set x.toNatClampNeg (.inl v)))))
      | none => none) none
  | _ => none
/-- bytes: what they hold isn't followed -/
def eBSt (sr : List (Int × Int)) (h : eH) (k : Nat) (q : eI) : Bool := match h[k]? with
  | some (.inr (t, n, .inr r)) => Nat.beq t 1 && eIx sr q n && eLe r.1 (-128) && eLe 127 r.2
  | _ => false
/-- a row of longs -/
def eLng (sr : List (Int × Int)) (h : eH) (k : Nat) (q : eI) : Bool := match h[k]? with
  | some (.inr (t, n, _)) => Nat.beq t 3 && eIx sr q n
  | _ => false
def eRow (sr : List (Int × Int)) (h : eH) (k : Nat) (q : eI) : Option eV := match h[k]? with
  | some (.inr (t, n, .inl es)) => cond (Nat.beq t 4 && eIx sr q n) (match eOne q with
    | some x => es[x.toNatClampNeg]?
    | none => none) none
  | _ => none
def eZero : eV := .inl (0, 0, 0)
def eNew (kd n : Nat) : Option eC := match kd with
  | 0 => some (.inr (0, n, cond (Nat.ble n 128) (.inl (List.replicate n eZero)) (.inr (0, 0))))
  | 1 => some (.inr (1, n, .inr (-128, 127)))
  | 2 => some (.inr (2, n, cond (Nat.ble n 128) (.inl (List.replicate n eZero)) (.inr (0, 0))))
  | 3 => some (.inr (3, n, .inr (0, 0)))
  | _ => none
def eBr (r : Option Bool) (yes no : eS) : Option (List eS) := match r with
  | some true => some [yes]
  | some false => some [no]
  | none => some [yes, no]
/-- all that isn't a call, a return, a jump by a table -/
def eStep (sr : List (Int × Int)) (dfs : List (List eV)) (Rc Rs nL : Nat) (i : Instr) (a b d pc : Nat) (l : eL) (st : List eV) (h : eH) (cs sl : Nat) : Option (List eS) := match i with
  | .iconst n => some [(pc + 1, l, .inl (ePt (Int32.ofInt n)) :: st, h, cs, sl)]
  | .bipush n => some [(pc + 2, l, .inl (ePt (Int8.ofInt n).toInt32) :: st, h, cs, sl)]
  | .sipush n => some [(pc + 3, l, .inl (ePt (Int16.ofInt n).toInt32) :: st, h, cs, sl)]
  | .lconst _ => some [(pc + 1, l, .inr (.inr ()) :: st, h, cs, sl)]
  | .ldc _ => some [(pc + 2, l, .inl (ePt (Int32.ofNat a)) :: st, h, cs, sl)]
  | .ldc_w _ => some [(pc + 3, l, .inl (ePt (Int32.ofNat a)) :: st, h, cs, sl)]
  | .ldc2_w _ => some [(pc + 3, l, .inr (.inr ()) :: st, h, cs, sl)]
  | .iload_n k => match eGet l k with
    | some (.inl q) => some [(pc + 1, l, .inl q :: st, h, cs, sl)]
    | _ => none
  | .iload k => match eGet l k with
    | some (.inl q) => some [(pc + 2, l, .inl q :: st, h, cs, sl)]
    | _ => none
  | .lload_n k => match eGet l k with
    | some (.inr (.inr _)) => some [(pc + 1, l, .inr (.inr ()) :: st, h, cs, sl)]
    | _ => none
  | .lload k => match eGet l k with
    | some (.inr (.inr _)) => some [(pc + 2, l, .inr (.inr ()) :: st, h, cs, sl)]
    | _ => none
  | .aload_n k => match eGet l k with
    | some (.inr (.inl (some v))) => some [(pc + 1, l, .inr (.inl (some v)) :: st, h, cs, sl)]
    | _ => none
  | .aload k => match eGet l k with
    | some (.inr (.inl (some v))) => some [(pc + 2, l, .inr (.inl (some v)) :: st, h, cs, sl)]
    | _ => none
  | .istore_n k => match st with
    | .inl q :: r => cond (Nat.blt k nL) (some [(pc + 1, ePut l k (.inl q), r, h, cs, sl)]) none
    | _ => none
  | .istore k => match st with
    | .inl q :: r => cond (Nat.blt k nL) (some [(pc + 2, ePut l k (.inl q), r, h, cs, sl)]) none
    | _ => none
  | .lstore_n k => match st with
    | .inr (.inr u) :: r => cond (Nat.blt (k + 1) nL) (some [(pc + 1, ePut2 l k (.inr (.inr u)), r, h, cs, sl)]) none
    | _ => none
  | .lstore k => match st with
    | .inr (.inr u) :: r => cond (Nat.blt (k + 1) nL) (some [(pc + 2, ePut2 l k (.inr (.inr u)), r, h, cs, sl)]) none
    | _ => none
  | .astore_n k => match st with
    | .inr (.inl (some v)) :: r => cond (Nat.blt k nL) (some [(pc + 1, ePut l k (.inr (.inl (some v))), r, h, cs, sl)]) none
    | _ => none
  | .astore k => match st with
    | .inr (.inl (some v)) :: r => cond (Nat.blt k nL) (some [(pc + 2, ePut l k (.inr (.inl (some v))), r, h, cs, sl)]) none
    | _ => none
  | .iinc k n => match eGet l k with
    | some (.inl q) => cond (Nat.blt k nL) (some [(pc + 3, ePut l k (.inl (eAdd sr q (ePt (Int32.ofInt n)))), st, h, cs, sl)]) none
    | _ => none
  | .iadd => match eTwo st with
    | some (x, y, r) => some [(pc + 1, l, .inl (eAdd sr x y) :: r, h, cs, sl)]
    | none => none
  | .isub => match eTwo st with
    | some (x, y, r) => some [(pc + 1, l, .inl (eSub sr x y) :: r, h, cs, sl)]
    | none => none
  | .imul => match eTwo st with
    | some (x, y, r) => some [(pc + 1, l, .inl (eBin (fun u v => u * v) eTop x y) :: r, h, cs, sl)]
    | none => none
  | .iand => match eTwo st with
    | some (x, y, r) => some [(pc + 1, l, .inl (eBin (fun u v => u &&& v) eTop x y) :: r, h, cs, sl)]
    | none => none
  | .ior => match eTwo st with
    | some (x, y, r) => some [(pc + 1, l, .inl (eBin (fun u v => u ||| v) eTop x y) :: r, h, cs, sl)]
    | none => none
  | .ixor => match eTwo st with
    | some (x, y, r) => some [(pc + 1, l, .inl (eBin (fun u v => u ^^^ v) eTop x y) :: r, h, cs, sl)]
    | none => none
  | .ishl => match eTwo st with
    | some (x, y, r) => some [(pc + 1, l, .inl (eBin (fun u v => u <<< (v &&& 31)) eTop x y) :: r, h, cs, sl)]
    | none => none
  | .ishr => match eTwo st with
    | some (x, y, r) => some [(pc + 1, l, .inl (eBin (fun u v => u >>> (v &&& 31)) eTop x y) :: r, h, cs, sl)]
    | none => none
  | .iushr => match eTwo st with
    | some (x, y, r) => some [(pc + 1, l, .inl (eBin (fun u v => (u.toUInt32 >>> (v.toUInt32 &&& Int32.toUInt32 31)).toInt32) (eUsh y) x y) :: r, h, cs, sl)]
    | none => none
  | .irem => match eTwo st with
    | some (x, y, r) => cond (eEq sr y (0, 0, 0) == some false) (some [(pc + 1, l, .inl (eBin (fun u v => u - u / v * v) (eRem sr x y) x y) :: r, h, cs, sl)]) none
    | none => none
  | .idiv => match eTwo st with
    | some (x, y, r) => cond (eEq sr y (0, 0, 0) == some false) (some [(pc + 1, l, .inl (eBin (fun u v => u / v) eTop x y) :: r, h, cs, sl)]) none
    | none => none
  | .i2b => match st with
    | .inl _ :: r => some [(pc + 1, l, .inl eTop :: r, h, cs, sl)]
    | _ => none
  | .i2l => match st with
    | .inl _ :: r => some [(pc + 1, l, .inr (.inr ()) :: r, h, cs, sl)]
    | _ => none
  | .l2i => match st with
    | .inr (.inr _) :: r => some [(pc + 1, l, .inl eTop :: r, h, cs, sl)]
    | _ => none
  | .ladd => match st with
    | .inr (.inr _) :: .inr (.inr _) :: r => some [(pc + 1, l, .inr (.inr ()) :: r, h, cs, sl)]
    | _ => none
  | .lmul => match st with
    | .inr (.inr _) :: .inr (.inr _) :: r => some [(pc + 1, l, .inr (.inr ()) :: r, h, cs, sl)]
    | _ => none
  | .lcmp => match st with
    | .inr (.inr _) :: .inr (.inr _) :: r => some [(pc + 1, l, .inl eTop :: r, h, cs, sl)]
    | _ => none
  | .dup => match st with
    | v :: r => cond (Nat.beq (eCat v) 1) (some [(pc + 1, l, v :: v :: r, h, cs, sl)]) none
    | _ => none
  | .dup2 => match st with
    | v :: w :: r => cond (Nat.beq (eCat v) 1 && Nat.beq (eCat w) 1) (some [(pc + 1, l, v :: w :: v :: w :: r, h, cs, sl)]) none
    | _ => none
  | .pop => match st with
    | v :: r => cond (Nat.beq (eCat v) 1) (some [(pc + 1, l, r, h, cs, sl)]) none
    | _ => none
  | .getfield _ => match st with
    | .inr (.inl (some k)) :: r => match eFld h k a b with
      | some v => some [(pc + 3, l, v :: r, h, cs, sl)]
      | none => none
    | _ => none
  | .putfield _ => match st with
    | .inl q :: .inr (.inl (some k)) :: r => cond (Nat.beq d 0 || (Nat.beq d 2 && (eOne q == some 0 || eOne q == some 1))) (match eSetF h k a b (.inl q) with
      | some h' => some [(pc + 3, l, r, h', cs, sl)]
      | none => none) none
    | .inr (.inl (some v)) :: .inr (.inl (some k)) :: r => cond (Nat.beq d 5) (match eSetF h k a b (.inr (.inl (some v))) with
      | some h' => some [(pc + 3, l, r, h', cs, sl)]
      | none => none) none
    | _ => none
  | .iaload => match st with
    | .inl q :: .inr (.inl (some k)) :: r => match eALd sr h k q 0 with
      | some v => some [(pc + 1, l, .inl v :: r, h, cs, sl)]
      | none => none
    | _ => none
  | .baload => match st with
    | .inl q :: .inr (.inl (some k)) :: r => match eALd sr h k q 1, eALd sr h k q 2 with
      | some v, _ => some [(pc + 1, l, .inl v :: r, h, cs, sl)]
      | none, some v => some [(pc + 1, l, .inl v :: r, h, cs, sl)]
      | none, none => none
    | _ => none
  | .laload => match st with
    | .inl q :: .inr (.inl (some k)) :: r => cond (eLng sr h k q) (some [(pc + 1, l, .inr (.inr ()) :: r, h, cs, sl)]) none
    | _ => none
  | .aaload => match st with
    | .inl q :: .inr (.inl (some k)) :: r => match eRow sr h k q with
      | some v => some [(pc + 1, l, v :: r, h, cs, sl)]
      | none => none
    | _ => none
  | .iastore => match st with
    | .inl v :: .inl q :: .inr (.inl (some k)) :: r => match eASt sr h k q v 0 with
      | some h' => some [(pc + 1, l, r, h', cs, sl)]
      | none => none
    | _ => none
  | .bastore => match st with
    | .inl v :: .inl q :: .inr (.inl (some k)) :: r => cond (eBSt sr h k q) (some [(pc + 1, l, r, h, cs, sl)]) (cond (eOne v == some 0 || eOne v == some 1) (match eASt sr h k q v 2 with
      | some h' => some [(pc + 1, l, r, h', cs, sl)]
      | none => none) none)
    | _ => none
  | .lastore => match st with
    | .inr (.inr _) :: .inl q :: .inr (.inl (some k)) :: r => cond (eLng sr h k q) (some [(pc + 1, l, r, h, cs, sl)]) none
    | _ => none
  | .arraylength => match st with
    | .inr (.inl (some k)) :: r => match h[k]? with
      | some (.inr (_, n, _)) => some [(pc + 1, l, .inl (ePt (Int32.ofNat n)) :: r, h, cs, sl)]
      | _ => none
    | _ => none
  | .newarray _ => match st with
    | .inl q :: r => match eOne q with
      | some x => cond (eLe 0 x.toInt && Nat.ble x.toNatClampNeg 60000000 && Nat.ble (cs + 1) Rc && Nat.ble (sl + x.toNatClampNeg) Rs) (match eNew a x.toNatClampNeg with
        | some c => some [(pc + 2, l, .inr (.inl (some h.length)) :: r, h ++ [c], cs + 1, sl + x.toNatClampNeg)]
        | none => none) none
      | none => none
    | _ => none
  | .new _ => match dfs[a]? with
    | some fs => cond (Nat.ble (cs + 1) Rc && Nat.ble (sl + fs.length) Rs) (some [(pc + 3, l, .inr (.inl (some h.length)) :: st, h ++ [.inl (a, fs)], cs + 1, sl + fs.length)]) none
    | none => none
  | .goto _ => some [(a, l, st, h, cs, sl)]
  | .ifCond k _ => match st with
    | .inl x :: r => eBr (eCmp sr k x (0, 0, 0)) (a, l, r, h, cs, sl) (pc + 3, l, r, h, cs, sl)
    | _ => none
  | .if_icmp k _ => match eTwo st with
    | some (x, y, r) => eBr (eCmp sr k x y) (a, l, r, h, cs, sl) (pc + 3, l, r, h, cs, sl)
    | none => none
  | .ifnull _ => match st with
    | .inr (.inl (some _)) :: r => some [(pc + 3, l, r, h, cs, sl)]
    | .inr (.inl none) :: r => some [(a, l, r, h, cs, sl)]
    | _ => none
  | .ifnonnull _ => match st with
    | .inr (.inl (some _)) :: r => some [(a, l, r, h, cs, sl)]
    | .inr (.inl none) :: r => some [(pc + 3, l, r, h, cs, sl)]
    | _ => none
  | .tableswitch dflt lo hi offs => match st with
    | .inl q :: r => match eOne q with
      | some x => cond (eLe lo x.toInt && eLe x.toInt hi) (match offs[(x.toInt - lo).toNat]? with
        | some off => cond (eLe 0 ((pc : Int) + off)) (some [(((pc : Int) + off).toNat, l, r, h, cs, sl)]) none
        | none => none) (cond (eLe 0 ((pc : Int) + dflt)) (some [(((pc : Int) + dflt).toNat, l, r, h, cs, sl)]) none)
      | none => cond ((eLe ((eRg sr q).2 + 1) lo || eLe (hi + 1) (eRg sr q).1) && eLe 0 ((pc : Int) + dflt)) (some [(((pc : Int) + dflt).toNat, l, r, h, cs, sl)]) none
    | _ => none
  | _ => none
end
