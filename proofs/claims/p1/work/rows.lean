section
/-! THE ENGINE, 1: what is known of a value, of a cell; reckoning with it. A symbol's number stands first (0: none); then the bounds of what comes to it. -/
abbrev eI : Type := Nat × Int × Int
abbrev eV : Type := eI ⊕ (Option Nat ⊕ Unit)
abbrev eC : Type := (Nat × List eV) ⊕ (Nat × Nat × (List eV ⊕ (Int × Int)))
def eTop : eI := (0, -2147483648, 2147483647)
def eLe (a b : Int) : Bool := match b - a with
  | .ofNat _ => true
  | .negSucc _ => false
theorem eLe_ok {a b : Int} (h : eLe a b = true) : a ≤ b := by
  unfold eLe at h
  split at h
  · rename_i n hn
    have : (0 : Int) ≤ Int.ofNat n := Int.natCast_nonneg n
    omega
  · cases h
theorem eLe_no {a b : Int} (h : eLe a b = false) : b < a := by
  unfold eLe at h
  split at h
  · cases h
  · rename_i n hn; omega
def eIn (σ : Nat → Int) (q : eI) (x : Int32) : Prop := σ q.1 + q.2.1 ≤ x.toInt ∧ x.toInt ≤ σ q.1 + q.2.2
def eSg (sr : List (Int × Int)) (σ : Nat → Int) : Prop := σ 0 = 0 ∧ ∀ (j : Nat) (q : Int × Int), sr[j]? = some q → q.1 ≤ σ j ∧ σ j ≤ q.2
def eOk (ad : List Nat) (σ : Nat → Int) (v : eV) (w : Value) : Prop := match v with
  | .inl q => ∃ x : Int32, w = .int x ∧ eIn σ q x
  | .inr (.inl none) => w = .null
  | .inr (.inl (some k)) => ∃ a : Nat, ad[k]? = some a ∧ w = .ref a
  | .inr (.inr _) => ∃ x : Int64, w = .long x
def eCat (v : eV) : Nat := match v with
  | .inr (.inr _) => 2
  | _ => 1
theorem eOk_cat {ad : List Nat} {σ : Nat → Int} {v : eV} {w : Value} (h : eOk ad σ v w) : w.category = eCat v := by
  match v, h with
  | .inl q, ⟨x, hw, _⟩ => rw [hw]; rfl
  | .inr (.inl none), h => rw [show w = .null from h]; rfl
  | .inr (.inl (some k)), ⟨a, _, hw⟩ => rw [hw]; rfl
  | .inr (.inr _), ⟨x, hw⟩ => rw [hw]; rfl
theorem e_lo (x : Int32) : -2147483648 ≤ x.toInt := by have := Int32.le_toInt x; omega
theorem e_hi (x : Int32) : x.toInt ≤ 2147483647 := by have := Int32.toInt_lt x; omega
theorem eIn_mk {σ : Nat → Int} {b : Nat} {lo hi : Int} {x : Int32} (h1 : σ b + lo ≤ x.toInt) (h2 : x.toInt ≤ σ b + hi) : eIn σ (b, lo, hi) x := ⟨h1, h2⟩
theorem eTop_ok {σ : Nat → Int} (h0 : σ 0 = 0) (x : Int32) : eIn σ eTop x := ⟨by show σ 0 + -2147483648 ≤ _; have := e_lo x; omega, by show _ ≤ σ 0 + 2147483647; have := e_hi x; omega⟩
/-- plain bounds -/
def eRg (sr : List (Int × Int)) (q : eI) : Int × Int := match sr[q.1]? with
  | some r => (r.1 + q.2.1, r.2 + q.2.2)
  | none => (-2147483648, 2147483647)
theorem eRg_ok {sr : List (Int × Int)} {σ : Nat → Int} (hs : eSg sr σ) {q : eI} {x : Int32} (h : eIn σ q x) : (eRg sr q).1 ≤ x.toInt ∧ x.toInt ≤ (eRg sr q).2 := by
  unfold eRg
  split
  · rename_i r hr
    have := hs.2 _ _ hr
    obtain ⟨h1, h2⟩ := h
    exact ⟨by show r.1 + q.2.1 ≤ _; omega, by show _ ≤ r.2 + q.2.2; omega⟩
  · exact ⟨e_lo x, e_hi x⟩
theorem eAddI {x y : Int32} (h1 : -2147483648 ≤ x.toInt + y.toInt) (h2 : x.toInt + y.toInt ≤ 2147483647) : (x + y).toInt = x.toInt + y.toInt := by
  rw [Int32.toInt_add]; exact Int.bmod_eq_of_le (by omega) (by omega)
theorem eSubI {x y : Int32} (h1 : -2147483648 ≤ x.toInt - y.toInt) (h2 : x.toInt - y.toInt ≤ 2147483647) : (x - y).toInt = x.toInt - y.toInt := by
  rw [Int32.toInt_sub]; exact Int.bmod_eq_of_le (by omega) (by omega)
def eFit (lo hi : Int) : Bool := eLe (-2147483648) lo && eLe hi 2147483647
theorem eFit_ok {lo hi : Int} (h : eFit lo hi = true) : -2147483648 ≤ lo ∧ hi ≤ 2147483647 := by
  unfold eFit at h
  rw [Bool.and_eq_true] at h
  exact ⟨eLe_ok h.1, eLe_ok h.2⟩
def eAdd (sr : List (Int × Int)) (a b : eI) : eI :=
  cond (eFit ((eRg sr a).1 + (eRg sr b).1) ((eRg sr a).2 + (eRg sr b).2))
    (cond (Nat.beq b.1 0) (a.1, a.2.1 + b.2.1, a.2.2 + b.2.2) (cond (Nat.beq a.1 0) (b.1, a.2.1 + b.2.1, a.2.2 + b.2.2) (0, (eRg sr a).1 + (eRg sr b).1, (eRg sr a).2 + (eRg sr b).2)))
    eTop
theorem eAdd_ok {sr : List (Int × Int)} {σ : Nat → Int} (hs : eSg sr σ) {a b : eI} {x y : Int32} (ha : eIn σ a x) (hb : eIn σ b y) : eIn σ (eAdd sr a b) (x + y) := by
  have ra := eRg_ok hs ha
  have rb := eRg_ok hs hb
  have h0 := hs.1
  unfold eAdd
  cases hf : eFit ((eRg sr a).1 + (eRg sr b).1) ((eRg sr a).2 + (eRg sr b).2) with
  | false => exact eTop_ok h0 _
  | true =>
    have hf := eFit_ok hf
    have e := eAddI (x := x) (y := y) (by omega) (by omega)
    obtain ⟨ha1, ha2⟩ := ha
    obtain ⟨hb1, hb2⟩ := hb
    simp only [cond_true]
    cases hz : Nat.beq b.1 0 with
    | true =>
      have hz : b.1 = 0 := Nat.eq_of_beq_eq_true hz
      rw [hz, h0] at hb1 hb2
      simp only [cond_true]
      exact eIn_mk (by rw [e]; omega) (by rw [e]; omega)
    | false =>
      simp only [cond_false]
      cases hz : Nat.beq a.1 0 with
      | true =>
        have hz : a.1 = 0 := Nat.eq_of_beq_eq_true hz
        rw [hz, h0] at ha1 ha2
        simp only [cond_true]
        exact eIn_mk (by rw [e]; omega) (by rw [e]; omega)
      | false =>
        simp only [cond_false]
        exact eIn_mk (by rw [h0, e]; omega) (by rw [h0, e]; omega)
def eSub (sr : List (Int × Int)) (a b : eI) : eI :=
  cond (Nat.beq a.1 b.1 && eFit (a.2.1 - b.2.2) (a.2.2 - b.2.1)) (0, a.2.1 - b.2.2, a.2.2 - b.2.1)
    (cond (eFit ((eRg sr a).1 - (eRg sr b).2) ((eRg sr a).2 - (eRg sr b).1))
      (cond (Nat.beq b.1 0) (a.1, a.2.1 - b.2.2, a.2.2 - b.2.1) (0, (eRg sr a).1 - (eRg sr b).2, (eRg sr a).2 - (eRg sr b).1))
      eTop)
theorem eSub_ok {sr : List (Int × Int)} {σ : Nat → Int} (hs : eSg sr σ) {a b : eI} {x y : Int32} (ha : eIn σ a x) (hb : eIn σ b y) : eIn σ (eSub sr a b) (x - y) := by
  have ra := eRg_ok hs ha
  have rb := eRg_ok hs hb
  have h0 := hs.1
  unfold eSub
  obtain ⟨ha1, ha2⟩ := ha
  obtain ⟨hb1, hb2⟩ := hb
  cases hq : (Nat.beq a.1 b.1 && eFit (a.2.1 - b.2.2) (a.2.2 - b.2.1)) with
  | true =>
    rw [Bool.and_eq_true] at hq
    have hz : a.1 = b.1 := Nat.eq_of_beq_eq_true hq.1
    have hf := eFit_ok hq.2
    rw [hz] at ha1 ha2
    simp only [cond_true]
    have e := eSubI (x := x) (y := y) (by omega) (by omega)
    exact eIn_mk (by rw [h0, e]; omega) (by rw [h0, e]; omega)
  | false =>
    simp only [cond_false]
    cases hf : eFit ((eRg sr a).1 - (eRg sr b).2) ((eRg sr a).2 - (eRg sr b).1) with
    | false => exact eTop_ok h0 _
    | true =>
      have hf := eFit_ok hf
      have e := eSubI (x := x) (y := y) (by omega) (by omega)
      simp only [cond_true]
      cases hz : Nat.beq b.1 0 with
      | true =>
        have hz : b.1 = 0 := Nat.eq_of_beq_eq_true hz
        rw [hz, h0] at hb1 hb2
        simp only [cond_true]
        exact eIn_mk (by rw [e]; omega) (by rw [e]; omega)
      | false =>
        simp only [cond_false]
        exact eIn_mk (by rw [h0, e]; omega) (by rw [h0, e]; omega)
/-- one value alone -/
def eOne (q : eI) : Option Int32 := cond (Nat.beq q.1 0 && eLe q.2.2 q.2.1) (some (Int32.ofInt q.2.1)) none
theorem eOne_ok {σ : Nat → Int} (h0 : σ 0 = 0) {q : eI} {x y : Int32} (h : eIn σ q x) (hq : eOne q = some y) : x = y := by
  unfold eOne at hq
  cases hc : (Nat.beq q.1 0 && eLe q.2.2 q.2.1) with
  | false => rw [hc] at hq; cases hq
  | true =>
    rw [hc] at hq
    rw [Bool.and_eq_true] at hc
    have hz : q.1 = 0 := Nat.eq_of_beq_eq_true hc.1
    have hl := eLe_ok hc.2
    cases hq
    obtain ⟨h1, h2⟩ := h
    rw [hz, h0] at h1 h2
    rw [show q.2.1 = x.toInt by omega]
    exact (Int32.ofInt_toInt x).symm
def ePt (x : Int32) : eI := (0, x.toInt, x.toInt)
theorem ePt_ok {σ : Nat → Int} (h0 : σ 0 = 0) (x : Int32) : eIn σ (ePt x) x := eIn_mk (by omega) (by omega)
def eBin (f : Int32 → Int32 → Int32) (g a b : eI) : eI := match eOne a, eOne b with
  | some x, some y => ePt (f x y)
  | _, _ => g
theorem eBin_ok {σ : Nat → Int} (h0 : σ 0 = 0) {f : Int32 → Int32 → Int32} {g a b : eI} {x y : Int32} (ha : eIn σ a x) (hb : eIn σ b y) (hg : eIn σ g (f x y)) : eIn σ (eBin f g a b) (f x y) := by
  unfold eBin
  split
  · rename_i x' y' h1 h2
    rw [← eOne_ok h0 ha h1, ← eOne_ok h0 hb h2]
    exact ePt_ok h0 _
  · exact hg
/-- the remainder by a number above 0 -/
def eRem (sr : List (Int × Int)) (a b : eI) : eI := match eOne b with
  | some y => cond (eLe 1 y.toInt) (cond (eLe 0 (eRg sr a).1) (0, 0, y.toInt - 1) (0, 1 - y.toInt, y.toInt - 1)) eTop
  | none => eTop
theorem eRem_ok {sr : List (Int × Int)} {σ : Nat → Int} (hs : eSg sr σ) {a b : eI} {x y : Int32} (ha : eIn σ a x) (hb : eIn σ b y) : eIn σ (eRem sr a b) (x - x / y * y) := by
  have ra := eRg_ok hs ha
  have h0 := hs.1
  unfold eRem
  split
  · rename_i y' hy
    have hy := eOne_ok h0 hb hy
    subst hy
    cases hc : eLe 1 y.toInt with
    | false => exact eTop_ok h0 _
    | true =>
      have hc := eLe_ok hc
      have e := rem_toInt x y
      have hb := tmod_bounds (a := x.toInt) (M := y.toInt) (by omega)
      simp only [cond_true]
      cases hd : eLe 0 (eRg sr a).1 with
      | true =>
        have hd := eLe_ok hd
        have hn : 0 ≤ x.toInt.tmod y.toInt := Int.tmod_nonneg _ (by omega)
        exact eIn_mk (by rw [h0, e]; omega) (by rw [h0, e]; omega)
      | false => exact eIn_mk (by rw [h0, e]; omega) (by rw [h0, e]; omega)
  · exact eTop_ok h0 _
/-- the shift to the right without a sign, by 1 to 31 -/
def eUsh (b : eI) : eI := match eOne b with
  | some y => cond (eLe 1 y.toInt && eLe y.toInt 31) (0, 0, 2147483647) eTop
  | none => eTop
theorem e_ush : ∀ k : Nat, k < 32 → 0 < k → ∀ x : Int32, 0 ≤ (x.toUInt32 >>> ((Int32.ofNat k).toUInt32 &&& Int32.toUInt32 31)).toInt32.toInt := by
  intro k hk h0 x
  have e : (x.toUInt32 >>> ((Int32.ofNat k).toUInt32 &&& Int32.toUInt32 31)).toInt32.toBitVec.toNat = x.toBitVec.toNat / 2 ^ k := pk_ushr x (Int32.ofNat k) k (by revert k; decide)
  have hx : x.toBitVec.toNat < 2 ^ 32 := x.toBitVec.isLt
  have h2 : 2 ^ 1 ≤ 2 ^ k := Nat.pow_le_pow_right (by omega) h0
  have h3 : x.toBitVec.toNat / 2 ^ k ≤ x.toBitVec.toNat / 2 := Nat.div_le_div_left h2 (by omega)
  have h4 : (x.toUInt32 >>> ((Int32.ofNat k).toUInt32 &&& Int32.toUInt32 31)).toInt32.toInt = (x.toUInt32 >>> ((Int32.ofNat k).toUInt32 &&& Int32.toUInt32 31)).toInt32.toBitVec.toInt := rfl
  rw [h4, BitVec.toInt_eq_toNat_cond]
  split <;> omega
theorem eUsh_ok {σ : Nat → Int} (h0 : σ 0 = 0) {b : eI} {x y : Int32} (hb : eIn σ b y) : eIn σ (eUsh b) (x.toUInt32 >>> (y.toUInt32 &&& Int32.toUInt32 31)).toInt32 := by
  unfold eUsh
  split
  · rename_i y' hy
    have hy := eOne_ok h0 hb hy
    subst hy
    cases hc : (eLe 1 y.toInt && eLe y.toInt 31) with
    | false => exact eTop_ok h0 _
    | true =>
      rw [Bool.and_eq_true] at hc
      have h1 := eLe_ok hc.1
      have h2 := eLe_ok hc.2
      have ey : y = Int32.ofNat y.toInt.toNat := by
        apply Int32.toInt_inj.mp
        rw [Int32.toInt_ofNat_of_lt (by omega)]
        omega
      simp only [cond_true]
      have h3 := e_ush y.toInt.toNat (by omega) (by omega) x
      rw [← ey] at h3
      exact eIn_mk (by rw [h0]; omega) (by rw [h0]; have := e_hi (x.toUInt32 >>> (y.toUInt32 &&& Int32.toUInt32 31)).toInt32; omega)
  · exact eTop_ok h0 _
/-- one is below another: known, or not -/
def eLt (sr : List (Int × Int)) (a b : eI) : Option Bool :=
  cond (Nat.beq a.1 b.1)
    (cond (eLe (a.2.2 + 1) b.2.1) (some true) (cond (eLe b.2.2 a.2.1) (some false) none))
    (cond (eLe ((eRg sr a).2 + 1) (eRg sr b).1) (some true) (cond (eLe (eRg sr b).2 (eRg sr a).1) (some false) none))
theorem eLt_ok {sr : List (Int × Int)} {σ : Nat → Int} (hs : eSg sr σ) {a b : eI} {x y : Int32} (ha : eIn σ a x) (hb : eIn σ b y) {r : Bool} (h : eLt sr a b = some r) : (x < y) = (r = true) := by
  have ra := eRg_ok hs ha
  have rb := eRg_ok hs hb
  obtain ⟨ha1, ha2⟩ := ha
  obtain ⟨hb1, hb2⟩ := hb
  have tt : x.toInt < y.toInt → (x < y) = (true = true) := fun q => by simp [Int32.lt_iff_toInt_lt, q]
  have ff : y.toInt ≤ x.toInt → (x < y) = (false = true) := fun q => by simp [Int32.lt_iff_toInt_lt, Int.not_lt.mpr q]
  unfold eLt at h
  cases hz : Nat.beq a.1 b.1 with
  | true =>
    rw [hz] at h
    have hz : a.1 = b.1 := Nat.eq_of_beq_eq_true hz
    rw [hz] at ha1 ha2
    simp only [cond_true] at h
    cases h1 : eLe (a.2.2 + 1) b.2.1 with
    | true => rw [h1] at h; have h1 := eLe_ok h1; cases h; exact tt (by omega)
    | false =>
      rw [h1] at h
      cases h2 : eLe b.2.2 a.2.1 with
      | true => rw [h2] at h; have h2 := eLe_ok h2; cases h; exact ff (by omega)
      | false => rw [h2] at h; cases h
  | false =>
    rw [hz] at h
    simp only [cond_false] at h
    cases h1 : eLe ((eRg sr a).2 + 1) (eRg sr b).1 with
    | true => rw [h1] at h; have h1 := eLe_ok h1; cases h; exact tt (by omega)
    | false =>
      rw [h1] at h
      cases h2 : eLe (eRg sr b).2 (eRg sr a).1 with
      | true => rw [h2] at h; have h2 := eLe_ok h2; cases h; exact ff (by omega)
      | false => rw [h2] at h; cases h
def eEq (sr : List (Int × Int)) (a b : eI) : Option Bool := match eLt sr a b, eLt sr b a with
  | some false, some false => some true
  | some true, _ => some false
  | _, some true => some false
  | _, _ => none
theorem eEq_ok {sr : List (Int × Int)} {σ : Nat → Int} (hs : eSg sr σ) {a b : eI} {x y : Int32} (ha : eIn σ a x) (hb : eIn σ b y) {r : Bool} (h : eEq sr a b = some r) : (x = y) = (r = true) := by
  have lt := @eLt_ok sr σ hs a b x y ha hb
  have gt := @eLt_ok sr σ hs b a y x hb ha
  have eqi : (x = y) = (x.toInt = y.toInt) := propext (Int32.toInt_inj.symm)
  unfold eEq at h
  split at h
  · rename_i h1 h2
    have h1 := lt h1
    have h2 := gt h2
    simp only [Int32.lt_iff_toInt_lt, Bool.false_eq_true, eq_iff_iff, iff_false] at h1 h2
    cases h
    rw [eqi]
    simp only [eq_iff_iff, iff_true]
    omega
  · rename_i h1
    have h1 := lt h1
    simp only [Int32.lt_iff_toInt_lt, eq_iff_iff, iff_true] at h1
    cases h
    rw [eqi]
    simp only [Bool.false_eq_true, eq_iff_iff, iff_false]
    omega
  · rename_i h1 hx
    have h1 := gt h1
    simp only [Int32.lt_iff_toInt_lt, eq_iff_iff, iff_true] at h1
    cases h
    rw [eqi]
    simp only [Bool.false_eq_true, eq_iff_iff, iff_false]
    omega
  · cases h
/-- a comparison by its name -/
def eCmp (sr : List (Int × Int)) (c : Jvm.ClassFile.Cond) (a b : eI) : Option Bool := match c with
  | .eq => eEq sr a b
  | .ne => (eEq sr a b).map (!·)
  | .lt => eLt sr a b
  | .ge => (eLt sr a b).map (!·)
  | .gt => eLt sr b a
  | .le => (eLt sr b a).map (!·)
end
section
/-! THE ENGINE, 2: lists that answer to lists; cells, locals, stacks. -/
def eAll {α β : Type} (r : α → β → Prop) : List α → List β → Prop
  | [], [] => True
  | a :: as, b :: bs => r a b ∧ eAll r as bs
  | [], _ :: _ => False
  | _ :: _, [] => False
section EAL
variable {α β : Type} {r : α → β → Prop}
theorem eAll_cons {a : α} {as : List α} {bs : List β} (h : eAll r (a :: as) bs) : ∃ (b : β) (bs' : List β), bs = b :: bs' ∧ r a b ∧ eAll r as bs' := by
  match bs, h with
  | b :: bs', h => exact ⟨b, bs', rfl, h.1, h.2⟩
theorem eAll_nil {bs : List β} (h : eAll r ([] : List α) bs) : bs = [] := by
  match bs, h with
  | [], _ => rfl
theorem eAll_len : ∀ {as : List α} {bs : List β}, eAll r as bs → as.length = bs.length
  | [], [], _ => rfl
  | _ :: as, _ :: bs, h => by simp [eAll_len (as := as) (bs := bs) h.2]
theorem eAll_get : ∀ {as : List α} {bs : List β}, eAll r as bs → ∀ {k : Nat} {a : α}, as[k]? = some a → ∃ b, bs[k]? = some b ∧ r a b
  | [], [], _, k, a, hk => by simp at hk
  | a' :: as, b' :: bs, h, 0, a, hk => by simp at hk; subst hk; exact ⟨b', by simp, h.1⟩
  | a' :: as, b' :: bs, h, k + 1, a, hk => by
    simp at hk
    obtain ⟨b, h1, h2⟩ := eAll_get h.2 hk
    exact ⟨b, by simpa using h1, h2⟩
theorem eAll_getR : ∀ {as : List α} {bs : List β}, eAll r as bs → ∀ {k : Nat} {b : β}, bs[k]? = some b → ∃ a, as[k]? = some a ∧ r a b
  | [], [], _, k, b, hk => by simp at hk
  | a' :: as, b' :: bs, h, 0, b, hk => by simp at hk; subst hk; exact ⟨a', by simp, h.1⟩
  | a' :: as, b' :: bs, h, k + 1, b, hk => by
    simp at hk
    obtain ⟨a, h1, h2⟩ := eAll_getR h.2 hk
    exact ⟨a, by simpa using h1, h2⟩
theorem eAll_set : ∀ {as : List α} {bs : List β}, eAll r as bs → ∀ (k : Nat) {a : α} {b : β}, r a b → eAll r (as.set k a) (bs.set k b)
  | [], [], _, _, _, _, _ => trivial
  | _ :: _, _ :: _, h, 0, _, _, hr => ⟨hr, h.2⟩
  | _ :: _, _ :: _, h, k + 1, _, _, hr => ⟨h.1, eAll_set h.2 k hr⟩
theorem eAll_app : ∀ {as : List α} {bs : List β} {cs : List α} {ds : List β}, eAll r as bs → eAll r cs ds → eAll r (as ++ cs) (bs ++ ds)
  | [], [], _, _, _, h2 => h2
  | _ :: _, _ :: _, _, _, h, h2 => ⟨h.1, eAll_app h.2 h2⟩
theorem eAll_mono {r' : α → β → Prop} (hm : ∀ a b, r a b → r' a b) : ∀ {as : List α} {bs : List β}, eAll r as bs → eAll r' as bs
  | [], [], _ => trivial
  | _ :: _, _ :: _, h => ⟨hm _ _ h.1, eAll_mono hm h.2⟩
theorem eAll_filter {f : α → Bool} {g : β → Bool} (hm : ∀ a b, r a b → f a = g b) : ∀ {as : List α} {bs : List β}, eAll r as bs → eAll r (as.filter f) (bs.filter g)
  | [], [], _ => trivial
  | a :: as, b :: bs, h => by
    have e := hm a b h.1
    cases hg : g b with
    | true => rw [List.filter_cons_of_pos (by rw [e, hg]), List.filter_cons_of_pos hg]; exact ⟨h.1, eAll_filter hm h.2⟩
    | false => rw [List.filter_cons_of_neg (by rw [e, hg]; decide), List.filter_cons_of_neg (by rw [hg]; decide)]; exact eAll_filter hm h.2
theorem eAll_mem : ∀ {as : List α} {bs : List β}, eAll r as bs → ∀ {a : α}, a ∈ as → ∃ b, b ∈ bs ∧ r a b := by
  intro as bs h a ha
  obtain ⟨k, hk⟩ := List.getElem?_of_mem ha
  obtain ⟨b, h1, h2⟩ := eAll_get h hk
  exact ⟨b, List.mem_of_getElem? h1, h2⟩
theorem eAll_rev {as : List α} {bs : List β} (h : eAll r as bs) : eAll r as.reverse bs.reverse := by
  induction as generalizing bs with
  | nil => rw [eAll_nil h]; trivial
  | cons a as ih =>
    obtain ⟨b, bs', rfl, h1, h2⟩ := eAll_cons h
    simp only [List.reverse_cons]
    exact eAll_app (ih h2) ⟨h1, trivial⟩
end EAL
theorem eOk_ad {ad ad' : List Nat} {σ : Nat → Int} (hp : ∃ t, ad' = ad ++ t) {v : eV} {w : Value} (h : eOk ad σ v w) : eOk ad' σ v w := by
  match v, h with
  | .inl q, h => exact h
  | .inr (.inl none), h => exact h
  | .inr (.inl (some k)), ⟨a, h1, h2⟩ =>
    obtain ⟨t, rfl⟩ := hp
    refine ⟨a, ?_, h2⟩
    rw [List.getElem?_append_left (List.getElem?_eq_some_iff.mp h1).1]
    exact h1
  | .inr (.inr _), h => exact h
/-- arrays: 0 ints, 1 bytes, 2 booleans, 3 longs, 4 rows of ints -/
def eTy (k : Nat) : FieldType := match k with
  | 0 => .int
  | 1 => .byte
  | 2 => .boolean
  | 3 => .long
  | _ => .array .int
def eCt (ad : List Nat) (σ : Nat → Int) (n : Nat) (f : Nat → Int32) (c : List eV ⊕ (Int × Int)) : Prop := match c with
  | .inl es => ∀ j, j < n → ∃ v, es[j]? = some v ∧ eOk ad σ v (.int (f j))
  | .inr q => ∀ j, j < n → q.1 ≤ (f j).toInt ∧ (f j).toInt ≤ q.2
def eAr (ad : List Nat) (σ : Nat → Int) (k n : Nat) (c : List eV ⊕ (Int × Int)) (cA : ClassId) (e : va_E) : Prop := match k with
  | 3 => ∃ f : Nat → Int64, e = .inl (cA, n, .inr (.inl f))
  | 4 => ∃ f : Nat → Option Nat, e = .inl (cA, n, .inr (.inr (.inr (.inr f)))) ∧ match c with
    | .inl es => ∀ j, j < n → ∃ v, es[j]? = some v ∧ eOk ad σ v (va_rf (f j))
    | .inr _ => True
  | _ => ∃ f : Nat → Int32, e = .inl (cA, n, .inl f) ∧ eCt ad σ n f c
def eCk (ad : List Nat) (σ : Nat → Int) (tys : List (ClassId × FieldType)) (c : eC) (q : Nat × va_E) : Prop := match c with
  | .inl o => ∃ vs : List Value, q.2 = .inr (o.1, vs) ∧ eAll (eOk ad σ) o.2 vs
  | .inr a => ∃ (cA : ClassId) (t0 : Nat), tys[t0]? = some (cA, eTy a.1) ∧ a.2.1 < 2 ^ 31 ∧ eAr ad σ a.1 a.2.1 a.2.2 cA q.2
theorem eAr_ad {ad ad' : List Nat} {σ : Nat → Int} (hp : ∃ t, ad' = ad ++ t) {k n : Nat} {c : List eV ⊕ (Int × Int)} {cA : ClassId} {e : va_E} (h : eAr ad σ k n c cA e) : eAr ad' σ k n c cA e := by
  unfold eAr at h ⊢
  split at h
  · exact h
  · obtain ⟨f, h1, h2⟩ := h
    refine ⟨f, h1, ?_⟩
    cases c with
    | inl es => exact fun j hj => by obtain ⟨v, g1, g2⟩ := h2 j hj; exact ⟨v, g1, eOk_ad hp g2⟩
    | inr q => trivial
  · obtain ⟨f, h1, h2⟩ := h
    refine ⟨f, h1, ?_⟩
    cases c with
    | inl es => exact fun j hj => by obtain ⟨v, g1, g2⟩ := h2 j hj; exact ⟨v, g1, eOk_ad hp g2⟩
    | inr q => exact h2
theorem eCk_ad {ad ad' : List Nat} {σ : Nat → Int} {tys tys' : List (ClassId × FieldType)} (hp : ∃ t, ad' = ad ++ t) (ht : ∃ t, tys' = tys ++ t) {c : eC} {q : Nat × va_E} (h : eCk ad σ tys c q) : eCk ad' σ tys' c q := by
  match c, h with
  | .inl o, ⟨vs, h1, h2⟩ => exact ⟨vs, h1, eAll_mono (fun _ _ => eOk_ad hp) h2⟩
  | .inr a, ⟨cA, t0, h1, h2, h3⟩ =>
    obtain ⟨t, rfl⟩ := ht
    exact ⟨cA, t0, by rw [List.getElem?_append_left (List.getElem?_eq_some_iff.mp h1).1]; exact h1, h2, eAr_ad hp h3⟩
abbrev eH : Type := List eC
abbrev eL : Type := List (Nat × eV)
/-- a place in a method: where, locals, stack, cells, how many cells and slots it has made -/
abbrev eS : Type := Nat × eL × List eV × eH × Nat × Nat
def eLo (ad : List Nat) (σ : Nat → Int) (q : Nat × eV) (w : Nat × Value) : Prop := q.1 = w.1 ∧ eOk ad σ q.2 w.2
def eGet (l : eL) (i : Nat) : Option eV := match l with
  | [] => none
  | q :: l => cond (Nat.beq q.1 i) (some q.2) (eGet l i)
theorem eGet_ok {ad : List Nat} {σ : Nat → Int} : ∀ {l : eL} {lv : List (Nat × Value)} {i : Nat} {v : eV}, eAll (eLo ad σ) l lv → eGet l i = some v → ∃ w, (i, w) ∈ lv ∧ eOk ad σ v w
  | [], _, i, v, h, hg => by simp [eGet] at hg
  | q :: l, lv, i, v, h, hg => by
    obtain ⟨b, bs, rfl, h1, h2⟩ := eAll_cons h
    unfold eGet at hg
    cases hb : Nat.beq q.1 i with
    | true =>
      rw [hb] at hg
      have e := Nat.eq_of_beq_eq_true hb
      simp only [cond_true, Option.some.injEq] at hg
      subst hg
      refine ⟨b.2, ?_, h1.2⟩
      rw [← e, h1.1]
      exact List.mem_cons_self
    | false =>
      rw [hb] at hg
      obtain ⟨w, g1, g2⟩ := eGet_ok h2 hg
      exact ⟨w, List.mem_cons_of_mem _ g1, g2⟩
def ePut (l : eL) (i : Nat) (v : eV) : eL := (i, v) :: l.filter (fun q => !(q.1 == i) && !(q.1 + 1 == i && eCat q.2 == 2))
def ePut2 (l : eL) (i : Nat) (v : eV) : eL := (i, v) :: l.filter (fun q => !(q.1 == i) && (!(q.1 == i + 1) && !(q.1 + 1 == i && eCat q.2 == 2)))
theorem ePut_ok {ad : List Nat} {σ : Nat → Int} {l : eL} {lv : List (Nat × Value)} (h : eAll (eLo ad σ) l lv) {i : Nat} {v : eV} {w : Value} (hv : eOk ad σ v w) : eAll (eLo ad σ) (ePut l i v) ((i, w) :: lv.filter (fun q => !(q.1 == i) && !(q.1 + 1 == i && q.2.category == 2))) :=
  ⟨⟨rfl, hv⟩, eAll_filter (fun a b hab => by rw [hab.1, eOk_cat hab.2]) h⟩
theorem ePut2_ok {ad : List Nat} {σ : Nat → Int} {l : eL} {lv : List (Nat × Value)} (h : eAll (eLo ad σ) l lv) {i : Nat} {v : eV} {w : Value} (hv : eOk ad σ v w) : eAll (eLo ad σ) (ePut2 l i v) ((i, w) :: lv.filter (fun q => !(q.1 == i) && (!(q.1 == i + 1) && !(q.1 + 1 == i && q.2.category == 2)))) :=
  ⟨⟨rfl, hv⟩, eAll_filter (fun a b hab => by rw [hab.1, eOk_cat hab.2]) h⟩
end
section
/-! THE ENGINE, 3: one step. -/
/-- an instruction of the table: where, what, how long, and four numbers that its links come to -/
abbrev eN : Type := Nat × Instr × Nat × Nat × Nat × Nat × Nat
def eLen (i : Instr) : Nat := match i with
  | .bipush _ | .iload _ | .lload _ | .aload _ | .istore _ | .lstore _ | .astore _ | .ldc _ | .newarray _ => 2
  | .sipush _ | .iinc _ _ | .ldc_w _ | .ldc2_w _ | .getfield _ | .putfield _ | .goto _ | .ifCond _ _ | .if_icmp _ _ | .ifnull _ | .ifnonnull _ | .new _ | .invokevirtual _ | .invokestatic _ | .invokespecial _ => 3
  | .multianewarray _ _ => 4
  | .tableswitch _ _ _ _ | .lookupswitch _ _ => 0
  | _ => 1
def eTwo (st : List eV) : Option (eI × eI × List eV) := match st with
  | .inl b :: .inl a :: r => some (a, b, r)
  | _ => none
def eFld (h : eH) (k a b : Nat) : Option eV := match h[k]? with
  | some (.inl o) => cond (Nat.beq o.1 a) (o.2[b]?) none
  | _ => none
def eSetF (h : eH) (k a b : Nat) (v : eV) : Option eH := match h[k]? with
  | some (.inl o) => cond (Nat.beq o.1 a && Nat.blt b o.2.length) (some (h.set k (.inl (o.1, o.2.set b v)))) none
  | _ => none
def eIx (sr : List (Int × Int)) (q : eI) (n : Nat) : Bool := eLe 0 (eRg sr q).1 && eLe ((eRg sr q).2 + 1) (n : Int)
def eALd1 (q : eI) (c : List eV ⊕ (Int × Int)) : Option eI := match c with
  | .inr r => some (0, r.1, r.2)
  | .inl es => match eOne q with
    | some x => match es[x.toNatClampNeg]? with
      | some (.inl v) => some v
      | _ => none
    | none => some eTop
/-- a value out of a row of ints, bytes, booleans (kd) -/
def eALd (sr : List (Int × Int)) (h : eH) (k : Nat) (q : eI) (kd : Nat) : Option eI := match h[k]? with
  | some (.inr (t, n, c)) => cond (Nat.beq t kd && eIx sr q n) (eALd1 q c) none
  | _ => none
def eMin (a b : Int) : Int := cond (eLe a b) a b
def eMax (a b : Int) : Int := cond (eLe a b) b a
def eASt1 (sr : List (Int × Int)) (q v : eI) (c : List eV ⊕ (Int × Int)) : Option (List eV ⊕ (Int × Int)) := match c with
  | .inr r => some (.inr (eMin r.1 (eRg sr v).1, eMax r.2 (eRg sr v).2))
  | .inl es => match eOne q with
    | some x => some (.inl (es.set x.toNatClampNeg (.inl v)))
    | none => none
/-- a value into a row of ints (0), booleans (2) -/
def eASt (sr : List (Int × Int)) (h : eH) (k : Nat) (q v : eI) (kd : Nat) : Option eH := match h[k]? with
  | some (.inr (t, n, c)) => match eASt1 sr q v c with
    | some c' => cond (Nat.beq t kd && eIx sr q n) (some (h.set k (.inr (t, n, c')))) none
    | none => none
  | _ => none
/-- bytes: what they hold isn't followed -/
def eBSt (sr : List (Int × Int)) (h : eH) (k : Nat) (q : eI) : Bool := match h[k]? with
  | some (.inr (t, n, .inr r)) => Nat.beq t 1 && eIx sr q n && eLe r.1 (-128) && eLe 127 r.2
  | _ => false
/-- a row of longs -/
def eLng (sr : List (Int × Int)) (h : eH) (k : Nat) (q : eI) : Bool := match h[k]? with
  | some (.inr (t, n, _)) => Nat.beq t 3 && eIx sr q n
  | _ => false
def eRow (sr : List (Int × Int)) (h : eH) (k : Nat) (q : eI) : Option eV := match h[k]? with
  | some (.inr (t, n, .inl es)) => match eOne q with
    | some x => cond (Nat.beq t 4 && eIx sr q n) (es[x.toNatClampNeg]?) none
    | none => none
  | _ => none
def eZero : eV := .inl (0, 0, 0)
def eNew (kd n : Nat) : Option eC := match kd with
  | 0 => some (.inr (0, n, cond (Nat.ble n 410) (.inl (List.replicate n eZero)) (.inr (0, 0))))
  | 1 => some (.inr (1, n, .inr (-128, 127)))
  | 2 => some (.inr (2, n, cond (Nat.ble n 410) (.inl (List.replicate n eZero)) (.inr (0, 0))))
  | 3 => some (.inr (3, n, .inr (0, 0)))
  | _ => none
def eBr (r : Option Bool) (yes no : eS) : Option (List eS) := match r with
  | some true => some [yes]
  | some false => some [no]
  | none => some [yes, no]
/-- all that isn't a call, a return, a jump by a table -/
def eStep (sr : List (Int × Int)) (dfs : List (List eV)) (Rc Rs nL : Nat) (i : Instr) (a b d pc : Nat) (l : eL) (st : List eV) (h : eH) (cs sl : Nat) : Option (List eS) := match i with
  | .iconst n => some [(pc + 1, l, .inl (ePt (Int32.ofInt n)) :: st, h, cs, sl)]
  | .bipush n => some [(pc + 2, l, .inl (ePt (Int8.ofInt n).toInt32) :: st, h, cs, sl)]
  | .sipush n => some [(pc + 3, l, .inl (ePt (Int16.ofInt n).toInt32) :: st, h, cs, sl)]
  | .lconst _ => some [(pc + 1, l, .inr (.inr ()) :: st, h, cs, sl)]
  | .ldc _ => some [(pc + 2, l, .inl (ePt (Int32.ofNat a)) :: st, h, cs, sl)]
  | .ldc_w _ => some [(pc + 3, l, .inl (ePt (Int32.ofNat a)) :: st, h, cs, sl)]
  | .ldc2_w _ => some [(pc + 3, l, .inr (.inr ()) :: st, h, cs, sl)]
  | .iload_n k => match eGet l k with
    | some (.inl q) => some [(pc + 1, l, .inl q :: st, h, cs, sl)]
    | _ => none
  | .iload k => match eGet l k with
    | some (.inl q) => some [(pc + 2, l, .inl q :: st, h, cs, sl)]
    | _ => none
  | .lload_n k => match eGet l k with
    | some (.inr (.inr _)) => some [(pc + 1, l, .inr (.inr ()) :: st, h, cs, sl)]
    | _ => none
  | .lload k => match eGet l k with
    | some (.inr (.inr _)) => some [(pc + 2, l, .inr (.inr ()) :: st, h, cs, sl)]
    | _ => none
  | .aload_n k => match eGet l k with
    | some (.inr (.inl (some v))) => some [(pc + 1, l, .inr (.inl (some v)) :: st, h, cs, sl)]
    | _ => none
  | .aload k => match eGet l k with
    | some (.inr (.inl (some v))) => some [(pc + 2, l, .inr (.inl (some v)) :: st, h, cs, sl)]
    | _ => none
  | .istore_n k => match st with
    | .inl q :: r => cond (Nat.blt k nL) (some [(pc + 1, ePut l k (.inl q), r, h, cs, sl)]) none
    | _ => none
  | .istore k => match st with
    | .inl q :: r => cond (Nat.blt k nL) (some [(pc + 2, ePut l k (.inl q), r, h, cs, sl)]) none
    | _ => none
  | .lstore_n k => match st with
    | .inr (.inr u) :: r => cond (Nat.blt (k + 1) nL) (some [(pc + 1, ePut2 l k (.inr (.inr u)), r, h, cs, sl)]) none
    | _ => none
  | .lstore k => match st with
    | .inr (.inr u) :: r => cond (Nat.blt (k + 1) nL) (some [(pc + 2, ePut2 l k (.inr (.inr u)), r, h, cs, sl)]) none
    | _ => none
  | .astore_n k => match st with
    | .inr (.inl (some v)) :: r => cond (Nat.blt k nL) (some [(pc + 1, ePut l k (.inr (.inl (some v))), r, h, cs, sl)]) none
    | _ => none
  | .astore k => match st with
    | .inr (.inl (some v)) :: r => cond (Nat.blt k nL) (some [(pc + 2, ePut l k (.inr (.inl (some v))), r, h, cs, sl)]) none
    | _ => none
  | .iinc k n => match eGet l k with
    | some (.inl q) => cond (Nat.blt k nL) (some [(pc + 3, ePut l k (.inl (eAdd sr q (ePt (Int32.ofInt n)))), st, h, cs, sl)]) none
    | _ => none
  | .iadd => match eTwo st with
    | some (x, y, r) => some [(pc + 1, l, .inl (eAdd sr x y) :: r, h, cs, sl)]
    | none => none
  | .isub => match eTwo st with
    | some (x, y, r) => some [(pc + 1, l, .inl (eSub sr x y) :: r, h, cs, sl)]
    | none => none
  | .imul => match eTwo st with
    | some (x, y, r) => some [(pc + 1, l, .inl (eBin (fun u v => u * v) eTop x y) :: r, h, cs, sl)]
    | none => none
  | .iand => match eTwo st with
    | some (x, y, r) => some [(pc + 1, l, .inl (eBin (fun u v => u &&& v) eTop x y) :: r, h, cs, sl)]
    | none => none
  | .ior => match eTwo st with
    | some (x, y, r) => some [(pc + 1, l, .inl (eBin (fun u v => u ||| v) eTop x y) :: r, h, cs, sl)]
    | none => none
  | .ixor => match eTwo st with
    | some (x, y, r) => some [(pc + 1, l, .inl (eBin (fun u v => u ^^^ v) eTop x y) :: r, h, cs, sl)]
    | none => none
  | .ishl => match eTwo st with
    | some (x, y, r) => some [(pc + 1, l, .inl (eBin (fun u v => u <<< (v &&& 31)) eTop x y) :: r, h, cs, sl)]
    | none => none
  | .ishr => match eTwo st with
    | some (x, y, r) => some [(pc + 1, l, .inl (eBin (fun u v => u >>> (v &&& 31)) eTop x y) :: r, h, cs, sl)]
    | none => none
  | .iushr => match eTwo st with
    | some (x, y, r) => some [(pc + 1, l, .inl (eBin (fun u v => (u.toUInt32 >>> (v.toUInt32 &&& Int32.toUInt32 31)).toInt32) (eUsh y) x y) :: r, h, cs, sl)]
    | none => none
  | .irem => match eTwo st with
    | some (x, y, r) => cond (eEq sr y (0, 0, 0) == some false) (some [(pc + 1, l, .inl (eBin (fun u v => u - u / v * v) (eRem sr x y) x y) :: r, h, cs, sl)]) none
    | none => none
  | .idiv => match eTwo st with
    | some (x, y, r) => cond (eEq sr y (0, 0, 0) == some false) (some [(pc + 1, l, .inl (eBin (fun u v => u / v) eTop x y) :: r, h, cs, sl)]) none
    | none => none
  | .i2b => match st with
    | .inl _ :: r => some [(pc + 1, l, .inl eTop :: r, h, cs, sl)]
    | _ => none
  | .i2l => match st with
    | .inl _ :: r => some [(pc + 1, l, .inr (.inr ()) :: r, h, cs, sl)]
    | _ => none
  | .l2i => match st with
    | .inr (.inr _) :: r => some [(pc + 1, l, .inl eTop :: r, h, cs, sl)]
    | _ => none
  | .ladd => match st with
    | .inr (.inr _) :: .inr (.inr _) :: r => some [(pc + 1, l, .inr (.inr ()) :: r, h, cs, sl)]
    | _ => none
  | .lmul => match st with
    | .inr (.inr _) :: .inr (.inr _) :: r => some [(pc + 1, l, .inr (.inr ()) :: r, h, cs, sl)]
    | _ => none
  | .lcmp => match st with
    | .inr (.inr _) :: .inr (.inr _) :: r => some [(pc + 1, l, .inl eTop :: r, h, cs, sl)]
    | _ => none
  | .dup => match st with
    | v :: r => cond (Nat.beq (eCat v) 1) (some [(pc + 1, l, v :: v :: r, h, cs, sl)]) none
    | _ => none
  | .dup2 => match st with
    | v :: w :: r => cond (Nat.beq (eCat v) 1 && Nat.beq (eCat w) 1) (some [(pc + 1, l, v :: w :: v :: w :: r, h, cs, sl)]) none
    | _ => none
  | .pop => match st with
    | v :: r => cond (Nat.beq (eCat v) 1) (some [(pc + 1, l, r, h, cs, sl)]) none
    | _ => none
  | .getfield _ => match st with
    | .inr (.inl (some k)) :: r => match eFld h k a b with
      | some v => some [(pc + 3, l, v :: r, h, cs, sl)]
      | none => none
    | _ => none
  | .putfield _ => match st with
    | .inl q :: .inr (.inl (some k)) :: r => cond (Nat.beq d 0 || (Nat.beq d 2 && (eOne q == some 0 || eOne q == some 1))) (match eSetF h k a b (.inl q) with
      | some h' => some [(pc + 3, l, r, h', cs, sl)]
      | none => none) none
    | .inr (.inl (some v)) :: .inr (.inl (some k)) :: r => cond (Nat.beq d 5) (match eSetF h k a b (.inr (.inl (some v))) with
      | some h' => some [(pc + 3, l, r, h', cs, sl)]
      | none => none) none
    | _ => none
  | .iaload => match st with
    | .inl q :: .inr (.inl (some k)) :: r => match eALd sr h k q 0 with
      | some v => some [(pc + 1, l, .inl v :: r, h, cs, sl)]
      | none => none
    | _ => none
  | .baload => match st with
    | .inl q :: .inr (.inl (some k)) :: r => match eALd sr h k q 1, eALd sr h k q 2 with
      | some v, _ => some [(pc + 1, l, .inl v :: r, h, cs, sl)]
      | none, some v => some [(pc + 1, l, .inl v :: r, h, cs, sl)]
      | none, none => none
    | _ => none
  | .laload => match st with
    | .inl q :: .inr (.inl (some k)) :: r => cond (eLng sr h k q) (some [(pc + 1, l, .inr (.inr ()) :: r, h, cs, sl)]) none
    | _ => none
  | .aaload => match st with
    | .inl q :: .inr (.inl (some k)) :: r => match eRow sr h k q with
      | some v => some [(pc + 1, l, v :: r, h, cs, sl)]
      | none => none
    | _ => none
  | .iastore => match st with
    | .inl v :: .inl q :: .inr (.inl (some k)) :: r => match eASt sr h k q v 0 with
      | some h' => some [(pc + 1, l, r, h', cs, sl)]
      | none => none
    | _ => none
  | .bastore => match st with
    | .inl v :: .inl q :: .inr (.inl (some k)) :: r => cond (eBSt sr h k q) (some [(pc + 1, l, r, h, cs, sl)]) (cond (eOne v == some 0 || eOne v == some 1) (match eASt sr h k q v 2 with
      | some h' => some [(pc + 1, l, r, h', cs, sl)]
      | none => none) none)
    | _ => none
  | .lastore => match st with
    | .inr (.inr _) :: .inl q :: .inr (.inl (some k)) :: r => cond (eLng sr h k q) (some [(pc + 1, l, r, h, cs, sl)]) none
    | _ => none
  | .arraylength => match st with
    | .inr (.inl (some k)) :: r => match h[k]? with
      | some (.inr (_, n, _)) => some [(pc + 1, l, .inl (ePt (Int32.ofNat n)) :: r, h, cs, sl)]
      | _ => none
    | _ => none
  | .newarray _ => match st with
    | .inl q :: r => match eOne q with
      | some x => cond (eLe 0 x.toInt && Nat.ble x.toNatClampNeg 60000000 && Nat.ble (cs + 1) Rc && Nat.ble (sl + x.toNatClampNeg) Rs) (match eNew a x.toNatClampNeg with
        | some c => some [(pc + 2, l, .inr (.inl (some h.length)) :: r, h ++ [c], cs + 1, sl + x.toNatClampNeg)]
        | none => none) none
      | none => none
    | _ => none
  | .new _ => match dfs[a]? with
    | some fs => cond (Nat.ble (cs + 1) Rc && Nat.ble (sl + fs.length) Rs) (some [(pc + 3, l, .inr (.inl (some h.length)) :: st, h ++ [.inl (a, fs)], cs + 1, sl + fs.length)]) none
    | none => none
  | .goto _ => some [(a, l, st, h, cs, sl)]
  | .ifCond k _ => match st with
    | .inl x :: r => eBr (eCmp sr k x (0, 0, 0)) (a, l, r, h, cs, sl) (pc + 3, l, r, h, cs, sl)
    | _ => none
  | .if_icmp k _ => match eTwo st with
    | some (x, y, r) => eBr (eCmp sr k x y) (a, l, r, h, cs, sl) (pc + 3, l, r, h, cs, sl)
    | none => none
  | .ifnull _ => match st with
    | .inr (.inl (some _)) :: r => some [(pc + 3, l, r, h, cs, sl)]
    | .inr (.inl none) :: r => some [(a, l, r, h, cs, sl)]
    | _ => none
  | .ifnonnull _ => match st with
    | .inr (.inl (some _)) :: r => some [(a, l, r, h, cs, sl)]
    | .inr (.inl none) :: r => some [(pc + 3, l, r, h, cs, sl)]
    | _ => none
  | .tableswitch dflt lo hi offs => match st with
    | .inl q :: r => match eOne q with
      | some x => cond (eLe lo x.toInt && eLe x.toInt hi) (match offs[(x.toInt - lo).toNat]? with
        | some off => cond (eLe 0 ((pc : Int) + off)) (some [(((pc : Int) + off).toNat, l, r, h, cs, sl)]) none
        | none => none) (cond (eLe 0 ((pc : Int) + dflt)) (some [(((pc : Int) + dflt).toNat, l, r, h, cs, sl)]) none)
      | none => cond ((eLe ((eRg sr q).2 + 1) lo || eLe (hi + 1) (eRg sr q).1) && eLe 0 ((pc : Int) + dflt)) (some [(((pc : Int) + dflt).toNat, l, r, h, cs, sl)]) none
    | _ => none
  | _ => none
end
section
/-! THE ENGINE, 4: the run of a method, with the calls in it. -/
/-- a method: its instructions by 32s of places, its locals, the cells and slots that it may make, what it hands back (0 nothing, 1 int, 2 boolean, 3 long, 4 a cell), how many arguments -/
abbrev eM : Type := List (List eN) × Nat × Nat × Nat × Nat × Nat
def eFind (ch : List eN) (pc : Nat) : Option eN := match ch with
  | [] => none
  | q :: ch => cond (Nat.beq q.1 pc) (some q) (eFind ch pc)
def eAt (code : List (List eN)) (pc : Nat) : Option eN := match code[pc / 32]? with
  | some ch => eFind ch pc
  | none => none
def eArgs (i : Nat) (vs : List eV) : eL := match vs with
  | [] => []
  | v :: vs => (i, v) :: eArgs (cond (Nat.beq (eCat v) 2) (i + 2) (i + 1)) vs
def eCats (vs : List eV) : Nat := match vs with
  | [] => 0
  | v :: vs => eCat v + eCats vs
def eMn (sr : List (Int × Int)) (a b : eI) : eI := (0, eMin (eRg sr a).1 (eRg sr b).1, eMin (eRg sr a).2 (eRg sr b).2)
def eMx (sr : List (Int × Int)) (a b : eI) : eI := (0, eMax (eRg sr a).1 (eRg sr b).1, eMax (eRg sr a).2 (eRg sr b).2)
def eJoin (sr : List (Int × Int)) (es : List eV) (q : Int × Int) : Option (Int × Int) := match es with
  | [] => some q
  | .inl v :: es => eJoin sr es (eMin q.1 (eRg sr v).1, eMax q.2 (eRg sr v).2)
  | _ :: _ => none
def eCopy (sr : List (Int × Int)) (h : eH) (k0 sp k1 dp n : Nat) : Option eH := match h[k0]?, h[k1]? with
  | some (.inr (t0, n0, c0)), some (.inr (t1, n1, c1)) => cond (Nat.beq t0 0 && Nat.beq t1 0 && !(Nat.beq k0 k1) && Nat.ble (sp + n) n0 && Nat.ble (dp + n) n1) (match c0, c1 with
    | .inl e0, .inl e1 => some (h.set k1 (.inr (t1, n1, .inl (e1.take dp ++ ((e0.drop sp).take n ++ e1.drop (dp + n))))))
    | .inl e0, .inr q => match eJoin sr e0 q with
      | some q' => some (h.set k1 (.inr (t1, n1, .inr q')))
      | none => none
    | .inr q0, .inr q1 => some (h.set k1 (.inr (t1, n1, .inr (eMin q0.1 q1.1, eMax q0.2 q1.2))))
    | .inr _, .inl _ => none) none
  | _, _ => none
/-- what the machine has rows of its own for: Object's start, Math.min, Math.max, arraycopy -/
def eBlt (sr : List (Int × Int)) (kd : Nat) (h : eH) (st : List eV) : Option (List eV × eH) := match kd with
  | 6 => match st with
    | .inr (.inl (some _)) :: r => cond (Nat.ble (eCats r) 8) (some (r, h)) none
    | _ => none
  | 7 => match eTwo st with
    | some (x, y, r) => cond (Nat.ble (eCats r) 8) (some (.inl (eMn sr x y) :: r, h)) none
    | none => none
  | 8 => match eTwo st with
    | some (x, y, r) => cond (Nat.ble (eCats r) 8) (some (.inl (eMx sr x y) :: r, h)) none
    | none => none
  | 9 => match st with
    | .inl n :: .inl dp :: .inr (.inl (some k1)) :: .inl sp :: .inr (.inl (some k0)) :: r => cond (Nat.ble (eCats r) 8) (match eOne n, eOne dp, eOne sp with
      | some n, some dp, some sp => cond (eLe 0 n.toInt && eLe 0 dp.toInt && eLe 0 sp.toInt) (match eCopy sr h k0 sp.toNatClampNeg k1 dp.toNatClampNeg n.toNatClampNeg with
        | some h' => some (r, h')
        | none => none) none
      | _, _, _ => none) none
    | _ => none
  | _ => none
def eColl {α : Type} (f : α → Option (List eS)) (xs : List α) : Option (List eS) := match xs with
  | [] => some []
  | x :: xs => match f x with
    | none => none
    | some a => match eColl f xs with
      | none => none
      | some b => some (a ++ b)
/-- what a method that stands at its return hands back: nothing, or a value -/
def eRet (M : eM) (f : eS) : Option (Option eV) := cond (Nat.ble f.2.2.2.2.1 M.2.2.1 && Nat.ble f.2.2.2.2.2 M.2.2.2.1) (match eAt M.1 f.1 with
  | some en => match M.2.2.2.2.1, en.2.1, f.2.2.1 with
    | 0, .return_, [] => some none
    | 1, .ireturn, [.inl q] => some (some (.inl q))
    | 2, .ireturn, [.inl q] => cond (eOne q == some 0 || eOne q == some 1) (some (some (.inl q))) none
    | 3, .lreturn, [.inr (.inr u)] => some (some (.inr (.inr u)))
    | 4, .areturn, [.inr (.inl (some k))] => some (some (.inr (.inl (some k))))
    | _, _, _ => none
  | none => none) none
def eOuts (N : eM) (fs : List eS) : Option (List (Option eV × eH)) := match fs with
  | [] => some []
  | f :: fs => match eRet N f with
    | none => none
    | some v => match eOuts N fs with
      | none => none
      | some os => some ((v, f.2.2.2.1) :: os)
/-- the arguments out of the stack: how many, with the one that is called upon or without -/
def ePop (st : List eV) (np : Nat) (kd : Nat) : Option (List eV × List eV) := match kd with
  | 1 | 4 => cond (Nat.ble np st.length) (some ((st.take np).reverse, st.drop np)) none
  | _ => match st[np]? with
    | some (.inr (.inl (some k))) => some (.inr (.inl (some k)) :: (st.take np).reverse, st.drop (np + 1))
    | _ => none
def eGrid (b n k : Nat) : eH := .inr (4, n, .inl ((List.range n).map (fun j => .inr (.inl (some (b + 1 + j)))))) :: List.replicate n (.inr (0, k, .inl (List.replicate k eZero)))
/-- a new row of rows of ints -/
def eMul (Rc Rs : Nat) (st : List eV) (h : eH) (cs sl : Nat) : Option (List eV × eH × Nat × Nat) := match st with
  | .inl qk :: .inl qn :: r => match eOne qk, eOne qn with
    | some k, some n => cond (eLe 0 k.toInt && eLe 0 n.toInt && Nat.ble k.toNatClampNeg 410 && Nat.ble n.toNatClampNeg 410 && Nat.ble (cs + (1 + n.toNatClampNeg)) Rc && Nat.ble (sl + (n.toNatClampNeg + n.toNatClampNeg * k.toNatClampNeg)) Rs)
      (some (.inr (.inl (some h.length)) :: r, h ++ eGrid h.length n.toNatClampNeg k.toNatClampNeg, cs + 1 + n.toNatClampNeg, sl + n.toNatClampNeg + n.toNatClampNeg * k.toNatClampNeg)) none
    | _, _ => none
  | _ => none
/-- what is called upon is of the class that the call selects -/
def eRcv (h : eH) (kd d0 : Nat) (as : List eV) : Bool := match kd with
  | 0 => match as with
    | .inr (.inl (some k)) :: _ => match h[k]? with
      | some (.inl o) => Nat.beq o.1 d0
      | _ => false
    | _ => false
  | _ => true
/-- a call; 'orc': calls that are known already -/
def eInv (sr : List (Int × Int)) (ms : List eM) (orc : Nat → Nat → List eV → eH → Option (List (Option eV × eH))) (ih : Nat → Nat → List Nat → eS → Option (List eS)) (d y : Nat) (stop : List Nat) (S : eS) (kd b d0 : Nat) (M : eM) : Option (List eS) :=
  match d with
  | 0 => none
  | d' + 1 => cond (Nat.ble 6 kd)
    (match eBlt sr kd S.2.2.2.1 S.2.2.1 with
      | some (st', h') => cond (Nat.ble S.2.2.2.2.1 M.2.2.1 && Nat.ble S.2.2.2.2.2 M.2.2.2.1) (cond (stop.elem (S.1 + 3)) (some [(S.1 + 3, S.2.1, st', h', S.2.2.2.2.1, S.2.2.2.2.2)]) (ih (d' + 1) y stop (S.1 + 3, S.2.1, st', h', S.2.2.2.2.1, S.2.2.2.2.2))) none
      | none => none)
    (match ms[b]? with
      | none => none
      | some N => match ePop S.2.2.1 N.2.2.2.2.2 kd with
        | none => none
        | some (as, r) => cond (Nat.ble (eCats r) 8 && Nat.ble (S.2.2.2.2.1 + N.2.2.1) M.2.2.1 && Nat.ble (S.2.2.2.2.2 + N.2.2.2.1) M.2.2.2.1 && Nat.ble (eCats as) N.2.1 && eRcv S.2.2.2.1 kd d0 as)
          (match (match orc d' b as S.2.2.2.1 with
              | some os => some os
              | none => match ih d' b [] (0, eArgs 0 as, [], S.2.2.2.1, 0, 0) with
                | none => none
                | some fs => eOuts N fs) with
            | none => none
            | some os => eColl (fun o : Option eV × eH => cond (stop.elem (S.1 + 3)) (some [(S.1 + 3, S.2.1, o.1.toList ++ r, o.2, S.2.2.2.2.1 + N.2.2.1, S.2.2.2.2.2 + N.2.2.2.1)]) (ih (d' + 1) y stop (S.1 + 3, S.2.1, o.1.toList ++ r, o.2, S.2.2.2.2.1 + N.2.2.1, S.2.2.2.2.2 + N.2.2.2.1))) os)
          none)
def eBody (sr : List (Int × Int)) (dfs : List (List eV)) (ms : List eM) (orc : Nat → Nat → List eV → eH → Option (List (Option eV × eH))) (ih : Nat → Nat → List Nat → eS → Option (List eS)) (d y : Nat) (stop : List Nat) (S : eS) : Option (List eS) := match ms[y]? with
  | none => none
  | some M => match eAt M.1 S.1 with
    | none => none
    | some en => match en.2.1 with
      | .ireturn => some [S]
      | .return_ => some [S]
      | .lreturn => some [S]
      | .areturn => some [S]
      | .invokevirtual _ => eInv sr ms orc ih d y stop S en.2.2.2.1 en.2.2.2.2.1 en.2.2.2.2.2.2 M
      | .invokestatic _ => eInv sr ms orc ih d y stop S en.2.2.2.1 en.2.2.2.2.1 en.2.2.2.2.2.2 M
      | .invokespecial _ => eInv sr ms orc ih d y stop S en.2.2.2.1 en.2.2.2.2.1 en.2.2.2.2.2.2 M
      | .multianewarray _ _ => match eMul M.2.2.1 M.2.2.2.1 S.2.2.1 S.2.2.2.1 S.2.2.2.2.1 S.2.2.2.2.2 with
        | none => none
        | some (st', h', cs', sl') => cond (stop.elem (S.1 + 4)) (some [(S.1 + 4, S.2.1, st', h', cs', sl')]) (ih d y stop (S.1 + 4, S.2.1, st', h', cs', sl'))
      | i => match eStep sr dfs M.2.2.1 M.2.2.2.1 M.2.1 i en.2.2.2.1 en.2.2.2.2.1 en.2.2.2.2.2.2 S.1 S.2.1 S.2.2.1 S.2.2.2.1 S.2.2.2.2.1 S.2.2.2.2.2 with
        | none => none
        | some outs => eColl (fun S' => cond (stop.elem S'.1) (some [S']) (ih d y stop S')) outs
def eExec (sr : List (Int × Int)) (dfs : List (List eV)) (ms : List eM) (orc : Nat → Nat → List eV → eH → Option (List (Option eV × eH))) (fuel : Nat) : Nat → Nat → List Nat → eS → Option (List eS) :=
  Nat.rec (fun _ _ _ _ => none) (fun _ ih => eBody sr dfs ms orc ih) fuel
end
section
/-! THE ENGINE, 5: what its reckonings say of the cells. -/
theorem eCond {α : Type} {b : Bool} {x : Option α} {y : α} (h : cond b x none = some y) : b = true ∧ x = some y := by
  cases b with
  | true => exact ⟨rfl, h⟩
  | false => cases h
def eHolds (k : Jvm.ClassFile.Cond) (x y : Int32) : Prop := match k with
  | .eq => x = y
  | .ne => ¬ x = y
  | .lt => x < y
  | .ge => y ≤ x
  | .gt => y < x
  | .le => x ≤ y
theorem eNotMap {o : Option Bool} {r : Bool} (h : o.map (!·) = some r) : o = some (!r) := by
  cases o with
  | none => cases h
  | some b => cases h; simp
theorem eCmp_ok {sr : List (Int × Int)} {σ : Nat → Int} (hs : eSg sr σ) {k : Jvm.ClassFile.Cond} {a b : eI} {x y : Int32} (ha : eIn σ a x) (hb : eIn σ b y) {r : Bool} (h : eCmp sr k a b = some r) : eHolds k x y ↔ r = true := by
  cases k with
  | eq => exact iff_of_eq (eEq_ok hs ha hb h)
  | ne =>
    have h1 := eEq_ok hs ha hb (eNotMap h)
    show ¬ x = y ↔ _
    rw [h1]
    cases r <;> simp
  | lt => exact iff_of_eq (eLt_ok hs ha hb h)
  | ge =>
    have h1 := eLt_ok hs ha hb (eNotMap h)
    show y ≤ x ↔ _
    rw [← Int32.not_lt, h1]
    cases r <;> simp
  | gt => exact iff_of_eq (eLt_ok hs hb ha h)
  | le =>
    have h1 := eLt_ok hs hb ha (eNotMap h)
    show x ≤ y ↔ _
    rw [← Int32.not_lt, h1]
    cases r <;> simp
theorem eBr_yes {sr : List (Int × Int)} {σ : Nat → Int} (hs : eSg sr σ) {k : Jvm.ClassFile.Cond} {a b : eI} {x y : Int32} (ha : eIn σ a x) (hb : eIn σ b y) {S1 S2 : eS} {outs : List eS} (h : eBr (eCmp sr k a b) S1 S2 = some outs) (hq : eHolds k x y) : S1 ∈ outs := by
  cases hc : eCmp sr k a b with
  | none => rw [hc] at h; cases h; exact List.mem_cons_self
  | some r =>
    have := (eCmp_ok hs ha hb hc).mp hq
    subst this
    rw [hc] at h
    cases h
    exact List.mem_cons_self
theorem eBr_no {sr : List (Int × Int)} {σ : Nat → Int} (hs : eSg sr σ) {k : Jvm.ClassFile.Cond} {a b : eI} {x y : Int32} (ha : eIn σ a x) (hb : eIn σ b y) {S1 S2 : eS} {outs : List eS} (h : eBr (eCmp sr k a b) S1 S2 = some outs) (hq : ¬ eHolds k x y) : S2 ∈ outs := by
  cases hc : eCmp sr k a b with
  | none => rw [hc] at h; cases h; exact List.mem_cons_of_mem _ List.mem_cons_self
  | some r =>
    have hr : r = false := by
      cases r with
      | false => rfl
      | true => exact absurd ((eCmp_ok hs ha hb hc).mpr rfl) hq
    subst hr
    rw [hc] at h
    cases h
    exact List.mem_cons_self
section ELM
variable {ad : List Nat} {σ : Nat → Int} {tys : List (ClassId × FieldType)} {h h' : eH} {ws : va_W} {sr : List (Int × Int)}
theorem eAd_set {k q : Nat} {e0 e1 : va_E} (hk : ws[k]? = some (q, e0)) : (ws.set k (q, e1)).map Prod.fst = ws.map Prod.fst := by
  rw [List.map_set]
  apply List.ext_getElem?
  intro j
  by_cases hj : k = j
  · subst hj
    have hlt : k < (ws.map Prod.fst).length := by rw [List.length_map]; exact (List.getElem?_eq_some_iff.mp hk).1
    rw [List.getElem?_set_self hlt, List.getElem?_map, hk]
    rfl
  · rw [List.getElem?_set_ne hj]
theorem eAd_at {k q a : Nat} {e0 : va_E} (hk : ws[k]? = some (q, e0)) (ha : (ws.map Prod.fst)[k]? = some a) : a = q := by
  rw [List.getElem?_map, hk] at ha
  exact (Option.some.inj ha).symm
theorem eFld_ok {k a b : Nat} {v : eV} (hf : eFld h k a b = some v) (hh : eAll (eCk ad σ tys) h ws) : ∃ (q : Nat) (vs : List Value) (w : Value), ws[k]? = some (q, .inr (a, vs)) ∧ vs[b]? = some w ∧ eOk ad σ v w := by
  unfold eFld at hf
  split at hf
  · rename_i o ho
    obtain ⟨hc, hg⟩ := eCond hf
    clear hf
    have hc := Nat.eq_of_beq_eq_true hc
    obtain ⟨⟨q, e⟩, h1, vs, h2, h3⟩ := eAll_get hh ho
    obtain ⟨w, h4, h5⟩ := eAll_get h3 hg
    have h2 : e = .inr (o.1, vs) := h2
    subst h2
    rw [hc] at h1
    exact ⟨q, vs, w, h1, h4, h5⟩
  · cases hf
theorem eSetF_ok {k a b : Nat} {v : eV} {w : Value} (hf : eSetF h k a b v = some h') (hh : eAll (eCk ad σ tys) h ws) (hv : eOk ad σ v w) : ∃ (q : Nat) (vs : List Value), ws[k]? = some (q, .inr (a, vs)) ∧ b < vs.length ∧ eAll (eCk ad σ tys) h' (ws.set k (q, .inr (a, vs.set b w))) := by
  unfold eSetF at hf
  split at hf
  · rename_i o ho
    obtain ⟨hc, hg⟩ := eCond hf
    clear hf
    rw [Bool.and_eq_true] at hc
    have h9 := Nat.eq_of_beq_eq_true hc.1
    have hb : b < o.2.length := Nat.le_of_ble_eq_true hc.2
    obtain ⟨⟨q, e⟩, h1, vs, h2, h3⟩ := eAll_get hh ho
    have h2 : e = .inr (o.1, vs) := h2
    subst h2
    cases hg
    subst h9
    rw [eAll_len h3] at hb
    exact ⟨q, vs, h1, hb, eAll_set hh k ⟨vs.set b w, rfl, eAll_set h3 b hv⟩⟩
  · cases hf
theorem eIx_ok (hs : eSg sr σ) {q : eI} {n : Nat} {x : Int32} (hx : eIn σ q x) (h : eIx sr q n = true) : vp_in x n ∧ x.toNatClampNeg < n := by
  unfold eIx at h
  rw [Bool.and_eq_true] at h
  have h1 := eLe_ok h.1
  have h2 := eLe_ok h.2
  have h3 := eRg_ok hs hx
  have h4 : vp_in x n := vp_in_iff.mpr ⟨by omega, by omega⟩
  exact ⟨h4, Nat.not_le.mp fun q => h4 (Or.inr q)⟩
theorem eAr_int {k n : Nat} {c : List eV ⊕ (Int × Int)} {cA : ClassId} {e : va_E} (hk : k = 0 ∨ k = 1 ∨ k = 2) (h : eAr ad σ k n c cA e) : ∃ f : Nat → Int32, e = .inl (cA, n, .inl f) ∧ eCt ad σ n f c := by
  rcases hk with rfl | rfl | rfl <;> exact h
theorem eInt_ar {k n : Nat} {c : List eV ⊕ (Int × Int)} {cA : ClassId} {f : Nat → Int32} (hk : k = 0 ∨ k = 1 ∨ k = 2) (h : eCt ad σ n f c) : eAr ad σ k n c cA (.inl (cA, n, .inl f)) := by
  rcases hk with rfl | rfl | rfl <;> exact ⟨f, rfl, h⟩
theorem eALd1_ok (h0 : σ 0 = 0) {n : Nat} {q v : eI} {x : Int32} {f : Nat → Int32} {c : List eV ⊕ (Int × Int)} (hf : eALd1 q c = some v) (hx : eIn σ q x) (h5 : eCt ad σ n f c) (hlt : x.toNatClampNeg < n) : eIn σ v (f x.toNatClampNeg) := by
  cases c with
  | inr r =>
    cases hf
    have := h5 _ hlt
    exact eIn_mk (by rw [h0]; omega) (by rw [h0]; omega)
  | inl es =>
    unfold eALd1 at hf
    simp only at hf
    split at hf
    · rename_i y hy
      have := eOne_ok h0 hx hy
      subst this
      obtain ⟨v', g1, g2⟩ := h5 _ hlt
      rw [g1] at hf
      match v', hf, g2 with
      | .inl v', hf, ⟨z, hz, g2⟩ =>
        cases hf
        cases hz
        exact g2
    · cases hf
      exact eTop_ok h0 _
theorem eALd_ok (hs : eSg sr σ) {k kd : Nat} {q v : eI} {x : Int32} (hk : kd = 0 ∨ kd = 1 ∨ kd = 2) (hf : eALd sr h k q kd = some v) (hh : eAll (eCk ad σ tys) h ws) (hx : eIn σ q x) : ∃ (a : Nat) (cA : ClassId) (t0 n : Nat) (f : Nat → Int32), ws[k]? = some (a, .inl (cA, n, .inl f)) ∧ tys[t0]? = some (cA, eTy kd) ∧ vp_in x n ∧ eIn σ v (f x.toNatClampNeg) := by
  unfold eALd at hf
  split at hf
  · rename_i t n c ho
    obtain ⟨hc, hg⟩ := eCond hf
    clear hf
    rw [Bool.and_eq_true] at hc
    have ht := Nat.eq_of_beq_eq_true hc.1
    subst ht
    obtain ⟨hin, hlt⟩ := eIx_ok hs hx hc.2
    obtain ⟨⟨a, e⟩, h1, cA, t0, h2, -, h3⟩ := eAll_get hh ho
    obtain ⟨f, h4, h5⟩ := eAr_int hk h3
    have h4 : e = .inl (cA, n, .inl f) := h4
    subst h4
    exact ⟨a, cA, t0, n, f, h1, h2, hin, eALd1_ok hs.1 hg hx h5 hlt⟩
  · cases hf
theorem eMin_ok (a b : Int) : eMin a b ≤ a ∧ eMin a b ≤ b := by
  unfold eMin
  cases hc : eLe a b with
  | true => have := eLe_ok hc; exact ⟨Int.le_refl _, this⟩
  | false => have := eLe_no hc; exact ⟨by show b ≤ a; omega, Int.le_refl _⟩
theorem eMax_ok (a b : Int) : a ≤ eMax a b ∧ b ≤ eMax a b := by
  unfold eMax
  cases hc : eLe a b with
  | true => have := eLe_ok hc; exact ⟨this, Int.le_refl _⟩
  | false => have := eLe_no hc; exact ⟨Int.le_refl _, by show b ≤ a; omega⟩
theorem eASt1_ok (hs : eSg sr σ) {n : Nat} {q v : eI} {x z : Int32} {f : Nat → Int32} {c c' : List eV ⊕ (Int × Int)} (hf : eASt1 sr q v c = some c') (hx : eIn σ q x) (hz : eIn σ v z) (h5 : eCt ad σ n f c) : eCt ad σ n (upd f x.toNatClampNeg z) c' := by
  cases c with
  | inr r =>
    cases hf
    have hr := eRg_ok hs hz
    intro j hj
    have h6 := h5 j hj
    have m1 := eMin_ok r.1 (eRg sr v).1
    have m2 := eMax_ok r.2 (eRg sr v).2
    show eMin r.1 (eRg sr v).1 ≤ _ ∧ _ ≤ eMax r.2 (eRg sr v).2
    unfold upd
    split
    · exact ⟨by omega, by omega⟩
    · exact ⟨by omega, by omega⟩
  | inl es =>
    unfold eASt1 at hf
    simp only at hf
    split at hf
    · rename_i y hy
      have := eOne_ok hs.1 hx hy
      subst this
      cases hf
      intro j hj
      obtain ⟨v0, g1, g2⟩ := h5 j hj
      by_cases hq : x.toNatClampNeg = j
      · refine ⟨.inl v, ?_, z, ?_, hz⟩
        · rw [← hq, List.getElem?_set_self (by rw [hq]; exact (List.getElem?_eq_some_iff.mp g1).1)]
        · simp [upd, hq]
      · refine ⟨v0, by rw [List.getElem?_set_ne hq]; exact g1, ?_⟩
        have : upd f x.toNatClampNeg z j = f j := by simp [upd, Ne.symm hq]
        rw [this]
        exact g2
    · cases hf
theorem eASt_ok (hs : eSg sr σ) {k kd : Nat} {q v : eI} {x z : Int32} (hk : kd = 0 ∨ kd = 1 ∨ kd = 2) (hf : eASt sr h k q v kd = some h') (hh : eAll (eCk ad σ tys) h ws) (hx : eIn σ q x) (hz : eIn σ v z) : ∃ (a : Nat) (cA : ClassId) (t0 n : Nat) (f : Nat → Int32), ws[k]? = some (a, .inl (cA, n, .inl f)) ∧ tys[t0]? = some (cA, eTy kd) ∧ vp_in x n ∧ eAll (eCk ad σ tys) h' (ws.set k (a, .inl (cA, n, .inl (upd f x.toNatClampNeg z)))) := by
  unfold eASt at hf
  split at hf
  · rename_i t n c ho
    split at hf
    · rename_i c' hc'
      obtain ⟨hc, hg⟩ := eCond hf
      clear hf
      rw [Bool.and_eq_true] at hc
      have ht := Nat.eq_of_beq_eq_true hc.1
      subst ht
      obtain ⟨hin, hlt⟩ := eIx_ok hs hx hc.2
      obtain ⟨⟨a, e⟩, h1, cA, t0, h2, hN, h3⟩ := eAll_get hh ho
      obtain ⟨f, h4, h5⟩ := eAr_int hk h3
      have h4 : e = .inl (cA, n, .inl f) := h4
      subst h4
      cases hg
      exact ⟨a, cA, t0, n, f, h1, h2, hin, eAll_set hh k ⟨cA, t0, h2, hN, eInt_ar hk (eASt1_ok hs hc' hx hz h5)⟩⟩
    · cases hf
  · cases hf
theorem eBSt_ok (hs : eSg sr σ) {k : Nat} {q : eI} {x : Int32} (hf : eBSt sr h k q = true) (hh : eAll (eCk ad σ tys) h ws) (hx : eIn σ q x) (z : Int32) : ∃ (a : Nat) (cA : ClassId) (t0 n : Nat) (f : Nat → Int32), ws[k]? = some (a, .inl (cA, n, .inl f)) ∧ tys[t0]? = some (cA, .byte) ∧ vp_in x n ∧ eAll (eCk ad σ tys) h (ws.set k (a, .inl (cA, n, .inl (upd f x.toNatClampNeg (vp_nar .byte z))))) := by
  unfold eBSt at hf
  split at hf
  · rename_i t n r ho
    simp only [Bool.and_eq_true] at hf
    obtain ⟨⟨⟨hf1, hf2⟩, hf3⟩, hf4⟩ := hf
    have ht := Nat.eq_of_beq_eq_true hf1
    subst ht
    obtain ⟨hin, hlt⟩ := eIx_ok hs hx hf2
    have l3 := eLe_ok hf3
    have l4 := eLe_ok hf4
    obtain ⟨⟨a, e⟩, h1, cA, t0, h2, hN, h3⟩ := eAll_get hh ho
    obtain ⟨f, h4, h5⟩ := eAr_int (Or.inr (Or.inl rfl)) h3
    have h4 : e = .inl (cA, n, .inl f) := h4
    subst h4
    refine ⟨a, cA, t0, n, f, h1, h2, hin, ?_⟩
    have e1 : h.set k (.inr (1, n, .inr r)) = h := by
      apply List.ext_getElem?
      intro j
      by_cases hj : k = j
      · subst hj
        rw [List.getElem?_set_self (List.getElem?_eq_some_iff.mp ho).1, ho]
      · rw [List.getElem?_set_ne hj]
    rw [← e1]
    refine eAll_set hh k ⟨cA, t0, h2, hN, eInt_ar (Or.inr (Or.inl rfl)) ?_⟩
    intro j hj
    have h6 := h5 j hj
    unfold upd
    split
    · rw [vp_nar_byte]
      have b1 : -128 ≤ z.toInt8.toInt32.toInt := by rw [Int8.toInt_toInt32]; have := Int8.le_toInt z.toInt8; omega
      have b2 : z.toInt8.toInt32.toInt ≤ 127 := by rw [Int8.toInt_toInt32]; have := Int8.toInt_lt z.toInt8; omega
      exact ⟨by omega, by omega⟩
    · exact h6
  · cases hf
theorem eLng_ok (hs : eSg sr σ) {k : Nat} {q : eI} {x : Int32} (hf : eLng sr h k q = true) (hh : eAll (eCk ad σ tys) h ws) (hx : eIn σ q x) (z : Int64) : ∃ (a : Nat) (cA : ClassId) (t0 n : Nat) (f : Nat → Int64), ws[k]? = some (a, .inl (cA, n, .inr (.inl f))) ∧ tys[t0]? = some (cA, .long) ∧ vp_in x n ∧ eAll (eCk ad σ tys) h (ws.set k (a, .inl (cA, n, .inr (.inl (vp_updL f x.toNatClampNeg z))))) := by
  unfold eLng at hf
  split at hf
  · rename_i t n r ho
    simp only [Bool.and_eq_true] at hf
    have ht := Nat.eq_of_beq_eq_true hf.1
    subst ht
    obtain ⟨hin, hlt⟩ := eIx_ok hs hx hf.2
    obtain ⟨⟨a, e⟩, h1, cA, t0, h2, hN, f, h4⟩ := eAll_get hh ho
    have h4 : e = .inl (cA, n, .inr (.inl f)) := h4
    subst h4
    refine ⟨a, cA, t0, n, f, h1, h2, hin, ?_⟩
    have e1 : h.set k (.inr (3, n, r)) = h := by
      apply List.ext_getElem?
      intro j
      by_cases hj : k = j
      · subst hj
        rw [List.getElem?_set_self (List.getElem?_eq_some_iff.mp ho).1, ho]
      · rw [List.getElem?_set_ne hj]
    rw [← e1]
    exact eAll_set hh k ⟨cA, t0, h2, hN, vp_updL f x.toNatClampNeg z, rfl⟩
  · cases hf
theorem eRow_ok (hs : eSg sr σ) {k : Nat} {q : eI} {v : eV} {x : Int32} (hf : eRow sr h k q = some v) (hh : eAll (eCk ad σ tys) h ws) (hx : eIn σ q x) : ∃ (a : Nat) (cA : ClassId) (t0 n : Nat) (f : Nat → Option Nat), ws[k]? = some (a, .inl (cA, n, .inr (.inr (.inr (.inr f))))) ∧ tys[t0]? = some (cA, .array .int) ∧ vp_in x n ∧ eOk ad σ v (va_rf (f x.toNatClampNeg)) := by
  unfold eRow at hf
  split at hf
  · rename_i t n es ho
    split at hf
    · rename_i y hy
      obtain ⟨hc, hg⟩ := eCond hf
      clear hf
      rw [Bool.and_eq_true] at hc
      have ht := Nat.eq_of_beq_eq_true hc.1
      subst ht
      obtain ⟨hin, hlt⟩ := eIx_ok hs hx hc.2
      obtain ⟨⟨a, e⟩, h1, cA, t0, h2, hN, f, h4, h5⟩ := eAll_get hh ho
      have h4 : e = .inl (cA, n, .inr (.inr (.inr (.inr f)))) := h4
      subst h4
      refine ⟨a, cA, t0, n, f, h1, h2, hin, ?_⟩
      have := eOne_ok hs.1 hx hy
      subst this
      obtain ⟨v', g1, g2⟩ := h5 _ hlt
      rw [g1] at hg
      cases hg
      exact g2
    · cases hf
  · cases hf
end ELM
end
section
/-! THE ENGINE, 5: one step is right. -/
/-- what holds of a place: the world, the locals, the stack -/
def eCn (D : va_G) (cl : List vw_C) (A : Nat → Prop) (H0 : Heap) (s : State) (σ : Nat → Int) (nL : Nat) (ad0 : List Nat) (S : eS) (H : Heap) (locs : List Loc) (ws : va_W) (tys : List (ClassId × FieldType)) (ls : Array Slot) (lv : List (Nat × Value)) (stk : List Value) : Prop :=
  va_K D cl tys s ∧ va_P D cl ws H ∧ va_D A ws ∧ va_S A H0 H locs ∧ (∃ t, ws.map Prod.fst = ad0 ++ t) ∧ eAll (eCk (ws.map Prod.fst) σ tys) S.2.2.2.1 ws ∧ lv_has ls nL lv ∧ eAll (eLo (ws.map Prod.fst) σ) S.2.1 lv ∧ eAll (eOk (ws.map Prod.fst) σ) S.2.2.1 stk
/-- what an instruction's links come to -/
def eLk (cl : List vw_C) (Ts : List Cond) (own : String) (init : Bool) (i : Instr) (pc a b d : Nat) : Prop := match i with
  | .getfield idx => ∃ (C : String) (T : u_T) (N : Nat), cl[a]? = some (C, T, N) ∧ b < N ∧ Cond.fieldLink own idx (T b).1 (T b).2.1 (T b).2.2.1 ∈ Ts
  | .putfield idx => ∃ (C : String) (T : u_T) (N : Nat), cl[a]? = some (C, T, N) ∧ b < N ∧ Cond.fieldLink own idx (T b).1 (T b).2.1 (T b).2.2.1 ∈ Ts ∧ ((T b).2.2.2 = false ∨ (init = true ∧ (T b).1 = own)) ∧ (d = 0 → parseFieldDescriptor (T b).2.2.1 = some .int) ∧ (d = 2 → parseFieldDescriptor (T b).2.2.1 = some .boolean) ∧ (d = 5 → ∃ ty, parseFieldDescriptor (T b).2.2.1 = some ty ∧ ((∃ n, ty = .object n) ∨ ∃ t, ty = .array t))
  | .ldc idx => Cond.constant own idx (Int32.ofNat a) ∈ Ts
  | .ldc_w idx => Cond.constant own idx (Int32.ofNat a) ∈ Ts
  | .ldc2_w idx => ∃ v : Int64, Cond.constantLong own idx v ∈ Ts
  | .newarray t => Cond.arrayClass (newarray.typeOf t) ∈ Ts ∧ newarray.typeOf t = eTy a
  | .new idx => ∃ (C : String) (T : u_T) (N : Nat), cl[a]? = some (C, T, N) ∧ Cond.classLink own idx C ∈ Ts ∧ Cond.instantiable C N ∈ Ts ∧ Cond.initialized C ∈ Ts
  | .goto off => (pc : Int) + off = (a : Int)
  | .ifCond _ off => (pc : Int) + off = (a : Int)
  | .if_icmp _ off => (pc : Int) + off = (a : Int)
  | .ifnull off => (pc : Int) + off = (a : Int)
  | .ifnonnull off => (pc : Int) + off = (a : Int)
  | _ => True
/-- what is known of the classes -/
def eKl (cl : List vw_C) (Ts : List Cond) (dfs : List (List eV)) : Prop := ∀ (ci : Nat) (C : String) (T : u_T) (N : Nat), cl[ci]? = some (C, T, N) → (∀ w ∈ u_ws C T N, w ∈ Ts) ∧ ∃ ty : Nat → FieldType, (∀ k, k < N → parseFieldDescriptor (T k).2.2.1 = some (ty k)) ∧ (∀ a, a < N → ∀ b, b < N → a ≠ b → (T a).2.1 ≠ (T b).2.1) ∧ ∀ fs, dfs[ci]? = some fs → fs.length = N ∧ ∃ vs : List Value, (∀ (ad : List Nat) (σ : Nat → Int), σ 0 = 0 → eAll (eOk ad σ) fs vs) ∧ ∀ j, j < N → defaultValue (ty j) = vp_V vs j
section ESO
variable {p : Program} {l0 : Launch} {e : Env} {R : Room} {s : State} {m : MethodId} {args : Array Value} {below : List Frame} {meth : Method} {c : Code} {Q : State → Prop}
variable {cc : ByteArray} {own : String} {Ts : List Cond} {cl : List vw_C} {dfs : List (List eV)} {init : Bool} {sr : List (Int × Int)} {σ : Nat → Int} {D : va_G} {A : Nat → Prop} {H0 : Heap} {ad0 : List Nat} {nL Rc Rs : Nat}
theorem eTwo_ok {ad : List Nat} {st r : List eV} {a b : eI} {w : List Value} (h : eTwo st = some (a, b, r)) (hw : eAll (eOk ad σ) st w) : ∃ (x y : Int32) (r' : List Value), w = .int y :: .int x :: r' ∧ eIn σ a x ∧ eIn σ b y ∧ eAll (eOk ad σ) r r' := by
  match st, h with
  | .inl b' :: .inl a' :: r', h =>
    cases h
    obtain ⟨w1, ws1, rfl, ⟨y, rfl, hy⟩, h2⟩ := eAll_cons hw
    obtain ⟨w2, ws2, rfl, ⟨x, rfl, hx⟩, h3⟩ := eAll_cons h2
    exact ⟨x, y, ws2, rfl, hx, hy, h3⟩
theorem eGet_at {ad : List Nat} {l : eL} {lv : List (Nat × Value)} {ls : Array Slot} {i : Nat} {v : eV} (hl : lv_has ls nL lv) (h : eAll (eLo ad σ) l lv) (hg : eGet l i = some v) : ∃ w, ls[i]? = some (.val w) ∧ eOk ad σ v w ∧ ∃ k : Nat, lv[k]? = some (i, w) := by
  obtain ⟨w, h1, h2⟩ := eGet_ok h hg
  exact ⟨w, hl.2.2 _ h1, h2, List.getElem?_of_mem h1⟩
theorem eCn_set {k q pc cs sl : Nat} {e0 e1 : va_E} {H1 : Heap} {locs1 : List Loc} {ws : va_W} {tys : List (ClassId × FieldType)} {ls : Array Slot} {lv : List (Nat × Value)} {stk : List Value} {l : eL} {st : List eV} {h' : eH} (hK : va_K D cl tys s) (he : ws[k]? = some (q, e0)) (hP : va_P D cl (ws.set k (q, e1)) H1) (hD : va_D A (ws.set k (q, e1))) (hS : va_S A H0 H1 locs1) (hpre : ∃ t, ws.map Prod.fst = ad0 ++ t) (hh : eAll (eCk (ws.map Prod.fst) σ tys) h' (ws.set k (q, e1))) (hl : lv_has ls nL lv) (hlv : eAll (eLo (ws.map Prod.fst) σ) l lv) (hsk : eAll (eOk (ws.map Prod.fst) σ) st stk) : eCn D cl A H0 s σ nL ad0 (pc, l, st, h', cs, sl) H1 locs1 (ws.set k (q, e1)) tys ls lv stk := by
  have e := eAd_set (e1 := e1) he
  refine ⟨hK, hP, hD, hS, ?_, ?_, hl, ?_, ?_⟩ <;> rw [e] <;> assumption
theorem eCn_app {q pc cs sl : Nat} {e1 : va_E} {cc' : eC} {H1 : Heap} {locs1 : List Loc} {ws : va_W} {tys tys' : List (ClassId × FieldType)} {ls : Array Slot} {lv : List (Nat × Value)} {stk : List Value} {l : eL} {st : List eV} {h : eH} (hK : va_K D cl tys' s) (ht : ∃ t, tys' = tys ++ t) (hP : va_P D cl (ws ++ [(q, e1)]) H1) (hD : va_D A (ws ++ [(q, e1)])) (hS : va_S A H0 H1 locs1) (hpre : ∃ t, ws.map Prod.fst = ad0 ++ t) (hh : eAll (eCk (ws.map Prod.fst) σ tys) h ws) (hc : eCk ((ws ++ [(q, e1)]).map Prod.fst) σ tys' cc' (q, e1)) (hl : lv_has ls nL lv) (hlv : eAll (eLo (ws.map Prod.fst) σ) l lv) (hsk : eAll (eOk (ws.map Prod.fst) σ) st stk) : eCn D cl A H0 s σ nL ad0 (pc, l, .inr (.inl (some h.length)) :: st, h ++ [cc'], cs, sl) H1 locs1 (ws ++ [(q, e1)]) tys' ls lv (.ref q :: stk) := by
  have e : ∃ t, (ws ++ [(q, e1)]).map Prod.fst = ws.map Prod.fst ++ t := ⟨[q], by simp⟩
  refine ⟨hK, hP, hD, hS, ?_, eAll_app (eAll_mono (fun _ _ => eCk_ad e ht) hh) ⟨hc, trivial⟩, hl, eAll_mono (fun _ _ z => ⟨z.1, eOk_ad e z.2⟩) hlv, ⟨q, ?_, rfl⟩, eAll_mono (fun _ _ => eOk_ad e) hsk⟩
  · obtain ⟨t, ht⟩ := hpre
    exact ⟨t ++ [q], by simp [ht]⟩
  · rw [eAll_len hh]
    simp
theorem eNew_ok {a n : Nat} {c' : eC} (h : eNew a n = some c') (hn : n ≤ 60000000) : ∃ a0 : vp_A, (∀ cA : ClassId, vp_cell cA a0 = arrV cA n (fun _ => defaultValue (eTy a))) ∧ n * componentBytes (eTy a) ≤ 536870912 ∧ ∀ (ad : List Nat) (σ : Nat → Int) (tys : List (ClassId × FieldType)) (cA : ClassId) (t0 q : Nat), σ 0 = 0 → tys[t0]? = some (cA, eTy a) → eCk ad σ tys c' (q, .inl (cA, a0)) := by
  have z : ∀ (ad : List Nat) (σ : Nat → Int), σ 0 = 0 → eCt ad σ n (fun _ => 0) (cond (Nat.ble n 410) (.inl (List.replicate n eZero)) (.inr (0, 0))) := by
    intro ad σ h0
    cases Nat.ble n 410 with
    | true => exact fun j hj => ⟨eZero, by simp [hj], 0, rfl, eIn_mk (by rw [h0]; decide) (by rw [h0]; decide)⟩
    | false => exact fun j hj => ⟨by show (0 : Int) ≤ (0 : Int32).toInt; decide, by show (0 : Int32).toInt ≤ (0 : Int); decide⟩
  unfold eNew at h
  split at h
  · cases h
    exact ⟨(n, .inl (fun _ => 0)), fun _ => rfl, by show n * 4 ≤ _; omega, fun ad σ tys cA t0 q h0 ht => ⟨cA, t0, ht, by show n < 2 ^ 31; omega, _, rfl, z ad σ h0⟩⟩
  · cases h
    exact ⟨(n, .inl (fun _ => 0)), fun _ => rfl, by show n * 1 ≤ _; omega, fun ad σ tys cA t0 q h0 ht => ⟨cA, t0, ht, by show n < 2 ^ 31; omega, _, rfl, fun j hj => ⟨by show (-128 : Int) ≤ (0 : Int32).toInt; decide, by show (0 : Int32).toInt ≤ (127 : Int); decide⟩⟩⟩
  · cases h
    exact ⟨(n, .inl (fun _ => 0)), fun _ => rfl, by show n * 1 ≤ _; omega, fun ad σ tys cA t0 q h0 ht => ⟨cA, t0, ht, by show n < 2 ^ 31; omega, _, rfl, z ad σ h0⟩⟩
  · cases h
    exact ⟨(n, .inr (.inl (fun _ => 0))), fun _ => rfl, by show n * 8 ≤ _; omega, fun ad σ tys cA t0 q h0 ht => ⟨cA, t0, ht, by show n < 2 ^ 31; omega, _, rfl⟩⟩
  · cases h
theorem eStF (hx : p.tables.exec = Jvm.exec) (hb : c.code = cc) (hown : s.vm.findClass own = some m.cls) (hts : ∀ w ∈ Ts, w.before args s = true) (hcl : eKl cl Ts dfs) (hin : init = true → meth.name = "<init>")
    {H : Heap} {locs : List Loc} {ws : va_W} {tys : List (ClassId × FieldType)} {ls : Array Slot} {pc idx k a b q cs sl : Nat} {vs rest : List Value} {w : Value} {C : String} {T : u_T} {N : Nat} {ty : FieldType} (hK : va_K D cl tys s) (hP : va_P D cl ws H) (hD : va_D A ws) (hS : va_S A H0 H locs) (he : ws[k]? = some (q, .inr (a, vs))) (hl : b < vs.length) (hc : cl[a]? = some (C, T, N)) (hbN : b < N) (hlink : Cond.fieldLink own idx (T b).1 (T b).2.1 (T b).2.2.1 ∈ Ts) (hfin : (T b).2.2.2 = false ∨ (init = true ∧ (T b).1 = own)) (hty : parseFieldDescriptor (T b).2.2.1 = some ty) (hn : narrow ty w = w) (hfit : fits ty w = true) (hdg : decode cc pc = .ok (.putfield idx, 3))
    (kk : ∀ (H1 : Heap) (locs1 : List Loc), va_P D cl (ws.set k (q, .inr (a, vs.set b w))) H1 → va_D A (ws.set k (q, .inr (a, vs.set b w))) → va_S A H0 H1 locs1 → W p l0 e R s m args below meth c H1 locs1 cs sl Q (F0 m (pc + 3) ls rest)) : W p l0 e R s m args below meth c H locs cs sl Q (F0 m pc ls (w :: .ref q :: rest)) := by
  obtain ⟨h1, ty0, h2, h3, -⟩ := hcl a C T N hc
  cases hf : (T b).2.2.2 with
  | false => exact va_put hx hb hts h1 ty0 h2 h3 hown hK hP hD hS k he hc b hbN (hts _ hlink) (fun _ z => z) hf hty hn hfit hl hdg kk
  | true =>
    rcases hfin with z | ⟨z1, z2⟩
    · rw [hf] at z; cases z
    · exact va_putF hx hb hts h1 ty0 h2 h3 hown hK hP hD hS k he hc b hbN (hts _ hlink) (fun _ z => z) hf (hin z1) z2 hty hn hfit hl hdg kk
theorem e_bool {q : eI} {x : Int32} (h0 : σ 0 = 0) (hq : eIn σ q x) (h : (eOne q == some 0 || eOne q == some 1) = true) : x = 0 ∨ x = 1 := by
  rw [Bool.or_eq_true] at h
  rcases h with h | h
  · exact Or.inl (eOne_ok h0 hq (eq_of_beq h))
  · exact Or.inr (eOne_ok h0 hq (eq_of_beq h))
theorem eAr_len {ad : List Nat} {k n : Nat} {c9 : List eV ⊕ (Int × Int)} {cA : ClassId} {e9 : va_E} (h : eAr ad σ k n c9 cA e9) : ∃ z : vp_A, e9 = .inl (cA, z) ∧ z.1 = n := by
  unfold eAr at h
  split at h
  · obtain ⟨f, h1⟩ := h; exact ⟨_, h1, rfl⟩
  · obtain ⟨f, h1, -⟩ := h; exact ⟨_, h1, rfl⟩
  · obtain ⟨f, h1, -⟩ := h; exact ⟨_, h1, rfl⟩
theorem va_aldA {H : Heap} {locs : List Loc} {ws : va_W} {tys : List (ClassId × FieldType)} {ls : Array Slot} {pc cs sl a : Nat} {rest : List Value} (hexec : p.tables.exec = Jvm.exec) (hb : c.code = cc) (hK : va_K D cl tys s) (hP : va_P D cl ws H) (q0 t0 : Nat) {cA : ClassId} {n : Nat} {f : Nat → Option Nat} (ha : ws[q0]? = some (a, .inl (cA, n, .inr (.inr (.inr (.inr f)))))) (ht : tys[t0]? = some (cA, .array .int)) {i : Int32} (hin : vp_in i n) (hdg : decode cc pc = .ok (.aaload, 1))
    (kk : W p l0 e R s m args below meth c H locs cs sl Q (F0 m (pc + 1) ls (va_rf (f i.toNatClampNeg) :: rest))) : W p l0 e R s m args below meth c H locs cs sl Q (F0 m pc ls (.int i :: .ref a :: rest)) := by
  have hlt : i.toNatClampNeg < n := Nat.not_le.mp fun q => hin (Or.inr q)
  exact W.aald (v := va_rf (f i.toNatClampNeg)) (ty := .array .int) hexec hb (hP q0 _ ha) ((hK.2 t0 _ ht).1 n (fun j => va_rf (f j))) rfl (fun q => by cases q) (by show ¬ (i < 0 ∨ (arrV _ _ _).slots.size ≤ _); rw [arrV_size]; exact hin) (by show (arrV _ _ _).slots[_]? = _; rw [arrV_read _ _ hlt]) rfl rfl hdg kk
set_option maxHeartbeats 4000000 in
theorem eStep_ok (hx : p.tables.exec = Jvm.exec) (hb : c.code = cc) (hown : s.vm.findClass own = some m.cls) (hts : ∀ w ∈ Ts, w.before args s = true) (hcl : eKl cl Ts dfs) (hin : init = true → meth.name = "<init>") (hRc : R.cells = Rc) (hRs : R.slots = Rs) (hs : eSg sr σ) (hA : ∀ q, H0.size ≤ q → A q)
    {i : Instr} {pc a b d cs sl : Nat} {l : eL} {st : List eV} {h : eH} {outs : List eS} (hd : eLen i ≠ 0 → decode cc pc = .ok (i, eLen i)) (hd0 : ∃ len, decode cc pc = .ok (i, len)) (hlk : eLk cl Ts own init i pc a b d)
    (hst : eStep sr dfs Rc Rs nL i a b d pc l st h cs sl = some outs)
    (K : ∀ S' ∈ outs, ∀ (H : Heap) (locs : List Loc) (ws : va_W) (tys : List (ClassId × FieldType)) (ls : Array Slot) (lv : List (Nat × Value)) (stk : List Value), eCn D cl A H0 s σ nL ad0 S' H locs ws tys ls lv stk → W p l0 e R s m args below meth c H locs S'.2.2.2.2.1 S'.2.2.2.2.2 Q (F0 m S'.1 ls stk)) :
    ∀ (H : Heap) (locs : List Loc) (ws : va_W) (tys : List (ClassId × FieldType)) (ls : Array Slot) (lv : List (Nat × Value)) (stk : List Value), eCn D cl A H0 s σ nL ad0 (pc, l, st, h, cs, sl) H locs ws tys ls lv stk → W p l0 e R s m args below meth c H locs cs sl Q (F0 m pc ls stk) := by
  intro H locs ws tys ls lv stk hc
  obtain ⟨hK, hP, hD, hS, hpre, hh, hl, hlv, hsk⟩ := hc
  have h0 := hs.1
  unfold eStep at hst
  split at hst
  · cases hst
    exact lv_iconst hx hb (hd (by simp [eLen])) rfl (K _ List.mem_cons_self _ _ _ _ _ _ _ ⟨hK, hP, hD, hS, hpre, hh, hl, hlv, ⟨_, rfl, ePt_ok h0 _⟩, hsk⟩)
  · cases hst
    exact lv_bipush hx hb (hd (by simp [eLen])) rfl (K _ List.mem_cons_self _ _ _ _ _ _ _ ⟨hK, hP, hD, hS, hpre, hh, hl, hlv, ⟨_, rfl, ePt_ok h0 _⟩, hsk⟩)
  · cases hst
    exact lv_sipush hx hb (hd (by simp [eLen])) rfl (K _ List.mem_cons_self _ _ _ _ _ _ _ ⟨hK, hP, hD, hS, hpre, hh, hl, hlv, ⟨_, rfl, ePt_ok h0 _⟩, hsk⟩)
  · cases hst
    exact lv_lconst hx hb (hd (by simp [eLen])) rfl (K _ List.mem_cons_self _ _ _ _ _ _ _ ⟨hK, hP, hD, hS, hpre, hh, hl, hlv, ⟨_, rfl⟩, hsk⟩)
  · cases hst
    exact lv_ldc hx hb hown (hts _ hlk) (hd (by simp [eLen])) (K _ List.mem_cons_self _ _ _ _ _ _ _ ⟨hK, hP, hD, hS, hpre, hh, hl, hlv, ⟨_, rfl, ePt_ok h0 _⟩, hsk⟩)
  · cases hst
    exact lv_ldcw hx hb hown (hts _ hlk) (hd (by simp [eLen])) (K _ List.mem_cons_self _ _ _ _ _ _ _ ⟨hK, hP, hD, hS, hpre, hh, hl, hlv, ⟨_, rfl, ePt_ok h0 _⟩, hsk⟩)
  · cases hst
    obtain ⟨v, hv⟩ := hlk
    exact lv_ldc2 hx hb hown (hts _ hv) (hd (by simp [eLen])) (K _ List.mem_cons_self _ _ _ _ _ _ _ ⟨hK, hP, hD, hS, hpre, hh, hl, hlv, ⟨_, rfl⟩, hsk⟩)
  · split at hst
    · rename_i v hg
      obtain ⟨w, h1, h2, -⟩ := eGet_at hl hlv hg
      obtain ⟨x, rfl, hxq⟩ := h2
      cases hst
      exact lv_iload_n hx hb (hd (by simp [eLen])) rfl h1 (K _ List.mem_cons_self _ _ _ _ _ _ _ ⟨hK, hP, hD, hS, hpre, hh, hl, hlv, ⟨_, rfl, hxq⟩, hsk⟩)
    · cases hst
  · split at hst
    · rename_i v hg
      obtain ⟨w, h1, h2, -⟩ := eGet_at hl hlv hg
      obtain ⟨x, rfl, hxq⟩ := h2
      cases hst
      exact lv_iload hx hb (hd (by simp [eLen])) h1 (K _ List.mem_cons_self _ _ _ _ _ _ _ ⟨hK, hP, hD, hS, hpre, hh, hl, hlv, ⟨_, rfl, hxq⟩, hsk⟩)
    · cases hst
  · split at hst
    · rename_i v hg
      obtain ⟨w, h1, h2, -⟩ := eGet_at hl hlv hg
      obtain ⟨x, rfl⟩ := h2
      cases hst
      exact lv_lload_n hx hb (hd (by simp [eLen])) rfl h1 (K _ List.mem_cons_self _ _ _ _ _ _ _ ⟨hK, hP, hD, hS, hpre, hh, hl, hlv, ⟨_, rfl⟩, hsk⟩)
    · cases hst
  · split at hst
    · rename_i v hg
      obtain ⟨w, h1, h2, -⟩ := eGet_at hl hlv hg
      obtain ⟨x, rfl⟩ := h2
      cases hst
      exact lv_lload hx hb (hd (by simp [eLen])) h1 (K _ List.mem_cons_self _ _ _ _ _ _ _ ⟨hK, hP, hD, hS, hpre, hh, hl, hlv, ⟨_, rfl⟩, hsk⟩)
    · cases hst
  · split at hst
    · rename_i v hg
      obtain ⟨w, h1, h2, -⟩ := eGet_at hl hlv hg
      obtain ⟨x, hxa, rfl⟩ := h2
      cases hst
      exact lv_aload_n hx hb (hd (by simp [eLen])) rfl h1 (K _ List.mem_cons_self _ _ _ _ _ _ _ ⟨hK, hP, hD, hS, hpre, hh, hl, hlv, ⟨_, hxa, rfl⟩, hsk⟩)
    · cases hst
  · split at hst
    · rename_i v hg
      obtain ⟨w, h1, h2, -⟩ := eGet_at hl hlv hg
      obtain ⟨x, hxa, rfl⟩ := h2
      cases hst
      exact lv_aload hx hb (hd (by simp [eLen])) h1 (K _ List.mem_cons_self _ _ _ _ _ _ _ ⟨hK, hP, hD, hS, hpre, hh, hl, hlv, ⟨_, hxa, rfl⟩, hsk⟩)
    · cases hst
  · split at hst
    · obtain ⟨hn, hg⟩ := eCond hst
      cases hg
      obtain ⟨w, stk, rfl, ⟨x, rfl, hxq⟩, hsk1⟩ := eAll_cons hsk
      exact lv_istore_n hx hb (hd (by simp [eLen])) rfl hl (Nat.le_of_ble_eq_true hn) rfl (fun ls hl => K _ List.mem_cons_self _ _ _ _ _ _ _ ⟨hK, hP, hD, hS, hpre, hh, hl, ePut_ok hlv ⟨x, rfl, hxq⟩, hsk1⟩)
    · cases hst
  · split at hst
    · obtain ⟨hn, hg⟩ := eCond hst
      cases hg
      obtain ⟨w, stk, rfl, ⟨x, rfl, hxq⟩, hsk1⟩ := eAll_cons hsk
      exact lv_istore hx hb (hd (by simp [eLen])) hl (Nat.le_of_ble_eq_true hn) rfl (fun ls hl => K _ List.mem_cons_self _ _ _ _ _ _ _ ⟨hK, hP, hD, hS, hpre, hh, hl, ePut_ok hlv ⟨x, rfl, hxq⟩, hsk1⟩)
    · cases hst
  · split at hst
    · obtain ⟨hn, hg⟩ := eCond hst
      cases hg
      obtain ⟨w, stk, rfl, ⟨x, rfl⟩, hsk1⟩ := eAll_cons hsk
      exact lv_lstore_n hx hb (hd (by simp [eLen])) rfl hl (Nat.le_of_ble_eq_true hn) rfl (fun ls hl => K _ List.mem_cons_self _ _ _ _ _ _ _ ⟨hK, hP, hD, hS, hpre, hh, hl, ePut2_ok hlv ⟨x, rfl⟩, hsk1⟩)
    · cases hst
  · split at hst
    · obtain ⟨hn, hg⟩ := eCond hst
      cases hg
      obtain ⟨w, stk, rfl, ⟨x, rfl⟩, hsk1⟩ := eAll_cons hsk
      exact lv_lstore hx hb (hd (by simp [eLen])) hl (Nat.le_of_ble_eq_true hn) rfl (fun ls hl => K _ List.mem_cons_self _ _ _ _ _ _ _ ⟨hK, hP, hD, hS, hpre, hh, hl, ePut2_ok hlv ⟨x, rfl⟩, hsk1⟩)
    · cases hst
  · split at hst
    · obtain ⟨hn, hg⟩ := eCond hst
      cases hg
      obtain ⟨w, stk, rfl, ⟨x, hxa, rfl⟩, hsk1⟩ := eAll_cons hsk
      exact lv_astore_n hx hb (hd (by simp [eLen])) rfl hl (Nat.le_of_ble_eq_true hn) rfl (fun ls hl => K _ List.mem_cons_self _ _ _ _ _ _ _ ⟨hK, hP, hD, hS, hpre, hh, hl, ePut_ok hlv ⟨x, hxa, rfl⟩, hsk1⟩)
    · cases hst
  · split at hst
    · obtain ⟨hn, hg⟩ := eCond hst
      cases hg
      obtain ⟨w, stk, rfl, ⟨x, hxa, rfl⟩, hsk1⟩ := eAll_cons hsk
      exact lv_astore hx hb (hd (by simp [eLen])) hl (Nat.le_of_ble_eq_true hn) rfl (fun ls hl => K _ List.mem_cons_self _ _ _ _ _ _ _ ⟨hK, hP, hD, hS, hpre, hh, hl, ePut_ok hlv ⟨x, hxa, rfl⟩, hsk1⟩)
    · cases hst
  · split at hst
    · rename_i v hg
      obtain ⟨hn, hg2⟩ := eCond hst
      cases hg2
      obtain ⟨w, -, ⟨x, rfl, hxq⟩, kk, hkk⟩ := eGet_at hl hlv hg
      exact lv_iinc hx hb (hd (by simp [eLen])) hl hkk rfl (Nat.le_of_ble_eq_true hn) rfl (fun ls hl => K _ List.mem_cons_self _ _ _ _ _ _ _ ⟨hK, hP, hD, hS, hpre, hh, hl, ePut_ok hlv ⟨_, rfl, eAdd_ok hs hxq (ePt_ok h0 _)⟩, hsk⟩)
    · cases hst
  · split at hst
    · rename_i x y r hg
      cases hst
      obtain ⟨u, v, r, rfl, hu, hv, hr⟩ := eTwo_ok hg hsk
      exact lv_iadd hx hb (hd (by simp [eLen])) (K _ List.mem_cons_self _ _ _ _ _ _ _ ⟨hK, hP, hD, hS, hpre, hh, hl, hlv, ⟨_, rfl, eAdd_ok hs hu hv⟩, hr⟩)
    · cases hst
  · split at hst
    · rename_i x y r hg
      cases hst
      obtain ⟨u, v, r, rfl, hu, hv, hr⟩ := eTwo_ok hg hsk
      exact lv_isub hx hb (hd (by simp [eLen])) (K _ List.mem_cons_self _ _ _ _ _ _ _ ⟨hK, hP, hD, hS, hpre, hh, hl, hlv, ⟨_, rfl, eSub_ok hs hu hv⟩, hr⟩)
    · cases hst
  · split at hst
    · rename_i x y r hg
      cases hst
      obtain ⟨u, v, r, rfl, hu, hv, hr⟩ := eTwo_ok hg hsk
      exact lv_imul hx hb (hd (by simp [eLen])) (K _ List.mem_cons_self _ _ _ _ _ _ _ ⟨hK, hP, hD, hS, hpre, hh, hl, hlv, ⟨_, rfl, eBin_ok (f := fun u v => u * v) h0 hu hv (eTop_ok h0 _)⟩, hr⟩)
    · cases hst
  · split at hst
    · rename_i x y r hg
      cases hst
      obtain ⟨u, v, r, rfl, hu, hv, hr⟩ := eTwo_ok hg hsk
      exact lv_iand hx hb (hd (by simp [eLen])) (K _ List.mem_cons_self _ _ _ _ _ _ _ ⟨hK, hP, hD, hS, hpre, hh, hl, hlv, ⟨_, rfl, eBin_ok (f := fun u v => u &&& v) h0 hu hv (eTop_ok h0 _)⟩, hr⟩)
    · cases hst
  · split at hst
    · rename_i x y r hg
      cases hst
      obtain ⟨u, v, r, rfl, hu, hv, hr⟩ := eTwo_ok hg hsk
      exact lv_ior hx hb (hd (by simp [eLen])) (K _ List.mem_cons_self _ _ _ _ _ _ _ ⟨hK, hP, hD, hS, hpre, hh, hl, hlv, ⟨_, rfl, eBin_ok (f := fun u v => u ||| v) h0 hu hv (eTop_ok h0 _)⟩, hr⟩)
    · cases hst
  · split at hst
    · rename_i x y r hg
      cases hst
      obtain ⟨u, v, r, rfl, hu, hv, hr⟩ := eTwo_ok hg hsk
      exact lv_ixor hx hb (hd (by simp [eLen])) (K _ List.mem_cons_self _ _ _ _ _ _ _ ⟨hK, hP, hD, hS, hpre, hh, hl, hlv, ⟨_, rfl, eBin_ok (f := fun u v => u ^^^ v) h0 hu hv (eTop_ok h0 _)⟩, hr⟩)
    · cases hst
  · split at hst
    · rename_i x y r hg
      cases hst
      obtain ⟨u, v, r, rfl, hu, hv, hr⟩ := eTwo_ok hg hsk
      exact lv_ishl hx hb (hd (by simp [eLen])) (K _ List.mem_cons_self _ _ _ _ _ _ _ ⟨hK, hP, hD, hS, hpre, hh, hl, hlv, ⟨_, rfl, eBin_ok (f := fun u v => u <<< (v &&& 31)) h0 hu hv (eTop_ok h0 _)⟩, hr⟩)
    · cases hst
  · split at hst
    · rename_i x y r hg
      cases hst
      obtain ⟨u, v, r, rfl, hu, hv, hr⟩ := eTwo_ok hg hsk
      exact lv_ishr hx hb (hd (by simp [eLen])) (K _ List.mem_cons_self _ _ _ _ _ _ _ ⟨hK, hP, hD, hS, hpre, hh, hl, hlv, ⟨_, rfl, eBin_ok (f := fun u v => u >>> (v &&& 31)) h0 hu hv (eTop_ok h0 _)⟩, hr⟩)
    · cases hst
  · split at hst
    · rename_i x y r hg
      cases hst
      obtain ⟨u, v, r, rfl, hu, hv, hr⟩ := eTwo_ok hg hsk
      exact lv_iushr hx hb (hd (by simp [eLen])) rfl (K _ List.mem_cons_self _ _ _ _ _ _ _ ⟨hK, hP, hD, hS, hpre, hh, hl, hlv, ⟨_, rfl, eBin_ok (f := fun u v => (u.toUInt32 >>> (v.toUInt32 &&& Int32.toUInt32 31)).toInt32) h0 hu hv (eUsh_ok h0 hv)⟩, hr⟩)
    · cases hst
  · split at hst
    · rename_i x y r hg
      obtain ⟨hn, hg2⟩ := eCond hst
      cases hg2
      obtain ⟨u, v, r, rfl, hu, hv, hr⟩ := eTwo_ok hg hsk
      have hz := eEq_ok hs hv (y := 0) (b := (0, 0, 0)) (eIn_mk (by rw [h0]; decide) (by rw [h0]; decide)) (eq_of_beq hn)
      have hz : ¬ v = 0 := by rw [hz]; decide
      exact lv_irem hx hb (hd (by simp [eLen])) hz (K _ List.mem_cons_self _ _ _ _ _ _ _ ⟨hK, hP, hD, hS, hpre, hh, hl, hlv, ⟨_, rfl, eBin_ok (f := fun u v => u - u / v * v) h0 hu hv (eRem_ok hs hu hv)⟩, hr⟩)
    · cases hst
  · split at hst
    · rename_i x y r hg
      obtain ⟨hn, hg2⟩ := eCond hst
      cases hg2
      obtain ⟨u, v, r, rfl, hu, hv, hr⟩ := eTwo_ok hg hsk
      have hz := eEq_ok hs hv (y := 0) (b := (0, 0, 0)) (eIn_mk (by rw [h0]; decide) (by rw [h0]; decide)) (eq_of_beq hn)
      have hz : ¬ v = 0 := by rw [hz]; decide
      exact lv_idiv hx hb (hd (by simp [eLen])) hz (K _ List.mem_cons_self _ _ _ _ _ _ _ ⟨hK, hP, hD, hS, hpre, hh, hl, hlv, ⟨_, rfl, eBin_ok (f := fun u v => u / v) h0 hu hv (eTop_ok h0 _)⟩, hr⟩)
    · cases hst
  · split at hst
    · cases hst
      obtain ⟨w, stk, rfl, ⟨x, rfl, hxq⟩, hsk1⟩ := eAll_cons hsk
      exact lv_i2b hx hb (hd (by simp [eLen])) rfl (K _ List.mem_cons_self _ _ _ _ _ _ _ ⟨hK, hP, hD, hS, hpre, hh, hl, hlv, ⟨_, rfl, eTop_ok h0 _⟩, hsk1⟩)
    · cases hst
  · split at hst
    · cases hst
      obtain ⟨w, stk, rfl, ⟨x, rfl, hxq⟩, hsk1⟩ := eAll_cons hsk
      exact lv_i2l hx hb (hd (by simp [eLen])) rfl (K _ List.mem_cons_self _ _ _ _ _ _ _ ⟨hK, hP, hD, hS, hpre, hh, hl, hlv, ⟨_, rfl⟩, hsk1⟩)
    · cases hst
  · split at hst
    · cases hst
      obtain ⟨w, stk, rfl, ⟨x, rfl⟩, hsk1⟩ := eAll_cons hsk
      exact lv_l2i hx hb (hd (by simp [eLen])) rfl (K _ List.mem_cons_self _ _ _ _ _ _ _ ⟨hK, hP, hD, hS, hpre, hh, hl, hlv, ⟨_, rfl, eTop_ok h0 _⟩, hsk1⟩)
    · cases hst
  · split at hst
    · cases hst
      obtain ⟨w, stk, rfl, ⟨x, rfl⟩, hsk1⟩ := eAll_cons hsk
      obtain ⟨w, stk, rfl, ⟨y, rfl⟩, hsk2⟩ := eAll_cons hsk1
      exact lv_ladd hx hb (hd (by simp [eLen])) (K _ List.mem_cons_self _ _ _ _ _ _ _ ⟨hK, hP, hD, hS, hpre, hh, hl, hlv, ⟨_, rfl⟩, hsk2⟩)
    · cases hst
  · split at hst
    · cases hst
      obtain ⟨w, stk, rfl, ⟨x, rfl⟩, hsk1⟩ := eAll_cons hsk
      obtain ⟨w, stk, rfl, ⟨y, rfl⟩, hsk2⟩ := eAll_cons hsk1
      exact lv_lmul hx hb (hd (by simp [eLen])) (K _ List.mem_cons_self _ _ _ _ _ _ _ ⟨hK, hP, hD, hS, hpre, hh, hl, hlv, ⟨_, rfl⟩, hsk2⟩)
    · cases hst
  · split at hst
    · cases hst
      obtain ⟨w, stk, rfl, ⟨x, rfl⟩, hsk1⟩ := eAll_cons hsk
      obtain ⟨w, stk, rfl, ⟨y, rfl⟩, hsk2⟩ := eAll_cons hsk1
      exact W.lcmp hx hb (hd (by simp [eLen])) (K _ List.mem_cons_self _ _ _ _ _ _ _ ⟨hK, hP, hD, hS, hpre, hh, hl, hlv, ⟨_, rfl, eTop_ok h0 _⟩, hsk2⟩)
    · cases hst
  · split at hst
    · obtain ⟨hn, hg⟩ := eCond hst
      cases hg
      have hn := Nat.eq_of_beq_eq_true hn
      obtain ⟨w, stk, rfl, hw, hsk1⟩ := eAll_cons hsk
      exact lv_dup hx hb (hd (by simp [eLen])) (by rw [eOk_cat hw, hn]) (K _ List.mem_cons_self _ _ _ _ _ _ _ ⟨hK, hP, hD, hS, hpre, hh, hl, hlv, hw, hw, hsk1⟩)
    · cases hst
  · split at hst
    · obtain ⟨hn, hg⟩ := eCond hst
      cases hg
      rw [Bool.and_eq_true] at hn
      have hn1 := Nat.eq_of_beq_eq_true hn.1
      have hn2 := Nat.eq_of_beq_eq_true hn.2
      obtain ⟨w, stk, rfl, hw, hsk1⟩ := eAll_cons hsk
      obtain ⟨w2, stk, rfl, hw2, hsk2⟩ := eAll_cons hsk1
      exact lv_dup2_11 hx hb (hd (by simp [eLen])) (by rw [eOk_cat hw, hn1]) (by rw [eOk_cat hw2, hn2]) (K _ List.mem_cons_self _ _ _ _ _ _ _ ⟨hK, hP, hD, hS, hpre, hh, hl, hlv, hw, hw2, hw, hw2, hsk2⟩)
    · cases hst
  · split at hst
    · obtain ⟨hn, hg⟩ := eCond hst
      cases hg
      have hn := Nat.eq_of_beq_eq_true hn
      obtain ⟨w, stk, rfl, hw, hsk1⟩ := eAll_cons hsk
      exact lv_pop hx hb (hd (by simp [eLen])) (by rw [eOk_cat hw, hn]) (K _ List.mem_cons_self _ _ _ _ _ _ _ ⟨hK, hP, hD, hS, hpre, hh, hl, hlv, hsk1⟩)
    · cases hst
  · split at hst
    · split at hst
      · rename_i v hg
        cases hst
        obtain ⟨w, stk, rfl, ⟨x, hxa, rfl⟩, hsk1⟩ := eAll_cons hsk
        obtain ⟨q, vs, w, he, hv, hw⟩ := eFld_ok hg hh
        have e1 := eAd_at he hxa
        subst e1
        obtain ⟨C, T, N, hc, hbN, hlink⟩ := hlk
        exact va_get hx hb hts (hcl _ C T N hc).1 hown hK hP _ he hc _ hbN (hts _ hlink) (fun _ z => z) hv (hd (by simp [eLen])) (K _ List.mem_cons_self _ _ _ _ _ _ _ ⟨hK, hP, hD, hS, hpre, hh, hl, hlv, hw, hsk1⟩)
      · cases hst
    · cases hst
  · obtain ⟨C, T, N, hc, hbN, hlink, hfin, t0, t2, t5⟩ := hlk
    split at hst
    · obtain ⟨hn, hg⟩ := eCond hst
      clear hst
      split at hg
      · rename_i h2 hg2
        cases hg
        obtain ⟨w, stk, rfl, ⟨x, rfl, hxq⟩, hsk1⟩ := eAll_cons hsk
        obtain ⟨w, stk, rfl, ⟨y, hya, rfl⟩, hsk2⟩ := eAll_cons hsk1
        obtain ⟨q, vs, he, hbl, hh2⟩ := eSetF_ok (w := .int x) hg2 hh ⟨x, rfl, hxq⟩
        have e1 := eAd_at he hya
        subst e1
        have hk : ∃ ty, parseFieldDescriptor (T b).2.2.1 = some ty ∧ narrow ty (.int x) = .int x ∧ fits ty (.int x) = true := by
          rw [Bool.or_eq_true] at hn
          rcases hn with hn | hn
          · exact ⟨_, t0 (Nat.eq_of_beq_eq_true hn), rfl, rfl⟩
          · rw [Bool.and_eq_true] at hn
            refine ⟨_, t2 (Nat.eq_of_beq_eq_true hn.1), ?_⟩
            rcases e_bool h0 hxq hn.2 with rfl | rfl <;> exact ⟨by decide, by decide⟩
        obtain ⟨ty, k1, k2, k3⟩ := hk
        exact eStF hx hb hown hts hcl hin hK hP hD hS he hbl hc hbN hlink hfin k1 k2 k3 (hd (by simp [eLen])) (fun H1 locs1 hP hD hS => K _ List.mem_cons_self _ _ _ _ _ _ _ (eCn_set hK he hP hD hS hpre hh2 hl hlv hsk2))
      · cases hg
    · obtain ⟨hn, hg⟩ := eCond hst
      clear hst
      split at hg
      · rename_i h2 hg2
        cases hg
        obtain ⟨w, stk, rfl, ⟨x, hxa, rfl⟩, hsk1⟩ := eAll_cons hsk
        obtain ⟨w, stk, rfl, ⟨y, hya, rfl⟩, hsk2⟩ := eAll_cons hsk1
        obtain ⟨q, vs, he, hbl, hh2⟩ := eSetF_ok (w := .ref x) hg2 hh ⟨x, hxa, rfl⟩
        have e1 := eAd_at he hya
        subst e1
        obtain ⟨ty, k1, k2⟩ := t5 (Nat.eq_of_beq_eq_true hn)
        have k3 : narrow ty (.ref x) = .ref x ∧ fits ty (.ref x) = true := by rcases k2 with ⟨n, rfl⟩ | ⟨n, rfl⟩ <;> exact ⟨rfl, rfl⟩
        exact eStF hx hb hown hts hcl hin hK hP hD hS he hbl hc hbN hlink hfin k1 k3.1 k3.2 (hd (by simp [eLen])) (fun H1 locs1 hP hD hS => K _ List.mem_cons_self _ _ _ _ _ _ _ (eCn_set hK he hP hD hS hpre hh2 hl hlv hsk2))
      · cases hg
    · cases hst
  · split at hst
    · split at hst
      · rename_i v hg
        cases hst
        obtain ⟨w, stk, rfl, ⟨x, rfl, hxq⟩, hsk1⟩ := eAll_cons hsk
        obtain ⟨w, stk, rfl, ⟨y, hya, rfl⟩, hsk2⟩ := eAll_cons hsk1
        obtain ⟨q, cA, t0, n, f, he, ht, hxi, hv⟩ := eALd_ok hs (Or.inl rfl) hg hh hxq
        have e1 := eAd_at he hya
        subst e1
        exact va_iald hx hb hK hP _ t0 he ht hxi (hd (by simp [eLen])) (K _ List.mem_cons_self _ _ _ _ _ _ _ ⟨hK, hP, hD, hS, hpre, hh, hl, hlv, ⟨_, rfl, hv⟩, hsk2⟩)
      · cases hst
    · cases hst
  · split at hst
    · split at hst
      · rename_i v hg
        cases hst
        obtain ⟨w, stk, rfl, ⟨x, rfl, hxq⟩, hsk1⟩ := eAll_cons hsk
        obtain ⟨w, stk, rfl, ⟨y, hya, rfl⟩, hsk2⟩ := eAll_cons hsk1
        obtain ⟨q, cA, t0, n, f, he, ht, hxi, hv⟩ := eALd_ok hs (Or.inr (Or.inl rfl)) hg hh hxq
        have e1 := eAd_at he hya
        subst e1
        exact va_bald hx hb hK hP _ t0 he ht hxi (hd (by simp [eLen])) (K _ List.mem_cons_self _ _ _ _ _ _ _ ⟨hK, hP, hD, hS, hpre, hh, hl, hlv, ⟨_, rfl, hv⟩, hsk2⟩)
      · rename_i v hg0 hg
        cases hst
        obtain ⟨w, stk, rfl, ⟨x, rfl, hxq⟩, hsk1⟩ := eAll_cons hsk
        obtain ⟨w, stk, rfl, ⟨y, hya, rfl⟩, hsk2⟩ := eAll_cons hsk1
        obtain ⟨q, cA, t0, n, f, he, ht, hxi, hv⟩ := eALd_ok hs (Or.inr (Or.inr rfl)) hg hh hxq
        have e1 := eAd_at he hya
        subst e1
        exact va_zald hx hb hK hP _ t0 he ht hxi (hd (by simp [eLen])) (K _ List.mem_cons_self _ _ _ _ _ _ _ ⟨hK, hP, hD, hS, hpre, hh, hl, hlv, ⟨_, rfl, hv⟩, hsk2⟩)
      · cases hst
    · cases hst
  · split at hst
    · obtain ⟨hn, hg⟩ := eCond hst
      cases hg
      obtain ⟨w, stk, rfl, ⟨x, rfl, hxq⟩, hsk1⟩ := eAll_cons hsk
      obtain ⟨w, stk, rfl, ⟨y, hya, rfl⟩, hsk2⟩ := eAll_cons hsk1
      obtain ⟨q, cA, t0, n, f, he, ht, hxi, -⟩ := eLng_ok hs hn hh hxq 0
      have e1 := eAd_at he hya
      subst e1
      exact va_lald hx hb hK hP _ t0 he ht hxi (hd (by simp [eLen])) (K _ List.mem_cons_self _ _ _ _ _ _ _ ⟨hK, hP, hD, hS, hpre, hh, hl, hlv, ⟨_, rfl⟩, hsk2⟩)
    · cases hst
  · split at hst
    · split at hst
      · rename_i v hg
        cases hst
        obtain ⟨w, stk, rfl, ⟨x, rfl, hxq⟩, hsk1⟩ := eAll_cons hsk
        obtain ⟨w, stk, rfl, ⟨y, hya, rfl⟩, hsk2⟩ := eAll_cons hsk1
        obtain ⟨q, cA, t0, n, f, he, ht, hxi, hv⟩ := eRow_ok hs hg hh hxq
        have e1 := eAd_at he hya
        subst e1
        exact va_aldA hx hb hK hP _ t0 he ht hxi (hd (by simp [eLen])) (K _ List.mem_cons_self _ _ _ _ _ _ _ ⟨hK, hP, hD, hS, hpre, hh, hl, hlv, hv, hsk2⟩)
      · cases hst
    · cases hst
  · split at hst
    · split at hst
      · rename_i h2 hg
        cases hst
        obtain ⟨w, stk, rfl, ⟨z, rfl, hzq⟩, hsk1⟩ := eAll_cons hsk
        obtain ⟨w, stk, rfl, ⟨x, rfl, hxq⟩, hsk2⟩ := eAll_cons hsk1
        obtain ⟨w, stk, rfl, ⟨y, hya, rfl⟩, hsk3⟩ := eAll_cons hsk2
        obtain ⟨q, cA, t0, n, f, he, ht, hxi, hh2⟩ := eASt_ok hs (Or.inl rfl) hg hh hxq hzq
        have e1 := eAd_at he hya
        subst e1
        exact va_iast hx hb hK hP hD hS _ t0 he ht hxi (hd (by simp [eLen])) (fun H1 locs1 hP hD hS => K _ List.mem_cons_self _ _ _ _ _ _ _ (eCn_set hK he hP hD hS hpre hh2 hl hlv hsk3))
      · cases hst
    · cases hst
  · split at hst
    · rename_i v q k r
      cases hc : eBSt sr h k q with
      | true =>
        rw [hc] at hst
        cases hst
        obtain ⟨w, stk, rfl, ⟨z, rfl, hzq⟩, hsk1⟩ := eAll_cons hsk
        obtain ⟨w, stk, rfl, ⟨x, rfl, hxq⟩, hsk2⟩ := eAll_cons hsk1
        obtain ⟨w, stk, rfl, ⟨y, hya, rfl⟩, hsk3⟩ := eAll_cons hsk2
        obtain ⟨q, cA, t0, n, f, he, ht, hxi, hh2⟩ := eBSt_ok hs hc hh hxq z
        have e1 := eAd_at he hya
        subst e1
        exact va_bast hx hb hK hP hD hS _ t0 he ht hxi (hd (by simp [eLen])) (fun H1 locs1 hP hD hS => K _ List.mem_cons_self _ _ _ _ _ _ _ (eCn_set hK he hP hD hS hpre hh2 hl hlv hsk3))
      | false =>
        rw [hc] at hst
        obtain ⟨hn, hg⟩ := eCond (show cond _ _ none = some outs from hst)
        clear hst
        split at hg
        · rename_i h2 hg2
          cases hg
          obtain ⟨w, stk, rfl, ⟨z, rfl, hzq⟩, hsk1⟩ := eAll_cons hsk
          obtain ⟨w, stk, rfl, ⟨x, rfl, hxq⟩, hsk2⟩ := eAll_cons hsk1
          obtain ⟨w, stk, rfl, ⟨y, hya, rfl⟩, hsk3⟩ := eAll_cons hsk2
          have hzz : vp_nar .boolean z = z := by rcases e_bool h0 hzq hn with rfl | rfl <;> decide
          obtain ⟨q, cA, t0, n, f, he, ht, hxi, hh2⟩ := eASt_ok hs (Or.inr (Or.inr rfl)) hg2 hh hxq hzq
          have e1 := eAd_at he hya
          subst e1
          exact va_zast hx hb hK hP hD hS _ t0 he ht hxi (hd (by simp [eLen])) (fun H1 locs1 hP hD hS => K _ List.mem_cons_self _ _ _ _ _ _ _ (eCn_set hK he hP hD hS hpre (by rw [hzz]; exact hh2) hl hlv hsk3))
        · cases hg
    · cases hst
  · split at hst
    · obtain ⟨hn, hg⟩ := eCond hst
      cases hg
      obtain ⟨w, stk, rfl, ⟨z, rfl⟩, hsk1⟩ := eAll_cons hsk
      obtain ⟨w, stk, rfl, ⟨x, rfl, hxq⟩, hsk2⟩ := eAll_cons hsk1
      obtain ⟨w, stk, rfl, ⟨y, hya, rfl⟩, hsk3⟩ := eAll_cons hsk2
      obtain ⟨q, cA, t0, n, f, he, ht, hxi, hh2⟩ := eLng_ok hs hn hh hxq z
      have e1 := eAd_at he hya
      subst e1
      exact va_last hx hb hK hP hD hS _ t0 he ht hxi (hd (by simp [eLen])) (fun H1 locs1 hP hD hS => K _ List.mem_cons_self _ _ _ _ _ _ _ (eCn_set hK he hP hD hS hpre hh2 hl hlv hsk3))
    · cases hst
  · split at hst
    · split at hst
      · rename_i n9 c9 ho
        cases hst
        obtain ⟨w, stk, rfl, ⟨y, hya, rfl⟩, hsk1⟩ := eAll_cons hsk
        obtain ⟨⟨q, e9⟩, he, cA, t0, ht, hN, har⟩ := eAll_get hh ho
        have e1 := eAd_at he hya
        subst e1
        obtain ⟨z, hz1, hz2⟩ := eAr_len har
        have hz1 : e9 = .inl (cA, z) := hz1
        subst hz1
        exact va_alen hx hb hK hP _ t0 he ht (by rw [hz2]) (hd (by simp [eLen])) (K _ List.mem_cons_self _ _ _ _ _ _ _ ⟨hK, hP, hD, hS, hpre, hh, hl, hlv, ⟨_, rfl, ePt_ok h0 _⟩, hsk1⟩)
      · cases hst
    · cases hst
  · split at hst
    · split at hst
      · rename_i y hy
        obtain ⟨hn, hg⟩ := eCond hst
        clear hst
        split at hg
        · rename_i c9 hc9
          cases hg
          obtain ⟨w, stk, rfl, ⟨x, rfl, hxq⟩, hsk1⟩ := eAll_cons hsk
          have e1 := eOne_ok h0 hxq hy
          subst e1
          simp only [Bool.and_eq_true] at hn
          obtain ⟨⟨⟨n1, n2⟩, n3⟩, n4⟩ := hn
          have n1 := eLe_ok n1
          have n2 := Nat.le_of_ble_eq_true n2
          have n3 := Nat.le_of_ble_eq_true n3
          have n4 := Nat.le_of_ble_eq_true n4
          obtain ⟨a0, z1, z2, z3⟩ := eNew_ok hc9 n2
          exact va_newa hx hb (hts _ hlk.1) hlk.2 hK hP hD hS hA z1 (by rw [Int32.lt_iff_toInt_lt]; show ¬ x.toInt < 0; omega) rfl z2 (by rw [hRc]; exact n3) (by rw [hRs]; exact n4) (hd (by simp [eLen])) (fun q cA H1 hK2 hP hD hS => K _ List.mem_cons_self _ _ _ _ _ _ _ (eCn_app hK2 ⟨_, rfl⟩ hP hD hS hpre hh (z3 _ _ _ cA tys.length q h0 (by simp)) hl hlv hsk1))
        · cases hg
      · cases hst
    · cases hst
  · split at hst
    · rename_i fs hfs
      obtain ⟨hn, hg⟩ := eCond hst
      cases hg
      rw [Bool.and_eq_true] at hn
      have n1 := Nat.le_of_ble_eq_true hn.1
      have n2 := Nat.le_of_ble_eq_true hn.2
      obtain ⟨C, T, N, hc, w1, w2, w3⟩ := hlk
      obtain ⟨hin1, ty, hty, hnm, hdf⟩ := hcl _ C T N hc
      obtain ⟨hlen, vs, hvs, hdv⟩ := hdf fs hfs
      subst hlen
      exact va_new hx hb hts hin1 ty hty hown (hts _ w1) (hts _ w2) (hts _ w3) hK hP hD hS hA hc hdv (by rw [hRc]; exact n1) (by rw [hRs]; exact n2) (hd (by simp [eLen])) (fun q H1 hP hD hS => K _ List.mem_cons_self _ _ _ _ _ _ _ (eCn_app hK ⟨[], by simp⟩ hP hD hS hpre hh ⟨vs, rfl, hvs _ _ h0⟩ hl hlv hsk))
    · cases hst
  · cases hst
    exact lv_goto hx hb (hd (by simp [eLen])) hlk (K _ List.mem_cons_self _ _ _ _ _ _ _ ⟨hK, hP, hD, hS, hpre, hh, hl, hlv, hsk⟩)
  · rename_i kc off
    split at hst
    · obtain ⟨w, stk, rfl, ⟨x, rfl, hxq⟩, hsk1⟩ := eAll_cons hsk
      have hz : eIn σ (0, 0, 0) 0 := eIn_mk (by rw [h0]; decide) (by rw [h0]; decide)
      cases kc
      · exact lv_if_eq hx hb (hd (by simp [eLen])) hlk (fun hq => K _ (eBr_yes hs hxq hz hst hq) _ _ _ _ _ _ _ ⟨hK, hP, hD, hS, hpre, hh, hl, hlv, hsk1⟩) (fun hq => K _ (eBr_no hs hxq hz hst hq) _ _ _ _ _ _ _ ⟨hK, hP, hD, hS, hpre, hh, hl, hlv, hsk1⟩)
      · exact lv_if_ne hx hb (hd (by simp [eLen])) hlk (fun hq => K _ (eBr_yes hs hxq hz hst hq) _ _ _ _ _ _ _ ⟨hK, hP, hD, hS, hpre, hh, hl, hlv, hsk1⟩) (fun hq => K _ (eBr_no hs hxq hz hst (fun z => z hq)) _ _ _ _ _ _ _ ⟨hK, hP, hD, hS, hpre, hh, hl, hlv, hsk1⟩)
      · exact lv_if_lt hx hb (hd (by simp [eLen])) hlk (fun hq => K _ (eBr_yes hs hxq hz hst hq) _ _ _ _ _ _ _ ⟨hK, hP, hD, hS, hpre, hh, hl, hlv, hsk1⟩) (fun hq => K _ (eBr_no hs hxq hz hst hq) _ _ _ _ _ _ _ ⟨hK, hP, hD, hS, hpre, hh, hl, hlv, hsk1⟩)
      · exact lv_if_ge hx hb (hd (by simp [eLen])) hlk (fun hq => K _ (eBr_yes hs hxq hz hst hq) _ _ _ _ _ _ _ ⟨hK, hP, hD, hS, hpre, hh, hl, hlv, hsk1⟩) (fun hq => K _ (eBr_no hs hxq hz hst hq) _ _ _ _ _ _ _ ⟨hK, hP, hD, hS, hpre, hh, hl, hlv, hsk1⟩)
      · exact lv_if_gt hx hb (hd (by simp [eLen])) hlk (fun hq => K _ (eBr_yes hs hxq hz hst hq) _ _ _ _ _ _ _ ⟨hK, hP, hD, hS, hpre, hh, hl, hlv, hsk1⟩) (fun hq => K _ (eBr_no hs hxq hz hst hq) _ _ _ _ _ _ _ ⟨hK, hP, hD, hS, hpre, hh, hl, hlv, hsk1⟩)
      · exact lv_if_le hx hb (hd (by simp [eLen])) hlk (fun hq => K _ (eBr_yes hs hxq hz hst hq) _ _ _ _ _ _ _ ⟨hK, hP, hD, hS, hpre, hh, hl, hlv, hsk1⟩) (fun hq => K _ (eBr_no hs hxq hz hst hq) _ _ _ _ _ _ _ ⟨hK, hP, hD, hS, hpre, hh, hl, hlv, hsk1⟩)
    · cases hst
  · rename_i kc off
    split at hst
    · rename_i x y r hg
      obtain ⟨u, v, r, rfl, hu, hv, hr⟩ := eTwo_ok hg hsk
      cases kc
      · exact lv_icmp_eq hx hb (hd (by simp [eLen])) hlk (fun hq => K _ (eBr_yes hs hu hv hst hq) _ _ _ _ _ _ _ ⟨hK, hP, hD, hS, hpre, hh, hl, hlv, hr⟩) (fun hq => K _ (eBr_no hs hu hv hst hq) _ _ _ _ _ _ _ ⟨hK, hP, hD, hS, hpre, hh, hl, hlv, hr⟩)
      · exact lv_icmp_ne hx hb (hd (by simp [eLen])) hlk (fun hq => K _ (eBr_yes hs hu hv hst hq) _ _ _ _ _ _ _ ⟨hK, hP, hD, hS, hpre, hh, hl, hlv, hr⟩) (fun hq => K _ (eBr_no hs hu hv hst (fun z => z hq)) _ _ _ _ _ _ _ ⟨hK, hP, hD, hS, hpre, hh, hl, hlv, hr⟩)
      · exact lv_icmp_lt hx hb (hd (by simp [eLen])) hlk (fun hq => K _ (eBr_yes hs hu hv hst hq) _ _ _ _ _ _ _ ⟨hK, hP, hD, hS, hpre, hh, hl, hlv, hr⟩) (fun hq => K _ (eBr_no hs hu hv hst hq) _ _ _ _ _ _ _ ⟨hK, hP, hD, hS, hpre, hh, hl, hlv, hr⟩)
      · exact lv_icmp_ge hx hb (hd (by simp [eLen])) hlk (fun hq => K _ (eBr_yes hs hu hv hst hq) _ _ _ _ _ _ _ ⟨hK, hP, hD, hS, hpre, hh, hl, hlv, hr⟩) (fun hq => K _ (eBr_no hs hu hv hst hq) _ _ _ _ _ _ _ ⟨hK, hP, hD, hS, hpre, hh, hl, hlv, hr⟩)
      · exact lv_icmp_gt hx hb (hd (by simp [eLen])) hlk (fun hq => K _ (eBr_yes hs hu hv hst hq) _ _ _ _ _ _ _ ⟨hK, hP, hD, hS, hpre, hh, hl, hlv, hr⟩) (fun hq => K _ (eBr_no hs hu hv hst hq) _ _ _ _ _ _ _ ⟨hK, hP, hD, hS, hpre, hh, hl, hlv, hr⟩)
      · exact lv_icmp_le hx hb (hd (by simp [eLen])) hlk (fun hq => K _ (eBr_yes hs hu hv hst hq) _ _ _ _ _ _ _ ⟨hK, hP, hD, hS, hpre, hh, hl, hlv, hr⟩) (fun hq => K _ (eBr_no hs hu hv hst hq) _ _ _ _ _ _ _ ⟨hK, hP, hD, hS, hpre, hh, hl, hlv, hr⟩)
    · cases hst
  · split at hst
    · cases hst
      obtain ⟨w, stk, rfl, ⟨y, hya, rfl⟩, hsk1⟩ := eAll_cons hsk
      exact lv_ifnull hx hb (hd (by simp [eLen])) (K _ List.mem_cons_self _ _ _ _ _ _ _ ⟨hK, hP, hD, hS, hpre, hh, hl, hlv, hsk1⟩)
    · cases hst
      obtain ⟨w, stk, rfl, hw, hsk1⟩ := eAll_cons hsk
      have hw : w = .null := hw
      subst hw
      exact lv_ifnullN hx hb (hd (by simp [eLen])) hlk (K _ List.mem_cons_self _ _ _ _ _ _ _ ⟨hK, hP, hD, hS, hpre, hh, hl, hlv, hsk1⟩)
    · cases hst
  · split at hst
    · cases hst
      obtain ⟨w, stk, rfl, ⟨y, hya, rfl⟩, hsk1⟩ := eAll_cons hsk
      exact lv_ifnonnull hx hb (hd (by simp [eLen])) hlk (K _ List.mem_cons_self _ _ _ _ _ _ _ ⟨hK, hP, hD, hS, hpre, hh, hl, hlv, hsk1⟩)
    · cases hst
      obtain ⟨w, stk, rfl, hw, hsk1⟩ := eAll_cons hsk
      have hw : w = .null := hw
      subst hw
      exact lv_ifnonnullN hx hb (hd (by simp [eLen])) (K _ List.mem_cons_self _ _ _ _ _ _ _ ⟨hK, hP, hD, hS, hpre, hh, hl, hlv, hsk1⟩)
    · cases hst
  · rename_i dflt lo hi offs
    obtain ⟨len, hd0⟩ := hd0
    split at hst
    · rename_i q r
      obtain ⟨w, stk, rfl, ⟨x, rfl, hxq⟩, hsk1⟩ := eAll_cons hsk
      split at hst
      · rename_i y hy
        have e1 := eOne_ok h0 hxq hy
        subst e1
        cases hc : (eLe lo x.toInt && eLe x.toInt hi) with
        | true =>
          rw [hc] at hst
          rw [Bool.and_eq_true] at hc
          have c1 := eLe_ok hc.1
          have c2 := eLe_ok hc.2
          simp only [cond_true] at hst
          split at hst
          · rename_i off hoff
            obtain ⟨hn, hg⟩ := eCond hst
            cases hg
            have hn := eLe_ok hn
            exact lv_tableIn hx hb hd0 (by omega) (by omega) hoff (by omega) (K _ List.mem_cons_self _ _ _ _ _ _ _ ⟨hK, hP, hD, hS, hpre, hh, hl, hlv, hsk1⟩)
          · cases hst
        | false =>
          rw [hc] at hst
          obtain ⟨hn, hg⟩ := eCond (show cond _ _ none = some outs from hst)
          cases hg
          have hn := eLe_ok hn
          rw [Bool.and_eq_false_iff] at hc
          exact lv_tableOut hx hb hd0 (by rcases hc with z | z; exact Or.inl (eLe_no z); exact Or.inr (eLe_no z)) (by omega) (K _ List.mem_cons_self _ _ _ _ _ _ _ ⟨hK, hP, hD, hS, hpre, hh, hl, hlv, hsk1⟩)
      · obtain ⟨hn, hg⟩ := eCond hst
        cases hg
        rw [Bool.and_eq_true, Bool.or_eq_true] at hn
        have hr := eRg_ok hs hxq
        have hn2 := eLe_ok hn.2
        exact lv_tableOut hx hb hd0 (by rcases hn.1 with z | z; exact Or.inl (by have := eLe_ok z; omega); exact Or.inr (by have := eLe_ok z; omega)) (by omega) (K _ List.mem_cons_self _ _ _ _ _ _ _ ⟨hK, hP, hD, hS, hpre, hh, hl, hlv, hsk1⟩)
    · cases hst
  · cases hst
end ESO
end
section
/-! ===== BEGIN new T[n][m]: the outer array a place, the inner ones among the pooled ===== -/
/-- f, but v at every address of l -/
def vr_up {α : Type} (f : Nat → α) (l : List Nat) (v : α) : Nat → α := fun a => if a ∈ l then v else f a
theorem vr_up_in {α : Type} {f : Nat → α} {l : List Nat} {v : α} {a : Nat} (h : a ∈ l) : vr_up f l v a = v := if_pos h
theorem vr_up_ne {α : Type} {f : Nat → α} {l : List Nat} {v : α} {a : Nat} (h : a ∉ l) : vr_up f l v a = f a := if_neg h
theorem vr_rows {L l : List Nat} {f : Nat → va_E} {e : va_E} (h : ∀ a, a ∈ l → a ∉ L) : va_pl L f ++ l.map (fun a => (a, e)) = va_pl (L ++ l) (vr_up f l e) := by
  unfold va_pl
  rw [List.map_append]
  congr 1
  · apply List.map_congr_left
    intro a ha
    rw [vr_up_ne (fun q => h a q ha)]
  · apply List.map_congr_left
    intro a ha
    rw [vr_up_in ha]
theorem vr_lay {X rows : va_W} {x : Nat × va_E} {pl : va_W} {D : va_G} {cl : List vw_C} {H : Heap} (hP : va_P D cl (((X ++ pl) ++ [x]) ++ rows) H) : va_P D cl ((X ++ [x]) ++ (pl ++ rows)) H := by
  rw [List.append_assoc (X ++ pl)] at hP
  have h := va_P.swap hP
  rw [← List.append_assoc X] at h
  have h2 := va_P.swap h
  rw [List.append_assoc (X ++ [x])] at h2
  exact h2
theorem vr_layD {X rows : va_W} {x : Nat × va_E} {pl : va_W} {A : Nat → Prop} (hD : va_D A (((X ++ pl) ++ [x]) ++ rows)) : va_D A ((X ++ [x]) ++ (pl ++ rows)) := by
  rw [List.append_assoc (X ++ pl)] at hD
  have h := va_D.swap hD
  rw [← List.append_assoc X] at h
  have h2 := va_D.swap h
  rw [List.append_assoc (X ++ [x])] at h2
  exact h2
theorem vr_outer (c : ClassId) (N h0 : Nat) : ∀ i : Nat, Jvm.Free.Multi.outerC c N h0 i = arrV c N (fun j => va_rf (if j < i then some (h0 + 1 + j) else none))
  | 0 => by
    show ({ cls := c, slots := Array.replicate N .null, vm := .none } : Cell) = _
    rw [arrV_new]
    refine congrArg (arrV c N) (funext fun j => ?_)
    simp [va_rf]
  | i + 1 => by
    show (Jvm.Free.Multi.outerC c N h0 i).setSlot i (.ref (h0 + 1 + i)) = _
    rw [vr_outer c N h0 i, arrV_store]
    refine congrArg (arrV c N) (funext fun j => ?_)
    by_cases e : j = i
    · subst e
      simp [updV, va_rf]
    · by_cases h : j < i
      · simp [updV, e, h, Nat.lt_succ_of_lt h]
      · simp [updV, e, h, show ¬ j < i + 1 by omega]
section VGM
variable {p : Program} {l : Launch} {e : Env} {R : Room} {s : State} {m : MethodId} {args : Array Value} {below : List Frame} {meth : Method} {c : Code} {H : Heap} {locs : List Loc} {cells slots : Nat} {Q : State → Prop}
variable {cc : ByteArray} {pc : Nat} {ls : Array Slot} {rest : List Value} {D : va_G} {cl : List vw_C} {A : Nat → Prop} {a : Nat} {tys : List (ClassId × FieldType)} {ws : va_W} {H0 : Heap}
theorem va_mna {X : va_W} {L : List Nat} {f : Nat → va_E} {cc : ByteArray} (hexec : p.tables.exec = Jvm.exec) (hb : c.code = cc) {own : String} {index : Nat} {ty : FieldType} {cy : ClassId} (hown : s.vm.findClass own = some m.cls) (hclink : (Cond.classLink own index ("[" ++ (FieldType.array ty).toString)).before args s = true) (hover : (Cond.arrayOver (.array ty)).before args s = true) (harr : (Cond.arrayClass ty).before args s = true) (hcy : s.vm.findClass (FieldType.array ty).toString = some cy)
    (hK : va_K D cl tys s) (hP : va_P D cl (X ++ va_pl L f) H) (hD : va_D A (X ++ va_pl L f)) (hS : va_S A H0 H locs) (hA : ∀ q, H0.size ≤ q → A q) {n k : Int32} {N' K' : Nat} {z : vp_A} (hn : ¬ n < 0) (hk : ¬ k < 0) (hN : n.toNatClampNeg = N') (hM : k.toNatClampNeg = K')
    (hb1 : N' * 4 ≤ 536870912) (hb2 : K' * componentBytes ty ≤ 536870912) (hb3 : K' ≤ 536870912) (hdf : fits ty (defaultValue ty) = true) (hdd : (defaultValue ty).isDefault = true) (hcells : cells + (1 + N') ≤ R.cells) (hslots : slots + (N' + N' * K') ≤ R.slots) (hz : ∀ c : ClassId, Jvm.Free.Multi.innerC c K' (defaultValue ty) = vp_cell c z) (hdg : decode cc pc = .ok (.multianewarray index 2, 4))
    (kk : ∀ (q : Nat) (r : Nat → Nat) (cA : ClassId) (H1 : Heap), (∀ i j : Nat, i < N' → j < N' → r i = r j → i = j) → (∀ i : Nat, i < N' → r i ∉ L) → va_K D cl (tys ++ [(cA, .array ty)]) s →
      va_P D cl ((X ++ [(q, .inl (cA, N', .inr (.inr (.inr (.inr (fun i => if i < N' then some (r i) else none))))))]) ++ va_pl (L ++ (List.range N').map r) (vr_up f ((List.range N').map r) (.inl (cy, z)))) H1 → va_D A ((X ++ [(q, .inl (cA, N', .inr (.inr (.inr (.inr (fun i => if i < N' then some (r i) else none))))))]) ++ va_pl (L ++ (List.range N').map r) (vr_up f ((List.range N').map r) (.inl (cy, z)))) → va_S A H0 H1 locs →
      W p l e R s m args below meth c H1 locs (cells + 1 + N') (slots + N' + N' * K') Q (F0 m (pc + 4) ls (.ref q :: rest))) : W p l e R s m args below meth c H locs cells slots Q (F0 m pc ls (.int k :: .int n :: rest)) := by
  subst hN
  subst hM
  intro T hT Xs
  obtain ⟨vm₁, cA, comp, -, fA, fC, hO, -, X', step⟩ := Xs.multianewarray2F hexec hown hclink hover harr (g := F0 m pc ls (.int k :: .int n :: rest)) rfl (by rw [hb]; exact hdg) rfl hn hk hb1 hb2 hb3 hdf hdd hcells hslots
  have ec : some cy = some comp := hcy.symm.trans fC
  cases ec
  generalize hF : Jvm.Free.Multi.fill (T.setVm vm₁) cA cy n.toNatClampNeg k.toNatClampNeg (defaultValue ty) n.toNatClampNeg = F at X' step
  have hTh : (T.setVm vm₁).heap = H := hT
  obtain ⟨f1, f2, -, -⟩ := Jvm.Free.Multi.fill_facts (T.setVm vm₁) cA cy n.toNatClampNeg k.toNatClampNeg (defaultValue ty) n.toNatClampNeg
  rw [hF, hTh] at f1 f2
  have hold : ∀ x : Nat, x < H.size → F.heap[x]? = H[x]? := fun x hx => by
    have := Jvm.Free.Multi.fill_old (T.setVm vm₁) cA cy n.toNatClampNeg k.toNatClampNeg (defaultValue ty) (a := x) (by rw [hTh]; exact hx) n.toNatClampNeg
    rw [hF, hTh] at this
    exact this
  have hrow : ∀ j : Nat, j < n.toNatClampNeg → F.heap[H.size + 1 + j]? = some (vp_cell cy z) := fun j hj => by
    have := Jvm.Free.Multi.fill_inner (T.setVm vm₁) cA cy n.toNatClampNeg k.toNatClampNeg (defaultValue ty) n.toNatClampNeg j hj
    rw [hF, hTh, hz] at this
    exact this
  have hout : Jvm.Free.Multi.outerC cA n.toNatClampNeg H.size n.toNatClampNeg = vp_cell cA (n.toNatClampNeg, .inr (.inr (.inr (.inr (fun i => if i < n.toNatClampNeg then some (H.size + 1 + i) else none))))) := by
    rw [vp_cell_q]
    exact vr_outer cA n.toNatClampNeg H.size n.toNatClampNeg
  rw [hout] at f2
  have hlt : ∀ a, a ∈ L → a < H.size := fun a ha => by
    obtain ⟨k9, hk9⟩ := va_pl_get (X := X) (f := f) ha
    exact (hP k9 _ hk9).lt
  have hnl : ∀ i : Nat, i < n.toNatClampNeg → H.size + 1 + i ∉ L := fun i _ h => by
    have := hlt _ h
    omega
  have hnm : ∀ a, a ∈ (List.range n.toNatClampNeg).map (fun i => H.size + 1 + i) → a ∉ L := fun a ha h => by
    obtain ⟨i, -, rfl⟩ := List.mem_map.mp ha
    have := hlt _ h
    omega
  have hP0 : va_P D cl (X ++ va_pl L f) F.heap := hP.kept (fun k9 x hx => hold x.1 ((hP k9 x hx).lt))
  have hP1 : va_P D cl ((X ++ va_pl L f) ++ [(H.size, .inl (cA, n.toNatClampNeg, .inr (.inr (.inr (.inr (fun i => if i < n.toNatClampNeg then some (H.size + 1 + i) else none))))))]) F.heap := hP0.app (fun k9 x hx => by
    have h0 : k9 < 1 := (List.getElem?_eq_some_iff.mp hx).1
    rw [show k9 = 0 by omega] at hx
    cases hx
    exact f2)
  have hP2 : va_P D cl (((X ++ va_pl L f) ++ [(H.size, .inl (cA, n.toNatClampNeg, .inr (.inr (.inr (.inr (fun i => if i < n.toNatClampNeg then some (H.size + 1 + i) else none))))))]) ++ ((List.range n.toNatClampNeg).map (fun i => H.size + 1 + i)).map (fun a => (a, .inl (cy, z)))) F.heap := hP1.app (fun k9 x hx => by
    obtain ⟨a, ha, rfl⟩ := List.mem_map.mp (List.mem_of_getElem? hx)
    obtain ⟨i, hi, rfl⟩ := List.mem_map.mp ha
    exact hrow i (List.mem_range.mp hi))
  have hD2 : va_D A (((X ++ va_pl L f) ++ [(H.size, .inl (cA, n.toNatClampNeg, .inr (.inr (.inr (.inr (fun i => if i < n.toNatClampNeg then some (H.size + 1 + i) else none))))))]) ++ ((List.range n.toNatClampNeg).map (fun i => H.size + 1 + i)).map (fun a => (a, .inl (cy, z)))) := by
    have hD1 := hD.push (e := .inl (cA, n.toNatClampNeg, .inr (.inr (.inr (.inr (fun i => if i < n.toNatClampNeg then some (H.size + 1 + i) else none)))))) hP rfl (hA _ hS.1)
    generalize hW1 : (X ++ va_pl L f) ++ [(H.size, .inl (cA, n.toNatClampNeg, .inr (.inr (.inr (.inr (fun i => if i < n.toNatClampNeg then some (H.size + 1 + i) else none))))))] = W1 at hD1 hP1 ⊢
    have hle : ∀ (k9 : Nat) (x : Nat × va_E), W1[k9]? = some x → x.1 ≤ H.size := fun k9 x hx => by
      rw [← hW1] at hx
      by_cases hl : k9 < (X ++ va_pl L f).length
      · rw [List.getElem?_append_left hl] at hx
        exact Nat.le_of_lt ((hP k9 x hx).lt)
      · rw [List.getElem?_append_right (by omega)] at hx
        have h0 : k9 - (X ++ va_pl L f).length < 1 := (List.getElem?_eq_some_iff.mp hx).1
        rw [show k9 - (X ++ va_pl L f).length = 0 by omega] at hx
        cases hx
        exact Nat.le_refl _
    have hr : ∀ (k9 : Nat) (x : Nat × va_E), (((List.range n.toNatClampNeg).map (fun i => H.size + 1 + i)).map (fun a => ((a, .inl (cy, z)) : Nat × va_E)))[k9]? = some x → x.1 = H.size + 1 + k9 := fun k9 x hx => by
      rw [List.getElem?_map, List.getElem?_map] at hx
      by_cases h9 : k9 < n.toNatClampNeg
      · rw [List.getElem?_range h9] at hx
        cases hx
        rfl
      · have hn0 : (List.range n.toNatClampNeg)[k9]? = none := List.getElem?_eq_none (by rw [List.length_range]; omega)
        rw [hn0] at hx
        cases hx
    refine ⟨fun i j x y hi hj hxy => ?_, fun k9 x hx => ?_⟩
    · by_cases h1 : i < W1.length <;> by_cases h2 : j < W1.length
      · rw [List.getElem?_append_left h1] at hi
        rw [List.getElem?_append_left h2] at hj
        exact hD1.1 i j x y hi hj hxy
      · rw [List.getElem?_append_left h1] at hi
        rw [List.getElem?_append_right (by omega)] at hj
        have := hle _ _ hi
        have := hr _ _ hj
        omega
      · rw [List.getElem?_append_right (by omega)] at hi
        rw [List.getElem?_append_left h2] at hj
        have := hle _ _ hj
        have := hr _ _ hi
        omega
      · rw [List.getElem?_append_right (by omega)] at hi hj
        have := hr _ _ hi
        have := hr _ _ hj
        omega
    · by_cases h1 : k9 < W1.length
      · rw [List.getElem?_append_left h1] at hx
        exact hD1.2 k9 x hx
      · rw [List.getElem?_append_right (by omega)] at hx
        have := hr _ _ hx
        exact hA _ (by have := hS.1; omega)
  have hAr : ArrOfT s cA (.array ty) := fun N9 z9 => by
    obtain ⟨-, k9, hk9, cm9, hkk9⟩ := (hO 0 0 0).1
    exact ⟨(fun q hq => by cases hq), k9, hk9, cm9, hkk9⟩
  have hK2 : va_K D cl (tys ++ [(cA, .array ty)]) s := ⟨hK.1, fun k9 x hx => by
    by_cases hl : k9 < tys.length
    · rw [List.getElem?_append_left hl] at hx
      exact hK.2 k9 x hx
    · rw [List.getElem?_append_right (by omega)] at hx
      have h0 : k9 - tys.length < 1 := (List.getElem?_eq_some_iff.mp hx).1
      rw [show k9 - tys.length = 0 by omega] at hx
      cases hx
      exact ⟨hAr, fA⟩⟩
  obtain ⟨t, a1, b1⟩ := kk H.size (fun i => H.size + 1 + i) cA F.heap (fun i j _ _ h => by have h9 : H.size + 1 + i = H.size + 1 + j := h; omega) hnl hK2 (by rw [← vr_rows hnm]; exact vr_lay hP2) (by rw [← vr_rows hnm]; exact vr_layD hD2) ⟨by rw [f1]; have := hS.1; omega, fun x h1 h2 => (hold x (Nat.lt_of_lt_of_le h1 hS.1)).trans (hS.2.1 x h1 h2), hS.2.2⟩ F rfl X'
  refine ⟨t, step t ?_, b1⟩
  have e : T.heap.size = H.size := by rw [hT]
  rw [e]
  exact a1
end VGM
/-! ===== END ===== -/
end
section
/-! THE ENGINE, 6: Object's start, Math.min and max, arraycopy; rows of rows. -/
theorem eMin_or (a b : Int) : eMin a b = a ∨ eMin a b = b := by
  unfold eMin
  cases eLe a b with
  | true => exact Or.inl rfl
  | false => exact Or.inr rfl
theorem eMax_or (a b : Int) : eMax a b = a ∨ eMax a b = b := by
  unfold eMax
  cases eLe a b with
  | true => exact Or.inr rfl
  | false => exact Or.inl rfl
theorem eMn_ok {sr : List (Int × Int)} {σ : Nat → Int} (hs : eSg sr σ) {a b : eI} {x y : Int32} (ha : eIn σ a x) (hb : eIn σ b y) : eIn σ (eMn sr a b) (if y < x then y else x) := by
  have ra := eRg_ok hs ha
  have rb := eRg_ok hs hb
  have h0 := hs.1
  have m1 := eMin_ok (eRg sr a).1 (eRg sr b).1
  have m2 := eMin_or (eRg sr a).2 (eRg sr b).2
  by_cases hc : y < x
  · have hq := Int32.lt_iff_toInt_lt.mp hc
    rw [if_pos hc]
    exact eIn_mk (by rw [h0]; omega) (by rw [h0]; omega)
  · have hq : ¬ y.toInt < x.toInt := fun q => hc (Int32.lt_iff_toInt_lt.mpr q)
    rw [if_neg hc]
    exact eIn_mk (by rw [h0]; omega) (by rw [h0]; omega)
theorem eMx_ok {sr : List (Int × Int)} {σ : Nat → Int} (hs : eSg sr σ) {a b : eI} {x y : Int32} (ha : eIn σ a x) (hb : eIn σ b y) : eIn σ (eMx sr a b) (if x < y then y else x) := by
  have ra := eRg_ok hs ha
  have rb := eRg_ok hs hb
  have h0 := hs.1
  have m1 := eMax_or (eRg sr a).1 (eRg sr b).1
  have m2 := eMax_ok (eRg sr a).2 (eRg sr b).2
  by_cases hc : x < y
  · have hq := Int32.lt_iff_toInt_lt.mp hc
    rw [if_pos hc]
    exact eIn_mk (by rw [h0]; omega) (by rw [h0]; omega)
  · have hq : ¬ x.toInt < y.toInt := fun q => hc (Int32.lt_iff_toInt_lt.mpr q)
    rw [if_neg hc]
    exact eIn_mk (by rw [h0]; omega) (by rw [h0]; omega)
theorem eCats_ok {ad : List Nat} {σ : Nat → Int} : ∀ {r : List eV} {rest : List Value}, eAll (eOk ad σ) r rest → (rest.map fun v => v.category).sum = eCats r
  | [], _, h => by rw [eAll_nil h]; rfl
  | v :: r, rest, h => by
    obtain ⟨w, rs, rfl, h1, h2⟩ := eAll_cons h
    simp only [List.map_cons, List.sum_cons, eCats]
    rw [eOk_cat h1, eCats_ok h2]
theorem eJoin_ok {sr : List (Int × Int)} {σ : Nat → Int} (hs : eSg sr σ) {ad : List Nat} : ∀ {es : List eV} {q q' : Int × Int}, eJoin sr es q = some q' → q'.1 ≤ q.1 ∧ q.2 ≤ q'.2 ∧ ∀ (j : Nat) (v : eV) (x : Int32), es[j]? = some v → eOk ad σ v (.int x) → q'.1 ≤ x.toInt ∧ x.toInt ≤ q'.2
  | [], q, q', h => by
    cases h
    exact ⟨Int.le_refl _, Int.le_refl _, fun j v x hj => by simp at hj⟩
  | .inl v :: es, q, q', h => by
    obtain ⟨h1, h2, h3⟩ := eJoin_ok hs (ad := ad) (es := es) h
    have m1 := eMin_ok q.1 (eRg sr v).1
    have m2 := eMax_ok q.2 (eRg sr v).2
    have h1 : q'.1 ≤ eMin q.1 (eRg sr v).1 := h1
    have h2 : eMax q.2 (eRg sr v).2 ≤ q'.2 := h2
    refine ⟨by omega, by omega, fun j v' x hj hx => ?_⟩
    cases j with
    | zero =>
      simp at hj
      subst hj
      obtain ⟨z, hz, hq⟩ := hx
      cases hz
      have := eRg_ok hs hq
      exact ⟨by omega, by omega⟩
    | succ j => exact h3 j v' x (by simpa using hj) hx
  | .inr _ :: _, q, q', h => by cases h
theorem eCpL {α : Type} {e0 e1 : List α} {sp dp n n0 n1 : Nat} (l0 : n0 ≤ e0.length) (l1 : n1 ≤ e1.length) (h0 : sp + n ≤ n0) (h1 : dp + n ≤ n1) (j : Nat) : (e1.take dp ++ ((e0.drop sp).take n ++ e1.drop (dp + n)))[j]? = if dp ≤ j ∧ j < dp + n then e0[sp + (j - dp)]? else e1[j]? := by
  have t1 : (e1.take dp).length = dp := by rw [List.length_take]; omega
  have t2 : ((e0.drop sp).take n).length = n := by rw [List.length_take, List.length_drop]; omega
  by_cases c1 : j < dp
  · rw [if_neg (by omega), List.getElem?_append_left (by omega), List.getElem?_take_of_lt c1]
  · rw [List.getElem?_append_right (by omega), t1]
    by_cases c2 : j < dp + n
    · rw [if_pos ⟨by omega, c2⟩, List.getElem?_append_left (by omega), List.getElem?_take_of_lt (by omega), List.getElem?_drop]
    · rw [if_neg (by omega), List.getElem?_append_right (by omega), t2, List.getElem?_drop]
      congr 1
      omega
section EBL
variable {ad : List Nat} {σ : Nat → Int} {tys : List (ClassId × FieldType)} {h h' : eH} {ws : va_W} {sr : List (Int × Int)}
theorem eCt_len {n : Nat} {f : Nat → Int32} {es : List eV} (h : eCt ad σ n f (.inl es)) : n ≤ es.length := by
  cases n with
  | zero => exact Nat.zero_le _
  | succ n =>
    obtain ⟨v, h1, -⟩ := h n (Nat.lt_succ_self n)
    exact (List.getElem?_eq_some_iff.mp h1).1
theorem eCopy_ok (hs : eSg sr σ) {k0 sp k1 dp n : Nat} (hf : eCopy sr h k0 sp k1 dp n = some h') (hh : eAll (eCk ad σ tys) h ws) : ∃ (a0 a1 : Nat) (c0 c1 : ClassId) (t0 t1 n0 n1 : Nat) (f g : Nat → Int32), ws[k0]? = some (a0, .inl (c0, n0, .inl f)) ∧ ws[k1]? = some (a1, .inl (c1, n1, .inl g)) ∧ tys[t0]? = some (c0, .int) ∧ tys[t1]? = some (c1, .int) ∧ sp + n ≤ n0 ∧ dp + n ≤ n1 ∧ eAll (eCk ad σ tys) h' (ws.set k1 (a1, .inl (c1, n1, .inl (va_cpy f g sp dp n)))) := by
  unfold eCopy at hf
  split at hf
  · rename_i t0 n0 c0 t1 n1 c1 ho0 ho1
    obtain ⟨hc, hg⟩ := eCond hf
    clear hf
    simp only [Bool.and_eq_true] at hc
    obtain ⟨⟨⟨⟨hc1, hc2⟩, hc3⟩, hc4⟩, hc5⟩ := hc
    have e0 := Nat.eq_of_beq_eq_true hc1
    have e1 := Nat.eq_of_beq_eq_true hc2
    have b4 := Nat.le_of_ble_eq_true hc4
    have b5 := Nat.le_of_ble_eq_true hc5
    subst e0
    subst e1
    obtain ⟨⟨a0, x0⟩, h1, cA0, s0, ht0, hN0, hr0⟩ := eAll_get hh ho0
    obtain ⟨⟨a1, x1⟩, h2, cA1, s1, ht1, hN1, hr1⟩ := eAll_get hh ho1
    obtain ⟨f, z0, hf0⟩ := eAr_int (Or.inl rfl) hr0
    obtain ⟨g, z1, hg1⟩ := eAr_int (Or.inl rfl) hr1
    have z0 : x0 = .inl (cA0, n0, .inl f) := z0
    have z1 : x1 = .inl (cA1, n1, .inl g) := z1
    subst z0
    subst z1
    refine ⟨a0, a1, cA0, cA1, s0, s1, n0, n1, f, g, h1, h2, ht0, ht1, b4, b5, ?_⟩
    have fin : ∀ c', eCt ad σ n1 (va_cpy f g sp dp n) c' → eAll (eCk ad σ tys) (h.set k1 (.inr (0, n1, c'))) (ws.set k1 (a1, .inl (cA1, n1, .inl (va_cpy f g sp dp n)))) := fun c' hc' => eAll_set hh k1 ⟨cA1, s1, ht1, hN1, eInt_ar (Or.inl rfl) hc'⟩
    split at hg
    · rename_i es0 es1
      cases hg
      refine fin _ (fun j hj => ?_)
      have l0 := eCt_len hf0
      have l1 := eCt_len hg1
      have e := eCpL (e0 := es0) (e1 := es1) l0 l1 b4 b5 j
      by_cases hq : dp ≤ j ∧ j < dp + n
      · obtain ⟨v, g1, g2⟩ := hf0 (sp + (j - dp)) (show sp + (j - dp) < n0 by omega)
        refine ⟨v, by rw [e, if_pos hq]; exact g1, ?_⟩
        rw [show va_cpy f g sp dp n j = f (sp + (j - dp)) from if_pos hq]
        exact g2
      · obtain ⟨v, g1, g2⟩ := hg1 j hj
        refine ⟨v, by rw [e, if_neg hq]; exact g1, ?_⟩
        rw [show va_cpy f g sp dp n j = g j from if_neg hq]
        exact g2
    · rename_i es0 q1
      split at hg
      · rename_i q' hq'
        cases hg
        obtain ⟨j1, j2, j3⟩ := eJoin_ok hs (ad := ad) hq'
        refine fin _ (fun j hj => ?_)
        by_cases hq : dp ≤ j ∧ j < dp + n
        · obtain ⟨v, g1, g2⟩ := hf0 (sp + (j - dp)) (show sp + (j - dp) < n0 by omega)
          rw [show va_cpy f g sp dp n j = f (sp + (j - dp)) from if_pos hq]
          exact j3 _ _ _ g1 g2
        · have := hg1 j hj
          rw [show va_cpy f g sp dp n j = g j from if_neg hq]
          exact ⟨by omega, by omega⟩
      · cases hg
    · rename_i q0 q1
      cases hg
      have m1 := eMin_ok q0.1 q1.1
      have m2 := eMax_ok q0.2 q1.2
      refine fin _ (fun j hj => ?_)
      show eMin q0.1 q1.1 ≤ _ ∧ _ ≤ eMax q0.2 q1.2
      by_cases hq : dp ≤ j ∧ j < dp + n
      · have := hf0 (sp + (j - dp)) (show sp + (j - dp) < n0 by omega)
        rw [show va_cpy f g sp dp n j = f (sp + (j - dp)) from if_pos hq]
        exact ⟨by omega, by omega⟩
      · have := hg1 j hj
        rw [show va_cpy f g sp dp n j = g j from if_neg hq]
        exact ⟨by omega, by omega⟩
    · cases hg
  · cases hf
end EBL
/-- what links a call that the machine has a row for -/
def eLb (Ts : List Cond) (own : String) (idx kd : Nat) : Prop := match kd with
  | 6 => Cond.methodLink own idx Lib.objectInit ∈ Ts ∧ Cond.instanceMethod Lib.objectInit ∈ Ts ∧ Cond.code Lib.objectInit ⟨#[0xb1]⟩ 1 none ∈ Ts
  | 7 => Cond.methodLink own idx Lib.Math.min.name ∈ Ts ∧ Cond.static Lib.Math.min.name ∈ Ts ∧ Cond.initialized "java/lang/Math" ∈ Ts ∧ Cond.code Lib.Math.min.name Lib.Math.min.code 2 (some .int) ∈ Ts
  | 8 => Cond.methodLink own idx Lib.Math.max.name ∈ Ts ∧ Cond.static Lib.Math.max.name ∈ Ts ∧ Cond.initialized "java/lang/Math" ∈ Ts ∧ Cond.code Lib.Math.max.name Lib.Math.max.code 2 (some .int) ∈ Ts
  | 9 => Cond.methodLink own idx arraycopyName ∈ Ts ∧ Cond.native arraycopyName ∈ Ts ∧ Cond.static arraycopyName ∈ Ts ∧ Cond.initialized "java/lang/System" ∈ Ts
  | _ => False
section EBO
variable {p : Program} {l0 : Launch} {e : Env} {R : Room} {s : State} {m : MethodId} {args : Array Value} {below : List Frame} {meth : Method} {c : Code} {Q : State → Prop}
variable {cc : ByteArray} {own : String} {Ts : List Cond} {cl : List vw_C} {sr : List (Int × Int)} {σ : Nat → Int} {D : va_G} {A : Nat → Prop} {H0 : Heap} {ad0 : List Nat} {nL : Nat}
theorem eBlt_ok (hx : p.tables.exec = Jvm.exec) (hb : c.code = cc) (hown : s.vm.findClass own = some m.cls) (hts : ∀ w ∈ Ts, w.before args s = true) (hml : c.maxLocals = nL) (hR1 : 1 ≤ R.frames) (hR2 : 128 ≤ R.locals) (hs : eSg sr σ)
    {idx kd pc cs sl : Nat} {l : eL} {st st' : List eV} {h h' : eH} (hcs : cs ≤ R.cells) (hsl : sl ≤ R.slots) (hd6 : kd = 6 → decode cc pc = .ok (.invokespecial idx, 3)) (hdS : kd ≠ 6 → decode cc pc = .ok (.invokestatic idx, 3)) (hlk : eLb Ts own idx kd)
    (hst : eBlt sr kd h st = some (st', h'))
    (K : ∀ (H : Heap) (locs : List Loc) (ws : va_W) (tys : List (ClassId × FieldType)) (ls : Array Slot) (lv : List (Nat × Value)) (stk : List Value), eCn D cl A H0 s σ nL ad0 (pc + 3, l, st', h', cs, sl) H locs ws tys ls lv stk → W p l0 e R s m args below meth c H locs cs sl Q (F0 m (pc + 3) ls stk)) :
    ∀ (H : Heap) (locs : List Loc) (ws : va_W) (tys : List (ClassId × FieldType)) (ls : Array Slot) (lv : List (Nat × Value)) (stk : List Value), eCn D cl A H0 s σ nL ad0 (pc, l, st, h, cs, sl) H locs ws tys ls lv stk → W p l0 e R s m args below meth c H locs cs sl Q (F0 m pc ls stk) := by
  intro H locs ws tys ls lv stk hc
  obtain ⟨hK, hP, hD, hS, hpre, hh, hl, hlv, hsk⟩ := hc
  have h0 := hs.1
  have hsz : ls.size = c.maxLocals := by rw [hml]; exact hl.1
  unfold eBlt at hst
  split at hst
  · split at hst
    · obtain ⟨hn, hg⟩ := eCond hst
      cases hg
      have hn := Nat.le_of_ble_eq_true hn
      obtain ⟨w, stk, rfl, ⟨x, hxa, rfl⟩, hsk1⟩ := eAll_cons hsk
      have hcat := eCats_ok hsk1
      exact W.objInit hx hb hown (hts _ hlk.1) (hts _ hlk.2.1) (hts _ hlk.2.2) rfl hsz rfl (hd6 rfl) hR1 (by rw [hcat]; show 2 * 0 + _ + 12 ≤ _; omega) (K _ _ _ _ _ _ _ ⟨hK, hP, hD, hS, hpre, hh, hl, hlv, hsk1⟩)
    · cases hst
  · split at hst
    · rename_i x y r hg
      obtain ⟨hn, hg2⟩ := eCond hst
      cases hg2
      have hn := Nat.le_of_ble_eq_true hn
      obtain ⟨u, v, r, rfl, hu, hv, hr⟩ := eTwo_ok hg hsk
      have hcat := eCats_ok hr
      exact va_mmin hx hb hsz.symm hown (hts _ hlk.1) (hts _ hlk.2.1) (hts _ hlk.2.2.1) (hts _ hlk.2.2.2) hR1 (by rw [hcat]; omega) hcs hsl (hdS (by decide)) (K _ _ _ _ _ _ _ ⟨hK, hP, hD, hS, hpre, hh, hl, hlv, ⟨_, rfl, eMn_ok hs hu hv⟩, hr⟩)
    · cases hst
  · split at hst
    · rename_i x y r hg
      obtain ⟨hn, hg2⟩ := eCond hst
      cases hg2
      have hn := Nat.le_of_ble_eq_true hn
      obtain ⟨u, v, r, rfl, hu, hv, hr⟩ := eTwo_ok hg hsk
      have hcat := eCats_ok hr
      exact va_mmax hx hb hsz.symm hown (hts _ hlk.1) (hts _ hlk.2.1) (hts _ hlk.2.2.1) (hts _ hlk.2.2.2) hR1 (by rw [hcat]; omega) hcs hsl (hdS (by decide)) (K _ _ _ _ _ _ _ ⟨hK, hP, hD, hS, hpre, hh, hl, hlv, ⟨_, rfl, eMx_ok hs hu hv⟩, hr⟩)
    · cases hst
  · split at hst
    · obtain ⟨hn, hg⟩ := eCond hst
      clear hst
      have hn := Nat.le_of_ble_eq_true hn
      split at hg
      · rename_i n dp sp hn1 hn2 hn3
        obtain ⟨hn4, hg2⟩ := eCond hg
        clear hg
        split at hg2
        · rename_i h2 hcp
          cases hg2
          simp only [Bool.and_eq_true] at hn4
          obtain ⟨⟨p1, p2⟩, p3⟩ := hn4
          have p1 := eLe_ok p1
          have p2 := eLe_ok p2
          have p3 := eLe_ok p3
          obtain ⟨w, stk, rfl, ⟨x1, rfl, hx1⟩, hsk1⟩ := eAll_cons hsk
          obtain ⟨w, stk, rfl, ⟨x2, rfl, hx2⟩, hsk2⟩ := eAll_cons hsk1
          obtain ⟨w, stk, rfl, ⟨y1, hy1, rfl⟩, hsk3⟩ := eAll_cons hsk2
          obtain ⟨w, stk, rfl, ⟨x3, rfl, hx3⟩, hsk4⟩ := eAll_cons hsk3
          obtain ⟨w, stk, rfl, ⟨y2, hy2, rfl⟩, hsk5⟩ := eAll_cons hsk4
          have e1 := eOne_ok h0 hx1 hn1
          have e2 := eOne_ok h0 hx2 hn2
          have e3 := eOne_ok h0 hx3 hn3
          subst e1
          subst e2
          subst e3
          have hcat := eCats_ok hsk5
          obtain ⟨a0, a1, c0, c1, t0, t1, n0, n1, f, g, g1, g2, g3, g4, g5, g6, hh2⟩ := eCopy_ok hs hcp hh
          have e4 := eAd_at g2 hy1
          have e5 := eAd_at g1 hy2
          subst e4
          subst e5
          have neg : ∀ z : Int32, 0 ≤ z.toInt → ¬ z < 0 := fun z hz q => by have := Int32.lt_iff_toInt_lt.mp q; have e : (0 : Int32).toInt = 0 := rfl; omega
          exact va_copyi hx hb hsz.symm hown (hts _ hlk.1) (hts _ hlk.2.1) (hts _ hlk.2.2.1) (hts _ hlk.2.2.2) hK hP hD hS _ _ t0 t1 g1 g2 g3 g4 rfl (neg _ p3) (neg _ p2) (neg _ p1) g5 g6 (fun _ _ => rfl) hR1 (by rw [hcat]; show _ + (7 + 11) ≤ _; omega) (hdS (by decide)) (fun H1 locs1 hP hD hS => K _ _ _ _ _ _ _ (eCn_set hK g2 hP hD hS hpre hh2 hl hlv hsk5))
        · cases hg2
      · cases hg
    · cases hst
  · cases hst
end EBO
end
section
/-! THE ENGINE, 7: rows of rows. -/
section EMU
variable {p : Program} {l0 : Launch} {e : Env} {R : Room} {s : State} {m : MethodId} {args : Array Value} {below : List Frame} {meth : Method} {c : Code} {Q : State → Prop}
variable {cc : ByteArray} {own : String} {Ts : List Cond} {cl : List vw_C} {sr : List (Int × Int)} {σ : Nat → Int} {D : va_G} {A : Nat → Prop} {H0 : Heap} {ad0 : List Nat} {nL Rc Rs : Nat}
theorem eMul_ok (hx : p.tables.exec = Jvm.exec) (hb : c.code = cc) (hown : s.vm.findClass own = some m.cls) (hts : ∀ w ∈ Ts, w.before args s = true) (hov : (Cond.arrayOver (.array .int)).before args s = true) (hRc : R.cells = Rc) (hRs : R.slots = Rs) (hs : eSg sr σ) (hA : ∀ q, H0.size ≤ q → A q)
    {idx pc cs sl cs' sl' : Nat} {l : eL} {st st' : List eV} {h h' : eH} (hd : decode cc pc = .ok (.multianewarray idx 2, 4)) (hcl : Cond.classLink own idx ("[" ++ (FieldType.array .int).toString) ∈ Ts) (hac : Cond.arrayClass .int ∈ Ts)
    (hst : eMul Rc Rs st h cs sl = some (st', h', cs', sl'))
    (K : ∀ (H : Heap) (locs : List Loc) (ws : va_W) (tys : List (ClassId × FieldType)) (ls : Array Slot) (lv : List (Nat × Value)) (stk : List Value), eCn D cl A H0 s σ nL ad0 (pc + 4, l, st', h', cs', sl') H locs ws tys ls lv stk → W p l0 e R s m args below meth c H locs cs' sl' Q (F0 m (pc + 4) ls stk)) :
    ∀ (H : Heap) (locs : List Loc) (ws : va_W) (tys : List (ClassId × FieldType)) (ls : Array Slot) (lv : List (Nat × Value)) (stk : List Value), eCn D cl A H0 s σ nL ad0 (pc, l, st, h, cs, sl) H locs ws tys ls lv stk → W p l0 e R s m args below meth c H locs cs sl Q (F0 m pc ls stk) := by
  intro H locs ws tys ls lv stk hc
  obtain ⟨hK, hP, hD, hS, hpre, hh, hl, hlv, hsk⟩ := hc
  have h0 := hs.1
  unfold eMul at hst
  split at hst
  · split at hst
    · rename_i k n hk hn
      obtain ⟨hc, hg⟩ := eCond hst
      clear hst
      cases hg
      simp only [Bool.and_eq_true] at hc
      obtain ⟨⟨⟨⟨⟨n1, n2⟩, n3⟩, n4⟩, n5⟩, n6⟩ := hc
      have n1 := eLe_ok n1
      have n2 := eLe_ok n2
      have n3 := Nat.le_of_ble_eq_true n3
      have n4 := Nat.le_of_ble_eq_true n4
      have n5 := Nat.le_of_ble_eq_true n5
      have n6 := Nat.le_of_ble_eq_true n6
      obtain ⟨w, stk, rfl, ⟨x1, rfl, hx1⟩, hsk1⟩ := eAll_cons hsk
      obtain ⟨w, stk, rfl, ⟨x2, rfl, hx2⟩, hsk2⟩ := eAll_cons hsk1
      have e1 := eOne_ok h0 hx1 hk
      have e2 := eOne_ok h0 hx2 hn
      subst e1
      subst e2
      have neg : ∀ z : Int32, 0 ≤ z.toInt → ¬ z < 0 := fun z hz q => by have := Int32.lt_iff_toInt_lt.mp q; have e : (0 : Int32).toInt = 0 := rfl; omega
      have hacb := hts _ hac
      obtain ⟨cy, kc, comp, f1, f2, f3⟩ := Cond.arrayClass_spec hacb
      have hAi : ArrOfT s cy .int := fun N z => ⟨(fun q hq => by cases hq), kc, f2, comp, f3⟩
      generalize hN : x2.toNatClampNeg = N at *
      generalize hM : x1.toNatClampNeg = M at *
      have eN : ∀ X : va_W, X ++ va_pl [] (fun _ => (.inr (0, []) : va_E)) = X := fun X => by simp [va_pl]
      refine va_mna (X := ws) (L := []) (f := fun _ => .inr (0, [])) (ty := .int) (cy := cy) (N' := N) (K' := M) (z := (M, .inl (fun _ => 0))) hx hb hown (hts _ hcl) hov hacb f1 hK (by rw [eN]; exact hP) (by rw [eN]; exact hD) hS hA (neg _ n2) (neg _ n1) hN hM (by omega) (by show M * 4 ≤ _; omega) (by omega) rfl rfl (by rw [hRc]; exact n5) (by rw [hRs]; exact n6) (fun c => arrV_new c M (.int 0)) hd ?_
      intro q r cA H1 hinj hnL hK2 hP2 hD2 hS2
      have eW : (ws ++ [(q, (.inl (cA, N, .inr (.inr (.inr (.inr (fun i => if i < N then some (r i) else none))))) : va_E))]) ++ va_pl ([] ++ (List.range N).map r) (vr_up (fun _ => .inr (0, [])) ((List.range N).map r) (.inl (cy, M, .inl (fun _ => 0)))) = ws ++ ((q, .inl (cA, N, .inr (.inr (.inr (.inr (fun i => if i < N then some (r i) else none)))))) :: (List.range N).map (fun i => (r i, (.inl (cy, M, .inl (fun _ => (0 : Int32))) : va_E)))) := by
        rw [List.append_assoc]
        congr 1
        unfold va_pl
        rw [List.nil_append, List.map_map]
        show _ :: _ = _ :: _
        congr 1
        apply List.map_congr_left
        intro i hi
        show (r i, vr_up _ _ _ (r i)) = _
        rw [vr_up_in (List.mem_map.mpr ⟨i, hi, rfl⟩)]
      rw [eW] at hP2 hD2
      have hK3 : va_K D cl (tys ++ [(cA, .array .int), (cy, .int)]) s := by
        have := va_K.app hK2 (t2 := [(cy, .int)]) ⟨hK.1, fun k9 x9 hx9 => by
          have hz : k9 < 1 := (List.getElem?_eq_some_iff.mp hx9).1
          rw [show k9 = 0 by omega] at hx9
          cases hx9
          exact ⟨hAi, f1⟩⟩
        rw [List.append_assoc] at this
        exact this
      have hlen := eAll_len hh
      generalize hR : (q, (.inl (cA, N, .inr (.inr (.inr (.inr (fun i => if i < N then some (r i) else none))))) : va_E)) :: (List.range N).map (fun i => (r i, (.inl (cy, M, .inl (fun _ => (0 : Int32))) : va_E))) = RW at hP2 hD2
      have eA : ∃ t, (ws ++ RW).map Prod.fst = ws.map Prod.fst ++ t := ⟨RW.map Prod.fst, by rw [List.map_append]⟩
      have atR : ∀ j : Nat, j < N → ((ws ++ RW).map Prod.fst)[h.length + 1 + j]? = some (r j) := by
        intro j hj
        rw [List.getElem?_map, hlen, List.getElem?_append_right (by omega), ← hR, show ws.length + 1 + j - ws.length = j + 1 by omega, List.getElem?_cons_succ, List.getElem?_map, List.getElem?_range hj]
        rfl
      refine K _ _ (ws ++ RW) (tys ++ [(cA, .array .int), (cy, .int)]) _ _ _ ⟨hK3, hP2, hD2, hS2, ?_, eAll_app (eAll_mono (fun _ _ => eCk_ad eA ⟨_, rfl⟩) hh) ?_, hl, eAll_mono (fun _ _ z => ⟨z.1, eOk_ad eA z.2⟩) hlv, ⟨q, ?_, rfl⟩, eAll_mono (fun _ _ => eOk_ad eA) hsk2⟩
      · obtain ⟨t, ht⟩ := hpre
        exact ⟨t ++ RW.map Prod.fst, by rw [List.map_append, ht, List.append_assoc]⟩
      · unfold eGrid
        rw [← hR]
        refine ⟨⟨cA, tys.length, by simp [eTy], by show N < 2 ^ 31; omega, _, rfl, fun j hj => ?_⟩, ?_⟩
        · refine ⟨.inr (.inl (some (h.length + 1 + j))), ?_, ?_⟩
          · rw [List.getElem?_map, List.getElem?_range hj]
            rfl
          · show eOk _ σ _ (va_rf (if j < N then some (r j) else none))
            rw [if_pos hj]
            rw [← hR] at atR
            exact ⟨r j, atR j hj, rfl⟩
        · have gen : ∀ L : List Nat, eAll (eCk ((ws ++ ((q, (.inl (cA, N, .inr (.inr (.inr (.inr (fun i => if i < N then some (r i) else none))))) : va_E)) :: (List.range N).map (fun i => (r i, (.inl (cy, M, .inl (fun _ => (0 : Int32))) : va_E))))).map Prod.fst) σ (tys ++ [(cA, .array .int), (cy, .int)])) (List.replicate L.length (.inr (0, M, .inl (List.replicate M eZero)))) (L.map (fun i => (r i, (.inl (cy, M, .inl (fun _ => (0 : Int32))) : va_E)))) := by
            intro L
            induction L with
            | nil => trivial
            | cons i L ih =>
              refine ⟨⟨cy, tys.length + 1, ?_, by show M < 2 ^ 31; omega, _, rfl, fun j hj => ⟨eZero, by simp [hj], 0, rfl, eIn_mk (by rw [h0]; decide) (by rw [h0]; decide)⟩⟩, ih⟩
              rw [List.getElem?_append_right (by omega), show tys.length + 1 - tys.length = 1 by omega]
              rfl
          have := gen (List.range N)
          rw [List.length_range] at this
          exact this
      · rw [List.getElem?_map, hlen, List.getElem?_append_right (by omega), Nat.sub_self, ← hR]
        rfl
    · cases hst
  · cases hst
end EMU
end
section
/-! THE ENGINE, 8: a run is right. -/
abbrev eY : Type := MethodName × ByteArray × Option FieldType
/-- what goes on over calls beside the words: the links between nest mates, the class of rows of rows -/
def eXt (nst : List (String × Nat × MethodName × String)) (U : State) : Prop := (∀ q ∈ nst, va_Nw (.methodLinkNest q.1 q.2.1 q.2.2.1 q.2.2.2) U) ∧ (Cond.arrayOver (.array .int)).before #[] U = true
theorem eXt.warm {nst : List (String × Nat × MethodName × String)} {s U : State} (hW : s.WarmedH U.vm) (h : eXt nst s) : eXt nst U := by
  refine ⟨fun q hq => va_Nw.warmM hW (h.1 q hq), ?_⟩
  have := Cond.arrayOver_setVmC (args := #[]) hW.alike (.array .int)
  rw [h.2] at this
  exact this
def eRtk (r : Nat) (ret : Option FieldType) : Prop := match r with
  | 0 => ret = none
  | 1 => ret = some .int
  | 2 => ret = some .boolean
  | 3 => ret = some .long
  | _ => ∃ rt, ret = some rt ∧ ((∃ n, rt = .object n) ∨ ∃ t, rt = .array t)
/-- what lies outside and stays: it goes over to later heaps, later tables, fewer cells of one's own -/
def eFzOk (Fz : (Nat → Prop) → State → Heap → Prop) : Prop := (∀ (A B : Nat → Prop) (U U' : State) (H H' : Heap), Fz A U H → U.WarmedH U'.vm → (∀ q : Nat, q < H.size → ¬ A q → H'[q]? = H[q]?) → (∀ q, B q → A q) → Fz B U' H') ∧ ∀ (A : Nat → Prop) (U U' : State) (H : Heap), Fz A U H → U.vm = U'.vm → Fz A U' H
section ERN
variable (Fz : (Nat → Prop) → State → Heap → Prop) (l0 : Launch) (cl : List vw_C) (Ts : List Cond) (nst : List (String × Nat × MethodName × String)) (sr : List (Int × Int)) (dfs : List (List eV)) (ms : List eM) (yt : List eY)
/-- what links a call -/
def eLi (own : String) (i : Instr) (a b d : Nat) : Prop := match i with
  | .invokevirtual idx => a = 0 ∧ ∃ (M : eM) (Y : eY), ms[b]? = some M ∧ yt[b]? = some Y ∧ Cond.methodLink own idx Y.1 ∈ Ts ∧ Cond.instanceMethod Y.1 ∈ Ts ∧ Cond.selects Y.1.cls Y.1 Y.1 ∈ Ts ∧ ∃ (T : u_T) (N : Nat), cl[d]? = some (Y.1.cls, T, N)
  | .invokestatic idx => (6 < a ∧ eLb Ts own idx a) ∨ (a < 6 ∧ ∃ (M : eM) (Y : eY), ms[b]? = some M ∧ yt[b]? = some Y ∧ Cond.static Y.1 ∈ Ts ∧ ((a = 1 ∧ Cond.methodLink own idx Y.1 ∈ Ts) ∨ (a = 4 ∧ ∃ host, (own, idx, Y.1, host) ∈ nst)))
  | .invokespecial idx => (a = 6 ∧ eLb Ts own idx a) ∨ (a < 6 ∧ ∃ (M : eM) (Y : eY), ms[b]? = some M ∧ yt[b]? = some Y ∧ Y.1.name = "<init>" ∧ Y.2.2 = none ∧ Cond.instanceMethod Y.1 ∈ Ts ∧ ((a = 2 ∧ Cond.methodLink own idx Y.1 ∈ Ts) ∨ (a = 5 ∧ ∃ host, (own, idx, Y.1, host) ∈ nst)))
  | .multianewarray idx dim => dim = 2 ∧ Cond.classLink own idx ("[" ++ (FieldType.array .int).toString) ∈ Ts ∧ Cond.arrayClass .int ∈ Ts
  | _ => True
/-- what holds of a method of the table -/
def eMok (M : eM) (Y : eY) : Prop :=
  (∀ en : eN, en ∈ M.1.flatten → (eLen en.2.1 ≠ 0 → decode Y.2.1 en.1 = .ok (en.2.1, eLen en.2.1)) ∧ (∃ len, decode Y.2.1 en.1 = .ok (en.2.1, len)) ∧ eLk cl Ts Y.1.cls (Y.1.name == "<init>") en.2.1 en.1 en.2.2.2.1 en.2.2.2.2.1 en.2.2.2.2.2.2 ∧ eLi cl Ts nst ms yt Y.1.cls en.2.1 en.2.2.2.1 en.2.2.2.2.1 en.2.2.2.2.2.2) ∧
  Cond.code Y.1 Y.2.1 M.2.1 Y.2.2 ∈ Ts ∧ Cond.initialized Y.1.cls ∈ Ts ∧ plainName Y.1.cls = true ∧ (Y.1.cls ≠ "java/lang/invoke/MethodHandle" ∧ Y.1.cls ≠ "java/lang/invoke/VarHandle" ∧ (parseMethodDescriptor Y.1.desc).map (fun d => d.parameters.length) = some M.2.2.2.2.2) ∧ M.2.1 ≤ 100 ∧ eRtk M.2.2.2.2.1 Y.2.2
def eRm (d : Nat) (M : eM) : Room := { frames := d, cells := M.2.2.1, slots := M.2.2.2.1, locals := 128 * d }
def eOv (ad : List Nat) (σ : Nat → Int) (v : Option eV) (w : Option Value) : Prop := match v, w with
  | none, none => True
  | some v, some w => eOk ad σ v w
  | _, _ => False
/-- a method's end: one of the ways that were found -/
def eQ (D : va_G) (σ : Nat → Int) (ws : va_W) (os : List (Option eV × eH)) (sz : Nat) : Array Value → State → Outcome → State → Prop := fun _ st oc t =>
  (∃ o ∈ os, ∃ (w : Option Value) (ws' : va_W) (tys' : List (ClassId × FieldType)), oc = .returned w ∧ eOv (ws'.map Prod.fst) σ o.1 w ∧ (∃ t, ws'.map Prod.fst = ws.map Prod.fst ++ t) ∧ eAll (eCk (ws'.map Prod.fst) σ tys') o.2 ws' ∧ va_P D cl ws' t.heap ∧ va_K D cl tys' t ∧ va_D (va_A ws sz) ws') ∧ va_F (va_A ws sz) st t
def ePc (D : va_G) (ws : va_W) (tys : List (ClassId × FieldType)) (vs : List Value) (sz : Nat) : Array Value → State → Prop := va_Pc vs (fun U => U.heap.size = sz ∧ va_P D cl ws U.heap ∧ va_K D cl tys U ∧ va_D (fun _ => True) ws ∧ eXt nst U ∧ Fz (va_A ws sz) U U.heap)
/-- a call's contract -/
def eCon (d b : Nat) (as : List eV) (h : eH) (os : List (Option eV × eH)) : Prop := ∀ (M : eM) (Y : eY), ms[b]? = some M → yt[b]? = some Y → ∀ (D : va_G) (σ : Nat → Int) (ws : va_W) (tys : List (ClassId × FieldType)) (vs : List Value) (sz : Nat), eSg sr σ → eAll (eCk (ws.map Prod.fst) σ tys) h ws → eAll (eOk (ws.map Prod.fst) σ) as vs →
  Met l0 Y.1 (Cond.code Y.1 Y.2.1 M.2.1 Y.2.2 :: Ts) (eRm d M) (ePc Fz cl nst D ws tys vs sz) (eQ cl D σ ws os sz) M.2.2.1 M.2.2.2.1 (va_A ws sz)
end ERN
theorem ePc_blind {Fz : (Nat → Prop) → State → Heap → Prop} (hF : eFzOk Fz) {cl : List vw_C} {nst : List (String × Nat × MethodName × String)} {D : va_G} {ws : va_W} {tys : List (ClassId × FieldType)} {vs : List Value} {sz : Nat} : FrameBlind (ePc Fz cl nst D ws tys vs sz) := by
  intro a U g mk q
  obtain ⟨q0, q1, qP, qK, qD, qX, qF⟩ := q
  exact ⟨q0, q1, qP, va_K.moved (u := U) (U := U.calling g mk a) (Vm.Alike.refl U.vm) qK, qD, ⟨fun x hx => va_Nw.same rfl rfl (qX.1 x hx), qX.2⟩, hF.2 _ U _ _ qF rfl⟩
theorem eAll_take {α β : Type} {r : α → β → Prop} : ∀ {as : List α} {bs : List β} (n : Nat), eAll r as bs → eAll r (as.take n) (bs.take n)
  | _, _, 0, _ => by simp [eAll]
  | [], [], _ + 1, _ => trivial
  | _ :: _, _ :: _, n + 1, h => ⟨h.1, eAll_take n h.2⟩
theorem eAll_drop {α β : Type} {r : α → β → Prop} : ∀ {as : List α} {bs : List β} (n : Nat), eAll r as bs → eAll r (as.drop n) (bs.drop n)
  | _, _, 0, h => h
  | [], [], _ + 1, _ => trivial
  | _ :: _, _ :: _, n + 1, h => eAll_drop n h.2
section ECB
variable {p : Program} {l0 : Launch} {e : Env} {R : Room} {s : State} {m : MethodId} {args : Array Value} {below : List Frame} {meth : Method} {c : Code} {Q : State → Prop}
variable {cl : List vw_C} {σ : Nat → Int} {D : va_G} {A : Nat → Prop} {H0 : Heap}
theorem eBack {H : Heap} {locs : List Loc} {cs sl mc ms pc : Nat} {ls : Array Slot} {st0 rest : List Value} {ws : va_W} {os : List (Option eV × eH)} {a : Array Value} (hr : va_Run p l0 e R s m args below meth c H locs cs sl mc ms (F0 m pc ls st0) rest (eQ cl D σ ws os H.size a) (va_A ws H.size)) (hS : va_S A H0 H locs) (hA1 : ∀ q, va_A ws H.size q → A q)
    (kk : ∀ o ∈ os, ∀ (w : Option Value) (ws' : va_W) (tys' : List (ClassId × FieldType)) (H1 : Heap) (locs1 : List Loc), eOv (ws'.map Prod.fst) σ o.1 w → (∃ t, ws'.map Prod.fst = ws.map Prod.fst ++ t) → eAll (eCk (ws'.map Prod.fst) σ tys') o.2 ws' → va_P D cl ws' H1 → va_K D cl tys' s → va_D A ws' → va_S A H0 H1 locs1 → W p l0 e R s m args below meth c H1 locs1 (cs + mc) (sl + ms) Q (F0 m (pc + 3) ls (w.toList ++ rest))) : W p l0 e R s m args below meth c H locs cs sl Q (F0 m pc ls st0) := by
  intro T hT X
  obtain ⟨v, st₀, t, T', L, h0, X', hL, e1, e2, ⟨⟨o, ho, w, ws', tys', hv, hov, hpre', hh', hP', hK', hD'⟩, hz, hk⟩, st⟩ := hr T hT X
  cases hv
  rw [h0] at hz hk
  have hal : s.vm.Alike t.vm := by rw [← e2]; exact X'.warmed.alike
  obtain ⟨t2, a1, b1⟩ := kk o ho v ws' tys' T'.heap (locs ++ L) hov hpre' hh' (by rw [e1]; exact hP') (va_K.moved hal.symm hK') (hD'.weaken (fun k q _ h => hA1 q.1 h))
    ⟨Nat.le_trans hS.1 (by rw [e1]; exact hz), fun q h1 h2 => by rw [e1, hk q (Nat.lt_of_lt_of_le h1 hS.1) (fun z => h2 (hA1 q z))]; exact hS.2.1 q h1 h2, fun q hq => by
      rcases List.mem_append.mp hq with h | h
      · exact hS.2.2 q h
      · exact hA1 _ (hL q h)⟩ T' rfl X'
  exact ⟨t2, st t2 a1, b1⟩
end ECB
end
section
/-! THE ENGINE, 9: a call. -/
section ECL
variable {p : Program} {l0 : Launch} {e : Env} {R : Room} {s : State} {m : MethodId} {args : Array Value} {below : List Frame} {meth : Method} {c : Code} {Q : State → Prop}
variable {Fz : (Nat → Prop) → State → Heap → Prop} {cc : ByteArray} {own : String} {Ts : List Cond} {nst : List (String × Nat × MethodName × String)} {cl : List vw_C} {ms : List eM} {yt : List eY} {sr : List (Int × Int)} {σ : Nat → Int} {D : va_G} {A : Nat → Prop} {H0 : Heap} {ad0 : List Nat} {nL : Nat}
/-- how a call of kind kd is linked -/
def eKd (cl : List vw_C) (Ts : List Cond) (nst : List (String × Nat × MethodName × String)) (own : String) (cc : ByteArray) (pc kd d0 : Nat) (Y : eY) : Prop :=
  (kd = 0 ∧ ∃ (idx : Nat) (T : u_T) (N : Nat), decode cc pc = .ok (.invokevirtual idx, 3) ∧ Cond.methodLink own idx Y.1 ∈ Ts ∧ Cond.instanceMethod Y.1 ∈ Ts ∧ Cond.selects Y.1.cls Y.1 Y.1 ∈ Ts ∧ cl[d0]? = some (Y.1.cls, T, N)) ∨
  (kd = 1 ∧ ∃ idx : Nat, decode cc pc = .ok (.invokestatic idx, 3) ∧ Cond.methodLink own idx Y.1 ∈ Ts ∧ Cond.static Y.1 ∈ Ts) ∨
  (kd = 4 ∧ ∃ (idx : Nat) (host : String), decode cc pc = .ok (.invokestatic idx, 3) ∧ (own, idx, Y.1, host) ∈ nst ∧ Cond.static Y.1 ∈ Ts) ∨
  (kd = 2 ∧ ∃ idx : Nat, decode cc pc = .ok (.invokespecial idx, 3) ∧ Cond.methodLink own idx Y.1 ∈ Ts ∧ Y.1.name = "<init>" ∧ Y.2.2 = none ∧ Cond.instanceMethod Y.1 ∈ Ts) ∨
  (kd = 5 ∧ ∃ (idx : Nat) (host : String), decode cc pc = .ok (.invokespecial idx, 3) ∧ (own, idx, Y.1, host) ∈ nst ∧ Y.1.name = "<init>" ∧ Y.2.2 = none ∧ Cond.instanceMethod Y.1 ∈ Ts)
theorem ePopS_ok {ad : List Nat} {st as r : List eV} {np kd : Nat} {stk : List Value} (h : ePop st np kd = some (as, r)) (hk : kd = 1 ∨ kd = 4) (hs : eAll (eOk ad σ) st stk) : ∃ vs rest : List Value, stk = vs.reverse ++ rest ∧ vs.length = np ∧ eAll (eOk ad σ) as vs ∧ eAll (eOk ad σ) r rest := by
  have h2 : cond (Nat.ble np st.length) (some ((st.take np).reverse, st.drop np)) none = some (as, r) := by rcases hk with rfl | rfl <;> exact h
  obtain ⟨h3, h4⟩ := eCond h2
  cases h4
  have h3 := Nat.le_of_ble_eq_true h3
  refine ⟨(stk.take np).reverse, stk.drop np, by simp, ?_, eAll_rev (eAll_take np hs), eAll_drop np hs⟩
  have := eAll_len hs
  simp
  omega
theorem ePopV_ok {ad : List Nat} {st as r : List eV} {np kd : Nat} {stk : List Value} (h : ePop st np kd = some (as, r)) (hk : kd = 0 ∨ kd = 2 ∨ kd = 5) (hs : eAll (eOk ad σ) st stk) : ∃ (k a : Nat) (as1 : List eV) (vs rest : List Value), as = .inr (.inl (some k)) :: as1 ∧ ad[k]? = some a ∧ stk = vs.reverse ++ .ref a :: rest ∧ vs.length = np ∧ eAll (eOk ad σ) as1 vs ∧ eAll (eOk ad σ) r rest := by
  have h2 : (match st[np]? with
    | some (.inr (.inl (some k))) => some (.inr (.inl (some k)) :: (st.take np).reverse, st.drop (np + 1))
    | _ => none) = some (as, r) := by rcases hk with rfl | rfl | rfl <;> exact h
  split at h2
  · rename_i k hk2
    cases h2
    obtain ⟨w, hw, a, ha, rfl⟩ := eAll_get hs hk2
    have hlt := (List.getElem?_eq_some_iff.mp hw).1
    refine ⟨k, a, _, (stk.take np).reverse, stk.drop (np + 1), rfl, ha, ?_, by simp; omega, eAll_rev (eAll_take np hs), eAll_drop (np + 1) hs⟩
    rw [List.reverse_reverse]
    have e1 : stk.drop np = .ref a :: stk.drop (np + 1) := by
      rw [List.drop_eq_getElem_cons hlt]
      congr 1
      have := List.getElem?_eq_getElem hlt
      rw [hw] at this
      exact (Option.some.inj this).symm
    rw [← e1]
    exact (List.take_append_drop np stk).symm
  · cases h2
theorem eCall_ok (hx : p.tables.exec = Jvm.exec) (hb : c.code = cc) (hown : s.vm.findClass own = some m.cls) (hts : ∀ w ∈ Ts, w.before args s = true) (hgood : ∀ w ∈ Ts, (w.onTables && w.keeps) = true ∨ ∃ ty, w = .arrayClass ty) (hml : c.maxLocals = nL) (hXt : eXt nst s) (hF : eFzOk Fz) (hFs : Fz A s H0) (hs : eSg sr σ) (hA : ∀ q, H0.size ≤ q → A q)
    {d b kd d0 pc cs sl : Nat} {l : eL} {st as r : List eV} {h : eH} {os : List (Option eV × eH)} {N : eM} {Y : eY} (hR1 : d + 1 ≤ R.frames) (hR2 : 128 * (d + 1) ≤ R.locals) (hN : ms[b]? = some N) (hY : yt[b]? = some Y) (hok : eMok cl Ts nst ms yt N Y) (hcon : eCon Fz l0 cl Ts nst sr ms yt d b as h os)
    (hkd : eKd cl Ts nst own cc pc kd d0 Y) (hpop : ePop st N.2.2.2.2.2 kd = some (as, r)) (hcr : eCats r ≤ 8) (hmc : cs + N.2.2.1 ≤ R.cells) (hms : sl + N.2.2.2.1 ≤ R.slots) (hrcv : eRcv h kd d0 as = true)
    (K : ∀ o ∈ os, ∀ (H : Heap) (locs : List Loc) (ws : va_W) (tys : List (ClassId × FieldType)) (ls : Array Slot) (lv : List (Nat × Value)) (stk : List Value), eCn D cl A H0 s σ nL ad0 (pc + 3, l, o.1.toList ++ r, o.2, cs + N.2.2.1, sl + N.2.2.2.1) H locs ws tys ls lv stk → W p l0 e R s m args below meth c H locs (cs + N.2.2.1) (sl + N.2.2.2.1) Q (F0 m (pc + 3) ls stk)) :
    ∀ (H : Heap) (locs : List Loc) (ws : va_W) (tys : List (ClassId × FieldType)) (ls : Array Slot) (lv : List (Nat × Value)) (stk : List Value), eCn D cl A H0 s σ nL ad0 (pc, l, st, h, cs, sl) H locs ws tys ls lv stk → W p l0 e R s m args below meth c H locs cs sl Q (F0 m pc ls stk) := by
  intro H locs ws tys ls lv stk hc
  obtain ⟨hK, hP, hD, hS, hpre, hh, hl, hlv, hsk⟩ := hc
  obtain ⟨-, hcode, hini, -, hdd, hnl, -⟩ := hok
  have hG : GoodIn Ts (Cond.code Y.1 Y.2.1 N.2.1 Y.2.2 :: Ts) := fun w hw => by
    rcases List.mem_cons.mp hw with rfl | hw
    · exact ⟨hcode, hgood _ hcode⟩
    · exact ⟨hw, hgood _ hw⟩
  have hroom : (eRm d N).frames + 1 ≤ R.frames ∧ 8 + (N.2.1 + 11) + (eRm d N).locals ≤ R.locals := ⟨hR1, by show 8 + (N.2.1 + 11) + 128 * d ≤ _; omega⟩
  have hA1 : ∀ q, va_A ws H.size q → A q := by
    intro q hq
    rcases hq with ⟨k, e9, hk⟩ | hq
    · exact hD.2 k (q, e9) hk
    · exact hA q (Nat.le_trans hS.1 hq)
  have hPre : ∀ (vs : List Value) (U : State), U.heap = H → s.WarmedH U.vm → ePc Fz cl nst D ws tys vs H.size vs.toArray U := fun vs U hU hW => ⟨rfl, by rw [hU], by rw [hU]; exact hP, va_K.moved hW.alike hK, hD.weaken (fun _ _ _ _ => trivial), hXt.warm hW, by rw [hU]; exact hF.1 A _ s U H0 H hFs hW hS.2.1 hA1⟩
  have fin : ∀ (rest : List Value) (a : Array Value), eAll (eOk (ws.map Prod.fst) σ) r rest → va_Run p l0 e R s m args below meth c H locs cs sl N.2.2.1 N.2.2.2.1 (F0 m pc ls stk) rest (eQ cl D σ ws os H.size a) (va_A ws H.size) → W p l0 e R s m args below meth c H locs cs sl Q (F0 m pc ls stk) := by
    intro rest a hr hrun
    refine eBack hrun hS hA1 (fun o ho w ws' tys' H1 locs1 hov hpre' hh' hP' hK' hD' hS' => ?_)
    refine K o ho _ _ ws' tys' ls lv _ ⟨hK', hP', hD', hS', ?_, hh', hl, eAll_mono (fun _ _ z => ⟨z.1, eOk_ad hpre' z.2⟩) hlv, ?_⟩
    · obtain ⟨t, ht⟩ := hpre
      obtain ⟨t', ht'⟩ := hpre'
      exact ⟨t ++ t', by rw [ht', ht, List.append_assoc]⟩
    · have hr' := eAll_mono (fun _ _ => eOk_ad hpre') hr
      show eAll _ (o.1.toList ++ r) _
      cases h1 : o.1 with
      | none =>
        rw [h1] at hov
        cases w with
        | none => exact hr'
        | some w => exact hov.elim
      | some v =>
        rw [h1] at hov
        cases w with
        | none => exact hov.elim
        | some w => exact ⟨hov, hr'⟩
  have hcat : ∀ rest : List Value, eAll (eOk (ws.map Prod.fst) σ) r rest → 2 * (F0 m pc ls stk).monitorRoom + (rest.map fun v => v.category).sum ≤ 8 := fun rest hr => by
    rw [eCats_ok hr]
    show 2 * 0 + _ ≤ 8
    omega
  rcases hkd with ⟨rfl, idx, T, NN, hdg, w1, w2, w3, hcl⟩ | ⟨rfl, idx, hdg, w1, w2⟩ | ⟨rfl, idx, host, hdg, w1, w2⟩ | ⟨rfl, idx, hdg, w1, w2, w3, w4⟩ | ⟨rfl, idx, host, hdg, w1, w2, w3, w4⟩
  · obtain ⟨k, a, as1, vs, rest, rfl, ha, hstk, hlen, has, hr⟩ := ePopV_ok hpop (Or.inl rfl) hsk
    have hM := hcon N Y hN hY D σ ws tys (.ref a :: vs) H.size hs hh ⟨⟨a, ha, rfl⟩, has⟩
    unfold eRcv at hrcv
    simp only at hrcv
    split at hrcv
    · rename_i o ho
      have e0 := Nat.eq_of_beq_eq_true hrcv
      obtain ⟨⟨q, e9⟩, he, fs, hf, -⟩ := eAll_get hh ho
      have hf : e9 = .inr (o.1, fs) := hf
      subst hf
      have e1 := eAd_at he ha
      subst e1
      rw [e0] at he
      exact fin rest _ hr (va_runV (As := vs) (rest := rest) ⟨hx, hb, hml, hown, hts⟩ hM ⟨callB_of _ hts hG rfl rfl rfl (hts _ hini) (hts _ w1) hdd hroom, hts _ w2, hts _ w3⟩ ⟨ePc_blind hF, va_recv hK hP hcl he, hPre _⟩ rfl hlen hl.1 hstk (hcat rest hr) hdg ⟨hmc, hms⟩)
    · cases hrcv
  · obtain ⟨vs, rest, hstk, hlen, has, hr⟩ := ePopS_ok hpop (Or.inl rfl) hsk
    have hM := hcon N Y hN hY D σ ws tys vs H.size hs hh has
    exact fin rest _ hr (va_runS (As := vs) (rest := rest) ⟨hx, hb, hml, hown, hts⟩ hM ⟨callB_of _ hts hG rfl rfl rfl (hts _ hini) (hts _ w1) hdd hroom, hts _ w2⟩ ⟨ePc_blind hF, hPre _⟩ rfl hlen hl.1 hstk (hcat rest hr) hdg ⟨hmc, hms⟩)
  · obtain ⟨vs, rest, hstk, hlen, has, hr⟩ := ePopS_ok hpop (Or.inr rfl) hsk
    have hM := hcon N Y hN hY D σ ws tys vs H.size hs hh has
    exact fin rest _ hr (va_runSN (As := vs) (rest := rest) ⟨hx, hb, hml, hown, hts⟩ hM ⟨va_cnB _ hts hG rfl rfl rfl (hXt.1 _ w1) (hts _ hini) hdd hroom, hts _ w2, trivial⟩ ⟨ePc_blind hF, hPre _⟩ rfl hlen hl.1 hstk (hcat rest hr) hdg ⟨hmc, hms⟩)
  · obtain ⟨k, a, as1, vs, rest, rfl, ha, hstk, hlen, has, hr⟩ := ePopV_ok hpop (Or.inr (Or.inl rfl)) hsk
    have hM := hcon N Y hN hY D σ ws tys (.ref a :: vs) H.size hs hh ⟨⟨a, ha, rfl⟩, has⟩
    rw [w3] at hM hG
    exact fin rest _ hr (va_runI (As := vs) (rest := rest) ⟨hx, hb, hml, hown, hts⟩ hM ⟨callB_of _ hts hG rfl rfl rfl (hts _ hini) (hts _ w1) hdd hroom, w2, hts _ w4⟩ ⟨ePc_blind hF, hPre _⟩ rfl hlen hl.1 hstk (hcat rest hr) hdg ⟨hmc, hms⟩)
  · obtain ⟨k, a, as1, vs, rest, rfl, ha, hstk, hlen, has, hr⟩ := ePopV_ok hpop (Or.inr (Or.inr rfl)) hsk
    have hM := hcon N Y hN hY D σ ws tys (.ref a :: vs) H.size hs hh ⟨⟨a, ha, rfl⟩, has⟩
    rw [w3] at hM hG
    exact fin rest _ hr (va_runIN (As := vs) (rest := rest) ⟨hx, hb, hml, hown, hts⟩ hM ⟨va_cnB _ hts hG rfl rfl rfl (hXt.1 _ w1) (hts _ hini) hdd hroom, w2, hts _ w4⟩ ⟨ePc_blind hF, hPre _⟩ rfl hlen hl.1 hstk (hcat rest hr) hdg ⟨hmc, hms⟩)
end ECL
end
section
/-! THE ENGINE, 10: every run is right. -/
theorem eFind_ok : ∀ {ch : List eN} {pc : Nat} {en : eN}, eFind ch pc = some en → en.1 = pc ∧ en ∈ ch
  | [], pc, en, h => by cases h
  | q :: ch, pc, en, h => by
    unfold eFind at h
    cases hb : Nat.beq q.1 pc with
    | true =>
      rw [hb] at h
      cases h
      exact ⟨Nat.eq_of_beq_eq_true hb, List.mem_cons_self⟩
    | false =>
      rw [hb] at h
      obtain ⟨h1, h2⟩ := eFind_ok (ch := ch) h
      exact ⟨h1, List.mem_cons_of_mem _ h2⟩
theorem eAt_ok {code : List (List eN)} {pc : Nat} {en : eN} (h : eAt code pc = some en) : en.1 = pc ∧ en ∈ code.flatten := by
  unfold eAt at h
  split at h
  · rename_i ch hch
    obtain ⟨h1, h2⟩ := eFind_ok h
    exact ⟨h1, List.mem_flatten.mpr ⟨ch, List.mem_of_getElem? hch, h2⟩⟩
  · cases h
theorem eColl_ok {α : Type} {f : α → Option (List eS)} : ∀ {xs : List α} {ys : List eS}, eColl f xs = some ys → ∀ x ∈ xs, ∃ zs, f x = some zs ∧ ∀ z ∈ zs, z ∈ ys
  | [], ys, h, x, hx => absurd hx List.not_mem_nil
  | a :: xs, ys, h, x, hx => by
    unfold eColl at h
    split at h
    · cases h
    · rename_i z1 h1
      split at h
      · cases h
      · rename_i z2 h2
        cases h
        rcases List.mem_cons.mp hx with rfl | hx
        · exact ⟨z1, h1, fun z hz => List.mem_append_left _ hz⟩
        · obtain ⟨zs, g1, g2⟩ := eColl_ok h2 x hx
          exact ⟨zs, g1, fun z hz => List.mem_append_right _ (g2 z hz)⟩
theorem eOuts_ok {N : eM} : ∀ {fs : List eS} {os : List (Option eV × eH)}, eOuts N fs = some os → ∀ f ∈ fs, ∃ v, eRet N f = some v ∧ (v, f.2.2.2.1) ∈ os
  | [], os, h, f, hf => absurd hf List.not_mem_nil
  | a :: fs, os, h, f, hf => by
    unfold eOuts at h
    split at h
    · cases h
    · rename_i v h1
      split at h
      · cases h
      · rename_i os' h2
        cases h
        rcases List.mem_cons.mp hf with rfl | hf
        · exact ⟨v, h1, List.mem_cons_self⟩
        · obtain ⟨w, g1, g2⟩ := eOuts_ok h2 f hf
          exact ⟨w, g1, List.mem_cons_of_mem _ g2⟩
theorem eArgs_ok {ad : List Nat} {σ : Nat → Int} : ∀ {as : List eV} {vs : List Value} (i : Nat), eAll (eOk ad σ) as vs → eAll (eLo ad σ) (eArgs i as) (lv_args i vs)
  | [], _, i, h => by rw [eAll_nil h]; trivial
  | a :: as, _, i, h => by
    obtain ⟨w, vs, rfl, h1, h2⟩ := eAll_cons h
    refine ⟨⟨rfl, h1⟩, ?_⟩
    have e := eOk_cat h1
    have e2 : (cond (Nat.beq (eCat a) 2) (i + 2) (i + 1)) = (if w.category = 2 then i + 2 else i + 1) := by
      rw [e]
      by_cases hc : eCat a = 2
      · rw [if_pos hc, hc]; rfl
      · rw [if_neg hc]
        cases hb : Nat.beq (eCat a) 2 with
        | true => exact absurd (Nat.eq_of_beq_eq_true hb) hc
        | false => rfl
    show eAll (eLo ad σ) (eArgs (cond (Nat.beq (eCat a) 2) (i + 2) (i + 1)) as) _
    rw [e2]
    exact eArgs_ok _ h2
theorem eSl_ok {ad : List Nat} {σ : Nat → Int} : ∀ {as : List eV} {vs : List Value}, eAll (eOk ad σ) as vs → (lg_sl vs).length = eCats as
  | [], _, h => by rw [eAll_nil h]; rfl
  | a :: as, _, h => by
    obtain ⟨w, vs, rfl, h1, h2⟩ := eAll_cons h
    have e := eOk_cat h1
    have ih := eSl_ok h2
    unfold lg_sl at ih ⊢
    rw [List.flatMap_cons, List.length_append, ih, e]
    show _ = eCat a + eCats as
    congr 1
    match a with
    | .inl _ => rfl
    | .inr (.inl none) => rfl
    | .inr (.inl (some _)) => rfl
    | .inr (.inr _) => rfl
section EGL
variable (Fz : (Nat → Prop) → State → Heap → Prop) (l0 : Launch) (cl : List vw_C) (Ts : List Cond) (nst : List (String × Nat × MethodName × String)) (sr : List (Int × Int)) (dfs : List (List eV)) (ms : List eM) (yt : List eY)
def eCx (M : eM) (Y : eY) (d : Nat) (p : Program) (R : Room) (s : State) (m : MethodId) (args : Array Value) (meth : Method) (c : Code) : Prop :=
  p.tables.exec = Jvm.exec ∧ c.code = Y.2.1 ∧ s.vm.findClass Y.1.cls = some m.cls ∧ (∀ w ∈ Ts, w.before args s = true) ∧ c.maxLocals = M.2.1 ∧ ((Y.1.name == "<init>") = true → meth.name = "<init>") ∧ eXt nst s ∧ d ≤ R.frames ∧ 128 * d ≤ R.locals ∧ R.cells = M.2.2.1 ∧ R.slots = M.2.2.2.1
def eGl (d y : Nat) (S : eS) (fins : List eS) : Prop := ∀ (M : eM) (Y : eY), ms[y]? = some M → yt[y]? = some Y → ∀ (p : Program) (e : Env) (R : Room) (s : State) (m : MethodId) (args : Array Value) (below : List Frame) (meth : Method) (c : Code), eCx Ts nst M Y d p R s m args meth c → ∀ (D : va_G) (A : Nat → Prop) (H0 : Heap) (σ : Nat → Int) (ad0 : List Nat), eSg sr σ → (∀ q, H0.size ≤ q → A q) → Fz A s H0 → ∀ Q : State → Prop,
  (∀ f ∈ fins, ∀ (H : Heap) (locs : List Loc) (ws : va_W) (tys : List (ClassId × FieldType)) (ls : Array Slot) (lv : List (Nat × Value)) (stk : List Value), eCn D cl A H0 s σ M.2.1 ad0 f H locs ws tys ls lv stk → W p l0 e R s m args below meth c H locs f.2.2.2.2.1 f.2.2.2.2.2 Q (F0 m f.1 ls stk)) →
  ∀ (H : Heap) (locs : List Loc) (ws : va_W) (tys : List (ClassId × FieldType)) (ls : Array Slot) (lv : List (Nat × Value)) (stk : List Value), eCn D cl A H0 s σ M.2.1 ad0 S H locs ws tys ls lv stk → W p l0 e R s m args below meth c H locs S.2.2.2.2.1 S.2.2.2.2.2 Q (F0 m S.1 ls stk)
end EGL
section EAX
variable {Fz : (Nat → Prop) → State → Heap → Prop} {l0 : Launch} {cl : List vw_C} {Ts : List Cond} {nst : List (String × Nat × MethodName × String)} {sr : List (Int × Int)} {dfs : List (List eV)} {ms : List eM} {yt : List eY}
/-- a run from a method's first instruction to its returns is a contract -/
theorem eCon_of (hT : eAll (eMok cl Ts nst ms yt) ms yt) {d b : Nat} {as : List eV} {h : eH} {fs : List eS} {os : List (Option eV × eH)} {N : eM} (hN : ms[b]? = some N) (hca : eCats as ≤ N.2.1) (hg : eGl Fz l0 cl Ts nst sr ms yt d b (0, eArgs 0 as, [], h, 0, 0) fs) (ho : eOuts N fs = some os) : eCon Fz l0 cl Ts nst sr ms yt d b as h os := by
  intro M Y hM hY D σ ws tys vs sz hs hh has
  have eM := Option.some.inj (hN.symm.trans hM)
  subst eM
  obtain ⟨Y', hY', hok⟩ := eAll_get hT hN
  have eY' := Option.some.inj (hY'.symm.trans hY)
  subst eY'
  refine Met.ofW (cc := Y'.2.1) (maxL := N.2.1) (ret := Y'.2.2) hok.2.2.2.1 rfl ?_
  intro p e s m args below meth c s₁ B hml hv
  obtain ⟨rfl, hsz, hP, hK, hD0, hXt, hFz⟩ := hv
  have hts := atoms_spec (ws := Cond.code Y'.1 Y'.2.1 N.2.1 Y'.2.2 :: Ts) B.pre
  have hlocks := B.notSynchronized
  have hD := hD0.self (sz := s.heap.size)
  have hl := lv_entry vs (n := N.2.1) (by rw [eSl_ok has]; exact hca)
  rw [lg_entry_eq]
  generalize (lg_sl vs ++ List.replicate (N.2.1 - (lg_sl vs).length) Slot.unset).toArray = ls at hl ⊢
  subst hsz
  have hcx : eCx Ts nst N Y' d p (eRm d N) s m vs.toArray meth c := ⟨B.exec, B.bytes, findClass_of_methodNamed B.named, fun w hw => hts w (List.mem_cons_of_mem _ hw), hml, fun hi => by rw [(name_of_methodNamed B.named B.method).1]; exact eq_of_beq hi, hXt, Nat.le_refl _, Nat.le_refl _, rfl, rfl⟩
  refine hg N Y' hN hY p e (eRm d N) s m vs.toArray below meth c hcx D (va_A ws s.heap.size) s.heap σ (ws.map Prod.fst) hs (fun q hq => Or.inr hq) hFz _ ?_ s.heap [] ws tys ls (lv_args 0 vs) [] ⟨hK, hP, hD, va_S.rf, ⟨[], by simp⟩, hh, hl, eArgs_ok 0 has, trivial⟩
  intro f hf H locs ws' tys' ls' lv' stk' hc
  obtain ⟨hK', hP', hD', hS', hpre', hh', hl', hlv', hsk'⟩ := hc
  obtain ⟨v, hr, hmem⟩ := eOuts_ok ho f hf
  unfold eRet at hr
  obtain ⟨hb, hr2⟩ := eCond hr
  clear hr
  rw [Bool.and_eq_true] at hb
  refine W.widen (Nat.le_of_ble_eq_true hb.1) (Nat.le_of_ble_eq_true hb.2) ?_
  have hq : ∀ (w : Option Value) (t : State), eOv (ws'.map Prod.fst) σ v w → t.heap = H → s.WarmedH t.vm → eQ cl D σ ws os s.heap.size vs.toArray s (.returned w) t := fun w t hov ht hW => ⟨⟨_, hmem, w, ws', tys', rfl, hov, hpre', hh', by rw [ht]; exact hP', va_K.moved hW.alike hK', hD'⟩, hS'.F ht⟩
  have hfr : ∀ q ∈ locs, va_A ws s.heap.size q.base := hS'.2.2
  split at hr2
  · rename_i en hen
    obtain ⟨hpc, hmem2⟩ := eAt_ok hen
    have hdec := (hok.1 en hmem2).1
    have hrt := hok.2.2.2.2.2.2
    have hst : ∀ x, f.2.2.1 = x → eAll (eOk (ws'.map Prod.fst) σ) x stk' := fun x hx => hx ▸ hsk'
    split at hr2
    · rename_i h1 h2 h3
      cases hr2
      have e1 := eAll_nil (hst _ h3)
      subst e1
      rw [h2] at hdec
      rw [h1] at hrt
      have hdec := hdec (by simp [eLen])
      rw [hpc] at hdec
      exact W.vret B.exec B.bytes (by rw [B.returns]; exact hrt) (fun t ht hW => hq none t trivial ht hW) hfr hdec
    · rename_i q h1 h2 h3
      cases hr2
      obtain ⟨w, r, rfl, ⟨x, rfl, hxq⟩, hn⟩ := eAll_cons (hst _ h3)
      have e1 := eAll_nil hn
      subst e1
      rw [h2] at hdec
      rw [h1] at hrt
      have hdec := hdec (by simp [eLen])
      rw [hpc] at hdec
      exact W.iret B.exec B.bytes (by rw [B.returns]; exact hrt) (fun t ht hW => hq (some (.int x)) t ⟨x, rfl, hxq⟩ ht hW) hfr hdec
    · rename_i q h1 h2 h3
      obtain ⟨hbo, hr3⟩ := eCond hr2
      cases hr3
      obtain ⟨w, r, rfl, ⟨x, rfl, hxq⟩, hn⟩ := eAll_cons (hst _ h3)
      have e1 := eAll_nil hn
      subst e1
      rw [h2] at hdec
      rw [h1] at hrt
      have hdec := hdec (by simp [eLen])
      rw [hpc] at hdec
      have hx01 : x = 0 ∨ x = 1 := e_bool hs.1 hxq hbo
      exact W.zret B.exec B.bytes (by rw [B.returns]; exact hrt) (by rcases hx01 with rfl | rfl <;> decide) (fun t ht hW => hq (some (.int x)) t ⟨x, rfl, hxq⟩ ht hW) hfr hdec
    · rename_i u h1 h2 h3
      cases hr2
      obtain ⟨w, r, rfl, ⟨x, rfl⟩, hn⟩ := eAll_cons (hst _ h3)
      have e1 := eAll_nil hn
      subst e1
      rw [h2] at hdec
      rw [h1] at hrt
      have hdec := hdec (by simp [eLen])
      rw [hpc] at hdec
      exact W.lret B.exec B.bytes (by rw [B.returns]; exact hrt) (fun t ht hW => hq (some (.long x)) t ⟨x, rfl⟩ ht hW) hfr hdec
    · rename_i k h1 h2 h3
      cases hr2
      obtain ⟨w, r, rfl, ⟨x, hxa, rfl⟩, hn⟩ := eAll_cons (hst _ h3)
      have e1 := eAll_nil hn
      subst e1
      rw [h2] at hdec
      rw [h1] at hrt
      have hdec := hdec (by simp [eLen])
      rw [hpc] at hdec
      obtain ⟨rt, hrt1, hrt2⟩ := hrt
      exact W.aret B.exec B.bytes (by rw [B.returns]; exact hrt1) hrt2 (Or.inr ⟨x, rfl⟩) (fun t ht hW => hq (some (.ref x)) t ⟨x, hxa, rfl⟩ ht hW) hfr hdec
    · cases hr2
  · cases hr2
end EAX
end
section
/-! THE ENGINE, 11: the theorem. -/
section EMN
variable {Fz : (Nat → Prop) → State → Heap → Prop} {l0 : Launch} {cl : List vw_C} {Ts : List Cond} {nst : List (String × Nat × MethodName × String)} {sr : List (Int × Int)} {dfs : List (List eV)} {ms : List eM} {yt : List eY} {orc : Nat → Nat → List eV → eH → Option (List (Option eV × eH))}
/-- what goes on is right -/
def eIH (Fz : (Nat → Prop) → State → Heap → Prop) (l0 : Launch) (cl : List vw_C) (Ts : List Cond) (nst : List (String × Nat × MethodName × String)) (sr : List (Int × Int)) (ms : List eM) (yt : List eY) (X : Nat → Nat → List Nat → eS → Option (List eS)) : Prop := ∀ (d y : Nat) (stop : List Nat) (S : eS) (fins : List eS), X d y stop S = some fins → eGl Fz l0 cl Ts nst sr ms yt d y S fins
theorem eNext {X : Nat → Nat → List Nat → eS → Option (List eS)} (ih : eIH Fz l0 cl Ts nst sr ms yt X) {d y : Nat} {stop : List Nat} {S : eS} {zs : List eS} (h : cond (stop.elem S.1) (some [S]) (X d y stop S) = some zs) : eGl Fz l0 cl Ts nst sr ms yt d y S zs := by
  cases hb : stop.elem S.1 with
  | true =>
    rw [hb] at h
    cases h
    intro M Y hM hY p e R s m args below meth c hcx D A H0 σ ad0 hs hA hFs Q K
    exact K S List.mem_cons_self
  | false =>
    rw [hb] at h
    exact ih d y stop S zs h
theorem eGl_mono {d y : Nat} {S : eS} {zs fins : List eS} (h : eGl Fz l0 cl Ts nst sr ms yt d y S zs) (hz : ∀ z ∈ zs, z ∈ fins) : eGl Fz l0 cl Ts nst sr ms yt d y S fins := by
  intro M Y hM hY p e R s m args below meth c hcx D A H0 σ ad0 hs hA hFs Q K
  exact h M Y hM hY p e R s m args below meth c hcx D A H0 σ ad0 hs hA hFs Q (fun f hf => K f (hz f hf))
theorem eInv_ok (hF : eFzOk Fz) (hT : eAll (eMok cl Ts nst ms yt) ms yt) (hgood : ∀ w ∈ Ts, (w.onTables && w.keeps) = true ∨ ∃ ty, w = .arrayClass ty) (horc : ∀ (d b : Nat) (as : List eV) (h : eH) (os : List (Option eV × eH)), orc d b as h = some os → eCon Fz l0 cl Ts nst sr ms yt d b as h os)
    {X : Nat → Nat → List Nat → eS → Option (List eS)} (ih : eIH Fz l0 cl Ts nst sr ms yt X) {d y : Nat} {stop : List Nat} {S : eS} {fins : List eS} {kd b d0 : Nat} {M : eM} (hM : ms[y]? = some M) (h : eInv sr ms orc X d y stop S kd b d0 M = some fins)
    (hlk : ∀ Y, yt[y]? = some Y → (6 ≤ kd → ∃ idx, eLb Ts Y.1.cls idx kd ∧ (kd = 6 → decode Y.2.1 S.1 = .ok (.invokespecial idx, 3)) ∧ (kd ≠ 6 → decode Y.2.1 S.1 = .ok (.invokestatic idx, 3))) ∧ (kd < 6 → ∃ (N : eM) (Z : eY), ms[b]? = some N ∧ yt[b]? = some Z ∧ eKd cl Ts nst Y.1.cls Y.2.1 S.1 kd d0 Z)) : eGl Fz l0 cl Ts nst sr ms yt d y S fins := by
  intro M' Y hM' hY p e R s m args below meth c hcx D A H0 σ ad0 hs hA hFs Q K H locs ws tys ls lv stk hc
  have e0 := Option.some.inj (hM.symm.trans hM')
  subst e0
  obtain ⟨hx, hb, hown, hts, hml, hin, hXt, hR1, hR2, hRc, hRs⟩ := id hcx
  obtain ⟨pc, l, st, hp, cs, sl⟩ := S
  unfold eInv at h
  cases d with
  | zero => cases h
  | succ d' =>
    simp only at h
    cases hk : Nat.ble 6 kd with
    | true =>
      rw [hk] at h
      simp only [cond_true] at h
      obtain ⟨idx, g1, g2, g3⟩ := (hlk Y hY).1 (Nat.le_of_ble_eq_true hk)
      split at h
      · rename_i st' h' hbl
        obtain ⟨hn, hg⟩ := eCond h
        rw [Bool.and_eq_true] at hn
        refine eBlt_ok (l := l) hx hb hown hts hml (by omega) (by omega) hs (by rw [hRc]; exact Nat.le_of_ble_eq_true hn.1) (by rw [hRs]; exact Nat.le_of_ble_eq_true hn.2) g2 g3 g1 hbl ?_ H locs ws tys ls lv stk hc
        exact eNext ih hg M Y hM hY p e R s m args below meth c hcx D A H0 σ ad0 hs hA hFs Q K
      · cases h
    | false =>
      rw [hk] at h
      simp only [cond_false] at h
      have hlt : kd < 6 := by
        rcases Nat.lt_or_ge kd 6 with q | q
        · exact q
        · rw [Nat.ble_eq_true_of_le q] at hk; cases hk
      obtain ⟨N, Z, hN, hZ, hkd⟩ := (hlk Y hY).2 hlt
      rw [hN] at h
      simp only at h
      split at h
      · cases h
      · rename_i as r hpop
        obtain ⟨hn, hg⟩ := eCond h
        clear h
        simp only [Bool.and_eq_true] at hn
        obtain ⟨⟨⟨⟨n1, n2⟩, n3⟩, n4⟩, n5⟩ := hn
        split at hg
        · cases hg
        · rename_i os hos
          obtain ⟨Z', hZ', hok⟩ := eAll_get hT hN
          have e1 := Option.some.inj (hZ'.symm.trans hZ)
          subst e1
          have hcon : eCon Fz l0 cl Ts nst sr ms yt d' b as hp os := by
            split at hos
            · rename_i os' ho'
              cases hos
              exact horc d' b as hp _ ho'
            · split at hos
              · cases hos
              · rename_i fs hfs
                exact eCon_of hT hN (Nat.le_of_ble_eq_true n4) (ih d' b [] _ fs hfs) hos
          refine eCall_ok (l := l) hx hb hown hts hgood hml hXt hF hFs hs hA hR1 hR2 hN hZ hok hcon hkd hpop (Nat.le_of_ble_eq_true n1) (by rw [hRc]; exact Nat.le_of_ble_eq_true n2) (by rw [hRs]; exact Nat.le_of_ble_eq_true n3) n5 ?_ H locs ws tys ls lv stk hc
          intro o ho
          obtain ⟨zs, hz1, hz2⟩ := eColl_ok hg o ho
          exact eGl_mono (eNext ih hz1) hz2 M Y hM hY p e R s m args below meth c hcx D A H0 σ ad0 hs hA hFs Q K
theorem eExec_ok (hF : eFzOk Fz) (hT : eAll (eMok cl Ts nst ms yt) ms yt) (hgood : ∀ w ∈ Ts, (w.onTables && w.keeps) = true ∨ ∃ ty, w = .arrayClass ty) (hcl : eKl cl Ts dfs) (horc : ∀ (d b : Nat) (as : List eV) (h : eH) (os : List (Option eV × eH)), orc d b as h = some os → eCon Fz l0 cl Ts nst sr ms yt d b as h os) : ∀ n : Nat, eIH Fz l0 cl Ts nst sr ms yt (eExec sr dfs ms orc n) := by
  intro n
  induction n with
  | zero => intro d y stop S fins h; cases h
  | succ n ih =>
    intro d y stop S fins h
    have h : eBody sr dfs ms orc (eExec sr dfs ms orc n) d y stop S = some fins := h
    unfold eBody at h
    split at h
    · cases h
    · rename_i M hM
      obtain ⟨Y, hY, hok⟩ := eAll_get hT hM
      split at h
      · cases h
      · rename_i en hen
        obtain ⟨hpc, hmem⟩ := eAt_ok hen
        obtain ⟨hd, hd0, hlk, hli⟩ := hok.1 en hmem
        rw [hpc] at hd hd0 hlk
        have ret : some [S] = some fins → eGl Fz l0 cl Ts nst sr ms yt d y S fins := fun hr => by
          cases hr
          intro M Y hM hY p e R s m args below meth c hcx D A H0 σ ad0 hs hA hFs Q K
          exact K S List.mem_cons_self
        split at h
        · exact ret h
        · exact ret h
        · exact ret h
        · exact ret h
        · rename_i idx hi
          rw [hi] at hd hli
          have hd := hd (by simp [eLen])
          refine eInv_ok hF hT hgood horc ih hM h (fun Y' hY' => ?_)
          have e1 := Option.some.inj (hY.symm.trans hY')
          subst e1
          obtain ⟨ha, N, Z, w1, w2, w3, w4, w5, T, NN, w6⟩ := hli
          refine ⟨fun q => by omega, fun _ => ⟨N, Z, w1, w2, Or.inl ⟨ha, idx, T, NN, hd, w3, w4, w5, w6⟩⟩⟩
        · rename_i idx hi
          rw [hi] at hd hli
          have hd := hd (by simp [eLen])
          refine eInv_ok hF hT hgood horc ih hM h (fun Y' hY' => ?_)
          have e1 := Option.some.inj (hY.symm.trans hY')
          subst e1
          rcases hli with ⟨ha, hb⟩ | ⟨ha, N, Z, w1, w2, w3, w4⟩
          · exact ⟨fun _ => ⟨idx, hb, fun q => by omega, fun _ => hd⟩, fun q => by omega⟩
          · refine ⟨fun q => by omega, fun _ => ⟨N, Z, w1, w2, ?_⟩⟩
            rcases w4 with ⟨w4, w5⟩ | ⟨w4, host, w5⟩
            · exact Or.inr (Or.inl ⟨w4, idx, hd, w5, w3⟩)
            · exact Or.inr (Or.inr (Or.inl ⟨w4, idx, host, hd, w5, w3⟩))
        · rename_i idx hi
          rw [hi] at hd hli
          have hd := hd (by simp [eLen])
          refine eInv_ok hF hT hgood horc ih hM h (fun Y' hY' => ?_)
          have e1 := Option.some.inj (hY.symm.trans hY')
          subst e1
          rcases hli with ⟨ha, hb⟩ | ⟨ha, N, Z, w1, w2, w3, w4, w5, w6⟩
          · exact ⟨fun _ => ⟨idx, hb, fun _ => hd, fun q => absurd ha q⟩, fun q => by omega⟩
          · refine ⟨fun q => by omega, fun _ => ⟨N, Z, w1, w2, ?_⟩⟩
            rcases w6 with ⟨w6, w7⟩ | ⟨w6, host, w7⟩
            · exact Or.inr (Or.inr (Or.inr (Or.inl ⟨w6, idx, hd, w7, w3, w4, w5⟩)))
            · exact Or.inr (Or.inr (Or.inr (Or.inr ⟨w6, idx, host, hd, w7, w3, w4, w5⟩)))
        · rename_i idx dim hi
          rw [hi] at hd hli
          obtain ⟨hdim, w1, w2⟩ := hli
          subst hdim
          have hd := hd (by simp [eLen])
          split at h
          · cases h
          · rename_i st' h' cs' sl' hmul
            intro M' Y' hM' hY' p e R s m args below meth c hcx D A H0 σ ad0 hs hA hFs Q K H locs ws tys ls lv stk hc
            have e0 := Option.some.inj (hM.symm.trans hM')
            subst e0
            have e1 := Option.some.inj (hY.symm.trans hY')
            subst e1
            obtain ⟨hx, hb, hown, hts, hml, hin, hXt, hR1, hR2, hRc, hRs⟩ := id hcx
            exact eMul_ok hx hb hown hts hXt.2 hRc hRs hs hA hd w1 w2 hmul (eNext ih h M Y hM hY p e R s m args below meth c hcx D A H0 σ ad0 hs hA hFs Q K) H locs ws tys ls lv stk hc
        · split at h
          · cases h
          · rename_i outs hst
            intro M' Y' hM' hY' p e R s m args below meth c hcx D A H0 σ ad0 hs hA hFs Q K H locs ws tys ls lv stk hc
            have e0 := Option.some.inj (hM.symm.trans hM')
            subst e0
            have e1 := Option.some.inj (hY.symm.trans hY')
            subst e1
            obtain ⟨hx, hb, hown, hts, hml, hin, hXt, hR1, hR2, hRc, hRs⟩ := id hcx
            refine eStep_ok hx hb hown hts hcl hin hRc hRs hs hA hd hd0 hlk hst ?_ H locs ws tys ls lv stk hc
            intro S' hS'
            obtain ⟨zs, hz1, hz2⟩ := eColl_ok h S' hS'
            exact eGl_mono (eNext ih hz1) hz2 M Y hM hY p e R s m args below meth c hcx D A H0 σ ad0 hs hA hFs Q K
end EMN
end
section
/-! THE ENGINE, 12: what is known may be loosened; symbols may be renamed; loops. -/
def eFnd (R : List (Nat × Nat × Int)) (a b : Nat) : Option Int := match R with
  | [] => none
  | q :: R => cond (Nat.beq q.1 a && Nat.beq q.2.1 b) (some q.2.2) (eFnd R a b)
theorem eFnd_ok : ∀ {R : List (Nat × Nat × Int)} {a b : Nat} {c : Int}, eFnd R a b = some c → (a, b, c) ∈ R
  | [], a, b, c, h => by cases h
  | q :: R, a, b, c, h => by
    unfold eFnd at h
    cases hq : (Nat.beq q.1 a && Nat.beq q.2.1 b) with
    | true =>
      rw [hq] at h
      rw [Bool.and_eq_true] at hq
      cases h
      rw [← Nat.eq_of_beq_eq_true hq.1, ← Nat.eq_of_beq_eq_true hq.2]
      exact List.mem_cons_self
    | false =>
      rw [hq] at h
      exact List.mem_cons_of_mem _ (eFnd_ok (R := R) h)
def eLeI (sr : List (Int × Int)) (R : List (Nat × Nat × Int)) (p q : eI) : Bool := (match eFnd R p.1 q.1 with
  | some c => eLe q.2.1 (p.2.1 + c) && eLe (p.2.2 + c) q.2.2
  | none => false) || (Nat.beq q.1 0 && eLe q.2.1 (eRg sr p).1 && eLe (eRg sr p).2 q.2.2)
def eLeV (sr : List (Int × Int)) (R : List (Nat × Nat × Int)) (v w : eV) : Bool := match v, w with
  | .inl p, .inl q => eLeI sr R p q
  | .inr (.inl none), .inr (.inl none) => true
  | .inr (.inl (some a)), .inr (.inl (some b)) => Nat.beq a b
  | .inr (.inr _), .inr (.inr _) => true
  | _, _ => false
def eLeL (sr : List (Int × Int)) (R : List (Nat × Nat × Int)) (vs ws : List eV) : Bool := match vs, ws with
  | [], [] => true
  | v :: vs, w :: ws => eLeV sr R v w && eLeL sr R vs ws
  | _, _ => false
def eLeC (sr : List (Int × Int)) (R : List (Nat × Nat × Int)) (c d : eC) : Bool := match c, d with
  | .inl o, .inl o' => Nat.beq o.1 o'.1 && eLeL sr R o.2 o'.2
  | .inr (t, n, .inl es), .inr (t', n', .inl es') => Nat.beq t t' && Nat.beq n n' && eLeL sr R es es'
  | .inr (t, n, .inr q), .inr (t', n', .inr q') => Nat.beq t t' && Nat.beq n n' && eLe q'.1 q.1 && eLe q.2 q'.2
  | _, _ => false
def eLeH (sr : List (Int × Int)) (R : List (Nat × Nat × Int)) (g h : eH) : Bool := match g, h with
  | [], [] => true
  | c :: g, d :: h => eLeC sr R c d && eLeH sr R g h
  | _, _ => false
def eLeO (sr : List (Int × Int)) (R : List (Nat × Nat × Int)) (l l' : eL) : Bool := match l' with
  | [] => true
  | q :: l' => (match eGet l q.1 with
    | some v => eLeV sr R v q.2
    | none => false) && eLeO sr R l l'
def eLeS (sr : List (Int × Int)) (R : List (Nat × Nat × Int)) (S T : eS) : Bool := Nat.beq S.1 T.1 && eLeO sr R S.2.1 T.2.1 && eLeL sr R S.2.2.1 T.2.2.1 && eLeH sr R S.2.2.2.1 T.2.2.2.1 && Nat.beq S.2.2.2.2.1 T.2.2.2.2.1 && Nat.beq S.2.2.2.2.2 T.2.2.2.2.2
section ELE
variable {sr : List (Int × Int)} {R : List (Nat × Nat × Int)} {σ τ : Nat → Int} {ad : List Nat} {tys : List (ClassId × FieldType)}
theorem eLeI_ok (hs : eSg sr σ) (h0 : τ 0 = 0) (hR : ∀ q ∈ R, σ q.1 = τ q.2.1 + q.2.2) {p q : eI} {x : Int32} (h : eLeI sr R p q = true) (hx : eIn σ p x) : eIn τ q x := by
  unfold eLeI at h
  rw [Bool.or_eq_true] at h
  rcases h with h | h
  · split at h
    · rename_i c hc
      have hm := hR _ (eFnd_ok hc)
      have hm : σ p.1 = τ q.1 + c := hm
      rw [Bool.and_eq_true] at h
      have h1 := eLe_ok h.1
      have h2 := eLe_ok h.2
      obtain ⟨hx1, hx2⟩ := hx
      exact ⟨by omega, by omega⟩
    · cases h
  · simp only [Bool.and_eq_true] at h
    obtain ⟨⟨h1, h2⟩, h3⟩ := h
    have h1 := Nat.eq_of_beq_eq_true h1
    have h2 := eLe_ok h2
    have h3 := eLe_ok h3
    have hr := eRg_ok hs hx
    exact ⟨by rw [h1, h0]; omega, by rw [h1, h0]; omega⟩
theorem eLeV_ok (hs : eSg sr σ) (h0 : τ 0 = 0) (hR : ∀ q ∈ R, σ q.1 = τ q.2.1 + q.2.2) {v w : eV} {x : Value} (h : eLeV sr R v w = true) (hx : eOk ad σ v x) : eOk ad τ w x := by
  match v, w, h, hx with
  | .inl p, .inl q, h, ⟨x, hx, hq⟩ => exact ⟨x, hx, eLeI_ok hs h0 hR h hq⟩
  | .inr (.inl none), .inr (.inl none), h, hx => exact hx
  | .inr (.inl (some a)), .inr (.inl (some b)), h, hx =>
    have e := Nat.eq_of_beq_eq_true (show Nat.beq a b = true from h)
    subst e
    exact hx
  | .inr (.inr _), .inr (.inr _), h, hx => exact hx
theorem eLeL_ok (hs : eSg sr σ) (h0 : τ 0 = 0) (hR : ∀ q ∈ R, σ q.1 = τ q.2.1 + q.2.2) : ∀ {vs ws : List eV} {xs : List Value}, eLeL sr R vs ws = true → eAll (eOk ad σ) vs xs → eAll (eOk ad τ) ws xs
  | [], [], xs, _, hx => by rw [eAll_nil hx]; trivial
  | v :: vs, w :: ws, xs, h, hx => by
    obtain ⟨x, xs, rfl, h1, h2⟩ := eAll_cons hx
    unfold eLeL at h
    rw [Bool.and_eq_true] at h
    exact ⟨eLeV_ok hs h0 hR h.1 h1, eLeL_ok hs h0 hR h.2 h2⟩
  | [], _ :: _, _, h, _ => by cases h
  | _ :: _, [], _, h, _ => by cases h
theorem eLeL_get (hs : eSg sr σ) (h0 : τ 0 = 0) (hR : ∀ q ∈ R, σ q.1 = τ q.2.1 + q.2.2) : ∀ {vs ws : List eV}, eLeL sr R vs ws = true → ∀ {j : Nat} {v : eV} {x : Value}, vs[j]? = some v → eOk ad σ v x → ∃ w, ws[j]? = some w ∧ eOk ad τ w x
  | [], [], _, j, v, x, hj, _ => by simp at hj
  | v :: vs, w :: ws, h, j, v', x, hj, hx => by
    unfold eLeL at h
    rw [Bool.and_eq_true] at h
    cases j with
    | zero =>
      simp at hj
      subst hj
      exact ⟨w, by simp, eLeV_ok hs h0 hR h.1 hx⟩
    | succ j =>
      obtain ⟨w', g1, g2⟩ := eLeL_get hs h0 hR h.2 (j := j) (by simpa using hj) hx
      exact ⟨w', by simpa using g1, g2⟩
  | [], _ :: _, h, _, _, _, _, _ => by cases h
  | _ :: _, [], h, _, _, _, _, _ => by cases h
theorem eLeC_ok (hs : eSg sr σ) (h0 : τ 0 = 0) (hR : ∀ q ∈ R, σ q.1 = τ q.2.1 + q.2.2) {c d : eC} {q : Nat × va_E} (h : eLeC sr R c d = true) (hc : eCk ad σ tys c q) : eCk ad τ tys d q := by
  match c, d, h, hc with
  | .inl o, .inl o', h, ⟨vs, h1, h2⟩ =>
    unfold eLeC at h
    rw [Bool.and_eq_true] at h
    have e := Nat.eq_of_beq_eq_true h.1
    exact ⟨vs, by rw [h1, e], eLeL_ok hs h0 hR h.2 h2⟩
  | .inr (t, n, .inl es), .inr (t', n', .inl es'), h, ⟨cA, t0, h1, h2, h3⟩ =>
    unfold eLeC at h
    simp only [Bool.and_eq_true] at h
    obtain ⟨⟨e1, e2⟩, h4⟩ := h
    have e1 := Nat.eq_of_beq_eq_true e1
    have e2 := Nat.eq_of_beq_eq_true e2
    subst e1
    subst e2
    refine ⟨cA, t0, h1, h2, ?_⟩
    have h3 : eAr ad σ t n (.inl es) cA q.2 := h3
    show eAr ad τ t n (.inl es') cA q.2
    unfold eAr at h3 ⊢
    split at h3
    · exact h3
    · obtain ⟨f, g1, g2⟩ := h3
      exact ⟨f, g1, fun j hj => by obtain ⟨v, k1, k2⟩ := g2 j hj; exact eLeL_get hs h0 hR h4 k1 k2⟩
    · obtain ⟨f, g1, g2⟩ := h3
      exact ⟨f, g1, fun j hj => by obtain ⟨v, k1, k2⟩ := g2 j hj; exact eLeL_get hs h0 hR h4 k1 k2⟩
  | .inr (t, n, .inr r), .inr (t', n', .inr r'), h, ⟨cA, t0, h1, h2, h3⟩ =>
    unfold eLeC at h
    simp only [Bool.and_eq_true] at h
    obtain ⟨⟨⟨e1, e2⟩, h4⟩, h5⟩ := h
    have e1 := Nat.eq_of_beq_eq_true e1
    have e2 := Nat.eq_of_beq_eq_true e2
    have h4 := eLe_ok h4
    have h5 := eLe_ok h5
    subst e1
    subst e2
    refine ⟨cA, t0, h1, h2, ?_⟩
    have h3 : eAr ad σ t n (.inr r) cA q.2 := h3
    show eAr ad τ t n (.inr r') cA q.2
    unfold eAr at h3 ⊢
    split at h3
    · exact h3
    · obtain ⟨f, g1, g2⟩ := h3
      exact ⟨f, g1, trivial⟩
    · obtain ⟨f, g1, g2⟩ := h3
      exact ⟨f, g1, fun j hj => by have := g2 j hj; exact ⟨by omega, by omega⟩⟩
theorem eLeH_ok (hs : eSg sr σ) (h0 : τ 0 = 0) (hR : ∀ q ∈ R, σ q.1 = τ q.2.1 + q.2.2) : ∀ {g h : eH} {ws : va_W}, eLeH sr R g h = true → eAll (eCk ad σ tys) g ws → eAll (eCk ad τ tys) h ws
  | [], [], ws, _, hx => by rw [eAll_nil hx]; trivial
  | v :: vs, w :: ws, xs, h, hx => by
    obtain ⟨x, xs, rfl, h1, h2⟩ := eAll_cons hx
    unfold eLeH at h
    rw [Bool.and_eq_true] at h
    exact ⟨eLeC_ok hs h0 hR h.1 h1, eLeH_ok hs h0 hR h.2 h2⟩
  | [], _ :: _, _, h, _ => by cases h
  | _ :: _, [], _, h, _ => by cases h
theorem eLeO_ok (hs : eSg sr σ) (h0 : τ 0 = 0) (hR : ∀ q ∈ R, σ q.1 = τ q.2.1 + q.2.2) {l : eL} {lv : List (Nat × Value)} (hl : eAll (eLo ad σ) l lv) : ∀ {l' : eL}, eLeO sr R l l' = true → ∃ lv', eAll (eLo ad τ) l' lv' ∧ ∀ q ∈ lv', q ∈ lv
  | [], _ => ⟨[], trivial, fun q hq => absurd hq List.not_mem_nil⟩
  | q :: l', h => by
    unfold eLeO at h
    rw [Bool.and_eq_true] at h
    obtain ⟨h1, h2⟩ := h
    obtain ⟨lv', g1, g2⟩ := eLeO_ok hs h0 hR hl h2
    split at h1
    · rename_i v hv
      obtain ⟨w, w1, w2⟩ := eGet_ok hl hv
      refine ⟨(q.1, w) :: lv', ⟨⟨rfl, eLeV_ok hs h0 hR h1 w2⟩, g1⟩, fun z hz => ?_⟩
      rcases List.mem_cons.mp hz with rfl | hz
      · exact w1
      · exact g2 z hz
    · cases h1
theorem eLeS_ok (hs : eSg sr σ) (h0 : τ 0 = 0) (hR : ∀ q ∈ R, σ q.1 = τ q.2.1 + q.2.2) {D : va_G} {cl : List vw_C} {A : Nat → Prop} {H0 : Heap} {s : State} {nL : Nat} {ad0 : List Nat} {S T : eS} (h : eLeS sr R S T = true) {H : Heap} {locs : List Loc} {ws : va_W} {ls : Array Slot} {lv : List (Nat × Value)} {stk : List Value} (hc : eCn D cl A H0 s σ nL ad0 S H locs ws tys ls lv stk) : S.1 = T.1 ∧ S.2.2.2.2.1 = T.2.2.2.2.1 ∧ S.2.2.2.2.2 = T.2.2.2.2.2 ∧ ∃ lv', eCn D cl A H0 s τ nL ad0 T H locs ws tys ls lv' stk := by
  unfold eLeS at h
  simp only [Bool.and_eq_true] at h
  obtain ⟨⟨⟨⟨⟨h1, h2⟩, h3⟩, h4⟩, h5⟩, h6⟩ := h
  obtain ⟨hK, hP, hD, hS, hpre, hh, hl, hlv, hsk⟩ := hc
  obtain ⟨lv', g1, g2⟩ := eLeO_ok hs h0 hR hlv h2
  exact ⟨Nat.eq_of_beq_eq_true h1, Nat.eq_of_beq_eq_true h5, Nat.eq_of_beq_eq_true h6, lv', hK, hP, hD, hS, hpre, eLeH_ok hs h0 hR h4 hh, ⟨hl.1, hl.2.1, fun q hq => hl.2.2 q (g2 q hq)⟩, g1, eLeL_ok hs h0 hR h3 hsk⟩
end ELE
section ELP
variable {Fz : (Nat → Prop) → State → Heap → Prop} {l0 : Launch} {cl : List vw_C} {Ts : List Cond} {nst : List (String × Nat × MethodName × String)} {sr : List (Int × Int)} {ms : List eM} {yt : List eY}
theorem eGl_trans {d y : Nat} {S : eS} {mid fins : List eS} (h : eGl Fz l0 cl Ts nst sr ms yt d y S mid) (h2 : ∀ T ∈ mid, eGl Fz l0 cl Ts nst sr ms yt d y T fins) : eGl Fz l0 cl Ts nst sr ms yt d y S fins := by
  intro M Y hM hY p e R s m args below meth c hcx D A H0 σ ad0 hs hA hFs Q K
  exact h M Y hM hY p e R s m args below meth c hcx D A H0 σ ad0 hs hA hFs Q (fun f hf => h2 f hf M Y hM hY p e R s m args below meth c hcx D A H0 σ ad0 hs hA hFs Q K)
/-- the old symbols stay -/
def eId (n : Nat) : List (Nat × Nat × Int) := (List.range n).map (fun j => (j, j, 0))
def eUp (σ : Nat → Int) (n : Nat) (v : Int) : Nat → Int := fun j => if j = n then v else σ j
theorem eUp_at (σ : Nat → Int) (n : Nat) (v : Int) : eUp σ n v n = v := if_pos rfl
theorem eUp_ne {σ : Nat → Int} {n j : Nat} {v : Int} (h : j ≠ n) : eUp σ n v j = σ j := if_neg h
theorem eSg_up {σ : Nat → Int} {v lo hi : Int} (hs : eSg sr σ) (hn : 0 < sr.length) (h1 : lo ≤ v) (h2 : v ≤ hi) : eSg (sr ++ [(lo, hi)]) (eUp σ sr.length v) := by
  refine ⟨by rw [eUp_ne (by omega)]; exact hs.1, fun j q hq => ?_⟩
  by_cases hj : j < sr.length
  · rw [List.getElem?_append_left hj] at hq
    rw [eUp_ne (by omega)]
    exact hs.2 j q hq
  · have hlt := (List.getElem?_eq_some_iff.mp hq).1
    rw [List.length_append] at hlt
    have e : j = sr.length := by simp at hlt; omega
    subst e
    rw [List.getElem?_append_right (Nat.le_refl _), Nat.sub_self] at hq
    cases hq
    rw [eUp_at]
    exact ⟨h1, h2⟩
theorem eId_ok {σ τ : Nat → Int} {n : Nat} (h : ∀ j, j < n → σ j = τ j) : ∀ q ∈ eId n, σ q.1 = τ q.2.1 + q.2.2 := by
  intro q hq
  obtain ⟨j, hj, rfl⟩ := List.mem_map.mp hq
  have := h j (List.mem_range.mp hj)
  show σ j = τ j + 0
  omega
/-- A LOOP that counts: at its head (S1) the new symbol; at 'cp' it is compared with a bound; Sb behind it, Sx at its end -/
theorem eFor {d y b cp xp : Nat} {k : Jvm.ClassFile.Cond} {st bd lo hi : Int} {S0 S1 Sx So : eS} {l : eL} {h : eH} {cs sl : Nat} {fins : List eS} (hn : 0 < sr.length) (hb : b < sr.length)
    (hT : eAll (eMok cl Ts nst ms yt) ms yt) (hent : ∀ M, ms[y]? = some M → ∃ off len a2 a3 a4, eAt M.1 cp = some (cp, .if_icmp k off, len, xp, a2, a3, a4))
    (hk : (k = .ge ∧ bd = lo) ∨ (k = .gt ∧ bd = lo + 1))
    (hin : eLeS sr ((0, sr.length, -st) :: eId sr.length) S0 S1 = true)
    (hhead : eGl Fz l0 cl Ts nst (sr ++ [(st, hi)]) ms yt d y S1 [(cp, l, [.inl (b, lo, lo), .inl (sr.length, 0, 0)], h, cs, sl)])
    (hbody : eGl Fz l0 cl Ts nst (sr ++ [(st, hi - 1)]) ms yt d y (cp + 3, l, [], h, cs, sl) fins) (hback : fins.all (fun f => eLeS (sr ++ [(st, hi - 1)]) ((sr.length, sr.length, -1) :: eId sr.length) f S1) = true)
    (hxs : Sx = (xp, l, [], h, cs, sl)) (hout : eLeS (sr ++ [(st, hi)]) ((sr.length, b, bd) :: eId sr.length) Sx So = true)
    (hbnd : ∀ σ, eSg sr σ → st ≤ σ b + bd ∧ σ b + bd ≤ hi) : eGl Fz l0 cl Ts nst sr ms yt d y S0 [So] := by
  intro M Y hM hY p e R s m args below meth c hcx D A H0 σ ad0 hs hA hFs Q K
  obtain ⟨hx, hbb, hown, hts, hml, hini, hXt, hR1, hR2, hRc, hRs⟩ := id hcx
  obtain ⟨Y', hY', hok⟩ := eAll_get hT hM
  have eY := Option.some.inj (hY'.symm.trans hY)
  subst eY
  obtain ⟨off, len, a2, a3, a4, hen⟩ := hent M hM
  obtain ⟨-, hmem⟩ := eAt_ok hen
  obtain ⟨hd, -, hlk, -⟩ := hok.1 _ hmem
  have hd : decode Y'.2.1 cp = .ok (.if_icmp k off, 3) := hd (by simp [eLen])
  have hlk : (cp : Int) + off = (xp : Int) := hlk
  obtain ⟨hB1, hB2⟩ := hbnd σ hs
  have idok : ∀ v w : Int, ∀ j, j < sr.length → eUp σ sr.length v j = eUp σ sr.length w j := fun v w j hj => by rw [eUp_ne (by omega), eUp_ne (by omega)]
  have idok0 : ∀ v : Int, ∀ j, j < sr.length → σ j = eUp σ sr.length v j := fun v j hj => by rw [eUp_ne (by omega)]
  have loop : ∀ (n : Nat) (v : Int), st ≤ v → v ≤ σ b + bd → (σ b + bd - v).toNat < n → ∀ (H : Heap) (locs : List Loc) (ws : va_W) (tys : List (ClassId × FieldType)) (ls : Array Slot) (lv : List (Nat × Value)) (stk : List Value), eCn D cl A H0 s (eUp σ sr.length v) M.2.1 ad0 S1 H locs ws tys ls lv stk → W p l0 e R s m args below meth c H locs S1.2.2.2.2.1 S1.2.2.2.2.2 Q (F0 m S1.1 ls stk) := by
    intro n
    induction n with
    | zero => intro v h1 h2 h3; omega
    | succ n ih =>
      intro v h1 h2 h3
      have hs1 : eSg (sr ++ [(st, hi)]) (eUp σ sr.length v) := eSg_up hs hn h1 (by omega)
      refine hhead M Y' hM hY p e R s m args below meth c hcx D A H0 (eUp σ sr.length v) ad0 hs1 hA hFs Q (fun f hf => ?_)
      rw [List.mem_singleton] at hf
      subst hf
      intro H locs ws tys ls lv stk hc
      obtain ⟨hK, hP, hD, hS, hpre, hh, hl, hlv, hsk⟩ := hc
      obtain ⟨w1, stk1, rfl, ⟨z, rfl, hz⟩, hsk1⟩ := eAll_cons hsk
      obtain ⟨w2, stk2, rfl, ⟨x, rfl, hxv⟩, hsk2⟩ := eAll_cons hsk1
      have e2 := eAll_nil hsk2
      subst e2
      have ez : z.toInt = σ b + lo := by
        obtain ⟨q1, q2⟩ := hz
        have e : eUp σ sr.length v b = σ b := eUp_ne (by omega)
        have q1 : eUp σ sr.length v b + lo ≤ z.toInt := q1
        have q2 : z.toInt ≤ eUp σ sr.length v b + lo := q2
        omega
      have ex : x.toInt = v := by
        obtain ⟨q1, q2⟩ := hxv
        have q1 : eUp σ sr.length v sr.length + 0 ≤ x.toInt := q1
        have q2 : x.toInt ≤ eUp σ sr.length v sr.length + 0 := q2
        rw [eUp_at] at q1 q2
        omega
      have yes : v = σ b + bd → W p l0 e R s m args below meth c H locs cs sl Q (F0 m xp ls []) := by
        intro hv
        have hfact : ∀ q ∈ ((sr.length, b, bd) :: eId sr.length : List (Nat × Nat × Int)), eUp σ sr.length v q.1 = σ q.2.1 + q.2.2 := by
          intro q hq
          rcases List.mem_cons.mp hq with rfl | hq
          · show eUp σ sr.length v sr.length = σ b + bd
            rw [eUp_at]
            exact hv
          · exact eId_ok (fun j hj => (idok0 v j hj).symm) q hq
        obtain ⟨g1, g2, g3, lv', g4⟩ := eLeS_ok (T := So) hs1 hs.1 hfact hout (hxs ▸ (⟨hK, hP, hD, hS, hpre, hh, hl, hlv, trivial⟩ : eCn D cl A H0 s (eUp σ sr.length v) M.2.1 ad0 (xp, l, [], h, cs, sl) H locs ws tys ls lv []))
        have := K So List.mem_cons_self H locs ws tys ls lv' [] g4
        rw [← g1, ← g2, ← g3, hxs] at this
        exact this
      have no : v < σ b + bd → W p l0 e R s m args below meth c H locs cs sl Q (F0 m (cp + 3) ls []) := by
        intro hv
        have hs2 : eSg (sr ++ [(st, hi - 1)]) (eUp σ sr.length v) := eSg_up hs hn h1 (by omega)
        refine hbody M Y' hM hY p e R s m args below meth c hcx D A H0 (eUp σ sr.length v) ad0 hs2 hA hFs Q (fun f hf => ?_) H locs ws tys ls lv [] ⟨hK, hP, hD, hS, hpre, hh, hl, hlv, trivial⟩
        intro H' locs' ws' tys' ls' lv' stk' hc'
        have hfact : ∀ q ∈ ((sr.length, sr.length, -1) :: eId sr.length : List (Nat × Nat × Int)), eUp σ sr.length v q.1 = eUp σ sr.length (v + 1) q.2.1 + q.2.2 := by
          intro q hq
          rcases List.mem_cons.mp hq with rfl | hq
          · show eUp σ sr.length v sr.length = eUp σ sr.length (v + 1) sr.length + -1
            rw [eUp_at, eUp_at]
            omega
          · exact eId_ok (idok v (v + 1)) q hq
        obtain ⟨g1, g2, g3, lv'', g4⟩ := eLeS_ok hs2 (by rw [eUp_ne (by omega)]; exact hs.1) hfact (List.all_eq_true.mp hback f hf) hc'
        rw [g1, g2, g3]
        exact ih (v + 1) (by omega) (by omega) (by omega) H' locs' ws' tys' ls' lv'' stk' g4
      rcases hk with ⟨rfl, hbd⟩ | ⟨rfl, hbd⟩
      · exact lv_icmp_ge hx hbb hd hlk (fun q => yes (by have := Int32.le_iff_toInt_le.mp q; omega)) (fun q => no (by have := Int32.lt_iff_toInt_lt.mp (Int32.not_le.mp q); omega))
      · exact lv_icmp_gt hx hbb hd hlk (fun q => yes (by have := Int32.lt_iff_toInt_lt.mp q; omega)) (fun q => no (by have := Int32.le_iff_toInt_le.mp (Int32.not_lt.mp q); omega))
  intro H locs ws tys ls lv stk hc
  have hfact : ∀ q ∈ ((0, sr.length, -st) :: eId sr.length : List (Nat × Nat × Int)), σ q.1 = eUp σ sr.length st q.2.1 + q.2.2 := by
    intro q hq
    rcases List.mem_cons.mp hq with rfl | hq
    · show σ 0 = eUp σ sr.length st sr.length + -st
      rw [eUp_at, hs.1]
      omega
    · exact eId_ok (idok0 st) q hq
  obtain ⟨g1, g2, g3, lv', g4⟩ := eLeS_ok hs (by rw [eUp_ne (by omega)]; exact hs.1) hfact hin hc
  rw [g1, g2, g3]
  exact loop _ st (Int.le_refl _) hB1 (Nat.lt_succ_self _) H locs ws tys ls lv' stk g4
end ELP
end
section
-- ===== PART A: goes FIRST, ahead of the names: the tables' words, and 'selects' of the private methods out of them =====
/-- a private method of a class that the tables say can be made, by its rows of tables_1 -/
def lw_okq (q : MethodName × Nat) : Prop := (q.1.cls ≠ "java/lang/invoke/MethodHandle" ∧ q.1.cls ≠ "java/lang/invoke/VarHandle") ∧ Cond.instantiable q.1.cls q.2 ∈ tables_1 ∧ Cond.privateMethod q.1 ∈ tables_1 ∧ Cond.instanceMethod q.1 ∈ tables_1
theorem lw_p0 : lw_okq (⟨"FuseTreaty", "putBytes", "(I)V"⟩, 13) := ⟨⟨by decide +kernel, by decide +kernel⟩, List.mem_of_getElem? (i := 23) (by decide +kernel), List.mem_of_getElem? (i := 552) (by decide +kernel), List.mem_of_getElem? (i := 553) (by decide +kernel)⟩
theorem lw_p1 : lw_okq (⟨"FuseTreaty$Tokens", "pastBlanks", "(I)I"⟩, 6) := ⟨⟨by decide +kernel, by decide +kernel⟩, List.mem_of_getElem? (i := 169) (by decide +kernel), List.mem_of_getElem? (i := 571) (by decide +kernel), List.mem_of_getElem? (i := 572) (by decide +kernel)⟩
theorem lw_p2 : lw_okq (⟨"FuseTreaty$Tokens", "byteAt", "(I)I"⟩, 6) := ⟨⟨by decide +kernel, by decide +kernel⟩, List.mem_of_getElem? (i := 169) (by decide +kernel), List.mem_of_getElem? (i := 575) (by decide +kernel), List.mem_of_getElem? (i := 576) (by decide +kernel)⟩
theorem lw_p3 : lw_okq (⟨"FuseTreaty$Tokens", "scanOne", "(II)I"⟩, 6) := ⟨⟨by decide +kernel, by decide +kernel⟩, List.mem_of_getElem? (i := 169) (by decide +kernel), List.mem_of_getElem? (i := 579) (by decide +kernel), List.mem_of_getElem? (i := 580) (by decide +kernel)⟩
theorem lw_p4 : lw_okq (⟨"FuseTreaty$Tokens", "isLetterAt", "(I)Z"⟩, 6) := ⟨⟨by decide +kernel, by decide +kernel⟩, List.mem_of_getElem? (i := 169) (by decide +kernel), List.mem_of_getElem? (i := 583) (by decide +kernel), List.mem_of_getElem? (i := 584) (by decide +kernel)⟩
theorem lw_p5 : lw_okq (⟨"FuseTreaty$Tokens", "scanLetters", "(II)I"⟩, 6) := ⟨⟨by decide +kernel, by decide +kernel⟩, List.mem_of_getElem? (i := 169) (by decide +kernel), List.mem_of_getElem? (i := 587) (by decide +kernel), List.mem_of_getElem? (i := 588) (by decide +kernel)⟩
theorem lw_p6 : lw_okq (⟨"FuseTreaty$Tokens", "wordOrName", "(J)I"⟩, 6) := ⟨⟨by decide +kernel, by decide +kernel⟩, List.mem_of_getElem? (i := 169) (by decide +kernel), List.mem_of_getElem? (i := 591) (by decide +kernel), List.mem_of_getElem? (i := 592) (by decide +kernel)⟩
theorem lw_p7 : lw_okq (⟨"FuseTreaty$Tokens", "isDigitAt", "(I)Z"⟩, 6) := ⟨⟨by decide +kernel, by decide +kernel⟩, List.mem_of_getElem? (i := 169) (by decide +kernel), List.mem_of_getElem? (i := 595) (by decide +kernel), List.mem_of_getElem? (i := 596) (by decide +kernel)⟩
theorem lw_p8 : lw_okq (⟨"FuseTreaty$Tokens", "scanDigits", "(II)I"⟩, 6) := ⟨⟨by decide +kernel, by decide +kernel⟩, List.mem_of_getElem? (i := 169) (by decide +kernel), List.mem_of_getElem? (i := 599) (by decide +kernel), List.mem_of_getElem? (i := 600) (by decide +kernel)⟩
theorem lw_p9 : lw_okq (⟨"FuseTreaty$Grammar", "kind", "()I"⟩, 7) := ⟨⟨by decide +kernel, by decide +kernel⟩, List.mem_of_getElem? (i := 249) (by decide +kernel), List.mem_of_getElem? (i := 611) (by decide +kernel), List.mem_of_getElem? (i := 612) (by decide +kernel)⟩
theorem lw_p10 : lw_okq (⟨"FuseTreaty$Grammar", "checkTold", "(I)V"⟩, 7) := ⟨⟨by decide +kernel, by decide +kernel⟩, List.mem_of_getElem? (i := 249) (by decide +kernel), List.mem_of_getElem? (i := 615) (by decide +kernel), List.mem_of_getElem? (i := 616) (by decide +kernel)⟩
theorem lw_p11 : lw_okq (⟨"FuseTreaty$Grammar", "checkCounted", "(IIII)V"⟩, 7) := ⟨⟨by decide +kernel, by decide +kernel⟩, List.mem_of_getElem? (i := 249) (by decide +kernel), List.mem_of_getElem? (i := 619) (by decide +kernel), List.mem_of_getElem? (i := 620) (by decide +kernel)⟩
theorem lw_p12 : lw_okq (⟨"FuseTreaty$Grammar", "checkRow", "(II)V"⟩, 7) := ⟨⟨by decide +kernel, by decide +kernel⟩, List.mem_of_getElem? (i := 249) (by decide +kernel), List.mem_of_getElem? (i := 623) (by decide +kernel), List.mem_of_getElem? (i := 624) (by decide +kernel)⟩
theorem lw_p13 : lw_okq (⟨"FuseTreaty$Grammar", "step", "()Z"⟩, 7) := ⟨⟨by decide +kernel, by decide +kernel⟩, List.mem_of_getElem? (i := 249) (by decide +kernel), List.mem_of_getElem? (i := 627) (by decide +kernel), List.mem_of_getElem? (i := 628) (by decide +kernel)⟩
theorem lw_p14 : lw_okq (⟨"FuseTreaty$Grammar", "need", "(I)Z"⟩, 7) := ⟨⟨by decide +kernel, by decide +kernel⟩, List.mem_of_getElem? (i := 249) (by decide +kernel), List.mem_of_getElem? (i := 631) (by decide +kernel), List.mem_of_getElem? (i := 632) (by decide +kernel)⟩
theorem lw_p15 : lw_okq (⟨"FuseTreaty$Grammar", "fail", "(I)Z"⟩, 7) := ⟨⟨by decide +kernel, by decide +kernel⟩, List.mem_of_getElem? (i := 249) (by decide +kernel), List.mem_of_getElem? (i := 635) (by decide +kernel), List.mem_of_getElem? (i := 636) (by decide +kernel)⟩
def lw_privs_1 : List (MethodName × Nat) := [(⟨"FuseTreaty", "putBytes", "(I)V"⟩, 13), (⟨"FuseTreaty$Tokens", "pastBlanks", "(I)I"⟩, 6), (⟨"FuseTreaty$Tokens", "byteAt", "(I)I"⟩, 6), (⟨"FuseTreaty$Tokens", "scanOne", "(II)I"⟩, 6), (⟨"FuseTreaty$Tokens", "isLetterAt", "(I)Z"⟩, 6), (⟨"FuseTreaty$Tokens", "scanLetters", "(II)I"⟩, 6), (⟨"FuseTreaty$Tokens", "wordOrName", "(J)I"⟩, 6), (⟨"FuseTreaty$Tokens", "isDigitAt", "(I)Z"⟩, 6), (⟨"FuseTreaty$Tokens", "scanDigits", "(II)I"⟩, 6), (⟨"FuseTreaty$Grammar", "kind", "()I"⟩, 7), (⟨"FuseTreaty$Grammar", "checkTold", "(I)V"⟩, 7), (⟨"FuseTreaty$Grammar", "checkCounted", "(IIII)V"⟩, 7), (⟨"FuseTreaty$Grammar", "checkRow", "(II)V"⟩, 7), (⟨"FuseTreaty$Grammar", "step", "()Z"⟩, 7), (⟨"FuseTreaty$Grammar", "need", "(I)Z"⟩, 7), (⟨"FuseTreaty$Grammar", "fail", "(I)Z"⟩, 7)]
theorem lw_r1 : ∀ q ∈ lw_privs_1, lw_okq q := List.forall_mem_cons.mpr ⟨lw_p0, List.forall_mem_cons.mpr ⟨lw_p1, List.forall_mem_cons.mpr ⟨lw_p2, List.forall_mem_cons.mpr ⟨lw_p3, List.forall_mem_cons.mpr ⟨lw_p4, List.forall_mem_cons.mpr ⟨lw_p5, List.forall_mem_cons.mpr ⟨lw_p6, List.forall_mem_cons.mpr ⟨lw_p7, List.forall_mem_cons.mpr ⟨lw_p8, List.forall_mem_cons.mpr ⟨lw_p9, List.forall_mem_cons.mpr ⟨lw_p10, List.forall_mem_cons.mpr ⟨lw_p11, List.forall_mem_cons.mpr ⟨lw_p12, List.forall_mem_cons.mpr ⟨lw_p13, List.forall_mem_cons.mpr ⟨lw_p14, List.forall_mem_cons.mpr ⟨lw_p15, fun _ h => absurd h List.not_mem_nil⟩⟩⟩⟩⟩⟩⟩⟩⟩⟩⟩⟩⟩⟩⟩⟩
theorem lw_p16 : lw_okq (⟨"FuseTreaty$Grammar", "checkLaw", "(I)Z"⟩, 7) := ⟨⟨by decide +kernel, by decide +kernel⟩, List.mem_of_getElem? (i := 249) (by decide +kernel), List.mem_of_getElem? (i := 639) (by decide +kernel), List.mem_of_getElem? (i := 640) (by decide +kernel)⟩
theorem lw_p17 : lw_okq (⟨"FuseTreaty$Grammar", "sum", "(I)Z"⟩, 7) := ⟨⟨by decide +kernel, by decide +kernel⟩, List.mem_of_getElem? (i := 249) (by decide +kernel), List.mem_of_getElem? (i := 644) (by decide +kernel), List.mem_of_getElem? (i := 645) (by decide +kernel)⟩
theorem lw_p18 : lw_okq (⟨"FuseTreaty$Grammar", "product", "(I)Z"⟩, 7) := ⟨⟨by decide +kernel, by decide +kernel⟩, List.mem_of_getElem? (i := 249) (by decide +kernel), List.mem_of_getElem? (i := 648) (by decide +kernel), List.mem_of_getElem? (i := 649) (by decide +kernel)⟩
theorem lw_p19 : lw_okq (⟨"FuseTreaty$Grammar", "unit", "(I)Z"⟩, 7) := ⟨⟨by decide +kernel, by decide +kernel⟩, List.mem_of_getElem? (i := 249) (by decide +kernel), List.mem_of_getElem? (i := 652) (by decide +kernel), List.mem_of_getElem? (i := 653) (by decide +kernel)⟩
theorem lw_p20 : lw_okq (⟨"FuseTreaty$Grammar", "endPiece", "(II)Z"⟩, 7) := ⟨⟨by decide +kernel, by decide +kernel⟩, List.mem_of_getElem? (i := 249) (by decide +kernel), List.mem_of_getElem? (i := 665) (by decide +kernel), List.mem_of_getElem? (i := 666) (by decide +kernel)⟩
theorem lw_p21 : lw_okq (⟨"FuseTreaty$Meaning", "takeTold", "(I)Z"⟩, 6) := ⟨⟨by decide +kernel, by decide +kernel⟩, List.mem_of_getElem? (i := 277) (by decide +kernel), List.mem_of_getElem? (i := 686) (by decide +kernel), List.mem_of_getElem? (i := 687) (by decide +kernel)⟩
theorem lw_p22 : lw_okq (⟨"FuseTreaty$Meaning", "takeFlat", "()Z"⟩, 6) := ⟨⟨by decide +kernel, by decide +kernel⟩, List.mem_of_getElem? (i := 277) (by decide +kernel), List.mem_of_getElem? (i := 690) (by decide +kernel), List.mem_of_getElem? (i := 691) (by decide +kernel)⟩
theorem lw_p23 : lw_okq (⟨"FuseTreaty$Meaning", "fail", "(I)Z"⟩, 6) := ⟨⟨by decide +kernel, by decide +kernel⟩, List.mem_of_getElem? (i := 277) (by decide +kernel), List.mem_of_getElem? (i := 694) (by decide +kernel), List.mem_of_getElem? (i := 695) (by decide +kernel)⟩
theorem lw_p24 : lw_okq (⟨"FuseTreaty$Meaning", "isNewName", "()Z"⟩, 6) := ⟨⟨by decide +kernel, by decide +kernel⟩, List.mem_of_getElem? (i := 277) (by decide +kernel), List.mem_of_getElem? (i := 698) (by decide +kernel), List.mem_of_getElem? (i := 699) (by decide +kernel)⟩
theorem lw_p25 : lw_okq (⟨"FuseTreaty$Meaning", "isWithin", "(II)Z"⟩, 6) := ⟨⟨by decide +kernel, by decide +kernel⟩, List.mem_of_getElem? (i := 277) (by decide +kernel), List.mem_of_getElem? (i := 707) (by decide +kernel), List.mem_of_getElem? (i := 708) (by decide +kernel)⟩
theorem lw_p26 : lw_okq (⟨"FuseTreaty$Meaning", "takeWire", "()Z"⟩, 6) := ⟨⟨by decide +kernel, by decide +kernel⟩, List.mem_of_getElem? (i := 277) (by decide +kernel), List.mem_of_getElem? (i := 711) (by decide +kernel), List.mem_of_getElem? (i := 712) (by decide +kernel)⟩
theorem lw_p27 : lw_okq (⟨"FuseTreaty$Meaning", "flatNamed", "()I"⟩, 6) := ⟨⟨by decide +kernel, by decide +kernel⟩, List.mem_of_getElem? (i := 277) (by decide +kernel), List.mem_of_getElem? (i := 715) (by decide +kernel), List.mem_of_getElem? (i := 716) (by decide +kernel)⟩
theorem lw_p28 : lw_okq (⟨"FuseTreaty$House", "endsOf", "(I)I"⟩, 16) := ⟨⟨by decide +kernel, by decide +kernel⟩, List.mem_of_getElem? (i := 31) (by decide +kernel), List.mem_of_getElem? (i := 723) (by decide +kernel), List.mem_of_getElem? (i := 724) (by decide +kernel)⟩
theorem lw_p29 : lw_okq (⟨"FuseTreaty$Meaning", "takeUse", "()Z"⟩, 6) := ⟨⟨by decide +kernel, by decide +kernel⟩, List.mem_of_getElem? (i := 277) (by decide +kernel), List.mem_of_getElem? (i := 727) (by decide +kernel), List.mem_of_getElem? (i := 728) (by decide +kernel)⟩
theorem lw_p30 : lw_okq (⟨"FuseTreaty$Meaning", "takeSurge", "()Z"⟩, 6) := ⟨⟨by decide +kernel, by decide +kernel⟩, List.mem_of_getElem? (i := 277) (by decide +kernel), List.mem_of_getElem? (i := 731) (by decide +kernel), List.mem_of_getElem? (i := 732) (by decide +kernel)⟩
theorem lw_p31 : lw_okq (⟨"FuseTreaty$Meaning", "takeCoins", "()Z"⟩, 6) := ⟨⟨by decide +kernel, by decide +kernel⟩, List.mem_of_getElem? (i := 277) (by decide +kernel), List.mem_of_getElem? (i := 735) (by decide +kernel), List.mem_of_getElem? (i := 736) (by decide +kernel)⟩
def lw_privs_2 : List (MethodName × Nat) := [(⟨"FuseTreaty$Grammar", "checkLaw", "(I)Z"⟩, 7), (⟨"FuseTreaty$Grammar", "sum", "(I)Z"⟩, 7), (⟨"FuseTreaty$Grammar", "product", "(I)Z"⟩, 7), (⟨"FuseTreaty$Grammar", "unit", "(I)Z"⟩, 7), (⟨"FuseTreaty$Grammar", "endPiece", "(II)Z"⟩, 7), (⟨"FuseTreaty$Meaning", "takeTold", "(I)Z"⟩, 6), (⟨"FuseTreaty$Meaning", "takeFlat", "()Z"⟩, 6), (⟨"FuseTreaty$Meaning", "fail", "(I)Z"⟩, 6), (⟨"FuseTreaty$Meaning", "isNewName", "()Z"⟩, 6), (⟨"FuseTreaty$Meaning", "isWithin", "(II)Z"⟩, 6), (⟨"FuseTreaty$Meaning", "takeWire", "()Z"⟩, 6), (⟨"FuseTreaty$Meaning", "flatNamed", "()I"⟩, 6), (⟨"FuseTreaty$House", "endsOf", "(I)I"⟩, 16), (⟨"FuseTreaty$Meaning", "takeUse", "()Z"⟩, 6), (⟨"FuseTreaty$Meaning", "takeSurge", "()Z"⟩, 6), (⟨"FuseTreaty$Meaning", "takeCoins", "()Z"⟩, 6)]
theorem lw_r2 : ∀ q ∈ lw_privs_2, lw_okq q := List.forall_mem_cons.mpr ⟨lw_p16, List.forall_mem_cons.mpr ⟨lw_p17, List.forall_mem_cons.mpr ⟨lw_p18, List.forall_mem_cons.mpr ⟨lw_p19, List.forall_mem_cons.mpr ⟨lw_p20, List.forall_mem_cons.mpr ⟨lw_p21, List.forall_mem_cons.mpr ⟨lw_p22, List.forall_mem_cons.mpr ⟨lw_p23, List.forall_mem_cons.mpr ⟨lw_p24, List.forall_mem_cons.mpr ⟨lw_p25, List.forall_mem_cons.mpr ⟨lw_p26, List.forall_mem_cons.mpr ⟨lw_p27, List.forall_mem_cons.mpr ⟨lw_p28, List.forall_mem_cons.mpr ⟨lw_p29, List.forall_mem_cons.mpr ⟨lw_p30, List.forall_mem_cons.mpr ⟨lw_p31, fun _ h => absurd h List.not_mem_nil⟩⟩⟩⟩⟩⟩⟩⟩⟩⟩⟩⟩⟩⟩⟩⟩
theorem lw_p32 : lw_okq (⟨"FuseTreaty$Meaning", "takeSeed", "()Z"⟩, 6) := ⟨⟨by decide +kernel, by decide +kernel⟩, List.mem_of_getElem? (i := 277) (by decide +kernel), List.mem_of_getElem? (i := 739) (by decide +kernel), List.mem_of_getElem? (i := 740) (by decide +kernel)⟩
theorem lw_p33 : lw_okq (⟨"FuseTreaty$Meaning", "skipEnd", "()V"⟩, 6) := ⟨⟨by decide +kernel, by decide +kernel⟩, List.mem_of_getElem? (i := 277) (by decide +kernel), List.mem_of_getElem? (i := 743) (by decide +kernel), List.mem_of_getElem? (i := 744) (by decide +kernel)⟩
theorem lw_p34 : lw_okq (⟨"FuseTreaty", "isFlat", "(I)Z"⟩, 13) := ⟨⟨by decide +kernel, by decide +kernel⟩, List.mem_of_getElem? (i := 23) (by decide +kernel), List.mem_of_getElem? (i := 790) (by decide +kernel), List.mem_of_getElem? (i := 791) (by decide +kernel)⟩
theorem lw_p35 : lw_okq (⟨"FuseTreaty$Ways", "reachBy", "(II)V"⟩, 6) := ⟨⟨by decide +kernel, by decide +kernel⟩, List.mem_of_getElem? (i := 387) (by decide +kernel), List.mem_of_getElem? (i := 806) (by decide +kernel), List.mem_of_getElem? (i := 807) (by decide +kernel)⟩
theorem lw_p36 : lw_okq (⟨"FuseTreaty$Current", "setVars", "(III)V"⟩, 4) := ⟨⟨by decide +kernel, by decide +kernel⟩, List.mem_of_getElem? (i := 381) (by decide +kernel), List.mem_of_getElem? (i := 823) (by decide +kernel), List.mem_of_getElem? (i := 824) (by decide +kernel)⟩
theorem lw_p37 : lw_okq (⟨"FuseTreaty$Laws", "pieceTells", "(II[I)I"⟩, 6) := ⟨⟨by decide +kernel, by decide +kernel⟩, List.mem_of_getElem? (i := 37) (by decide +kernel), List.mem_of_getElem? (i := 832) (by decide +kernel), List.mem_of_getElem? (i := 833) (by decide +kernel)⟩
theorem lw_p38 : lw_okq (⟨"FuseTreaty$Laws", "worked", "(III)I"⟩, 6) := ⟨⟨by decide +kernel, by decide +kernel⟩, List.mem_of_getElem? (i := 37) (by decide +kernel), List.mem_of_getElem? (i := 836) (by decide +kernel), List.mem_of_getElem? (i := 837) (by decide +kernel)⟩
theorem lw_p39 : lw_okq (⟨"FuseTreaty", "isWire", "(I)Z"⟩, 13) := ⟨⟨by decide +kernel, by decide +kernel⟩, List.mem_of_getElem? (i := 23) (by decide +kernel), List.mem_of_getElem? (i := 864) (by decide +kernel), List.mem_of_getElem? (i := 865) (by decide +kernel)⟩
theorem lw_p40 : lw_okq (⟨"FuseTreaty", "isUse", "(I)Z"⟩, 13) := ⟨⟨by decide +kernel, by decide +kernel⟩, List.mem_of_getElem? (i := 23) (by decide +kernel), List.mem_of_getElem? (i := 897) (by decide +kernel), List.mem_of_getElem? (i := 898) (by decide +kernel)⟩
theorem lw_p41 : lw_okq (⟨"FuseTreaty$Current", "takePay", "(LFuseTreaty$State;)V"⟩, 4) := ⟨⟨by decide +kernel, by decide +kernel⟩, List.mem_of_getElem? (i := 381) (by decide +kernel), List.mem_of_getElem? (i := 938) (by decide +kernel), List.mem_of_getElem? (i := 939) (by decide +kernel)⟩
theorem lw_p42 : lw_okq (⟨"FuseTreaty$Current", "countQuarrels", "(LFuseTreaty$State;)V"⟩, 4) := ⟨⟨by decide +kernel, by decide +kernel⟩, List.mem_of_getElem? (i := 381) (by decide +kernel), List.mem_of_getElem? (i := 944) (by decide +kernel), List.mem_of_getElem? (i := 945) (by decide +kernel)⟩
theorem lw_p43 : lw_okq (⟨"FuseTreaty$Foresight", "trialTillGone", "()I"⟩, 5) := ⟨⟨by decide +kernel, by decide +kernel⟩, List.mem_of_getElem? (i := 433) (by decide +kernel), List.mem_of_getElem? (i := 1010) (by decide +kernel), List.mem_of_getElem? (i := 1011) (by decide +kernel)⟩
theorem lw_p44 : lw_okq (⟨"FuseTreaty$Foresight", "isCalm", "(LFuseTreaty$State;II)Z"⟩, 5) := ⟨⟨by decide +kernel, by decide +kernel⟩, List.mem_of_getElem? (i := 433) (by decide +kernel), List.mem_of_getElem? (i := 1133) (by decide +kernel), List.mem_of_getElem? (i := 1134) (by decide +kernel)⟩
theorem lw_p45 : lw_okq (⟨"FuseTreaty$Told", "isSo", "(II)Z"⟩, 4) := ⟨⟨by decide +kernel, by decide +kernel⟩, List.mem_of_getElem? (i := 457) (by decide +kernel), List.mem_of_getElem? (i := 1160) (by decide +kernel), List.mem_of_getElem? (i := 1161) (by decide +kernel)⟩
theorem lw_p46 : lw_okq (⟨"FuseTreaty$Told", "leftAtWorst", "(III)I"⟩, 4) := ⟨⟨by decide +kernel, by decide +kernel⟩, List.mem_of_getElem? (i := 457) (by decide +kernel), List.mem_of_getElem? (i := 1174) (by decide +kernel), List.mem_of_getElem? (i := 1175) (by decide +kernel)⟩
theorem lw_p47 : lw_okq (⟨"FuseTreaty", "wholeRatings", "()I"⟩, 13) := ⟨⟨by decide +kernel, by decide +kernel⟩, List.mem_of_getElem? (i := 23) (by decide +kernel), List.mem_of_getElem? (i := 1203) (by decide +kernel), List.mem_of_getElem? (i := 1204) (by decide +kernel)⟩
def lw_privs_3 : List (MethodName × Nat) := [(⟨"FuseTreaty$Meaning", "takeSeed", "()Z"⟩, 6), (⟨"FuseTreaty$Meaning", "skipEnd", "()V"⟩, 6), (⟨"FuseTreaty", "isFlat", "(I)Z"⟩, 13), (⟨"FuseTreaty$Ways", "reachBy", "(II)V"⟩, 6), (⟨"FuseTreaty$Current", "setVars", "(III)V"⟩, 4), (⟨"FuseTreaty$Laws", "pieceTells", "(II[I)I"⟩, 6), (⟨"FuseTreaty$Laws", "worked", "(III)I"⟩, 6), (⟨"FuseTreaty", "isWire", "(I)Z"⟩, 13), (⟨"FuseTreaty", "isUse", "(I)Z"⟩, 13), (⟨"FuseTreaty$Current", "takePay", "(LFuseTreaty$State;)V"⟩, 4), (⟨"FuseTreaty$Current", "countQuarrels", "(LFuseTreaty$State;)V"⟩, 4), (⟨"FuseTreaty$Foresight", "trialTillGone", "()I"⟩, 5), (⟨"FuseTreaty$Foresight", "isCalm", "(LFuseTreaty$State;II)Z"⟩, 5), (⟨"FuseTreaty$Told", "isSo", "(II)Z"⟩, 4), (⟨"FuseTreaty$Told", "leftAtWorst", "(III)I"⟩, 4), (⟨"FuseTreaty", "wholeRatings", "()I"⟩, 13)]
theorem lw_r3 : ∀ q ∈ lw_privs_3, lw_okq q := List.forall_mem_cons.mpr ⟨lw_p32, List.forall_mem_cons.mpr ⟨lw_p33, List.forall_mem_cons.mpr ⟨lw_p34, List.forall_mem_cons.mpr ⟨lw_p35, List.forall_mem_cons.mpr ⟨lw_p36, List.forall_mem_cons.mpr ⟨lw_p37, List.forall_mem_cons.mpr ⟨lw_p38, List.forall_mem_cons.mpr ⟨lw_p39, List.forall_mem_cons.mpr ⟨lw_p40, List.forall_mem_cons.mpr ⟨lw_p41, List.forall_mem_cons.mpr ⟨lw_p42, List.forall_mem_cons.mpr ⟨lw_p43, List.forall_mem_cons.mpr ⟨lw_p44, List.forall_mem_cons.mpr ⟨lw_p45, List.forall_mem_cons.mpr ⟨lw_p46, List.forall_mem_cons.mpr ⟨lw_p47, fun _ h => absurd h List.not_mem_nil⟩⟩⟩⟩⟩⟩⟩⟩⟩⟩⟩⟩⟩⟩⟩⟩
theorem lw_p48 : lw_okq (⟨"FuseTreatyModel", "plain", "(I)V"⟩, 69) := ⟨⟨by decide +kernel, by decide +kernel⟩, List.mem_of_getElem? (i := 1207) (by decide +kernel), List.mem_of_getElem? (i := 1213) (by decide +kernel), List.mem_of_getElem? (i := 1214) (by decide +kernel)⟩
theorem lw_p49 : lw_okq (⟨"FuseTreatyModel", "begins", "()V"⟩, 69) := ⟨⟨by decide +kernel, by decide +kernel⟩, List.mem_of_getElem? (i := 1207) (by decide +kernel), List.mem_of_getElem? (i := 1224) (by decide +kernel), List.mem_of_getElem? (i := 1225) (by decide +kernel)⟩
theorem lw_p50 : lw_okq (⟨"FuseTreatyModel", "keepsRow", "()V"⟩, 69) := ⟨⟨by decide +kernel, by decide +kernel⟩, List.mem_of_getElem? (i := 1207) (by decide +kernel), List.mem_of_getElem? (i := 1228) (by decide +kernel), List.mem_of_getElem? (i := 1229) (by decide +kernel)⟩
theorem lw_p51 : lw_okq (⟨"FuseTreatyModel", "put", "(I)V"⟩, 69) := ⟨⟨by decide +kernel, by decide +kernel⟩, List.mem_of_getElem? (i := 1207) (by decide +kernel), List.mem_of_getElem? (i := 1443) (by decide +kernel), List.mem_of_getElem? (i := 1444) (by decide +kernel)⟩
theorem lw_p52 : lw_okq (⟨"FuseTreatyModel", "cutsUp", "()V"⟩, 69) := ⟨⟨by decide +kernel, by decide +kernel⟩, List.mem_of_getElem? (i := 1207) (by decide +kernel), List.mem_of_getElem? (i := 1455) (by decide +kernel), List.mem_of_getElem? (i := 1456) (by decide +kernel)⟩
theorem lw_p53 : lw_okq (⟨"FuseTreatyModel", "byteAt", "(I)I"⟩, 69) := ⟨⟨by decide +kernel, by decide +kernel⟩, List.mem_of_getElem? (i := 1207) (by decide +kernel), List.mem_of_getElem? (i := 1459) (by decide +kernel), List.mem_of_getElem? (i := 1460) (by decide +kernel)⟩
theorem lw_p54 : lw_okq (⟨"FuseTreatyModel", "token", "(IIIJ)V"⟩, 69) := ⟨⟨by decide +kernel, by decide +kernel⟩, List.mem_of_getElem? (i := 1207) (by decide +kernel), List.mem_of_getElem? (i := 1463) (by decide +kernel), List.mem_of_getElem? (i := 1464) (by decide +kernel)⟩
theorem lw_p55 : lw_okq (⟨"FuseTreatyModel", "sign", "(III)I"⟩, 69) := ⟨⟨by decide +kernel, by decide +kernel⟩, List.mem_of_getElem? (i := 1207) (by decide +kernel), List.mem_of_getElem? (i := 1473) (by decide +kernel), List.mem_of_getElem? (i := 1474) (by decide +kernel)⟩
theorem lw_p56 : lw_okq (⟨"FuseTreatyModel", "is", "(I)Z"⟩, 69) := ⟨⟨by decide +kernel, by decide +kernel⟩, List.mem_of_getElem? (i := 1207) (by decide +kernel), List.mem_of_getElem? (i := 1477) (by decide +kernel), List.mem_of_getElem? (i := 1478) (by decide +kernel)⟩
theorem lw_p57 : lw_okq (⟨"FuseTreatyModel", "tellOne", "()V"⟩, 69) := ⟨⟨by decide +kernel, by decide +kernel⟩, List.mem_of_getElem? (i := 1207) (by decide +kernel), List.mem_of_getElem? (i := 1481) (by decide +kernel), List.mem_of_getElem? (i := 1482) (by decide +kernel)⟩
theorem lw_p58 : lw_okq (⟨"FuseTreatyModel", "roomFor", "(II)V"⟩, 69) := ⟨⟨by decide +kernel, by decide +kernel⟩, List.mem_of_getElem? (i := 1207) (by decide +kernel), List.mem_of_getElem? (i := 1485) (by decide +kernel), List.mem_of_getElem? (i := 1486) (by decide +kernel)⟩
theorem lw_p59 : lw_okq (⟨"FuseTreatyModel", "fail", "(I)V"⟩, 69) := ⟨⟨by decide +kernel, by decide +kernel⟩, List.mem_of_getElem? (i := 1207) (by decide +kernel), List.mem_of_getElem? (i := 1489) (by decide +kernel), List.mem_of_getElem? (i := 1490) (by decide +kernel)⟩
theorem lw_p60 : lw_okq (⟨"FuseTreatyModel", "goesOn", "()V"⟩, 69) := ⟨⟨by decide +kernel, by decide +kernel⟩, List.mem_of_getElem? (i := 1207) (by decide +kernel), List.mem_of_getElem? (i := 1493) (by decide +kernel), List.mem_of_getElem? (i := 1494) (by decide +kernel)⟩
theorem lw_p61 : lw_okq (⟨"FuseTreatyModel", "named", "()I"⟩, 69) := ⟨⟨by decide +kernel, by decide +kernel⟩, List.mem_of_getElem? (i := 1207) (by decide +kernel), List.mem_of_getElem? (i := 1497) (by decide +kernel), List.mem_of_getElem? (i := 1498) (by decide +kernel)⟩
theorem lw_p62 : lw_okq (⟨"FuseTreatyModel", "must", "(I)V"⟩, 69) := ⟨⟨by decide +kernel, by decide +kernel⟩, List.mem_of_getElem? (i := 1207) (by decide +kernel), List.mem_of_getElem? (i := 1501) (by decide +kernel), List.mem_of_getElem? (i := 1502) (by decide +kernel)⟩
theorem lw_p63 : lw_okq (⟨"FuseTreatyModel", "wrong", "(II)V"⟩, 69) := ⟨⟨by decide +kernel, by decide +kernel⟩, List.mem_of_getElem? (i := 1207) (by decide +kernel), List.mem_of_getElem? (i := 1505) (by decide +kernel), List.mem_of_getElem? (i := 1506) (by decide +kernel)⟩
def lw_privs_4 : List (MethodName × Nat) := [(⟨"FuseTreatyModel", "plain", "(I)V"⟩, 69), (⟨"FuseTreatyModel", "begins", "()V"⟩, 69), (⟨"FuseTreatyModel", "keepsRow", "()V"⟩, 69), (⟨"FuseTreatyModel", "put", "(I)V"⟩, 69), (⟨"FuseTreatyModel", "cutsUp", "()V"⟩, 69), (⟨"FuseTreatyModel", "byteAt", "(I)I"⟩, 69), (⟨"FuseTreatyModel", "token", "(IIIJ)V"⟩, 69), (⟨"FuseTreatyModel", "sign", "(III)I"⟩, 69), (⟨"FuseTreatyModel", "is", "(I)Z"⟩, 69), (⟨"FuseTreatyModel", "tellOne", "()V"⟩, 69), (⟨"FuseTreatyModel", "roomFor", "(II)V"⟩, 69), (⟨"FuseTreatyModel", "fail", "(I)V"⟩, 69), (⟨"FuseTreatyModel", "goesOn", "()V"⟩, 69), (⟨"FuseTreatyModel", "named", "()I"⟩, 69), (⟨"FuseTreatyModel", "must", "(I)V"⟩, 69), (⟨"FuseTreatyModel", "wrong", "(II)V"⟩, 69)]
theorem lw_r4 : ∀ q ∈ lw_privs_4, lw_okq q := List.forall_mem_cons.mpr ⟨lw_p48, List.forall_mem_cons.mpr ⟨lw_p49, List.forall_mem_cons.mpr ⟨lw_p50, List.forall_mem_cons.mpr ⟨lw_p51, List.forall_mem_cons.mpr ⟨lw_p52, List.forall_mem_cons.mpr ⟨lw_p53, List.forall_mem_cons.mpr ⟨lw_p54, List.forall_mem_cons.mpr ⟨lw_p55, List.forall_mem_cons.mpr ⟨lw_p56, List.forall_mem_cons.mpr ⟨lw_p57, List.forall_mem_cons.mpr ⟨lw_p58, List.forall_mem_cons.mpr ⟨lw_p59, List.forall_mem_cons.mpr ⟨lw_p60, List.forall_mem_cons.mpr ⟨lw_p61, List.forall_mem_cons.mpr ⟨lw_p62, List.forall_mem_cons.mpr ⟨lw_p63, fun _ h => absurd h List.not_mem_nil⟩⟩⟩⟩⟩⟩⟩⟩⟩⟩⟩⟩⟩⟩⟩⟩
theorem lw_p64 : lw_okq (⟨"FuseTreatyModel", "bounded", "(II)I"⟩, 69) := ⟨⟨by decide +kernel, by decide +kernel⟩, List.mem_of_getElem? (i := 1207) (by decide +kernel), List.mem_of_getElem? (i := 1509) (by decide +kernel), List.mem_of_getElem? (i := 1510) (by decide +kernel)⟩
theorem lw_p65 : lw_okq (⟨"FuseTreatyModel", "endsName", "(II)V"⟩, 69) := ⟨⟨by decide +kernel, by decide +kernel⟩, List.mem_of_getElem? (i := 1207) (by decide +kernel), List.mem_of_getElem? (i := 1513) (by decide +kernel), List.mem_of_getElem? (i := 1514) (by decide +kernel)⟩
theorem lw_p66 : lw_okq (⟨"FuseTreatyModel", "tellWire", "()V"⟩, 69) := ⟨⟨by decide +kernel, by decide +kernel⟩, List.mem_of_getElem? (i := 1207) (by decide +kernel), List.mem_of_getElem? (i := 1517) (by decide +kernel), List.mem_of_getElem? (i := 1518) (by decide +kernel)⟩
theorem lw_p67 : lw_okq (⟨"FuseTreatyModel", "knownFlat", "()I"⟩, 69) := ⟨⟨by decide +kernel, by decide +kernel⟩, List.mem_of_getElem? (i := 1207) (by decide +kernel), List.mem_of_getElem? (i := 1521) (by decide +kernel), List.mem_of_getElem? (i := 1522) (by decide +kernel)⟩
theorem lw_p68 : lw_okq (⟨"FuseTreatyModel", "areWired", "(II)Z"⟩, 69) := ⟨⟨by decide +kernel, by decide +kernel⟩, List.mem_of_getElem? (i := 1207) (by decide +kernel), List.mem_of_getElem? (i := 1525) (by decide +kernel), List.mem_of_getElem? (i := 1526) (by decide +kernel)⟩
theorem lw_p69 : lw_okq (⟨"FuseTreatyModel", "tellUse", "()V"⟩, 69) := ⟨⟨by decide +kernel, by decide +kernel⟩, List.mem_of_getElem? (i := 1207) (by decide +kernel), List.mem_of_getElem? (i := 1529) (by decide +kernel), List.mem_of_getElem? (i := 1530) (by decide +kernel)⟩
theorem lw_p70 : lw_okq (⟨"FuseTreatyModel", "tellLaw", "(I)V"⟩, 69) := ⟨⟨by decide +kernel, by decide +kernel⟩, List.mem_of_getElem? (i := 1207) (by decide +kernel), List.mem_of_getElem? (i := 1533) (by decide +kernel), List.mem_of_getElem? (i := 1534) (by decide +kernel)⟩
theorem lw_p71 : lw_okq (⟨"FuseTreatyModel", "expression", "()V"⟩, 69) := ⟨⟨by decide +kernel, by decide +kernel⟩, List.mem_of_getElem? (i := 1207) (by decide +kernel), List.mem_of_getElem? (i := 1537) (by decide +kernel), List.mem_of_getElem? (i := 1538) (by decide +kernel)⟩
theorem lw_p72 : lw_okq (⟨"FuseTreatyModel", "unit", "()V"⟩, 69) := ⟨⟨by decide +kernel, by decide +kernel⟩, List.mem_of_getElem? (i := 1207) (by decide +kernel), List.mem_of_getElem? (i := 1541) (by decide +kernel), List.mem_of_getElem? (i := 1542) (by decide +kernel)⟩
theorem lw_p73 : lw_okq (⟨"FuseTreatyModel", "emit", "(II)V"⟩, 69) := ⟨⟨by decide +kernel, by decide +kernel⟩, List.mem_of_getElem? (i := 1207) (by decide +kernel), List.mem_of_getElem? (i := 1545) (by decide +kernel), List.mem_of_getElem? (i := 1546) (by decide +kernel)⟩
theorem lw_p74 : lw_okq (⟨"FuseTreatyModel", "comesOut", "(Z)V"⟩, 69) := ⟨⟨by decide +kernel, by decide +kernel⟩, List.mem_of_getElem? (i := 1207) (by decide +kernel), List.mem_of_getElem? (i := 1549) (by decide +kernel), List.mem_of_getElem? (i := 1550) (by decide +kernel)⟩
theorem lw_p75 : lw_okq (⟨"FuseTreatyModel", "term", "()V"⟩, 69) := ⟨⟨by decide +kernel, by decide +kernel⟩, List.mem_of_getElem? (i := 1207) (by decide +kernel), List.mem_of_getElem? (i := 1553) (by decide +kernel), List.mem_of_getElem? (i := 1554) (by decide +kernel)⟩
theorem lw_p76 : lw_okq (⟨"FuseTreatyModel", "isFlat", "(I)Z"⟩, 69) := ⟨⟨by decide +kernel, by decide +kernel⟩, List.mem_of_getElem? (i := 1207) (by decide +kernel), List.mem_of_getElem? (i := 1565) (by decide +kernel), List.mem_of_getElem? (i := 1566) (by decide +kernel)⟩
theorem lw_p77 : lw_okq (⟨"FuseTreatyModel", "copies", "()V"⟩, 69) := ⟨⟨by decide +kernel, by decide +kernel⟩, List.mem_of_getElem? (i := 1207) (by decide +kernel), List.mem_of_getElem? (i := 1572) (by decide +kernel), List.mem_of_getElem? (i := 1573) (by decide +kernel)⟩
theorem lw_p78 : lw_okq (⟨"FuseTreatyModel", "fillsWays", "()V"⟩, 69) := ⟨⟨by decide +kernel, by decide +kernel⟩, List.mem_of_getElem? (i := 1207) (by decide +kernel), List.mem_of_getElem? (i := 1576) (by decide +kernel), List.mem_of_getElem? (i := 1577) (by decide +kernel)⟩
theorem lw_p79 : lw_okq (⟨"FuseTreatyModel", "isWhole", "(I)Z"⟩, 69) := ⟨⟨by decide +kernel, by decide +kernel⟩, List.mem_of_getElem? (i := 1207) (by decide +kernel), List.mem_of_getElem? (i := 1580) (by decide +kernel), List.mem_of_getElem? (i := 1581) (by decide +kernel)⟩
def lw_privs_5 : List (MethodName × Nat) := [(⟨"FuseTreatyModel", "bounded", "(II)I"⟩, 69), (⟨"FuseTreatyModel", "endsName", "(II)V"⟩, 69), (⟨"FuseTreatyModel", "tellWire", "()V"⟩, 69), (⟨"FuseTreatyModel", "knownFlat", "()I"⟩, 69), (⟨"FuseTreatyModel", "areWired", "(II)Z"⟩, 69), (⟨"FuseTreatyModel", "tellUse", "()V"⟩, 69), (⟨"FuseTreatyModel", "tellLaw", "(I)V"⟩, 69), (⟨"FuseTreatyModel", "expression", "()V"⟩, 69), (⟨"FuseTreatyModel", "unit", "()V"⟩, 69), (⟨"FuseTreatyModel", "emit", "(II)V"⟩, 69), (⟨"FuseTreatyModel", "comesOut", "(Z)V"⟩, 69), (⟨"FuseTreatyModel", "term", "()V"⟩, 69), (⟨"FuseTreatyModel", "isFlat", "(I)Z"⟩, 69), (⟨"FuseTreatyModel", "copies", "()V"⟩, 69), (⟨"FuseTreatyModel", "fillsWays", "()V"⟩, 69), (⟨"FuseTreatyModel", "isWhole", "(I)Z"⟩, 69)]
theorem lw_r5 : ∀ q ∈ lw_privs_5, lw_okq q := List.forall_mem_cons.mpr ⟨lw_p64, List.forall_mem_cons.mpr ⟨lw_p65, List.forall_mem_cons.mpr ⟨lw_p66, List.forall_mem_cons.mpr ⟨lw_p67, List.forall_mem_cons.mpr ⟨lw_p68, List.forall_mem_cons.mpr ⟨lw_p69, List.forall_mem_cons.mpr ⟨lw_p70, List.forall_mem_cons.mpr ⟨lw_p71, List.forall_mem_cons.mpr ⟨lw_p72, List.forall_mem_cons.mpr ⟨lw_p73, List.forall_mem_cons.mpr ⟨lw_p74, List.forall_mem_cons.mpr ⟨lw_p75, List.forall_mem_cons.mpr ⟨lw_p76, List.forall_mem_cons.mpr ⟨lw_p77, List.forall_mem_cons.mpr ⟨lw_p78, List.forall_mem_cons.mpr ⟨lw_p79, fun _ h => absurd h List.not_mem_nil⟩⟩⟩⟩⟩⟩⟩⟩⟩⟩⟩⟩⟩⟩⟩⟩
theorem lw_p80 : lw_okq (⟨"FuseTreatyModel", "isWire", "(I)Z"⟩, 69) := ⟨⟨by decide +kernel, by decide +kernel⟩, List.mem_of_getElem? (i := 1207) (by decide +kernel), List.mem_of_getElem? (i := 1584) (by decide +kernel), List.mem_of_getElem? (i := 1585) (by decide +kernel)⟩
theorem lw_p81 : lw_okq (⟨"FuseTreatyModel", "wireFrom", "(I)I"⟩, 69) := ⟨⟨by decide +kernel, by decide +kernel⟩, List.mem_of_getElem? (i := 1207) (by decide +kernel), List.mem_of_getElem? (i := 1588) (by decide +kernel), List.mem_of_getElem? (i := 1589) (by decide +kernel)⟩
theorem lw_p82 : lw_okq (⟨"FuseTreatyModel", "otherEnd", "(II)I"⟩, 69) := ⟨⟨by decide +kernel, by decide +kernel⟩, List.mem_of_getElem? (i := 1207) (by decide +kernel), List.mem_of_getElem? (i := 1592) (by decide +kernel), List.mem_of_getElem? (i := 1593) (by decide +kernel)⟩
theorem lw_p83 : lw_okq (⟨"FuseTreatyModel", "isLit", "(I)Z"⟩, 69) := ⟨⟨by decide +kernel, by decide +kernel⟩, List.mem_of_getElem? (i := 1207) (by decide +kernel), List.mem_of_getElem? (i := 1596) (by decide +kernel), List.mem_of_getElem? (i := 1597) (by decide +kernel)⟩
theorem lw_p84 : lw_okq (⟨"FuseTreatyModel", "quarrelOf", "(I)I"⟩, 69) := ⟨⟨by decide +kernel, by decide +kernel⟩, List.mem_of_getElem? (i := 1207) (by decide +kernel), List.mem_of_getElem? (i := 1600) (by decide +kernel), List.mem_of_getElem? (i := 1601) (by decide +kernel)⟩
theorem lw_p85 : lw_okq (⟨"FuseTreatyModel", "looks", "(II)V"⟩, 69) := ⟨⟨by decide +kernel, by decide +kernel⟩, List.mem_of_getElem? (i := 1207) (by decide +kernel), List.mem_of_getElem? (i := 1604) (by decide +kernel), List.mem_of_getElem? (i := 1605) (by decide +kernel)⟩
theorem lw_p86 : lw_okq (⟨"FuseTreatyModel", "lawTells", "(II)I"⟩, 69) := ⟨⟨by decide +kernel, by decide +kernel⟩, List.mem_of_getElem? (i := 1207) (by decide +kernel), List.mem_of_getElem? (i := 1608) (by decide +kernel), List.mem_of_getElem? (i := 1609) (by decide +kernel)⟩
theorem lw_p87 : lw_okq (⟨"FuseTreatyModel", "termOf", "(II)I"⟩, 69) := ⟨⟨by decide +kernel, by decide +kernel⟩, List.mem_of_getElem? (i := 1207) (by decide +kernel), List.mem_of_getElem? (i := 1612) (by decide +kernel), List.mem_of_getElem? (i := 1613) (by decide +kernel)⟩
theorem lw_p88 : lw_okq (⟨"FuseTreatyModel", "ampsOn", "(I)I"⟩, 69) := ⟨⟨by decide +kernel, by decide +kernel⟩, List.mem_of_getElem? (i := 1207) (by decide +kernel), List.mem_of_getElem? (i := 1619) (by decide +kernel), List.mem_of_getElem? (i := 1620) (by decide +kernel)⟩
theorem lw_p89 : lw_okq (⟨"FuseTreatyModel", "onNow", "()I"⟩, 69) := ⟨⟨by decide +kernel, by decide +kernel⟩, List.mem_of_getElem? (i := 1207) (by decide +kernel), List.mem_of_getElem? (i := 1623) (by decide +kernel), List.mem_of_getElem? (i := 1624) (by decide +kernel)⟩
theorem lw_p90 : lw_okq (⟨"FuseTreatyModel", "onAt", "(I)I"⟩, 69) := ⟨⟨by decide +kernel, by decide +kernel⟩, List.mem_of_getElem? (i := 1207) (by decide +kernel), List.mem_of_getElem? (i := 1627) (by decide +kernel), List.mem_of_getElem? (i := 1628) (by decide +kernel)⟩
theorem lw_p91 : lw_okq (⟨"FuseTreatyModel", "flatAt", "(I)I"⟩, 69) := ⟨⟨by decide +kernel, by decide +kernel⟩, List.mem_of_getElem? (i := 1207) (by decide +kernel), List.mem_of_getElem? (i := 1631) (by decide +kernel), List.mem_of_getElem? (i := 1632) (by decide +kernel)⟩
theorem lw_p92 : lw_okq (⟨"FuseTreatyModel", "ampsAt", "(I)I"⟩, 69) := ⟨⟨by decide +kernel, by decide +kernel⟩, List.mem_of_getElem? (i := 1207) (by decide +kernel), List.mem_of_getElem? (i := 1635) (by decide +kernel), List.mem_of_getElem? (i := 1636) (by decide +kernel)⟩
theorem lw_p93 : lw_okq (⟨"FuseTreatyModel", "loadBy", "(II)I"⟩, 69) := ⟨⟨by decide +kernel, by decide +kernel⟩, List.mem_of_getElem? (i := 1207) (by decide +kernel), List.mem_of_getElem? (i := 1643) (by decide +kernel), List.mem_of_getElem? (i := 1644) (by decide +kernel)⟩
theorem lw_p94 : lw_okq (⟨"FuseTreatyModel", "costsOf", "(I)I"⟩, 69) := ⟨⟨by decide +kernel, by decide +kernel⟩, List.mem_of_getElem? (i := 1207) (by decide +kernel), List.mem_of_getElem? (i := 1647) (by decide +kernel), List.mem_of_getElem? (i := 1648) (by decide +kernel)⟩
theorem lw_p95 : lw_okq (⟨"FuseTreatyModel", "doesGo", "(IIII)Z"⟩, 69) := ⟨⟨by decide +kernel, by decide +kernel⟩, List.mem_of_getElem? (i := 1207) (by decide +kernel), List.mem_of_getElem? (i := 1651) (by decide +kernel), List.mem_of_getElem? (i := 1652) (by decide +kernel)⟩
def lw_privs_6 : List (MethodName × Nat) := [(⟨"FuseTreatyModel", "isWire", "(I)Z"⟩, 69), (⟨"FuseTreatyModel", "wireFrom", "(I)I"⟩, 69), (⟨"FuseTreatyModel", "otherEnd", "(II)I"⟩, 69), (⟨"FuseTreatyModel", "isLit", "(I)Z"⟩, 69), (⟨"FuseTreatyModel", "quarrelOf", "(I)I"⟩, 69), (⟨"FuseTreatyModel", "looks", "(II)V"⟩, 69), (⟨"FuseTreatyModel", "lawTells", "(II)I"⟩, 69), (⟨"FuseTreatyModel", "termOf", "(II)I"⟩, 69), (⟨"FuseTreatyModel", "ampsOn", "(I)I"⟩, 69), (⟨"FuseTreatyModel", "onNow", "()I"⟩, 69), (⟨"FuseTreatyModel", "onAt", "(I)I"⟩, 69), (⟨"FuseTreatyModel", "flatAt", "(I)I"⟩, 69), (⟨"FuseTreatyModel", "ampsAt", "(I)I"⟩, 69), (⟨"FuseTreatyModel", "loadBy", "(II)I"⟩, 69), (⟨"FuseTreatyModel", "costsOf", "(I)I"⟩, 69), (⟨"FuseTreatyModel", "doesGo", "(IIII)Z"⟩, 69)]
theorem lw_r6 : ∀ q ∈ lw_privs_6, lw_okq q := List.forall_mem_cons.mpr ⟨lw_p80, List.forall_mem_cons.mpr ⟨lw_p81, List.forall_mem_cons.mpr ⟨lw_p82, List.forall_mem_cons.mpr ⟨lw_p83, List.forall_mem_cons.mpr ⟨lw_p84, List.forall_mem_cons.mpr ⟨lw_p85, List.forall_mem_cons.mpr ⟨lw_p86, List.forall_mem_cons.mpr ⟨lw_p87, List.forall_mem_cons.mpr ⟨lw_p88, List.forall_mem_cons.mpr ⟨lw_p89, List.forall_mem_cons.mpr ⟨lw_p90, List.forall_mem_cons.mpr ⟨lw_p91, List.forall_mem_cons.mpr ⟨lw_p92, List.forall_mem_cons.mpr ⟨lw_p93, List.forall_mem_cons.mpr ⟨lw_p94, List.forall_mem_cons.mpr ⟨lw_p95, fun _ h => absurd h List.not_mem_nil⟩⟩⟩⟩⟩⟩⟩⟩⟩⟩⟩⟩⟩⟩⟩⟩
theorem lw_p96 : lw_okq (⟨"FuseTreatyModel", "isUse", "(I)Z"⟩, 69) := ⟨⟨by decide +kernel, by decide +kernel⟩, List.mem_of_getElem? (i := 1207) (by decide +kernel), List.mem_of_getElem? (i := 1659) (by decide +kernel), List.mem_of_getElem? (i := 1660) (by decide +kernel)⟩
theorem lw_p97 : lw_okq (⟨"FuseTreatyModel", "paysOf", "(I)I"⟩, 69) := ⟨⟨by decide +kernel, by decide +kernel⟩, List.mem_of_getElem? (i := 1207) (by decide +kernel), List.mem_of_getElem? (i := 1663) (by decide +kernel), List.mem_of_getElem? (i := 1664) (by decide +kernel)⟩
theorem lw_p98 : lw_okq (⟨"FuseTreatyModel", "records", "()V"⟩, 69) := ⟨⟨by decide +kernel, by decide +kernel⟩, List.mem_of_getElem? (i := 1207) (by decide +kernel), List.mem_of_getElem? (i := 1671) (by decide +kernel), List.mem_of_getElem? (i := 1672) (by decide +kernel)⟩
theorem lw_p99 : lw_okq (⟨"FuseTreatyModel", "goes", "(I)V"⟩, 69) := ⟨⟨by decide +kernel, by decide +kernel⟩, List.mem_of_getElem? (i := 1207) (by decide +kernel), List.mem_of_getElem? (i := 1694) (by decide +kernel), List.mem_of_getElem? (i := 1695) (by decide +kernel)⟩
theorem lw_p100 : lw_okq (⟨"FuseTreatyModel", "hourGoes", "()V"⟩, 69) := ⟨⟨by decide +kernel, by decide +kernel⟩, List.mem_of_getElem? (i := 1207) (by decide +kernel), List.mem_of_getElem? (i := 1698) (by decide +kernel), List.mem_of_getElem? (i := 1699) (by decide +kernel)⟩
theorem lw_p101 : lw_okq (⟨"FuseTreatyModel", "isSurge", "()Z"⟩, 69) := ⟨⟨by decide +kernel, by decide +kernel⟩, List.mem_of_getElem? (i := 1207) (by decide +kernel), List.mem_of_getElem? (i := 1702) (by decide +kernel), List.mem_of_getElem? (i := 1703) (by decide +kernel)⟩
theorem lw_p102 : lw_okq (⟨"FuseTreatyModel", "goingBits", "(III)I"⟩, 69) := ⟨⟨by decide +kernel, by decide +kernel⟩, List.mem_of_getElem? (i := 1207) (by decide +kernel), List.mem_of_getElem? (i := 1710) (by decide +kernel), List.mem_of_getElem? (i := 1711) (by decide +kernel)⟩
theorem lw_p103 : lw_okq (⟨"FuseTreatyModel", "paysAll", "(I)I"⟩, 69) := ⟨⟨by decide +kernel, by decide +kernel⟩, List.mem_of_getElem? (i := 1207) (by decide +kernel), List.mem_of_getElem? (i := 1714) (by decide +kernel), List.mem_of_getElem? (i := 1715) (by decide +kernel)⟩
theorem lw_p104 : lw_okq (⟨"FuseTreatyModel", "quarrelsAll", "()I"⟩, 69) := ⟨⟨by decide +kernel, by decide +kernel⟩, List.mem_of_getElem? (i := 1207) (by decide +kernel), List.mem_of_getElem? (i := 1718) (by decide +kernel), List.mem_of_getElem? (i := 1719) (by decide +kernel)⟩
theorem lw_p105 : lw_okq (⟨"FuseTreatyModel", "copiesStill", "()V"⟩, 69) := ⟨⟨by decide +kernel, by decide +kernel⟩, List.mem_of_getElem? (i := 1207) (by decide +kernel), List.mem_of_getElem? (i := 1736) (by decide +kernel), List.mem_of_getElem? (i := 1737) (by decide +kernel)⟩
theorem lw_p106 : lw_okq (⟨"FuseTreatyModel", "firstGoing", "()I"⟩, 69) := ⟨⟨by decide +kernel, by decide +kernel⟩, List.mem_of_getElem? (i := 1207) (by decide +kernel), List.mem_of_getElem? (i := 1744) (by decide +kernel), List.mem_of_getElem? (i := 1745) (by decide +kernel)⟩
theorem lw_p107 : lw_okq (⟨"FuseTreatyModel", "usesLit", "()I"⟩, 69) := ⟨⟨by decide +kernel, by decide +kernel⟩, List.mem_of_getElem? (i := 1207) (by decide +kernel), List.mem_of_getElem? (i := 1755) (by decide +kernel), List.mem_of_getElem? (i := 1756) (by decide +kernel)⟩
theorem lw_p108 : lw_okq (⟨"FuseTreatyModel", "canBegin", "(II)Z"⟩, 69) := ⟨⟨by decide +kernel, by decide +kernel⟩, List.mem_of_getElem? (i := 1207) (by decide +kernel), List.mem_of_getElem? (i := 1763) (by decide +kernel), List.mem_of_getElem? (i := 1764) (by decide +kernel)⟩
theorem lw_p109 : lw_okq (⟨"FuseTreatyModel", "goneBits", "()I"⟩, 69) := ⟨⟨by decide +kernel, by decide +kernel⟩, List.mem_of_getElem? (i := 1207) (by decide +kernel), List.mem_of_getElem? (i := 1775) (by decide +kernel), List.mem_of_getElem? (i := 1776) (by decide +kernel)⟩
theorem lw_p110 : lw_okq (⟨"FuseTreatyModel", "loses", "(I)V"⟩, 69) := ⟨⟨by decide +kernel, by decide +kernel⟩, List.mem_of_getElem? (i := 1207) (by decide +kernel), List.mem_of_getElem? (i := 1788) (by decide +kernel), List.mem_of_getElem? (i := 1789) (by decide +kernel)⟩
theorem lw_p111 : lw_okq (⟨"FuseTreatyModel", "darkBits", "()I"⟩, 69) := ⟨⟨by decide +kernel, by decide +kernel⟩, List.mem_of_getElem? (i := 1207) (by decide +kernel), List.mem_of_getElem? (i := 1800) (by decide +kernel), List.mem_of_getElem? (i := 1801) (by decide +kernel)⟩
def lw_privs_7 : List (MethodName × Nat) := [(⟨"FuseTreatyModel", "isUse", "(I)Z"⟩, 69), (⟨"FuseTreatyModel", "paysOf", "(I)I"⟩, 69), (⟨"FuseTreatyModel", "records", "()V"⟩, 69), (⟨"FuseTreatyModel", "goes", "(I)V"⟩, 69), (⟨"FuseTreatyModel", "hourGoes", "()V"⟩, 69), (⟨"FuseTreatyModel", "isSurge", "()Z"⟩, 69), (⟨"FuseTreatyModel", "goingBits", "(III)I"⟩, 69), (⟨"FuseTreatyModel", "paysAll", "(I)I"⟩, 69), (⟨"FuseTreatyModel", "quarrelsAll", "()I"⟩, 69), (⟨"FuseTreatyModel", "copiesStill", "()V"⟩, 69), (⟨"FuseTreatyModel", "firstGoing", "()I"⟩, 69), (⟨"FuseTreatyModel", "usesLit", "()I"⟩, 69), (⟨"FuseTreatyModel", "canBegin", "(II)Z"⟩, 69), (⟨"FuseTreatyModel", "goneBits", "()I"⟩, 69), (⟨"FuseTreatyModel", "loses", "(I)V"⟩, 69), (⟨"FuseTreatyModel", "darkBits", "()I"⟩, 69)]
theorem lw_r7 : ∀ q ∈ lw_privs_7, lw_okq q := List.forall_mem_cons.mpr ⟨lw_p96, List.forall_mem_cons.mpr ⟨lw_p97, List.forall_mem_cons.mpr ⟨lw_p98, List.forall_mem_cons.mpr ⟨lw_p99, List.forall_mem_cons.mpr ⟨lw_p100, List.forall_mem_cons.mpr ⟨lw_p101, List.forall_mem_cons.mpr ⟨lw_p102, List.forall_mem_cons.mpr ⟨lw_p103, List.forall_mem_cons.mpr ⟨lw_p104, List.forall_mem_cons.mpr ⟨lw_p105, List.forall_mem_cons.mpr ⟨lw_p106, List.forall_mem_cons.mpr ⟨lw_p107, List.forall_mem_cons.mpr ⟨lw_p108, List.forall_mem_cons.mpr ⟨lw_p109, List.forall_mem_cons.mpr ⟨lw_p110, List.forall_mem_cons.mpr ⟨lw_p111, fun _ h => absurd h List.not_mem_nil⟩⟩⟩⟩⟩⟩⟩⟩⟩⟩⟩⟩⟩⟩⟩⟩
theorem lw_p112 : lw_okq (⟨"FuseTreatyModel", "litBits", "()I"⟩, 69) := ⟨⟨by decide +kernel, by decide +kernel⟩, List.mem_of_getElem? (i := 1207) (by decide +kernel), List.mem_of_getElem? (i := 1804) (by decide +kernel), List.mem_of_getElem? (i := 1805) (by decide +kernel)⟩
theorem lw_p113 : lw_okq (⟨"FuseTreatyModel", "wentBits", "(I)I"⟩, 69) := ⟨⟨by decide +kernel, by decide +kernel⟩, List.mem_of_getElem? (i := 1207) (by decide +kernel), List.mem_of_getElem? (i := 1844) (by decide +kernel), List.mem_of_getElem? (i := 1845) (by decide +kernel)⟩
def lw_privs_8 : List (MethodName × Nat) := [(⟨"FuseTreatyModel", "litBits", "()I"⟩, 69), (⟨"FuseTreatyModel", "wentBits", "(I)I"⟩, 69)]
theorem lw_r8 : ∀ q ∈ lw_privs_8, lw_okq q := List.forall_mem_cons.mpr ⟨lw_p112, List.forall_mem_cons.mpr ⟨lw_p113, fun _ h => absurd h List.not_mem_nil⟩⟩
def lw_privs : List (MethodName × Nat) := lw_privs_1 ++ (lw_privs_2 ++ (lw_privs_3 ++ (lw_privs_4 ++ (lw_privs_5 ++ (lw_privs_6 ++ (lw_privs_7 ++ (lw_privs_8)))))))
def lw_tbl : List Cond := k2_sels lw_privs ++ tables_1
theorem lw_privs_ok : ∀ q ∈ lw_privs, lw_okq q := by
  show ∀ q ∈ lw_privs_1 ++ (lw_privs_2 ++ (lw_privs_3 ++ (lw_privs_4 ++ (lw_privs_5 ++ (lw_privs_6 ++ (lw_privs_7 ++ (lw_privs_8))))))), lw_okq q
  exact List.forall_mem_append.mpr ⟨lw_r1, List.forall_mem_append.mpr ⟨lw_r2, List.forall_mem_append.mpr ⟨lw_r3, List.forall_mem_append.mpr ⟨lw_r4, List.forall_mem_append.mpr ⟨lw_r5, List.forall_mem_append.mpr ⟨lw_r6, List.forall_mem_append.mpr ⟨lw_r7, lw_r8⟩⟩⟩⟩⟩⟩⟩
end
section
def RX0 : String := "FuseTreaty$Current"
def TX0 : u_T := fun k => match k with
  | 0 => ("FuseTreaty$Current", "house", "LFuseTreaty$House;", true)
  | 1 => ("FuseTreaty$Current", "ways", "LFuseTreaty$Ways;", true)
  | 2 => ("FuseTreaty$Current", "vars", "[I", true)
  | _ => ("FuseTreaty$Current", "load", "[I", true)
def tyX0 : Nat → FieldType := fun k => match k with
  | 0 => .object "FuseTreaty$House"
  | 1 => .object "FuseTreaty$Ways"
  | 2 => .array .int
  | _ => .array .int
theorem nmX0 : ∀ a, a < 4 → ∀ b, b < 4 → a ≠ b → (TX0 a).2.1 ≠ (TX0 b).2.1 := by decide +kernel
theorem tyX0_ok : ∀ k, k < 4 → parseFieldDescriptor (TX0 k).2.2.1 = some (tyX0 k) := by decide +kernel
def RX1 : String := "FuseTreaty$Foresight"
def TX1 : u_T := fun k => match k with
  | 0 => ("FuseTreaty$Foresight", "house", "LFuseTreaty$House;", true)
  | 1 => ("FuseTreaty$Foresight", "current", "LFuseTreaty$Current;", true)
  | 2 => ("FuseTreaty$Foresight", "trial", "LFuseTreaty$State;", true)
  | 3 => ("FuseTreaty$Foresight", "pays", "[I", true)
  | _ => ("FuseTreaty$Foresight", "firstGoing", "I", false)
def tyX1 : Nat → FieldType := fun k => match k with
  | 0 => .object "FuseTreaty$House"
  | 1 => .object "FuseTreaty$Current"
  | 2 => .object "FuseTreaty$State"
  | 3 => .array .int
  | _ => .int
theorem nmX1 : ∀ a, a < 5 → ∀ b, b < 5 → a ≠ b → (TX1 a).2.1 ≠ (TX1 b).2.1 := by decide +kernel
theorem tyX1_ok : ∀ k, k < 5 → parseFieldDescriptor (TX1 k).2.2.1 = some (tyX1 k) := by decide +kernel
def RX2 : String := "FuseTreaty$Grammar"
def TX2 : u_T := fun k => match k with
  | 0 => ("FuseTreaty$Grammar", "tokens", "LFuseTreaty$Tokens;", true)
  | 1 => ("FuseTreaty$Grammar", "laws", "LFuseTreaty$Laws;", true)
  | 2 => ("FuseTreaty$Grammar", "next", "I", false)
  | 3 => ("FuseTreaty$Grammar", "fault", "I", false)
  | 4 => ("FuseTreaty$Grammar", "flats", "I", false)
  | 5 => ("FuseTreaty$Grammar", "wires", "I", false)
  | _ => ("FuseTreaty$Grammar", "uses", "I", false)
def tyX2 : Nat → FieldType := fun k => match k with
  | 0 => .object "FuseTreaty$Tokens"
  | 1 => .object "FuseTreaty$Laws"
  | 2 => .int
  | 3 => .int
  | 4 => .int
  | 5 => .int
  | _ => .int
theorem nmX2 : ∀ a, a < 7 → ∀ b, b < 7 → a ≠ b → (TX2 a).2.1 ≠ (TX2 b).2.1 := by decide +kernel
theorem tyX2_ok : ∀ k, k < 7 → parseFieldDescriptor (TX2 k).2.2.1 = some (tyX2 k) := by decide +kernel
def RX3 : String := "FuseTreaty$House"
def TX3 : u_T := fun k => match k with
  | 0 => ("FuseTreaty$House", "flats", "I", false)
  | 1 => ("FuseTreaty$House", "wires", "I", false)
  | 2 => ("FuseTreaty$House", "uses", "I", false)
  | 3 => ("FuseTreaty$House", "surgeShare", "I", false)
  | 4 => ("FuseTreaty$House", "surgeAmps", "I", false)
  | 5 => ("FuseTreaty$House", "coins", "I", false)
  | 6 => ("FuseTreaty$House", "seed", "I", false)
  | 7 => ("FuseTreaty$House", "temper", "[I", true)
  | 8 => ("FuseTreaty$House", "oneEnd", "[I", true)
  | 9 => ("FuseTreaty$House", "otherEnd", "[I", true)
  | 10 => ("FuseTreaty$House", "rating", "[I", true)
  | 11 => ("FuseTreaty$House", "home", "[I", true)
  | 12 => ("FuseTreaty$House", "amps", "[I", true)
  | 13 => ("FuseTreaty$House", "from", "[I", true)
  | 14 => ("FuseTreaty$House", "till", "[I", true)
  | _ => ("FuseTreaty$House", "laws", "LFuseTreaty$Laws;", true)
def tyX3 : Nat → FieldType := fun k => match k with
  | 0 => .int
  | 1 => .int
  | 2 => .int
  | 3 => .int
  | 4 => .int
  | 5 => .int
  | 6 => .int
  | 7 => .array .int
  | 8 => .array .int
  | 9 => .array .int
  | 10 => .array .int
  | 11 => .array .int
  | 12 => .array .int
  | 13 => .array .int
  | 14 => .array .int
  | _ => .object "FuseTreaty$Laws"
theorem nmX3 : ∀ a, a < 16 → ∀ b, b < 16 → a ≠ b → (TX3 a).2.1 ≠ (TX3 b).2.1 := by decide +kernel
theorem tyX3_ok : ∀ k, k < 16 → parseFieldDescriptor (TX3 k).2.2.1 = some (tyX3 k) := by decide +kernel
def RX4 : String := "FuseTreaty$Laws"
def TX4 : u_T := fun k => match k with
  | 0 => ("FuseTreaty$Laws", "codes", "[I", true)
  | 1 => ("FuseTreaty$Laws", "size", "I", false)
  | 2 => ("FuseTreaty$Laws", "starts", "[[I", true)
  | 3 => ("FuseTreaty$Laws", "pieces", "[I", true)
  | 4 => ("FuseTreaty$Laws", "stack", "[I", true)
  | _ => ("FuseTreaty$Laws", "broken", "Z", false)
def tyX4 : Nat → FieldType := fun k => match k with
  | 0 => .array .int
  | 1 => .int
  | 2 => .array (.array .int)
  | 3 => .array .int
  | 4 => .array .int
  | _ => .boolean
theorem nmX4 : ∀ a, a < 6 → ∀ b, b < 6 → a ≠ b → (TX4 a).2.1 ≠ (TX4 b).2.1 := by decide +kernel
theorem tyX4_ok : ∀ k, k < 6 → parseFieldDescriptor (TX4 k).2.2.1 = some (tyX4 k) := by decide +kernel
def RX5 : String := "FuseTreaty$Meaning"
def TX5 : u_T := fun k => match k with
  | 0 => ("FuseTreaty$Meaning", "tokens", "LFuseTreaty$Tokens;", true)
  | 1 => ("FuseTreaty$Meaning", "house", "LFuseTreaty$House;", true)
  | 2 => ("FuseTreaty$Meaning", "flatNames", "[J", true)
  | 3 => ("FuseTreaty$Meaning", "useNames", "[J", true)
  | 4 => ("FuseTreaty$Meaning", "next", "I", false)
  | _ => ("FuseTreaty$Meaning", "fault", "I", false)
def tyX5 : Nat → FieldType := fun k => match k with
  | 0 => .object "FuseTreaty$Tokens"
  | 1 => .object "FuseTreaty$House"
  | 2 => .array .long
  | 3 => .array .long
  | 4 => .int
  | _ => .int
theorem nmX5 : ∀ a, a < 6 → ∀ b, b < 6 → a ≠ b → (TX5 a).2.1 ≠ (TX5 b).2.1 := by decide +kernel
theorem tyX5_ok : ∀ k, k < 6 → parseFieldDescriptor (TX5 k).2.2.1 = some (tyX5 k) := by decide +kernel
def RX6 : String := "FuseTreaty$Past"
def TX6 : u_T := fun k => match k with
  | 0 => ("FuseTreaty$Past", "rows", "[I", true)
  | 1 => ("FuseTreaty$Past", "slotRows", "[I", true)
  | 2 => ("FuseTreaty$Past", "next", "I", false)
  | 3 => ("FuseTreaty$Past", "size", "I", false)
  | _ => ("FuseTreaty$Past", "slotsHeld", "I", false)
def tyX6 : Nat → FieldType := fun k => match k with
  | 0 => .array .int
  | 1 => .array .int
  | 2 => .int
  | 3 => .int
  | _ => .int
theorem nmX6 : ∀ a, a < 5 → ∀ b, b < 5 → a ≠ b → (TX6 a).2.1 ≠ (TX6 b).2.1 := by decide +kernel
theorem tyX6_ok : ∀ k, k < 5 → parseFieldDescriptor (TX6 k).2.2.1 = some (tyX6 k) := by decide +kernel
def RX7 : String := "FuseTreaty$State"
def TX7 : u_T := fun k => match k with
  | 0 => ("FuseTreaty$State", "hour", "I", false)
  | 1 => ("FuseTreaty$State", "coins", "I", false)
  | 2 => ("FuseTreaty$State", "quarrels", "I", false)
  | 3 => ("FuseTreaty$State", "gone", "I", false)
  | 4 => ("FuseTreaty$State", "pinned", "I", false)
  | 5 => ("FuseTreaty$State", "agreed", "I", false)
  | 6 => ("FuseTreaty$State", "rating", "[I", true)
  | 7 => ("FuseTreaty$State", "age", "[I", true)
  | _ => ("FuseTreaty$State", "dark", "[I", true)
def tyX7 : Nat → FieldType := fun k => match k with
  | 0 => .int
  | 1 => .int
  | 2 => .int
  | 3 => .int
  | 4 => .int
  | 5 => .int
  | 6 => .array .int
  | 7 => .array .int
  | _ => .array .int
theorem nmX7 : ∀ a, a < 9 → ∀ b, b < 9 → a ≠ b → (TX7 a).2.1 ≠ (TX7 b).2.1 := by decide +kernel
theorem tyX7_ok : ∀ k, k < 9 → parseFieldDescriptor (TX7 k).2.2.1 = some (tyX7 k) := by decide +kernel
def RX8 : String := "FuseTreaty$Tokens"
def TX8 : u_T := fun k => match k with
  | 0 => ("FuseTreaty$Tokens", "kinds", "[I", true)
  | 1 => ("FuseTreaty$Tokens", "places", "[I", true)
  | 2 => ("FuseTreaty$Tokens", "values", "[J", true)
  | 3 => ("FuseTreaty$Tokens", "words", "[J", true)
  | 4 => ("FuseTreaty$Tokens", "text", "[B", false)
  | _ => ("FuseTreaty$Tokens", "length", "I", false)
def tyX8 : Nat → FieldType := fun k => match k with
  | 0 => .array .int
  | 1 => .array .int
  | 2 => .array .long
  | 3 => .array .long
  | 4 => .array .byte
  | _ => .int
theorem nmX8 : ∀ a, a < 6 → ∀ b, b < 6 → a ≠ b → (TX8 a).2.1 ≠ (TX8 b).2.1 := by decide +kernel
theorem tyX8_ok : ∀ k, k < 6 → parseFieldDescriptor (TX8 k).2.2.1 = some (tyX8 k) := by decide +kernel
def RX9 : String := "FuseTreaty$Told"
def TX9 : u_T := fun k => match k with
  | 0 => ("FuseTreaty$Told", "house", "LFuseTreaty$House;", true)
  | 1 => ("FuseTreaty$Told", "flats", "[I", true)
  | 2 => ("FuseTreaty$Told", "lits", "[Z", true)
  | _ => ("FuseTreaty$Told", "size", "I", false)
def tyX9 : Nat → FieldType := fun k => match k with
  | 0 => .object "FuseTreaty$House"
  | 1 => .array .int
  | 2 => .array .boolean
  | _ => .int
theorem nmX9 : ∀ a, a < 4 → ∀ b, b < 4 → a ≠ b → (TX9 a).2.1 ≠ (TX9 b).2.1 := by decide +kernel
theorem tyX9_ok : ∀ k, k < 4 → parseFieldDescriptor (TX9 k).2.2.1 = some (tyX9 k) := by decide +kernel
def RX10 : String := "FuseTreaty$Ways"
def TX10 : u_T := fun k => match k with
  | 0 => ("FuseTreaty$Ways", "house", "LFuseTreaty$House;", true)
  | 1 => ("FuseTreaty$Ways", "laidFor", "I", false)
  | 2 => ("FuseTreaty$Ways", "nextWire", "[I", true)
  | 3 => ("FuseTreaty$Ways", "steps", "[I", true)
  | 4 => ("FuseTreaty$Ways", "via", "[I", true)
  | _ => ("FuseTreaty$Ways", "lit", "I", false)
def tyX10 : Nat → FieldType := fun k => match k with
  | 0 => .object "FuseTreaty$House"
  | 1 => .int
  | 2 => .array .int
  | 3 => .array .int
  | 4 => .array .int
  | _ => .int
theorem nmX10 : ∀ a, a < 6 → ∀ b, b < 6 → a ≠ b → (TX10 a).2.1 ≠ (TX10 b).2.1 := by decide +kernel
theorem tyX10_ok : ∀ k, k < 6 → parseFieldDescriptor (TX10 k).2.2.1 = some (tyX10 k) := by decide +kernel
def RX11 : String := "FuseTreaty"
def TX11 : u_T := fun k => match k with
  | 0 => ("FuseTreaty", "tape", "[B", true)
  | 1 => ("FuseTreaty", "taped", "I", false)
  | 2 => ("FuseTreaty", "faultPlace", "I", false)
  | 3 => ("FuseTreaty", "house", "LFuseTreaty$House;", true)
  | 4 => ("FuseTreaty", "draft", "LFuseTreaty$House;", true)
  | 5 => ("FuseTreaty", "tokens", "LFuseTreaty$Tokens;", true)
  | 6 => ("FuseTreaty", "grammar", "LFuseTreaty$Grammar;", true)
  | 7 => ("FuseTreaty", "meaning", "LFuseTreaty$Meaning;", true)
  | 8 => ("FuseTreaty", "state", "LFuseTreaty$State;", true)
  | 9 => ("FuseTreaty", "past", "LFuseTreaty$Past;", true)
  | 10 => ("FuseTreaty", "current", "LFuseTreaty$Current;", true)
  | 11 => ("FuseTreaty", "foresight", "LFuseTreaty$Foresight;", true)
  | _ => ("FuseTreaty", "told", "LFuseTreaty$Told;", true)
def tyX11 : Nat → FieldType := fun k => match k with
  | 0 => .array .byte
  | 1 => .int
  | 2 => .int
  | 3 => .object "FuseTreaty$House"
  | 4 => .object "FuseTreaty$House"
  | 5 => .object "FuseTreaty$Tokens"
  | 6 => .object "FuseTreaty$Grammar"
  | 7 => .object "FuseTreaty$Meaning"
  | 8 => .object "FuseTreaty$State"
  | 9 => .object "FuseTreaty$Past"
  | 10 => .object "FuseTreaty$Current"
  | 11 => .object "FuseTreaty$Foresight"
  | _ => .object "FuseTreaty$Told"
theorem nmX11 : ∀ a, a < 13 → ∀ b, b < 13 → a ≠ b → (TX11 a).2.1 ≠ (TX11 b).2.1 := by decide +kernel
theorem tyX11_ok : ∀ k, k < 13 → parseFieldDescriptor (TX11 k).2.2.1 = some (tyX11 k) := by decide +kernel
def RX12 : String := "FuseTreatyModel"
def TX12 : u_T := fun k => match k with
  | 0 => ("FuseTreatyModel", "thrown", "I", false)
  | 1 => ("FuseTreatyModel", "tape", "[B", true)
  | 2 => ("FuseTreatyModel", "taped", "I", false)
  | 3 => ("FuseTreatyModel", "text", "[B", true)
  | 4 => ("FuseTreatyModel", "size", "I", false)
  | 5 => ("FuseTreatyModel", "tKind", "[I", true)
  | 6 => ("FuseTreatyModel", "tPlace", "[I", true)
  | 7 => ("FuseTreatyModel", "tValue", "[I", true)
  | 8 => ("FuseTreatyModel", "tName", "[J", true)
  | 9 => ("FuseTreatyModel", "keys", "[J", true)
  | 10 => ("FuseTreatyModel", "tokens", "I", false)
  | 11 => ("FuseTreatyModel", "t", "I", false)
  | 12 => ("FuseTreatyModel", "open", "I", false)
  | 13 => ("FuseTreatyModel", "fault", "I", false)
  | 14 => ("FuseTreatyModel", "faultPlace", "I", false)
  | 15 => ("FuseTreatyModel", "worst", "I", false)
  | 16 => ("FuseTreatyModel", "worstPlace", "I", false)
  | 17 => ("FuseTreatyModel", "place", "I", false)
  | 18 => ("FuseTreatyModel", "live", "I", false)
  | 19 => ("FuseTreatyModel", "side", "I", false)
  | 20 => ("FuseTreatyModel", "names", "I", false)
  | 21 => ("FuseTreatyModel", "nameOf", "[J", true)
  | 22 => ("FuseTreatyModel", "nameAt", "[I", true)
  | 23 => ("FuseTreatyModel", "flats", "[I", true)
  | 24 => ("FuseTreatyModel", "temperOf", "[I", true)
  | 25 => ("FuseTreatyModel", "wires", "[I", true)
  | 26 => ("FuseTreatyModel", "oneOf", "[I", true)
  | 27 => ("FuseTreatyModel", "twoOf", "[I", true)
  | 28 => ("FuseTreatyModel", "ratingTold", "[I", true)
  | 29 => ("FuseTreatyModel", "uses", "[I", true)
  | 30 => ("FuseTreatyModel", "flatOf", "[I", true)
  | 31 => ("FuseTreatyModel", "ampsOf", "[I", true)
  | 32 => ("FuseTreatyModel", "fromOf", "[I", true)
  | 33 => ("FuseTreatyModel", "tillOf", "[I", true)
  | 34 => ("FuseTreatyModel", "surgeOdds", "[I", true)
  | 35 => ("FuseTreatyModel", "surgeAmps", "[I", true)
  | 36 => ("FuseTreatyModel", "coinsTold", "[I", true)
  | 37 => ("FuseTreatyModel", "seed", "[I", true)
  | 38 => ("FuseTreatyModel", "lawFirst", "[I", true)
  | 39 => ("FuseTreatyModel", "lawLast", "[I", true)
  | 40 => ("FuseTreatyModel", "branches", "I", false)
  | 41 => ("FuseTreatyModel", "hasTest", "[Z", true)
  | 42 => ("FuseTreatyModel", "testFrom", "[I", true)
  | 43 => ("FuseTreatyModel", "testMid", "[I", true)
  | 44 => ("FuseTreatyModel", "testTo", "[I", true)
  | 45 => ("FuseTreatyModel", "termTo", "[I", true)
  | 46 => ("FuseTreatyModel", "codes", "I", false)
  | 47 => ("FuseTreatyModel", "code", "[I", true)
  | 48 => ("FuseTreatyModel", "codeInt", "[I", true)
  | 49 => ("FuseTreatyModel", "waits", "[I", true)
  | 50 => ("FuseTreatyModel", "waiting", "I", false)
  | 51 => ("FuseTreatyModel", "variables", "[I", true)
  | 52 => ("FuseTreatyModel", "pile", "[I", true)
  | 53 => ("FuseTreatyModel", "isBroken", "Z", false)
  | 54 => ("FuseTreatyModel", "now", "[I", true)
  | 55 => ("FuseTreatyModel", "row", "[I", true)
  | 56 => ("FuseTreatyModel", "lots", "I", false)
  | 57 => ("FuseTreatyModel", "isStill", "Z", false)
  | 58 => ("FuseTreatyModel", "stepsOf", "[I", true)
  | 59 => ("FuseTreatyModel", "wayOf", "[I", true)
  | 60 => ("FuseTreatyModel", "wentNow", "I", false)
  | 61 => ("FuseTreatyModel", "undos", "I", false)
  | 62 => ("FuseTreatyModel", "history", "[I", true)
  | 63 => ("FuseTreatyModel", "tolds", "I", false)
  | 64 => ("FuseTreatyModel", "toldFlat", "[I", true)
  | 65 => ("FuseTreatyModel", "toldLit", "[I", true)
  | 66 => ("FuseTreatyModel", "litWithout", "[I", true)
  | 67 => ("FuseTreatyModel", "isHeld", "[Z", true)
  | _ => ("FuseTreatyModel", "heldRows", "[I", true)
def tyX12 : Nat → FieldType := fun k => match k with
  | 0 => .int
  | 1 => .array .byte
  | 2 => .int
  | 3 => .array .byte
  | 4 => .int
  | 5 => .array .int
  | 6 => .array .int
  | 7 => .array .int
  | 8 => .array .long
  | 9 => .array .long
  | 10 => .int
  | 11 => .int
  | 12 => .int
  | 13 => .int
  | 14 => .int
  | 15 => .int
  | 16 => .int
  | 17 => .int
  | 18 => .int
  | 19 => .int
  | 20 => .int
  | 21 => .array .long
  | 22 => .array .int
  | 23 => .array .int
  | 24 => .array .int
  | 25 => .array .int
  | 26 => .array .int
  | 27 => .array .int
  | 28 => .array .int
  | 29 => .array .int
  | 30 => .array .int
  | 31 => .array .int
  | 32 => .array .int
  | 33 => .array .int
  | 34 => .array .int
  | 35 => .array .int
  | 36 => .array .int
  | 37 => .array .int
  | 38 => .array .int
  | 39 => .array .int
  | 40 => .int
  | 41 => .array .boolean
  | 42 => .array .int
  | 43 => .array .int
  | 44 => .array .int
  | 45 => .array .int
  | 46 => .int
  | 47 => .array .int
  | 48 => .array .int
  | 49 => .array .int
  | 50 => .int
  | 51 => .array .int
  | 52 => .array .int
  | 53 => .boolean
  | 54 => .array .int
  | 55 => .array .int
  | 56 => .int
  | 57 => .boolean
  | 58 => .array .int
  | 59 => .array .int
  | 60 => .int
  | 61 => .int
  | 62 => .array .int
  | 63 => .int
  | 64 => .array .int
  | 65 => .array .int
  | 66 => .array .int
  | 67 => .array .boolean
  | _ => .array .int
theorem nmX12 : ∀ a, a < 69 → ∀ b, b < 69 → a ≠ b → (TX12 a).2.1 ≠ (TX12 b).2.1 := by decide +kernel
theorem tyX12_ok : ∀ k, k < 69 → parseFieldDescriptor (TX12 k).2.2.1 = some (tyX12 k) := by decide +kernel
def tCl : List vw_C := [(RX0, TX0, 4), (RX1, TX1, 5), (RX2, TX2, 7), (RX3, TX3, 16), (RX4, TX4, 6), (RX5, TX5, 6), (RX6, TX6, 5), (RX7, TX7, 9), (RX8, TX8, 6), (RX9, TX9, 4), (RX10, TX10, 6), (RX11, TX11, 13), (RX12, TX12, 69)]
end
section
/-! THE TABLES, printed by wip/p1/emit2.py: the instructions that are reached -/
def tC0_0 : List eN := [(0, .aload_n 0, 1, 0, 0, 0, 0), (1, .invokespecial 7, 3, 6, 0, 6011, 0), (4, .aload_n 0, 1, 0, 0, 0, 0), (5, .sipush 2000, 3, 0, 0, 0, 0), (8, .newarray .byte, 2, 1, 0, 1063, 0), (10, .putfield 13, 3, 12, 1, 6031, 5), (13, .aload_n 0, 1, 0, 0, 0, 0), (14, .sipush 2000, 3, 0, 0, 0, 0), (17, .newarray .byte, 2, 1, 0, 1063, 0), (19, .putfield 17, 3, 12, 3, 6033, 5), (22, .aload_n 0, 1, 0, 0, 0, 0), (23, .sipush 403, 3, 0, 0, 0, 0), (26, .newarray .int, 2, 0, 0, 1064, 0), (28, .putfield 20, 3, 12, 5, 6035, 5), (31, .aload_n 0, 1, 0, 0, 0, 0)]
def tC0_1 : List eN := [(32, .sipush 403, 3, 0, 0, 0, 0), (35, .newarray .int, 2, 0, 0, 1064, 0), (37, .putfield 24, 3, 12, 6, 6036, 5), (40, .aload_n 0, 1, 0, 0, 0, 0), (41, .sipush 403, 3, 0, 0, 0, 0), (44, .newarray .int, 2, 0, 0, 1064, 0), (46, .putfield 27, 3, 12, 7, 6037, 5), (49, .aload_n 0, 1, 0, 0, 0, 0), (50, .sipush 403, 3, 0, 0, 0, 0), (53, .newarray .long, 2, 3, 0, 2007, 0), (55, .putfield 30, 3, 12, 8, 6038, 5), (58, .aload_n 0, 1, 0, 0, 0, 0), (59, .bipush 22, 2, 0, 0, 0, 0), (61, .newarray .long, 2, 3, 0, 2007, 0), (63, .putfield 34, 3, 12, 9, 6039, 5)]
def tC0_2 : List eN := [(66, .aload_n 0, 1, 0, 0, 0, 0), (67, .iconst (-1), 1, 0, 0, 0, 0), (68, .putfield 37, 3, 12, 17, 6047, 0), (71, .aload_n 0, 1, 0, 0, 0, 0), (72, .bipush 15, 2, 0, 0, 0, 0), (74, .newarray .long, 2, 3, 0, 2007, 0), (76, .putfield 40, 3, 12, 21, 6051, 5), (79, .aload_n 0, 1, 0, 0, 0, 0), (80, .bipush 15, 2, 0, 0, 0, 0), (82, .newarray .int, 2, 0, 0, 1064, 0), (84, .putfield 43, 3, 12, 22, 6052, 5), (87, .aload_n 0, 1, 0, 0, 0, 0), (88, .iconst 2, 1, 0, 0, 0, 0), (89, .newarray .int, 2, 0, 0, 1064, 0), (91, .putfield 46, 3, 12, 23, 6053, 5), (94, .aload_n 0, 1, 0, 0, 0, 0), (95, .bipush 14, 2, 0, 0, 0, 0)]
def tC0_3 : List eN := [(97, .newarray .int, 2, 0, 0, 1064, 0), (99, .putfield 49, 3, 12, 24, 6054, 5), (102, .aload_n 0, 1, 0, 0, 0, 0), (103, .iconst 2, 1, 0, 0, 0, 0), (104, .newarray .int, 2, 0, 0, 1064, 0), (106, .putfield 52, 3, 12, 25, 6055, 5), (109, .aload_n 0, 1, 0, 0, 0, 0), (110, .bipush 20, 2, 0, 0, 0, 0), (112, .newarray .int, 2, 0, 0, 1064, 0), (114, .putfield 55, 3, 12, 26, 6056, 5), (117, .aload_n 0, 1, 0, 0, 0, 0), (118, .bipush 20, 2, 0, 0, 0, 0), (120, .newarray .int, 2, 0, 0, 1064, 0), (122, .putfield 58, 3, 12, 27, 6057, 5), (125, .aload_n 0, 1, 0, 0, 0, 0), (126, .bipush 20, 2, 0, 0, 0, 0)]
def tC0_4 : List eN := [(128, .newarray .int, 2, 0, 0, 1064, 0), (130, .putfield 61, 3, 12, 28, 6058, 5), (133, .aload_n 0, 1, 0, 0, 0, 0), (134, .iconst 2, 1, 0, 0, 0, 0), (135, .newarray .int, 2, 0, 0, 1064, 0), (137, .putfield 64, 3, 12, 29, 6059, 5), (140, .aload_n 0, 1, 0, 0, 0, 0), (141, .bipush 16, 2, 0, 0, 0, 0), (143, .newarray .int, 2, 0, 0, 1064, 0), (145, .putfield 67, 3, 12, 30, 6060, 5), (148, .aload_n 0, 1, 0, 0, 0, 0), (149, .bipush 16, 2, 0, 0, 0, 0), (151, .newarray .int, 2, 0, 0, 1064, 0), (153, .putfield 70, 3, 12, 31, 6061, 5), (156, .aload_n 0, 1, 0, 0, 0, 0), (157, .bipush 16, 2, 0, 0, 0, 0), (159, .newarray .int, 2, 0, 0, 1064, 0)]
def tC0_5 : List eN := [(161, .putfield 73, 3, 12, 32, 6062, 5), (164, .aload_n 0, 1, 0, 0, 0, 0), (165, .bipush 16, 2, 0, 0, 0, 0), (167, .newarray .int, 2, 0, 0, 1064, 0), (169, .putfield 76, 3, 12, 33, 6063, 5), (172, .aload_n 0, 1, 0, 0, 0, 0), (173, .iconst 2, 1, 0, 0, 0, 0), (174, .newarray .int, 2, 0, 0, 1064, 0), (176, .putfield 79, 3, 12, 34, 6064, 5), (179, .aload_n 0, 1, 0, 0, 0, 0), (180, .iconst 2, 1, 0, 0, 0, 0), (181, .newarray .int, 2, 0, 0, 1064, 0), (183, .putfield 82, 3, 12, 35, 6065, 5), (186, .aload_n 0, 1, 0, 0, 0, 0), (187, .iconst 2, 1, 0, 0, 0, 0), (188, .newarray .int, 2, 0, 0, 1064, 0), (190, .putfield 85, 3, 12, 36, 6066, 5)]
def tC0_6 : List eN := [(193, .aload_n 0, 1, 0, 0, 0, 0), (194, .iconst 2, 1, 0, 0, 0, 0), (195, .newarray .int, 2, 0, 0, 1064, 0), (197, .putfield 88, 3, 12, 37, 6067, 5), (200, .aload_n 0, 1, 0, 0, 0, 0), (201, .bipush 8, 2, 0, 0, 0, 0), (203, .newarray .int, 2, 0, 0, 1064, 0), (205, .putfield 91, 3, 12, 38, 6068, 5), (208, .aload_n 0, 1, 0, 0, 0, 0), (209, .bipush 8, 2, 0, 0, 0, 0), (211, .newarray .int, 2, 0, 0, 1064, 0), (213, .putfield 94, 3, 12, 39, 6069, 5), (216, .aload_n 0, 1, 0, 0, 0, 0), (217, .sipush 260, 3, 0, 0, 0, 0), (220, .newarray .boolean, 2, 2, 0, 2236, 0), (222, .putfield 97, 3, 12, 41, 6071, 5)]
def tC0_7 : List eN := [(225, .aload_n 0, 1, 0, 0, 0, 0), (226, .sipush 260, 3, 0, 0, 0, 0), (229, .newarray .int, 2, 0, 0, 1064, 0), (231, .putfield 101, 3, 12, 42, 6072, 5), (234, .aload_n 0, 1, 0, 0, 0, 0), (235, .sipush 260, 3, 0, 0, 0, 0), (238, .newarray .int, 2, 0, 0, 1064, 0), (240, .putfield 104, 3, 12, 43, 6073, 5), (243, .aload_n 0, 1, 0, 0, 0, 0), (244, .sipush 260, 3, 0, 0, 0, 0), (247, .newarray .int, 2, 0, 0, 1064, 0), (249, .putfield 107, 3, 12, 44, 6074, 5), (252, .aload_n 0, 1, 0, 0, 0, 0), (253, .sipush 260, 3, 0, 0, 0, 0)]
def tC0_8 : List eN := [(256, .newarray .int, 2, 0, 0, 1064, 0), (258, .putfield 110, 3, 12, 45, 6075, 5), (261, .aload_n 0, 1, 0, 0, 0, 0), (262, .sipush 840, 3, 0, 0, 0, 0), (265, .newarray .int, 2, 0, 0, 1064, 0), (267, .putfield 113, 3, 12, 47, 6077, 5), (270, .aload_n 0, 1, 0, 0, 0, 0), (271, .sipush 840, 3, 0, 0, 0, 0), (274, .newarray .int, 2, 0, 0, 1064, 0), (276, .putfield 116, 3, 12, 48, 6078, 5), (279, .aload_n 0, 1, 0, 0, 0, 0), (280, .bipush 64, 2, 0, 0, 0, 0), (282, .newarray .int, 2, 0, 0, 1064, 0), (284, .putfield 119, 3, 12, 49, 6079, 5), (287, .aload_n 0, 1, 0, 0, 0, 0)]
def tC0_9 : List eN := [(288, .bipush 9, 2, 0, 0, 0, 0), (290, .newarray .int, 2, 0, 0, 1064, 0), (292, .putfield 122, 3, 12, 51, 6081, 5), (295, .aload_n 0, 1, 0, 0, 0, 0), (296, .sipush 400, 3, 0, 0, 0, 0), (299, .newarray .int, 2, 0, 0, 1064, 0), (301, .putfield 125, 3, 12, 52, 6082, 5), (304, .aload_n 0, 1, 0, 0, 0, 0), (305, .bipush 58, 2, 0, 0, 0, 0), (307, .newarray .int, 2, 0, 0, 1064, 0), (309, .putfield 128, 3, 12, 54, 6084, 5), (312, .aload_n 0, 1, 0, 0, 0, 0), (313, .bipush 58, 2, 0, 0, 0, 0), (315, .newarray .int, 2, 0, 0, 1064, 0), (317, .putfield 131, 3, 12, 55, 6085, 5)]
def tC0_10 : List eN := [(320, .aload_n 0, 1, 0, 0, 0, 0), (321, .bipush 7, 2, 0, 0, 0, 0), (323, .newarray .int, 2, 0, 0, 1064, 0), (325, .putfield 134, 3, 12, 58, 6088, 5), (328, .aload_n 0, 1, 0, 0, 0, 0), (329, .bipush 7, 2, 0, 0, 0, 0), (331, .newarray .int, 2, 0, 0, 1064, 0), (333, .putfield 137, 3, 12, 59, 6089, 5), (336, .aload_n 0, 1, 0, 0, 0, 0), (337, .sipush 2320, 3, 0, 0, 0, 0), (340, .newarray .int, 2, 0, 0, 1064, 0), (342, .putfield 140, 3, 12, 62, 6092, 5), (345, .aload_n 0, 1, 0, 0, 0, 0), (346, .bipush 20, 2, 0, 0, 0, 0), (348, .newarray .int, 2, 0, 0, 1064, 0), (350, .putfield 143, 3, 12, 64, 6094, 5)]
def tC0_11 : List eN := [(353, .aload_n 0, 1, 0, 0, 0, 0), (354, .bipush 20, 2, 0, 0, 0, 0), (356, .newarray .int, 2, 0, 0, 1064, 0), (358, .putfield 146, 3, 12, 65, 6095, 5), (361, .aload_n 0, 1, 0, 0, 0, 0), (362, .bipush 10, 2, 0, 0, 0, 0), (364, .newarray .int, 2, 0, 0, 1064, 0), (366, .putfield 149, 3, 12, 66, 6096, 5), (369, .aload_n 0, 1, 0, 0, 0, 0), (370, .iconst 3, 1, 0, 0, 0, 0), (371, .newarray .boolean, 2, 2, 0, 2236, 0), (373, .putfield 152, 3, 12, 67, 6097, 5), (376, .aload_n 0, 1, 0, 0, 0, 0), (377, .sipush 174, 3, 0, 0, 0, 0), (380, .newarray .int, 2, 0, 0, 1064, 0), (382, .putfield 155, 3, 12, 68, 6098, 5)]
def tC0_12 : List eN := [(385, .aload_n 0, 1, 0, 0, 0, 0), (386, .iconst 0, 1, 0, 0, 0, 0), (387, .invokevirtual 158, 3, 0, 10, 6012, 12), (390, .aload_n 0, 1, 0, 0, 0, 0), (391, .getfield 34, 3, 12, 9, 6039, 5), (394, .iconst 0, 1, 0, 0, 0, 0), (395, .bipush 102, 2, 0, 0, 0, 0), (397, .bipush 108, 2, 0, 0, 0, 0), (399, .bipush 97, 2, 0, 0, 0, 0), (401, .bipush 116, 2, 0, 0, 0, 0), (403, .iconst 0, 1, 0, 0, 0, 0), (404, .iconst 0, 1, 0, 0, 0, 0), (405, .iconst 0, 1, 0, 0, 0, 0), (406, .invokestatic 162, 3, 1, 6, 6016, 12), (409, .lastore, 1, 0, 0, 0, 0), (410, .aload_n 0, 1, 0, 0, 0, 0), (411, .getfield 34, 3, 12, 9, 6039, 5), (414, .iconst 1, 1, 0, 0, 0, 0), (415, .bipush 119, 2, 0, 0, 0, 0)]
def tC0_13 : List eN := [(417, .bipush 105, 2, 0, 0, 0, 0), (419, .bipush 114, 2, 0, 0, 0, 0), (421, .bipush 101, 2, 0, 0, 0, 0), (423, .iconst 0, 1, 0, 0, 0, 0), (424, .iconst 0, 1, 0, 0, 0, 0), (425, .iconst 0, 1, 0, 0, 0, 0), (426, .invokestatic 162, 3, 1, 6, 6016, 12), (429, .lastore, 1, 0, 0, 0, 0), (430, .aload_n 0, 1, 0, 0, 0, 0), (431, .getfield 34, 3, 12, 9, 6039, 5), (434, .iconst 2, 1, 0, 0, 0, 0), (435, .bipush 117, 2, 0, 0, 0, 0), (437, .bipush 115, 2, 0, 0, 0, 0), (439, .bipush 101, 2, 0, 0, 0, 0), (441, .iconst 0, 1, 0, 0, 0, 0), (442, .iconst 0, 1, 0, 0, 0, 0), (443, .iconst 0, 1, 0, 0, 0, 0), (444, .iconst 0, 1, 0, 0, 0, 0), (445, .invokestatic 162, 3, 1, 6, 6016, 12)]
def tC0_14 : List eN := [(448, .lastore, 1, 0, 0, 0, 0), (449, .aload_n 0, 1, 0, 0, 0, 0), (450, .getfield 34, 3, 12, 9, 6039, 5), (453, .iconst 3, 1, 0, 0, 0, 0), (454, .bipush 103, 2, 0, 0, 0, 0), (456, .bipush 111, 2, 0, 0, 0, 0), (458, .bipush 101, 2, 0, 0, 0, 0), (460, .bipush 115, 2, 0, 0, 0, 0), (462, .iconst 0, 1, 0, 0, 0, 0), (463, .iconst 0, 1, 0, 0, 0, 0), (464, .iconst 0, 1, 0, 0, 0, 0), (465, .invokestatic 162, 3, 1, 6, 6016, 12), (468, .lastore, 1, 0, 0, 0, 0), (469, .aload_n 0, 1, 0, 0, 0, 0), (470, .getfield 34, 3, 12, 9, 6039, 5), (473, .iconst 4, 1, 0, 0, 0, 0), (474, .bipush 113, 2, 0, 0, 0, 0), (476, .bipush 117, 2, 0, 0, 0, 0), (478, .bipush 97, 2, 0, 0, 0, 0)]
def tC0_15 : List eN := [(480, .bipush 114, 2, 0, 0, 0, 0), (482, .bipush 114, 2, 0, 0, 0, 0), (484, .bipush 101, 2, 0, 0, 0, 0), (486, .bipush 108, 2, 0, 0, 0, 0), (488, .invokestatic 162, 3, 1, 6, 6016, 12), (491, .lastore, 1, 0, 0, 0, 0), (492, .aload_n 0, 1, 0, 0, 0, 0), (493, .getfield 34, 3, 12, 9, 6039, 5), (496, .iconst 5, 1, 0, 0, 0, 0), (497, .bipush 99, 2, 0, 0, 0, 0), (499, .bipush 111, 2, 0, 0, 0, 0), (501, .bipush 115, 2, 0, 0, 0, 0), (503, .bipush 116, 2, 0, 0, 0, 0), (505, .bipush 115, 2, 0, 0, 0, 0), (507, .iconst 0, 1, 0, 0, 0, 0), (508, .iconst 0, 1, 0, 0, 0, 0), (509, .invokestatic 162, 3, 1, 6, 6016, 12)]
def tC0_16 : List eN := [(512, .lastore, 1, 0, 0, 0, 0), (513, .aload_n 0, 1, 0, 0, 0, 0), (514, .getfield 34, 3, 12, 9, 6039, 5), (517, .bipush 6, 2, 0, 0, 0, 0), (519, .bipush 112, 2, 0, 0, 0, 0), (521, .bipush 97, 2, 0, 0, 0, 0), (523, .bipush 121, 2, 0, 0, 0, 0), (525, .bipush 115, 2, 0, 0, 0, 0), (527, .iconst 0, 1, 0, 0, 0, 0), (528, .iconst 0, 1, 0, 0, 0, 0), (529, .iconst 0, 1, 0, 0, 0, 0), (530, .invokestatic 162, 3, 1, 6, 6016, 12), (533, .lastore, 1, 0, 0, 0, 0), (534, .aload_n 0, 1, 0, 0, 0, 0), (535, .getfield 34, 3, 12, 9, 6039, 5), (538, .bipush 7, 2, 0, 0, 0, 0), (540, .bipush 115, 2, 0, 0, 0, 0), (542, .bipush 117, 2, 0, 0, 0, 0)]
def tC0_17 : List eN := [(544, .bipush 114, 2, 0, 0, 0, 0), (546, .bipush 103, 2, 0, 0, 0, 0), (548, .bipush 101, 2, 0, 0, 0, 0), (550, .iconst 0, 1, 0, 0, 0, 0), (551, .iconst 0, 1, 0, 0, 0, 0), (552, .invokestatic 162, 3, 1, 6, 6016, 12), (555, .lastore, 1, 0, 0, 0, 0), (556, .aload_n 0, 1, 0, 0, 0, 0), (557, .getfield 34, 3, 12, 9, 6039, 5), (560, .bipush 8, 2, 0, 0, 0, 0), (562, .bipush 99, 2, 0, 0, 0, 0), (564, .bipush 111, 2, 0, 0, 0, 0), (566, .bipush 105, 2, 0, 0, 0, 0), (568, .bipush 110, 2, 0, 0, 0, 0), (570, .bipush 115, 2, 0, 0, 0, 0), (572, .iconst 0, 1, 0, 0, 0, 0), (573, .iconst 0, 1, 0, 0, 0, 0), (574, .invokestatic 162, 3, 1, 6, 6016, 12)]
def tC0_18 : List eN := [(577, .lastore, 1, 0, 0, 0, 0), (578, .aload_n 0, 1, 0, 0, 0, 0), (579, .getfield 34, 3, 12, 9, 6039, 5), (582, .bipush 9, 2, 0, 0, 0, 0), (584, .bipush 115, 2, 0, 0, 0, 0), (586, .bipush 101, 2, 0, 0, 0, 0), (588, .bipush 101, 2, 0, 0, 0, 0), (590, .bipush 100, 2, 0, 0, 0, 0), (592, .iconst 0, 1, 0, 0, 0, 0), (593, .iconst 0, 1, 0, 0, 0, 0), (594, .iconst 0, 1, 0, 0, 0, 0), (595, .invokestatic 162, 3, 1, 6, 6016, 12), (598, .lastore, 1, 0, 0, 0, 0), (599, .aload_n 0, 1, 0, 0, 0, 0), (600, .getfield 34, 3, 12, 9, 6039, 5), (603, .bipush 10, 2, 0, 0, 0, 0), (605, .bipush 105, 2, 0, 0, 0, 0), (607, .bipush 102, 2, 0, 0, 0, 0)]
def tC0_19 : List eN := [(609, .iconst 0, 1, 0, 0, 0, 0), (610, .iconst 0, 1, 0, 0, 0, 0), (611, .iconst 0, 1, 0, 0, 0, 0), (612, .iconst 0, 1, 0, 0, 0, 0), (613, .iconst 0, 1, 0, 0, 0, 0), (614, .invokestatic 162, 3, 1, 6, 6016, 12), (617, .lastore, 1, 0, 0, 0, 0), (618, .aload_n 0, 1, 0, 0, 0, 0), (619, .getfield 34, 3, 12, 9, 6039, 5), (622, .bipush 11, 2, 0, 0, 0, 0), (624, .bipush 116, 2, 0, 0, 0, 0), (626, .bipush 104, 2, 0, 0, 0, 0), (628, .bipush 101, 2, 0, 0, 0, 0), (630, .bipush 110, 2, 0, 0, 0, 0), (632, .iconst 0, 1, 0, 0, 0, 0), (633, .iconst 0, 1, 0, 0, 0, 0), (634, .iconst 0, 1, 0, 0, 0, 0), (635, .invokestatic 162, 3, 1, 6, 6016, 12), (638, .lastore, 1, 0, 0, 0, 0), (639, .aload_n 0, 1, 0, 0, 0, 0)]
def tC0_20 : List eN := [(640, .getfield 34, 3, 12, 9, 6039, 5), (643, .bipush 12, 2, 0, 0, 0, 0), (645, .bipush 101, 2, 0, 0, 0, 0), (647, .bipush 108, 2, 0, 0, 0, 0), (649, .bipush 115, 2, 0, 0, 0, 0), (651, .bipush 101, 2, 0, 0, 0, 0), (653, .iconst 0, 1, 0, 0, 0, 0), (654, .iconst 0, 1, 0, 0, 0, 0), (655, .iconst 0, 1, 0, 0, 0, 0), (656, .invokestatic 162, 3, 1, 6, 6016, 12), (659, .lastore, 1, 0, 0, 0, 0), (660, .aload_n 0, 1, 0, 0, 0, 0), (661, .getfield 34, 3, 12, 9, 6039, 5), (664, .bipush 13, 2, 0, 0, 0, 0), (666, .bipush 108, 2, 0, 0, 0, 0), (668, .bipush 111, 2, 0, 0, 0, 0), (670, .bipush 97, 2, 0, 0, 0, 0)]
def tC0_21 : List eN := [(672, .bipush 100, 2, 0, 0, 0, 0), (674, .iconst 0, 1, 0, 0, 0, 0), (675, .iconst 0, 1, 0, 0, 0, 0), (676, .iconst 0, 1, 0, 0, 0, 0), (677, .invokestatic 162, 3, 1, 6, 6016, 12), (680, .lastore, 1, 0, 0, 0, 0), (681, .aload_n 0, 1, 0, 0, 0, 0), (682, .getfield 34, 3, 12, 9, 6039, 5), (685, .bipush 14, 2, 0, 0, 0, 0), (687, .bipush 114, 2, 0, 0, 0, 0), (689, .bipush 97, 2, 0, 0, 0, 0), (691, .bipush 116, 2, 0, 0, 0, 0), (693, .bipush 105, 2, 0, 0, 0, 0), (695, .bipush 110, 2, 0, 0, 0, 0), (697, .bipush 103, 2, 0, 0, 0, 0), (699, .iconst 0, 1, 0, 0, 0, 0), (700, .invokestatic 162, 3, 1, 6, 6016, 12), (703, .lastore, 1, 0, 0, 0, 0)]
def tC0_22 : List eN := [(704, .aload_n 0, 1, 0, 0, 0, 0), (705, .getfield 34, 3, 12, 9, 6039, 5), (708, .bipush 15, 2, 0, 0, 0, 0), (710, .bipush 97, 2, 0, 0, 0, 0), (712, .bipush 103, 2, 0, 0, 0, 0), (714, .bipush 101, 2, 0, 0, 0, 0), (716, .iconst 0, 1, 0, 0, 0, 0), (717, .iconst 0, 1, 0, 0, 0, 0), (718, .iconst 0, 1, 0, 0, 0, 0), (719, .iconst 0, 1, 0, 0, 0, 0), (720, .invokestatic 162, 3, 1, 6, 6016, 12), (723, .lastore, 1, 0, 0, 0, 0), (724, .aload_n 0, 1, 0, 0, 0, 0), (725, .getfield 34, 3, 12, 9, 6039, 5), (728, .bipush 16, 2, 0, 0, 0, 0), (730, .bipush 104, 2, 0, 0, 0, 0), (732, .bipush 111, 2, 0, 0, 0, 0), (734, .bipush 117, 2, 0, 0, 0, 0)]
def tC0_23 : List eN := [(736, .bipush 114, 2, 0, 0, 0, 0), (738, .iconst 0, 1, 0, 0, 0, 0), (739, .iconst 0, 1, 0, 0, 0, 0), (740, .iconst 0, 1, 0, 0, 0, 0), (741, .invokestatic 162, 3, 1, 6, 6016, 12), (744, .lastore, 1, 0, 0, 0, 0), (745, .aload_n 0, 1, 0, 0, 0, 0), (746, .getfield 34, 3, 12, 9, 6039, 5), (749, .bipush 17, 2, 0, 0, 0, 0), (751, .bipush 100, 2, 0, 0, 0, 0), (753, .bipush 97, 2, 0, 0, 0, 0), (755, .bipush 121, 2, 0, 0, 0, 0), (757, .iconst 0, 1, 0, 0, 0, 0), (758, .iconst 0, 1, 0, 0, 0, 0), (759, .iconst 0, 1, 0, 0, 0, 0), (760, .iconst 0, 1, 0, 0, 0, 0), (761, .invokestatic 162, 3, 1, 6, 6016, 12), (764, .lastore, 1, 0, 0, 0, 0), (765, .aload_n 0, 1, 0, 0, 0, 0), (766, .getfield 34, 3, 12, 9, 6039, 5)]
def tC0_24 : List eN := [(769, .bipush 18, 2, 0, 0, 0, 0), (771, .bipush 97, 2, 0, 0, 0, 0), (773, .bipush 109, 2, 0, 0, 0, 0), (775, .bipush 112, 2, 0, 0, 0, 0), (777, .bipush 115, 2, 0, 0, 0, 0), (779, .iconst 0, 1, 0, 0, 0, 0), (780, .iconst 0, 1, 0, 0, 0, 0), (781, .iconst 0, 1, 0, 0, 0, 0), (782, .invokestatic 162, 3, 1, 6, 6016, 12), (785, .lastore, 1, 0, 0, 0, 0), (786, .aload_n 0, 1, 0, 0, 0, 0), (787, .getfield 34, 3, 12, 9, 6039, 5), (790, .bipush 19, 2, 0, 0, 0, 0), (792, .bipush 116, 2, 0, 0, 0, 0), (794, .bipush 101, 2, 0, 0, 0, 0), (796, .bipush 109, 2, 0, 0, 0, 0), (798, .bipush 112, 2, 0, 0, 0, 0)]
def tC0_25 : List eN := [(800, .bipush 101, 2, 0, 0, 0, 0), (802, .bipush 114, 2, 0, 0, 0, 0), (804, .iconst 0, 1, 0, 0, 0, 0), (805, .invokestatic 162, 3, 1, 6, 6016, 12), (808, .lastore, 1, 0, 0, 0, 0), (809, .aload_n 0, 1, 0, 0, 0, 0), (810, .getfield 34, 3, 12, 9, 6039, 5), (813, .bipush 20, 2, 0, 0, 0, 0), (815, .bipush 100, 2, 0, 0, 0, 0), (817, .bipush 97, 2, 0, 0, 0, 0), (819, .bipush 114, 2, 0, 0, 0, 0), (821, .bipush 107, 2, 0, 0, 0, 0), (823, .iconst 0, 1, 0, 0, 0, 0), (824, .iconst 0, 1, 0, 0, 0, 0), (825, .iconst 0, 1, 0, 0, 0, 0), (826, .invokestatic 162, 3, 1, 6, 6016, 12), (829, .lastore, 1, 0, 0, 0, 0), (830, .aload_n 0, 1, 0, 0, 0, 0), (831, .getfield 34, 3, 12, 9, 6039, 5)]
def tC0_26 : List eN := [(834, .bipush 21, 2, 0, 0, 0, 0), (836, .bipush 119, 2, 0, 0, 0, 0), (838, .bipush 104, 2, 0, 0, 0, 0), (840, .bipush 105, 2, 0, 0, 0, 0), (842, .bipush 99, 2, 0, 0, 0, 0), (844, .bipush 104, 2, 0, 0, 0, 0), (846, .iconst 0, 1, 0, 0, 0, 0), (847, .iconst 0, 1, 0, 0, 0, 0), (848, .invokestatic 162, 3, 1, 6, 6016, 12), (851, .lastore, 1, 0, 0, 0, 0), (852, .aload_n 0, 1, 0, 0, 0, 0), (853, .invokevirtual 166, 3, 0, 19, 6023, 12), (856, .aload_n 0, 1, 0, 0, 0, 0), (857, .invokevirtual 169, 3, 0, 20, 6027, 12), (860, .return_, 1, 0, 0, 0, 0)]
def tC0 : List (List eN) := [tC0_0, tC0_1, tC0_2, tC0_3, tC0_4, tC0_5, tC0_6, tC0_7, tC0_8, tC0_9, tC0_10, tC0_11, tC0_12, tC0_13, tC0_14, tC0_15, tC0_16, tC0_17, tC0_18, tC0_19, tC0_20, tC0_21, tC0_22, tC0_23, tC0_24, tC0_25, tC0_26]
def tM0 : eM := (tC0, 1, 46, 11962, 0, 0)
def tY0 : eY := (⟨"FuseTreatyModel", "<init>", "()V"⟩, prog_14_method_2_code, none)
def tC1_0 : List eN := [(0, .aload_n 0, 1, 0, 0, 0, 0), (1, .getfield 172, 3, 12, 2, 6032, 0), (4, .bipush 20, 2, 0, 0, 0, 0), (6, .iadd, 1, 0, 0, 0, 0), (7, .sipush 2000, 3, 0, 0, 0, 0), (10, .if_icmp .le 5, 3, 15, 0, 0, 0), (15, .aload_n 0, 1, 0, 0, 0, 0), (16, .iload_n 1, 1, 0, 0, 0, 0), (17, .invokevirtual 175, 3, 0, 2, 7002, 12), (20, .aload_n 0, 1, 0, 0, 0, 0), (21, .iload_n 2, 1, 0, 0, 0, 0), (22, .invokevirtual 175, 3, 0, 2, 7002, 12), (25, .aload_n 0, 1, 0, 0, 0, 0), (26, .iload_n 3, 1, 0, 0, 0, 0), (27, .invokevirtual 175, 3, 0, 2, 7002, 12), (30, .aload_n 0, 1, 0, 0, 0, 0), (31, .iload 4, 2, 0, 0, 0, 0)]
def tC1_1 : List eN := [(33, .invokevirtual 175, 3, 0, 2, 7002, 12), (36, .aload_n 0, 1, 0, 0, 0, 0), (37, .iload 5, 2, 0, 0, 0, 0), (39, .invokevirtual 175, 3, 0, 2, 7002, 12), (42, .aload_n 0, 1, 0, 0, 0, 0), (43, .getfield 172, 3, 12, 2, 6032, 0), (46, .ireturn, 1, 0, 0, 0, 0)]
def tC1 : List (List eN) := [tC1_0, tC1_1]
def tM1 : eM := (tC1, 6, 0, 0, 1, 5)
def tY1 : eY := (⟨"FuseTreatyModel", "feed", "(IIIII)I"⟩, prog_14_method_3_code, (some .int))
def tC2_0 : List eN := [(0, .bipush 24, 2, 0, 0, 0, 0), (2, .istore_n 2, 1, 0, 0, 0, 0), (3, .iload_n 2, 1, 0, 0, 0, 0), (4, .ifCond .lt 32, 3, 36, 0, 0, 0), (7, .aload_n 0, 1, 0, 0, 0, 0), (8, .getfield 13, 3, 12, 1, 6031, 5), (11, .aload_n 0, 1, 0, 0, 0, 0), (12, .getfield 172, 3, 12, 2, 6032, 0), (15, .iload_n 1, 1, 0, 0, 0, 0), (16, .iload_n 2, 1, 0, 0, 0, 0), (17, .ishr, 1, 0, 0, 0, 0), (18, .i2b, 1, 0, 0, 0, 0), (19, .bastore, 1, 0, 0, 0, 0), (20, .aload_n 0, 1, 0, 0, 0, 0), (21, .dup, 1, 0, 0, 0, 0), (22, .getfield 172, 3, 12, 2, 6032, 0), (25, .iconst 1, 1, 0, 0, 0, 0), (26, .iadd, 1, 0, 0, 0, 0), (27, .putfield 172, 3, 12, 2, 6032, 0), (30, .iinc 2 (-8), 3, 0, 0, 0, 0)]
def tC2_1 : List eN := [(33, .goto (-30), 3, 3, 0, 0, 0), (36, .return_, 1, 0, 0, 0, 0)]
def tC2 : List (List eN) := [tC2_0, tC2_1]
def tM2 : eM := (tC2, 3, 0, 0, 0, 1)
def tY2 : eY := (⟨"FuseTreatyModel", "put", "(I)V"⟩, prog_14_method_4_code, none)
def tC3_0 : List eN := [(0, .iload_n 1, 1, 0, 0, 0, 0), (1, .ifCond .lt 11, 3, 12, 0, 0, 0), (4, .iload_n 1, 1, 0, 0, 0, 0), (5, .aload_n 0, 1, 0, 0, 0, 0), (6, .getfield 172, 3, 12, 2, 6032, 0), (9, .if_icmp .le 5, 3, 14, 0, 0, 0), (12, .iconst (-1), 1, 0, 0, 0, 0), (13, .ireturn, 1, 0, 0, 0, 0), (14, .aload_n 0, 1, 0, 0, 0, 0), (15, .dup, 1, 0, 0, 0, 0), (16, .getfield 172, 3, 12, 2, 6032, 0), (19, .iload_n 1, 1, 0, 0, 0, 0), (20, .isub, 1, 0, 0, 0, 0), (21, .putfield 172, 3, 12, 2, 6032, 0), (24, .aload_n 0, 1, 0, 0, 0, 0), (25, .getfield 172, 3, 12, 2, 6032, 0), (28, .ireturn, 1, 0, 0, 0, 0)]
def tC3 : List (List eN) := [tC3_0]
def tM3 : eM := (tC3, 2, 0, 0, 1, 1)
def tY3 : eY := (⟨"FuseTreatyModel", "back", "(I)I"⟩, prog_14_method_5_code, (some .int))
def tC4_0 : List eN := [(0, .iload_n 1, 1, 0, 0, 0, 0), (1, .aload_n 0, 1, 0, 0, 0, 0), (2, .getfield 178, 3, 12, 4, 6034, 0), (5, .if_icmp .ge 16, 3, 21, 0, 0, 0), (21, .iconst 0, 1, 0, 0, 0, 0), (22, .ireturn, 1, 0, 0, 0, 0)]
def tC4 : List (List eN) := [tC4_0]
def tM4 : eM := (tC4, 2, 0, 0, 1, 1)
def tY4 : eY := (⟨"FuseTreatyModel", "byteAt", "(I)I"⟩, prog_14_method_6_code, (some .int))
def tC5_0 : List eN := [(0, .iload_n 2, 1, 0, 0, 0, 0), (1, .ifCond .ne 7, 3, 8, 0, 0, 0), (4, .lload_n 0, 1, 0, 0, 0, 0), (5, .goto 16, 3, 21, 0, 0, 0), (8, .ldc2_w 181, 3, 27, 0, 6022, 0), (11, .lload_n 0, 1, 0, 0, 0, 0), (12, .lmul, 1, 0, 0, 0, 0), (13, .iload_n 2, 1, 0, 0, 0, 0), (14, .bipush 97, 2, 0, 0, 0, 0), (16, .isub, 1, 0, 0, 0, 0), (17, .iconst 1, 1, 0, 0, 0, 0), (18, .iadd, 1, 0, 0, 0, 0), (19, .i2l, 1, 0, 0, 0, 0), (20, .ladd, 1, 0, 0, 0, 0), (21, .lreturn, 1, 0, 0, 0, 0)]
def tC5 : List (List eN) := [tC5_0]
def tM5 : eM := (tC5, 3, 0, 0, 3, 2)
def tY5 : eY := (⟨"FuseTreatyModel", "appends", "(JI)J"⟩, prog_14_method_9_code, (some .long))
def tC6_0 : List eN := [(0, .lconst 0, 1, 0, 0, 0, 0), (1, .iload_n 0, 1, 0, 0, 0, 0), (2, .invokestatic 183, 3, 1, 5, 6019, 12), (5, .iload_n 1, 1, 0, 0, 0, 0), (6, .invokestatic 183, 3, 1, 5, 6019, 12), (9, .iload_n 2, 1, 0, 0, 0, 0), (10, .invokestatic 183, 3, 1, 5, 6019, 12), (13, .iload_n 3, 1, 0, 0, 0, 0), (14, .invokestatic 183, 3, 1, 5, 6019, 12), (17, .iload 4, 2, 0, 0, 0, 0), (19, .invokestatic 183, 3, 1, 5, 6019, 12), (22, .iload 5, 2, 0, 0, 0, 0), (24, .invokestatic 183, 3, 1, 5, 6019, 12), (27, .iload 6, 2, 0, 0, 0, 0), (29, .invokestatic 183, 3, 1, 5, 6019, 12)]
def tC6_1 : List eN := [(32, .lreturn, 1, 0, 0, 0, 0)]
def tC6 : List (List eN) := [tC6_0, tC6_1]
def tM6 : eM := (tC6, 7, 0, 0, 3, 7)
def tY6 : eY := (⟨"FuseTreatyModel", "word", "(IIIIIII)J"⟩, prog_14_method_10_code, (some .long))
def tC7_0 : List eN := [(0, .aload_n 0, 1, 0, 0, 0, 0), (1, .getfield 20, 3, 12, 5, 6035, 5), (4, .aload_n 0, 1, 0, 0, 0, 0), (5, .getfield 187, 3, 12, 10, 6040, 0), (8, .iload_n 1, 1, 0, 0, 0, 0), (9, .iastore, 1, 0, 0, 0, 0), (10, .aload_n 0, 1, 0, 0, 0, 0), (11, .getfield 24, 3, 12, 6, 6036, 5), (14, .aload_n 0, 1, 0, 0, 0, 0), (15, .getfield 187, 3, 12, 10, 6040, 0), (18, .iload_n 2, 1, 0, 0, 0, 0), (19, .iastore, 1, 0, 0, 0, 0), (20, .aload_n 0, 1, 0, 0, 0, 0), (21, .getfield 27, 3, 12, 7, 6037, 5), (24, .aload_n 0, 1, 0, 0, 0, 0), (25, .getfield 187, 3, 12, 10, 6040, 0), (28, .iload_n 3, 1, 0, 0, 0, 0), (29, .iastore, 1, 0, 0, 0, 0), (30, .aload_n 0, 1, 0, 0, 0, 0), (31, .getfield 30, 3, 12, 8, 6038, 5)]
def tC7_1 : List eN := [(34, .aload_n 0, 1, 0, 0, 0, 0), (35, .getfield 187, 3, 12, 10, 6040, 0), (38, .lload 4, 2, 0, 0, 0, 0), (40, .lastore, 1, 0, 0, 0, 0), (41, .aload_n 0, 1, 0, 0, 0, 0), (42, .dup, 1, 0, 0, 0, 0), (43, .getfield 187, 3, 12, 10, 6040, 0), (46, .iconst 1, 1, 0, 0, 0, 0), (47, .iadd, 1, 0, 0, 0, 0), (48, .putfield 187, 3, 12, 10, 6040, 0), (51, .return_, 1, 0, 0, 0, 0)]
def tC7 : List (List eN) := [tC7_0, tC7_1]
def tM7 : eM := (tC7, 6, 0, 0, 0, 4)
def tY7 : eY := (⟨"FuseTreatyModel", "token", "(IIIJ)V"⟩, prog_14_method_11_code, none)
def tC8_0 : List eN := [(0, .aload_n 0, 1, 0, 0, 0, 0), (1, .iconst 0, 1, 0, 0, 0, 0), (2, .putfield 187, 3, 12, 10, 6040, 0), (5, .iconst 0, 1, 0, 0, 0, 0), (6, .istore_n 1, 1, 0, 0, 0, 0), (7, .aload_n 0, 1, 0, 0, 0, 0), (8, .getfield 187, 3, 12, 10, 6040, 0), (11, .sipush 400, 3, 0, 0, 0, 0), (14, .if_icmp .gt 280, 3, 294, 0, 0, 0), (17, .aload_n 0, 1, 0, 0, 0, 0), (18, .iload_n 1, 1, 0, 0, 0, 0), (19, .invokevirtual 190, 3, 0, 4, 7018, 12), (22, .istore_n 2, 1, 0, 0, 0, 0), (23, .iload_n 1, 1, 0, 0, 0, 0), (24, .aload_n 0, 1, 0, 0, 0, 0), (25, .getfield 178, 3, 12, 4, 6034, 0), (28, .if_icmp .lt 15, 3, 43, 0, 0, 0), (31, .aload_n 0, 1, 0, 0, 0, 0)]
def tC8_1 : List eN := [(32, .iconst 0, 1, 0, 0, 0, 0), (33, .aload_n 0, 1, 0, 0, 0, 0), (34, .getfield 178, 3, 12, 4, 6034, 0), (37, .iconst 0, 1, 0, 0, 0, 0), (38, .lconst 0, 1, 0, 0, 0, 0), (39, .invokevirtual 194, 3, 0, 7, 7022, 12), (42, .return_, 1, 0, 0, 0, 0)]
def tC8 : List (List eN) := [tC8_0, tC8_1]
def tM8 : eM := (tC8, 8, 0, 0, 0, 0)
def tY8 : eY := (⟨"FuseTreatyModel", "cutsUp", "()V"⟩, prog_14_method_12_code, none)
def tC9_0 : List eN := [(0, .aload_n 0, 1, 0, 0, 0, 0), (1, .getfield 209, 3, 12, 13, 6043, 0), (4, .ifCond .ne 20, 3, 24, 0, 0, 0), (7, .aload_n 0, 1, 0, 0, 0, 0), (8, .getfield 20, 3, 12, 5, 6035, 5), (11, .aload_n 0, 1, 0, 0, 0, 0), (12, .getfield 212, 3, 12, 11, 6041, 0), (15, .iaload, 1, 0, 0, 0, 0), (16, .iload_n 1, 1, 0, 0, 0, 0), (17, .if_icmp .ne 7, 3, 24, 0, 0, 0), (20, .iconst 1, 1, 0, 0, 0, 0), (21, .goto 4, 3, 25, 0, 0, 0), (25, .ireturn, 1, 0, 0, 0, 0)]
def tC9 : List (List eN) := [tC9_0]
def tM9 : eM := (tC9, 2, 0, 0, 2, 1)
def tY9 : eY := (⟨"FuseTreatyModel", "is", "(I)Z"⟩, prog_14_method_14_code, (some .boolean))
def tC10_0 : List eN := [(0, .aload_n 0, 1, 0, 0, 0, 0), (1, .getfield 46, 3, 12, 23, 6053, 5), (4, .iload_n 1, 1, 0, 0, 0, 0), (5, .iconst 0, 1, 0, 0, 0, 0), (6, .iastore, 1, 0, 0, 0, 0), (7, .aload_n 0, 1, 0, 0, 0, 0), (8, .getfield 52, 3, 12, 25, 6055, 5), (11, .iload_n 1, 1, 0, 0, 0, 0), (12, .iconst 0, 1, 0, 0, 0, 0), (13, .iastore, 1, 0, 0, 0, 0), (14, .aload_n 0, 1, 0, 0, 0, 0), (15, .getfield 64, 3, 12, 29, 6059, 5), (18, .iload_n 1, 1, 0, 0, 0, 0), (19, .iconst 0, 1, 0, 0, 0, 0), (20, .iastore, 1, 0, 0, 0, 0), (21, .aload_n 0, 1, 0, 0, 0, 0), (22, .getfield 79, 3, 12, 34, 6064, 5), (25, .iload_n 1, 1, 0, 0, 0, 0), (26, .iconst 0, 1, 0, 0, 0, 0), (27, .iastore, 1, 0, 0, 0, 0), (28, .aload_n 0, 1, 0, 0, 0, 0), (29, .getfield 82, 3, 12, 35, 6065, 5)]
def tC10_1 : List eN := [(32, .iload_n 1, 1, 0, 0, 0, 0), (33, .iconst 0, 1, 0, 0, 0, 0), (34, .iastore, 1, 0, 0, 0, 0), (35, .aload_n 0, 1, 0, 0, 0, 0), (36, .getfield 85, 3, 12, 36, 6066, 5), (39, .iload_n 1, 1, 0, 0, 0, 0), (40, .bipush 100, 2, 0, 0, 0, 0), (42, .iastore, 1, 0, 0, 0, 0), (43, .aload_n 0, 1, 0, 0, 0, 0), (44, .getfield 88, 3, 12, 37, 6067, 5), (47, .iload_n 1, 1, 0, 0, 0, 0), (48, .iconst 0, 1, 0, 0, 0, 0), (49, .iastore, 1, 0, 0, 0, 0), (50, .iconst 0, 1, 0, 0, 0, 0), (51, .istore_n 2, 1, 0, 0, 0, 0), (52, .iload_n 2, 1, 0, 0, 0, 0), (53, .iconst 4, 1, 0, 0, 0, 0), (54, .if_icmp .ge 31, 3, 85, 0, 0, 0), (57, .aload_n 0, 1, 0, 0, 0, 0), (58, .getfield 91, 3, 12, 38, 6068, 5), (61, .iconst 4, 1, 0, 0, 0, 0), (62, .iload_n 1, 1, 0, 0, 0, 0), (63, .imul, 1, 0, 0, 0, 0)]
def tC10_2 : List eN := [(64, .iload_n 2, 1, 0, 0, 0, 0), (65, .iadd, 1, 0, 0, 0, 0), (66, .iconst 0, 1, 0, 0, 0, 0), (67, .iastore, 1, 0, 0, 0, 0), (68, .aload_n 0, 1, 0, 0, 0, 0), (69, .getfield 94, 3, 12, 39, 6069, 5), (72, .iconst 4, 1, 0, 0, 0, 0), (73, .iload_n 1, 1, 0, 0, 0, 0), (74, .imul, 1, 0, 0, 0, 0), (75, .iload_n 2, 1, 0, 0, 0, 0), (76, .iadd, 1, 0, 0, 0, 0), (77, .iconst 0, 1, 0, 0, 0, 0), (78, .iastore, 1, 0, 0, 0, 0), (79, .iinc 2 1, 3, 0, 0, 0, 0), (82, .goto (-30), 3, 52, 0, 0, 0), (85, .return_, 1, 0, 0, 0, 0)]
def tC10 : List (List eN) := [tC10_0, tC10_1, tC10_2]
def tM10 : eM := (tC10, 3, 0, 0, 0, 1)
def tY10 : eY := (⟨"FuseTreatyModel", "plain", "(I)V"⟩, prog_14_method_19_code, none)
def tC11_0 : List eN := [(0, .aload_n 0, 1, 0, 0, 0, 0), (1, .aload_n 0, 1, 0, 0, 0, 0), (2, .getfield 172, 3, 12, 2, 6032, 0), (5, .putfield 178, 3, 12, 4, 6034, 0), (8, .iconst 0, 1, 0, 0, 0, 0), (9, .istore_n 1, 1, 0, 0, 0, 0), (10, .iload_n 1, 1, 0, 0, 0, 0), (11, .aload_n 0, 1, 0, 0, 0, 0), (12, .getfield 178, 3, 12, 4, 6034, 0), (15, .if_icmp .ge 21, 3, 36, 0, 0, 0)]
def tC11_1 : List eN := [(36, .aload_n 0, 1, 0, 0, 0, 0), (37, .iconst 0, 1, 0, 0, 0, 0), (38, .putfield 172, 3, 12, 2, 6032, 0), (41, .aload_n 0, 1, 0, 0, 0, 0), (42, .invokevirtual 233, 3, 0, 8, 7014, 12), (45, .aload_n 0, 1, 0, 0, 0, 0), (46, .iconst 0, 1, 0, 0, 0, 0), (47, .putfield 212, 3, 12, 11, 6041, 0), (50, .aload_n 0, 1, 0, 0, 0, 0), (51, .iconst 0, 1, 0, 0, 0, 0), (52, .putfield 236, 3, 12, 12, 6042, 0), (55, .aload_n 0, 1, 0, 0, 0, 0), (56, .iconst 0, 1, 0, 0, 0, 0), (57, .putfield 209, 3, 12, 13, 6043, 0), (60, .aload_n 0, 1, 0, 0, 0, 0), (61, .iconst 0, 1, 0, 0, 0, 0), (62, .putfield 218, 3, 12, 15, 6045, 0)]
def tC11_2 : List eN := [(65, .aload_n 0, 1, 0, 0, 0, 0), (66, .iconst 1, 1, 0, 0, 0, 0), (67, .aload_n 0, 1, 0, 0, 0, 0), (68, .getfield 239, 3, 12, 18, 6048, 0), (71, .isub, 1, 0, 0, 0, 0), (72, .putfield 242, 3, 12, 19, 6049, 0), (75, .aload_n 0, 1, 0, 0, 0, 0), (76, .iconst 0, 1, 0, 0, 0, 0), (77, .putfield 245, 3, 12, 20, 6050, 0), (80, .aload_n 0, 1, 0, 0, 0, 0), (81, .aload_n 0, 1, 0, 0, 0, 0), (82, .getfield 242, 3, 12, 19, 6049, 0), (85, .invokevirtual 158, 3, 0, 10, 6012, 12), (88, .aload_n 0, 1, 0, 0, 0, 0), (89, .sipush 130, 3, 0, 0, 0, 0), (92, .aload_n 0, 1, 0, 0, 0, 0), (93, .getfield 242, 3, 12, 19, 6049, 0)]
def tC11_3 : List eN := [(96, .imul, 1, 0, 0, 0, 0), (97, .putfield 248, 3, 12, 40, 6070, 0), (100, .aload_n 0, 1, 0, 0, 0, 0), (101, .sipush 420, 3, 0, 0, 0, 0), (104, .aload_n 0, 1, 0, 0, 0, 0), (105, .getfield 242, 3, 12, 19, 6049, 0), (108, .imul, 1, 0, 0, 0, 0), (109, .putfield 251, 3, 12, 46, 6076, 0), (112, .aload_n 0, 1, 0, 0, 0, 0), (113, .getfield 209, 3, 12, 13, 6043, 0), (116, .ifCond .ne 18, 3, 134, 0, 0, 0), (119, .aload_n 0, 1, 0, 0, 0, 0), (120, .iconst 0, 1, 0, 0, 0, 0), (121, .invokevirtual 227, 3, 0, 9, 7036, 12), (124, .ifCond .ne 10, 3, 134, 0, 0, 0)]
def tC11_4 : List eN := [(134, .aload_n 0, 1, 0, 0, 0, 0), (135, .aload_n 0, 1, 0, 0, 0, 0), (136, .getfield 209, 3, 12, 13, 6043, 0), (139, .ifCond .le 10, 3, 149, 0, 0, 0), (149, .aload_n 0, 1, 0, 0, 0, 0), (150, .getfield 218, 3, 12, 15, 6045, 0), (153, .ifCond .le 10, 3, 163, 0, 0, 0)]
def tC11_5 : List eN := [(163, .iconst (-1), 1, 0, 0, 0, 0), (164, .putfield 37, 3, 12, 17, 6047, 0), (167, .aload_n 0, 1, 0, 0, 0, 0), (168, .getfield 209, 3, 12, 13, 6043, 0), (171, .ifCond .le 8, 3, 179, 0, 0, 0), (179, .aload_n 0, 1, 0, 0, 0, 0), (180, .getfield 218, 3, 12, 15, 6045, 0), (183, .ifCond .le 8, 3, 191, 0, 0, 0), (191, .aload_n 0, 1, 0, 0, 0, 0)]
def tC11_6 : List eN := [(192, .aload_n 0, 1, 0, 0, 0, 0), (193, .getfield 242, 3, 12, 19, 6049, 0), (196, .putfield 239, 3, 12, 18, 6048, 0), (199, .aload_n 0, 1, 0, 0, 0, 0), (200, .invokevirtual 166, 3, 0, 19, 6023, 12), (203, .aload_n 0, 1, 0, 0, 0, 0), (204, .invokevirtual 169, 3, 0, 20, 6027, 12), (207, .aload_n 0, 1, 0, 0, 0, 0), (208, .iconst 0, 1, 0, 0, 0, 0), (209, .putfield 257, 3, 12, 61, 6091, 0), (212, .aload_n 0, 1, 0, 0, 0, 0), (213, .iconst 0, 1, 0, 0, 0, 0), (214, .putfield 260, 3, 12, 63, 6093, 0), (217, .iconst 0, 1, 0, 0, 0, 0), (218, .istore_n 1, 1, 0, 0, 0, 0), (219, .iload_n 1, 1, 0, 0, 0, 0), (220, .iconst 3, 1, 0, 0, 0, 0), (221, .if_icmp .ge 16, 3, 237, 0, 0, 0)]
def tC11_7 : List eN := [(224, .aload_n 0, 1, 0, 0, 0, 0), (225, .getfield 152, 3, 12, 67, 6097, 5), (228, .iload_n 1, 1, 0, 0, 0, 0), (229, .iconst 0, 1, 0, 0, 0, 0), (230, .bastore, 1, 0, 0, 0, 0), (231, .iinc 1 1, 3, 0, 0, 0, 0), (234, .goto (-15), 3, 219, 0, 0, 0), (237, .iconst 0, 1, 0, 0, 0, 0), (238, .ireturn, 1, 0, 0, 0, 0)]
def tC11 : List (List eN) := [tC11_0, tC11_1, tC11_2, tC11_3, tC11_4, tC11_5, tC11_6, tC11_7]
def tM11 : eM := (tC11, 2, 0, 0, 1, 0)
def tY11 : eY := (⟨"FuseTreatyModel", "read", "()I"⟩, prog_14_method_20_code, (some .int))
def tC12_0 : List eN := [(0, .aload_n 0, 1, 0, 0, 0, 0), (1, .getfield 37, 3, 12, 17, 6047, 0), (4, .ireturn, 1, 0, 0, 0, 0)]
def tC12 : List (List eN) := [tC12_0]
def tM12 : eM := (tC12, 1, 0, 0, 1, 0)
def tY12 : eY := (⟨"FuseTreatyModel", "place", "()I"⟩, prog_14_method_21_code, (some .int))
def tC13_0 : List eN := [(0, .iload_n 0, 1, 0, 0, 0, 0), (1, .iload_n 1, 1, 0, 0, 0, 0), (2, .if_icmp .lt 12, 3, 14, 0, 0, 0), (5, .iload_n 0, 1, 0, 0, 0, 0), (6, .iload_n 2, 1, 0, 0, 0, 0), (7, .if_icmp .gt 7, 3, 14, 0, 0, 0), (10, .iconst 1, 1, 0, 0, 0, 0), (11, .goto 4, 3, 15, 0, 0, 0), (14, .iconst 0, 1, 0, 0, 0, 0), (15, .ireturn, 1, 0, 0, 0, 0)]
def tC13 : List (List eN) := [tC13_0]
def tM13 : eM := (tC13, 3, 0, 0, 2, 3)
def tY13 : eY := (⟨"FuseTreatyModel", "in", "(III)Z"⟩, prog_14_method_38_code, (some .boolean))
def tC14_0 : List eN := [(0, .iload_n 0, 1, 0, 0, 0, 0), (1, .iload_n 1, 1, 0, 0, 0, 0), (2, .if_icmp .ge 7, 3, 9, 0, 0, 0), (9, .iload_n 0, 1, 0, 0, 0, 0), (10, .iload_n 2, 1, 0, 0, 0, 0), (11, .if_icmp .le 7, 3, 18, 0, 0, 0), (18, .iload_n 0, 1, 0, 0, 0, 0), (19, .ireturn, 1, 0, 0, 0, 0)]
def tC14 : List (List eN) := [tC14_0]
def tM14 : eM := (tC14, 3, 0, 0, 1, 3)
def tY14 : eY := (⟨"FuseTreatyModel", "within", "(III)I"⟩, prog_14_method_39_code, (some .int))
def tC15_0 : List eN := [(0, .iconst 0, 1, 0, 0, 0, 0), (1, .istore_n 1, 1, 0, 0, 0, 0), (2, .iconst 0, 1, 0, 0, 0, 0), (3, .istore_n 2, 1, 0, 0, 0, 0), (4, .iload_n 2, 1, 0, 0, 0, 0), (5, .bipush 10, 2, 0, 0, 0, 0), (7, .if_icmp .ge 17, 3, 24, 0, 0, 0), (10, .iload_n 1, 1, 0, 0, 0, 0), (11, .iload_n 0, 1, 0, 0, 0, 0), (12, .iload_n 2, 1, 0, 0, 0, 0), (13, .ishr, 1, 0, 0, 0, 0), (14, .iconst 1, 1, 0, 0, 0, 0), (15, .iand, 1, 0, 0, 0, 0), (16, .iadd, 1, 0, 0, 0, 0), (17, .istore_n 1, 1, 0, 0, 0, 0), (18, .iinc 2 1, 3, 0, 0, 0, 0), (21, .goto (-17), 3, 4, 0, 0, 0), (24, .iload_n 1, 1, 0, 0, 0, 0), (25, .ireturn, 1, 0, 0, 0, 0)]
def tC15 : List (List eN) := [tC15_0]
def tM15 : eM := (tC15, 3, 0, 0, 1, 1)
def tY15 : eY := (⟨"FuseTreatyModel", "bits", "(I)I"⟩, prog_14_method_40_code, (some .int))
def tC16_0 : List eN := [(0, .iload_n 1, 1, 0, 0, 0, 0), (1, .iconst 0, 1, 0, 0, 0, 0), (2, .aload_n 0, 1, 0, 0, 0, 0), (3, .getfield 46, 3, 12, 23, 6053, 5), (6, .aload_n 0, 1, 0, 0, 0, 0), (7, .getfield 239, 3, 12, 18, 6048, 0), (10, .iaload, 1, 0, 0, 0, 0), (11, .iconst 1, 1, 0, 0, 0, 0), (12, .isub, 1, 0, 0, 0, 0), (13, .invokestatic 323, 3, 1, 13, 7128, 12), (16, .ireturn, 1, 0, 0, 0, 0)]
def tC16 : List (List eN) := [tC16_0]
def tM16 : eM := (tC16, 2, 0, 0, 2, 1)
def tY16 : eY := (⟨"FuseTreatyModel", "isFlat", "(I)Z"⟩, prog_14_method_41_code, (some .boolean))
def tC17_0 : List eN := [(0, .iload_n 1, 1, 0, 0, 0, 0), (1, .iconst 0, 1, 0, 0, 0, 0), (2, .aload_n 0, 1, 0, 0, 0, 0), (3, .getfield 52, 3, 12, 25, 6055, 5), (6, .aload_n 0, 1, 0, 0, 0, 0), (7, .getfield 239, 3, 12, 18, 6048, 0), (10, .iaload, 1, 0, 0, 0, 0), (11, .iconst 1, 1, 0, 0, 0, 0), (12, .isub, 1, 0, 0, 0, 0), (13, .invokestatic 323, 3, 1, 13, 7128, 12), (16, .ireturn, 1, 0, 0, 0, 0)]
def tC17 : List (List eN) := [tC17_0]
def tM17 : eM := (tC17, 2, 0, 0, 2, 1)
def tY17 : eY := (⟨"FuseTreatyModel", "isWire", "(I)Z"⟩, prog_14_method_42_code, (some .boolean))
def tC18_0 : List eN := [(0, .iload_n 1, 1, 0, 0, 0, 0), (1, .iconst 0, 1, 0, 0, 0, 0), (2, .aload_n 0, 1, 0, 0, 0, 0), (3, .getfield 64, 3, 12, 29, 6059, 5), (6, .aload_n 0, 1, 0, 0, 0, 0), (7, .getfield 239, 3, 12, 18, 6048, 0), (10, .iaload, 1, 0, 0, 0, 0), (11, .iconst 1, 1, 0, 0, 0, 0), (12, .isub, 1, 0, 0, 0, 0), (13, .invokestatic 323, 3, 1, 13, 7128, 12), (16, .ireturn, 1, 0, 0, 0, 0)]
def tC18 : List (List eN) := [tC18_0]
def tM18 : eM := (tC18, 2, 0, 0, 2, 1)
def tY18 : eY := (⟨"FuseTreatyModel", "isUse", "(I)Z"⟩, prog_14_method_43_code, (some .boolean))
def tC19_0 : List eN := [(0, .iconst 0, 1, 0, 0, 0, 0), (1, .istore_n 1, 1, 0, 0, 0, 0), (2, .iload_n 1, 1, 0, 0, 0, 0), (3, .bipush 58, 2, 0, 0, 0, 0), (5, .if_icmp .ge 16, 3, 21, 0, 0, 0), (8, .aload_n 0, 1, 0, 0, 0, 0), (9, .getfield 131, 3, 12, 55, 6085, 5), (12, .iload_n 1, 1, 0, 0, 0, 0), (13, .iconst 0, 1, 0, 0, 0, 0), (14, .iastore, 1, 0, 0, 0, 0), (15, .iinc 1 1, 3, 0, 0, 0, 0), (18, .goto (-16), 3, 2, 0, 0, 0), (21, .iconst 0, 1, 0, 0, 0, 0), (22, .istore_n 1, 1, 0, 0, 0, 0), (23, .iload_n 1, 1, 0, 0, 0, 0), (24, .aload_n 0, 1, 0, 0, 0, 0), (25, .getfield 52, 3, 12, 25, 6055, 5), (28, .aload_n 0, 1, 0, 0, 0, 0), (29, .getfield 239, 3, 12, 18, 6048, 0)]
def tC19_1 : List eN := [(32, .iaload, 1, 0, 0, 0, 0), (33, .if_icmp .ge 29, 3, 62, 0, 0, 0), (62, .iconst 0, 1, 0, 0, 0, 0), (63, .istore_n 1, 1, 0, 0, 0, 0)]
def tC19_2 : List eN := [(64, .iload_n 1, 1, 0, 0, 0, 0), (65, .aload_n 0, 1, 0, 0, 0, 0), (66, .getfield 64, 3, 12, 29, 6059, 5), (69, .aload_n 0, 1, 0, 0, 0, 0), (70, .getfield 239, 3, 12, 18, 6048, 0), (73, .iaload, 1, 0, 0, 0, 0), (74, .if_icmp .ge 19, 3, 93, 0, 0, 0), (93, .aload_n 0, 1, 0, 0, 0, 0), (94, .getfield 131, 3, 12, 55, 6085, 5)]
def tC19_3 : List eN := [(97, .bipush 56, 2, 0, 0, 0, 0), (99, .aload_n 0, 1, 0, 0, 0, 0), (100, .getfield 85, 3, 12, 36, 6066, 5), (103, .aload_n 0, 1, 0, 0, 0, 0), (104, .getfield 239, 3, 12, 18, 6048, 0), (107, .iaload, 1, 0, 0, 0, 0), (108, .iastore, 1, 0, 0, 0, 0), (109, .aload_n 0, 1, 0, 0, 0, 0), (110, .aload_n 0, 1, 0, 0, 0, 0), (111, .getfield 88, 3, 12, 37, 6067, 5), (114, .aload_n 0, 1, 0, 0, 0, 0), (115, .getfield 239, 3, 12, 18, 6048, 0), (118, .iaload, 1, 0, 0, 0, 0), (119, .putfield 327, 3, 12, 56, 6086, 0), (122, .aload_n 0, 1, 0, 0, 0, 0), (123, .iconst 0, 1, 0, 0, 0, 0), (124, .putfield 330, 3, 12, 57, 6087, 2), (127, .return_, 1, 0, 0, 0, 0)]
def tC19 : List (List eN) := [tC19_0, tC19_1, tC19_2, tC19_3]
def tM19 : eM := (tC19, 2, 0, 0, 0, 0)
def tY19 : eY := (⟨"FuseTreatyModel", "begins", "()V"⟩, prog_14_method_44_code, none)
def tC20_0 : List eN := [(0, .iconst 0, 1, 0, 0, 0, 0), (1, .istore_n 1, 1, 0, 0, 0, 0), (2, .iload_n 1, 1, 0, 0, 0, 0), (3, .bipush 58, 2, 0, 0, 0, 0), (5, .if_icmp .ge 21, 3, 26, 0, 0, 0), (8, .aload_n 0, 1, 0, 0, 0, 0), (9, .getfield 128, 3, 12, 54, 6084, 5), (12, .iload_n 1, 1, 0, 0, 0, 0), (13, .aload_n 0, 1, 0, 0, 0, 0), (14, .getfield 131, 3, 12, 55, 6085, 5), (17, .iload_n 1, 1, 0, 0, 0, 0), (18, .iaload, 1, 0, 0, 0, 0), (19, .iastore, 1, 0, 0, 0, 0), (20, .iinc 1 1, 3, 0, 0, 0, 0), (23, .goto (-21), 3, 2, 0, 0, 0), (26, .return_, 1, 0, 0, 0, 0)]
def tC20 : List (List eN) := [tC20_0]
def tM20 : eM := (tC20, 2, 0, 0, 0, 0)
def tY20 : eY := (⟨"FuseTreatyModel", "keepsRow", "()V"⟩, prog_14_method_45_code, none)
def tC21_0 : List eN := [(0, .iconst 0, 1, 0, 0, 0, 0), (1, .istore_n 1, 1, 0, 0, 0, 0), (2, .iload_n 1, 1, 0, 0, 0, 0), (3, .bipush 58, 2, 0, 0, 0, 0), (5, .if_icmp .ge 21, 3, 26, 0, 0, 0), (8, .aload_n 0, 1, 0, 0, 0, 0), (9, .getfield 131, 3, 12, 55, 6085, 5), (12, .iload_n 1, 1, 0, 0, 0, 0), (13, .aload_n 0, 1, 0, 0, 0, 0), (14, .getfield 128, 3, 12, 54, 6084, 5), (17, .iload_n 1, 1, 0, 0, 0, 0), (18, .iaload, 1, 0, 0, 0, 0), (19, .iastore, 1, 0, 0, 0, 0), (20, .iinc 1 1, 3, 0, 0, 0, 0), (23, .goto (-21), 3, 2, 0, 0, 0), (26, .aload_n 0, 1, 0, 0, 0, 0), (27, .aload_n 0, 1, 0, 0, 0, 0), (28, .getfield 88, 3, 12, 37, 6067, 5), (31, .aload_n 0, 1, 0, 0, 0, 0)]
def tC21_1 : List eN := [(32, .getfield 239, 3, 12, 18, 6048, 0), (35, .iaload, 1, 0, 0, 0, 0), (36, .putfield 327, 3, 12, 56, 6086, 0), (39, .aload_n 0, 1, 0, 0, 0, 0), (40, .iconst 0, 1, 0, 0, 0, 0), (41, .putfield 330, 3, 12, 57, 6087, 2), (44, .aload_n 0, 1, 0, 0, 0, 0), (45, .invokevirtual 333, 3, 0, 24, 7135, 12), (48, .return_, 1, 0, 0, 0, 0)]
def tC21 : List (List eN) := [tC21_0, tC21_1]
def tM21 : eM := (tC21, 2, 0, 0, 0, 0)
def tY21 : eY := (⟨"FuseTreatyModel", "copies", "()V"⟩, prog_14_method_46_code, none)
def tC22_0 : List eN := [(0, .iload_n 0, 1, 0, 0, 0, 0), (1, .iload_n 1, 1, 0, 0, 0, 0), (2, .ixor, 1, 0, 0, 0, 0), (3, .ldc_w 336, 3, 1103515245, 0, 8028, 0), (6, .imul, 1, 0, 0, 0, 0), (7, .sipush 12345, 3, 0, 0, 0, 0), (10, .iadd, 1, 0, 0, 0, 0), (11, .istore_n 2, 1, 0, 0, 0, 0), (12, .iload_n 2, 1, 0, 0, 0, 0), (13, .iload_n 2, 1, 0, 0, 0, 0), (14, .bipush 15, 2, 0, 0, 0, 0), (16, .iushr, 1, 0, 0, 0, 0), (17, .ixor, 1, 0, 0, 0, 0), (18, .ireturn, 1, 0, 0, 0, 0)]
def tC22 : List (List eN) := [tC22_0]
def tM22 : eM := (tC22, 3, 0, 0, 1, 2)
def tY22 : eY := (⟨"FuseTreatyModel", "mixed", "(II)I"⟩, prog_14_method_47_code, (some .int))
def tC23_0 : List eN := [(0, .aload_n 0, 1, 0, 0, 0, 0), (1, .getfield 327, 3, 12, 56, 6086, 0), (4, .sipush 129, 3, 0, 0, 0, 0), (7, .invokestatic 337, 3, 1, 22, 8025, 12), (10, .iconst 4, 1, 0, 0, 0, 0), (11, .aload_n 0, 1, 0, 0, 0, 0), (12, .getfield 131, 3, 12, 55, 6085, 5), (15, .bipush 55, 2, 0, 0, 0, 0), (17, .iaload, 1, 0, 0, 0, 0), (18, .imul, 1, 0, 0, 0, 0), (19, .invokestatic 337, 3, 1, 22, 8025, 12), (22, .iconst 1, 1, 0, 0, 0, 0), (23, .iushr, 1, 0, 0, 0, 0), (24, .bipush 100, 2, 0, 0, 0, 0), (26, .irem, 1, 0, 0, 0, 0), (27, .aload_n 0, 1, 0, 0, 0, 0), (28, .getfield 79, 3, 12, 34, 6064, 5), (31, .aload_n 0, 1, 0, 0, 0, 0)]
def tC23_1 : List eN := [(32, .getfield 239, 3, 12, 18, 6048, 0), (35, .iaload, 1, 0, 0, 0, 0), (36, .if_icmp .ge 7, 3, 43, 0, 0, 0), (43, .iconst 0, 1, 0, 0, 0, 0), (44, .ireturn, 1, 0, 0, 0, 0)]
def tC23 : List (List eN) := [tC23_0, tC23_1]
def tM23 : eM := (tC23, 1, 0, 0, 2, 0)
def tY23 : eY := (⟨"FuseTreatyModel", "isSurge", "()Z"⟩, prog_14_method_48_code, (some .boolean))
def tC24_0 : List eN := [(0, .iconst 0, 1, 0, 0, 0, 0), (1, .istore_n 1, 1, 0, 0, 0, 0), (2, .iload_n 1, 1, 0, 0, 0, 0), (3, .bipush 7, 2, 0, 0, 0, 0), (5, .if_icmp .ge 44, 3, 49, 0, 0, 0), (8, .aload_n 0, 1, 0, 0, 0, 0), (9, .getfield 134, 3, 12, 58, 6088, 5), (12, .iload_n 1, 1, 0, 0, 0, 0), (13, .iload_n 1, 1, 0, 0, 0, 0), (14, .ifCond .ne 19, 3, 33, 0, 0, 0), (17, .aload_n 0, 1, 0, 0, 0, 0), (18, .getfield 46, 3, 12, 23, 6053, 5), (21, .aload_n 0, 1, 0, 0, 0, 0), (22, .getfield 239, 3, 12, 18, 6048, 0), (25, .iaload, 1, 0, 0, 0, 0), (26, .ifCond .le 7, 3, 33, 0, 0, 0)]
def tC24_1 : List eN := [(33, .bipush 99, 2, 0, 0, 0, 0), (35, .iastore, 1, 0, 0, 0, 0), (36, .aload_n 0, 1, 0, 0, 0, 0), (37, .getfield 137, 3, 12, 59, 6089, 5), (40, .iload_n 1, 1, 0, 0, 0, 0), (41, .iconst 0, 1, 0, 0, 0, 0), (42, .iastore, 1, 0, 0, 0, 0), (43, .iinc 1 1, 3, 0, 0, 0, 0), (46, .goto (-44), 3, 2, 0, 0, 0), (49, .iconst 1, 1, 0, 0, 0, 0), (50, .istore_n 1, 1, 0, 0, 0, 0), (51, .iload_n 1, 1, 0, 0, 0, 0), (52, .bipush 7, 2, 0, 0, 0, 0), (54, .if_icmp .ge 135, 3, 189, 0, 0, 0), (57, .iconst 0, 1, 0, 0, 0, 0), (58, .istore_n 2, 1, 0, 0, 0, 0), (59, .iload_n 2, 1, 0, 0, 0, 0), (60, .aload_n 0, 1, 0, 0, 0, 0), (61, .getfield 52, 3, 12, 25, 6055, 5)]
def tC24_2 : List eN := [(64, .aload_n 0, 1, 0, 0, 0, 0), (65, .getfield 239, 3, 12, 18, 6048, 0), (68, .iaload, 1, 0, 0, 0, 0), (69, .if_icmp .ge 114, 3, 183, 0, 0, 0)]
def tC24_3 : List eN := []
def tC24_4 : List eN := []
def tC24_5 : List eN := [(183, .iinc 1 1, 3, 0, 0, 0, 0), (186, .goto (-135), 3, 51, 0, 0, 0), (189, .iconst 1, 1, 0, 0, 0, 0), (190, .istore_n 1, 1, 0, 0, 0, 0), (191, .iload_n 1, 1, 0, 0, 0, 0)]
def tC24_6 : List eN := [(192, .bipush 7, 2, 0, 0, 0, 0), (194, .if_icmp .ge 63, 3, 257, 0, 0, 0), (197, .iconst 0, 1, 0, 0, 0, 0), (198, .istore_n 2, 1, 0, 0, 0, 0), (199, .iload_n 2, 1, 0, 0, 0, 0), (200, .bipush 7, 2, 0, 0, 0, 0), (202, .if_icmp .ge 49, 3, 251, 0, 0, 0), (205, .aload_n 0, 1, 0, 0, 0, 0), (206, .getfield 134, 3, 12, 58, 6088, 5), (209, .iload_n 2, 1, 0, 0, 0, 0), (210, .iaload, 1, 0, 0, 0, 0), (211, .iload_n 1, 1, 0, 0, 0, 0), (212, .if_icmp .eq 6, 3, 218, 0, 0, 0), (215, .goto 30, 3, 245, 0, 0, 0)]
def tC24_7 : List eN := [(245, .iinc 2 1, 3, 0, 0, 0, 0), (248, .goto (-49), 3, 199, 0, 0, 0), (251, .iinc 1 1, 3, 0, 0, 0, 0), (254, .goto (-63), 3, 191, 0, 0, 0)]
def tC24_8 : List eN := [(257, .return_, 1, 0, 0, 0, 0)]
def tC24 : List (List eN) := [tC24_0, tC24_1, tC24_2, tC24_3, tC24_4, tC24_5, tC24_6, tC24_7, tC24_8]
def tM24 : eM := (tC24, 5, 0, 0, 0, 0)
def tY24 : eY := (⟨"FuseTreatyModel", "fillsWays", "()V"⟩, prog_14_method_52_code, none)
def tC25_0 : List eN := [(0, .iconst 0, 1, 0, 0, 0, 0), (1, .istore_n 1, 1, 0, 0, 0, 0), (2, .iconst 0, 1, 0, 0, 0, 0), (3, .istore_n 2, 1, 0, 0, 0, 0), (4, .iload_n 2, 1, 0, 0, 0, 0), (5, .aload_n 0, 1, 0, 0, 0, 0), (6, .getfield 46, 3, 12, 23, 6053, 5), (9, .aload_n 0, 1, 0, 0, 0, 0), (10, .getfield 239, 3, 12, 18, 6048, 0), (13, .iaload, 1, 0, 0, 0, 0), (14, .if_icmp .ge 23, 3, 37, 0, 0, 0)]
def tC25_1 : List eN := [(37, .iload_n 1, 1, 0, 0, 0, 0), (38, .ireturn, 1, 0, 0, 0, 0)]
def tC25 : List (List eN) := [tC25_0, tC25_1]
def tM25 : eM := (tC25, 3, 0, 0, 1, 0)
def tY25 : eY := (⟨"FuseTreatyModel", "litBits", "()I"⟩, prog_14_method_54_code, (some .int))
def tC26_0 : List eN := [(0, .iconst 0, 1, 0, 0, 0, 0), (1, .istore_n 2, 1, 0, 0, 0, 0), (2, .iconst 0, 1, 0, 0, 0, 0), (3, .istore_n 3, 1, 0, 0, 0, 0), (4, .iload_n 3, 1, 0, 0, 0, 0), (5, .aload_n 0, 1, 0, 0, 0, 0), (6, .getfield 64, 3, 12, 29, 6059, 5), (9, .aload_n 0, 1, 0, 0, 0, 0), (10, .getfield 239, 3, 12, 18, 6048, 0), (13, .iaload, 1, 0, 0, 0, 0), (14, .if_icmp .ge 75, 3, 89, 0, 0, 0)]
def tC26_1 : List eN := []
def tC26_2 : List eN := [(89, .iload_n 2, 1, 0, 0, 0, 0), (90, .ireturn, 1, 0, 0, 0, 0)]
def tC26 : List (List eN) := [tC26_0, tC26_1, tC26_2]
def tM26 : eM := (tC26, 4, 0, 0, 1, 1)
def tY26 : eY := (⟨"FuseTreatyModel", "onAt", "(I)I"⟩, prog_14_method_57_code, (some .int))
def tC27_0 : List eN := [(0, .aload_n 0, 1, 0, 0, 0, 0), (1, .aload_n 0, 1, 0, 0, 0, 0), (2, .getfield 131, 3, 12, 55, 6085, 5), (5, .bipush 55, 2, 0, 0, 0, 0), (7, .iaload, 1, 0, 0, 0, 0), (8, .bipush 24, 2, 0, 0, 0, 0), (10, .irem, 1, 0, 0, 0, 0), (11, .invokevirtual 358, 3, 0, 26, 7186, 12), (14, .ireturn, 1, 0, 0, 0, 0)]
def tC27 : List (List eN) := [tC27_0]
def tM27 : eM := (tC27, 1, 0, 0, 1, 0)
def tY27 : eY := (⟨"FuseTreatyModel", "onNow", "()I"⟩, prog_14_method_58_code, (some .int))
def tC28_0 : List eN := [(0, .iconst 0, 1, 0, 0, 0, 0), (1, .istore 4, 2, 0, 0, 0, 0), (3, .iconst 0, 1, 0, 0, 0, 0), (4, .istore 5, 2, 0, 0, 0, 0), (6, .iload 5, 2, 0, 0, 0, 0), (8, .aload_n 0, 1, 0, 0, 0, 0), (9, .getfield 52, 3, 12, 25, 6055, 5), (12, .aload_n 0, 1, 0, 0, 0, 0), (13, .getfield 239, 3, 12, 18, 6048, 0), (16, .iaload, 1, 0, 0, 0, 0), (17, .if_icmp .ge 30, 3, 47, 0, 0, 0)]
def tC28_1 : List eN := [(47, .iload 4, 2, 0, 0, 0, 0), (49, .ireturn, 1, 0, 0, 0, 0)]
def tC28 : List (List eN) := [tC28_0, tC28_1]
def tM28 : eM := (tC28, 6, 0, 0, 1, 3)
def tY28 : eY := (⟨"FuseTreatyModel", "goingBits", "(III)I"⟩, prog_14_method_63_code, (some .int))
def tC29_0 : List eN := [(0, .iconst 0, 1, 0, 0, 0, 0), (1, .istore_n 2, 1, 0, 0, 0, 0), (2, .iconst 0, 1, 0, 0, 0, 0), (3, .istore_n 3, 1, 0, 0, 0, 0), (4, .iload_n 3, 1, 0, 0, 0, 0), (5, .aload_n 0, 1, 0, 0, 0, 0), (6, .getfield 64, 3, 12, 29, 6059, 5), (9, .aload_n 0, 1, 0, 0, 0, 0), (10, .getfield 239, 3, 12, 18, 6048, 0), (13, .iaload, 1, 0, 0, 0, 0), (14, .if_icmp .ge 26, 3, 40, 0, 0, 0)]
def tC29_1 : List eN := [(40, .iload_n 2, 1, 0, 0, 0, 0), (41, .ireturn, 1, 0, 0, 0, 0)]
def tC29 : List (List eN) := [tC29_0, tC29_1]
def tM29 : eM := (tC29, 4, 0, 0, 1, 1)
def tY29 : eY := (⟨"FuseTreatyModel", "paysAll", "(I)I"⟩, prog_14_method_67_code, (some .int))
def tC30_0 : List eN := [(0, .iconst 0, 1, 0, 0, 0, 0), (1, .istore_n 1, 1, 0, 0, 0, 0), (2, .iconst 0, 1, 0, 0, 0, 0), (3, .istore_n 2, 1, 0, 0, 0, 0), (4, .iload_n 2, 1, 0, 0, 0, 0), (5, .aload_n 0, 1, 0, 0, 0, 0), (6, .getfield 46, 3, 12, 23, 6053, 5), (9, .aload_n 0, 1, 0, 0, 0, 0), (10, .getfield 239, 3, 12, 18, 6048, 0), (13, .iaload, 1, 0, 0, 0, 0), (14, .if_icmp .ge 25, 3, 39, 0, 0, 0)]
def tC30_1 : List eN := [(39, .iload_n 1, 1, 0, 0, 0, 0), (40, .ireturn, 1, 0, 0, 0, 0)]
def tC30 : List (List eN) := [tC30_0, tC30_1]
def tM30 : eM := (tC30, 3, 0, 0, 1, 0)
def tY30 : eY := (⟨"FuseTreatyModel", "quarrelsAll", "()I"⟩, prog_14_method_68_code, (some .int))
def tC31_0 : List eN := [(0, .aload_n 0, 1, 0, 0, 0, 0), (1, .invokevirtual 389, 3, 0, 27, 7182, 12), (4, .istore_n 1, 1, 0, 0, 0, 0), (5, .aload_n 0, 1, 0, 0, 0, 0), (6, .aload_n 0, 1, 0, 0, 0, 0), (7, .iload_n 1, 1, 0, 0, 0, 0), (8, .aload_n 0, 1, 0, 0, 0, 0), (9, .getfield 131, 3, 12, 55, 6085, 5), (12, .bipush 55, 2, 0, 0, 0, 0), (14, .iaload, 1, 0, 0, 0, 0), (15, .bipush 24, 2, 0, 0, 0, 0), (17, .irem, 1, 0, 0, 0, 0), (18, .aload_n 0, 1, 0, 0, 0, 0), (19, .getfield 330, 3, 12, 57, 6087, 2), (22, .ifCond .ne 22, 3, 44, 0, 0, 0), (25, .aload_n 0, 1, 0, 0, 0, 0), (26, .invokevirtual 392, 3, 0, 23, 8021, 12), (29, .ifCond .eq 15, 3, 44, 0, 0, 0)]
def tC31_1 : List eN := [(44, .iconst 0, 1, 0, 0, 0, 0), (45, .invokevirtual 396, 3, 0, 28, 8029, 12), (48, .putfield 399, 3, 12, 60, 6090, 0), (51, .aload_n 0, 1, 0, 0, 0, 0), (52, .iload_n 1, 1, 0, 0, 0, 0), (53, .invokevirtual 402, 3, 0, 29, 8033, 12), (56, .istore_n 2, 1, 0, 0, 0, 0), (57, .aload_n 0, 1, 0, 0, 0, 0), (58, .invokevirtual 405, 3, 0, 30, 8037, 12), (61, .istore_n 3, 1, 0, 0, 0, 0), (62, .aload_n 0, 1, 0, 0, 0, 0), (63, .getfield 131, 3, 12, 55, 6085, 5)]
def tC31_2 : List eN := [(66, .bipush 56, 2, 0, 0, 0, 0), (68, .aload_n 0, 1, 0, 0, 0, 0), (69, .getfield 131, 3, 12, 55, 6085, 5), (72, .bipush 56, 2, 0, 0, 0, 0), (74, .iaload, 1, 0, 0, 0, 0), (75, .iload_n 2, 1, 0, 0, 0, 0), (76, .iadd, 1, 0, 0, 0, 0), (77, .iconst 0, 1, 0, 0, 0, 0), (78, .ldc_w 408, 3, 99999, 0, 8041, 0), (81, .invokestatic 380, 3, 1, 14, 7175, 12), (84, .iastore, 1, 0, 0, 0, 0), (85, .aload_n 0, 1, 0, 0, 0, 0), (86, .getfield 131, 3, 12, 55, 6085, 5), (89, .bipush 57, 2, 0, 0, 0, 0), (91, .aload_n 0, 1, 0, 0, 0, 0), (92, .getfield 131, 3, 12, 55, 6085, 5), (95, .bipush 57, 2, 0, 0, 0, 0)]
def tC31_3 : List eN := [(97, .iaload, 1, 0, 0, 0, 0), (98, .iload_n 3, 1, 0, 0, 0, 0), (99, .iadd, 1, 0, 0, 0, 0), (100, .iconst 0, 1, 0, 0, 0, 0), (101, .ldc_w 409, 3, 999999, 0, 8042, 0), (104, .invokestatic 380, 3, 1, 14, 7175, 12), (107, .iastore, 1, 0, 0, 0, 0), (108, .iconst 0, 1, 0, 0, 0, 0), (109, .istore 4, 2, 0, 0, 0, 0), (111, .iload 4, 2, 0, 0, 0, 0), (113, .aload_n 0, 1, 0, 0, 0, 0), (114, .getfield 46, 3, 12, 23, 6053, 5), (117, .aload_n 0, 1, 0, 0, 0, 0), (118, .getfield 239, 3, 12, 18, 6048, 0), (121, .iaload, 1, 0, 0, 0, 0), (122, .if_icmp .ge 44, 3, 166, 0, 0, 0)]
def tC31_4 : List eN := []
def tC31_5 : List eN := [(166, .iconst 0, 1, 0, 0, 0, 0), (167, .istore 4, 2, 0, 0, 0, 0), (169, .iload 4, 2, 0, 0, 0, 0), (171, .aload_n 0, 1, 0, 0, 0, 0), (172, .getfield 52, 3, 12, 25, 6055, 5), (175, .aload_n 0, 1, 0, 0, 0, 0), (176, .getfield 239, 3, 12, 18, 6048, 0), (179, .iaload, 1, 0, 0, 0, 0), (180, .if_icmp .ge 82, 3, 262, 0, 0, 0)]
def tC31_6 : List eN := []
def tC31_7 : List eN := []
def tC31_8 : List eN := [(262, .aload_n 0, 1, 0, 0, 0, 0), (263, .getfield 131, 3, 12, 55, 6085, 5), (266, .bipush 55, 2, 0, 0, 0, 0), (268, .dup2, 1, 0, 0, 0, 0), (269, .iaload, 1, 0, 0, 0, 0), (270, .iconst 1, 1, 0, 0, 0, 0), (271, .iadd, 1, 0, 0, 0, 0), (272, .iastore, 1, 0, 0, 0, 0), (273, .aload_n 0, 1, 0, 0, 0, 0), (274, .getfield 399, 3, 12, 60, 6090, 0), (277, .ifCond .eq 7, 3, 284, 0, 0, 0), (284, .return_, 1, 0, 0, 0, 0)]
def tC31 : List (List eN) := [tC31_0, tC31_1, tC31_2, tC31_3, tC31_4, tC31_5, tC31_6, tC31_7, tC31_8]
def tM31 : eM := (tC31, 5, 0, 0, 0, 0)
def tY31 : eY := (⟨"FuseTreatyModel", "hourGoes", "()V"⟩, prog_14_method_69_code, none)
def tC32_0 : List eN := [(0, .iconst 0, 1, 0, 0, 0, 0), (1, .istore_n 2, 1, 0, 0, 0, 0), (2, .iload_n 2, 1, 0, 0, 0, 0), (3, .iload_n 1, 1, 0, 0, 0, 0), (4, .if_icmp .ge 13, 3, 17, 0, 0, 0), (7, .aload_n 0, 1, 0, 0, 0, 0), (8, .invokevirtual 410, 3, 0, 31, 8017, 12), (11, .iinc 2 1, 3, 0, 0, 0, 0), (14, .goto (-12), 3, 2, 0, 0, 0), (17, .return_, 1, 0, 0, 0, 0)]
def tC32 : List (List eN) := [tC32_0]
def tM32 : eM := (tC32, 3, 0, 0, 0, 1)
def tY32 : eY := (⟨"FuseTreatyModel", "goes", "(I)V"⟩, prog_14_method_70_code, none)
def tC33_0 : List eN := [(0, .aload_n 0, 1, 0, 0, 0, 0), (1, .iload_n 1, 1, 0, 0, 0, 0), (2, .invokevirtual 413, 3, 0, 16, 7124, 12), (5, .ifCond .ne 5, 3, 10, 0, 0, 0), (8, .iconst (-1), 1, 0, 0, 0, 0), (9, .ireturn, 1, 0, 0, 0, 0)]
def tC33 : List (List eN) := [tC33_0]
def tM33 : eM := (tC33, 3, 0, 0, 1, 2)
def tY33 : eY := (⟨"FuseTreatyModel", "flat", "(II)I"⟩, prog_14_method_71_code, (some .int))
def tC34_0 : List eN := [(0, .aload_n 0, 1, 0, 0, 0, 0), (1, .iload_n 1, 1, 0, 0, 0, 0), (2, .invokevirtual 340, 3, 0, 17, 7143, 12), (5, .ifCond .ne 5, 3, 10, 0, 0, 0), (8, .iconst (-1), 1, 0, 0, 0, 0), (9, .ireturn, 1, 0, 0, 0, 0)]
def tC34 : List (List eN) := [tC34_0]
def tM34 : eM := (tC34, 3, 0, 0, 1, 2)
def tY34 : eY := (⟨"FuseTreatyModel", "wire", "(II)I"⟩, prog_14_method_73_code, (some .int))
def tC35_0 : List eN := [(0, .aload_n 0, 1, 0, 0, 0, 0), (1, .iload_n 1, 1, 0, 0, 0, 0), (2, .invokevirtual 425, 3, 0, 18, 7218, 12), (5, .ifCond .ne 5, 3, 10, 0, 0, 0), (8, .iconst (-1), 1, 0, 0, 0, 0), (9, .ireturn, 1, 0, 0, 0, 0)]
def tC35 : List (List eN) := [tC35_0]
def tM35 : eM := (tC35, 3, 0, 0, 1, 2)
def tY35 : eY := (⟨"FuseTreatyModel", "use", "(II)I"⟩, prog_14_method_74_code, (some .int))
def tC36_0 : List eN := [(0, .aload_n 0, 1, 0, 0, 0, 0), (1, .getfield 257, 3, 12, 61, 6091, 0), (4, .bipush 40, 2, 0, 0, 0, 0), (6, .if_icmp .ne 43, 3, 49, 0, 0, 0)]
def tC36_1 : List eN := [(49, .iconst 0, 1, 0, 0, 0, 0), (50, .istore_n 1, 1, 0, 0, 0, 0), (51, .iload_n 1, 1, 0, 0, 0, 0), (52, .bipush 58, 2, 0, 0, 0, 0), (54, .if_icmp .ge 29, 3, 83, 0, 0, 0), (57, .aload_n 0, 1, 0, 0, 0, 0), (58, .getfield 140, 3, 12, 62, 6092, 5), (61, .bipush 58, 2, 0, 0, 0, 0), (63, .aload_n 0, 1, 0, 0, 0, 0)]
def tC36_2 : List eN := [(64, .getfield 257, 3, 12, 61, 6091, 0), (67, .imul, 1, 0, 0, 0, 0), (68, .iload_n 1, 1, 0, 0, 0, 0), (69, .iadd, 1, 0, 0, 0, 0), (70, .aload_n 0, 1, 0, 0, 0, 0), (71, .getfield 128, 3, 12, 54, 6084, 5), (74, .iload_n 1, 1, 0, 0, 0, 0), (75, .iaload, 1, 0, 0, 0, 0), (76, .iastore, 1, 0, 0, 0, 0), (77, .iinc 1 1, 3, 0, 0, 0, 0), (80, .goto (-29), 3, 51, 0, 0, 0), (83, .aload_n 0, 1, 0, 0, 0, 0), (84, .dup, 1, 0, 0, 0, 0), (85, .getfield 257, 3, 12, 61, 6091, 0), (88, .iconst 1, 1, 0, 0, 0, 0), (89, .iadd, 1, 0, 0, 0, 0), (90, .putfield 257, 3, 12, 61, 6091, 0), (93, .aload_n 0, 1, 0, 0, 0, 0), (94, .invokevirtual 169, 3, 0, 20, 6027, 12)]
def tC36_3 : List eN := [(97, .return_, 1, 0, 0, 0, 0)]
def tC36 : List (List eN) := [tC36_0, tC36_1, tC36_2, tC36_3]
def tM36 : eM := (tC36, 2, 0, 0, 0, 0)
def tY36 : eY := (⟨"FuseTreatyModel", "records", "()V"⟩, prog_14_method_75_code, none)
def tC37_0 : List eN := [(0, .aload_n 0, 1, 0, 0, 0, 0), (1, .iload_n 1, 1, 0, 0, 0, 0), (2, .invokevirtual 425, 3, 0, 18, 7218, 12), (5, .ifCond .eq 25, 3, 30, 0, 0, 0), (30, .iconst 0, 1, 0, 0, 0, 0), (31, .ireturn, 1, 0, 0, 0, 0)]
def tC37 : List (List eN) := [tC37_0]
def tM37 : eM := (tC37, 3, 0, 0, 2, 2)
def tY37 : eY := (⟨"FuseTreatyModel", "agree", "(IZ)Z"⟩, prog_14_method_76_code, (some .boolean))
def tC38_0 : List eN := [(0, .aload_n 0, 1, 0, 0, 0, 0), (1, .iload_n 1, 1, 0, 0, 0, 0), (2, .invokevirtual 340, 3, 0, 17, 7143, 12), (5, .ifCond .ne 5, 3, 10, 0, 0, 0), (8, .iconst (-1), 1, 0, 0, 0, 0), (9, .ireturn, 1, 0, 0, 0, 0)]
def tC38 : List (List eN) := [tC38_0]
def tM38 : eM := (tC38, 2, 0, 0, 1, 1)
def tY38 : eY := (⟨"FuseTreatyModel", "mend", "(I)I"⟩, prog_14_method_77_code, (some .int))
def tC39_0 : List eN := [(0, .aload_n 0, 1, 0, 0, 0, 0), (1, .iload_n 1, 1, 0, 0, 0, 0), (2, .invokevirtual 340, 3, 0, 17, 7143, 12), (5, .ifCond .ne 5, 3, 10, 0, 0, 0), (8, .iconst (-1), 1, 0, 0, 0, 0), (9, .ireturn, 1, 0, 0, 0, 0)]
def tC39 : List (List eN) := [tC39_0]
def tM39 : eM := (tC39, 2, 0, 0, 1, 1)
def tY39 : eY := (⟨"FuseTreatyModel", "thicken", "(I)I"⟩, prog_14_method_78_code, (some .int))
def tC40_0 : List eN := [(0, .aload_n 0, 1, 0, 0, 0, 0), (1, .iload_n 1, 1, 0, 0, 0, 0), (2, .invokevirtual 340, 3, 0, 17, 7143, 12), (5, .ifCond .eq 38, 3, 43, 0, 0, 0)]
def tC40_1 : List eN := [(43, .iconst 0, 1, 0, 0, 0, 0), (44, .ireturn, 1, 0, 0, 0, 0)]
def tC40 : List (List eN) := [tC40_0, tC40_1]
def tM40 : eM := (tC40, 3, 0, 0, 2, 2)
def tY40 : eY := (⟨"FuseTreatyModel", "pin", "(IZ)Z"⟩, prog_14_method_79_code, (some .boolean))
def tC41_0 : List eN := [(0, .iload_n 0, 1, 0, 0, 0, 0), (1, .iconst 0, 1, 0, 0, 0, 0), (2, .bipush 72, 2, 0, 0, 0, 0), (4, .invokestatic 323, 3, 1, 13, 7128, 12), (7, .ireturn, 1, 0, 0, 0, 0)]
def tC41 : List (List eN) := [tC41_0]
def tM41 : eM := (tC41, 1, 0, 0, 2, 1)
def tY41 : eY := (⟨"FuseTreatyModel", "isLong", "(I)Z"⟩, prog_14_method_80_code, (some .boolean))
def tC42_0 : List eN := [(0, .iload_n 1, 1, 0, 0, 0, 0), (1, .invokestatic 431, 3, 1, 41, 8010, 12), (4, .ifCond .ne 5, 3, 9, 0, 0, 0), (7, .iconst (-1), 1, 0, 0, 0, 0), (8, .ireturn, 1, 0, 0, 0, 0), (9, .iload_n 1, 1, 0, 0, 0, 0), (10, .ifCond .ne 11, 3, 21, 0, 0, 0), (13, .aload_n 0, 1, 0, 0, 0, 0), (14, .getfield 128, 3, 12, 54, 6084, 5), (17, .bipush 55, 2, 0, 0, 0, 0), (19, .iaload, 1, 0, 0, 0, 0), (20, .ireturn, 1, 0, 0, 0, 0), (21, .aload_n 0, 1, 0, 0, 0, 0), (22, .invokevirtual 416, 3, 0, 21, 7131, 12), (25, .aload_n 0, 1, 0, 0, 0, 0), (26, .iload_n 1, 1, 0, 0, 0, 0), (27, .invokevirtual 434, 3, 0, 32, 8013, 12), (30, .aload_n 0, 1, 0, 0, 0, 0), (31, .invokevirtual 428, 3, 0, 36, 7230, 12)]
def tC42_1 : List eN := [(34, .aload_n 0, 1, 0, 0, 0, 0), (35, .getfield 128, 3, 12, 54, 6084, 5), (38, .bipush 55, 2, 0, 0, 0, 0), (40, .iaload, 1, 0, 0, 0, 0), (41, .ireturn, 1, 0, 0, 0, 0)]
def tC42 : List (List eN) := [tC42_0, tC42_1]
def tM42 : eM := (tC42, 2, 0, 0, 1, 1)
def tY42 : eY := (⟨"FuseTreatyModel", "hours", "(I)I"⟩, prog_14_method_81_code, (some .int))
def tC43_0 : List eN := [(0, .aload_n 0, 1, 0, 0, 0, 0), (1, .getfield 257, 3, 12, 61, 6091, 0), (4, .ifCond .ne 5, 3, 9, 0, 0, 0), (7, .iconst 0, 1, 0, 0, 0, 0), (8, .ireturn, 1, 0, 0, 0, 0)]
def tC43 : List (List eN) := [tC43_0]
def tM43 : eM := (tC43, 2, 0, 0, 2, 0)
def tY43 : eY := (⟨"FuseTreatyModel", "undo", "()Z"⟩, prog_14_method_82_code, (some .boolean))
def tC44_0 : List eN := [(0, .aload_n 0, 1, 0, 0, 0, 0), (1, .iload_n 1, 1, 0, 0, 0, 0), (2, .invokevirtual 413, 3, 0, 16, 7124, 12), (5, .ifCond .eq 7, 3, 12, 0, 0, 0), (12, .iconst (-1), 1, 0, 0, 0, 0), (13, .ireturn, 1, 0, 0, 0, 0)]
def tC44 : List (List eN) := [tC44_0]
def tM44 : eM := (tC44, 5, 0, 0, 1, 2)
def tY44 : eY := (⟨"FuseTreatyModel", "way", "(II)I"⟩, prog_14_method_83_code, (some .int))
def tC45_0 : List eN := [(0, .aload_n 0, 1, 0, 0, 0, 0), (1, .invokevirtual 416, 3, 0, 21, 7131, 12), (4, .aload_n 0, 1, 0, 0, 0, 0), (5, .iconst 1, 1, 0, 0, 0, 0), (6, .putfield 330, 3, 12, 57, 6087, 2), (9, .return_, 1, 0, 0, 0, 0)]
def tC45 : List (List eN) := [tC45_0]
def tM45 : eM := (tC45, 1, 0, 0, 0, 0)
def tY45 : eY := (⟨"FuseTreatyModel", "copiesStill", "()V"⟩, prog_14_method_84_code, none)
def tC46_0 : List eN := [(0, .aload_n 0, 1, 0, 0, 0, 0), (1, .iload_n 1, 1, 0, 0, 0, 0), (2, .invokevirtual 340, 3, 0, 17, 7143, 12), (5, .ifCond .eq 22, 3, 27, 0, 0, 0), (27, .iconst (-1), 1, 0, 0, 0, 0), (28, .ireturn, 1, 0, 0, 0, 0)]
def tC46 : List (List eN) := [tC46_0]
def tM46 : eM := (tC46, 8, 0, 0, 1, 3)
def tY46 : eY := (⟨"FuseTreatyModel", "peak", "(III)I"⟩, prog_14_method_85_code, (some .int))
def tC47_0 : List eN := [(0, .iconst 1, 1, 0, 0, 0, 0), (1, .istore_n 1, 1, 0, 0, 0, 0), (2, .iload_n 1, 1, 0, 0, 0, 0), (3, .sipush 200, 3, 0, 0, 0, 0), (6, .if_icmp .gt 22, 3, 28, 0, 0, 0), (9, .aload_n 0, 1, 0, 0, 0, 0), (10, .invokevirtual 410, 3, 0, 31, 8017, 12), (13, .aload_n 0, 1, 0, 0, 0, 0), (14, .getfield 399, 3, 12, 60, 6090, 0), (17, .ifCond .eq 5, 3, 22, 0, 0, 0), (22, .iinc 1 1, 3, 0, 0, 0, 0), (25, .goto (-23), 3, 2, 0, 0, 0), (28, .sipush 201, 3, 0, 0, 0, 0), (31, .ireturn, 1, 0, 0, 0, 0)]
def tC47 : List (List eN) := [tC47_0]
def tM47 : eM := (tC47, 2, 0, 0, 1, 0)
def tY47 : eY := (⟨"FuseTreatyModel", "firstGoing", "()I"⟩, prog_14_method_86_code, (some .int))
def tC48_0 : List eN := [(0, .iload_n 1, 1, 0, 0, 0, 0), (1, .iconst 0, 1, 0, 0, 0, 0), (2, .iconst 1, 1, 0, 0, 0, 0), (3, .invokestatic 323, 3, 1, 13, 7128, 12), (6, .ifCond .ne 5, 3, 11, 0, 0, 0), (9, .iconst (-1), 1, 0, 0, 0, 0), (10, .ireturn, 1, 0, 0, 0, 0), (11, .aload_n 0, 1, 0, 0, 0, 0), (12, .invokevirtual 437, 3, 0, 45, 8055, 12), (15, .aload_n 0, 1, 0, 0, 0, 0), (16, .invokevirtual 440, 3, 0, 47, 8063, 12), (19, .istore_n 2, 1, 0, 0, 0, 0), (20, .iload_n 2, 1, 0, 0, 0, 0), (21, .sipush 201, 3, 0, 0, 0, 0), (24, .if_icmp .ne 8, 3, 32, 0, 0, 0), (27, .bipush (-2), 2, 0, 0, 0, 0), (29, .goto 18, 3, 47, 0, 0, 0)]
def tC48_1 : List eN := [(47, .ireturn, 1, 0, 0, 0, 0)]
def tC48 : List (List eN) := [tC48_0, tC48_1]
def tM48 : eM := (tC48, 3, 0, 0, 1, 1)
def tY48 : eY := (⟨"FuseTreatyModel", "first", "(I)I"⟩, prog_14_method_88_code, (some .int))
def tC49_0 : List eN := [(0, .iconst 0, 1, 0, 0, 0, 0), (1, .istore_n 1, 1, 0, 0, 0, 0), (2, .iconst 0, 1, 0, 0, 0, 0), (3, .istore_n 2, 1, 0, 0, 0, 0), (4, .iload_n 2, 1, 0, 0, 0, 0), (5, .aload_n 0, 1, 0, 0, 0, 0), (6, .getfield 64, 3, 12, 29, 6059, 5), (9, .aload_n 0, 1, 0, 0, 0, 0), (10, .getfield 239, 3, 12, 18, 6048, 0), (13, .iaload, 1, 0, 0, 0, 0), (14, .if_icmp .ge 27, 3, 41, 0, 0, 0)]
def tC49_1 : List eN := [(41, .iload_n 1, 1, 0, 0, 0, 0), (42, .ireturn, 1, 0, 0, 0, 0)]
def tC49 : List (List eN) := [tC49_0, tC49_1]
def tM49 : eM := (tC49, 3, 0, 0, 1, 0)
def tY49 : eY := (⟨"FuseTreatyModel", "usesLit", "()I"⟩, prog_14_method_89_code, (some .int))
def tC50_0 : List eN := [(0, .iload_n 1, 1, 0, 0, 0, 0), (1, .iconst 0, 1, 0, 0, 0, 0), (2, .iconst 1, 1, 0, 0, 0, 0), (3, .invokestatic 323, 3, 1, 13, 7128, 12), (6, .ifCond .ne 5, 3, 11, 0, 0, 0), (9, .iconst (-1), 1, 0, 0, 0, 0), (10, .ireturn, 1, 0, 0, 0, 0), (11, .aload_n 0, 1, 0, 0, 0, 0), (12, .invokevirtual 416, 3, 0, 21, 7131, 12), (15, .aload_n 0, 1, 0, 0, 0, 0), (16, .invokevirtual 446, 3, 0, 49, 8074, 12), (19, .istore_n 2, 1, 0, 0, 0, 0), (20, .iconst 0, 1, 0, 0, 0, 0), (21, .istore_n 3, 1, 0, 0, 0, 0), (22, .iconst 0, 1, 0, 0, 0, 0), (23, .istore 4, 2, 0, 0, 0, 0), (25, .iconst 1, 1, 0, 0, 0, 0), (26, .istore 5, 2, 0, 0, 0, 0), (28, .iload 5, 2, 0, 0, 0, 0), (30, .iconst 1, 1, 0, 0, 0, 0), (31, .aload_n 0, 1, 0, 0, 0, 0)]
def tC50_1 : List eN := [(32, .getfield 64, 3, 12, 29, 6059, 5), (35, .aload_n 0, 1, 0, 0, 0, 0), (36, .getfield 239, 3, 12, 18, 6048, 0), (39, .iaload, 1, 0, 0, 0, 0), (40, .ishl, 1, 0, 0, 0, 0), (41, .if_icmp .ge 66, 3, 107, 0, 0, 0)]
def tC50_2 : List eN := []
def tC50_3 : List eN := [(107, .iload_n 1, 1, 0, 0, 0, 0), (108, .ifCond .ne 8, 3, 116, 0, 0, 0), (111, .iload 4, 2, 0, 0, 0, 0), (113, .goto 4, 3, 117, 0, 0, 0), (116, .iload_n 3, 1, 0, 0, 0, 0), (117, .ireturn, 1, 0, 0, 0, 0)]
def tC50 : List (List eN) := [tC50_0, tC50_1, tC50_2, tC50_3]
def tM50 : eM := (tC50, 7, 0, 0, 1, 1)
def tY50 : eY := (⟨"FuseTreatyModel", "together", "(I)I"⟩, prog_14_method_90_code, (some .int))
def tC51_0 : List eN := [(0, .aload_n 0, 1, 0, 0, 0, 0), (1, .iload_n 1, 1, 0, 0, 0, 0), (2, .invokevirtual 425, 3, 0, 18, 7218, 12), (5, .ifCond .ne 5, 3, 10, 0, 0, 0), (8, .iconst (-1), 1, 0, 0, 0, 0), (9, .ireturn, 1, 0, 0, 0, 0)]
def tC51 : List (List eN) := [tC51_0]
def tM51 : eM := (tC51, 4, 0, 0, 1, 1)
def tY51 : eY := (⟨"FuseTreatyModel", "when", "(I)I"⟩, prog_14_method_92_code, (some .int))
def tC52_0 : List eN := [(0, .iload_n 1, 1, 0, 0, 0, 0), (1, .iconst 1, 1, 0, 0, 0, 0), (2, .bipush 20, 2, 0, 0, 0, 0), (4, .invokestatic 323, 3, 1, 13, 7128, 12), (7, .ifCond .ne 5, 3, 12, 0, 0, 0), (10, .iconst (-1), 1, 0, 0, 0, 0), (11, .ireturn, 1, 0, 0, 0, 0), (12, .aload_n 0, 1, 0, 0, 0, 0), (13, .invokevirtual 437, 3, 0, 45, 8055, 12), (16, .aload_n 0, 1, 0, 0, 0, 0), (17, .invokevirtual 440, 3, 0, 47, 8063, 12), (20, .istore_n 2, 1, 0, 0, 0, 0), (21, .bipush (-2), 2, 0, 0, 0, 0), (23, .istore_n 3, 1, 0, 0, 0, 0), (24, .iconst 0, 1, 0, 0, 0, 0), (25, .istore 4, 2, 0, 0, 0, 0), (27, .iload 4, 2, 0, 0, 0, 0), (29, .aload_n 0, 1, 0, 0, 0, 0), (30, .getfield 52, 3, 12, 25, 6055, 5)]
def tC52_1 : List eN := [(33, .aload_n 0, 1, 0, 0, 0, 0), (34, .getfield 239, 3, 12, 18, 6048, 0), (37, .iaload, 1, 0, 0, 0, 0), (38, .if_icmp .ge 73, 3, 111, 0, 0, 0)]
def tC52_2 : List eN := []
def tC52_3 : List eN := [(111, .iload_n 3, 1, 0, 0, 0, 0), (112, .ireturn, 1, 0, 0, 0, 0)]
def tC52 : List (List eN) := [tC52_0, tC52_1, tC52_2, tC52_3]
def tM52 : eM := (tC52, 6, 0, 0, 1, 1)
def tY52 : eY := (⟨"FuseTreatyModel", "thick", "(I)I"⟩, prog_14_method_93_code, (some .int))
def tC53_0 : List eN := [(0, .iconst 0, 1, 0, 0, 0, 0), (1, .istore_n 1, 1, 0, 0, 0, 0), (2, .iconst 0, 1, 0, 0, 0, 0), (3, .istore_n 2, 1, 0, 0, 0, 0), (4, .iload_n 2, 1, 0, 0, 0, 0), (5, .aload_n 0, 1, 0, 0, 0, 0), (6, .getfield 52, 3, 12, 25, 6055, 5), (9, .aload_n 0, 1, 0, 0, 0, 0), (10, .getfield 239, 3, 12, 18, 6048, 0), (13, .iaload, 1, 0, 0, 0, 0), (14, .if_icmp .ge 28, 3, 42, 0, 0, 0)]
def tC53_1 : List eN := [(42, .iload_n 1, 1, 0, 0, 0, 0), (43, .ireturn, 1, 0, 0, 0, 0)]
def tC53 : List (List eN) := [tC53_0, tC53_1]
def tM53 : eM := (tC53, 3, 0, 0, 1, 0)
def tY53 : eY := (⟨"FuseTreatyModel", "goneBits", "()I"⟩, prog_14_method_95_code, (some .int))
def tC54_0 : List eN := [(0, .aload_n 0, 1, 0, 0, 0, 0), (1, .iload_n 1, 1, 0, 0, 0, 0), (2, .invokevirtual 413, 3, 0, 16, 7124, 12), (5, .ifCond .eq 12, 3, 17, 0, 0, 0), (17, .iconst (-1), 1, 0, 0, 0, 0), (18, .ireturn, 1, 0, 0, 0, 0)]
def tC54 : List (List eN) := [tC54_0]
def tM54 : eM := (tC54, 6, 0, 0, 1, 2)
def tY54 : eY := (⟨"FuseTreatyModel", "cut", "(II)I"⟩, prog_14_method_98_code, (some .int))
def tC55_0 : List eN := [(0, .aload_n 0, 1, 0, 0, 0, 0), (1, .iload_n 1, 1, 0, 0, 0, 0), (2, .invokevirtual 413, 3, 0, 16, 7124, 12), (5, .ifCond .eq 11, 3, 16, 0, 0, 0), (16, .iconst (-1), 1, 0, 0, 0, 0), (17, .ireturn, 1, 0, 0, 0, 0)]
def tC55 : List (List eN) := [tC55_0]
def tM55 : eM := (tC55, 3, 0, 0, 1, 2)
def tY55 : eY := (⟨"FuseTreatyModel", "share", "(II)I"⟩, prog_14_method_99_code, (some .int))
def tC56_0 : List eN := [(0, .iconst 1, 1, 0, 0, 0, 0), (1, .aload_n 0, 1, 0, 0, 0, 0), (2, .getfield 46, 3, 12, 23, 6053, 5), (5, .aload_n 0, 1, 0, 0, 0, 0), (6, .getfield 239, 3, 12, 18, 6048, 0), (9, .iaload, 1, 0, 0, 0, 0), (10, .ishl, 1, 0, 0, 0, 0), (11, .iconst 1, 1, 0, 0, 0, 0), (12, .isub, 1, 0, 0, 0, 0), (13, .aload_n 0, 1, 0, 0, 0, 0), (14, .invokevirtual 467, 3, 0, 25, 8123, 12), (17, .iconst (-1), 1, 0, 0, 0, 0), (18, .ixor, 1, 0, 0, 0, 0), (19, .iand, 1, 0, 0, 0, 0), (20, .ireturn, 1, 0, 0, 0, 0)]
def tC56 : List (List eN) := [tC56_0]
def tM56 : eM := (tC56, 1, 0, 0, 1, 0)
def tY56 : eY := (⟨"FuseTreatyModel", "darkBits", "()I"⟩, prog_14_method_100_code, (some .int))
def tC57_0 : List eN := [(0, .aload_n 0, 1, 0, 0, 0, 0), (1, .iload_n 1, 1, 0, 0, 0, 0), (2, .invokevirtual 340, 3, 0, 17, 7143, 12), (5, .ifCond .ne 5, 3, 10, 0, 0, 0), (8, .iconst (-1), 1, 0, 0, 0, 0), (9, .ireturn, 1, 0, 0, 0, 0)]
def tC57 : List (List eN) := [tC57_0]
def tM57 : eM := (tC57, 2, 0, 0, 1, 1)
def tY57 : eY := (⟨"FuseTreatyModel", "without", "(I)I"⟩, prog_14_method_101_code, (some .int))
def tC58_0 : List eN := [(0, .aload_n 0, 1, 0, 0, 0, 0), (1, .invokevirtual 416, 3, 0, 21, 7131, 12), (4, .aload_n 0, 1, 0, 0, 0, 0), (5, .invokevirtual 470, 3, 0, 56, 8119, 12), (8, .istore_n 1, 1, 0, 0, 0, 0), (9, .iconst 0, 1, 0, 0, 0, 0), (10, .istore_n 2, 1, 0, 0, 0, 0), (11, .iconst 0, 1, 0, 0, 0, 0), (12, .istore_n 3, 1, 0, 0, 0, 0), (13, .iload_n 3, 1, 0, 0, 0, 0), (14, .aload_n 0, 1, 0, 0, 0, 0), (15, .getfield 52, 3, 12, 25, 6055, 5), (18, .aload_n 0, 1, 0, 0, 0, 0), (19, .getfield 239, 3, 12, 18, 6048, 0), (22, .iaload, 1, 0, 0, 0, 0), (23, .if_icmp .ge 46, 3, 69, 0, 0, 0)]
def tC58_1 : List eN := []
def tC58_2 : List eN := [(69, .iload_n 2, 1, 0, 0, 0, 0), (70, .ireturn, 1, 0, 0, 0, 0)]
def tC58 : List (List eN) := [tC58_0, tC58_1, tC58_2]
def tM58 : eM := (tC58, 4, 0, 0, 1, 0)
def tY58 : eY := (⟨"FuseTreatyModel", "needed", "()I"⟩, prog_14_method_102_code, (some .int))
def tC59_0 : List eN := [(0, .iload_n 1, 1, 0, 0, 0, 0), (1, .iconst 0, 1, 0, 0, 0, 0), (2, .iconst 1, 1, 0, 0, 0, 0), (3, .invokestatic 323, 3, 1, 13, 7128, 12), (6, .ifCond .ne 7, 3, 13, 0, 0, 0), (9, .sipush (-1000), 3, 0, 0, 0, 0), (12, .ireturn, 1, 0, 0, 0, 0), (13, .aload_n 0, 1, 0, 0, 0, 0), (14, .invokevirtual 416, 3, 0, 21, 7131, 12), (17, .aload_n 0, 1, 0, 0, 0, 0), (18, .invokevirtual 389, 3, 0, 27, 7182, 12), (21, .istore_n 2, 1, 0, 0, 0, 0), (22, .sipush (-2000), 3, 0, 0, 0, 0), (25, .istore_n 3, 1, 0, 0, 0, 0), (26, .sipush (-2000), 3, 0, 0, 0, 0), (29, .istore 4, 2, 0, 0, 0, 0), (31, .iconst 0, 1, 0, 0, 0, 0)]
def tC59_1 : List eN := [(32, .istore 5, 2, 0, 0, 0, 0), (34, .iload 5, 2, 0, 0, 0, 0), (36, .aload_n 0, 1, 0, 0, 0, 0), (37, .getfield 52, 3, 12, 25, 6055, 5), (40, .aload_n 0, 1, 0, 0, 0, 0), (41, .getfield 239, 3, 12, 18, 6048, 0), (44, .iaload, 1, 0, 0, 0, 0), (45, .if_icmp .ge 56, 3, 101, 0, 0, 0)]
def tC59_2 : List eN := []
def tC59_3 : List eN := [(101, .iload_n 1, 1, 0, 0, 0, 0), (102, .ifCond .ne 7, 3, 109, 0, 0, 0), (105, .iload_n 3, 1, 0, 0, 0, 0), (106, .goto 5, 3, 111, 0, 0, 0), (109, .iload 4, 2, 0, 0, 0, 0), (111, .ireturn, 1, 0, 0, 0, 0)]
def tC59 : List (List eN) := [tC59_0, tC59_1, tC59_2, tC59_3]
def tM59 : eM := (tC59, 7, 0, 0, 1, 1)
def tY59 : eY := (⟨"FuseTreatyModel", "hottest", "(I)I"⟩, prog_14_method_103_code, (some .int))
def tC60_0 : List eN := [(0, .aload_n 0, 1, 0, 0, 0, 0), (1, .iload_n 1, 1, 0, 0, 0, 0), (2, .invokevirtual 425, 3, 0, 18, 7218, 12), (5, .ifCond .eq 16, 3, 21, 0, 0, 0), (21, .iconst (-1), 1, 0, 0, 0, 0), (22, .ireturn, 1, 0, 0, 0, 0)]
def tC60 : List (List eN) := [tC60_0]
def tM60 : eM := (tC60, 4, 0, 0, 1, 2)
def tY60 : eY := (⟨"FuseTreatyModel", "clash", "(II)I"⟩, prog_14_method_104_code, (some .int))
def tC61_0 : List eN := [(0, .iload_n 1, 1, 0, 0, 0, 0), (1, .invokestatic 431, 3, 1, 41, 8010, 12), (4, .ifCond .eq 12, 3, 16, 0, 0, 0), (7, .iload_n 2, 1, 0, 0, 0, 0), (8, .iconst 0, 1, 0, 0, 0, 0), (9, .iconst 2, 1, 0, 0, 0, 0), (10, .invokestatic 323, 3, 1, 13, 7128, 12), (13, .ifCond .ne 5, 3, 18, 0, 0, 0), (16, .iconst (-1), 1, 0, 0, 0, 0), (17, .ireturn, 1, 0, 0, 0, 0), (18, .aload_n 0, 1, 0, 0, 0, 0), (19, .invokevirtual 416, 3, 0, 21, 7131, 12), (22, .aload_n 0, 1, 0, 0, 0, 0), (23, .iload_n 1, 1, 0, 0, 0, 0), (24, .invokevirtual 434, 3, 0, 32, 8013, 12), (27, .iload_n 2, 1, 0, 0, 0, 0), (28, .iconst 2, 1, 0, 0, 0, 0), (29, .if_icmp .ge 23, 3, 52, 0, 0, 0)]
def tC61_1 : List eN := [(32, .aload_n 0, 1, 0, 0, 0, 0), (33, .getfield 131, 3, 12, 55, 6085, 5), (36, .bipush 56, 2, 0, 0, 0, 0), (38, .iload_n 2, 1, 0, 0, 0, 0), (39, .iadd, 1, 0, 0, 0, 0), (40, .iaload, 1, 0, 0, 0, 0), (41, .aload_n 0, 1, 0, 0, 0, 0), (42, .getfield 128, 3, 12, 54, 6084, 5), (45, .bipush 56, 2, 0, 0, 0, 0), (47, .iload_n 2, 1, 0, 0, 0, 0), (48, .iadd, 1, 0, 0, 0, 0), (49, .iaload, 1, 0, 0, 0, 0), (50, .isub, 1, 0, 0, 0, 0), (51, .ireturn, 1, 0, 0, 0, 0), (52, .iconst 0, 1, 0, 0, 0, 0), (53, .istore_n 3, 1, 0, 0, 0, 0), (54, .iconst 0, 1, 0, 0, 0, 0), (55, .istore 4, 2, 0, 0, 0, 0), (57, .iload 4, 2, 0, 0, 0, 0), (59, .aload_n 0, 1, 0, 0, 0, 0), (60, .getfield 52, 3, 12, 25, 6055, 5), (63, .aload_n 0, 1, 0, 0, 0, 0)]
def tC61_2 : List eN := [(64, .getfield 239, 3, 12, 18, 6048, 0), (67, .iaload, 1, 0, 0, 0, 0), (68, .if_icmp .ge 22, 3, 90, 0, 0, 0), (90, .iload_n 3, 1, 0, 0, 0, 0), (91, .ireturn, 1, 0, 0, 0, 0)]
def tC61 : List (List eN) := [tC61_0, tC61_1, tC61_2]
def tM61 : eM := (tC61, 5, 0, 0, 1, 2)
def tY61 : eY := (⟨"FuseTreatyModel", "then", "(II)I"⟩, prog_14_method_105_code, (some .int))
def tC62_0 : List eN := [(0, .aload_n 0, 1, 0, 0, 0, 0), (1, .iload_n 1, 1, 0, 0, 0, 0), (2, .invokevirtual 413, 3, 0, 16, 7124, 12), (5, .ifCond .eq 10, 3, 15, 0, 0, 0), (15, .iconst (-1), 1, 0, 0, 0, 0), (16, .ireturn, 1, 0, 0, 0, 0)]
def tC62 : List (List eN) := [tC62_0]
def tM62 : eM := (tC62, 3, 0, 0, 1, 2)
def tY62 : eY := (⟨"FuseTreatyModel", "litIn", "(II)I"⟩, prog_14_method_106_code, (some .int))
def tC63_0 : List eN := [(0, .iload_n 1, 1, 0, 0, 0, 0), (1, .invokestatic 431, 3, 1, 41, 8010, 12), (4, .ifCond .eq 13, 3, 17, 0, 0, 0), (7, .iload_n 2, 1, 0, 0, 0, 0), (8, .iconst 1, 1, 0, 0, 0, 0), (9, .bipush 20, 2, 0, 0, 0, 0), (11, .invokestatic 323, 3, 1, 13, 7128, 12), (14, .ifCond .ne 5, 3, 19, 0, 0, 0), (17, .iconst (-1), 1, 0, 0, 0, 0), (18, .ireturn, 1, 0, 0, 0, 0), (19, .iconst 0, 1, 0, 0, 0, 0), (20, .istore_n 3, 1, 0, 0, 0, 0), (21, .iconst 0, 1, 0, 0, 0, 0), (22, .istore 4, 2, 0, 0, 0, 0), (24, .iload 4, 2, 0, 0, 0, 0), (26, .iload_n 2, 1, 0, 0, 0, 0), (27, .if_icmp .ge 64, 3, 91, 0, 0, 0), (30, .aload_n 0, 1, 0, 0, 0, 0), (31, .invokevirtual 416, 3, 0, 21, 7131, 12)]
def tC63_1 : List eN := [(34, .aload_n 0, 1, 0, 0, 0, 0), (35, .dup, 1, 0, 0, 0, 0), (36, .getfield 327, 3, 12, 56, 6086, 0), (39, .iload 4, 2, 0, 0, 0, 0), (41, .iadd, 1, 0, 0, 0, 0), (42, .putfield 327, 3, 12, 56, 6086, 0), (45, .iconst 1, 1, 0, 0, 0, 0), (46, .istore 5, 2, 0, 0, 0, 0), (48, .iconst 0, 1, 0, 0, 0, 0), (49, .istore 6, 2, 0, 0, 0, 0), (51, .iload 6, 2, 0, 0, 0, 0), (53, .iload_n 1, 1, 0, 0, 0, 0), (54, .if_icmp .ge 23, 3, 77, 0, 0, 0), (57, .aload_n 0, 1, 0, 0, 0, 0), (58, .invokevirtual 410, 3, 0, 31, 8017, 12), (61, .aload_n 0, 1, 0, 0, 0, 0), (62, .getfield 399, 3, 12, 60, 6090, 0)]
def tC63_2 : List eN := [(65, .ifCond .eq 6, 3, 71, 0, 0, 0), (71, .iinc 6 1, 3, 0, 0, 0, 0), (74, .goto (-23), 3, 51, 0, 0, 0), (77, .iload 5, 2, 0, 0, 0, 0), (79, .ifCond .eq 6, 3, 85, 0, 0, 0), (82, .iinc 3 1, 3, 0, 0, 0, 0), (85, .iinc 4 1, 3, 0, 0, 0, 0), (88, .goto (-64), 3, 24, 0, 0, 0), (91, .iload_n 3, 1, 0, 0, 0, 0), (92, .ireturn, 1, 0, 0, 0, 0)]
def tC63 : List (List eN) := [tC63_0, tC63_1, tC63_2]
def tM63 : eM := (tC63, 7, 0, 0, 1, 2)
def tY63 : eY := (⟨"FuseTreatyModel", "year", "(II)I"⟩, prog_14_method_107_code, (some .int))
def tC64_0 : List eN := [(0, .aload_n 0, 1, 0, 0, 0, 0), (1, .getfield 260, 3, 12, 63, 6093, 0), (4, .bipush 20, 2, 0, 0, 0, 0), (6, .if_icmp .eq 11, 3, 17, 0, 0, 0), (9, .aload_n 0, 1, 0, 0, 0, 0), (10, .iload_n 1, 1, 0, 0, 0, 0), (11, .invokevirtual 413, 3, 0, 16, 7124, 12), (14, .ifCond .ne 5, 3, 19, 0, 0, 0), (17, .iconst (-1), 1, 0, 0, 0, 0), (18, .ireturn, 1, 0, 0, 0, 0)]
def tC64 : List (List eN) := [tC64_0]
def tM64 : eM := (tC64, 3, 0, 0, 1, 2)
def tY64 : eY := (⟨"FuseTreatyModel", "tell", "(IZ)I"⟩, prog_14_method_108_code, (some .int))
def tC65_0 : List eN := [(0, .aload_n 0, 1, 0, 0, 0, 0), (1, .getfield 260, 3, 12, 63, 6093, 0), (4, .istore_n 1, 1, 0, 0, 0, 0), (5, .aload_n 0, 1, 0, 0, 0, 0), (6, .iconst 0, 1, 0, 0, 0, 0), (7, .putfield 260, 3, 12, 63, 6093, 0), (10, .iload_n 1, 1, 0, 0, 0, 0), (11, .ireturn, 1, 0, 0, 0, 0)]
def tC65 : List (List eN) := [tC65_0]
def tM65 : eM := (tC65, 2, 0, 0, 1, 0)
def tY65 : eY := (⟨"FuseTreatyModel", "forget", "()I"⟩, prog_14_method_109_code, (some .int))
def tC66_0 : List eN := [(0, .iconst 0, 1, 0, 0, 0, 0), (1, .istore_n 2, 1, 0, 0, 0, 0), (2, .iconst 0, 1, 0, 0, 0, 0), (3, .istore_n 3, 1, 0, 0, 0, 0), (4, .iload_n 3, 1, 0, 0, 0, 0), (5, .aload_n 0, 1, 0, 0, 0, 0), (6, .getfield 52, 3, 12, 25, 6055, 5), (9, .aload_n 0, 1, 0, 0, 0, 0), (10, .getfield 239, 3, 12, 18, 6048, 0), (13, .iaload, 1, 0, 0, 0, 0), (14, .if_icmp .ge 100, 3, 114, 0, 0, 0)]
def tC66_1 : List eN := []
def tC66_2 : List eN := []
def tC66_3 : List eN := [(114, .iload_n 2, 1, 0, 0, 0, 0), (115, .ireturn, 1, 0, 0, 0, 0)]
def tC66 : List (List eN) := [tC66_0, tC66_1, tC66_2, tC66_3]
def tM66 : eM := (tC66, 6, 0, 0, 1, 1)
def tY66 : eY := (⟨"FuseTreatyModel", "wentBits", "(I)I"⟩, prog_14_method_110_code, (some .int))
def tC67_0 : List eN := [(0, .iload_n 1, 1, 0, 0, 0, 0), (1, .iconst 0, 1, 0, 0, 0, 0), (2, .aload_n 0, 1, 0, 0, 0, 0), (3, .getfield 260, 3, 12, 63, 6093, 0), (6, .invokestatic 323, 3, 1, 13, 7128, 12), (9, .ifCond .eq 12, 3, 21, 0, 0, 0), (12, .iload_n 2, 1, 0, 0, 0, 0), (13, .iconst 0, 1, 0, 0, 0, 0), (14, .iconst 1, 1, 0, 0, 0, 0), (15, .invokestatic 323, 3, 1, 13, 7128, 12), (18, .ifCond .ne 5, 3, 23, 0, 0, 0), (21, .iconst (-1), 1, 0, 0, 0, 0), (22, .ireturn, 1, 0, 0, 0, 0), (23, .aload_n 0, 1, 0, 0, 0, 0), (24, .iload_n 1, 1, 0, 0, 0, 0), (25, .invokevirtual 473, 3, 0, 66, 8163, 12), (28, .istore_n 3, 1, 0, 0, 0, 0), (29, .iload_n 2, 1, 0, 0, 0, 0), (30, .ifCond .ne 10, 3, 40, 0, 0, 0)]
def tC67_1 : List eN := [(33, .iload_n 3, 1, 0, 0, 0, 0), (34, .invokestatic 458, 3, 1, 15, 8098, 12), (37, .goto 4, 3, 41, 0, 0, 0), (40, .iload_n 3, 1, 0, 0, 0, 0), (41, .ireturn, 1, 0, 0, 0, 0)]
def tC67 : List (List eN) := [tC67_0, tC67_1]
def tM67 : eM := (tC67, 4, 0, 0, 1, 2)
def tY67 : eY := (⟨"FuseTreatyModel", "went", "(II)I"⟩, prog_14_method_111_code, (some .int))
def tC68_0 : List eN := [(0, .iload_n 1, 1, 0, 0, 0, 0), (1, .iconst 0, 1, 0, 0, 0, 0), (2, .aload_n 0, 1, 0, 0, 0, 0), (3, .getfield 260, 3, 12, 63, 6093, 0), (6, .invokestatic 323, 3, 1, 13, 7128, 12), (9, .ifCond .ne 5, 3, 14, 0, 0, 0), (12, .iconst (-1), 1, 0, 0, 0, 0), (13, .ireturn, 1, 0, 0, 0, 0), (14, .aload_n 0, 1, 0, 0, 0, 0), (15, .iload_n 1, 1, 0, 0, 0, 0), (16, .invokevirtual 473, 3, 0, 66, 8163, 12), (19, .istore_n 2, 1, 0, 0, 0, 0), (20, .bipush (-2), 2, 0, 0, 0, 0), (22, .istore_n 3, 1, 0, 0, 0, 0), (23, .iconst 0, 1, 0, 0, 0, 0), (24, .istore 4, 2, 0, 0, 0, 0), (26, .iconst 0, 1, 0, 0, 0, 0), (27, .istore 5, 2, 0, 0, 0, 0), (29, .iload 5, 2, 0, 0, 0, 0), (31, .aload_n 0, 1, 0, 0, 0, 0)]
def tC68_1 : List eN := [(32, .getfield 46, 3, 12, 23, 6053, 5), (35, .aload_n 0, 1, 0, 0, 0, 0), (36, .getfield 239, 3, 12, 18, 6048, 0), (39, .iaload, 1, 0, 0, 0, 0), (40, .if_icmp .ge 113, 3, 153, 0, 0, 0)]
def tC68_2 : List eN := []
def tC68_3 : List eN := []
def tC68_4 : List eN := [(153, .iload_n 3, 1, 0, 0, 0, 0), (154, .ireturn, 1, 0, 0, 0, 0)]
def tC68 : List (List eN) := [tC68_0, tC68_1, tC68_2, tC68_3, tC68_4]
def tM68 : eM := (tC68, 8, 0, 0, 1, 1)
def tY68 : eY := (⟨"FuseTreatyModel", "ask", "(I)I"⟩, prog_14_method_112_code, (some .int))
def tC69_0 : List eN := [(0, .iload_n 1, 1, 0, 0, 0, 0), (1, .iconst 0, 1, 0, 0, 0, 0), (2, .iconst 2, 1, 0, 0, 0, 0), (3, .invokestatic 323, 3, 1, 13, 7128, 12), (6, .ifCond .ne 5, 3, 11, 0, 0, 0), (9, .iconst 0, 1, 0, 0, 0, 0), (10, .ireturn, 1, 0, 0, 0, 0), (11, .aload_n 0, 1, 0, 0, 0, 0), (12, .getfield 152, 3, 12, 67, 6097, 5), (15, .iload_n 1, 1, 0, 0, 0, 0), (16, .iconst 1, 1, 0, 0, 0, 0), (17, .bastore, 1, 0, 0, 0, 0), (18, .iconst 0, 1, 0, 0, 0, 0), (19, .istore_n 2, 1, 0, 0, 0, 0), (20, .iload_n 2, 1, 0, 0, 0, 0), (21, .bipush 58, 2, 0, 0, 0, 0), (23, .if_icmp .ge 26, 3, 49, 0, 0, 0), (26, .aload_n 0, 1, 0, 0, 0, 0), (27, .getfield 155, 3, 12, 68, 6098, 5), (30, .bipush 58, 2, 0, 0, 0, 0)]
def tC69_1 : List eN := [(32, .iload_n 1, 1, 0, 0, 0, 0), (33, .imul, 1, 0, 0, 0, 0), (34, .iload_n 2, 1, 0, 0, 0, 0), (35, .iadd, 1, 0, 0, 0, 0), (36, .aload_n 0, 1, 0, 0, 0, 0), (37, .getfield 128, 3, 12, 54, 6084, 5), (40, .iload_n 2, 1, 0, 0, 0, 0), (41, .iaload, 1, 0, 0, 0, 0), (42, .iastore, 1, 0, 0, 0, 0), (43, .iinc 2 1, 3, 0, 0, 0, 0), (46, .goto (-26), 3, 20, 0, 0, 0), (49, .iconst 1, 1, 0, 0, 0, 0), (50, .ireturn, 1, 0, 0, 0, 0)]
def tC69 : List (List eN) := [tC69_0, tC69_1]
def tM69 : eM := (tC69, 3, 0, 0, 2, 1)
def tY69 : eY := (⟨"FuseTreatyModel", "hold", "(I)Z"⟩, prog_14_method_113_code, (some .boolean))
def tC70_0 : List eN := [(0, .iload_n 1, 1, 0, 0, 0, 0), (1, .iconst 0, 1, 0, 0, 0, 0), (2, .iconst 2, 1, 0, 0, 0, 0), (3, .invokestatic 323, 3, 1, 13, 7128, 12), (6, .ifCond .eq 12, 3, 18, 0, 0, 0), (9, .aload_n 0, 1, 0, 0, 0, 0), (10, .getfield 152, 3, 12, 67, 6097, 5), (13, .iload_n 1, 1, 0, 0, 0, 0), (14, .baload, 1, 0, 0, 0, 0), (15, .ifCond .ne 5, 3, 20, 0, 0, 0), (18, .iconst 0, 1, 0, 0, 0, 0), (19, .ireturn, 1, 0, 0, 0, 0)]
def tC70 : List (List eN) := [tC70_0]
def tM70 : eM := (tC70, 3, 0, 0, 2, 1)
def tY70 : eY := (⟨"FuseTreatyModel", "restore", "(I)Z"⟩, prog_14_method_114_code, (some .boolean))
def tC71_0 : List eN := [(0, .aload_n 0, 1, 0, 0, 0, 0), (1, .invokevirtual 416, 3, 0, 21, 7131, 12), (4, .iconst 0, 1, 0, 0, 0, 0), (5, .istore_n 2, 1, 0, 0, 0, 0), (6, .iload_n 1, 1, 0, 0, 0, 0), (7, .tableswitch 296 0 15 #[77, 87, 97, 107, 115, 123, 131, 136, 141, 146, 151, 156, 161, 206, 219, 256], 77, 0, 0, 0, 0)]
def tC71_1 : List eN := []
def tC71_2 : List eN := [(84, .aload_n 0, 1, 0, 0, 0, 0), (85, .getfield 46, 3, 12, 23, 6053, 5), (88, .aload_n 0, 1, 0, 0, 0, 0), (89, .getfield 239, 3, 12, 18, 6048, 0), (92, .iaload, 1, 0, 0, 0, 0), (93, .ireturn, 1, 0, 0, 0, 0), (94, .aload_n 0, 1, 0, 0, 0, 0), (95, .getfield 52, 3, 12, 25, 6055, 5)]
def tC71_3 : List eN := [(98, .aload_n 0, 1, 0, 0, 0, 0), (99, .getfield 239, 3, 12, 18, 6048, 0), (102, .iaload, 1, 0, 0, 0, 0), (103, .ireturn, 1, 0, 0, 0, 0), (104, .aload_n 0, 1, 0, 0, 0, 0), (105, .getfield 64, 3, 12, 29, 6059, 5), (108, .aload_n 0, 1, 0, 0, 0, 0), (109, .getfield 239, 3, 12, 18, 6048, 0), (112, .iaload, 1, 0, 0, 0, 0), (113, .ireturn, 1, 0, 0, 0, 0), (114, .aload_n 0, 1, 0, 0, 0, 0), (115, .getfield 131, 3, 12, 55, 6085, 5), (118, .bipush 55, 2, 0, 0, 0, 0), (120, .iaload, 1, 0, 0, 0, 0), (121, .ireturn, 1, 0, 0, 0, 0), (122, .aload_n 0, 1, 0, 0, 0, 0), (123, .getfield 131, 3, 12, 55, 6085, 5), (126, .bipush 56, 2, 0, 0, 0, 0)]
def tC71_4 : List eN := [(128, .iaload, 1, 0, 0, 0, 0), (129, .ireturn, 1, 0, 0, 0, 0), (130, .aload_n 0, 1, 0, 0, 0, 0), (131, .getfield 131, 3, 12, 55, 6085, 5), (134, .bipush 57, 2, 0, 0, 0, 0), (136, .iaload, 1, 0, 0, 0, 0), (137, .ireturn, 1, 0, 0, 0, 0), (138, .aload_n 0, 1, 0, 0, 0, 0), (139, .invokevirtual 455, 3, 0, 53, 8094, 12), (142, .ireturn, 1, 0, 0, 0, 0), (143, .aload_n 0, 1, 0, 0, 0, 0), (144, .invokevirtual 467, 3, 0, 25, 8123, 12), (147, .ireturn, 1, 0, 0, 0, 0), (148, .aload_n 0, 1, 0, 0, 0, 0), (149, .invokevirtual 389, 3, 0, 27, 7182, 12), (152, .ireturn, 1, 0, 0, 0, 0), (153, .aload_n 0, 1, 0, 0, 0, 0), (154, .getfield 172, 3, 12, 2, 6032, 0), (157, .ireturn, 1, 0, 0, 0, 0), (158, .aload_n 0, 1, 0, 0, 0, 0), (159, .getfield 257, 3, 12, 61, 6091, 0)]
def tC71_5 : List eN := [(162, .ireturn, 1, 0, 0, 0, 0), (163, .aload_n 0, 1, 0, 0, 0, 0), (164, .getfield 260, 3, 12, 63, 6093, 0), (167, .ireturn, 1, 0, 0, 0, 0), (168, .aload_n 0, 1, 0, 0, 0, 0), (169, .getfield 152, 3, 12, 67, 6097, 5), (172, .iconst 0, 1, 0, 0, 0, 0), (173, .baload, 1, 0, 0, 0, 0), (174, .ifCond .eq 7, 3, 181, 0, 0, 0), (181, .iconst 0, 1, 0, 0, 0, 0), (182, .aload_n 0, 1, 0, 0, 0, 0), (183, .getfield 152, 3, 12, 67, 6097, 5), (186, .iconst 1, 1, 0, 0, 0, 0), (187, .baload, 1, 0, 0, 0, 0), (188, .ifCond .eq 7, 3, 195, 0, 0, 0)]
def tC71_6 : List eN := [(195, .iconst 0, 1, 0, 0, 0, 0), (196, .iadd, 1, 0, 0, 0, 0), (197, .aload_n 0, 1, 0, 0, 0, 0), (198, .getfield 152, 3, 12, 67, 6097, 5), (201, .iconst 2, 1, 0, 0, 0, 0), (202, .baload, 1, 0, 0, 0, 0), (203, .ifCond .eq 7, 3, 210, 0, 0, 0), (210, .iconst 0, 1, 0, 0, 0, 0), (211, .iadd, 1, 0, 0, 0, 0), (212, .ireturn, 1, 0, 0, 0, 0), (213, .aload_n 0, 1, 0, 0, 0, 0), (214, .invokevirtual 392, 3, 0, 23, 8021, 12), (217, .ifCond .eq 7, 3, 224, 0, 0, 0)]
def tC71_7 : List eN := [(224, .iconst 0, 1, 0, 0, 0, 0), (225, .ireturn, 1, 0, 0, 0, 0), (226, .iconst 0, 1, 0, 0, 0, 0), (227, .istore_n 3, 1, 0, 0, 0, 0), (228, .iload_n 3, 1, 0, 0, 0, 0), (229, .aload_n 0, 1, 0, 0, 0, 0), (230, .getfield 52, 3, 12, 25, 6055, 5), (233, .aload_n 0, 1, 0, 0, 0, 0), (234, .getfield 239, 3, 12, 18, 6048, 0), (237, .iaload, 1, 0, 0, 0, 0), (238, .if_icmp .ge 23, 3, 261, 0, 0, 0)]
def tC71_8 : List eN := [(261, .iload_n 2, 1, 0, 0, 0, 0), (262, .ireturn, 1, 0, 0, 0, 0), (263, .iconst 0, 1, 0, 0, 0, 0), (264, .istore_n 3, 1, 0, 0, 0, 0), (265, .iload_n 3, 1, 0, 0, 0, 0), (266, .aload_n 0, 1, 0, 0, 0, 0), (267, .getfield 52, 3, 12, 25, 6055, 5), (270, .aload_n 0, 1, 0, 0, 0, 0), (271, .getfield 239, 3, 12, 18, 6048, 0), (274, .iaload, 1, 0, 0, 0, 0), (275, .if_icmp .ge 26, 3, 301, 0, 0, 0)]
def tC71_9 : List eN := [(301, .iload_n 2, 1, 0, 0, 0, 0), (302, .ireturn, 1, 0, 0, 0, 0), (303, .iconst (-1), 1, 0, 0, 0, 0), (304, .ireturn, 1, 0, 0, 0, 0)]
def tC71 : List (List eN) := [tC71_0, tC71_1, tC71_2, tC71_3, tC71_4, tC71_5, tC71_6, tC71_7, tC71_8, tC71_9]
def tM71 : eM := (tC71, 4, 0, 0, 1, 1)
def tY71 : eY := (⟨"FuseTreatyModel", "count", "(I)I"⟩, prog_14_method_115_code, (some .int))
def tC72_0 : List eN := [(0, .aload_n 0, 1, 0, 0, 0, 0), (1, .invokespecial 3, 3, 6, 0, 2145, 0), (4, .aload_n 0, 1, 0, 0, 0, 0), (5, .bipush 9, 2, 0, 0, 0, 0), (7, .newarray .int, 2, 0, 0, 1064, 0), (9, .putfield 9, 3, 0, 2, 2179, 5), (12, .aload_n 0, 1, 0, 0, 0, 0), (13, .bipush 10, 2, 0, 0, 0, 0), (15, .newarray .int, 2, 0, 0, 1064, 0), (17, .putfield 15, 3, 0, 3, 2180, 5), (20, .aload_n 0, 1, 0, 0, 0, 0), (21, .aload_n 1, 1, 0, 0, 0, 0), (22, .putfield 18, 3, 0, 0, 2177, 5), (25, .aload_n 0, 1, 0, 0, 0, 0), (26, .new 22, 3, 10, 2146, 2147, 1014), (29, .dup, 1, 0, 0, 0, 0), (30, .aload_n 1, 1, 0, 0, 0, 0), (31, .invokespecial 24, 3, 2, 135, 2148, 10)]
def tC72_1 : List eN := [(34, .putfield 27, 3, 0, 1, 2178, 5), (37, .return_, 1, 0, 0, 0, 0)]
def tC72 : List (List eN) := [tC72_0, tC72_1]
def tM72 : eM := (tC72, 2, 6, 46, 0, 1)
def tY72 : eY := (⟨"FuseTreaty$Current", "<init>", "(LFuseTreaty$House;)V"⟩, prog_2_method_1_code, none)
def tC73_0 : List eN := [(0, .aload_n 0, 1, 0, 0, 0, 0), (1, .getfield 27, 3, 0, 1, 2178, 5), (4, .invokevirtual 31, 3, 0, 136, 4045, 10), (7, .return_, 1, 0, 0, 0, 0)]
def tC73 : List (List eN) := [tC73_0]
def tM73 : eM := (tC73, 1, 0, 0, 0, 0)
def tY73 : eY := (⟨"FuseTreaty$Current", "houseIsNew", "()V"⟩, prog_2_method_2_code, none)
def tC74_0 : List eN := [(0, .aload_n 0, 1, 0, 0, 0, 0), (1, .getfield 27, 3, 0, 1, 2178, 5), (4, .aload_n 1, 1, 0, 0, 0, 0), (5, .getfield 34, 3, 7, 3, 2078, 0), (8, .invokevirtual 40, 3, 0, 137, 4077, 10), (11, .aload_n 0, 1, 0, 0, 0, 0), (12, .getfield 27, 3, 0, 1, 2178, 5), (15, .areturn, 1, 0, 0, 0, 0)]
def tC74 : List (List eN) := [tC74_0]
def tM74 : eM := (tC74, 2, 0, 0, 4, 1)
def tY74 : eY := (⟨"FuseTreaty$Current", "waysNow", "(LFuseTreaty$State;)LFuseTreaty$Ways;"⟩, prog_2_method_3_code, (some (.object "FuseTreaty$Ways")))
def tC75_0 : List eN := [(0, .aload_n 0, 1, 0, 0, 0, 0), (1, .aload_n 1, 1, 0, 0, 0, 0), (2, .aload_n 1, 1, 0, 0, 0, 0), (3, .invokevirtual 44, 3, 0, 124, 4094, 7), (6, .invokevirtual 48, 3, 0, 76, 4130, 0), (9, .ireturn, 1, 0, 0, 0, 0)]
def tC75 : List (List eN) := [tC75_0]
def tM75 : eM := (tC75, 2, 0, 0, 1, 1)
def tY75 : eY := (⟨"FuseTreaty$Current", "usesNow", "(LFuseTreaty$State;)I"⟩, prog_2_method_4_code, (some .int))
def tC76_0 : List eN := [(0, .aload_n 0, 1, 0, 0, 0, 0), (1, .getfield 27, 3, 0, 1, 2178, 5), (4, .aload_n 1, 1, 0, 0, 0, 0), (5, .getfield 34, 3, 7, 3, 2078, 0), (8, .invokevirtual 40, 3, 0, 137, 4077, 10), (11, .iconst 0, 1, 0, 0, 0, 0), (12, .istore_n 3, 1, 0, 0, 0, 0), (13, .iconst 0, 1, 0, 0, 0, 0), (14, .istore 4, 2, 0, 0, 0, 0), (16, .iload 4, 2, 0, 0, 0, 0), (18, .aload_n 0, 1, 0, 0, 0, 0), (19, .getfield 18, 3, 0, 0, 2177, 5), (22, .getfield 52, 3, 3, 2, 1080, 0), (25, .if_icmp .ge 91, 3, 116, 0, 0, 0)]
def tC76_1 : List eN := []
def tC76_2 : List eN := []
def tC76_3 : List eN := [(116, .iload_n 3, 1, 0, 0, 0, 0), (117, .ireturn, 1, 0, 0, 0, 0)]
def tC76 : List (List eN) := [tC76_0, tC76_1, tC76_2, tC76_3]
def tM76 : eM := (tC76, 6, 0, 0, 1, 2)
def tY76 : eY := (⟨"FuseTreaty$Current", "usesAt", "(LFuseTreaty$State;I)I"⟩, prog_2_method_5_code, (some .int))
def tC77_0 : List eN := [(0, .aload_n 0, 1, 0, 0, 0, 0), (1, .getfield 27, 3, 0, 1, 2178, 5), (4, .aload_n 1, 1, 0, 0, 0, 0), (5, .getfield 34, 3, 7, 3, 2078, 0), (8, .invokevirtual 40, 3, 0, 137, 4077, 10), (11, .aload_n 0, 1, 0, 0, 0, 0), (12, .getfield 15, 3, 0, 3, 2180, 5), (15, .iconst 0, 1, 0, 0, 0, 0), (16, .invokestatic 79, 3, 1, 181, 4106, 0), (19, .iconst 0, 1, 0, 0, 0, 0), (20, .istore_n 3, 1, 0, 0, 0, 0), (21, .iload_n 3, 1, 0, 0, 0, 0), (22, .aload_n 0, 1, 0, 0, 0, 0), (23, .getfield 18, 3, 0, 0, 2177, 5), (26, .getfield 52, 3, 3, 2, 1080, 0), (29, .if_icmp .ge 102, 3, 131, 0, 0, 0)]
def tC77_1 : List eN := []
def tC77_2 : List eN := []
def tC77_3 : List eN := []
def tC77_4 : List eN := [(131, .return_, 1, 0, 0, 0, 0)]
def tC77 : List (List eN) := [tC77_0, tC77_1, tC77_2, tC77_3, tC77_4]
def tM77 : eM := (tC77, 6, 0, 0, 0, 2)
def tY77 : eY := (⟨"FuseTreaty$Current", "putOn", "(LFuseTreaty$State;I)V"⟩, prog_2_method_7_code, none)
def tC78_0 : List eN := [(0, .iconst 0, 1, 0, 0, 0, 0), (1, .istore 4, 2, 0, 0, 0, 0), (3, .iconst 0, 1, 0, 0, 0, 0), (4, .istore 5, 2, 0, 0, 0, 0), (6, .iload 5, 2, 0, 0, 0, 0), (8, .aload_n 0, 1, 0, 0, 0, 0), (9, .getfield 18, 3, 0, 0, 2177, 5), (12, .getfield 88, 3, 3, 1, 1075, 0), (15, .if_icmp .ge 110, 3, 125, 0, 0, 0)]
def tC78_1 : List eN := []
def tC78_2 : List eN := []
def tC78_3 : List eN := [(125, .iload 4, 2, 0, 0, 0, 0), (127, .ireturn, 1, 0, 0, 0, 0)]
def tC78 : List (List eN) := [tC78_0, tC78_1, tC78_2, tC78_3]
def tM78 : eM := (tC78, 6, 0, 0, 1, 3)
def tY78 : eY := (⟨"FuseTreaty$Current", "going", "(LFuseTreaty$State;II)I"⟩, prog_2_method_11_code, (some .int))
def tC79_0 : List eN := [(0, .bipush 100, 2, 0, 0, 0, 0), (2, .iload_n 1, 1, 0, 0, 0, 0), (3, .iconst 4, 1, 0, 0, 0, 0), (4, .iload_n 2, 1, 0, 0, 0, 0), (5, .imul, 1, 0, 0, 0, 0), (6, .invokestatic 151, 3, 1, 81, 4237, 0), (9, .aload_n 0, 1, 0, 0, 0, 0), (10, .getfield 18, 3, 0, 0, 2177, 5), (13, .getfield 155, 3, 3, 3, 1086, 0), (16, .if_icmp .ge 7, 3, 23, 0, 0, 0), (23, .iconst 0, 1, 0, 0, 0, 0), (24, .ireturn, 1, 0, 0, 0, 0)]
def tC79 : List (List eN) := [tC79_0]
def tM79 : eM := (tC79, 3, 0, 0, 2, 2)
def tY79 : eY := (⟨"FuseTreaty$Current", "isSurge", "(II)Z"⟩, prog_2_method_17_code, (some .boolean))
def tC80_0 : List eN := [(0, .aload_n 0, 1, 0, 0, 0, 0), (1, .iload_n 1, 1, 0, 0, 0, 0), (2, .iload_n 2, 1, 0, 0, 0, 0), (3, .invokevirtual 158, 3, 0, 79, 4233, 0), (6, .ifCond .eq 13, 3, 19, 0, 0, 0), (19, .iconst 0, 1, 0, 0, 0, 0), (20, .ireturn, 1, 0, 0, 0, 0)]
def tC80 : List (List eN) := [tC80_0]
def tM80 : eM := (tC80, 3, 0, 0, 1, 2)
def tY80 : eY := (⟨"FuseTreaty$Current", "surgeOf", "(II)I"⟩, prog_2_method_18_code, (some .int))
def tC81_0 : List eN := [(0, .iload_n 1, 1, 0, 0, 0, 0), (1, .sipush 129, 3, 0, 0, 0, 0), (4, .invokestatic 164, 3, 1, 82, 5000, 0), (7, .iload_n 2, 1, 0, 0, 0, 0), (8, .invokestatic 164, 3, 1, 82, 5000, 0), (11, .istore_n 3, 1, 0, 0, 0, 0), (12, .iload_n 0, 1, 0, 0, 0, 0), (13, .ifCond .le 11, 3, 24, 0, 0, 0), (16, .iload_n 3, 1, 0, 0, 0, 0), (17, .iconst 1, 1, 0, 0, 0, 0), (18, .iushr, 1, 0, 0, 0, 0), (19, .iload_n 0, 1, 0, 0, 0, 0), (20, .irem, 1, 0, 0, 0, 0), (21, .goto 4, 3, 25, 0, 0, 0), (25, .ireturn, 1, 0, 0, 0, 0)]
def tC81 : List (List eN) := [tC81_0]
def tM81 : eM := (tC81, 4, 0, 0, 1, 3)
def tY81 : eY := (⟨"FuseTreaty$Current", "lot", "(III)I"⟩, prog_2_method_19_code, (some .int))
def tC82_0 : List eN := [(0, .iload_n 0, 1, 0, 0, 0, 0), (1, .iload_n 1, 1, 0, 0, 0, 0), (2, .ixor, 1, 0, 0, 0, 0), (3, .ldc 167, 2, 1103515245, 0, 5003, 0), (5, .imul, 1, 0, 0, 0, 0), (6, .sipush 12345, 3, 0, 0, 0, 0), (9, .iadd, 1, 0, 0, 0, 0), (10, .istore_n 2, 1, 0, 0, 0, 0), (11, .iload_n 2, 1, 0, 0, 0, 0), (12, .iload_n 2, 1, 0, 0, 0, 0), (13, .bipush 15, 2, 0, 0, 0, 0), (15, .iushr, 1, 0, 0, 0, 0), (16, .ixor, 1, 0, 0, 0, 0), (17, .ireturn, 1, 0, 0, 0, 0)]
def tC82 : List (List eN) := [tC82_0]
def tM82 : eM := (tC82, 3, 0, 0, 1, 2)
def tY82 : eY := (⟨"FuseTreaty$Current", "stirred", "(II)I"⟩, prog_2_method_20_code, (some .int))
def tC83_0 : List eN := [(0, .aload_n 0, 1, 0, 0, 0, 0), (1, .aload_n 1, 1, 0, 0, 0, 0), (2, .invokevirtual 168, 3, 0, 84, 4217, 0), (5, .aload_n 0, 1, 0, 0, 0, 0), (6, .aload_n 1, 1, 0, 0, 0, 0), (7, .invokevirtual 172, 3, 0, 85, 4223, 0), (10, .aload_n 0, 1, 0, 0, 0, 0), (11, .aload_n 1, 1, 0, 0, 0, 0), (12, .aload_n 0, 1, 0, 0, 0, 0), (13, .aload_n 0, 1, 0, 0, 0, 0), (14, .getfield 18, 3, 0, 0, 2177, 5), (17, .getfield 175, 3, 3, 6, 1096, 0), (20, .aload_n 1, 1, 0, 0, 0, 0), (21, .getfield 178, 3, 7, 0, 2070, 0), (24, .invokevirtual 181, 3, 0, 80, 4229, 0), (27, .invokevirtual 184, 3, 0, 86, 5004, 0), (30, .pop, 1, 0, 0, 0, 0), (31, .return_, 1, 0, 0, 0, 0)]
def tC83 : List (List eN) := [tC83_0]
def tM83 : eM := (tC83, 2, 0, 0, 0, 1)
def tY83 : eY := (⟨"FuseTreaty$Current", "passHour", "(LFuseTreaty$State;)V"⟩, prog_2_method_21_code, none)
def tC84_0 : List eN := [(0, .aload_n 0, 1, 0, 0, 0, 0), (1, .aload_n 1, 1, 0, 0, 0, 0), (2, .aload_n 1, 1, 0, 0, 0, 0), (3, .invokevirtual 44, 3, 0, 124, 4094, 7), (6, .invokevirtual 48, 3, 0, 76, 4130, 0), (9, .istore_n 2, 1, 0, 0, 0, 0), (10, .iconst 0, 1, 0, 0, 0, 0), (11, .istore_n 3, 1, 0, 0, 0, 0), (12, .iload_n 3, 1, 0, 0, 0, 0), (13, .aload_n 0, 1, 0, 0, 0, 0), (14, .getfield 18, 3, 0, 0, 2177, 5), (17, .getfield 52, 3, 3, 2, 1080, 0), (20, .if_icmp .ge 37, 3, 57, 0, 0, 0)]
def tC84_1 : List eN := [(57, .return_, 1, 0, 0, 0, 0)]
def tC84 : List (List eN) := [tC84_0, tC84_1]
def tM84 : eM := (tC84, 4, 0, 0, 0, 1)
def tY84 : eY := (⟨"FuseTreaty$Current", "takePay", "(LFuseTreaty$State;)V"⟩, prog_2_method_22_code, none)
def tC85_0 : List eN := [(0, .aload_n 0, 1, 0, 0, 0, 0), (1, .getfield 27, 3, 0, 1, 2178, 5), (4, .aload_n 1, 1, 0, 0, 0, 0), (5, .getfield 34, 3, 7, 3, 2078, 0), (8, .invokevirtual 40, 3, 0, 137, 4077, 10), (11, .iconst 0, 1, 0, 0, 0, 0), (12, .istore_n 2, 1, 0, 0, 0, 0), (13, .iload_n 2, 1, 0, 0, 0, 0), (14, .aload_n 0, 1, 0, 0, 0, 0), (15, .getfield 18, 3, 0, 0, 2177, 5), (18, .getfield 194, 3, 3, 0, 1070, 0), (21, .if_icmp .ge 63, 3, 84, 0, 0, 0)]
def tC85_1 : List eN := []
def tC85_2 : List eN := [(84, .return_, 1, 0, 0, 0, 0)]
def tC85 : List (List eN) := [tC85_0, tC85_1, tC85_2]
def tM85 : eM := (tC85, 3, 0, 0, 0, 1)
def tY85 : eY := (⟨"FuseTreaty$Current", "countQuarrels", "(LFuseTreaty$State;)V"⟩, prog_2_method_23_code, none)
def tC86_0 : List eN := [(0, .aload_n 0, 1, 0, 0, 0, 0), (1, .aload_n 1, 1, 0, 0, 0, 0), (2, .aload_n 0, 1, 0, 0, 0, 0), (3, .aload_n 1, 1, 0, 0, 0, 0), (4, .aload_n 1, 1, 0, 0, 0, 0), (5, .invokevirtual 44, 3, 0, 124, 4094, 7), (8, .invokevirtual 48, 3, 0, 76, 4130, 0), (11, .invokevirtual 95, 3, 0, 77, 4152, 0), (14, .aload_n 0, 1, 0, 0, 0, 0), (15, .aload_n 1, 1, 0, 0, 0, 0), (16, .aload_n 1, 1, 0, 0, 0, 0), (17, .invokevirtual 44, 3, 0, 124, 4094, 7), (20, .iload_n 2, 1, 0, 0, 0, 0), (21, .invokevirtual 102, 3, 0, 78, 4168, 0), (24, .istore_n 3, 1, 0, 0, 0, 0), (25, .aload_n 1, 1, 0, 0, 0, 0), (26, .dup, 1, 0, 0, 0, 0), (27, .getfield 34, 3, 7, 3, 2078, 0), (30, .iload_n 3, 1, 0, 0, 0, 0), (31, .ior, 1, 0, 0, 0, 0)]
def tC86_1 : List eN := [(32, .putfield 34, 3, 7, 3, 2078, 0), (35, .iconst 0, 1, 0, 0, 0, 0), (36, .istore 4, 2, 0, 0, 0, 0), (38, .iload 4, 2, 0, 0, 0, 0), (40, .aload_n 0, 1, 0, 0, 0, 0), (41, .getfield 18, 3, 0, 0, 2177, 5), (44, .getfield 88, 3, 3, 1, 1075, 0), (47, .if_icmp .ge 43, 3, 90, 0, 0, 0)]
def tC86_2 : List eN := [(90, .aload_n 1, 1, 0, 0, 0, 0), (91, .dup, 1, 0, 0, 0, 0), (92, .getfield 178, 3, 7, 0, 2070, 0), (95, .iconst 1, 1, 0, 0, 0, 0)]
def tC86_3 : List eN := [(96, .iadd, 1, 0, 0, 0, 0), (97, .putfield 178, 3, 7, 0, 2070, 0), (100, .iload_n 3, 1, 0, 0, 0, 0), (101, .ireturn, 1, 0, 0, 0, 0)]
def tC86 : List (List eN) := [tC86_0, tC86_1, tC86_2, tC86_3]
def tM86 : eM := (tC86, 5, 0, 0, 1, 2)
def tY86 : eY := (⟨"FuseTreaty$Current", "passWires", "(LFuseTreaty$State;I)I"⟩, prog_2_method_24_code, (some .int))
def tC87_0 : List eN := [(0, .aload_n 0, 1, 0, 0, 0, 0), (1, .invokespecial 3, 3, 6, 0, 2197, 0), (4, .aload_n 0, 1, 0, 0, 0, 0), (5, .new 9, 3, 7, 2198, 2062, 1011), (8, .dup, 1, 0, 0, 0, 0), (9, .invokespecial 11, 3, 5, 120, 4, 7), (12, .putfield 12, 3, 1, 2, 2202, 5), (15, .aload_n 0, 1, 0, 0, 0, 0), (16, .bipush 8, 2, 0, 0, 0, 0), (18, .newarray .int, 2, 0, 0, 1064, 0), (20, .putfield 18, 3, 1, 3, 2203, 5), (23, .aload_n 0, 1, 0, 0, 0, 0), (24, .iconst 0, 1, 0, 0, 0, 0), (25, .putfield 22, 3, 1, 4, 2204, 0), (28, .aload_n 0, 1, 0, 0, 0, 0), (29, .aload_n 1, 1, 0, 0, 0, 0), (30, .putfield 26, 3, 1, 0, 2200, 5)]
def tC87_1 : List eN := [(33, .aload_n 0, 1, 0, 0, 0, 0), (34, .aload_n 2, 1, 0, 0, 0, 0), (35, .putfield 30, 3, 1, 1, 2201, 5), (38, .return_, 1, 0, 0, 0, 0)]
def tC87 : List (List eN) := [tC87_0, tC87_1]
def tM87 : eM := (tC87, 3, 5, 44, 0, 2)
def tY87 : eY := (⟨"FuseTreaty$Foresight", "<init>", "(LFuseTreaty$House;LFuseTreaty$Current;)V"⟩, prog_3_method_1_code, none)
def tC88_0 : List eN := [(0, .aload_n 0, 1, 0, 0, 0, 0), (1, .getfield 12, 3, 1, 2, 2202, 5), (4, .aload_n 1, 1, 0, 0, 0, 0), (5, .invokevirtual 34, 3, 0, 122, 5036, 7), (8, .aload_n 0, 1, 0, 0, 0, 0), (9, .invokevirtual 47, 3, 0, 89, 5049, 1), (12, .ireturn, 1, 0, 0, 0, 0)]
def tC88 : List (List eN) := [tC88_0]
def tM88 : eM := (tC88, 2, 0, 0, 1, 1)
def tY88 : eY := (⟨"FuseTreaty$Foresight", "firstGone", "(LFuseTreaty$State;)I"⟩, prog_3_method_3_code, (some .int))
def tC89_0 : List eN := [(0, .aload_n 0, 1, 0, 0, 0, 0), (1, .iconst 0, 1, 0, 0, 0, 0), (2, .putfield 22, 3, 1, 4, 2204, 0), (5, .iconst 1, 1, 0, 0, 0, 0), (6, .istore_n 1, 1, 0, 0, 0, 0), (7, .iload_n 1, 1, 0, 0, 0, 0), (8, .sipush 200, 3, 0, 0, 0, 0), (11, .if_icmp .gt 34, 3, 45, 0, 0, 0), (14, .aload_n 0, 1, 0, 0, 0, 0), (15, .aload_n 0, 1, 0, 0, 0, 0), (16, .getfield 30, 3, 1, 1, 2201, 5), (19, .aload_n 0, 1, 0, 0, 0, 0), (20, .getfield 12, 3, 1, 2, 2202, 5), (23, .iconst 0, 1, 0, 0, 0, 0), (24, .invokevirtual 38, 3, 0, 86, 5040, 0), (27, .putfield 22, 3, 1, 4, 2204, 0), (30, .aload_n 0, 1, 0, 0, 0, 0), (31, .getfield 22, 3, 1, 4, 2204, 0)]
def tC89_1 : List eN := [(34, .ifCond .eq 5, 3, 39, 0, 0, 0), (39, .iinc 1 1, 3, 0, 0, 0, 0), (42, .goto (-35), 3, 7, 0, 0, 0), (45, .sipush 201, 3, 0, 0, 0, 0), (48, .ireturn, 1, 0, 0, 0, 0)]
def tC89 : List (List eN) := [tC89_0, tC89_1]
def tM89 : eM := (tC89, 2, 0, 0, 1, 0)
def tY89 : eY := (⟨"FuseTreaty$Foresight", "trialTillGone", "()I"⟩, prog_3_method_5_code, (some .int))
def tC90_0 : List eN := [(0, .aload_n 0, 1, 0, 0, 0, 0), (1, .getfield 12, 3, 1, 2, 2202, 5), (4, .aload_n 1, 1, 0, 0, 0, 0), (5, .invokevirtual 34, 3, 0, 122, 5036, 7), (8, .aload_n 0, 1, 0, 0, 0, 0), (9, .invokevirtual 47, 3, 0, 89, 5049, 1), (12, .istore_n 3, 1, 0, 0, 0, 0), (13, .bipush (-2), 2, 0, 0, 0, 0), (15, .istore 4, 2, 0, 0, 0, 0), (17, .iconst 0, 1, 0, 0, 0, 0), (18, .istore 5, 2, 0, 0, 0, 0), (20, .iload 5, 2, 0, 0, 0, 0), (22, .aload_n 0, 1, 0, 0, 0, 0), (23, .getfield 26, 3, 1, 0, 2200, 5), (26, .getfield 55, 3, 3, 1, 1074, 0), (29, .if_icmp .ge 82, 3, 111, 0, 0, 0)]
def tC90_1 : List eN := []
def tC90_2 : List eN := []
def tC90_3 : List eN := [(111, .iload 4, 2, 0, 0, 0, 0), (113, .ireturn, 1, 0, 0, 0, 0)]
def tC90 : List (List eN) := [tC90_0, tC90_1, tC90_2, tC90_3]
def tM90 : eM := (tC90, 7, 0, 0, 1, 2)
def tY90 : eY := (⟨"FuseTreaty$Foresight", "bestThicker", "(LFuseTreaty$State;I)I"⟩, prog_3_method_6_code, (some .int))
def tC91_0 : List eN := [(0, .aload_n 0, 1, 0, 0, 0, 0), (1, .getfield 30, 3, 1, 1, 2201, 5), (4, .aload_n 1, 1, 0, 0, 0, 0), (5, .invokevirtual 75, 3, 0, 74, 5068, 0), (8, .getfield 79, 3, 10, 5, 2162, 0), (11, .istore_n 2, 1, 0, 0, 0, 0), (12, .iconst 0, 1, 0, 0, 0, 0), (13, .istore_n 3, 1, 0, 0, 0, 0), (14, .iconst 0, 1, 0, 0, 0, 0), (15, .istore 4, 2, 0, 0, 0, 0), (17, .iload 4, 2, 0, 0, 0, 0), (19, .aload_n 0, 1, 0, 0, 0, 0), (20, .getfield 26, 3, 1, 0, 2200, 5), (23, .getfield 84, 3, 3, 2, 1081, 0), (26, .if_icmp .ge 54, 3, 80, 0, 0, 0)]
def tC91_1 : List eN := []
def tC91_2 : List eN := [(80, .iconst 0, 1, 0, 0, 0, 0), (81, .istore 4, 2, 0, 0, 0, 0), (83, .iconst 0, 1, 0, 0, 0, 0), (84, .istore 5, 2, 0, 0, 0, 0), (86, .iconst 1, 1, 0, 0, 0, 0), (87, .istore 6, 2, 0, 0, 0, 0), (89, .iload 6, 2, 0, 0, 0, 0), (91, .iconst 1, 1, 0, 0, 0, 0), (92, .aload_n 0, 1, 0, 0, 0, 0), (93, .getfield 26, 3, 1, 0, 2200, 5)]
def tC91_3 : List eN := [(96, .getfield 84, 3, 3, 2, 1081, 0), (99, .ishl, 1, 0, 0, 0, 0), (100, .if_icmp .ge 54, 3, 154, 0, 0, 0)]
def tC91_4 : List eN := [(154, .iload 4, 2, 0, 0, 0, 0), (156, .ireturn, 1, 0, 0, 0, 0)]
def tC91 : List (List eN) := [tC91_0, tC91_1, tC91_2, tC91_3, tC91_4]
def tM91 : eM := (tC91, 7, 0, 0, 1, 1)
def tY91 : eY := (⟨"FuseTreaty$Foresight", "bestTogether", "(LFuseTreaty$State;)I"⟩, prog_3_method_7_code, (some .int))
def tC92_0 : List eN := [(0, .iconst 0, 1, 0, 0, 0, 0), (1, .istore_n 2, 1, 0, 0, 0, 0), (2, .iconst 0, 1, 0, 0, 0, 0), (3, .istore_n 3, 1, 0, 0, 0, 0), (4, .iload_n 3, 1, 0, 0, 0, 0), (5, .aload_n 0, 1, 0, 0, 0, 0), (6, .getfield 26, 3, 1, 0, 2200, 5), (9, .getfield 84, 3, 3, 2, 1081, 0), (12, .if_icmp .ge 30, 3, 42, 0, 0, 0)]
def tC92_1 : List eN := [(42, .iload_n 2, 1, 0, 0, 0, 0), (43, .ireturn, 1, 0, 0, 0, 0)]
def tC92 : List (List eN) := [tC92_0, tC92_1]
def tM92 : eM := (tC92, 4, 0, 0, 1, 1)
def tY92 : eY := (⟨"FuseTreaty$Foresight", "payOfAll", "(I)I"⟩, prog_3_method_8_code, (some .int))
def tC93_0 : List eN := [(0, .aload_n 0, 1, 0, 0, 0, 0), (1, .getfield 12, 3, 1, 2, 2202, 5), (4, .aload_n 1, 1, 0, 0, 0, 0), (5, .invokevirtual 34, 3, 0, 122, 5036, 7), (8, .iconst 0, 1, 0, 0, 0, 0), (9, .istore_n 3, 1, 0, 0, 0, 0), (10, .iload_n 3, 1, 0, 0, 0, 0), (11, .iload_n 2, 1, 0, 0, 0, 0), (12, .if_icmp .ge 20, 3, 32, 0, 0, 0), (15, .aload_n 0, 1, 0, 0, 0, 0), (16, .getfield 30, 3, 1, 1, 2201, 5), (19, .aload_n 0, 1, 0, 0, 0, 0), (20, .getfield 12, 3, 1, 2, 2202, 5), (23, .invokevirtual 129, 3, 0, 83, 5159, 0), (26, .iinc 3 1, 3, 0, 0, 0, 0), (29, .goto (-19), 3, 10, 0, 0, 0)]
def tC93_1 : List eN := [(32, .aload_n 0, 1, 0, 0, 0, 0), (33, .getfield 12, 3, 1, 2, 2202, 5), (36, .areturn, 1, 0, 0, 0, 0)]
def tC93 : List (List eN) := [tC93_0, tC93_1]
def tM93 : eM := (tC93, 4, 0, 0, 4, 2)
def tY93 : eY := (⟨"FuseTreaty$Foresight", "after", "(LFuseTreaty$State;I)LFuseTreaty$State;"⟩, prog_3_method_13_code, (some (.object "FuseTreaty$State")))
def tC94_0 : List eN := [(0, .iconst 0, 1, 0, 0, 0, 0), (1, .istore 4, 2, 0, 0, 0, 0), (3, .iconst 0, 1, 0, 0, 0, 0), (4, .istore 5, 2, 0, 0, 0, 0), (6, .iload 5, 2, 0, 0, 0, 0), (8, .iload_n 3, 1, 0, 0, 0, 0), (9, .if_icmp .ge 38, 3, 47, 0, 0, 0), (12, .iload 4, 2, 0, 0, 0, 0), (14, .aload_n 0, 1, 0, 0, 0, 0), (15, .aload_n 1, 1, 0, 0, 0, 0), (16, .iload_n 2, 1, 0, 0, 0, 0), (17, .aload_n 0, 1, 0, 0, 0, 0), (18, .getfield 26, 3, 1, 0, 2200, 5), (21, .getfield 132, 3, 3, 6, 1095, 0), (24, .iload 5, 2, 0, 0, 0, 0), (26, .iadd, 1, 0, 0, 0, 0), (27, .invokevirtual 135, 3, 0, 95, 5172, 1), (30, .ifCond .eq 7, 3, 37, 0, 0, 0)]
def tC94_1 : List eN := [(33, .iconst 1, 1, 0, 0, 0, 0), (34, .goto 4, 3, 38, 0, 0, 0), (38, .iadd, 1, 0, 0, 0, 0), (39, .istore 4, 2, 0, 0, 0, 0), (41, .iinc 5 1, 3, 0, 0, 0, 0), (44, .goto (-38), 3, 6, 0, 0, 0), (47, .iload 4, 2, 0, 0, 0, 0), (49, .ireturn, 1, 0, 0, 0, 0)]
def tC94 : List (List eN) := [tC94_0, tC94_1]
def tM94 : eM := (tC94, 6, 0, 0, 1, 3)
def tY94 : eY := (⟨"FuseTreaty$Foresight", "calmSeeds", "(LFuseTreaty$State;II)I"⟩, prog_3_method_14_code, (some .int))
def tC95_0 : List eN := [(0, .aload_n 0, 1, 0, 0, 0, 0), (1, .getfield 12, 3, 1, 2, 2202, 5), (4, .aload_n 1, 1, 0, 0, 0, 0), (5, .invokevirtual 34, 3, 0, 122, 5036, 7), (8, .iconst 0, 1, 0, 0, 0, 0), (9, .istore 4, 2, 0, 0, 0, 0), (11, .iload 4, 2, 0, 0, 0, 0), (13, .iload_n 2, 1, 0, 0, 0, 0), (14, .if_icmp .ge 40, 3, 54, 0, 0, 0), (17, .aload_n 0, 1, 0, 0, 0, 0), (18, .getfield 30, 3, 1, 1, 2201, 5), (21, .aload_n 0, 1, 0, 0, 0, 0), (22, .getfield 12, 3, 1, 2, 2202, 5), (25, .aload_n 0, 1, 0, 0, 0, 0), (26, .getfield 30, 3, 1, 1, 2201, 5), (29, .iload_n 3, 1, 0, 0, 0, 0), (30, .aload_n 0, 1, 0, 0, 0, 0), (31, .getfield 12, 3, 1, 2, 2202, 5)]
def tC95_1 : List eN := [(34, .getfield 139, 3, 7, 0, 2068, 0), (37, .invokevirtual 142, 3, 0, 80, 5176, 0), (40, .invokevirtual 38, 3, 0, 86, 5040, 0), (43, .ifCond .eq 5, 3, 48, 0, 0, 0), (48, .iinc 4 1, 3, 0, 0, 0, 0), (51, .goto (-40), 3, 11, 0, 0, 0), (54, .iconst 1, 1, 0, 0, 0, 0), (55, .ireturn, 1, 0, 0, 0, 0)]
def tC95 : List (List eN) := [tC95_0, tC95_1]
def tM95 : eM := (tC95, 5, 0, 0, 2, 3)
def tY95 : eY := (⟨"FuseTreaty$Foresight", "isCalm", "(LFuseTreaty$State;II)Z"⟩, prog_3_method_15_code, (some .boolean))
def tC96_0 : List eN := [(0, .aload_n 0, 1, 0, 0, 0, 0), (1, .invokespecial 3, 3, 6, 0, 2013, 0), (4, .aload_n 0, 1, 0, 0, 0, 0), (5, .iconst 0, 1, 0, 0, 0, 0), (6, .putfield 9, 3, 2, 2, 2016, 0), (9, .aload_n 0, 1, 0, 0, 0, 0), (10, .iconst 0, 1, 0, 0, 0, 0), (11, .putfield 15, 3, 2, 3, 2017, 0), (14, .aload_n 0, 1, 0, 0, 0, 0), (15, .iconst 0, 1, 0, 0, 0, 0), (16, .putfield 18, 3, 2, 4, 2018, 0), (19, .aload_n 0, 1, 0, 0, 0, 0), (20, .iconst 0, 1, 0, 0, 0, 0), (21, .putfield 21, 3, 2, 5, 2019, 0), (24, .aload_n 0, 1, 0, 0, 0, 0), (25, .iconst 0, 1, 0, 0, 0, 0), (26, .putfield 24, 3, 2, 6, 2020, 0), (29, .aload_n 0, 1, 0, 0, 0, 0), (30, .aload_n 1, 1, 0, 0, 0, 0), (31, .putfield 27, 3, 2, 0, 2014, 5)]
def tC96_1 : List eN := [(34, .aload_n 0, 1, 0, 0, 0, 0), (35, .aload_n 2, 1, 0, 0, 0, 0), (36, .getfield 31, 3, 3, 15, 1132, 5), (39, .putfield 37, 3, 2, 1, 2015, 5), (42, .return_, 1, 0, 0, 0, 0)]
def tC96 : List (List eN) := [tC96_0, tC96_1]
def tM96 : eM := (tC96, 3, 0, 0, 0, 2)
def tY96 : eY := (⟨"FuseTreaty$Grammar", "<init>", "(LFuseTreaty$Tokens;LFuseTreaty$House;)V"⟩, prog_4_method_1_code, none)
def tC97_0 : List eN := [(0, .aload_n 0, 1, 0, 0, 0, 0), (1, .iconst 0, 1, 0, 0, 0, 0), (2, .putfield 9, 3, 2, 2, 2016, 0), (5, .aload_n 0, 1, 0, 0, 0, 0), (6, .iconst 0, 1, 0, 0, 0, 0), (7, .putfield 15, 3, 2, 3, 2017, 0), (10, .aload_n 0, 1, 0, 0, 0, 0), (11, .iconst 0, 1, 0, 0, 0, 0), (12, .putfield 18, 3, 2, 4, 2018, 0), (15, .aload_n 0, 1, 0, 0, 0, 0), (16, .iconst 0, 1, 0, 0, 0, 0), (17, .putfield 21, 3, 2, 5, 2019, 0), (20, .aload_n 0, 1, 0, 0, 0, 0), (21, .iconst 0, 1, 0, 0, 0, 0), (22, .putfield 24, 3, 2, 6, 2020, 0), (25, .iconst 0, 1, 0, 0, 0, 0), (26, .istore_n 1, 1, 0, 0, 0, 0), (27, .iload_n 1, 1, 0, 0, 0, 0), (28, .sipush 400, 3, 0, 0, 0, 0), (31, .if_icmp .gt 33, 3, 64, 0, 0, 0)]
def tC97_1 : List eN := [(34, .aload_n 0, 1, 0, 0, 0, 0), (35, .getfield 15, 3, 2, 3, 2017, 0), (38, .ifCond .ne 26, 3, 64, 0, 0, 0), (41, .aload_n 0, 1, 0, 0, 0, 0), (42, .invokevirtual 38, 3, 0, 99, 3130, 2), (45, .bipush 24, 2, 0, 0, 0, 0), (47, .if_icmp .eq 17, 3, 64, 0, 0, 0)]
def tC97_2 : List eN := [(64, .aload_n 0, 1, 0, 0, 0, 0), (65, .getfield 15, 3, 2, 3, 2017, 0), (68, .ireturn, 1, 0, 0, 0, 0)]
def tC97 : List (List eN) := [tC97_0, tC97_1, tC97_2]
def tM97 : eM := (tC97, 2, 0, 0, 1, 0)
def tY97 : eY := (⟨"FuseTreaty$Grammar", "check", "()I"⟩, prog_4_method_2_code, (some .int))
def tC98_0 : List eN := [(0, .aload_n 0, 1, 0, 0, 0, 0), (1, .getfield 15, 3, 2, 3, 2017, 0), (4, .ifCond .ne 7, 3, 11, 0, 0, 0), (7, .iconst (-1), 1, 0, 0, 0, 0), (8, .goto 14, 3, 22, 0, 0, 0), (22, .ireturn, 1, 0, 0, 0, 0)]
def tC98 : List (List eN) := [tC98_0]
def tM98 : eM := (tC98, 1, 0, 0, 1, 0)
def tY98 : eY := (⟨"FuseTreaty$Grammar", "faultAt", "()I"⟩, prog_4_method_4_code, (some .int))
def tC99_0 : List eN := [(0, .aload_n 0, 1, 0, 0, 0, 0), (1, .getfield 9, 3, 2, 2, 2016, 0), (4, .ifCond .lt 28, 3, 32, 0, 0, 0), (7, .aload_n 0, 1, 0, 0, 0, 0), (8, .getfield 9, 3, 2, 2, 2016, 0), (11, .sipush 400, 3, 0, 0, 0, 0), (14, .if_icmp .gt 18, 3, 32, 0, 0, 0), (17, .aload_n 0, 1, 0, 0, 0, 0), (18, .getfield 27, 3, 2, 0, 2014, 5), (21, .getfield 64, 3, 8, 0, 1228, 5), (24, .aload_n 0, 1, 0, 0, 0, 0), (25, .getfield 9, 3, 2, 2, 2016, 0), (28, .iaload, 1, 0, 0, 0, 0), (29, .goto 5, 3, 34, 0, 0, 0)]
def tC99_1 : List eN := [(34, .ireturn, 1, 0, 0, 0, 0)]
def tC99 : List (List eN) := [tC99_0, tC99_1]
def tM99 : eM := (tC99, 1, 0, 0, 1, 0)
def tY99 : eY := (⟨"FuseTreaty$Grammar", "kind", "()I"⟩, prog_4_method_5_code, (some .int))
def tC100_0 : List eN := [(0, .aload_n 0, 1, 0, 0, 0, 0), (1, .invokespecial 3, 3, 6, 0, 1035, 0), (4, .aload_n 0, 1, 0, 0, 0, 0), (5, .iconst 0, 1, 0, 0, 0, 0), (6, .putfield 9, 3, 3, 0, 1065, 0), (9, .aload_n 0, 1, 0, 0, 0, 0), (10, .iconst 0, 1, 0, 0, 0, 0), (11, .putfield 15, 3, 3, 1, 1071, 0), (14, .aload_n 0, 1, 0, 0, 0, 0), (15, .iconst 0, 1, 0, 0, 0, 0), (16, .putfield 18, 3, 3, 2, 1078, 0), (19, .aload_n 0, 1, 0, 0, 0, 0), (20, .iconst 0, 1, 0, 0, 0, 0), (21, .putfield 21, 3, 3, 3, 1084, 0), (24, .aload_n 0, 1, 0, 0, 0, 0), (25, .iconst 0, 1, 0, 0, 0, 0), (26, .putfield 24, 3, 3, 4, 1087, 0), (29, .aload_n 0, 1, 0, 0, 0, 0), (30, .iconst 0, 1, 0, 0, 0, 0), (31, .putfield 27, 3, 3, 5, 1090, 0)]
def tC100_1 : List eN := [(34, .aload_n 0, 1, 0, 0, 0, 0), (35, .iconst 0, 1, 0, 0, 0, 0), (36, .putfield 30, 3, 3, 6, 1093, 0), (39, .aload_n 0, 1, 0, 0, 0, 0), (40, .bipush 7, 2, 0, 0, 0, 0), (42, .newarray .int, 2, 0, 0, 1064, 0), (44, .putfield 33, 3, 3, 7, 1098, 5), (47, .aload_n 0, 1, 0, 0, 0, 0), (48, .bipush 10, 2, 0, 0, 0, 0), (50, .newarray .int, 2, 0, 0, 1064, 0), (52, .putfield 37, 3, 3, 8, 1102, 5), (55, .aload_n 0, 1, 0, 0, 0, 0), (56, .bipush 10, 2, 0, 0, 0, 0), (58, .newarray .int, 2, 0, 0, 1064, 0), (60, .putfield 40, 3, 3, 9, 1106, 5), (63, .aload_n 0, 1, 0, 0, 0, 0)]
def tC100_2 : List eN := [(64, .bipush 10, 2, 0, 0, 0, 0), (66, .newarray .int, 2, 0, 0, 1064, 0), (68, .putfield 43, 3, 3, 10, 1110, 5), (71, .aload_n 0, 1, 0, 0, 0, 0), (72, .bipush 8, 2, 0, 0, 0, 0), (74, .newarray .int, 2, 0, 0, 1064, 0), (76, .putfield 46, 3, 3, 11, 1113, 5), (79, .aload_n 0, 1, 0, 0, 0, 0), (80, .bipush 8, 2, 0, 0, 0, 0), (82, .newarray .int, 2, 0, 0, 1064, 0), (84, .putfield 49, 3, 3, 12, 1118, 5), (87, .aload_n 0, 1, 0, 0, 0, 0), (88, .bipush 8, 2, 0, 0, 0, 0), (90, .newarray .int, 2, 0, 0, 1064, 0), (92, .putfield 52, 3, 3, 13, 1122, 5), (95, .aload_n 0, 1, 0, 0, 0, 0)]
def tC100_3 : List eN := [(96, .bipush 8, 2, 0, 0, 0, 0), (98, .newarray .int, 2, 0, 0, 1064, 0), (100, .putfield 55, 3, 3, 14, 1127, 5), (103, .aload_n 0, 1, 0, 0, 0, 0), (104, .new 58, 3, 4, 1036, 1037, 1003), (107, .dup, 1, 0, 0, 0, 0), (108, .invokespecial 60, 3, 5, 104, 1, 4), (111, .putfield 61, 3, 3, 15, 1133, 5), (114, .return_, 1, 0, 0, 0, 0)]
def tC100 : List (List eN) := [tC100_0, tC100_1, tC100_2, tC100_3]
def tM100 : eM := (tC100, 1, 17, 577, 0, 0)
def tY100 : eY := (⟨"FuseTreaty$House", "<init>", "()V"⟩, prog_5_method_1_code, none)
def tC101_0 : List eN := [(0, .aload_n 0, 1, 0, 0, 0, 0), (1, .iconst 0, 1, 0, 0, 0, 0), (2, .putfield 9, 3, 3, 0, 1065, 0), (5, .aload_n 0, 1, 0, 0, 0, 0), (6, .iconst 0, 1, 0, 0, 0, 0), (7, .putfield 15, 3, 3, 1, 1071, 0), (10, .aload_n 0, 1, 0, 0, 0, 0), (11, .iconst 0, 1, 0, 0, 0, 0), (12, .putfield 18, 3, 3, 2, 1078, 0), (15, .aload_n 0, 1, 0, 0, 0, 0), (16, .iconst 0, 1, 0, 0, 0, 0), (17, .putfield 21, 3, 3, 3, 1084, 0), (20, .aload_n 0, 1, 0, 0, 0, 0), (21, .iconst 0, 1, 0, 0, 0, 0), (22, .putfield 24, 3, 3, 4, 1087, 0), (25, .aload_n 0, 1, 0, 0, 0, 0), (26, .bipush 100, 2, 0, 0, 0, 0), (28, .putfield 27, 3, 3, 5, 1090, 0), (31, .aload_n 0, 1, 0, 0, 0, 0)]
def tC101_1 : List eN := [(32, .iconst 0, 1, 0, 0, 0, 0), (33, .putfield 30, 3, 3, 6, 1093, 0), (36, .aload_n 0, 1, 0, 0, 0, 0), (37, .getfield 61, 3, 3, 15, 1133, 5), (40, .invokevirtual 65, 3, 0, 105, 3001, 4), (43, .return_, 1, 0, 0, 0, 0)]
def tC101 : List (List eN) := [tC101_0, tC101_1]
def tM101 : eM := (tC101, 1, 0, 0, 0, 0)
def tY101 : eY := (⟨"FuseTreaty$House", "clear", "()V"⟩, prog_5_method_2_code, none)
def tC102_0 : List eN := [(0, .aload_n 0, 1, 0, 0, 0, 0), (1, .aload_n 1, 1, 0, 0, 0, 0), (2, .getfield 9, 3, 3, 0, 1065, 0), (5, .putfield 9, 3, 3, 0, 1065, 0), (8, .aload_n 0, 1, 0, 0, 0, 0), (9, .aload_n 1, 1, 0, 0, 0, 0), (10, .getfield 15, 3, 3, 1, 1071, 0), (13, .putfield 15, 3, 3, 1, 1071, 0), (16, .aload_n 0, 1, 0, 0, 0, 0), (17, .aload_n 1, 1, 0, 0, 0, 0), (18, .getfield 18, 3, 3, 2, 1078, 0), (21, .putfield 18, 3, 3, 2, 1078, 0), (24, .aload_n 0, 1, 0, 0, 0, 0), (25, .aload_n 1, 1, 0, 0, 0, 0), (26, .getfield 21, 3, 3, 3, 1084, 0), (29, .putfield 21, 3, 3, 3, 1084, 0)]
def tC102_1 : List eN := [(32, .aload_n 0, 1, 0, 0, 0, 0), (33, .aload_n 1, 1, 0, 0, 0, 0), (34, .getfield 24, 3, 3, 4, 1087, 0), (37, .putfield 24, 3, 3, 4, 1087, 0), (40, .aload_n 0, 1, 0, 0, 0, 0), (41, .aload_n 1, 1, 0, 0, 0, 0), (42, .getfield 27, 3, 3, 5, 1090, 0), (45, .putfield 27, 3, 3, 5, 1090, 0), (48, .aload_n 0, 1, 0, 0, 0, 0), (49, .aload_n 1, 1, 0, 0, 0, 0), (50, .getfield 30, 3, 3, 6, 1093, 0), (53, .putfield 30, 3, 3, 6, 1093, 0), (56, .aload_n 1, 1, 0, 0, 0, 0), (57, .getfield 33, 3, 3, 7, 1098, 5), (60, .iconst 0, 1, 0, 0, 0, 0), (61, .aload_n 0, 1, 0, 0, 0, 0), (62, .getfield 33, 3, 3, 7, 1098, 5)]
def tC102_2 : List eN := [(65, .iconst 0, 1, 0, 0, 0, 0), (66, .bipush 7, 2, 0, 0, 0, 0), (68, .invokestatic 68, 3, 9, 0, 4035, 0), (71, .aload_n 1, 1, 0, 0, 0, 0), (72, .getfield 37, 3, 3, 8, 1102, 5), (75, .iconst 0, 1, 0, 0, 0, 0), (76, .aload_n 0, 1, 0, 0, 0, 0), (77, .getfield 37, 3, 3, 8, 1102, 5), (80, .iconst 0, 1, 0, 0, 0, 0), (81, .bipush 10, 2, 0, 0, 0, 0), (83, .invokestatic 68, 3, 9, 0, 4035, 0), (86, .aload_n 1, 1, 0, 0, 0, 0), (87, .getfield 40, 3, 3, 9, 1106, 5), (90, .iconst 0, 1, 0, 0, 0, 0), (91, .aload_n 0, 1, 0, 0, 0, 0), (92, .getfield 40, 3, 3, 9, 1106, 5), (95, .iconst 0, 1, 0, 0, 0, 0)]
def tC102_3 : List eN := [(96, .bipush 10, 2, 0, 0, 0, 0), (98, .invokestatic 68, 3, 9, 0, 4035, 0), (101, .aload_n 1, 1, 0, 0, 0, 0), (102, .getfield 43, 3, 3, 10, 1110, 5), (105, .iconst 0, 1, 0, 0, 0, 0), (106, .aload_n 0, 1, 0, 0, 0, 0), (107, .getfield 43, 3, 3, 10, 1110, 5), (110, .iconst 0, 1, 0, 0, 0, 0), (111, .bipush 10, 2, 0, 0, 0, 0), (113, .invokestatic 68, 3, 9, 0, 4035, 0), (116, .aload_n 1, 1, 0, 0, 0, 0), (117, .getfield 46, 3, 3, 11, 1113, 5), (120, .iconst 0, 1, 0, 0, 0, 0), (121, .aload_n 0, 1, 0, 0, 0, 0), (122, .getfield 46, 3, 3, 11, 1113, 5), (125, .iconst 0, 1, 0, 0, 0, 0), (126, .bipush 8, 2, 0, 0, 0, 0)]
def tC102_4 : List eN := [(128, .invokestatic 68, 3, 9, 0, 4035, 0), (131, .aload_n 1, 1, 0, 0, 0, 0), (132, .getfield 49, 3, 3, 12, 1118, 5), (135, .iconst 0, 1, 0, 0, 0, 0), (136, .aload_n 0, 1, 0, 0, 0, 0), (137, .getfield 49, 3, 3, 12, 1118, 5), (140, .iconst 0, 1, 0, 0, 0, 0), (141, .bipush 8, 2, 0, 0, 0, 0), (143, .invokestatic 68, 3, 9, 0, 4035, 0), (146, .aload_n 1, 1, 0, 0, 0, 0), (147, .getfield 52, 3, 3, 13, 1122, 5), (150, .iconst 0, 1, 0, 0, 0, 0), (151, .aload_n 0, 1, 0, 0, 0, 0), (152, .getfield 52, 3, 3, 13, 1122, 5), (155, .iconst 0, 1, 0, 0, 0, 0), (156, .bipush 8, 2, 0, 0, 0, 0), (158, .invokestatic 68, 3, 9, 0, 4035, 0)]
def tC102_5 : List eN := [(161, .aload_n 1, 1, 0, 0, 0, 0), (162, .getfield 55, 3, 3, 14, 1127, 5), (165, .iconst 0, 1, 0, 0, 0, 0), (166, .aload_n 0, 1, 0, 0, 0, 0), (167, .getfield 55, 3, 3, 14, 1127, 5), (170, .iconst 0, 1, 0, 0, 0, 0), (171, .bipush 8, 2, 0, 0, 0, 0), (173, .invokestatic 68, 3, 9, 0, 4035, 0), (176, .aload_n 0, 1, 0, 0, 0, 0), (177, .getfield 61, 3, 3, 15, 1133, 5), (180, .aload_n 1, 1, 0, 0, 0, 0), (181, .getfield 61, 3, 3, 15, 1133, 5), (184, .invokevirtual 74, 3, 0, 106, 4036, 4), (187, .return_, 1, 0, 0, 0, 0)]
def tC102 : List (List eN) := [tC102_0, tC102_1, tC102_2, tC102_3, tC102_4, tC102_5]
def tM102 : eM := (tC102, 2, 0, 0, 0, 1)
def tY102 : eY := (⟨"FuseTreaty$House", "copy", "(LFuseTreaty$House;)V"⟩, prog_5_method_3_code, none)
def tC103_0 : List eN := [(0, .aload_n 0, 1, 0, 0, 0, 0), (1, .getfield 9, 3, 3, 0, 1065, 0), (4, .ifCond .le 7, 3, 11, 0, 0, 0), (11, .iconst 0, 1, 0, 0, 0, 0), (12, .istore_n 2, 1, 0, 0, 0, 0), (13, .iconst 1, 1, 0, 0, 0, 0), (14, .istore_n 3, 1, 0, 0, 0, 0), (15, .iload_n 3, 1, 0, 0, 0, 0), (16, .aload_n 0, 1, 0, 0, 0, 0), (17, .getfield 9, 3, 3, 0, 1065, 0), (20, .if_icmp .ge 68, 3, 88, 0, 0, 0)]
def tC103_1 : List eN := []
def tC103_2 : List eN := [(88, .iload_n 2, 1, 0, 0, 0, 0), (89, .ireturn, 1, 0, 0, 0, 0)]
def tC103 : List (List eN) := [tC103_0, tC103_1, tC103_2]
def tM103 : eM := (tC103, 7, 0, 0, 1, 1)
def tY103 : eY := (⟨"FuseTreaty$House", "litWithout", "(I)I"⟩, prog_5_method_7_code, (some .int))
def tC104_0 : List eN := [(0, .aload_n 0, 1, 0, 0, 0, 0), (1, .invokespecial 5, 3, 6, 0, 1041, 0), (4, .aload_n 0, 1, 0, 0, 0, 0), (5, .sipush 406, 3, 0, 0, 0, 0), (8, .newarray .int, 2, 0, 0, 1064, 0), (10, .putfield 11, 3, 4, 0, 1044, 5), (13, .aload_n 0, 1, 0, 0, 0, 0), (14, .iconst 0, 1, 0, 0, 0, 0), (15, .putfield 15, 3, 4, 1, 1045, 0), (18, .aload_n 0, 1, 0, 0, 0, 0), (19, .iconst 4, 1, 0, 0, 0, 0), (20, .bipush 14, 2, 0, 0, 0, 0), (22, .multianewarray 19 2, 4, 0, 0, 1042, 0), (26, .putfield 21, 3, 4, 2, 1046, 5), (29, .aload_n 0, 1, 0, 0, 0, 0), (30, .iconst 4, 1, 0, 0, 0, 0), (31, .newarray .int, 2, 0, 0, 1064, 0)]
def tC104_1 : List eN := [(33, .putfield 24, 3, 4, 3, 1047, 5), (36, .aload_n 0, 1, 0, 0, 0, 0), (37, .bipush 32, 2, 0, 0, 0, 0), (39, .newarray .int, 2, 0, 0, 1064, 0), (41, .putfield 27, 3, 4, 4, 1048, 5), (44, .aload_n 0, 1, 0, 0, 0, 0), (45, .iconst 0, 1, 0, 0, 0, 0), (46, .putfield 30, 3, 4, 5, 1049, 2), (49, .return_, 1, 0, 0, 0, 0)]
def tC104 : List (List eN) := [tC104_0, tC104_1]
def tM104 : eM := (tC104, 1, 8, 502, 0, 0)
def tY104 : eY := (⟨"FuseTreaty$Laws", "<init>", "()V"⟩, prog_6_method_1_code, none)
def tC105_0 : List eN := [(0, .aload_n 0, 1, 0, 0, 0, 0), (1, .iconst 0, 1, 0, 0, 0, 0), (2, .putfield 15, 3, 4, 1, 1045, 0), (5, .aload_n 0, 1, 0, 0, 0, 0), (6, .iconst 0, 1, 0, 0, 0, 0), (7, .invokevirtual 34, 3, 0, 107, 3005, 4), (10, .aload_n 0, 1, 0, 0, 0, 0), (11, .iconst 4, 1, 0, 0, 0, 0), (12, .invokevirtual 38, 3, 0, 108, 3009, 4), (15, .aload_n 0, 1, 0, 0, 0, 0), (16, .iconst 5, 1, 0, 0, 0, 0), (17, .invokevirtual 38, 3, 0, 108, 3009, 4), (20, .aload_n 0, 1, 0, 0, 0, 0), (21, .iconst 1, 1, 0, 0, 0, 0), (22, .invokevirtual 38, 3, 0, 108, 3009, 4), (25, .aload_n 0, 1, 0, 0, 0, 0), (26, .iconst 0, 1, 0, 0, 0, 0), (27, .invokevirtual 41, 3, 0, 109, 3013, 4), (30, .aload_n 0, 1, 0, 0, 0, 0), (31, .iconst 1, 1, 0, 0, 0, 0)]
def tC105_1 : List eN := [(32, .invokevirtual 34, 3, 0, 107, 3005, 4), (35, .aload_n 0, 1, 0, 0, 0, 0), (36, .bipush 13, 2, 0, 0, 0, 0), (38, .invokevirtual 38, 3, 0, 108, 3009, 4), (41, .aload_n 0, 1, 0, 0, 0, 0), (42, .iconst 1, 1, 0, 0, 0, 0), (43, .invokevirtual 41, 3, 0, 109, 3013, 4), (46, .aload_n 0, 1, 0, 0, 0, 0), (47, .iconst 2, 1, 0, 0, 0, 0), (48, .invokevirtual 34, 3, 0, 107, 3005, 4), (51, .aload_n 0, 1, 0, 0, 0, 0), (52, .iconst 5, 1, 0, 0, 0, 0), (53, .invokevirtual 38, 3, 0, 108, 3009, 4), (56, .aload_n 0, 1, 0, 0, 0, 0), (57, .iconst 2, 1, 0, 0, 0, 0), (58, .invokevirtual 41, 3, 0, 109, 3013, 4), (61, .aload_n 0, 1, 0, 0, 0, 0), (62, .iconst 3, 1, 0, 0, 0, 0), (63, .invokevirtual 34, 3, 0, 107, 3005, 4)]
def tC105_2 : List eN := [(66, .aload_n 0, 1, 0, 0, 0, 0), (67, .bipush 9, 2, 0, 0, 0, 0), (69, .invokevirtual 38, 3, 0, 108, 3009, 4), (72, .aload_n 0, 1, 0, 0, 0, 0), (73, .iconst 3, 1, 0, 0, 0, 0), (74, .invokevirtual 41, 3, 0, 109, 3013, 4), (77, .return_, 1, 0, 0, 0, 0)]
def tC105 : List (List eN) := [tC105_0, tC105_1, tC105_2]
def tM105 : eM := (tC105, 1, 0, 0, 0, 0)
def tY105 : eY := (⟨"FuseTreaty$Laws", "clear", "()V"⟩, prog_6_method_2_code, none)
def tC106_0 : List eN := [(0, .aload_n 1, 1, 0, 0, 0, 0), (1, .getfield 11, 3, 4, 0, 1044, 5), (4, .iconst 0, 1, 0, 0, 0, 0), (5, .aload_n 0, 1, 0, 0, 0, 0), (6, .getfield 11, 3, 4, 0, 1044, 5), (9, .iconst 0, 1, 0, 0, 0, 0), (10, .aload_n 1, 1, 0, 0, 0, 0), (11, .getfield 15, 3, 4, 1, 1045, 0), (14, .invokestatic 44, 3, 9, 0, 4040, 0), (17, .aload_n 0, 1, 0, 0, 0, 0), (18, .aload_n 1, 1, 0, 0, 0, 0), (19, .getfield 15, 3, 4, 1, 1045, 0), (22, .putfield 15, 3, 4, 1, 1045, 0), (25, .iconst 0, 1, 0, 0, 0, 0), (26, .istore_n 2, 1, 0, 0, 0, 0), (27, .iload_n 2, 1, 0, 0, 0, 0), (28, .iconst 4, 1, 0, 0, 0, 0), (29, .if_icmp .ge 40, 3, 69, 0, 0, 0)]
def tC106_1 : List eN := [(32, .aload_n 0, 1, 0, 0, 0, 0), (33, .getfield 24, 3, 4, 3, 1047, 5), (36, .iload_n 2, 1, 0, 0, 0, 0), (37, .aload_n 1, 1, 0, 0, 0, 0), (38, .getfield 24, 3, 4, 3, 1047, 5), (41, .iload_n 2, 1, 0, 0, 0, 0), (42, .iaload, 1, 0, 0, 0, 0), (43, .iastore, 1, 0, 0, 0, 0), (44, .aload_n 1, 1, 0, 0, 0, 0), (45, .getfield 21, 3, 4, 2, 1046, 5), (48, .iload_n 2, 1, 0, 0, 0, 0), (49, .aaload, 1, 0, 0, 0, 0), (50, .iconst 0, 1, 0, 0, 0, 0), (51, .aload_n 0, 1, 0, 0, 0, 0), (52, .getfield 21, 3, 4, 2, 1046, 5), (55, .iload_n 2, 1, 0, 0, 0, 0), (56, .aaload, 1, 0, 0, 0, 0), (57, .iconst 0, 1, 0, 0, 0, 0), (58, .bipush 14, 2, 0, 0, 0, 0), (60, .invokestatic 44, 3, 9, 0, 4040, 0), (63, .iinc 2 1, 3, 0, 0, 0, 0)]
def tC106_2 : List eN := [(66, .goto (-39), 3, 27, 0, 0, 0), (69, .return_, 1, 0, 0, 0, 0)]
def tC106 : List (List eN) := [tC106_0, tC106_1, tC106_2]
def tM106 : eM := (tC106, 3, 0, 0, 0, 1)
def tY106 : eY := (⟨"FuseTreaty$Laws", "copy", "(LFuseTreaty$Laws;)V"⟩, prog_6_method_3_code, none)
def tC107_0 : List eN := [(0, .aload_n 0, 1, 0, 0, 0, 0), (1, .getfield 24, 3, 4, 3, 1047, 5), (4, .iload_n 1, 1, 0, 0, 0, 0), (5, .iconst 0, 1, 0, 0, 0, 0), (6, .iastore, 1, 0, 0, 0, 0), (7, .aload_n 0, 1, 0, 0, 0, 0), (8, .getfield 21, 3, 4, 2, 1046, 5), (11, .iload_n 1, 1, 0, 0, 0, 0), (12, .aaload, 1, 0, 0, 0, 0), (13, .iconst 0, 1, 0, 0, 0, 0), (14, .aload_n 0, 1, 0, 0, 0, 0), (15, .getfield 15, 3, 4, 1, 1045, 0), (18, .iastore, 1, 0, 0, 0, 0), (19, .return_, 1, 0, 0, 0, 0)]
def tC107 : List (List eN) := [tC107_0]
def tM107 : eM := (tC107, 2, 0, 0, 0, 1)
def tY107 : eY := (⟨"FuseTreaty$Laws", "begin", "(I)V"⟩, prog_6_method_4_code, none)
def tC108_0 : List eN := [(0, .aload_n 0, 1, 0, 0, 0, 0), (1, .getfield 15, 3, 4, 1, 1045, 0), (4, .aload_n 0, 1, 0, 0, 0, 0), (5, .getfield 11, 3, 4, 0, 1044, 5), (8, .arraylength, 1, 0, 0, 0, 0), (9, .if_icmp .ge 23, 3, 32, 0, 0, 0), (12, .aload_n 0, 1, 0, 0, 0, 0), (13, .getfield 11, 3, 4, 0, 1044, 5), (16, .aload_n 0, 1, 0, 0, 0, 0), (17, .getfield 15, 3, 4, 1, 1045, 0), (20, .iload_n 1, 1, 0, 0, 0, 0), (21, .iastore, 1, 0, 0, 0, 0), (22, .aload_n 0, 1, 0, 0, 0, 0), (23, .dup, 1, 0, 0, 0, 0), (24, .getfield 15, 3, 4, 1, 1045, 0), (27, .iconst 1, 1, 0, 0, 0, 0), (28, .iadd, 1, 0, 0, 0, 0), (29, .putfield 15, 3, 4, 1, 1045, 0)]
def tC108_1 : List eN := [(32, .return_, 1, 0, 0, 0, 0)]
def tC108 : List (List eN) := [tC108_0, tC108_1]
def tM108 : eM := (tC108, 2, 0, 0, 0, 1)
def tY108 : eY := (⟨"FuseTreaty$Laws", "put", "(I)V"⟩, prog_6_method_5_code, none)
def tC109_0 : List eN := [(0, .aload_n 0, 1, 0, 0, 0, 0), (1, .getfield 24, 3, 4, 3, 1047, 5), (4, .iload_n 1, 1, 0, 0, 0, 0), (5, .iaload, 1, 0, 0, 0, 0), (6, .bipush 13, 2, 0, 0, 0, 0), (8, .if_icmp .ge 30, 3, 38, 0, 0, 0), (11, .aload_n 0, 1, 0, 0, 0, 0), (12, .getfield 24, 3, 4, 3, 1047, 5), (15, .iload_n 1, 1, 0, 0, 0, 0), (16, .dup2, 1, 0, 0, 0, 0), (17, .iaload, 1, 0, 0, 0, 0), (18, .iconst 1, 1, 0, 0, 0, 0), (19, .iadd, 1, 0, 0, 0, 0), (20, .iastore, 1, 0, 0, 0, 0), (21, .aload_n 0, 1, 0, 0, 0, 0), (22, .getfield 21, 3, 4, 2, 1046, 5), (25, .iload_n 1, 1, 0, 0, 0, 0), (26, .aaload, 1, 0, 0, 0, 0), (27, .aload_n 0, 1, 0, 0, 0, 0), (28, .getfield 24, 3, 4, 3, 1047, 5), (31, .iload_n 1, 1, 0, 0, 0, 0)]
def tC109_1 : List eN := [(32, .iaload, 1, 0, 0, 0, 0), (33, .aload_n 0, 1, 0, 0, 0, 0), (34, .getfield 15, 3, 4, 1, 1045, 0), (37, .iastore, 1, 0, 0, 0, 0), (38, .return_, 1, 0, 0, 0, 0)]
def tC109 : List (List eN) := [tC109_0, tC109_1]
def tM109 : eM := (tC109, 2, 0, 0, 0, 1)
def tY109 : eY := (⟨"FuseTreaty$Laws", "endPiece", "(I)V"⟩, prog_6_method_6_code, none)
def tC110_0 : List eN := [(0, .aload_n 0, 1, 0, 0, 0, 0), (1, .invokespecial 3, 3, 6, 0, 2041, 0), (4, .aload_n 0, 1, 0, 0, 0, 0), (5, .bipush 7, 2, 0, 0, 0, 0), (7, .newarray .long, 2, 3, 0, 2007, 0), (9, .putfield 9, 3, 5, 2, 2044, 5), (12, .aload_n 0, 1, 0, 0, 0, 0), (13, .bipush 8, 2, 0, 0, 0, 0), (15, .newarray .long, 2, 3, 0, 2007, 0), (17, .putfield 15, 3, 5, 3, 2045, 5), (20, .aload_n 0, 1, 0, 0, 0, 0), (21, .iconst 0, 1, 0, 0, 0, 0), (22, .putfield 18, 3, 5, 4, 2046, 0), (25, .aload_n 0, 1, 0, 0, 0, 0), (26, .iconst 0, 1, 0, 0, 0, 0), (27, .putfield 22, 3, 5, 5, 2047, 0), (30, .aload_n 0, 1, 0, 0, 0, 0), (31, .aload_n 1, 1, 0, 0, 0, 0)]
def tC110_1 : List eN := [(32, .putfield 25, 3, 5, 0, 2042, 5), (35, .aload_n 0, 1, 0, 0, 0, 0), (36, .aload_n 2, 1, 0, 0, 0, 0), (37, .putfield 29, 3, 5, 1, 2043, 5), (40, .return_, 1, 0, 0, 0, 0)]
def tC110 : List (List eN) := [tC110_0, tC110_1]
def tM110 : eM := (tC110, 3, 2, 15, 0, 2)
def tY110 : eY := (⟨"FuseTreaty$Meaning", "<init>", "(LFuseTreaty$Tokens;LFuseTreaty$House;)V"⟩, prog_7_method_1_code, none)
def tC111_0 : List eN := [(0, .aload_n 0, 1, 0, 0, 0, 0), (1, .iconst 0, 1, 0, 0, 0, 0), (2, .putfield 18, 3, 5, 4, 2046, 0), (5, .aload_n 0, 1, 0, 0, 0, 0), (6, .iconst 0, 1, 0, 0, 0, 0), (7, .putfield 22, 3, 5, 5, 2047, 0), (10, .iconst 0, 1, 0, 0, 0, 0), (11, .istore_n 1, 1, 0, 0, 0, 0), (12, .iload_n 1, 1, 0, 0, 0, 0), (13, .sipush 400, 3, 0, 0, 0, 0), (16, .if_icmp .gt 66, 3, 82, 0, 0, 0), (19, .aload_n 0, 1, 0, 0, 0, 0), (20, .getfield 22, 3, 5, 5, 2047, 0), (23, .ifCond .ne 59, 3, 82, 0, 0, 0), (26, .aload_n 0, 1, 0, 0, 0, 0), (27, .getfield 25, 3, 5, 0, 2042, 5), (30, .aload_n 0, 1, 0, 0, 0, 0), (31, .getfield 18, 3, 5, 4, 2046, 0)]
def tC111_1 : List eN := [(34, .invokevirtual 33, 3, 0, 127, 3201, 8), (37, .bipush 24, 2, 0, 0, 0, 0), (39, .if_icmp .eq 43, 3, 82, 0, 0, 0)]
def tC111_2 : List eN := [(82, .aload_n 0, 1, 0, 0, 0, 0), (83, .getfield 22, 3, 5, 5, 2047, 0), (86, .ireturn, 1, 0, 0, 0, 0)]
def tC111 : List (List eN) := [tC111_0, tC111_1, tC111_2]
def tM111 : eM := (tC111, 3, 0, 0, 1, 0)
def tY111 : eY := (⟨"FuseTreaty$Meaning", "check", "()I"⟩, prog_7_method_2_code, (some .int))
def tC112_0 : List eN := [(0, .aload_n 0, 1, 0, 0, 0, 0), (1, .getfield 22, 3, 5, 5, 2047, 0), (4, .ifCond .ne 7, 3, 11, 0, 0, 0), (7, .iconst (-1), 1, 0, 0, 0, 0), (8, .goto 14, 3, 22, 0, 0, 0), (22, .ireturn, 1, 0, 0, 0, 0)]
def tC112 : List (List eN) := [tC112_0]
def tM112 : eM := (tC112, 1, 0, 0, 1, 0)
def tY112 : eY := (⟨"FuseTreaty$Meaning", "faultAt", "()I"⟩, prog_7_method_3_code, (some .int))
def tC113_0 : List eN := [(0, .aload_n 0, 1, 0, 0, 0, 0), (1, .invokespecial 3, 3, 6, 0, 2121, 0), (4, .aload_n 0, 1, 0, 0, 0, 0), (5, .sipush 1320, 3, 0, 0, 0, 0), (8, .newarray .int, 2, 0, 0, 1064, 0), (10, .putfield 11, 3, 6, 0, 2122, 5), (13, .aload_n 0, 1, 0, 0, 0, 0), (14, .bipush 99, 2, 0, 0, 0, 0), (16, .newarray .int, 2, 0, 0, 1064, 0), (18, .putfield 17, 3, 6, 1, 2123, 5), (21, .aload_n 0, 1, 0, 0, 0, 0), (22, .iconst 0, 1, 0, 0, 0, 0), (23, .putfield 20, 3, 6, 2, 2124, 0), (26, .aload_n 0, 1, 0, 0, 0, 0), (27, .iconst 0, 1, 0, 0, 0, 0), (28, .putfield 24, 3, 6, 3, 2125, 0), (31, .aload_n 0, 1, 0, 0, 0, 0)]
def tC113_1 : List eN := [(32, .iconst 0, 1, 0, 0, 0, 0), (33, .putfield 27, 3, 6, 4, 2127, 0), (36, .return_, 1, 0, 0, 0, 0)]
def tC113 : List (List eN) := [tC113_0, tC113_1]
def tM113 : eM := (tC113, 1, 2, 1419, 0, 0)
def tY113 : eY := (⟨"FuseTreaty$Past", "<init>", "()V"⟩, prog_8_method_1_code, none)
def tC114_0 : List eN := [(0, .aload_n 0, 1, 0, 0, 0, 0), (1, .iconst 0, 1, 0, 0, 0, 0), (2, .putfield 20, 3, 6, 2, 2124, 0), (5, .aload_n 0, 1, 0, 0, 0, 0), (6, .iconst 0, 1, 0, 0, 0, 0), (7, .putfield 24, 3, 6, 3, 2125, 0), (10, .return_, 1, 0, 0, 0, 0)]
def tC114 : List (List eN) := [tC114_0]
def tM114 : eM := (tC114, 1, 0, 0, 0, 0)
def tY114 : eY := (⟨"FuseTreaty$Past", "clear", "()V"⟩, prog_8_method_2_code, none)
def tC115_0 : List eN := [(0, .aload_n 0, 1, 0, 0, 0, 0), (1, .iconst 0, 1, 0, 0, 0, 0), (2, .putfield 27, 3, 6, 4, 2127, 0), (5, .return_, 1, 0, 0, 0, 0)]
def tC115 : List (List eN) := [tC115_0]
def tM115 : eM := (tC115, 1, 0, 0, 0, 0)
def tY115 : eY := (⟨"FuseTreaty$Past", "clearSlots", "()V"⟩, prog_8_method_3_code, none)
def tC116_0 : List eN := [(0, .aload_n 1, 1, 0, 0, 0, 0), (1, .aload_n 0, 1, 0, 0, 0, 0), (2, .getfield 11, 3, 6, 0, 2122, 5), (5, .aload_n 0, 1, 0, 0, 0, 0), (6, .getfield 20, 3, 6, 2, 2124, 0), (9, .bipush 33, 2, 0, 0, 0, 0), (11, .imul, 1, 0, 0, 0, 0), (12, .invokevirtual 30, 3, 0, 123, 4192, 7), (15, .aload_n 0, 1, 0, 0, 0, 0), (16, .aload_n 0, 1, 0, 0, 0, 0), (17, .getfield 20, 3, 6, 2, 2124, 0), (20, .iconst 1, 1, 0, 0, 0, 0), (21, .iadd, 1, 0, 0, 0, 0), (22, .bipush 40, 2, 0, 0, 0, 0), (24, .irem, 1, 0, 0, 0, 0), (25, .putfield 20, 3, 6, 2, 2124, 0), (28, .aload_n 0, 1, 0, 0, 0, 0), (29, .aload_n 0, 1, 0, 0, 0, 0), (30, .getfield 24, 3, 6, 3, 2125, 0)]
def tC116_1 : List eN := [(33, .iconst 1, 1, 0, 0, 0, 0), (34, .iadd, 1, 0, 0, 0, 0), (35, .bipush 40, 2, 0, 0, 0, 0), (37, .invokestatic 34, 3, 7, 0, 4196, 0), (40, .putfield 24, 3, 6, 3, 2125, 0), (43, .return_, 1, 0, 0, 0, 0)]
def tC116 : List (List eN) := [tC116_0, tC116_1]
def tM116 : eM := (tC116, 2, 0, 0, 0, 1)
def tY116 : eY := (⟨"FuseTreaty$Past", "keep", "(LFuseTreaty$State;)V"⟩, prog_8_method_4_code, none)
def tC117_0 : List eN := [(0, .aload_n 0, 1, 0, 0, 0, 0), (1, .getfield 24, 3, 6, 3, 2125, 0), (4, .ifCond .ne 5, 3, 9, 0, 0, 0), (7, .iconst 0, 1, 0, 0, 0, 0), (8, .ireturn, 1, 0, 0, 0, 0)]
def tC117 : List (List eN) := [tC117_0]
def tM117 : eM := (tC117, 2, 0, 0, 2, 1)
def tY117 : eY := (⟨"FuseTreaty$Past", "takeBack", "(LFuseTreaty$State;)Z"⟩, prog_8_method_5_code, (some .boolean))
def tC118_0 : List eN := [(0, .iload_n 1, 1, 0, 0, 0, 0), (1, .ifCond .lt 8, 3, 9, 0, 0, 0), (4, .iload_n 1, 1, 0, 0, 0, 0), (5, .iconst 3, 1, 0, 0, 0, 0), (6, .if_icmp .lt 5, 3, 11, 0, 0, 0), (9, .iconst 0, 1, 0, 0, 0, 0), (10, .ireturn, 1, 0, 0, 0, 0), (11, .aload_n 2, 1, 0, 0, 0, 0), (12, .aload_n 0, 1, 0, 0, 0, 0), (13, .getfield 17, 3, 6, 1, 2123, 5), (16, .iload_n 1, 1, 0, 0, 0, 0), (17, .bipush 33, 2, 0, 0, 0, 0), (19, .imul, 1, 0, 0, 0, 0), (20, .invokevirtual 30, 3, 0, 123, 4192, 7), (23, .aload_n 0, 1, 0, 0, 0, 0), (24, .dup, 1, 0, 0, 0, 0), (25, .getfield 27, 3, 6, 4, 2127, 0), (28, .iconst 1, 1, 0, 0, 0, 0), (29, .iload_n 1, 1, 0, 0, 0, 0), (30, .ishl, 1, 0, 0, 0, 0), (31, .ior, 1, 0, 0, 0, 0)]
def tC118_1 : List eN := [(32, .putfield 27, 3, 6, 4, 2127, 0), (35, .iconst 1, 1, 0, 0, 0, 0), (36, .ireturn, 1, 0, 0, 0, 0)]
def tC118 : List (List eN) := [tC118_0, tC118_1]
def tM118 : eM := (tC118, 3, 0, 0, 2, 2)
def tY118 : eY := (⟨"FuseTreaty$Past", "store", "(ILFuseTreaty$State;)Z"⟩, prog_8_method_6_code, (some .boolean))
def tC119_0 : List eN := [(0, .iload_n 1, 1, 0, 0, 0, 0), (1, .ifCond .lt 19, 3, 20, 0, 0, 0), (4, .iload_n 1, 1, 0, 0, 0, 0), (5, .iconst 3, 1, 0, 0, 0, 0), (6, .if_icmp .ge 14, 3, 20, 0, 0, 0), (9, .aload_n 0, 1, 0, 0, 0, 0), (10, .getfield 27, 3, 6, 4, 2127, 0), (13, .iload_n 1, 1, 0, 0, 0, 0), (14, .invokestatic 43, 3, 4, 179, 11, 11), (17, .ifCond .ne 5, 3, 22, 0, 0, 0), (20, .iconst 0, 1, 0, 0, 0, 0), (21, .ireturn, 1, 0, 0, 0, 0)]
def tC119 : List (List eN) := [tC119_0]
def tM119 : eM := (tC119, 3, 0, 0, 2, 2)
def tY119 : eY := (⟨"FuseTreaty$Past", "fetch", "(ILFuseTreaty$State;)Z"⟩, prog_8_method_7_code, (some .boolean))
def tC120_0 : List eN := [(0, .aload_n 0, 1, 0, 0, 0, 0), (1, .invokespecial 3, 3, 6, 0, 2066, 0), (4, .aload_n 0, 1, 0, 0, 0, 0), (5, .iconst 0, 1, 0, 0, 0, 0), (6, .putfield 9, 3, 7, 0, 2067, 0), (9, .aload_n 0, 1, 0, 0, 0, 0), (10, .iconst 0, 1, 0, 0, 0, 0), (11, .putfield 15, 3, 7, 1, 2071, 0), (14, .aload_n 0, 1, 0, 0, 0, 0), (15, .iconst 0, 1, 0, 0, 0, 0), (16, .putfield 18, 3, 7, 2, 2074, 0), (19, .aload_n 0, 1, 0, 0, 0, 0), (20, .iconst 0, 1, 0, 0, 0, 0), (21, .putfield 21, 3, 7, 3, 2077, 0), (24, .aload_n 0, 1, 0, 0, 0, 0), (25, .iconst 0, 1, 0, 0, 0, 0), (26, .putfield 24, 3, 7, 4, 2081, 0), (29, .aload_n 0, 1, 0, 0, 0, 0), (30, .iconst 0, 1, 0, 0, 0, 0), (31, .putfield 27, 3, 7, 5, 2084, 0)]
def tC120_1 : List eN := [(34, .aload_n 0, 1, 0, 0, 0, 0), (35, .bipush 10, 2, 0, 0, 0, 0), (37, .newarray .int, 2, 0, 0, 1064, 0), (39, .putfield 30, 3, 7, 6, 2087, 5), (42, .aload_n 0, 1, 0, 0, 0, 0), (43, .bipush 10, 2, 0, 0, 0, 0), (45, .newarray .int, 2, 0, 0, 1064, 0), (47, .putfield 34, 3, 7, 7, 2091, 5), (50, .aload_n 0, 1, 0, 0, 0, 0), (51, .bipush 7, 2, 0, 0, 0, 0), (53, .newarray .int, 2, 0, 0, 1064, 0), (55, .putfield 37, 3, 7, 8, 2094, 5), (58, .return_, 1, 0, 0, 0, 0)]
def tC120 : List (List eN) := [tC120_0, tC120_1]
def tM120 : eM := (tC120, 1, 3, 27, 0, 0)
def tY120 : eY := (⟨"FuseTreaty$State", "<init>", "()V"⟩, prog_9_method_1_code, none)
def tC121_0 : List eN := [(0, .aload_n 0, 1, 0, 0, 0, 0), (1, .iconst 0, 1, 0, 0, 0, 0), (2, .putfield 9, 3, 7, 0, 2067, 0), (5, .aload_n 0, 1, 0, 0, 0, 0), (6, .aload_n 1, 1, 0, 0, 0, 0), (7, .getfield 40, 3, 3, 5, 1091, 0), (10, .putfield 15, 3, 7, 1, 2071, 0), (13, .aload_n 0, 1, 0, 0, 0, 0), (14, .iconst 0, 1, 0, 0, 0, 0), (15, .putfield 18, 3, 7, 2, 2074, 0), (18, .aload_n 0, 1, 0, 0, 0, 0), (19, .iconst 0, 1, 0, 0, 0, 0), (20, .putfield 21, 3, 7, 3, 2077, 0), (23, .aload_n 0, 1, 0, 0, 0, 0), (24, .iconst 0, 1, 0, 0, 0, 0), (25, .putfield 24, 3, 7, 4, 2081, 0), (28, .aload_n 0, 1, 0, 0, 0, 0), (29, .iconst 1, 1, 0, 0, 0, 0), (30, .aload_n 1, 1, 0, 0, 0, 0), (31, .getfield 43, 3, 3, 2, 1079, 0)]
def tC121_1 : List eN := [(34, .ishl, 1, 0, 0, 0, 0), (35, .iconst 1, 1, 0, 0, 0, 0), (36, .isub, 1, 0, 0, 0, 0), (37, .putfield 27, 3, 7, 5, 2084, 0), (40, .aload_n 1, 1, 0, 0, 0, 0), (41, .getfield 46, 3, 3, 10, 1111, 5), (44, .iconst 0, 1, 0, 0, 0, 0), (45, .aload_n 0, 1, 0, 0, 0, 0), (46, .getfield 30, 3, 7, 6, 2087, 5), (49, .iconst 0, 1, 0, 0, 0, 0), (50, .bipush 10, 2, 0, 0, 0, 0), (52, .invokestatic 47, 3, 9, 0, 3021, 0), (55, .aload_n 0, 1, 0, 0, 0, 0), (56, .getfield 34, 3, 7, 7, 2091, 5), (59, .iconst 0, 1, 0, 0, 0, 0), (60, .invokestatic 53, 3, 1, 181, 3024, 0), (63, .aload_n 0, 1, 0, 0, 0, 0)]
def tC121_2 : List eN := [(64, .getfield 37, 3, 7, 8, 2094, 5), (67, .iconst 0, 1, 0, 0, 0, 0), (68, .invokestatic 53, 3, 1, 181, 3024, 0), (71, .return_, 1, 0, 0, 0, 0)]
def tC121 : List (List eN) := [tC121_0, tC121_1, tC121_2]
def tM121 : eM := (tC121, 2, 0, 0, 0, 1)
def tY121 : eY := (⟨"FuseTreaty$State", "begin", "(LFuseTreaty$House;)V"⟩, prog_9_method_2_code, none)
def tC122_0 : List eN := [(0, .aload_n 0, 1, 0, 0, 0, 0), (1, .aload_n 1, 1, 0, 0, 0, 0), (2, .getfield 9, 3, 7, 0, 2067, 0), (5, .putfield 9, 3, 7, 0, 2067, 0), (8, .aload_n 0, 1, 0, 0, 0, 0), (9, .aload_n 1, 1, 0, 0, 0, 0), (10, .getfield 15, 3, 7, 1, 2071, 0), (13, .putfield 15, 3, 7, 1, 2071, 0), (16, .aload_n 0, 1, 0, 0, 0, 0), (17, .aload_n 1, 1, 0, 0, 0, 0), (18, .getfield 18, 3, 7, 2, 2074, 0), (21, .putfield 18, 3, 7, 2, 2074, 0), (24, .aload_n 0, 1, 0, 0, 0, 0), (25, .aload_n 1, 1, 0, 0, 0, 0), (26, .getfield 21, 3, 7, 3, 2077, 0), (29, .putfield 21, 3, 7, 3, 2077, 0)]
def tC122_1 : List eN := [(32, .aload_n 0, 1, 0, 0, 0, 0), (33, .aload_n 1, 1, 0, 0, 0, 0), (34, .getfield 24, 3, 7, 4, 2081, 0), (37, .putfield 24, 3, 7, 4, 2081, 0), (40, .aload_n 0, 1, 0, 0, 0, 0), (41, .aload_n 1, 1, 0, 0, 0, 0), (42, .getfield 27, 3, 7, 5, 2084, 0), (45, .putfield 27, 3, 7, 5, 2084, 0), (48, .aload_n 1, 1, 0, 0, 0, 0), (49, .getfield 30, 3, 7, 6, 2087, 5), (52, .iconst 0, 1, 0, 0, 0, 0), (53, .aload_n 0, 1, 0, 0, 0, 0), (54, .getfield 30, 3, 7, 6, 2087, 5), (57, .iconst 0, 1, 0, 0, 0, 0), (58, .bipush 10, 2, 0, 0, 0, 0), (60, .invokestatic 47, 3, 9, 0, 3021, 0), (63, .aload_n 1, 1, 0, 0, 0, 0)]
def tC122_2 : List eN := [(64, .getfield 34, 3, 7, 7, 2091, 5), (67, .iconst 0, 1, 0, 0, 0, 0), (68, .aload_n 0, 1, 0, 0, 0, 0), (69, .getfield 34, 3, 7, 7, 2091, 5), (72, .iconst 0, 1, 0, 0, 0, 0), (73, .bipush 10, 2, 0, 0, 0, 0), (75, .invokestatic 47, 3, 9, 0, 3021, 0), (78, .aload_n 1, 1, 0, 0, 0, 0), (79, .getfield 37, 3, 7, 8, 2094, 5), (82, .iconst 0, 1, 0, 0, 0, 0), (83, .aload_n 0, 1, 0, 0, 0, 0), (84, .getfield 37, 3, 7, 8, 2094, 5), (87, .iconst 0, 1, 0, 0, 0, 0), (88, .bipush 7, 2, 0, 0, 0, 0), (90, .invokestatic 47, 3, 9, 0, 3021, 0), (93, .return_, 1, 0, 0, 0, 0)]
def tC122 : List (List eN) := [tC122_0, tC122_1, tC122_2]
def tM122 : eM := (tC122, 2, 0, 0, 0, 1)
def tY122 : eY := (⟨"FuseTreaty$State", "copy", "(LFuseTreaty$State;)V"⟩, prog_9_method_3_code, none)
def tC123_0 : List eN := [(0, .iload_n 2, 1, 0, 0, 0, 0), (1, .ifCond .lt 12, 3, 13, 0, 0, 0), (4, .iload_n 2, 1, 0, 0, 0, 0), (5, .aload_n 1, 1, 0, 0, 0, 0), (6, .arraylength, 1, 0, 0, 0, 0), (7, .bipush 33, 2, 0, 0, 0, 0), (9, .isub, 1, 0, 0, 0, 0), (10, .if_icmp .le 4, 3, 14, 0, 0, 0), (14, .aload_n 1, 1, 0, 0, 0, 0), (15, .iload_n 2, 1, 0, 0, 0, 0), (16, .aload_n 0, 1, 0, 0, 0, 0), (17, .getfield 9, 3, 7, 0, 2067, 0), (20, .iastore, 1, 0, 0, 0, 0), (21, .aload_n 1, 1, 0, 0, 0, 0), (22, .iload_n 2, 1, 0, 0, 0, 0), (23, .iconst 1, 1, 0, 0, 0, 0), (24, .iadd, 1, 0, 0, 0, 0), (25, .aload_n 0, 1, 0, 0, 0, 0), (26, .getfield 15, 3, 7, 1, 2071, 0), (29, .iastore, 1, 0, 0, 0, 0), (30, .aload_n 1, 1, 0, 0, 0, 0), (31, .iload_n 2, 1, 0, 0, 0, 0)]
def tC123_1 : List eN := [(32, .iconst 2, 1, 0, 0, 0, 0), (33, .iadd, 1, 0, 0, 0, 0), (34, .aload_n 0, 1, 0, 0, 0, 0), (35, .getfield 18, 3, 7, 2, 2074, 0), (38, .iastore, 1, 0, 0, 0, 0), (39, .aload_n 1, 1, 0, 0, 0, 0), (40, .iload_n 2, 1, 0, 0, 0, 0), (41, .iconst 3, 1, 0, 0, 0, 0), (42, .iadd, 1, 0, 0, 0, 0), (43, .aload_n 0, 1, 0, 0, 0, 0), (44, .getfield 21, 3, 7, 3, 2077, 0), (47, .iastore, 1, 0, 0, 0, 0), (48, .aload_n 1, 1, 0, 0, 0, 0), (49, .iload_n 2, 1, 0, 0, 0, 0), (50, .iconst 4, 1, 0, 0, 0, 0), (51, .iadd, 1, 0, 0, 0, 0), (52, .aload_n 0, 1, 0, 0, 0, 0), (53, .getfield 24, 3, 7, 4, 2081, 0), (56, .iastore, 1, 0, 0, 0, 0), (57, .aload_n 1, 1, 0, 0, 0, 0), (58, .iload_n 2, 1, 0, 0, 0, 0), (59, .iconst 5, 1, 0, 0, 0, 0), (60, .iadd, 1, 0, 0, 0, 0), (61, .aload_n 0, 1, 0, 0, 0, 0), (62, .getfield 27, 3, 7, 5, 2084, 0)]
def tC123_2 : List eN := [(65, .iastore, 1, 0, 0, 0, 0), (66, .aload_n 0, 1, 0, 0, 0, 0), (67, .getfield 30, 3, 7, 6, 2087, 5), (70, .iconst 0, 1, 0, 0, 0, 0), (71, .aload_n 1, 1, 0, 0, 0, 0), (72, .iload_n 2, 1, 0, 0, 0, 0), (73, .bipush 6, 2, 0, 0, 0, 0), (75, .iadd, 1, 0, 0, 0, 0), (76, .bipush 10, 2, 0, 0, 0, 0), (78, .invokestatic 47, 3, 9, 0, 3021, 0), (81, .aload_n 0, 1, 0, 0, 0, 0), (82, .getfield 34, 3, 7, 7, 2091, 5), (85, .iconst 0, 1, 0, 0, 0, 0), (86, .aload_n 1, 1, 0, 0, 0, 0), (87, .iload_n 2, 1, 0, 0, 0, 0), (88, .bipush 6, 2, 0, 0, 0, 0), (90, .iadd, 1, 0, 0, 0, 0), (91, .bipush 10, 2, 0, 0, 0, 0), (93, .iadd, 1, 0, 0, 0, 0), (94, .bipush 10, 2, 0, 0, 0, 0)]
def tC123_3 : List eN := [(96, .invokestatic 47, 3, 9, 0, 3021, 0), (99, .aload_n 0, 1, 0, 0, 0, 0), (100, .getfield 37, 3, 7, 8, 2094, 5), (103, .iconst 0, 1, 0, 0, 0, 0), (104, .aload_n 1, 1, 0, 0, 0, 0), (105, .iload_n 2, 1, 0, 0, 0, 0), (106, .bipush 6, 2, 0, 0, 0, 0), (108, .iadd, 1, 0, 0, 0, 0), (109, .bipush 20, 2, 0, 0, 0, 0), (111, .iadd, 1, 0, 0, 0, 0), (112, .bipush 7, 2, 0, 0, 0, 0), (114, .invokestatic 47, 3, 9, 0, 3021, 0), (117, .return_, 1, 0, 0, 0, 0)]
def tC123 : List (List eN) := [tC123_0, tC123_1, tC123_2, tC123_3]
def tM123 : eM := (tC123, 3, 0, 0, 0, 2)
def tY123 : eY := (⟨"FuseTreaty$State", "writeTo", "([II)V"⟩, prog_9_method_4_code, none)
def tC124_0 : List eN := [(0, .aload_n 0, 1, 0, 0, 0, 0), (1, .getfield 9, 3, 7, 0, 2067, 0), (4, .bipush 24, 2, 0, 0, 0, 0), (6, .irem, 1, 0, 0, 0, 0), (7, .ireturn, 1, 0, 0, 0, 0)]
def tC124 : List (List eN) := [tC124_0]
def tM124 : eM := (tC124, 1, 0, 0, 1, 0)
def tY124 : eY := (⟨"FuseTreaty$State", "hourOfDay", "()I"⟩, prog_9_method_6_code, (some .int))
def tC125_0 : List eN := [(0, .aload_n 0, 1, 0, 0, 0, 0), (1, .invokespecial 3, 3, 6, 0, 1173, 0), (4, .aload_n 0, 1, 0, 0, 0, 0), (5, .sipush 401, 3, 0, 0, 0, 0), (8, .newarray .int, 2, 0, 0, 1064, 0), (10, .putfield 9, 3, 8, 0, 1227, 5), (13, .aload_n 0, 1, 0, 0, 0, 0), (14, .sipush 401, 3, 0, 0, 0, 0), (17, .newarray .int, 2, 0, 0, 1064, 0), (19, .putfield 15, 3, 8, 1, 1229, 5), (22, .aload_n 0, 1, 0, 0, 0, 0), (23, .sipush 401, 3, 0, 0, 0, 0), (26, .newarray .long, 2, 3, 0, 2007, 0), (28, .putfield 18, 3, 8, 2, 1230, 5), (31, .aload_n 0, 1, 0, 0, 0, 0)]
def tC125_1 : List eN := [(32, .bipush 22, 2, 0, 0, 0, 0), (34, .newarray .long, 2, 3, 0, 2007, 0), (36, .putfield 22, 3, 8, 3, 1231, 5), (39, .aload_n 0, 1, 0, 0, 0, 0), (40, .iconst 0, 1, 0, 0, 0, 0), (41, .putfield 25, 3, 8, 5, 1233, 0), (44, .iconst 0, 1, 0, 0, 0, 0), (45, .istore_n 1, 1, 0, 0, 0, 0), (46, .lconst 0, 1, 0, 0, 0, 0), (47, .lstore_n 2, 1, 0, 0, 0, 0), (48, .iconst 0, 1, 0, 0, 0, 0), (49, .istore 4, 2, 0, 0, 0, 0)]
def tC125_2 : List eN := [(74, .istore 5, 2, 0, 0, 0, 0), (76, .iload 5, 2, 0, 0, 0, 0), (78, .bipush 32, 2, 0, 0, 0, 0), (80, .if_icmp .ne 18, 3, 98, 0, 0, 0), (83, .aload_n 0, 1, 0, 0, 0, 0), (84, .getfield 22, 3, 8, 3, 1231, 5), (87, .iload_n 1, 1, 0, 0, 0, 0), (88, .lload_n 2, 1, 0, 0, 0, 0), (89, .lastore, 1, 0, 0, 0, 0), (90, .iinc 1 1, 3, 0, 0, 0, 0), (93, .lconst 0, 1, 0, 0, 0, 0), (94, .lstore_n 2, 1, 0, 0, 0, 0), (95, .goto 10, 3, 105, 0, 0, 0)]
def tC125_3 : List eN := [(98, .lload_n 2, 1, 0, 0, 0, 0), (99, .iload 5, 2, 0, 0, 0, 0), (101, .invokestatic 40, 3, 1, 128, 1223, 8), (104, .lstore_n 2, 1, 0, 0, 0, 0), (105, .iinc 4 1, 3, 0, 0, 0, 0), (108, .goto (-57), 3, 51, 0, 0, 0), (111, .return_, 1, 0, 0, 0, 0)]
def tC125 : List (List eN) := [tC125_0, tC125_1, tC125_2, tC125_3]
def tM125 : eM := (tC125, 6, 4, 1225, 0, 0)
def tY125 : eY := (⟨"FuseTreaty$Tokens", "<init>", "()V"⟩, prog_10_method_1_code, none)
def tC126_0 : List eN := [(0, .aload_n 0, 1, 0, 0, 0, 0), (1, .aload_n 1, 1, 0, 0, 0, 0), (2, .putfield 44, 3, 8, 4, 1232, 5), (5, .aload_n 0, 1, 0, 0, 0, 0), (6, .iload_n 2, 1, 0, 0, 0, 0), (7, .aload_n 1, 1, 0, 0, 0, 0), (8, .arraylength, 1, 0, 0, 0, 0), (9, .invokestatic 48, 3, 7, 0, 3087, 0), (12, .putfield 25, 3, 8, 5, 1233, 0), (15, .iconst 0, 1, 0, 0, 0, 0), (16, .istore_n 3, 1, 0, 0, 0, 0), (17, .iconst 0, 1, 0, 0, 0, 0), (18, .istore 4, 2, 0, 0, 0, 0), (20, .iload 4, 2, 0, 0, 0, 0), (22, .sipush 400, 3, 0, 0, 0, 0), (25, .if_icmp .gt 56, 3, 81, 0, 0, 0), (28, .aload_n 0, 1, 0, 0, 0, 0), (29, .iload_n 3, 1, 0, 0, 0, 0), (30, .invokevirtual 54, 3, 0, 129, 3090, 8)]
def tC126_1 : List eN := [(33, .istore_n 3, 1, 0, 0, 0, 0), (34, .aload_n 0, 1, 0, 0, 0, 0), (35, .getfield 15, 3, 8, 1, 1229, 5), (38, .iload 4, 2, 0, 0, 0, 0), (40, .iload_n 3, 1, 0, 0, 0, 0), (41, .iastore, 1, 0, 0, 0, 0), (42, .aload_n 0, 1, 0, 0, 0, 0), (43, .iload 4, 2, 0, 0, 0, 0), (45, .iload_n 3, 1, 0, 0, 0, 0), (46, .invokevirtual 58, 3, 0, 130, 3098, 8), (49, .istore_n 3, 1, 0, 0, 0, 0), (50, .aload_n 0, 1, 0, 0, 0, 0), (51, .getfield 9, 3, 8, 0, 1227, 5), (54, .iload 4, 2, 0, 0, 0, 0), (56, .iaload, 1, 0, 0, 0, 0), (57, .bipush 24, 2, 0, 0, 0, 0), (59, .if_icmp .eq 15, 3, 74, 0, 0, 0)]
def tC126_2 : List eN := [(74, .return_, 1, 0, 0, 0, 0)]
def tC126 : List (List eN) := [tC126_0, tC126_1, tC126_2]
def tM126 : eM := (tC126, 5, 0, 0, 0, 2)
def tY126 : eY := (⟨"FuseTreaty$Tokens", "scan", "([BI)V"⟩, prog_10_method_2_code, none)
def tC127_0 : List eN := [(0, .iload_n 1, 1, 0, 0, 0, 0), (1, .ifCond .lt 19, 3, 20, 0, 0, 0), (4, .iload_n 1, 1, 0, 0, 0, 0), (5, .sipush 400, 3, 0, 0, 0, 0), (8, .if_icmp .gt 12, 3, 20, 0, 0, 0), (11, .aload_n 0, 1, 0, 0, 0, 0), (12, .getfield 9, 3, 8, 0, 1227, 5), (15, .iload_n 1, 1, 0, 0, 0, 0), (16, .iaload, 1, 0, 0, 0, 0), (17, .goto 5, 3, 22, 0, 0, 0), (22, .ireturn, 1, 0, 0, 0, 0)]
def tC127 : List (List eN) := [tC127_0]
def tM127 : eM := (tC127, 2, 0, 0, 1, 1)
def tY127 : eY := (⟨"FuseTreaty$Tokens", "kindAt", "(I)I"⟩, prog_10_method_3_code, (some .int))
def tC128_0 : List eN := [(0, .lload_n 0, 1, 0, 0, 0, 0), (1, .ldc2_w 65, 3, 27, 0, 1226, 0), (4, .lmul, 1, 0, 0, 0, 0), (5, .iload_n 2, 1, 0, 0, 0, 0), (6, .bipush 97, 2, 0, 0, 0, 0), (8, .isub, 1, 0, 0, 0, 0), (9, .iconst 1, 1, 0, 0, 0, 0), (10, .iadd, 1, 0, 0, 0, 0), (11, .i2l, 1, 0, 0, 0, 0), (12, .ladd, 1, 0, 0, 0, 0), (13, .lreturn, 1, 0, 0, 0, 0)]
def tC128 : List (List eN) := [tC128_0]
def tM128 : eM := (tC128, 3, 0, 0, 3, 2)
def tY128 : eY := (⟨"FuseTreaty$Tokens", "withLetter", "(JI)J"⟩, prog_10_method_7_code, (some .long))
def tC129_0 : List eN := [(0, .iload_n 1, 1, 0, 0, 0, 0), (1, .istore_n 2, 1, 0, 0, 0, 0), (2, .iload_n 2, 1, 0, 0, 0, 0), (3, .aload_n 0, 1, 0, 0, 0, 0), (4, .getfield 25, 3, 8, 5, 1233, 0), (7, .if_icmp .ge 41, 3, 48, 0, 0, 0)]
def tC129_1 : List eN := [(48, .aload_n 0, 1, 0, 0, 0, 0), (49, .getfield 25, 3, 8, 5, 1233, 0), (52, .ireturn, 1, 0, 0, 0, 0)]
def tC129 : List (List eN) := [tC129_0, tC129_1]
def tM129 : eM := (tC129, 4, 0, 0, 1, 1)
def tY129 : eY := (⟨"FuseTreaty$Tokens", "pastBlanks", "(I)I"⟩, prog_10_method_11_code, (some .int))
def tC130_0 : List eN := [(0, .iload_n 2, 1, 0, 0, 0, 0), (1, .aload_n 0, 1, 0, 0, 0, 0), (2, .getfield 25, 3, 8, 5, 1233, 0), (5, .if_icmp .lt 13, 3, 18, 0, 0, 0), (8, .aload_n 0, 1, 0, 0, 0, 0), (9, .getfield 9, 3, 8, 0, 1227, 5), (12, .iload_n 1, 1, 0, 0, 0, 0), (13, .bipush 24, 2, 0, 0, 0, 0), (15, .iastore, 1, 0, 0, 0, 0), (16, .iload_n 2, 1, 0, 0, 0, 0), (17, .ireturn, 1, 0, 0, 0, 0)]
def tC130 : List (List eN) := [tC130_0]
def tM130 : eM := (tC130, 3, 0, 0, 1, 2)
def tY130 : eY := (⟨"FuseTreaty$Tokens", "scanOne", "(II)I"⟩, prog_10_method_12_code, (some .int))
def tC131_0 : List eN := [(0, .aload_n 0, 1, 0, 0, 0, 0), (1, .invokespecial 3, 3, 6, 0, 2221, 0), (4, .aload_n 0, 1, 0, 0, 0, 0), (5, .bipush 20, 2, 0, 0, 0, 0), (7, .newarray .int, 2, 0, 0, 1064, 0), (9, .putfield 9, 3, 9, 1, 2223, 5), (12, .aload_n 0, 1, 0, 0, 0, 0), (13, .bipush 20, 2, 0, 0, 0, 0), (15, .newarray .boolean, 2, 2, 0, 2236, 0), (17, .putfield 15, 3, 9, 2, 2224, 5), (20, .aload_n 0, 1, 0, 0, 0, 0), (21, .iconst 0, 1, 0, 0, 0, 0), (22, .putfield 19, 3, 9, 3, 2225, 0), (25, .aload_n 0, 1, 0, 0, 0, 0), (26, .aload_n 1, 1, 0, 0, 0, 0), (27, .putfield 23, 3, 9, 0, 2222, 5), (30, .return_, 1, 0, 0, 0, 0)]
def tC131 : List (List eN) := [tC131_0]
def tM131 : eM := (tC131, 2, 2, 40, 0, 1)
def tY131 : eY := (⟨"FuseTreaty$Told", "<init>", "(LFuseTreaty$House;)V"⟩, prog_11_method_1_code, none)
def tC132_0 : List eN := [(0, .aload_n 0, 1, 0, 0, 0, 0), (1, .iconst 0, 1, 0, 0, 0, 0), (2, .putfield 19, 3, 9, 3, 2225, 0), (5, .return_, 1, 0, 0, 0, 0)]
def tC132 : List (List eN) := [tC132_0]
def tM132 : eM := (tC132, 1, 0, 0, 0, 0)
def tY132 : eY := (⟨"FuseTreaty$Told", "clear", "()V"⟩, prog_11_method_2_code, none)
def tC133_0 : List eN := [(0, .iconst 0, 1, 0, 0, 0, 0), (1, .istore_n 3, 1, 0, 0, 0, 0), (2, .iconst 0, 1, 0, 0, 0, 0), (3, .istore 4, 2, 0, 0, 0, 0), (5, .iload 4, 2, 0, 0, 0, 0), (7, .aload_n 0, 1, 0, 0, 0, 0), (8, .getfield 23, 3, 9, 0, 2222, 5), (11, .getfield 27, 3, 3, 1, 1073, 0), (14, .if_icmp .ge 46, 3, 60, 0, 0, 0)]
def tC133_1 : List eN := [(60, .iload_n 3, 1, 0, 0, 0, 0), (61, .ireturn, 1, 0, 0, 0, 0)]
def tC133 : List (List eN) := [tC133_0, tC133_1]
def tM133 : eM := (tC133, 5, 0, 0, 1, 2)
def tY133 : eY := (⟨"FuseTreaty$Told", "suspects", "(II)I"⟩, prog_11_method_4_code, (some .int))
def tC134_0 : List eN := [(0, .aload_n 0, 1, 0, 0, 0, 0), (1, .iload_n 1, 1, 0, 0, 0, 0), (2, .iload_n 2, 1, 0, 0, 0, 0), (3, .invokevirtual 43, 3, 0, 133, 5211, 9), (6, .istore_n 3, 1, 0, 0, 0, 0), (7, .bipush (-2), 2, 0, 0, 0, 0), (9, .istore 4, 2, 0, 0, 0, 0), (11, .ldc 49, 2, 2147483647, 0, 5212, 0), (13, .istore 5, 2, 0, 0, 0, 0), (15, .iconst 0, 1, 0, 0, 0, 0), (16, .istore 6, 2, 0, 0, 0, 0), (18, .iload 6, 2, 0, 0, 0, 0), (20, .aload_n 0, 1, 0, 0, 0, 0), (21, .getfield 23, 3, 9, 0, 2222, 5), (24, .getfield 50, 3, 3, 0, 1067, 0), (27, .if_icmp .ge 38, 3, 65, 0, 0, 0)]
def tC134_1 : List eN := []
def tC134_2 : List eN := [(65, .iload 4, 2, 0, 0, 0, 0), (67, .ireturn, 1, 0, 0, 0, 0)]
def tC134 : List (List eN) := [tC134_0, tC134_1, tC134_2]
def tM134 : eM := (tC134, 8, 0, 0, 1, 2)
def tY134 : eY := (⟨"FuseTreaty$Told", "bestQuestion", "(II)I"⟩, prog_11_method_6_code, (some .int))
def tC135_0 : List eN := [(0, .aload_n 0, 1, 0, 0, 0, 0), (1, .invokespecial 3, 3, 6, 0, 2151, 0), (4, .aload_n 0, 1, 0, 0, 0, 0), (5, .iconst (-1), 1, 0, 0, 0, 0), (6, .putfield 9, 3, 10, 1, 2153, 0), (9, .aload_n 0, 1, 0, 0, 0, 0), (10, .bipush 7, 2, 0, 0, 0, 0), (12, .newarray .int, 2, 0, 0, 1064, 0), (14, .putfield 15, 3, 10, 2, 2154, 5), (17, .aload_n 0, 1, 0, 0, 0, 0), (18, .bipush 7, 2, 0, 0, 0, 0), (20, .newarray .int, 2, 0, 0, 1064, 0), (22, .putfield 19, 3, 10, 3, 2155, 5), (25, .aload_n 0, 1, 0, 0, 0, 0), (26, .bipush 7, 2, 0, 0, 0, 0), (28, .newarray .int, 2, 0, 0, 1064, 0), (30, .putfield 22, 3, 10, 4, 2157, 5)]
def tC135_1 : List eN := [(33, .aload_n 0, 1, 0, 0, 0, 0), (34, .iconst 0, 1, 0, 0, 0, 0), (35, .putfield 25, 3, 10, 5, 2160, 0), (38, .aload_n 0, 1, 0, 0, 0, 0), (39, .aload_n 1, 1, 0, 0, 0, 0), (40, .putfield 28, 3, 10, 0, 2152, 5), (43, .return_, 1, 0, 0, 0, 0)]
def tC135 : List (List eN) := [tC135_0, tC135_1]
def tM135 : eM := (tC135, 2, 3, 21, 0, 1)
def tY135 : eY := (⟨"FuseTreaty$Ways", "<init>", "(LFuseTreaty$House;)V"⟩, prog_12_method_1_code, none)
def tC136_0 : List eN := [(0, .aload_n 0, 1, 0, 0, 0, 0), (1, .iconst (-1), 1, 0, 0, 0, 0), (2, .putfield 9, 3, 10, 1, 2153, 0), (5, .return_, 1, 0, 0, 0, 0)]
def tC136 : List (List eN) := [tC136_0]
def tM136 : eM := (tC136, 1, 0, 0, 0, 0)
def tY136 : eY := (⟨"FuseTreaty$Ways", "houseIsNew", "()V"⟩, prog_12_method_2_code, none)
def tC137_0 : List eN := [(0, .iload_n 1, 1, 0, 0, 0, 0), (1, .aload_n 0, 1, 0, 0, 0, 0), (2, .getfield 9, 3, 10, 1, 2153, 0), (5, .if_icmp .ne 4, 3, 9, 0, 0, 0), (8, .return_, 1, 0, 0, 0, 0), (9, .aload_n 0, 1, 0, 0, 0, 0), (10, .iload_n 1, 1, 0, 0, 0, 0), (11, .putfield 9, 3, 10, 1, 2153, 0), (14, .aload_n 0, 1, 0, 0, 0, 0), (15, .aload_n 0, 1, 0, 0, 0, 0), (16, .getfield 28, 3, 10, 0, 2152, 5), (19, .getfield 32, 3, 3, 0, 1066, 0), (22, .ifCond .le 7, 3, 29, 0, 0, 0), (29, .iconst 0, 1, 0, 0, 0, 0), (30, .putfield 25, 3, 10, 5, 2160, 0)]
def tC137_1 : List eN := [(33, .aload_n 0, 1, 0, 0, 0, 0), (34, .getfield 19, 3, 10, 3, 2155, 5), (37, .iconst (-1), 1, 0, 0, 0, 0), (38, .invokestatic 37, 3, 1, 181, 4081, 0), (41, .aload_n 0, 1, 0, 0, 0, 0), (42, .getfield 22, 3, 10, 4, 2157, 5), (45, .iconst 0, 1, 0, 0, 0, 0), (46, .invokestatic 37, 3, 1, 181, 4081, 0), (49, .aload_n 0, 1, 0, 0, 0, 0), (50, .getfield 19, 3, 10, 3, 2155, 5), (53, .iconst 0, 1, 0, 0, 0, 0), (54, .iconst 0, 1, 0, 0, 0, 0), (55, .iastore, 1, 0, 0, 0, 0), (56, .iconst 1, 1, 0, 0, 0, 0), (57, .istore_n 2, 1, 0, 0, 0, 0), (58, .iload_n 2, 1, 0, 0, 0, 0), (59, .aload_n 0, 1, 0, 0, 0, 0), (60, .getfield 28, 3, 10, 0, 2152, 5), (63, .getfield 32, 3, 3, 0, 1066, 0)]
def tC137_2 : List eN := [(66, .if_icmp .ge 62, 3, 128, 0, 0, 0)]
def tC137_3 : List eN := []
def tC137_4 : List eN := [(128, .return_, 1, 0, 0, 0, 0)]
def tC137 : List (List eN) := [tC137_0, tC137_1, tC137_2, tC137_3, tC137_4]
def tM137 : eM := (tC137, 5, 0, 0, 0, 1)
def tY137 : eY := (⟨"FuseTreaty$Ways", "lay", "(I)V"⟩, prog_12_method_3_code, none)
def tC138_0 : List eN := [(0, .aload_n 0, 1, 0, 0, 0, 0), (1, .invokespecial 1, 3, 6, 0, 1027, 0), (4, .aload_n 0, 1, 0, 0, 0, 0), (5, .sipush 2000, 3, 0, 0, 0, 0), (8, .newarray .byte, 2, 1, 0, 1063, 0), (10, .putfield 9, 3, 11, 0, 3027, 5), (13, .aload_n 0, 1, 0, 0, 0, 0), (14, .iconst 0, 1, 0, 0, 0, 0), (15, .putfield 13, 3, 11, 1, 3028, 0), (18, .aload_n 0, 1, 0, 0, 0, 0), (19, .iconst (-1), 1, 0, 0, 0, 0), (20, .putfield 17, 3, 11, 2, 3029, 0), (23, .aload_n 0, 1, 0, 0, 0, 0), (24, .new 20, 3, 3, 1030, 1031, 1002), (27, .dup, 1, 0, 0, 0, 0), (28, .invokespecial 22, 3, 5, 100, 0, 3), (31, .putfield 23, 3, 11, 3, 3030, 5)]
def tC138_1 : List eN := [(34, .aload_n 0, 1, 0, 0, 0, 0), (35, .new 20, 3, 3, 1030, 1031, 1002), (38, .dup, 1, 0, 0, 0, 0), (39, .invokespecial 22, 3, 5, 100, 0, 3), (42, .putfield 27, 3, 11, 4, 3031, 5), (45, .aload_n 0, 1, 0, 0, 0, 0), (46, .new 30, 3, 8, 1168, 1169, 1004), (49, .dup, 1, 0, 0, 0, 0), (50, .invokespecial 32, 3, 2, 125, 1170, 8), (53, .putfield 33, 3, 11, 5, 3032, 5), (56, .aload_n 0, 1, 0, 0, 0, 0), (57, .new 37, 3, 2, 2008, 2009, 1009), (60, .dup, 1, 0, 0, 0, 0), (61, .aload_n 0, 1, 0, 0, 0, 0), (62, .getfield 33, 3, 11, 5, 3032, 5)]
def tC138_2 : List eN := [(65, .aload_n 0, 1, 0, 0, 0, 0), (66, .getfield 27, 3, 11, 4, 3031, 5), (69, .invokespecial 39, 3, 2, 96, 2010, 2), (72, .putfield 42, 3, 11, 6, 3033, 5), (75, .aload_n 0, 1, 0, 0, 0, 0), (76, .new 46, 3, 5, 2036, 2037, 1010), (79, .dup, 1, 0, 0, 0, 0), (80, .aload_n 0, 1, 0, 0, 0, 0), (81, .getfield 33, 3, 11, 5, 3032, 5), (84, .aload_n 0, 1, 0, 0, 0, 0), (85, .getfield 27, 3, 11, 4, 3031, 5), (88, .invokespecial 48, 3, 2, 110, 2038, 5), (91, .putfield 49, 3, 11, 7, 3034, 5), (94, .aload_n 0, 1, 0, 0, 0, 0), (95, .new 53, 3, 7, 2061, 2062, 1011)]
def tC138_3 : List eN := [(98, .dup, 1, 0, 0, 0, 0), (99, .invokespecial 55, 3, 5, 120, 2, 7), (102, .putfield 56, 3, 11, 8, 3035, 5), (105, .aload_n 0, 1, 0, 0, 0, 0), (106, .new 60, 3, 6, 2116, 2117, 1012), (109, .dup, 1, 0, 0, 0, 0), (110, .invokespecial 62, 3, 5, 113, 3, 6), (113, .putfield 63, 3, 11, 9, 3036, 5), (116, .aload_n 0, 1, 0, 0, 0, 0), (117, .new 67, 3, 0, 2140, 2141, 1013), (120, .dup, 1, 0, 0, 0, 0), (121, .aload_n 0, 1, 0, 0, 0, 0), (122, .getfield 23, 3, 11, 3, 3030, 5), (125, .invokespecial 69, 3, 2, 72, 2142, 0)]
def tC138_4 : List eN := [(128, .putfield 72, 3, 11, 10, 3037, 5), (131, .aload_n 0, 1, 0, 0, 0, 0), (132, .new 76, 3, 1, 2192, 2193, 1015), (135, .dup, 1, 0, 0, 0, 0), (136, .aload_n 0, 1, 0, 0, 0, 0), (137, .getfield 23, 3, 11, 3, 3030, 5), (140, .aload_n 0, 1, 0, 0, 0, 0), (141, .getfield 72, 3, 11, 10, 3037, 5), (144, .invokespecial 78, 3, 2, 87, 2194, 1), (147, .putfield 81, 3, 11, 11, 3038, 5), (150, .aload_n 0, 1, 0, 0, 0, 0), (151, .new 85, 3, 9, 2216, 2217, 1016), (154, .dup, 1, 0, 0, 0, 0), (155, .aload_n 0, 1, 0, 0, 0, 0), (156, .getfield 23, 3, 11, 3, 3030, 5), (159, .invokespecial 87, 3, 2, 131, 2218, 9)]
def tC138_5 : List eN := [(162, .putfield 88, 3, 11, 12, 3039, 5), (165, .aload_n 0, 1, 0, 0, 0, 0), (166, .getfield 23, 3, 11, 3, 3030, 5), (169, .invokevirtual 92, 3, 0, 101, 2237, 3), (172, .aload_n 0, 1, 0, 0, 0, 0), (173, .getfield 56, 3, 11, 8, 3035, 5), (176, .aload_n 0, 1, 0, 0, 0, 0), (177, .getfield 23, 3, 11, 3, 3030, 5), (180, .invokevirtual 95, 3, 0, 121, 3017, 7), (183, .return_, 1, 0, 0, 0, 0)]
def tC138 : List (List eN) := [tC138_0, tC138_1, tC138_2, tC138_3, tC138_4, tC138_5]
def tM138 : eM := (tC138, 1, 69, 6048, 0, 0)
def tY138 : eY := (⟨"FuseTreaty", "<init>", "()V"⟩, prog_1_method_1_code, none)
def tC139_0 : List eN := [(0, .aload_n 0, 1, 0, 0, 0, 0), (1, .getfield 13, 3, 11, 1, 3028, 0), (4, .bipush 20, 2, 0, 0, 0, 0), (6, .iadd, 1, 0, 0, 0, 0), (7, .sipush 2000, 3, 0, 0, 0, 0), (10, .if_icmp .le 5, 3, 15, 0, 0, 0), (15, .aload_n 0, 1, 0, 0, 0, 0), (16, .iload_n 1, 1, 0, 0, 0, 0), (17, .invokevirtual 98, 3, 0, 140, 3071, 11), (20, .aload_n 0, 1, 0, 0, 0, 0), (21, .iload_n 2, 1, 0, 0, 0, 0), (22, .invokevirtual 98, 3, 0, 140, 3071, 11), (25, .aload_n 0, 1, 0, 0, 0, 0), (26, .iload_n 3, 1, 0, 0, 0, 0), (27, .invokevirtual 98, 3, 0, 140, 3071, 11), (30, .aload_n 0, 1, 0, 0, 0, 0), (31, .iload 4, 2, 0, 0, 0, 0)]
def tC139_1 : List eN := [(33, .invokevirtual 98, 3, 0, 140, 3071, 11), (36, .aload_n 0, 1, 0, 0, 0, 0), (37, .iload 5, 2, 0, 0, 0, 0), (39, .invokevirtual 98, 3, 0, 140, 3071, 11), (42, .aload_n 0, 1, 0, 0, 0, 0), (43, .getfield 13, 3, 11, 1, 3028, 0), (46, .ireturn, 1, 0, 0, 0, 0)]
def tC139 : List (List eN) := [tC139_0, tC139_1]
def tM139 : eM := (tC139, 6, 0, 0, 1, 5)
def tY139 : eY := (⟨"FuseTreaty", "feed", "(IIIII)I"⟩, prog_1_method_2_code, (some .int))
def tC140_0 : List eN := [(0, .bipush 24, 2, 0, 0, 0, 0), (2, .istore_n 2, 1, 0, 0, 0, 0), (3, .iload_n 2, 1, 0, 0, 0, 0), (4, .ifCond .lt 42, 3, 46, 0, 0, 0), (7, .aload_n 0, 1, 0, 0, 0, 0), (8, .getfield 13, 3, 11, 1, 3028, 0), (11, .sipush 2000, 3, 0, 0, 0, 0), (14, .if_icmp .ge 32, 3, 46, 0, 0, 0), (17, .aload_n 0, 1, 0, 0, 0, 0), (18, .getfield 9, 3, 11, 0, 3027, 5), (21, .aload_n 0, 1, 0, 0, 0, 0), (22, .getfield 13, 3, 11, 1, 3028, 0), (25, .iload_n 1, 1, 0, 0, 0, 0), (26, .iload_n 2, 1, 0, 0, 0, 0), (27, .iushr, 1, 0, 0, 0, 0), (28, .i2b, 1, 0, 0, 0, 0), (29, .bastore, 1, 0, 0, 0, 0), (30, .aload_n 0, 1, 0, 0, 0, 0), (31, .dup, 1, 0, 0, 0, 0)]
def tC140_1 : List eN := [(32, .getfield 13, 3, 11, 1, 3028, 0), (35, .iconst 1, 1, 0, 0, 0, 0), (36, .iadd, 1, 0, 0, 0, 0), (37, .putfield 13, 3, 11, 1, 3028, 0), (40, .iinc 2 (-8), 3, 0, 0, 0, 0), (43, .goto (-40), 3, 3, 0, 0, 0), (46, .return_, 1, 0, 0, 0, 0)]
def tC140 : List (List eN) := [tC140_0, tC140_1]
def tM140 : eM := (tC140, 3, 0, 0, 0, 1)
def tY140 : eY := (⟨"FuseTreaty", "putBytes", "(I)V"⟩, prog_1_method_3_code, none)
def tC141_0 : List eN := [(0, .iload_n 1, 1, 0, 0, 0, 0), (1, .ifCond .lt 11, 3, 12, 0, 0, 0), (4, .iload_n 1, 1, 0, 0, 0, 0), (5, .aload_n 0, 1, 0, 0, 0, 0), (6, .getfield 13, 3, 11, 1, 3028, 0), (9, .if_icmp .le 5, 3, 14, 0, 0, 0), (12, .iconst (-1), 1, 0, 0, 0, 0), (13, .ireturn, 1, 0, 0, 0, 0), (14, .aload_n 0, 1, 0, 0, 0, 0), (15, .dup, 1, 0, 0, 0, 0), (16, .getfield 13, 3, 11, 1, 3028, 0), (19, .iload_n 1, 1, 0, 0, 0, 0), (20, .isub, 1, 0, 0, 0, 0), (21, .putfield 13, 3, 11, 1, 3028, 0), (24, .aload_n 0, 1, 0, 0, 0, 0), (25, .getfield 13, 3, 11, 1, 3028, 0), (28, .ireturn, 1, 0, 0, 0, 0)]
def tC141 : List (List eN) := [tC141_0]
def tM141 : eM := (tC141, 2, 0, 0, 1, 1)
def tY141 : eY := (⟨"FuseTreaty", "back", "(I)I"⟩, prog_1_method_4_code, (some .int))
def tC142_0 : List eN := [(0, .aload_n 0, 1, 0, 0, 0, 0), (1, .getfield 33, 3, 11, 5, 3032, 5), (4, .aload_n 0, 1, 0, 0, 0, 0), (5, .getfield 9, 3, 11, 0, 3027, 5), (8, .aload_n 0, 1, 0, 0, 0, 0), (9, .getfield 13, 3, 11, 1, 3028, 0), (12, .invokevirtual 102, 3, 0, 126, 3083, 8), (15, .aload_n 0, 1, 0, 0, 0, 0), (16, .iconst 0, 1, 0, 0, 0, 0), (17, .putfield 13, 3, 11, 1, 3028, 0), (20, .aload_n 0, 1, 0, 0, 0, 0), (21, .getfield 27, 3, 11, 4, 3031, 5), (24, .invokevirtual 92, 3, 0, 101, 2237, 3), (27, .aload_n 0, 1, 0, 0, 0, 0), (28, .getfield 42, 3, 11, 6, 3033, 5), (31, .invokevirtual 106, 3, 0, 97, 3126, 2)]
def tC142_1 : List eN := [(34, .istore_n 1, 1, 0, 0, 0, 0), (35, .aload_n 0, 1, 0, 0, 0, 0), (36, .aload_n 0, 1, 0, 0, 0, 0), (37, .getfield 42, 3, 11, 6, 3033, 5), (40, .invokevirtual 110, 3, 0, 98, 3189, 2), (43, .putfield 17, 3, 11, 2, 3029, 0), (46, .iload_n 1, 1, 0, 0, 0, 0), (47, .ifCond .ne 22, 3, 69, 0, 0, 0), (50, .aload_n 0, 1, 0, 0, 0, 0), (51, .getfield 49, 3, 11, 7, 3034, 5), (54, .invokevirtual 113, 3, 0, 111, 3197, 5), (57, .istore_n 1, 1, 0, 0, 0, 0), (58, .aload_n 0, 1, 0, 0, 0, 0), (59, .aload_n 0, 1, 0, 0, 0, 0), (60, .getfield 49, 3, 11, 7, 3034, 5), (63, .invokevirtual 114, 3, 0, 112, 4026, 5)]
def tC142_2 : List eN := [(66, .putfield 17, 3, 11, 2, 3029, 0), (69, .iload_n 1, 1, 0, 0, 0, 0), (70, .ifCond .ne 53, 3, 123, 0, 0, 0), (73, .aload_n 0, 1, 0, 0, 0, 0), (74, .getfield 23, 3, 11, 3, 3030, 5), (77, .aload_n 0, 1, 0, 0, 0, 0), (78, .getfield 27, 3, 11, 4, 3031, 5), (81, .invokevirtual 115, 3, 0, 102, 4031, 3), (84, .aload_n 0, 1, 0, 0, 0, 0), (85, .getfield 72, 3, 11, 10, 3037, 5), (88, .invokevirtual 118, 3, 0, 73, 4041, 0), (91, .aload_n 0, 1, 0, 0, 0, 0), (92, .getfield 56, 3, 11, 8, 3035, 5), (95, .aload_n 0, 1, 0, 0, 0, 0)]
def tC142_3 : List eN := [(96, .getfield 23, 3, 11, 3, 3030, 5), (99, .invokevirtual 95, 3, 0, 121, 3017, 7), (102, .aload_n 0, 1, 0, 0, 0, 0), (103, .getfield 63, 3, 11, 9, 3036, 5), (106, .invokevirtual 121, 3, 0, 114, 4049, 6), (109, .aload_n 0, 1, 0, 0, 0, 0), (110, .getfield 63, 3, 11, 9, 3036, 5), (113, .invokevirtual 122, 3, 0, 115, 4053, 6), (116, .aload_n 0, 1, 0, 0, 0, 0), (117, .getfield 88, 3, 11, 12, 3039, 5), (120, .invokevirtual 125, 3, 0, 132, 4057, 9), (123, .iload_n 1, 1, 0, 0, 0, 0), (124, .ireturn, 1, 0, 0, 0, 0)]
def tC142 : List (List eN) := [tC142_0, tC142_1, tC142_2, tC142_3]
def tM142 : eM := (tC142, 2, 0, 0, 1, 0)
def tY142 : eY := (⟨"FuseTreaty", "read", "()I"⟩, prog_1_method_5_code, (some .int))
def tC143_0 : List eN := [(0, .aload_n 0, 1, 0, 0, 0, 0), (1, .getfield 17, 3, 11, 2, 3029, 0), (4, .ireturn, 1, 0, 0, 0, 0)]
def tC143 : List (List eN) := [tC143_0]
def tM143 : eM := (tC143, 1, 0, 0, 1, 0)
def tY143 : eY := (⟨"FuseTreaty", "place", "()I"⟩, prog_1_method_6_code, (some .int))
def tC144_0 : List eN := [(0, .iload_n 1, 1, 0, 0, 0, 0), (1, .ifCond .lt 18, 3, 19, 0, 0, 0), (4, .iload_n 1, 1, 0, 0, 0, 0), (5, .aload_n 0, 1, 0, 0, 0, 0), (6, .getfield 23, 3, 11, 3, 3030, 5), (9, .getfield 126, 3, 3, 0, 1069, 0), (12, .if_icmp .ge 7, 3, 19, 0, 0, 0), (19, .iconst 0, 1, 0, 0, 0, 0), (20, .ireturn, 1, 0, 0, 0, 0)]
def tC144 : List (List eN) := [tC144_0]
def tM144 : eM := (tC144, 2, 0, 0, 2, 1)
def tY144 : eY := (⟨"FuseTreaty", "isFlat", "(I)Z"⟩, prog_1_method_7_code, (some .boolean))
def tC145_0 : List eN := [(0, .iload_n 1, 1, 0, 0, 0, 0), (1, .ifCond .lt 18, 3, 19, 0, 0, 0), (4, .iload_n 1, 1, 0, 0, 0, 0), (5, .aload_n 0, 1, 0, 0, 0, 0), (6, .getfield 23, 3, 11, 3, 3030, 5), (9, .getfield 129, 3, 3, 1, 1077, 0), (12, .if_icmp .ge 7, 3, 19, 0, 0, 0), (19, .iconst 0, 1, 0, 0, 0, 0), (20, .ireturn, 1, 0, 0, 0, 0)]
def tC145 : List (List eN) := [tC145_0]
def tM145 : eM := (tC145, 2, 0, 0, 2, 1)
def tY145 : eY := (⟨"FuseTreaty", "isWire", "(I)Z"⟩, prog_1_method_8_code, (some .boolean))
def tC146_0 : List eN := [(0, .iload_n 1, 1, 0, 0, 0, 0), (1, .ifCond .lt 18, 3, 19, 0, 0, 0), (4, .iload_n 1, 1, 0, 0, 0, 0), (5, .aload_n 0, 1, 0, 0, 0, 0), (6, .getfield 23, 3, 11, 3, 3030, 5), (9, .getfield 132, 3, 3, 2, 1083, 0), (12, .if_icmp .ge 7, 3, 19, 0, 0, 0), (19, .iconst 0, 1, 0, 0, 0, 0), (20, .ireturn, 1, 0, 0, 0, 0)]
def tC146 : List (List eN) := [tC146_0]
def tM146 : eM := (tC146, 2, 0, 0, 2, 1)
def tY146 : eY := (⟨"FuseTreaty", "isUse", "(I)Z"⟩, prog_1_method_9_code, (some .boolean))
def tC147_0 : List eN := [(0, .aload_n 0, 1, 0, 0, 0, 0), (1, .iload_n 1, 1, 0, 0, 0, 0), (2, .invokevirtual 135, 3, 0, 144, 4069, 11), (5, .ifCond .ne 5, 3, 10, 0, 0, 0), (8, .iconst (-1), 1, 0, 0, 0, 0), (9, .ireturn, 1, 0, 0, 0, 0)]
def tC147 : List (List eN) := [tC147_0]
def tM147 : eM := (tC147, 4, 0, 0, 1, 2)
def tY147 : eY := (⟨"FuseTreaty", "flat", "(II)I"⟩, prog_1_method_10_code, (some .int))
def tC148_0 : List eN := [(0, .aload_n 0, 1, 0, 0, 0, 0), (1, .iload_n 1, 1, 0, 0, 0, 0), (2, .invokevirtual 174, 3, 0, 145, 4143, 11), (5, .ifCond .ne 5, 3, 10, 0, 0, 0), (8, .iconst (-1), 1, 0, 0, 0, 0), (9, .ireturn, 1, 0, 0, 0, 0)]
def tC148 : List (List eN) := [tC148_0]
def tM148 : eM := (tC148, 3, 0, 0, 1, 2)
def tY148 : eY := (⟨"FuseTreaty", "wire", "(II)I"⟩, prog_1_method_11_code, (some .int))
def tC149_0 : List eN := [(0, .aload_n 0, 1, 0, 0, 0, 0), (1, .iload_n 1, 1, 0, 0, 0, 0), (2, .invokevirtual 204, 3, 0, 146, 4176, 11), (5, .ifCond .ne 5, 3, 10, 0, 0, 0), (8, .iconst (-1), 1, 0, 0, 0, 0), (9, .ireturn, 1, 0, 0, 0, 0)]
def tC149 : List (List eN) := [tC149_0]
def tM149 : eM := (tC149, 4, 0, 0, 1, 2)
def tY149 : eY := (⟨"FuseTreaty", "use", "(II)I"⟩, prog_1_method_12_code, (some .int))
def tC150_0 : List eN := [(0, .aload_n 0, 1, 0, 0, 0, 0), (1, .iload_n 1, 1, 0, 0, 0, 0), (2, .invokevirtual 204, 3, 0, 146, 4176, 11), (5, .ifCond .eq 18, 3, 23, 0, 0, 0), (23, .iconst 0, 1, 0, 0, 0, 0), (24, .ireturn, 1, 0, 0, 0, 0)]
def tC150 : List (List eN) := [tC150_0]
def tM150 : eM := (tC150, 3, 0, 0, 2, 2)
def tY150 : eY := (⟨"FuseTreaty", "agree", "(IZ)Z"⟩, prog_1_method_13_code, (some .boolean))
def tC151_0 : List eN := [(0, .aload_n 0, 1, 0, 0, 0, 0), (1, .iload_n 1, 1, 0, 0, 0, 0), (2, .invokevirtual 174, 3, 0, 145, 4143, 11), (5, .ifCond .ne 5, 3, 10, 0, 0, 0), (8, .iconst (-1), 1, 0, 0, 0, 0), (9, .ireturn, 1, 0, 0, 0, 0)]
def tC151 : List (List eN) := [tC151_0]
def tM151 : eM := (tC151, 3, 0, 0, 1, 1)
def tY151 : eY := (⟨"FuseTreaty", "mend", "(I)I"⟩, prog_1_method_14_code, (some .int))
def tC152_0 : List eN := [(0, .aload_n 0, 1, 0, 0, 0, 0), (1, .iload_n 1, 1, 0, 0, 0, 0), (2, .invokevirtual 174, 3, 0, 145, 4143, 11), (5, .ifCond .ne 5, 3, 10, 0, 0, 0), (8, .iconst (-1), 1, 0, 0, 0, 0), (9, .ireturn, 1, 0, 0, 0, 0)]
def tC152 : List (List eN) := [tC152_0]
def tM152 : eM := (tC152, 3, 0, 0, 1, 1)
def tY152 : eY := (⟨"FuseTreaty", "thicken", "(I)I"⟩, prog_1_method_15_code, (some .int))
def tC153_0 : List eN := [(0, .aload_n 0, 1, 0, 0, 0, 0), (1, .iload_n 1, 1, 0, 0, 0, 0), (2, .invokevirtual 174, 3, 0, 145, 4143, 11), (5, .ifCond .eq 32, 3, 37, 0, 0, 0)]
def tC153_1 : List eN := [(37, .iconst 0, 1, 0, 0, 0, 0), (38, .ireturn, 1, 0, 0, 0, 0)]
def tC153 : List (List eN) := [tC153_0, tC153_1]
def tM153 : eM := (tC153, 3, 0, 0, 2, 2)
def tY153 : eY := (⟨"FuseTreaty", "pin", "(IZ)Z"⟩, prog_1_method_16_code, (some .boolean))
def tC154_0 : List eN := [(0, .iload_n 1, 1, 0, 0, 0, 0), (1, .ifCond .lt 9, 3, 10, 0, 0, 0), (4, .iload_n 1, 1, 0, 0, 0, 0), (5, .bipush 72, 2, 0, 0, 0, 0), (7, .if_icmp .le 5, 3, 12, 0, 0, 0), (10, .iconst (-1), 1, 0, 0, 0, 0), (11, .ireturn, 1, 0, 0, 0, 0), (12, .iload_n 1, 1, 0, 0, 0, 0), (13, .ifCond .le 14, 3, 27, 0, 0, 0), (16, .aload_n 0, 1, 0, 0, 0, 0), (17, .getfield 63, 3, 11, 9, 3036, 5), (20, .aload_n 0, 1, 0, 0, 0, 0), (21, .getfield 56, 3, 11, 8, 3035, 5), (24, .invokevirtual 225, 3, 0, 116, 4188, 6), (27, .iconst 0, 1, 0, 0, 0, 0), (28, .istore_n 2, 1, 0, 0, 0, 0), (29, .iload_n 2, 1, 0, 0, 0, 0), (30, .iload_n 1, 1, 0, 0, 0, 0), (31, .if_icmp .ge 20, 3, 51, 0, 0, 0)]
def tC154_1 : List eN := [(34, .aload_n 0, 1, 0, 0, 0, 0), (35, .getfield 72, 3, 11, 10, 3037, 5), (38, .aload_n 0, 1, 0, 0, 0, 0), (39, .getfield 56, 3, 11, 8, 3035, 5), (42, .invokevirtual 232, 3, 0, 83, 4213, 0), (45, .iinc 2 1, 3, 0, 0, 0, 0), (48, .goto (-19), 3, 29, 0, 0, 0), (51, .aload_n 0, 1, 0, 0, 0, 0), (52, .getfield 56, 3, 11, 8, 3035, 5), (55, .getfield 235, 3, 7, 0, 2069, 0), (58, .ireturn, 1, 0, 0, 0, 0)]
def tC154 : List (List eN) := [tC154_0, tC154_1]
def tM154 : eM := (tC154, 3, 0, 0, 1, 1)
def tY154 : eY := (⟨"FuseTreaty", "hours", "(I)I"⟩, prog_1_method_17_code, (some .int))
def tC155_0 : List eN := [(0, .aload_n 0, 1, 0, 0, 0, 0), (1, .getfield 63, 3, 11, 9, 3036, 5), (4, .aload_n 0, 1, 0, 0, 0, 0), (5, .getfield 56, 3, 11, 8, 3035, 5), (8, .invokevirtual 238, 3, 0, 117, 5012, 6), (11, .ireturn, 1, 0, 0, 0, 0)]
def tC155 : List (List eN) := [tC155_0]
def tM155 : eM := (tC155, 1, 0, 0, 2, 0)
def tY155 : eY := (⟨"FuseTreaty", "undo", "()Z"⟩, prog_1_method_18_code, (some .boolean))
def tC156_0 : List eN := [(0, .aload_n 0, 1, 0, 0, 0, 0), (1, .iload_n 1, 1, 0, 0, 0, 0), (2, .invokevirtual 135, 3, 0, 144, 4069, 11), (5, .ifCond .eq 7, 3, 12, 0, 0, 0), (12, .iconst (-1), 1, 0, 0, 0, 0), (13, .ireturn, 1, 0, 0, 0, 0)]
def tC156 : List (List eN) := [tC156_0]
def tM156 : eM := (tC156, 4, 0, 0, 1, 2)
def tY156 : eY := (⟨"FuseTreaty", "way", "(II)I"⟩, prog_1_method_19_code, (some .int))
def tC157_0 : List eN := [(0, .aload_n 0, 1, 0, 0, 0, 0), (1, .iload_n 1, 1, 0, 0, 0, 0), (2, .invokevirtual 174, 3, 0, 145, 4143, 11), (5, .ifCond .eq 23, 3, 28, 0, 0, 0), (28, .iconst (-1), 1, 0, 0, 0, 0), (29, .ireturn, 1, 0, 0, 0, 0)]
def tC157 : List (List eN) := [tC157_0]
def tM157 : eM := (tC157, 4, 0, 0, 1, 3)
def tY157 : eY := (⟨"FuseTreaty", "peak", "(III)I"⟩, prog_1_method_20_code, (some .int))
def tC158_0 : List eN := [(0, .iload_n 1, 1, 0, 0, 0, 0), (1, .ifCond .lt 8, 3, 9, 0, 0, 0), (4, .iload_n 1, 1, 0, 0, 0, 0), (5, .iconst 1, 1, 0, 0, 0, 0), (6, .if_icmp .le 5, 3, 11, 0, 0, 0), (9, .iconst (-1), 1, 0, 0, 0, 0), (10, .ireturn, 1, 0, 0, 0, 0), (11, .aload_n 0, 1, 0, 0, 0, 0), (12, .getfield 81, 3, 11, 11, 3038, 5), (15, .aload_n 0, 1, 0, 0, 0, 0), (16, .getfield 56, 3, 11, 8, 3035, 5), (19, .invokevirtual 249, 3, 0, 88, 5045, 1), (22, .istore_n 2, 1, 0, 0, 0, 0), (23, .iload_n 2, 1, 0, 0, 0, 0), (24, .sipush 200, 3, 0, 0, 0, 0), (27, .if_icmp .le 6, 3, 33, 0, 0, 0), (30, .bipush (-2), 2, 0, 0, 0, 0)]
def tC158_1 : List eN := [(32, .ireturn, 1, 0, 0, 0, 0)]
def tC158 : List (List eN) := [tC158_0, tC158_1]
def tM158 : eM := (tC158, 3, 0, 0, 1, 1)
def tY158 : eY := (⟨"FuseTreaty", "first", "(I)I"⟩, prog_1_method_21_code, (some .int))
def tC159_0 : List eN := [(0, .iload_n 1, 1, 0, 0, 0, 0), (1, .ifCond .lt 8, 3, 9, 0, 0, 0), (4, .iload_n 1, 1, 0, 0, 0, 0), (5, .iconst 1, 1, 0, 0, 0, 0), (6, .if_icmp .le 5, 3, 11, 0, 0, 0), (9, .iconst (-1), 1, 0, 0, 0, 0), (10, .ireturn, 1, 0, 0, 0, 0), (11, .aload_n 0, 1, 0, 0, 0, 0), (12, .getfield 81, 3, 11, 11, 3038, 5), (15, .aload_n 0, 1, 0, 0, 0, 0), (16, .getfield 56, 3, 11, 8, 3035, 5), (19, .invokevirtual 255, 3, 0, 91, 5064, 1), (22, .istore_n 2, 1, 0, 0, 0, 0), (23, .iload_n 1, 1, 0, 0, 0, 0), (24, .ifCond .ne 14, 3, 38, 0, 0, 0), (27, .aload_n 0, 1, 0, 0, 0, 0), (28, .getfield 81, 3, 11, 11, 3038, 5), (31, .iload_n 2, 1, 0, 0, 0, 0)]
def tC159_1 : List eN := [(32, .invokevirtual 258, 3, 0, 92, 5076, 1), (35, .goto 4, 3, 39, 0, 0, 0), (38, .iload_n 2, 1, 0, 0, 0, 0), (39, .ireturn, 1, 0, 0, 0, 0)]
def tC159 : List (List eN) := [tC159_0, tC159_1]
def tM159 : eM := (tC159, 3, 0, 0, 1, 1)
def tY159 : eY := (⟨"FuseTreaty", "together", "(I)I"⟩, prog_1_method_22_code, (some .int))
def tC160_0 : List eN := [(0, .aload_n 0, 1, 0, 0, 0, 0), (1, .iload_n 1, 1, 0, 0, 0, 0), (2, .invokevirtual 204, 3, 0, 146, 4176, 11), (5, .ifCond .eq 18, 3, 23, 0, 0, 0), (23, .iconst (-1), 1, 0, 0, 0, 0), (24, .ireturn, 1, 0, 0, 0, 0)]
def tC160 : List (List eN) := [tC160_0]
def tM160 : eM := (tC160, 2, 0, 0, 1, 1)
def tY160 : eY := (⟨"FuseTreaty", "when", "(I)I"⟩, prog_1_method_23_code, (some .int))
def tC161_0 : List eN := [(0, .iload_n 1, 1, 0, 0, 0, 0), (1, .iconst 1, 1, 0, 0, 0, 0), (2, .if_icmp .lt 9, 3, 11, 0, 0, 0), (5, .iload_n 1, 1, 0, 0, 0, 0), (6, .bipush 20, 2, 0, 0, 0, 0), (8, .if_icmp .le 7, 3, 15, 0, 0, 0), (11, .iconst (-1), 1, 0, 0, 0, 0), (12, .goto 15, 3, 27, 0, 0, 0), (15, .aload_n 0, 1, 0, 0, 0, 0), (16, .getfield 81, 3, 11, 11, 3038, 5), (19, .aload_n 0, 1, 0, 0, 0, 0), (20, .getfield 56, 3, 11, 8, 3035, 5), (23, .iload_n 1, 1, 0, 0, 0, 0), (24, .invokevirtual 265, 3, 0, 90, 5092, 1), (27, .ireturn, 1, 0, 0, 0, 0)]
def tC161 : List (List eN) := [tC161_0]
def tM161 : eM := (tC161, 2, 0, 0, 1, 1)
def tY161 : eY := (⟨"FuseTreaty", "thick", "(I)I"⟩, prog_1_method_24_code, (some .int))
def tC162_0 : List eN := [(0, .aload_n 0, 1, 0, 0, 0, 0), (1, .iload_n 1, 1, 0, 0, 0, 0), (2, .invokevirtual 135, 3, 0, 144, 4069, 11), (5, .ifCond .eq 13, 3, 18, 0, 0, 0), (18, .iconst (-1), 1, 0, 0, 0, 0), (19, .ireturn, 1, 0, 0, 0, 0)]
def tC162 : List (List eN) := [tC162_0]
def tM162 : eM := (tC162, 4, 0, 0, 1, 2)
def tY162 : eY := (⟨"FuseTreaty", "cut", "(II)I"⟩, prog_1_method_25_code, (some .int))
def tC163_0 : List eN := [(0, .aload_n 0, 1, 0, 0, 0, 0), (1, .iload_n 1, 1, 0, 0, 0, 0), (2, .invokevirtual 135, 3, 0, 144, 4069, 11), (5, .ifCond .eq 11, 3, 16, 0, 0, 0), (16, .iconst (-1), 1, 0, 0, 0, 0), (17, .ireturn, 1, 0, 0, 0, 0)]
def tC163 : List (List eN) := [tC163_0]
def tM163 : eM := (tC163, 4, 0, 0, 1, 2)
def tY163 : eY := (⟨"FuseTreaty", "share", "(II)I"⟩, prog_1_method_26_code, (some .int))
def tC164_0 : List eN := [(0, .aload_n 0, 1, 0, 0, 0, 0), (1, .iload_n 1, 1, 0, 0, 0, 0), (2, .invokevirtual 174, 3, 0, 145, 4143, 11), (5, .ifCond .eq 34, 3, 39, 0, 0, 0)]
def tC164_1 : List eN := [(39, .iconst (-1), 1, 0, 0, 0, 0), (40, .ireturn, 1, 0, 0, 0, 0)]
def tC164 : List (List eN) := [tC164_0, tC164_1]
def tM164 : eM := (tC164, 2, 0, 0, 1, 1)
def tY164 : eY := (⟨"FuseTreaty", "without", "(I)I"⟩, prog_1_method_27_code, (some .int))
def tC165_0 : List eN := [(0, .aload_n 0, 1, 0, 0, 0, 0), (1, .getfield 23, 3, 11, 3, 3030, 5), (4, .aload_n 0, 1, 0, 0, 0, 0), (5, .getfield 56, 3, 11, 8, 3035, 5), (8, .getfield 186, 3, 7, 3, 2080, 0), (11, .invokevirtual 285, 3, 0, 103, 5132, 3), (14, .istore_n 1, 1, 0, 0, 0, 0), (15, .iconst 0, 1, 0, 0, 0, 0), (16, .istore_n 2, 1, 0, 0, 0, 0), (17, .iconst 0, 1, 0, 0, 0, 0), (18, .istore_n 3, 1, 0, 0, 0, 0), (19, .iload_n 3, 1, 0, 0, 0, 0), (20, .aload_n 0, 1, 0, 0, 0, 0), (21, .getfield 23, 3, 11, 3, 3030, 5), (24, .getfield 129, 3, 3, 1, 1077, 0), (27, .if_icmp .ge 51, 3, 78, 0, 0, 0)]
def tC165_1 : List eN := []
def tC165_2 : List eN := [(78, .iload_n 2, 1, 0, 0, 0, 0), (79, .ireturn, 1, 0, 0, 0, 0)]
def tC165 : List (List eN) := [tC165_0, tC165_1, tC165_2]
def tM165 : eM := (tC165, 4, 0, 0, 1, 0)
def tY165 : eY := (⟨"FuseTreaty", "needed", "()I"⟩, prog_1_method_28_code, (some .int))
def tC166_0 : List eN := [(0, .iload_n 1, 1, 0, 0, 0, 0), (1, .ifCond .lt 8, 3, 9, 0, 0, 0), (4, .iload_n 1, 1, 0, 0, 0, 0), (5, .iconst 1, 1, 0, 0, 0, 0), (6, .if_icmp .le 7, 3, 13, 0, 0, 0), (9, .sipush (-1000), 3, 0, 0, 0, 0), (12, .ireturn, 1, 0, 0, 0, 0), (13, .aload_n 0, 1, 0, 0, 0, 0), (14, .getfield 72, 3, 11, 10, 3037, 5), (17, .aload_n 0, 1, 0, 0, 0, 0), (18, .getfield 56, 3, 11, 8, 3035, 5), (21, .aload_n 0, 1, 0, 0, 0, 0), (22, .getfield 72, 3, 11, 10, 3037, 5), (25, .aload_n 0, 1, 0, 0, 0, 0), (26, .getfield 56, 3, 11, 8, 3035, 5), (29, .invokevirtual 166, 3, 0, 75, 4126, 0)]
def tC166_1 : List eN := [(32, .invokevirtual 288, 3, 0, 77, 5141, 0), (35, .iconst (-1), 1, 0, 0, 0, 0), (36, .istore_n 2, 1, 0, 0, 0, 0), (37, .iconst 0, 1, 0, 0, 0, 0), (38, .istore_n 3, 1, 0, 0, 0, 0), (39, .iconst 0, 1, 0, 0, 0, 0), (40, .istore 4, 2, 0, 0, 0, 0), (42, .iload 4, 2, 0, 0, 0, 0), (44, .aload_n 0, 1, 0, 0, 0, 0), (45, .getfield 23, 3, 11, 3, 3030, 5), (48, .getfield 129, 3, 3, 1, 1077, 0), (51, .if_icmp .ge 64, 3, 115, 0, 0, 0)]
def tC166_2 : List eN := []
def tC166_3 : List eN := [(115, .iload_n 2, 1, 0, 0, 0, 0), (116, .iconst (-1), 1, 0, 0, 0, 0), (117, .if_icmp .ne 7, 3, 124, 0, 0, 0), (120, .sipush (-2000), 3, 0, 0, 0, 0), (123, .ireturn, 1, 0, 0, 0, 0)]
def tC166 : List (List eN) := [tC166_0, tC166_1, tC166_2, tC166_3]
def tM166 : eM := (tC166, 6, 0, 0, 1, 1)
def tY166 : eY := (⟨"FuseTreaty", "hottest", "(I)I"⟩, prog_1_method_29_code, (some .int))
def tC167_0 : List eN := [(0, .aload_n 0, 1, 0, 0, 0, 0), (1, .iload_n 1, 1, 0, 0, 0, 0), (2, .invokevirtual 204, 3, 0, 146, 4176, 11), (5, .ifCond .eq 32, 3, 37, 0, 0, 0)]
def tC167_1 : List eN := [(37, .iconst (-1), 1, 0, 0, 0, 0), (38, .ireturn, 1, 0, 0, 0, 0)]
def tC167 : List (List eN) := [tC167_0, tC167_1]
def tM167 : eM := (tC167, 3, 0, 0, 1, 2)
def tY167 : eY := (⟨"FuseTreaty", "clash", "(II)I"⟩, prog_1_method_30_code, (some .int))
def tC168_0 : List eN := [(0, .iload_n 1, 1, 0, 0, 0, 0), (1, .ifCond .lt 18, 3, 19, 0, 0, 0), (4, .iload_n 1, 1, 0, 0, 0, 0), (5, .bipush 72, 2, 0, 0, 0, 0), (7, .if_icmp .gt 12, 3, 19, 0, 0, 0), (10, .iload_n 2, 1, 0, 0, 0, 0), (11, .ifCond .lt 8, 3, 19, 0, 0, 0), (14, .iload_n 2, 1, 0, 0, 0, 0), (15, .iconst 2, 1, 0, 0, 0, 0), (16, .if_icmp .le 5, 3, 21, 0, 0, 0), (19, .iconst (-1), 1, 0, 0, 0, 0), (20, .ireturn, 1, 0, 0, 0, 0), (21, .aload_n 0, 1, 0, 0, 0, 0), (22, .getfield 81, 3, 11, 11, 3038, 5), (25, .aload_n 0, 1, 0, 0, 0, 0), (26, .getfield 56, 3, 11, 8, 3035, 5), (29, .iload_n 1, 1, 0, 0, 0, 0), (30, .invokevirtual 299, 3, 0, 93, 5155, 1)]
def tC168_1 : List eN := [(33, .astore_n 3, 1, 0, 0, 0, 0), (34, .iload_n 2, 1, 0, 0, 0, 0), (35, .ifCond .ne 16, 3, 51, 0, 0, 0), (38, .aload_n 3, 1, 0, 0, 0, 0), (39, .getfield 229, 3, 7, 1, 2072, 0), (42, .aload_n 0, 1, 0, 0, 0, 0), (43, .getfield 56, 3, 11, 8, 3035, 5), (46, .getfield 229, 3, 7, 1, 2072, 0), (49, .isub, 1, 0, 0, 0, 0), (50, .ireturn, 1, 0, 0, 0, 0), (51, .iload_n 2, 1, 0, 0, 0, 0), (52, .iconst 1, 1, 0, 0, 0, 0), (53, .if_icmp .ne 18, 3, 71, 0, 0, 0), (56, .aload_n 3, 1, 0, 0, 0, 0), (57, .getfield 303, 3, 7, 2, 2076, 0), (60, .aload_n 0, 1, 0, 0, 0, 0), (61, .getfield 56, 3, 11, 8, 3035, 5)]
def tC168_2 : List eN := [(64, .getfield 303, 3, 7, 2, 2076, 0), (67, .isub, 1, 0, 0, 0, 0), (68, .goto 10, 3, 78, 0, 0, 0), (71, .aload_n 3, 1, 0, 0, 0, 0), (72, .getfield 186, 3, 7, 3, 2080, 0), (75, .invokestatic 271, 3, 1, 180, 5113, 0), (78, .ireturn, 1, 0, 0, 0, 0)]
def tC168 : List (List eN) := [tC168_0, tC168_1, tC168_2]
def tM168 : eM := (tC168, 4, 0, 0, 1, 2)
def tY168 : eY := (⟨"FuseTreaty", "then", "(II)I"⟩, prog_1_method_31_code, (some .int))
def tC169_0 : List eN := [(0, .aload_n 0, 1, 0, 0, 0, 0), (1, .iload_n 1, 1, 0, 0, 0, 0), (2, .invokevirtual 135, 3, 0, 144, 4069, 11), (5, .ifCond .eq 13, 3, 18, 0, 0, 0), (18, .iconst (-1), 1, 0, 0, 0, 0), (19, .ireturn, 1, 0, 0, 0, 0)]
def tC169 : List (List eN) := [tC169_0]
def tM169 : eM := (tC169, 3, 0, 0, 1, 2)
def tY169 : eY := (⟨"FuseTreaty", "litIn", "(II)I"⟩, prog_1_method_32_code, (some .int))
def tC170_0 : List eN := [(0, .iload_n 1, 1, 0, 0, 0, 0), (1, .ifCond .lt 20, 3, 21, 0, 0, 0), (4, .iload_n 1, 1, 0, 0, 0, 0), (5, .bipush 72, 2, 0, 0, 0, 0), (7, .if_icmp .gt 14, 3, 21, 0, 0, 0), (10, .iload_n 2, 1, 0, 0, 0, 0), (11, .iconst 1, 1, 0, 0, 0, 0), (12, .if_icmp .lt 9, 3, 21, 0, 0, 0), (15, .iload_n 2, 1, 0, 0, 0, 0), (16, .bipush 20, 2, 0, 0, 0, 0), (18, .if_icmp .le 7, 3, 25, 0, 0, 0), (21, .iconst (-1), 1, 0, 0, 0, 0), (22, .goto 16, 3, 38, 0, 0, 0), (25, .aload_n 0, 1, 0, 0, 0, 0), (26, .getfield 81, 3, 11, 11, 3038, 5), (29, .aload_n 0, 1, 0, 0, 0, 0), (30, .getfield 56, 3, 11, 8, 3035, 5)]
def tC170_1 : List eN := [(33, .iload_n 1, 1, 0, 0, 0, 0), (34, .iload_n 2, 1, 0, 0, 0, 0), (35, .invokevirtual 306, 3, 0, 94, 5168, 1), (38, .ireturn, 1, 0, 0, 0, 0)]
def tC170 : List (List eN) := [tC170_0, tC170_1]
def tM170 : eM := (tC170, 3, 0, 0, 1, 2)
def tY170 : eY := (⟨"FuseTreaty", "year", "(II)I"⟩, prog_1_method_33_code, (some .int))
def tC171_0 : List eN := [(0, .aload_n 0, 1, 0, 0, 0, 0), (1, .iload_n 1, 1, 0, 0, 0, 0), (2, .invokevirtual 135, 3, 0, 144, 4069, 11), (5, .ifCond .eq 15, 3, 20, 0, 0, 0), (20, .iconst (-1), 1, 0, 0, 0, 0), (21, .ireturn, 1, 0, 0, 0, 0)]
def tC171 : List (List eN) := [tC171_0]
def tM171 : eM := (tC171, 3, 0, 0, 1, 2)
def tY171 : eY := (⟨"FuseTreaty", "tell", "(IZ)I"⟩, prog_1_method_34_code, (some .int))
def tC172_0 : List eN := [(0, .aload_n 0, 1, 0, 0, 0, 0), (1, .getfield 88, 3, 11, 12, 3039, 5), (4, .getfield 313, 3, 9, 3, 2226, 0), (7, .istore_n 1, 1, 0, 0, 0, 0), (8, .aload_n 0, 1, 0, 0, 0, 0), (9, .getfield 88, 3, 11, 12, 3039, 5), (12, .invokevirtual 125, 3, 0, 132, 4057, 9), (15, .iload_n 1, 1, 0, 0, 0, 0), (16, .ireturn, 1, 0, 0, 0, 0)]
def tC172 : List (List eN) := [tC172_0]
def tM172 : eM := (tC172, 2, 0, 0, 1, 0)
def tY172 : eY := (⟨"FuseTreaty", "forget", "()I"⟩, prog_1_method_35_code, (some .int))
def tC173_0 : List eN := [(0, .iload_n 1, 1, 0, 0, 0, 0), (1, .ifCond .lt 23, 3, 24, 0, 0, 0), (4, .iload_n 1, 1, 0, 0, 0, 0), (5, .aload_n 0, 1, 0, 0, 0, 0), (6, .getfield 88, 3, 11, 12, 3039, 5), (9, .getfield 313, 3, 9, 3, 2226, 0), (12, .if_icmp .gt 12, 3, 24, 0, 0, 0), (15, .iload_n 2, 1, 0, 0, 0, 0), (16, .ifCond .lt 8, 3, 24, 0, 0, 0), (19, .iload_n 2, 1, 0, 0, 0, 0), (20, .iconst 1, 1, 0, 0, 0, 0), (21, .if_icmp .le 5, 3, 26, 0, 0, 0), (24, .iconst (-1), 1, 0, 0, 0, 0), (25, .ireturn, 1, 0, 0, 0, 0), (26, .aload_n 0, 1, 0, 0, 0, 0), (27, .getfield 88, 3, 11, 12, 3039, 5), (30, .aload_n 0, 1, 0, 0, 0, 0), (31, .getfield 56, 3, 11, 8, 3035, 5)]
def tC173_1 : List eN := [(34, .getfield 186, 3, 7, 3, 2080, 0), (37, .iload_n 1, 1, 0, 0, 0, 0), (38, .invokevirtual 316, 3, 0, 133, 5193, 9), (41, .istore_n 3, 1, 0, 0, 0, 0), (42, .iload_n 2, 1, 0, 0, 0, 0), (43, .ifCond .ne 10, 3, 53, 0, 0, 0), (46, .iload_n 3, 1, 0, 0, 0, 0), (47, .invokestatic 271, 3, 1, 180, 5113, 0), (50, .goto 4, 3, 54, 0, 0, 0), (53, .iload_n 3, 1, 0, 0, 0, 0), (54, .ireturn, 1, 0, 0, 0, 0)]
def tC173 : List (List eN) := [tC173_0, tC173_1]
def tM173 : eM := (tC173, 4, 0, 0, 1, 2)
def tY173 : eY := (⟨"FuseTreaty", "went", "(II)I"⟩, prog_1_method_36_code, (some .int))
def tC174_0 : List eN := [(0, .iload_n 1, 1, 0, 0, 0, 0), (1, .ifCond .lt 14, 3, 15, 0, 0, 0), (4, .iload_n 1, 1, 0, 0, 0, 0), (5, .aload_n 0, 1, 0, 0, 0, 0), (6, .getfield 88, 3, 11, 12, 3039, 5), (9, .getfield 313, 3, 9, 3, 2226, 0), (12, .if_icmp .le 7, 3, 19, 0, 0, 0), (15, .iconst (-1), 1, 0, 0, 0, 0), (16, .goto 18, 3, 34, 0, 0, 0), (19, .aload_n 0, 1, 0, 0, 0, 0), (20, .getfield 88, 3, 11, 12, 3039, 5), (23, .aload_n 0, 1, 0, 0, 0, 0), (24, .getfield 56, 3, 11, 8, 3035, 5), (27, .getfield 186, 3, 7, 3, 2080, 0), (30, .iload_n 1, 1, 0, 0, 0, 0), (31, .invokevirtual 319, 3, 0, 134, 5207, 9)]
def tC174_1 : List eN := [(34, .ireturn, 1, 0, 0, 0, 0)]
def tC174 : List (List eN) := [tC174_0, tC174_1]
def tM174 : eM := (tC174, 2, 0, 0, 1, 1)
def tY174 : eY := (⟨"FuseTreaty", "ask", "(I)I"⟩, prog_1_method_37_code, (some .int))
def tC175_0 : List eN := [(0, .aload_n 0, 1, 0, 0, 0, 0), (1, .getfield 63, 3, 11, 9, 3036, 5), (4, .iload_n 1, 1, 0, 0, 0, 0), (5, .aload_n 0, 1, 0, 0, 0, 0), (6, .getfield 56, 3, 11, 8, 3035, 5), (9, .invokevirtual 322, 3, 0, 118, 5223, 6), (12, .ireturn, 1, 0, 0, 0, 0)]
def tC175 : List (List eN) := [tC175_0]
def tM175 : eM := (tC175, 2, 0, 0, 2, 1)
def tY175 : eY := (⟨"FuseTreaty", "hold", "(I)Z"⟩, prog_1_method_38_code, (some .boolean))
def tC176_0 : List eN := [(0, .aload_n 0, 1, 0, 0, 0, 0), (1, .getfield 63, 3, 11, 9, 3036, 5), (4, .iload_n 1, 1, 0, 0, 0, 0), (5, .aload_n 0, 1, 0, 0, 0, 0), (6, .getfield 56, 3, 11, 8, 3035, 5), (9, .invokevirtual 326, 3, 0, 119, 5231, 6), (12, .ireturn, 1, 0, 0, 0, 0)]
def tC176 : List (List eN) := [tC176_0]
def tM176 : eM := (tC176, 2, 0, 0, 2, 1)
def tY176 : eY := (⟨"FuseTreaty", "restore", "(I)Z"⟩, prog_1_method_39_code, (some .boolean))
def tC177_0 : List eN := [(0, .iload_n 1, 1, 0, 0, 0, 0), (1, .tableswitch 237 0 15 #[79, 87, 95, 103, 111, 119, 127, 135, 150, 162, 167, 175, 183, 194, 224, 232], 79, 0, 0, 0, 0)]
def tC177_1 : List eN := []
def tC177_2 : List eN := [(80, .aload_n 0, 1, 0, 0, 0, 0), (81, .getfield 23, 3, 11, 3, 3030, 5), (84, .getfield 126, 3, 3, 0, 1069, 0), (87, .ireturn, 1, 0, 0, 0, 0), (88, .aload_n 0, 1, 0, 0, 0, 0), (89, .getfield 23, 3, 11, 3, 3030, 5), (92, .getfield 129, 3, 3, 1, 1077, 0), (95, .ireturn, 1, 0, 0, 0, 0)]
def tC177_3 : List eN := [(96, .aload_n 0, 1, 0, 0, 0, 0), (97, .getfield 23, 3, 11, 3, 3030, 5), (100, .getfield 132, 3, 3, 2, 1083, 0), (103, .ireturn, 1, 0, 0, 0, 0), (104, .aload_n 0, 1, 0, 0, 0, 0), (105, .getfield 56, 3, 11, 8, 3035, 5), (108, .getfield 235, 3, 7, 0, 2069, 0), (111, .ireturn, 1, 0, 0, 0, 0), (112, .aload_n 0, 1, 0, 0, 0, 0), (113, .getfield 56, 3, 11, 8, 3035, 5), (116, .getfield 229, 3, 7, 1, 2072, 0), (119, .ireturn, 1, 0, 0, 0, 0), (120, .aload_n 0, 1, 0, 0, 0, 0), (121, .getfield 56, 3, 11, 8, 3035, 5), (124, .getfield 303, 3, 7, 2, 2076, 0), (127, .ireturn, 1, 0, 0, 0, 0)]
def tC177_4 : List eN := [(128, .aload_n 0, 1, 0, 0, 0, 0), (129, .getfield 56, 3, 11, 8, 3035, 5), (132, .getfield 186, 3, 7, 3, 2080, 0), (135, .ireturn, 1, 0, 0, 0, 0), (136, .aload_n 0, 1, 0, 0, 0, 0), (137, .getfield 23, 3, 11, 3, 3030, 5), (140, .aload_n 0, 1, 0, 0, 0, 0), (141, .getfield 56, 3, 11, 8, 3035, 5), (144, .getfield 186, 3, 7, 3, 2080, 0), (147, .invokevirtual 285, 3, 0, 103, 5132, 3), (150, .ireturn, 1, 0, 0, 0, 0), (151, .aload_n 0, 1, 0, 0, 0, 0), (152, .getfield 72, 3, 11, 10, 3037, 5), (155, .aload_n 0, 1, 0, 0, 0, 0), (156, .getfield 56, 3, 11, 8, 3035, 5), (159, .invokevirtual 166, 3, 0, 75, 4126, 0)]
def tC177_5 : List eN := [(162, .ireturn, 1, 0, 0, 0, 0), (163, .aload_n 0, 1, 0, 0, 0, 0), (164, .getfield 13, 3, 11, 1, 3028, 0), (167, .ireturn, 1, 0, 0, 0, 0), (168, .aload_n 0, 1, 0, 0, 0, 0), (169, .getfield 63, 3, 11, 9, 3036, 5), (172, .getfield 329, 3, 6, 3, 2126, 0), (175, .ireturn, 1, 0, 0, 0, 0), (176, .aload_n 0, 1, 0, 0, 0, 0), (177, .getfield 88, 3, 11, 12, 3039, 5), (180, .getfield 313, 3, 9, 3, 2226, 0), (183, .ireturn, 1, 0, 0, 0, 0), (184, .aload_n 0, 1, 0, 0, 0, 0), (185, .getfield 63, 3, 11, 9, 3036, 5), (188, .getfield 330, 3, 6, 4, 2128, 0), (191, .invokestatic 271, 3, 1, 180, 5113, 0)]
def tC177_6 : List eN := [(194, .ireturn, 1, 0, 0, 0, 0), (195, .aload_n 0, 1, 0, 0, 0, 0), (196, .getfield 72, 3, 11, 10, 3037, 5), (199, .aload_n 0, 1, 0, 0, 0, 0), (200, .getfield 23, 3, 11, 3, 3030, 5), (203, .getfield 333, 3, 3, 6, 1097, 0), (206, .aload_n 0, 1, 0, 0, 0, 0), (207, .getfield 56, 3, 11, 8, 3035, 5), (210, .getfield 235, 3, 7, 0, 2069, 0), (213, .invokevirtual 336, 3, 0, 79, 6001, 0), (216, .ifCond .eq 7, 3, 223, 0, 0, 0), (223, .iconst 0, 1, 0, 0, 0, 0)]
def tC177_7 : List eN := [(224, .ireturn, 1, 0, 0, 0, 0), (225, .aload_n 0, 1, 0, 0, 0, 0), (226, .getfield 56, 3, 11, 8, 3035, 5), (229, .getfield 192, 3, 7, 4, 2083, 0), (232, .ireturn, 1, 0, 0, 0, 0), (233, .aload_n 0, 1, 0, 0, 0, 0), (234, .invokevirtual 339, 3, 0, 178, 6002, 11), (237, .ireturn, 1, 0, 0, 0, 0), (238, .iconst (-1), 1, 0, 0, 0, 0), (239, .ireturn, 1, 0, 0, 0, 0)]
def tC177 : List (List eN) := [tC177_0, tC177_1, tC177_2, tC177_3, tC177_4, tC177_5, tC177_6, tC177_7]
def tM177 : eM := (tC177, 2, 0, 0, 1, 1)
def tY177 : eY := (⟨"FuseTreaty", "count", "(I)I"⟩, prog_1_method_40_code, (some .int))
def tC178_0 : List eN := [(0, .iconst 0, 1, 0, 0, 0, 0), (1, .istore_n 1, 1, 0, 0, 0, 0), (2, .iconst 0, 1, 0, 0, 0, 0), (3, .istore_n 2, 1, 0, 0, 0, 0), (4, .iload_n 2, 1, 0, 0, 0, 0), (5, .aload_n 0, 1, 0, 0, 0, 0), (6, .getfield 23, 3, 11, 3, 3030, 5), (9, .getfield 129, 3, 3, 1, 1077, 0), (12, .if_icmp .ge 39, 3, 51, 0, 0, 0)]
def tC178_1 : List eN := [(51, .iload_n 1, 1, 0, 0, 0, 0), (52, .ireturn, 1, 0, 0, 0, 0)]
def tC178 : List (List eN) := [tC178_0, tC178_1]
def tM178 : eM := (tC178, 3, 0, 0, 1, 0)
def tY178 : eY := (⟨"FuseTreaty", "wholeRatings", "()I"⟩, prog_1_method_41_code, (some .int))
def tC179_0 : List eN := [(0, .iload_n 0, 1, 0, 0, 0, 0), (1, .iload_n 1, 1, 0, 0, 0, 0), (2, .iushr, 1, 0, 0, 0, 0), (3, .iconst 1, 1, 0, 0, 0, 0), (4, .iand, 1, 0, 0, 0, 0), (5, .ifCond .eq 7, 3, 12, 0, 0, 0), (12, .iconst 0, 1, 0, 0, 0, 0), (13, .ireturn, 1, 0, 0, 0, 0)]
def tC179 : List (List eN) := [tC179_0]
def tM179 : eM := (tC179, 2, 0, 0, 2, 2)
def tY179 : eY := (⟨"FuseTreaty", "has", "(II)Z"⟩, prog_1_method_42_code, (some .boolean))
def tC180_0 : List eN := [(0, .iload_n 0, 1, 0, 0, 0, 0), (1, .iload_n 0, 1, 0, 0, 0, 0), (2, .iconst 1, 1, 0, 0, 0, 0), (3, .iushr, 1, 0, 0, 0, 0), (4, .ldc_w 265, 3, 1431655765, 0, 5116, 0), (7, .iand, 1, 0, 0, 0, 0), (8, .isub, 1, 0, 0, 0, 0), (9, .istore_n 0, 1, 0, 0, 0, 0), (10, .iload_n 0, 1, 0, 0, 0, 0), (11, .ldc_w 266, 3, 858993459, 0, 5117, 0), (14, .iand, 1, 0, 0, 0, 0), (15, .iload_n 0, 1, 0, 0, 0, 0), (16, .iconst 2, 1, 0, 0, 0, 0), (17, .iushr, 1, 0, 0, 0, 0), (18, .ldc_w 266, 3, 858993459, 0, 5117, 0), (21, .iand, 1, 0, 0, 0, 0), (22, .iadd, 1, 0, 0, 0, 0), (23, .istore_n 0, 1, 0, 0, 0, 0), (24, .iload_n 0, 1, 0, 0, 0, 0), (25, .iload_n 0, 1, 0, 0, 0, 0), (26, .iconst 4, 1, 0, 0, 0, 0), (27, .iushr, 1, 0, 0, 0, 0), (28, .iadd, 1, 0, 0, 0, 0), (29, .ldc_w 267, 3, 252645135, 0, 5118, 0)]
def tC180_1 : List eN := [(32, .iand, 1, 0, 0, 0, 0), (33, .istore_n 0, 1, 0, 0, 0, 0), (34, .iload_n 0, 1, 0, 0, 0, 0), (35, .iload_n 0, 1, 0, 0, 0, 0), (36, .bipush 8, 2, 0, 0, 0, 0), (38, .iushr, 1, 0, 0, 0, 0), (39, .iadd, 1, 0, 0, 0, 0), (40, .istore_n 0, 1, 0, 0, 0, 0), (41, .iload_n 0, 1, 0, 0, 0, 0), (42, .iload_n 0, 1, 0, 0, 0, 0), (43, .bipush 16, 2, 0, 0, 0, 0), (45, .iushr, 1, 0, 0, 0, 0), (46, .iadd, 1, 0, 0, 0, 0), (47, .istore_n 0, 1, 0, 0, 0, 0), (48, .iload_n 0, 1, 0, 0, 0, 0), (49, .bipush 63, 2, 0, 0, 0, 0), (51, .iand, 1, 0, 0, 0, 0), (52, .ireturn, 1, 0, 0, 0, 0)]
def tC180 : List (List eN) := [tC180_0, tC180_1]
def tM180 : eM := (tC180, 1, 0, 0, 1, 1)
def tY180 : eY := (⟨"java/lang/Integer", "bitCount", "(I)I"⟩, prog_15_method_49_code, (some .int))
def tC181_0 : List eN := [(0, .iconst 0, 1, 0, 0, 0, 0), (1, .istore_n 2, 1, 0, 0, 0, 0), (2, .aload_n 0, 1, 0, 0, 0, 0), (3, .arraylength, 1, 0, 0, 0, 0), (4, .istore_n 3, 1, 0, 0, 0, 0), (5, .iload_n 2, 1, 0, 0, 0, 0), (6, .iload_n 3, 1, 0, 0, 0, 0), (7, .if_icmp .ge 13, 3, 20, 0, 0, 0), (10, .aload_n 0, 1, 0, 0, 0, 0), (11, .iload_n 2, 1, 0, 0, 0, 0), (12, .iload_n 1, 1, 0, 0, 0, 0), (13, .iastore, 1, 0, 0, 0, 0), (14, .iinc 2 1, 3, 0, 0, 0, 0), (17, .goto (-12), 3, 5, 0, 0, 0), (20, .return_, 1, 0, 0, 0, 0)]
def tC181 : List (List eN) := [tC181_0]
def tM181 : eM := (tC181, 4, 0, 0, 0, 2)
def tY181 : eY := (⟨"java/util/Arrays", "fill", "([II)V"⟩, prog_21_method_103_code, none)
def tMs : List eM := [tM0, tM1, tM2, tM3, tM4, tM5, tM6, tM7, tM8, tM9, tM10, tM11, tM12, tM13, tM14, tM15, tM16, tM17, tM18, tM19, tM20, tM21, tM22, tM23, tM24, tM25, tM26, tM27, tM28, tM29, tM30, tM31, tM32, tM33, tM34, tM35, tM36, tM37, tM38, tM39, tM40, tM41, tM42, tM43, tM44, tM45, tM46, tM47, tM48, tM49, tM50, tM51, tM52, tM53, tM54, tM55, tM56, tM57, tM58, tM59, tM60, tM61, tM62, tM63, tM64, tM65, tM66, tM67, tM68, tM69, tM70, tM71, tM72, tM73, tM74, tM75, tM76, tM77, tM78, tM79, tM80, tM81, tM82, tM83, tM84, tM85, tM86, tM87, tM88, tM89, tM90, tM91, tM92, tM93, tM94, tM95, tM96, tM97, tM98, tM99, tM100, tM101, tM102, tM103, tM104, tM105, tM106, tM107, tM108, tM109, tM110, tM111, tM112, tM113, tM114, tM115, tM116, tM117, tM118, tM119, tM120, tM121, tM122, tM123, tM124, tM125, tM126, tM127, tM128, tM129, tM130, tM131, tM132, tM133, tM134, tM135, tM136, tM137, tM138, tM139, tM140, tM141, tM142, tM143, tM144, tM145, tM146, tM147, tM148, tM149, tM150, tM151, tM152, tM153, tM154, tM155, tM156, tM157, tM158, tM159, tM160, tM161, tM162, tM163, tM164, tM165, tM166, tM167, tM168, tM169, tM170, tM171, tM172, tM173, tM174, tM175, tM176, tM177, tM178, tM179, tM180, tM181]
def tYs : List eY := [tY0, tY1, tY2, tY3, tY4, tY5, tY6, tY7, tY8, tY9, tY10, tY11, tY12, tY13, tY14, tY15, tY16, tY17, tY18, tY19, tY20, tY21, tY22, tY23, tY24, tY25, tY26, tY27, tY28, tY29, tY30, tY31, tY32, tY33, tY34, tY35, tY36, tY37, tY38, tY39, tY40, tY41, tY42, tY43, tY44, tY45, tY46, tY47, tY48, tY49, tY50, tY51, tY52, tY53, tY54, tY55, tY56, tY57, tY58, tY59, tY60, tY61, tY62, tY63, tY64, tY65, tY66, tY67, tY68, tY69, tY70, tY71, tY72, tY73, tY74, tY75, tY76, tY77, tY78, tY79, tY80, tY81, tY82, tY83, tY84, tY85, tY86, tY87, tY88, tY89, tY90, tY91, tY92, tY93, tY94, tY95, tY96, tY97, tY98, tY99, tY100, tY101, tY102, tY103, tY104, tY105, tY106, tY107, tY108, tY109, tY110, tY111, tY112, tY113, tY114, tY115, tY116, tY117, tY118, tY119, tY120, tY121, tY122, tY123, tY124, tY125, tY126, tY127, tY128, tY129, tY130, tY131, tY132, tY133, tY134, tY135, tY136, tY137, tY138, tY139, tY140, tY141, tY142, tY143, tY144, tY145, tY146, tY147, tY148, tY149, tY150, tY151, tY152, tY153, tY154, tY155, tY156, tY157, tY158, tY159, tY160, tY161, tY162, tY163, tY164, tY165, tY166, tY167, tY168, tY169, tY170, tY171, tY172, tY173, tY174, tY175, tY176, tY177, tY178, tY179, tY180, tY181]
def tDf : List (List eV) := [[.inr (.inl none), .inr (.inl none), .inr (.inl none), .inr (.inl none)], [.inr (.inl none), .inr (.inl none), .inr (.inl none), .inr (.inl none), .inl (0, 0, 0)], [.inr (.inl none), .inr (.inl none), .inl (0, 0, 0), .inl (0, 0, 0), .inl (0, 0, 0), .inl (0, 0, 0), .inl (0, 0, 0)], [.inl (0, 0, 0), .inl (0, 0, 0), .inl (0, 0, 0), .inl (0, 0, 0), .inl (0, 0, 0), .inl (0, 0, 0), .inl (0, 0, 0), .inr (.inl none), .inr (.inl none), .inr (.inl none), .inr (.inl none), .inr (.inl none), .inr (.inl none), .inr (.inl none), .inr (.inl none), .inr (.inl none)], [.inr (.inl none), .inl (0, 0, 0), .inr (.inl none), .inr (.inl none), .inr (.inl none), .inl (0, 0, 0)], [.inr (.inl none), .inr (.inl none), .inr (.inl none), .inr (.inl none), .inl (0, 0, 0), .inl (0, 0, 0)], [.inr (.inl none), .inr (.inl none), .inl (0, 0, 0), .inl (0, 0, 0), .inl (0, 0, 0)], [.inl (0, 0, 0), .inl (0, 0, 0), .inl (0, 0, 0), .inl (0, 0, 0), .inl (0, 0, 0), .inl (0, 0, 0), .inr (.inl none), .inr (.inl none), .inr (.inl none)], [.inr (.inl none), .inr (.inl none), .inr (.inl none), .inr (.inl none), .inr (.inl none), .inl (0, 0, 0)], [.inr (.inl none), .inr (.inl none), .inr (.inl none), .inl (0, 0, 0)], [.inr (.inl none), .inl (0, 0, 0), .inr (.inl none), .inr (.inl none), .inr (.inl none), .inl (0, 0, 0)], [.inr (.inl none), .inl (0, 0, 0), .inl (0, 0, 0), .inr (.inl none), .inr (.inl none), .inr (.inl none), .inr (.inl none), .inr (.inl none), .inr (.inl none), .inr (.inl none), .inr (.inl none), .inr (.inl none), .inr (.inl none)], [.inl (0, 0, 0), .inr (.inl none), .inl (0, 0, 0), .inr (.inl none), .inl (0, 0, 0), .inr (.inl none), .inr (.inl none), .inr (.inl none), .inr (.inl none), .inr (.inl none), .inl (0, 0, 0), .inl (0, 0, 0), .inl (0, 0, 0), .inl (0, 0, 0), .inl (0, 0, 0), .inl (0, 0, 0), .inl (0, 0, 0), .inl (0, 0, 0), .inl (0, 0, 0), .inl (0, 0, 0), .inl (0, 0, 0), .inr (.inl none), .inr (.inl none), .inr (.inl none), .inr (.inl none), .inr (.inl none), .inr (.inl none), .inr (.inl none), .inr (.inl none), .inr (.inl none), .inr (.inl none), .inr (.inl none), .inr (.inl none), .inr (.inl none), .inr (.inl none), .inr (.inl none), .inr (.inl none), .inr (.inl none), .inr (.inl none), .inr (.inl none), .inl (0, 0, 0), .inr (.inl none), .inr (.inl none), .inr (.inl none), .inr (.inl none), .inr (.inl none), .inl (0, 0, 0), .inr (.inl none), .inr (.inl none), .inr (.inl none), .inl (0, 0, 0), .inr (.inl none), .inr (.inl none), .inl (0, 0, 0), .inr (.inl none), .inr (.inl none), .inl (0, 0, 0), .inl (0, 0, 0), .inr (.inl none), .inr (.inl none), .inl (0, 0, 0), .inl (0, 0, 0), .inr (.inl none), .inl (0, 0, 0), .inr (.inl none), .inr (.inl none), .inr (.inl none), .inr (.inl none), .inr (.inl none)]]
def tNs : List (String × Nat × MethodName × String) := [("FuseTreaty", 22, ⟨"FuseTreaty$House", "<init>", "()V"⟩, "FuseTreaty"), ("FuseTreaty$House", 60, ⟨"FuseTreaty$Laws", "<init>", "()V"⟩, "FuseTreaty"), ("FuseTreaty", 55, ⟨"FuseTreaty$State", "<init>", "()V"⟩, "FuseTreaty"), ("FuseTreaty", 62, ⟨"FuseTreaty$Past", "<init>", "()V"⟩, "FuseTreaty"), ("FuseTreaty$Foresight", 11, ⟨"FuseTreaty$State", "<init>", "()V"⟩, "FuseTreaty"), ("FuseTreaty$Ways", 46, ⟨"FuseTreaty", "has", "(II)Z"⟩, "FuseTreaty"), ("FuseTreaty$Current", 66, ⟨"FuseTreaty", "has", "(II)Z"⟩, "FuseTreaty"), ("FuseTreaty$Foresight", 51, ⟨"FuseTreaty", "bitAt", "(II)I"⟩, "FuseTreaty"), ("FuseTreaty$Foresight", 63, ⟨"FuseTreaty", "has", "(II)Z"⟩, "FuseTreaty"), ("FuseTreaty$House", 82, ⟨"FuseTreaty", "has", "(II)Z"⟩, "FuseTreaty"), ("FuseTreaty$Told", 32, ⟨"FuseTreaty", "has", "(II)Z"⟩, "FuseTreaty"), ("FuseTreaty$Past", 43, ⟨"FuseTreaty", "has", "(II)Z"⟩, "FuseTreaty")]
def tWs : List (Nat × Nat × Nat × Nat) := [(6010, 1019, 6009, 0), (7001, 1019, 6239, 7000), (7005, 1019, 7004, 51), (7009, 1019, 7007, 7008), (7021, 1019, 7020, 53), (6021, 1019, 6020, 0), (6018, 1019, 6017, 0), (7025, 1019, 7024, 54), (7017, 1019, 7016, 52), (7039, 1019, 7038, 56), (6015, 1019, 6014, 48), (7013, 1019, 7011, 7012), (7119, 1019, 7117, 7118), (7130, 1019, 7129, 0), (7177, 1019, 7176, 0), (8100, 1019, 8099, 0), (7127, 1019, 7126, 76), (7146, 1019, 7145, 80), (7221, 1019, 7220, 96), (6026, 1019, 6025, 49), (6030, 1019, 6029, 50), (7134, 1019, 7133, 77), (8027, 1019, 8026, 0), (8024, 1019, 8023, 101), (7138, 1019, 7137, 78), (8126, 1019, 8125, 112), (7189, 1019, 7188, 90), (7185, 1019, 7184, 89), (8032, 1019, 8031, 102), (8036, 1019, 8035, 103), (8040, 1019, 8039, 104), (8020, 1019, 8019, 100), (8016, 1019, 8015, 99), (7123, 1019, 7121, 7122), (7201, 1019, 7199, 7200), (7217, 1019, 7215, 7216), (7233, 1019, 7232, 98), (7229, 1019, 7227, 7228), (7237, 1019, 7235, 7236), (8001, 1019, 7239, 8000), (8005, 1019, 8003, 8004), (8012, 1019, 8011, 0), (8009, 1019, 8007, 8008), (8046, 1019, 8044, 8045), (8050, 1019, 8048, 8049), (8058, 1019, 8057, 105), (8054, 1019, 8052, 8053), (8066, 1019, 8065, 106), (8062, 1019, 8060, 8061), (8077, 1019, 8076, 107), (8073, 1019, 8071, 8072), (8081, 1019, 8079, 8080), (8089, 1019, 8087, 8088), (8097, 1019, 8096, 109), (8093, 1019, 8091, 8092), (8114, 1019, 8112, 8113), (8122, 1019, 8121, 111), (8118, 1019, 8116, 8117), (8130, 1019, 8128, 8129), (8134, 1019, 8132, 8133), (8138, 1019, 8136, 8137), (8142, 1019, 8140, 8141), (8146, 1019, 8144, 8145), (8150, 1019, 8148, 8149), (8154, 1019, 8152, 8153), (8158, 1019, 8156, 8157), (8166, 1019, 8165, 113), (8162, 1019, 8160, 8161), (8170, 1019, 8168, 8169), (8174, 1019, 8172, 8173), (8178, 1019, 8176, 8177), (8182, 1019, 8180, 8181), (2144, 1013, 2143, 0), (4044, 1013, 4042, 4043), (4076, 1013, 4074, 4075), (4129, 1013, 4127, 4128), (4133, 1013, 4131, 4132), (4155, 1013, 4153, 4154), (4171, 1013, 4169, 4170), (4236, 1013, 4234, 4235), (4232, 1013, 4230, 4231), (4239, 1013, 4238, 0), (5002, 1013, 5001, 0), (4216, 1013, 4214, 4215), (4220, 1013, 4219, 41), (4226, 1013, 4225, 42), (5007, 1013, 5005, 5006), (2196, 1015, 2195, 0), (5048, 1015, 5046, 5047), (5052, 1015, 5051, 43), (5095, 1015, 5093, 5094), (5067, 1015, 5065, 5066), (5074, 1015, 5072, 5073), (5158, 1015, 5156, 5157), (5171, 1015, 5169, 5170), (5175, 1015, 5174, 44), (2012, 1009, 2011, 0), (3129, 1009, 3127, 3128), (3192, 1009, 3190, 3191), (3133, 1009, 3132, 9), (1034, 1002, 1033, 0), (3000, 1002, 2238, 2239), (4034, 1002, 4032, 4033), (5111, 1002, 5109, 5110), (1040, 1003, 1039, 0), (3004, 1003, 3002, 3003), (4039, 1003, 4037, 4038), (3008, 1003, 3006, 3007), (3012, 1003, 3010, 3011), (3016, 1003, 3014, 3015), (2040, 1010, 2039, 0), (3200, 1010, 3198, 3199), (4029, 1010, 4027, 4028), (2120, 1012, 2119, 0), (4052, 1012, 4050, 4051), (4056, 1012, 4054, 4055), (4191, 1012, 4189, 4190), (5015, 1012, 5013, 5014), (5226, 1012, 5224, 5225), (5234, 1012, 5232, 5233), (2065, 1011, 2064, 0), (3020, 1011, 3018, 3019), (5039, 1011, 5037, 5038), (4195, 1011, 4193, 4194), (4097, 1011, 4095, 4096), (1172, 1004, 1171, 0), (3086, 1004, 3084, 3085), (3204, 1004, 3202, 3203), (1225, 1004, 1224, 0), (3093, 1004, 3092, 1), (3101, 1004, 3100, 3), (2220, 1016, 2219, 0), (4060, 1016, 4058, 4059), (5196, 1016, 5194, 5195), (5210, 1016, 5208, 5209), (2150, 1014, 2149, 0), (4048, 1014, 4046, 4047), (4080, 1014, 4078, 4079), (1026, 1001, 1025, 0), (3070, 1001, 3068, 3069), (3074, 1001, 3073, 0), (3078, 1001, 3076, 3077), (3082, 1001, 3080, 3081), (4064, 1001, 4062, 4063), (4072, 1001, 4071, 34), (4146, 1001, 4145, 39), (4179, 1001, 4178, 40), (4068, 1001, 4066, 4067), (4142, 1001, 4140, 4141), (4175, 1001, 4173, 4174), (4187, 1001, 4185, 4186), (4200, 1001, 4198, 4199), (4204, 1001, 4202, 4203), (4208, 1001, 4206, 4207), (4212, 1001, 4210, 4211), (5011, 1001, 5009, 5010), (5023, 1001, 5021, 5022), (5031, 1001, 5029, 5030), (5044, 1001, 5042, 5043), (5063, 1001, 5061, 5062), (5080, 1001, 5078, 5079), (5091, 1001, 5089, 5090), (5100, 1001, 5098, 5099), (5123, 1001, 5121, 5122), (5127, 1001, 5125, 5126), (5136, 1001, 5134, 5135), (5140, 1001, 5138, 5139), (5145, 1001, 5143, 5144), (5154, 1001, 5152, 5153), (5163, 1001, 5161, 5162), (5167, 1001, 5165, 5166), (5180, 1001, 5178, 5179), (5188, 1001, 5186, 5187), (5192, 1001, 5190, 5191), (5206, 1001, 5204, 5205), (5222, 1001, 5220, 5221), (5230, 1001, 5228, 5229), (6000, 1001, 5238, 5239), (6005, 1001, 6004, 47), (4084, 1001, 4083, 0), (5115, 1021, 5114, 0), (3026, 1018, 3025, 0)]
def tFs : List (List Nat) := [[2183, 2185, 2187, 2189], [2205, 2207, 2209, 2211, 2213], [2021, 2023, 2025, 2027, 2029, 2031, 2033], [1135, 1137, 1139, 1141, 1143, 1145, 1147, 1149, 1151, 1153, 1155, 1157, 1159, 1161, 1163, 1165], [1050, 1052, 1054, 1056, 1058, 1060], [2048, 2050, 2052, 2054, 2056, 2058], [2129, 2131, 2133, 2135, 2137], [2097, 2099, 2101, 2103, 2105, 2107, 2109, 2111, 2113], [1234, 1236, 1238, 2000, 2002, 2004], [2227, 2229, 2231, 2233], [2164, 2166, 2168, 2170, 2172, 2174], [3040, 3042, 3044, 3046, 3048, 3050, 3052, 3054, 3056, 3058, 3060, 3062, 3064], [6099, 6101, 6103, 6105, 6107, 6109, 6111, 6113, 6115, 6117, 6119, 6121, 6123, 6125, 6127, 6129, 6131, 6133, 6135, 6137, 6139, 6141, 6143, 6145, 6147, 6149, 6151, 6153, 6155, 6157, 6159, 6161, 6163, 6165, 6167, 6169, 6171, 6173, 6175, 6177, 6179, 6181, 6183, 6185, 6187, 6189, 6191, 6193, 6195, 6197, 6199, 6201, 6203, 6205, 6207, 6209, 6211, 6213, 6215, 6217, 6219, 6221, 6223, 6225, 6227, 6229, 6231, 6233, 6235]]
end
section
/-! THE CHECK OF THE TABLES -/
def lw_g : List Cond := lw_tbl.filter goodWord
def kW (c : Nat) : Option Cond := match c / 1000 with
  | 0 => (k2_sels lw_privs)[c % 1000]?
  | 1 => tables_1_1[c % 1000]?
  | 2 => tables_1_2[c % 1000]?
  | 3 => tables_1_3[c % 1000]?
  | 4 => tables_1_4[c % 1000]?
  | 5 => tables_1_5[c % 1000]?
  | 6 => tables_1_6[c % 1000]?
  | 7 => tables_1_7[c % 1000]?
  | 8 => tables_1_8[c % 1000]?
  | _ => none
theorem kW_ok {c : Nat} {w : Cond} (h : kW c = some w) : w ∈ lw_tbl := by
  unfold kW at h
  unfold lw_tbl tables_1
  simp only [List.mem_append]
  split at h
  all_goals first | (have := List.mem_of_getElem? h; simp only [this, true_or, or_true]; done) | cases h
def kIs (c : Nat) (w : Cond) : Bool := decide (kW c = some w) && goodWord w
theorem kIs_ok {c : Nat} {w : Cond} (h : kIs c w = true) : w ∈ lw_g := by
  unfold kIs at h
  rw [Bool.and_eq_true, decide_eq_true_eq] at h
  exact List.mem_filter.mpr ⟨kW_ok h.1, h.2⟩
theorem lw_g_good : ∀ w ∈ lw_g, (w.onTables && w.keeps) = true ∨ ∃ ty, w = .arrayClass ty := fun w hw => good_of_word (List.mem_filter.mp hw).2
def kLk (y : MethodName) (en : eN) : Bool := match en.2.1 with
  | .getfield idx => match tCl[en.2.2.2.1]? with
    | some q => Nat.blt en.2.2.2.2.1 q.2.2 && kIs en.2.2.2.2.2.1 (.fieldLink y.cls idx (q.2.1 en.2.2.2.2.1).1 (q.2.1 en.2.2.2.2.1).2.1 (q.2.1 en.2.2.2.2.1).2.2.1)
    | none => false
  | .putfield idx => match tCl[en.2.2.2.1]? with
    | some q => Nat.blt en.2.2.2.2.1 q.2.2 && kIs en.2.2.2.2.2.1 (.fieldLink y.cls idx (q.2.1 en.2.2.2.2.1).1 (q.2.1 en.2.2.2.2.1).2.1 (q.2.1 en.2.2.2.2.1).2.2.1) && (!(q.2.1 en.2.2.2.2.1).2.2.2 || (y.name == "<init>" && decide ((q.2.1 en.2.2.2.2.1).1 = y.cls))) && (match en.2.2.2.2.2.2 with
      | 0 => decide (parseFieldDescriptor (q.2.1 en.2.2.2.2.1).2.2.1 = some .int)
      | 2 => decide (parseFieldDescriptor (q.2.1 en.2.2.2.2.1).2.2.1 = some .boolean)
      | 5 => match parseFieldDescriptor (q.2.1 en.2.2.2.2.1).2.2.1 with
        | some (.object _) => true
        | some (.array _) => true
        | _ => false
      | _ => false)
    | none => false
  | .ldc idx => kIs en.2.2.2.2.2.1 (.constant y.cls idx (Int32.ofNat en.2.2.2.1))
  | .ldc_w idx => kIs en.2.2.2.2.2.1 (.constant y.cls idx (Int32.ofNat en.2.2.2.1))
  | .ldc2_w idx => kIs en.2.2.2.2.2.1 (.constantLong y.cls idx (Int64.ofNat en.2.2.2.1))
  | .newarray t => kIs en.2.2.2.2.2.1 (.arrayClass (newarray.typeOf t)) && decide (newarray.typeOf t = eTy en.2.2.2.1)
  | .new idx => match tCl[en.2.2.2.1]? with
    | some q => kIs en.2.2.2.2.1 (.classLink y.cls idx q.1) && kIs en.2.2.2.2.2.1 (.instantiable q.1 q.2.2) && kIs en.2.2.2.2.2.2 (.initialized q.1)
    | none => false
  | .goto off => decide ((en.1 : Int) + off = (en.2.2.2.1 : Int))
  | .ifCond _ off => decide ((en.1 : Int) + off = (en.2.2.2.1 : Int))
  | .if_icmp _ off => decide ((en.1 : Int) + off = (en.2.2.2.1 : Int))
  | .ifnull off => decide ((en.1 : Int) + off = (en.2.2.2.1 : Int))
  | .ifnonnull off => decide ((en.1 : Int) + off = (en.2.2.2.1 : Int))
  | _ => true
theorem kLk_ok {y : MethodName} {en : eN} (h : kLk y en = true) : eLk tCl lw_g y.cls (y.name == "<init>") en.2.1 en.1 en.2.2.2.1 en.2.2.2.2.1 en.2.2.2.2.2.2 := by
  obtain ⟨pc, i, len, a, b, cc, d⟩ := en
  unfold kLk at h
  simp only at h
  split at h
  · split at h
    · rename_i q hq
      rw [Bool.and_eq_true] at h
      exact ⟨q.1, q.2.1, q.2.2, hq, Nat.le_of_ble_eq_true h.1, kIs_ok h.2⟩
    · cases h
  · split at h
    · rename_i q hq
      simp only [Bool.and_eq_true] at h
      obtain ⟨⟨⟨h1, h2⟩, h3⟩, h4⟩ := h
      refine ⟨q.1, q.2.1, q.2.2, hq, Nat.le_of_ble_eq_true h1, kIs_ok h2, ?_, ?_⟩
      · rw [Bool.or_eq_true] at h3
        rcases h3 with h3 | h3
        · left
          simpa using h3
        · right
          rw [Bool.and_eq_true, decide_eq_true_eq] at h3
          exact h3
      · split at h4
        · exact ⟨fun _ => of_decide_eq_true h4, fun z => absurd (show (0 : Nat) = 2 from z) (by decide), fun z => absurd (show (0 : Nat) = 5 from z) (by decide)⟩
        · exact ⟨fun z => absurd (show (2 : Nat) = 0 from z) (by decide), fun _ => of_decide_eq_true h4, fun z => absurd (show (2 : Nat) = 5 from z) (by decide)⟩
        · refine ⟨fun z => absurd (show (5 : Nat) = 0 from z) (by decide), fun z => absurd (show (5 : Nat) = 2 from z) (by decide), fun _ => ?_⟩
          split at h4
          · rename_i n hn
            exact ⟨_, hn, Or.inl ⟨_, rfl⟩⟩
          · rename_i n hn
            exact ⟨_, hn, Or.inr ⟨_, rfl⟩⟩
          · cases h4
        · cases h4
    · cases h
  · exact kIs_ok h
  · exact kIs_ok h
  · exact ⟨_, kIs_ok h⟩
  · rw [Bool.and_eq_true, decide_eq_true_eq] at h
    exact ⟨kIs_ok h.1, h.2⟩
  · split at h
    · rename_i q hq
      simp only [Bool.and_eq_true] at h
      exact ⟨q.1, q.2.1, q.2.2, hq, kIs_ok h.1.1, kIs_ok h.1.2, kIs_ok h.2⟩
    · cases h
  · have h := of_decide_eq_true h
    exact h
  · have h := of_decide_eq_true h
    exact h
  · have h := of_decide_eq_true h
    exact h
  · have h := of_decide_eq_true h
    exact h
  · have h := of_decide_eq_true h
    exact h
  · unfold eLk
    split
    all_goals first | trivial | (exfalso; simp_all; done)
end
section
/-! THE CHECK OF THE TABLES, 2: calls, methods, classes -/
theorem g_obj1 : Cond.instanceMethod Lib.objectInit ∈ lw_g := kIs_ok (c := 1028) (by decide +kernel)
theorem g_obj2 : Cond.code Lib.objectInit ⟨#[0xb1]⟩ 1 none ∈ lw_g := kIs_ok (c := 1029) (by decide +kernel)
theorem g_min1 : Cond.static Lib.Math.min.name ∈ lw_g := kIs_ok (c := 3088) (by decide +kernel)
theorem g_min2 : Cond.code Lib.Math.min.name Lib.Math.min.code 2 (some .int) ∈ lw_g := kIs_ok (c := 3089) (by decide +kernel)
theorem g_math : Cond.initialized "java/lang/Math" ∈ lw_g := kIs_ok (c := 1020) (by decide +kernel)
theorem g_max1 : Cond.static Lib.Math.max.name ∈ lw_g := kIs_ok (c := 4124) (by decide +kernel)
theorem g_max2 : Cond.code Lib.Math.max.name Lib.Math.max.code 2 (some .int) ∈ lw_g := kIs_ok (c := 4125) (by decide +kernel)
theorem g_ac1 : Cond.native arraycopyName ∈ lw_g := kIs_ok (c := 3023) (by decide +kernel)
theorem g_ac2 : Cond.static arraycopyName ∈ lw_g := kIs_ok (c := 3022) (by decide +kernel)
theorem g_sys : Cond.initialized "java/lang/System" ∈ lw_g := kIs_ok (c := 1017) (by decide +kernel)
theorem g_aint : Cond.arrayClass .int ∈ lw_g := kIs_ok (c := 1064) (by decide +kernel)
def kLb (own : String) (idx a c : Nat) : Bool := match a with
  | 6 => kIs c (.methodLink own idx Lib.objectInit)
  | 7 => kIs c (.methodLink own idx Lib.Math.min.name)
  | 8 => kIs c (.methodLink own idx Lib.Math.max.name)
  | 9 => kIs c (.methodLink own idx arraycopyName)
  | _ => false
theorem kLb_ok {own : String} {idx a c : Nat} (h : kLb own idx a c = true) : eLb lw_g own idx a := by
  unfold kLb at h
  split at h
  · exact ⟨kIs_ok h, g_obj1, g_obj2⟩
  · exact ⟨kIs_ok h, g_min1, g_math, g_min2⟩
  · exact ⟨kIs_ok h, g_max1, g_math, g_max2⟩
  · exact ⟨kIs_ok h, g_ac1, g_ac2, g_sys⟩
  · cases h
/-- a call's own words: of the class 'own', at 'idx' -/
def kCl (own : String) (idx b c d st : Nat) : Bool := match tMs[b]?, tYs[b]?, tWs[b]? with
  | some _, some Y, some q => match st with
    | 0 => kIs c (.methodLink own idx Y.1) && kIs q.2.2.1 (.instanceMethod Y.1) && kIs q.2.2.2 (.selects Y.1.cls Y.1 Y.1) && (match tCl[d]? with
      | some k => decide (k.1 = Y.1.cls)
      | none => false)
    | 1 => kIs c (.methodLink own idx Y.1) && kIs q.2.2.1 (.static Y.1)
    | 4 => (match tNs[c]? with
      | some n => decide (n = (own, idx, Y.1, n.2.2.2))
      | none => false) && kIs q.2.2.1 (.static Y.1)
    | 2 => kIs c (.methodLink own idx Y.1) && kIs q.2.2.1 (.instanceMethod Y.1) && decide (Y.1.name = "<init>") && decide (Y.2.2 = none)
    | 5 => (match tNs[c]? with
      | some n => decide (n = (own, idx, Y.1, n.2.2.2))
      | none => false) && kIs q.2.2.1 (.instanceMethod Y.1) && decide (Y.1.name = "<init>") && decide (Y.2.2 = none)
    | _ => false
  | _, _, _ => false
def kLi (own : String) (en : eN) : Bool := match en.2.1 with
  | .invokevirtual idx => Nat.beq en.2.2.2.1 0 && kCl own idx en.2.2.2.2.1 en.2.2.2.2.2.1 en.2.2.2.2.2.2 0
  | .invokestatic idx => (Nat.blt 6 en.2.2.2.1 && kLb own idx en.2.2.2.1 en.2.2.2.2.2.1) || (Nat.beq en.2.2.2.1 1 && kCl own idx en.2.2.2.2.1 en.2.2.2.2.2.1 en.2.2.2.2.2.2 1) || (Nat.beq en.2.2.2.1 4 && kCl own idx en.2.2.2.2.1 en.2.2.2.2.2.1 en.2.2.2.2.2.2 4)
  | .invokespecial idx => (Nat.beq en.2.2.2.1 6 && kLb own idx en.2.2.2.1 en.2.2.2.2.2.1) || (Nat.beq en.2.2.2.1 2 && kCl own idx en.2.2.2.2.1 en.2.2.2.2.2.1 en.2.2.2.2.2.2 2) || (Nat.beq en.2.2.2.1 5 && kCl own idx en.2.2.2.2.1 en.2.2.2.2.2.1 en.2.2.2.2.2.2 5)
  | .multianewarray idx dim => Nat.beq dim 2 && kIs en.2.2.2.2.2.1 (.classLink own idx ("[" ++ (FieldType.array .int).toString))
  | _ => true
theorem kLi_ok {own : String} {en : eN} (h : kLi own en = true) : eLi tCl lw_g tNs tMs tYs own en.2.1 en.2.2.2.1 en.2.2.2.2.1 en.2.2.2.2.2.2 := by
  obtain ⟨pc, i, len, a, b, cc, d⟩ := en
  unfold kLi at h
  simp only at h
  split at h
  · rename_i idx
    rw [Bool.and_eq_true] at h
    refine ⟨Nat.eq_of_beq_eq_true h.1, ?_⟩
    have h := h.2
    unfold kCl at h
    split at h
    · rename_i M Y q h1 h2 h3
      simp only [Bool.and_eq_true] at h
      obtain ⟨⟨⟨w1, w2⟩, w3⟩, w4⟩ := h
      split at w4
      · rename_i k hk
        have w4 := of_decide_eq_true w4
        refine ⟨M, Y, h1, h2, kIs_ok w1, kIs_ok w2, kIs_ok w3, k.2.1, k.2.2, ?_⟩
        show tCl[d]? = _
        rw [hk, ← w4]
      · cases w4
    · cases h
  · rename_i idx
    simp only [Bool.or_eq_true, Bool.and_eq_true] at h
    rcases h with (⟨h1, h2⟩ | ⟨h1, h2⟩) | ⟨h1, h2⟩
    · exact Or.inl ⟨Nat.le_of_ble_eq_true h1, kLb_ok h2⟩
    · have e := Nat.eq_of_beq_eq_true h1
      subst e
      unfold kCl at h2
      split at h2
      · rename_i M Y q g1 g2 g3
        simp only [Bool.and_eq_true] at h2
        exact Or.inr ⟨by show 1 < 6; omega, M, Y, g1, g2, kIs_ok h2.2, Or.inl ⟨rfl, kIs_ok h2.1⟩⟩
      · cases h2
    · have e := Nat.eq_of_beq_eq_true h1
      subst e
      unfold kCl at h2
      split at h2
      · rename_i M Y q g1 g2 g3
        simp only [Bool.and_eq_true] at h2
        obtain ⟨w1, w2⟩ := h2
        split at w1
        · rename_i n hn
          have w1 := of_decide_eq_true w1
          exact Or.inr ⟨by show 4 < 6; omega, M, Y, g1, g2, kIs_ok w2, Or.inr ⟨rfl, n.2.2.2, w1 ▸ List.mem_of_getElem? hn⟩⟩
        · cases w1
      · cases h2
  · rename_i idx
    simp only [Bool.or_eq_true, Bool.and_eq_true] at h
    rcases h with (⟨h1, h2⟩ | ⟨h1, h2⟩) | ⟨h1, h2⟩
    · exact Or.inl ⟨Nat.eq_of_beq_eq_true h1, kLb_ok h2⟩
    · have e := Nat.eq_of_beq_eq_true h1
      subst e
      unfold kCl at h2
      split at h2
      · rename_i M Y q g1 g2 g3
        simp only [Bool.and_eq_true] at h2
        obtain ⟨⟨⟨w1, w2⟩, w3⟩, w4⟩ := h2
        exact Or.inr ⟨by show 2 < 6; omega, M, Y, g1, g2, of_decide_eq_true w3, of_decide_eq_true w4, kIs_ok w2, Or.inl ⟨rfl, kIs_ok w1⟩⟩
      · cases h2
    · have e := Nat.eq_of_beq_eq_true h1
      subst e
      unfold kCl at h2
      split at h2
      · rename_i M Y q g1 g2 g3
        simp only [Bool.and_eq_true] at h2
        obtain ⟨⟨⟨w1, w2⟩, w3⟩, w4⟩ := h2
        split at w1
        · rename_i n hn
          have w1 := of_decide_eq_true w1
          exact Or.inr ⟨by show 5 < 6; omega, M, Y, g1, g2, of_decide_eq_true w3, of_decide_eq_true w4, kIs_ok w2, Or.inr ⟨rfl, n.2.2.2, w1 ▸ List.mem_of_getElem? hn⟩⟩
        · cases w1
      · cases h2
  · rename_i idx dim
    rw [Bool.and_eq_true] at h
    exact ⟨Nat.eq_of_beq_eq_true h.1, kIs_ok h.2, g_aint⟩
  · unfold eLi
    split
    all_goals first | trivial | (exfalso; simp_all; done)
def kEn (y : MethodName) (cc : ByteArray) (en : eN) : Bool := decide (decode cc en.1 = .ok (en.2.1, en.2.2.1)) && (Nat.beq (eLen en.2.1) 0 || Nat.beq (eLen en.2.1) en.2.2.1) && kLk y en && kLi y.cls en
def kRt (r : Nat) (ret : Option FieldType) : Bool := match r with
  | 0 => decide (ret = none)
  | 1 => decide (ret = some .int)
  | 2 => decide (ret = some .boolean)
  | 3 => decide (ret = some .long)
  | _ => match ret with
    | some (.object _) => true
    | some (.array _) => true
    | _ => false
theorem kRt_ok {r : Nat} {ret : Option FieldType} (h : kRt r ret = true) : eRtk r ret := by
  unfold kRt at h
  split at h
  · have h := of_decide_eq_true h
    exact h
  · have h := of_decide_eq_true h
    exact h
  · have h := of_decide_eq_true h
    exact h
  · have h := of_decide_eq_true h
    exact h
  · rename_i n0 n1 n2 n3
    unfold eRtk
    split
    · exact absurd rfl n0
    · exact absurd rfl n1
    · exact absurd rfl n2
    · exact absurd rfl n3
    · split at h
      · exact ⟨_, rfl, Or.inl ⟨_, rfl⟩⟩
      · exact ⟨_, rfl, Or.inr ⟨_, rfl⟩⟩
      · cases h
def kM (M : eM) (Y : eY) (q : Nat × Nat × Nat × Nat) : Bool := kIs q.2.1 (.initialized Y.1.cls) && plainName Y.1.cls && decide (Y.1.cls ≠ "java/lang/invoke/MethodHandle" ∧ Y.1.cls ≠ "java/lang/invoke/VarHandle" ∧ (parseMethodDescriptor Y.1.desc).map (fun d => d.parameters.length) = some M.2.2.2.2.2) && Nat.ble M.2.1 100 && kRt M.2.2.2.2.1 Y.2.2
theorem kM_ok {M : eM} {Y : eY} {q : Nat × Nat × Nat × Nat} (h1 : ∀ ch ∈ M.1, ch.all (kEn Y.1 Y.2.1) = true) (hw : kW q.1 = some (.code Y.1 Y.2.1 M.2.1 Y.2.2)) (h : kM M Y q = true) : eMok tCl lw_g tNs tMs tYs M Y := by
  unfold kM at h
  simp only [Bool.and_eq_true] at h
  obtain ⟨⟨⟨⟨h3, h4⟩, h5⟩, h6⟩, h7⟩ := h
  refine ⟨fun en hen => ?_, List.mem_filter.mpr ⟨kW_ok hw, rfl⟩, kIs_ok h3, h4, of_decide_eq_true h5, Nat.le_of_ble_eq_true h6, kRt_ok h7⟩
  obtain ⟨ch, hc1, hc2⟩ := List.mem_flatten.mp hen
  have g := List.all_eq_true.mp (h1 ch hc1) en hc2
  unfold kEn at g
  simp only [Bool.and_eq_true] at g
  obtain ⟨⟨⟨g1, g2⟩, g3⟩, g4⟩ := g
  have g1 := of_decide_eq_true g1
  refine ⟨fun hne => ?_, ⟨_, g1⟩, kLk_ok g3, kLi_ok g4⟩
  rw [Bool.or_eq_true] at g2
  rcases g2 with g2 | g2
  · exact absurd (Nat.eq_of_beq_eq_true g2) hne
  · rw [Nat.eq_of_beq_eq_true g2]
    exact g1
def kAll (ws : List Cond) (ps : List Nat) : Bool := match ws, ps with
  | [], [] => true
  | w :: ws, c :: ps => kIs c w && kAll ws ps
  | _, _ => false
theorem kAll_ok : ∀ {ws : List Cond} {ps : List Nat}, kAll ws ps = true → ∀ w ∈ ws, w ∈ lw_g
  | [], _, _, w, hw => absurd hw List.not_mem_nil
  | a :: ws, [], h, w, hw => by cases h
  | a :: ws, c :: ps, h, w, hw => by
    unfold kAll at h
    rw [Bool.and_eq_true] at h
    rcases List.mem_cons.mp hw with rfl | hw
    · exact kIs_ok h.1
    · exact kAll_ok h.2 w hw
def kDv (fs : List eV) : List Value := fs.map (fun v => match v with
  | .inl _ => .int 0
  | .inr (.inl _) => .null
  | .inr (.inr _) => .long 0)
def kDf (fs : List eV) : Bool := fs.all (fun v => decide (v = .inl (0, 0, 0)) || decide (v = .inr (.inl none)))
theorem kDf_ok : ∀ {fs : List eV}, kDf fs = true → ∀ (ad : List Nat) (σ : Nat → Int), σ 0 = 0 → eAll (eOk ad σ) fs (kDv fs)
  | [], _, ad, σ, h0 => trivial
  | v :: fs, h, ad, σ, h0 => by
    unfold kDf at h
    rw [List.all_cons, Bool.and_eq_true, Bool.or_eq_true] at h
    refine ⟨?_, kDf_ok (fs := fs) h.2 ad σ h0⟩
    rcases h.1 with h1 | h1
    · have h1 := of_decide_eq_true h1
      subst h1
      exact ⟨0, rfl, eIn_mk (by rw [h0]; decide) (by rw [h0]; decide)⟩
    · have h1 := of_decide_eq_true h1
      subst h1
      rfl
end
section
theorem kf0 : kAll (u_ws RX0 TX0 4) ((tFs[0]?).getD []) = true := by decide +kernel
theorem kd0 : kDf ((tDf[0]?).getD []) = true ∧ ((tDf[0]?).getD []).length = 4 ∧ ∀ j, j < 4 → defaultValue (tyX0 j) = vp_V (kDv ((tDf[0]?).getD [])) j := by decide +kernel
theorem kf1 : kAll (u_ws RX1 TX1 5) ((tFs[1]?).getD []) = true := by decide +kernel
theorem kd1 : kDf ((tDf[1]?).getD []) = true ∧ ((tDf[1]?).getD []).length = 5 ∧ ∀ j, j < 5 → defaultValue (tyX1 j) = vp_V (kDv ((tDf[1]?).getD [])) j := by decide +kernel
theorem kf2 : kAll (u_ws RX2 TX2 7) ((tFs[2]?).getD []) = true := by decide +kernel
theorem kd2 : kDf ((tDf[2]?).getD []) = true ∧ ((tDf[2]?).getD []).length = 7 ∧ ∀ j, j < 7 → defaultValue (tyX2 j) = vp_V (kDv ((tDf[2]?).getD [])) j := by decide +kernel
theorem kf3 : kAll (u_ws RX3 TX3 16) ((tFs[3]?).getD []) = true := by decide +kernel
theorem kd3 : kDf ((tDf[3]?).getD []) = true ∧ ((tDf[3]?).getD []).length = 16 ∧ ∀ j, j < 16 → defaultValue (tyX3 j) = vp_V (kDv ((tDf[3]?).getD [])) j := by decide +kernel
theorem kf4 : kAll (u_ws RX4 TX4 6) ((tFs[4]?).getD []) = true := by decide +kernel
theorem kd4 : kDf ((tDf[4]?).getD []) = true ∧ ((tDf[4]?).getD []).length = 6 ∧ ∀ j, j < 6 → defaultValue (tyX4 j) = vp_V (kDv ((tDf[4]?).getD [])) j := by decide +kernel
theorem kf5 : kAll (u_ws RX5 TX5 6) ((tFs[5]?).getD []) = true := by decide +kernel
theorem kd5 : kDf ((tDf[5]?).getD []) = true ∧ ((tDf[5]?).getD []).length = 6 ∧ ∀ j, j < 6 → defaultValue (tyX5 j) = vp_V (kDv ((tDf[5]?).getD [])) j := by decide +kernel
theorem kf6 : kAll (u_ws RX6 TX6 5) ((tFs[6]?).getD []) = true := by decide +kernel
theorem kd6 : kDf ((tDf[6]?).getD []) = true ∧ ((tDf[6]?).getD []).length = 5 ∧ ∀ j, j < 5 → defaultValue (tyX6 j) = vp_V (kDv ((tDf[6]?).getD [])) j := by decide +kernel
theorem kf7 : kAll (u_ws RX7 TX7 9) ((tFs[7]?).getD []) = true := by decide +kernel
theorem kd7 : kDf ((tDf[7]?).getD []) = true ∧ ((tDf[7]?).getD []).length = 9 ∧ ∀ j, j < 9 → defaultValue (tyX7 j) = vp_V (kDv ((tDf[7]?).getD [])) j := by decide +kernel
theorem kf8 : kAll (u_ws RX8 TX8 6) ((tFs[8]?).getD []) = true := by decide +kernel
theorem kd8 : kDf ((tDf[8]?).getD []) = true ∧ ((tDf[8]?).getD []).length = 6 ∧ ∀ j, j < 6 → defaultValue (tyX8 j) = vp_V (kDv ((tDf[8]?).getD [])) j := by decide +kernel
theorem kf9 : kAll (u_ws RX9 TX9 4) ((tFs[9]?).getD []) = true := by decide +kernel
theorem kd9 : kDf ((tDf[9]?).getD []) = true ∧ ((tDf[9]?).getD []).length = 4 ∧ ∀ j, j < 4 → defaultValue (tyX9 j) = vp_V (kDv ((tDf[9]?).getD [])) j := by decide +kernel
theorem kf10 : kAll (u_ws RX10 TX10 6) ((tFs[10]?).getD []) = true := by decide +kernel
theorem kd10 : kDf ((tDf[10]?).getD []) = true ∧ ((tDf[10]?).getD []).length = 6 ∧ ∀ j, j < 6 → defaultValue (tyX10 j) = vp_V (kDv ((tDf[10]?).getD [])) j := by decide +kernel
theorem kf11 : kAll (u_ws RX11 TX11 13) ((tFs[11]?).getD []) = true := by decide +kernel
theorem kd11 : kDf ((tDf[11]?).getD []) = true ∧ ((tDf[11]?).getD []).length = 13 ∧ ∀ j, j < 13 → defaultValue (tyX11 j) = vp_V (kDv ((tDf[11]?).getD [])) j := by decide +kernel
theorem kf12 : kAll (u_ws RX12 TX12 69) ((tFs[12]?).getD []) = true := by decide +kernel
theorem kd12 : kDf ((tDf[12]?).getD []) = true ∧ ((tDf[12]?).getD []).length = 69 ∧ ∀ j, j < 69 → defaultValue (tyX12 j) = vp_V (kDv ((tDf[12]?).getD [])) j := by decide +kernel
theorem tKl : eKl tCl lw_g tDf := by
  intro ci C T N h
  match ci, h with
  | 0, h => cases h; exact ⟨kAll_ok kf0, tyX0, tyX0_ok, nmX0, fun fs hfs => by cases hfs; exact ⟨kd0.2.1, _, kDf_ok kd0.1, kd0.2.2⟩⟩
  | 1, h => cases h; exact ⟨kAll_ok kf1, tyX1, tyX1_ok, nmX1, fun fs hfs => by cases hfs; exact ⟨kd1.2.1, _, kDf_ok kd1.1, kd1.2.2⟩⟩
  | 2, h => cases h; exact ⟨kAll_ok kf2, tyX2, tyX2_ok, nmX2, fun fs hfs => by cases hfs; exact ⟨kd2.2.1, _, kDf_ok kd2.1, kd2.2.2⟩⟩
  | 3, h => cases h; exact ⟨kAll_ok kf3, tyX3, tyX3_ok, nmX3, fun fs hfs => by cases hfs; exact ⟨kd3.2.1, _, kDf_ok kd3.1, kd3.2.2⟩⟩
  | 4, h => cases h; exact ⟨kAll_ok kf4, tyX4, tyX4_ok, nmX4, fun fs hfs => by cases hfs; exact ⟨kd4.2.1, _, kDf_ok kd4.1, kd4.2.2⟩⟩
  | 5, h => cases h; exact ⟨kAll_ok kf5, tyX5, tyX5_ok, nmX5, fun fs hfs => by cases hfs; exact ⟨kd5.2.1, _, kDf_ok kd5.1, kd5.2.2⟩⟩
  | 6, h => cases h; exact ⟨kAll_ok kf6, tyX6, tyX6_ok, nmX6, fun fs hfs => by cases hfs; exact ⟨kd6.2.1, _, kDf_ok kd6.1, kd6.2.2⟩⟩
  | 7, h => cases h; exact ⟨kAll_ok kf7, tyX7, tyX7_ok, nmX7, fun fs hfs => by cases hfs; exact ⟨kd7.2.1, _, kDf_ok kd7.1, kd7.2.2⟩⟩
  | 8, h => cases h; exact ⟨kAll_ok kf8, tyX8, tyX8_ok, nmX8, fun fs hfs => by cases hfs; exact ⟨kd8.2.1, _, kDf_ok kd8.1, kd8.2.2⟩⟩
  | 9, h => cases h; exact ⟨kAll_ok kf9, tyX9, tyX9_ok, nmX9, fun fs hfs => by cases hfs; exact ⟨kd9.2.1, _, kDf_ok kd9.1, kd9.2.2⟩⟩
  | 10, h => cases h; exact ⟨kAll_ok kf10, tyX10, tyX10_ok, nmX10, fun fs hfs => by cases hfs; exact ⟨kd10.2.1, _, kDf_ok kd10.1, kd10.2.2⟩⟩
  | 11, h => cases h; exact ⟨kAll_ok kf11, tyX11, tyX11_ok, nmX11, fun fs hfs => by cases hfs; exact ⟨kd11.2.1, _, kDf_ok kd11.1, kd11.2.2⟩⟩
  | 12, h => cases h; exact ⟨kAll_ok kf12, tyX12, tyX12_ok, nmX12, fun fs hfs => by cases hfs; exact ⟨kd12.2.1, _, kDf_ok kd12.1, kd12.2.2⟩⟩
  | k + 13, h => simp [tCl] at h
end
section
theorem tc0_0 : tC0_0.all (kEn tY0.1 tY0.2.1) = true := by decide +kernel
theorem tc0_1 : tC0_1.all (kEn tY0.1 tY0.2.1) = true := by decide +kernel
theorem tc0_2 : tC0_2.all (kEn tY0.1 tY0.2.1) = true := by decide +kernel
theorem tc0_3 : tC0_3.all (kEn tY0.1 tY0.2.1) = true := by decide +kernel
theorem tc0_4 : tC0_4.all (kEn tY0.1 tY0.2.1) = true := by decide +kernel
theorem tc0_5 : tC0_5.all (kEn tY0.1 tY0.2.1) = true := by decide +kernel
theorem tc0_6 : tC0_6.all (kEn tY0.1 tY0.2.1) = true := by decide +kernel
theorem tc0_7 : tC0_7.all (kEn tY0.1 tY0.2.1) = true := by decide +kernel
theorem tc0_8 : tC0_8.all (kEn tY0.1 tY0.2.1) = true := by decide +kernel
theorem tc0_9 : tC0_9.all (kEn tY0.1 tY0.2.1) = true := by decide +kernel
theorem tc0_10 : tC0_10.all (kEn tY0.1 tY0.2.1) = true := by decide +kernel
theorem tc0_11 : tC0_11.all (kEn tY0.1 tY0.2.1) = true := by decide +kernel
theorem tc0_12 : tC0_12.all (kEn tY0.1 tY0.2.1) = true := by decide +kernel
theorem tc0_13 : tC0_13.all (kEn tY0.1 tY0.2.1) = true := by decide +kernel
theorem tc0_14 : tC0_14.all (kEn tY0.1 tY0.2.1) = true := by decide +kernel
theorem tc0_15 : tC0_15.all (kEn tY0.1 tY0.2.1) = true := by decide +kernel
theorem tc0_16 : tC0_16.all (kEn tY0.1 tY0.2.1) = true := by decide +kernel
theorem tc0_17 : tC0_17.all (kEn tY0.1 tY0.2.1) = true := by decide +kernel
theorem tc0_18 : tC0_18.all (kEn tY0.1 tY0.2.1) = true := by decide +kernel
theorem tc0_19 : tC0_19.all (kEn tY0.1 tY0.2.1) = true := by decide +kernel
theorem tc0_20 : tC0_20.all (kEn tY0.1 tY0.2.1) = true := by decide +kernel
theorem tc0_21 : tC0_21.all (kEn tY0.1 tY0.2.1) = true := by decide +kernel
theorem tc0_22 : tC0_22.all (kEn tY0.1 tY0.2.1) = true := by decide +kernel
theorem tc0_23 : tC0_23.all (kEn tY0.1 tY0.2.1) = true := by decide +kernel
theorem tc0_24 : tC0_24.all (kEn tY0.1 tY0.2.1) = true := by decide +kernel
theorem tc0_25 : tC0_25.all (kEn tY0.1 tY0.2.1) = true := by decide +kernel
theorem tc0_26 : tC0_26.all (kEn tY0.1 tY0.2.1) = true := by decide +kernel
theorem tm0 : kM tM0 tY0 ((tWs[0]?).getD (0, 0, 0, 0)) = true := by decide +kernel
set_option maxRecDepth 20000 in
theorem tw0 : kW ((tWs[0]?).getD (0, 0, 0, 0)).1 = some (.code tY0.1 tY0.2.1 tM0.2.1 tY0.2.2) := rfl
theorem tk0 : eMok tCl lw_g tNs tMs tYs tM0 tY0 := kM_ok (q := (tWs[0]?).getD (0, 0, 0, 0)) (show ∀ ch ∈ tC0, _ from List.forall_mem_cons.mpr ⟨tc0_0, List.forall_mem_cons.mpr ⟨tc0_1, List.forall_mem_cons.mpr ⟨tc0_2, List.forall_mem_cons.mpr ⟨tc0_3, List.forall_mem_cons.mpr ⟨tc0_4, List.forall_mem_cons.mpr ⟨tc0_5, List.forall_mem_cons.mpr ⟨tc0_6, List.forall_mem_cons.mpr ⟨tc0_7, List.forall_mem_cons.mpr ⟨tc0_8, List.forall_mem_cons.mpr ⟨tc0_9, List.forall_mem_cons.mpr ⟨tc0_10, List.forall_mem_cons.mpr ⟨tc0_11, List.forall_mem_cons.mpr ⟨tc0_12, List.forall_mem_cons.mpr ⟨tc0_13, List.forall_mem_cons.mpr ⟨tc0_14, List.forall_mem_cons.mpr ⟨tc0_15, List.forall_mem_cons.mpr ⟨tc0_16, List.forall_mem_cons.mpr ⟨tc0_17, List.forall_mem_cons.mpr ⟨tc0_18, List.forall_mem_cons.mpr ⟨tc0_19, List.forall_mem_cons.mpr ⟨tc0_20, List.forall_mem_cons.mpr ⟨tc0_21, List.forall_mem_cons.mpr ⟨tc0_22, List.forall_mem_cons.mpr ⟨tc0_23, List.forall_mem_cons.mpr ⟨tc0_24, List.forall_mem_cons.mpr ⟨tc0_25, List.forall_mem_cons.mpr ⟨tc0_26, fun _ h => absurd h List.not_mem_nil⟩⟩⟩⟩⟩⟩⟩⟩⟩⟩⟩⟩⟩⟩⟩⟩⟩⟩⟩⟩⟩⟩⟩⟩⟩⟩⟩) tw0 tm0
end
section
theorem tc1_0 : tC1_0.all (kEn tY1.1 tY1.2.1) = true := by decide +kernel
theorem tc1_1 : tC1_1.all (kEn tY1.1 tY1.2.1) = true := by decide +kernel
theorem tm1 : kM tM1 tY1 ((tWs[1]?).getD (0, 0, 0, 0)) = true := by decide +kernel
set_option maxRecDepth 20000 in
theorem tw1 : kW ((tWs[1]?).getD (0, 0, 0, 0)).1 = some (.code tY1.1 tY1.2.1 tM1.2.1 tY1.2.2) := rfl
theorem tk1 : eMok tCl lw_g tNs tMs tYs tM1 tY1 := kM_ok (q := (tWs[1]?).getD (0, 0, 0, 0)) (show ∀ ch ∈ tC1, _ from List.forall_mem_cons.mpr ⟨tc1_0, List.forall_mem_cons.mpr ⟨tc1_1, fun _ h => absurd h List.not_mem_nil⟩⟩) tw1 tm1
theorem tc2_0 : tC2_0.all (kEn tY2.1 tY2.2.1) = true := by decide +kernel
theorem tc2_1 : tC2_1.all (kEn tY2.1 tY2.2.1) = true := by decide +kernel
theorem tm2 : kM tM2 tY2 ((tWs[2]?).getD (0, 0, 0, 0)) = true := by decide +kernel
set_option maxRecDepth 20000 in
theorem tw2 : kW ((tWs[2]?).getD (0, 0, 0, 0)).1 = some (.code tY2.1 tY2.2.1 tM2.2.1 tY2.2.2) := rfl
theorem tk2 : eMok tCl lw_g tNs tMs tYs tM2 tY2 := kM_ok (q := (tWs[2]?).getD (0, 0, 0, 0)) (show ∀ ch ∈ tC2, _ from List.forall_mem_cons.mpr ⟨tc2_0, List.forall_mem_cons.mpr ⟨tc2_1, fun _ h => absurd h List.not_mem_nil⟩⟩) tw2 tm2
theorem tc3_0 : tC3_0.all (kEn tY3.1 tY3.2.1) = true := by decide +kernel
theorem tm3 : kM tM3 tY3 ((tWs[3]?).getD (0, 0, 0, 0)) = true := by decide +kernel
set_option maxRecDepth 20000 in
theorem tw3 : kW ((tWs[3]?).getD (0, 0, 0, 0)).1 = some (.code tY3.1 tY3.2.1 tM3.2.1 tY3.2.2) := rfl
theorem tk3 : eMok tCl lw_g tNs tMs tYs tM3 tY3 := kM_ok (q := (tWs[3]?).getD (0, 0, 0, 0)) (show ∀ ch ∈ tC3, _ from List.forall_mem_cons.mpr ⟨tc3_0, fun _ h => absurd h List.not_mem_nil⟩) tw3 tm3
theorem tc4_0 : tC4_0.all (kEn tY4.1 tY4.2.1) = true := by decide +kernel
theorem tm4 : kM tM4 tY4 ((tWs[4]?).getD (0, 0, 0, 0)) = true := by decide +kernel
set_option maxRecDepth 20000 in
theorem tw4 : kW ((tWs[4]?).getD (0, 0, 0, 0)).1 = some (.code tY4.1 tY4.2.1 tM4.2.1 tY4.2.2) := rfl
theorem tk4 : eMok tCl lw_g tNs tMs tYs tM4 tY4 := kM_ok (q := (tWs[4]?).getD (0, 0, 0, 0)) (show ∀ ch ∈ tC4, _ from List.forall_mem_cons.mpr ⟨tc4_0, fun _ h => absurd h List.not_mem_nil⟩) tw4 tm4
theorem tc5_0 : tC5_0.all (kEn tY5.1 tY5.2.1) = true := by decide +kernel
theorem tm5 : kM tM5 tY5 ((tWs[5]?).getD (0, 0, 0, 0)) = true := by decide +kernel
set_option maxRecDepth 20000 in
theorem tw5 : kW ((tWs[5]?).getD (0, 0, 0, 0)).1 = some (.code tY5.1 tY5.2.1 tM5.2.1 tY5.2.2) := rfl
theorem tk5 : eMok tCl lw_g tNs tMs tYs tM5 tY5 := kM_ok (q := (tWs[5]?).getD (0, 0, 0, 0)) (show ∀ ch ∈ tC5, _ from List.forall_mem_cons.mpr ⟨tc5_0, fun _ h => absurd h List.not_mem_nil⟩) tw5 tm5
theorem tc6_0 : tC6_0.all (kEn tY6.1 tY6.2.1) = true := by decide +kernel
theorem tc6_1 : tC6_1.all (kEn tY6.1 tY6.2.1) = true := by decide +kernel
theorem tm6 : kM tM6 tY6 ((tWs[6]?).getD (0, 0, 0, 0)) = true := by decide +kernel
set_option maxRecDepth 20000 in
theorem tw6 : kW ((tWs[6]?).getD (0, 0, 0, 0)).1 = some (.code tY6.1 tY6.2.1 tM6.2.1 tY6.2.2) := rfl
theorem tk6 : eMok tCl lw_g tNs tMs tYs tM6 tY6 := kM_ok (q := (tWs[6]?).getD (0, 0, 0, 0)) (show ∀ ch ∈ tC6, _ from List.forall_mem_cons.mpr ⟨tc6_0, List.forall_mem_cons.mpr ⟨tc6_1, fun _ h => absurd h List.not_mem_nil⟩⟩) tw6 tm6
theorem tc7_0 : tC7_0.all (kEn tY7.1 tY7.2.1) = true := by decide +kernel
theorem tc7_1 : tC7_1.all (kEn tY7.1 tY7.2.1) = true := by decide +kernel
theorem tm7 : kM tM7 tY7 ((tWs[7]?).getD (0, 0, 0, 0)) = true := by decide +kernel
set_option maxRecDepth 20000 in
theorem tw7 : kW ((tWs[7]?).getD (0, 0, 0, 0)).1 = some (.code tY7.1 tY7.2.1 tM7.2.1 tY7.2.2) := rfl
theorem tk7 : eMok tCl lw_g tNs tMs tYs tM7 tY7 := kM_ok (q := (tWs[7]?).getD (0, 0, 0, 0)) (show ∀ ch ∈ tC7, _ from List.forall_mem_cons.mpr ⟨tc7_0, List.forall_mem_cons.mpr ⟨tc7_1, fun _ h => absurd h List.not_mem_nil⟩⟩) tw7 tm7
theorem tc8_0 : tC8_0.all (kEn tY8.1 tY8.2.1) = true := by decide +kernel
theorem tc8_1 : tC8_1.all (kEn tY8.1 tY8.2.1) = true := by decide +kernel
theorem tm8 : kM tM8 tY8 ((tWs[8]?).getD (0, 0, 0, 0)) = true := by decide +kernel
set_option maxRecDepth 20000 in
theorem tw8 : kW ((tWs[8]?).getD (0, 0, 0, 0)).1 = some (.code tY8.1 tY8.2.1 tM8.2.1 tY8.2.2) := rfl
theorem tk8 : eMok tCl lw_g tNs tMs tYs tM8 tY8 := kM_ok (q := (tWs[8]?).getD (0, 0, 0, 0)) (show ∀ ch ∈ tC8, _ from List.forall_mem_cons.mpr ⟨tc8_0, List.forall_mem_cons.mpr ⟨tc8_1, fun _ h => absurd h List.not_mem_nil⟩⟩) tw8 tm8
theorem tc9_0 : tC9_0.all (kEn tY9.1 tY9.2.1) = true := by decide +kernel
theorem tm9 : kM tM9 tY9 ((tWs[9]?).getD (0, 0, 0, 0)) = true := by decide +kernel
set_option maxRecDepth 20000 in
theorem tw9 : kW ((tWs[9]?).getD (0, 0, 0, 0)).1 = some (.code tY9.1 tY9.2.1 tM9.2.1 tY9.2.2) := rfl
theorem tk9 : eMok tCl lw_g tNs tMs tYs tM9 tY9 := kM_ok (q := (tWs[9]?).getD (0, 0, 0, 0)) (show ∀ ch ∈ tC9, _ from List.forall_mem_cons.mpr ⟨tc9_0, fun _ h => absurd h List.not_mem_nil⟩) tw9 tm9
theorem tc10_0 : tC10_0.all (kEn tY10.1 tY10.2.1) = true := by decide +kernel
theorem tc10_1 : tC10_1.all (kEn tY10.1 tY10.2.1) = true := by decide +kernel
theorem tc10_2 : tC10_2.all (kEn tY10.1 tY10.2.1) = true := by decide +kernel
theorem tm10 : kM tM10 tY10 ((tWs[10]?).getD (0, 0, 0, 0)) = true := by decide +kernel
set_option maxRecDepth 20000 in
theorem tw10 : kW ((tWs[10]?).getD (0, 0, 0, 0)).1 = some (.code tY10.1 tY10.2.1 tM10.2.1 tY10.2.2) := rfl
theorem tk10 : eMok tCl lw_g tNs tMs tYs tM10 tY10 := kM_ok (q := (tWs[10]?).getD (0, 0, 0, 0)) (show ∀ ch ∈ tC10, _ from List.forall_mem_cons.mpr ⟨tc10_0, List.forall_mem_cons.mpr ⟨tc10_1, List.forall_mem_cons.mpr ⟨tc10_2, fun _ h => absurd h List.not_mem_nil⟩⟩⟩) tw10 tm10
theorem tc11_0 : tC11_0.all (kEn tY11.1 tY11.2.1) = true := by decide +kernel
theorem tc11_1 : tC11_1.all (kEn tY11.1 tY11.2.1) = true := by decide +kernel
theorem tc11_2 : tC11_2.all (kEn tY11.1 tY11.2.1) = true := by decide +kernel
theorem tc11_3 : tC11_3.all (kEn tY11.1 tY11.2.1) = true := by decide +kernel
theorem tc11_4 : tC11_4.all (kEn tY11.1 tY11.2.1) = true := by decide +kernel
theorem tc11_5 : tC11_5.all (kEn tY11.1 tY11.2.1) = true := by decide +kernel
theorem tc11_6 : tC11_6.all (kEn tY11.1 tY11.2.1) = true := by decide +kernel
theorem tc11_7 : tC11_7.all (kEn tY11.1 tY11.2.1) = true := by decide +kernel
theorem tm11 : kM tM11 tY11 ((tWs[11]?).getD (0, 0, 0, 0)) = true := by decide +kernel
set_option maxRecDepth 20000 in
theorem tw11 : kW ((tWs[11]?).getD (0, 0, 0, 0)).1 = some (.code tY11.1 tY11.2.1 tM11.2.1 tY11.2.2) := rfl
theorem tk11 : eMok tCl lw_g tNs tMs tYs tM11 tY11 := kM_ok (q := (tWs[11]?).getD (0, 0, 0, 0)) (show ∀ ch ∈ tC11, _ from List.forall_mem_cons.mpr ⟨tc11_0, List.forall_mem_cons.mpr ⟨tc11_1, List.forall_mem_cons.mpr ⟨tc11_2, List.forall_mem_cons.mpr ⟨tc11_3, List.forall_mem_cons.mpr ⟨tc11_4, List.forall_mem_cons.mpr ⟨tc11_5, List.forall_mem_cons.mpr ⟨tc11_6, List.forall_mem_cons.mpr ⟨tc11_7, fun _ h => absurd h List.not_mem_nil⟩⟩⟩⟩⟩⟩⟩⟩) tw11 tm11
theorem tc12_0 : tC12_0.all (kEn tY12.1 tY12.2.1) = true := by decide +kernel
theorem tm12 : kM tM12 tY12 ((tWs[12]?).getD (0, 0, 0, 0)) = true := by decide +kernel
set_option maxRecDepth 20000 in
theorem tw12 : kW ((tWs[12]?).getD (0, 0, 0, 0)).1 = some (.code tY12.1 tY12.2.1 tM12.2.1 tY12.2.2) := rfl
theorem tk12 : eMok tCl lw_g tNs tMs tYs tM12 tY12 := kM_ok (q := (tWs[12]?).getD (0, 0, 0, 0)) (show ∀ ch ∈ tC12, _ from List.forall_mem_cons.mpr ⟨tc12_0, fun _ h => absurd h List.not_mem_nil⟩) tw12 tm12
theorem tc13_0 : tC13_0.all (kEn tY13.1 tY13.2.1) = true := by decide +kernel
theorem tm13 : kM tM13 tY13 ((tWs[13]?).getD (0, 0, 0, 0)) = true := by decide +kernel
set_option maxRecDepth 20000 in
theorem tw13 : kW ((tWs[13]?).getD (0, 0, 0, 0)).1 = some (.code tY13.1 tY13.2.1 tM13.2.1 tY13.2.2) := rfl
theorem tk13 : eMok tCl lw_g tNs tMs tYs tM13 tY13 := kM_ok (q := (tWs[13]?).getD (0, 0, 0, 0)) (show ∀ ch ∈ tC13, _ from List.forall_mem_cons.mpr ⟨tc13_0, fun _ h => absurd h List.not_mem_nil⟩) tw13 tm13
theorem tc14_0 : tC14_0.all (kEn tY14.1 tY14.2.1) = true := by decide +kernel
theorem tm14 : kM tM14 tY14 ((tWs[14]?).getD (0, 0, 0, 0)) = true := by decide +kernel
set_option maxRecDepth 20000 in
theorem tw14 : kW ((tWs[14]?).getD (0, 0, 0, 0)).1 = some (.code tY14.1 tY14.2.1 tM14.2.1 tY14.2.2) := rfl
theorem tk14 : eMok tCl lw_g tNs tMs tYs tM14 tY14 := kM_ok (q := (tWs[14]?).getD (0, 0, 0, 0)) (show ∀ ch ∈ tC14, _ from List.forall_mem_cons.mpr ⟨tc14_0, fun _ h => absurd h List.not_mem_nil⟩) tw14 tm14
theorem tc15_0 : tC15_0.all (kEn tY15.1 tY15.2.1) = true := by decide +kernel
theorem tm15 : kM tM15 tY15 ((tWs[15]?).getD (0, 0, 0, 0)) = true := by decide +kernel
set_option maxRecDepth 20000 in
theorem tw15 : kW ((tWs[15]?).getD (0, 0, 0, 0)).1 = some (.code tY15.1 tY15.2.1 tM15.2.1 tY15.2.2) := rfl
theorem tk15 : eMok tCl lw_g tNs tMs tYs tM15 tY15 := kM_ok (q := (tWs[15]?).getD (0, 0, 0, 0)) (show ∀ ch ∈ tC15, _ from List.forall_mem_cons.mpr ⟨tc15_0, fun _ h => absurd h List.not_mem_nil⟩) tw15 tm15
theorem tc16_0 : tC16_0.all (kEn tY16.1 tY16.2.1) = true := by decide +kernel
theorem tm16 : kM tM16 tY16 ((tWs[16]?).getD (0, 0, 0, 0)) = true := by decide +kernel
set_option maxRecDepth 20000 in
theorem tw16 : kW ((tWs[16]?).getD (0, 0, 0, 0)).1 = some (.code tY16.1 tY16.2.1 tM16.2.1 tY16.2.2) := rfl
theorem tk16 : eMok tCl lw_g tNs tMs tYs tM16 tY16 := kM_ok (q := (tWs[16]?).getD (0, 0, 0, 0)) (show ∀ ch ∈ tC16, _ from List.forall_mem_cons.mpr ⟨tc16_0, fun _ h => absurd h List.not_mem_nil⟩) tw16 tm16
theorem tc17_0 : tC17_0.all (kEn tY17.1 tY17.2.1) = true := by decide +kernel
theorem tm17 : kM tM17 tY17 ((tWs[17]?).getD (0, 0, 0, 0)) = true := by decide +kernel
set_option maxRecDepth 20000 in
theorem tw17 : kW ((tWs[17]?).getD (0, 0, 0, 0)).1 = some (.code tY17.1 tY17.2.1 tM17.2.1 tY17.2.2) := rfl
theorem tk17 : eMok tCl lw_g tNs tMs tYs tM17 tY17 := kM_ok (q := (tWs[17]?).getD (0, 0, 0, 0)) (show ∀ ch ∈ tC17, _ from List.forall_mem_cons.mpr ⟨tc17_0, fun _ h => absurd h List.not_mem_nil⟩) tw17 tm17
theorem tc18_0 : tC18_0.all (kEn tY18.1 tY18.2.1) = true := by decide +kernel
theorem tm18 : kM tM18 tY18 ((tWs[18]?).getD (0, 0, 0, 0)) = true := by decide +kernel
set_option maxRecDepth 20000 in
theorem tw18 : kW ((tWs[18]?).getD (0, 0, 0, 0)).1 = some (.code tY18.1 tY18.2.1 tM18.2.1 tY18.2.2) := rfl
theorem tk18 : eMok tCl lw_g tNs tMs tYs tM18 tY18 := kM_ok (q := (tWs[18]?).getD (0, 0, 0, 0)) (show ∀ ch ∈ tC18, _ from List.forall_mem_cons.mpr ⟨tc18_0, fun _ h => absurd h List.not_mem_nil⟩) tw18 tm18
theorem tc19_0 : tC19_0.all (kEn tY19.1 tY19.2.1) = true := by decide +kernel
theorem tc19_1 : tC19_1.all (kEn tY19.1 tY19.2.1) = true := by decide +kernel
theorem tc19_2 : tC19_2.all (kEn tY19.1 tY19.2.1) = true := by decide +kernel
theorem tc19_3 : tC19_3.all (kEn tY19.1 tY19.2.1) = true := by decide +kernel
theorem tm19 : kM tM19 tY19 ((tWs[19]?).getD (0, 0, 0, 0)) = true := by decide +kernel
set_option maxRecDepth 20000 in
theorem tw19 : kW ((tWs[19]?).getD (0, 0, 0, 0)).1 = some (.code tY19.1 tY19.2.1 tM19.2.1 tY19.2.2) := rfl
theorem tk19 : eMok tCl lw_g tNs tMs tYs tM19 tY19 := kM_ok (q := (tWs[19]?).getD (0, 0, 0, 0)) (show ∀ ch ∈ tC19, _ from List.forall_mem_cons.mpr ⟨tc19_0, List.forall_mem_cons.mpr ⟨tc19_1, List.forall_mem_cons.mpr ⟨tc19_2, List.forall_mem_cons.mpr ⟨tc19_3, fun _ h => absurd h List.not_mem_nil⟩⟩⟩⟩) tw19 tm19
theorem tc20_0 : tC20_0.all (kEn tY20.1 tY20.2.1) = true := by decide +kernel
theorem tm20 : kM tM20 tY20 ((tWs[20]?).getD (0, 0, 0, 0)) = true := by decide +kernel
set_option maxRecDepth 20000 in
theorem tw20 : kW ((tWs[20]?).getD (0, 0, 0, 0)).1 = some (.code tY20.1 tY20.2.1 tM20.2.1 tY20.2.2) := rfl
theorem tk20 : eMok tCl lw_g tNs tMs tYs tM20 tY20 := kM_ok (q := (tWs[20]?).getD (0, 0, 0, 0)) (show ∀ ch ∈ tC20, _ from List.forall_mem_cons.mpr ⟨tc20_0, fun _ h => absurd h List.not_mem_nil⟩) tw20 tm20
theorem tc21_0 : tC21_0.all (kEn tY21.1 tY21.2.1) = true := by decide +kernel
theorem tc21_1 : tC21_1.all (kEn tY21.1 tY21.2.1) = true := by decide +kernel
theorem tm21 : kM tM21 tY21 ((tWs[21]?).getD (0, 0, 0, 0)) = true := by decide +kernel
set_option maxRecDepth 20000 in
theorem tw21 : kW ((tWs[21]?).getD (0, 0, 0, 0)).1 = some (.code tY21.1 tY21.2.1 tM21.2.1 tY21.2.2) := rfl
theorem tk21 : eMok tCl lw_g tNs tMs tYs tM21 tY21 := kM_ok (q := (tWs[21]?).getD (0, 0, 0, 0)) (show ∀ ch ∈ tC21, _ from List.forall_mem_cons.mpr ⟨tc21_0, List.forall_mem_cons.mpr ⟨tc21_1, fun _ h => absurd h List.not_mem_nil⟩⟩) tw21 tm21
theorem tc22_0 : tC22_0.all (kEn tY22.1 tY22.2.1) = true := by decide +kernel
theorem tm22 : kM tM22 tY22 ((tWs[22]?).getD (0, 0, 0, 0)) = true := by decide +kernel
set_option maxRecDepth 20000 in
theorem tw22 : kW ((tWs[22]?).getD (0, 0, 0, 0)).1 = some (.code tY22.1 tY22.2.1 tM22.2.1 tY22.2.2) := rfl
theorem tk22 : eMok tCl lw_g tNs tMs tYs tM22 tY22 := kM_ok (q := (tWs[22]?).getD (0, 0, 0, 0)) (show ∀ ch ∈ tC22, _ from List.forall_mem_cons.mpr ⟨tc22_0, fun _ h => absurd h List.not_mem_nil⟩) tw22 tm22
theorem tc23_0 : tC23_0.all (kEn tY23.1 tY23.2.1) = true := by decide +kernel
theorem tc23_1 : tC23_1.all (kEn tY23.1 tY23.2.1) = true := by decide +kernel
theorem tm23 : kM tM23 tY23 ((tWs[23]?).getD (0, 0, 0, 0)) = true := by decide +kernel
set_option maxRecDepth 20000 in
theorem tw23 : kW ((tWs[23]?).getD (0, 0, 0, 0)).1 = some (.code tY23.1 tY23.2.1 tM23.2.1 tY23.2.2) := rfl
theorem tk23 : eMok tCl lw_g tNs tMs tYs tM23 tY23 := kM_ok (q := (tWs[23]?).getD (0, 0, 0, 0)) (show ∀ ch ∈ tC23, _ from List.forall_mem_cons.mpr ⟨tc23_0, List.forall_mem_cons.mpr ⟨tc23_1, fun _ h => absurd h List.not_mem_nil⟩⟩) tw23 tm23
theorem tc24_0 : tC24_0.all (kEn tY24.1 tY24.2.1) = true := by decide +kernel
theorem tc24_1 : tC24_1.all (kEn tY24.1 tY24.2.1) = true := by decide +kernel
theorem tc24_2 : tC24_2.all (kEn tY24.1 tY24.2.1) = true := by decide +kernel
theorem tc24_3 : tC24_3.all (kEn tY24.1 tY24.2.1) = true := by decide +kernel
theorem tc24_4 : tC24_4.all (kEn tY24.1 tY24.2.1) = true := by decide +kernel
theorem tc24_5 : tC24_5.all (kEn tY24.1 tY24.2.1) = true := by decide +kernel
theorem tc24_6 : tC24_6.all (kEn tY24.1 tY24.2.1) = true := by decide +kernel
theorem tc24_7 : tC24_7.all (kEn tY24.1 tY24.2.1) = true := by decide +kernel
theorem tc24_8 : tC24_8.all (kEn tY24.1 tY24.2.1) = true := by decide +kernel
theorem tm24 : kM tM24 tY24 ((tWs[24]?).getD (0, 0, 0, 0)) = true := by decide +kernel
set_option maxRecDepth 20000 in
theorem tw24 : kW ((tWs[24]?).getD (0, 0, 0, 0)).1 = some (.code tY24.1 tY24.2.1 tM24.2.1 tY24.2.2) := rfl
theorem tk24 : eMok tCl lw_g tNs tMs tYs tM24 tY24 := kM_ok (q := (tWs[24]?).getD (0, 0, 0, 0)) (show ∀ ch ∈ tC24, _ from List.forall_mem_cons.mpr ⟨tc24_0, List.forall_mem_cons.mpr ⟨tc24_1, List.forall_mem_cons.mpr ⟨tc24_2, List.forall_mem_cons.mpr ⟨tc24_3, List.forall_mem_cons.mpr ⟨tc24_4, List.forall_mem_cons.mpr ⟨tc24_5, List.forall_mem_cons.mpr ⟨tc24_6, List.forall_mem_cons.mpr ⟨tc24_7, List.forall_mem_cons.mpr ⟨tc24_8, fun _ h => absurd h List.not_mem_nil⟩⟩⟩⟩⟩⟩⟩⟩⟩) tw24 tm24
theorem tc25_0 : tC25_0.all (kEn tY25.1 tY25.2.1) = true := by decide +kernel
theorem tc25_1 : tC25_1.all (kEn tY25.1 tY25.2.1) = true := by decide +kernel
theorem tm25 : kM tM25 tY25 ((tWs[25]?).getD (0, 0, 0, 0)) = true := by decide +kernel
set_option maxRecDepth 20000 in
theorem tw25 : kW ((tWs[25]?).getD (0, 0, 0, 0)).1 = some (.code tY25.1 tY25.2.1 tM25.2.1 tY25.2.2) := rfl
theorem tk25 : eMok tCl lw_g tNs tMs tYs tM25 tY25 := kM_ok (q := (tWs[25]?).getD (0, 0, 0, 0)) (show ∀ ch ∈ tC25, _ from List.forall_mem_cons.mpr ⟨tc25_0, List.forall_mem_cons.mpr ⟨tc25_1, fun _ h => absurd h List.not_mem_nil⟩⟩) tw25 tm25
theorem tc26_0 : tC26_0.all (kEn tY26.1 tY26.2.1) = true := by decide +kernel
theorem tc26_1 : tC26_1.all (kEn tY26.1 tY26.2.1) = true := by decide +kernel
theorem tc26_2 : tC26_2.all (kEn tY26.1 tY26.2.1) = true := by decide +kernel
theorem tm26 : kM tM26 tY26 ((tWs[26]?).getD (0, 0, 0, 0)) = true := by decide +kernel
set_option maxRecDepth 20000 in
theorem tw26 : kW ((tWs[26]?).getD (0, 0, 0, 0)).1 = some (.code tY26.1 tY26.2.1 tM26.2.1 tY26.2.2) := rfl
theorem tk26 : eMok tCl lw_g tNs tMs tYs tM26 tY26 := kM_ok (q := (tWs[26]?).getD (0, 0, 0, 0)) (show ∀ ch ∈ tC26, _ from List.forall_mem_cons.mpr ⟨tc26_0, List.forall_mem_cons.mpr ⟨tc26_1, List.forall_mem_cons.mpr ⟨tc26_2, fun _ h => absurd h List.not_mem_nil⟩⟩⟩) tw26 tm26
theorem tc27_0 : tC27_0.all (kEn tY27.1 tY27.2.1) = true := by decide +kernel
theorem tm27 : kM tM27 tY27 ((tWs[27]?).getD (0, 0, 0, 0)) = true := by decide +kernel
set_option maxRecDepth 20000 in
theorem tw27 : kW ((tWs[27]?).getD (0, 0, 0, 0)).1 = some (.code tY27.1 tY27.2.1 tM27.2.1 tY27.2.2) := rfl
theorem tk27 : eMok tCl lw_g tNs tMs tYs tM27 tY27 := kM_ok (q := (tWs[27]?).getD (0, 0, 0, 0)) (show ∀ ch ∈ tC27, _ from List.forall_mem_cons.mpr ⟨tc27_0, fun _ h => absurd h List.not_mem_nil⟩) tw27 tm27
theorem tc28_0 : tC28_0.all (kEn tY28.1 tY28.2.1) = true := by decide +kernel
theorem tc28_1 : tC28_1.all (kEn tY28.1 tY28.2.1) = true := by decide +kernel
theorem tm28 : kM tM28 tY28 ((tWs[28]?).getD (0, 0, 0, 0)) = true := by decide +kernel
set_option maxRecDepth 20000 in
theorem tw28 : kW ((tWs[28]?).getD (0, 0, 0, 0)).1 = some (.code tY28.1 tY28.2.1 tM28.2.1 tY28.2.2) := rfl
theorem tk28 : eMok tCl lw_g tNs tMs tYs tM28 tY28 := kM_ok (q := (tWs[28]?).getD (0, 0, 0, 0)) (show ∀ ch ∈ tC28, _ from List.forall_mem_cons.mpr ⟨tc28_0, List.forall_mem_cons.mpr ⟨tc28_1, fun _ h => absurd h List.not_mem_nil⟩⟩) tw28 tm28
theorem tc29_0 : tC29_0.all (kEn tY29.1 tY29.2.1) = true := by decide +kernel
theorem tc29_1 : tC29_1.all (kEn tY29.1 tY29.2.1) = true := by decide +kernel
theorem tm29 : kM tM29 tY29 ((tWs[29]?).getD (0, 0, 0, 0)) = true := by decide +kernel
set_option maxRecDepth 20000 in
theorem tw29 : kW ((tWs[29]?).getD (0, 0, 0, 0)).1 = some (.code tY29.1 tY29.2.1 tM29.2.1 tY29.2.2) := rfl
theorem tk29 : eMok tCl lw_g tNs tMs tYs tM29 tY29 := kM_ok (q := (tWs[29]?).getD (0, 0, 0, 0)) (show ∀ ch ∈ tC29, _ from List.forall_mem_cons.mpr ⟨tc29_0, List.forall_mem_cons.mpr ⟨tc29_1, fun _ h => absurd h List.not_mem_nil⟩⟩) tw29 tm29
theorem tc30_0 : tC30_0.all (kEn tY30.1 tY30.2.1) = true := by decide +kernel
theorem tc30_1 : tC30_1.all (kEn tY30.1 tY30.2.1) = true := by decide +kernel
theorem tm30 : kM tM30 tY30 ((tWs[30]?).getD (0, 0, 0, 0)) = true := by decide +kernel
set_option maxRecDepth 20000 in
theorem tw30 : kW ((tWs[30]?).getD (0, 0, 0, 0)).1 = some (.code tY30.1 tY30.2.1 tM30.2.1 tY30.2.2) := rfl
theorem tk30 : eMok tCl lw_g tNs tMs tYs tM30 tY30 := kM_ok (q := (tWs[30]?).getD (0, 0, 0, 0)) (show ∀ ch ∈ tC30, _ from List.forall_mem_cons.mpr ⟨tc30_0, List.forall_mem_cons.mpr ⟨tc30_1, fun _ h => absurd h List.not_mem_nil⟩⟩) tw30 tm30
theorem tc31_0 : tC31_0.all (kEn tY31.1 tY31.2.1) = true := by decide +kernel
theorem tc31_1 : tC31_1.all (kEn tY31.1 tY31.2.1) = true := by decide +kernel
theorem tc31_2 : tC31_2.all (kEn tY31.1 tY31.2.1) = true := by decide +kernel
theorem tc31_3 : tC31_3.all (kEn tY31.1 tY31.2.1) = true := by decide +kernel
theorem tc31_4 : tC31_4.all (kEn tY31.1 tY31.2.1) = true := by decide +kernel
theorem tc31_5 : tC31_5.all (kEn tY31.1 tY31.2.1) = true := by decide +kernel
theorem tc31_6 : tC31_6.all (kEn tY31.1 tY31.2.1) = true := by decide +kernel
theorem tc31_7 : tC31_7.all (kEn tY31.1 tY31.2.1) = true := by decide +kernel
theorem tc31_8 : tC31_8.all (kEn tY31.1 tY31.2.1) = true := by decide +kernel
theorem tm31 : kM tM31 tY31 ((tWs[31]?).getD (0, 0, 0, 0)) = true := by decide +kernel
set_option maxRecDepth 20000 in
theorem tw31 : kW ((tWs[31]?).getD (0, 0, 0, 0)).1 = some (.code tY31.1 tY31.2.1 tM31.2.1 tY31.2.2) := rfl
theorem tk31 : eMok tCl lw_g tNs tMs tYs tM31 tY31 := kM_ok (q := (tWs[31]?).getD (0, 0, 0, 0)) (show ∀ ch ∈ tC31, _ from List.forall_mem_cons.mpr ⟨tc31_0, List.forall_mem_cons.mpr ⟨tc31_1, List.forall_mem_cons.mpr ⟨tc31_2, List.forall_mem_cons.mpr ⟨tc31_3, List.forall_mem_cons.mpr ⟨tc31_4, List.forall_mem_cons.mpr ⟨tc31_5, List.forall_mem_cons.mpr ⟨tc31_6, List.forall_mem_cons.mpr ⟨tc31_7, List.forall_mem_cons.mpr ⟨tc31_8, fun _ h => absurd h List.not_mem_nil⟩⟩⟩⟩⟩⟩⟩⟩⟩) tw31 tm31
theorem tc32_0 : tC32_0.all (kEn tY32.1 tY32.2.1) = true := by decide +kernel
theorem tm32 : kM tM32 tY32 ((tWs[32]?).getD (0, 0, 0, 0)) = true := by decide +kernel
set_option maxRecDepth 20000 in
theorem tw32 : kW ((tWs[32]?).getD (0, 0, 0, 0)).1 = some (.code tY32.1 tY32.2.1 tM32.2.1 tY32.2.2) := rfl
theorem tk32 : eMok tCl lw_g tNs tMs tYs tM32 tY32 := kM_ok (q := (tWs[32]?).getD (0, 0, 0, 0)) (show ∀ ch ∈ tC32, _ from List.forall_mem_cons.mpr ⟨tc32_0, fun _ h => absurd h List.not_mem_nil⟩) tw32 tm32
theorem tc33_0 : tC33_0.all (kEn tY33.1 tY33.2.1) = true := by decide +kernel
theorem tm33 : kM tM33 tY33 ((tWs[33]?).getD (0, 0, 0, 0)) = true := by decide +kernel
set_option maxRecDepth 20000 in
theorem tw33 : kW ((tWs[33]?).getD (0, 0, 0, 0)).1 = some (.code tY33.1 tY33.2.1 tM33.2.1 tY33.2.2) := rfl
theorem tk33 : eMok tCl lw_g tNs tMs tYs tM33 tY33 := kM_ok (q := (tWs[33]?).getD (0, 0, 0, 0)) (show ∀ ch ∈ tC33, _ from List.forall_mem_cons.mpr ⟨tc33_0, fun _ h => absurd h List.not_mem_nil⟩) tw33 tm33
theorem tc34_0 : tC34_0.all (kEn tY34.1 tY34.2.1) = true := by decide +kernel
theorem tm34 : kM tM34 tY34 ((tWs[34]?).getD (0, 0, 0, 0)) = true := by decide +kernel
set_option maxRecDepth 20000 in
theorem tw34 : kW ((tWs[34]?).getD (0, 0, 0, 0)).1 = some (.code tY34.1 tY34.2.1 tM34.2.1 tY34.2.2) := rfl
theorem tk34 : eMok tCl lw_g tNs tMs tYs tM34 tY34 := kM_ok (q := (tWs[34]?).getD (0, 0, 0, 0)) (show ∀ ch ∈ tC34, _ from List.forall_mem_cons.mpr ⟨tc34_0, fun _ h => absurd h List.not_mem_nil⟩) tw34 tm34
theorem tc35_0 : tC35_0.all (kEn tY35.1 tY35.2.1) = true := by decide +kernel
theorem tm35 : kM tM35 tY35 ((tWs[35]?).getD (0, 0, 0, 0)) = true := by decide +kernel
set_option maxRecDepth 20000 in
theorem tw35 : kW ((tWs[35]?).getD (0, 0, 0, 0)).1 = some (.code tY35.1 tY35.2.1 tM35.2.1 tY35.2.2) := rfl
theorem tk35 : eMok tCl lw_g tNs tMs tYs tM35 tY35 := kM_ok (q := (tWs[35]?).getD (0, 0, 0, 0)) (show ∀ ch ∈ tC35, _ from List.forall_mem_cons.mpr ⟨tc35_0, fun _ h => absurd h List.not_mem_nil⟩) tw35 tm35
theorem tc36_0 : tC36_0.all (kEn tY36.1 tY36.2.1) = true := by decide +kernel
theorem tc36_1 : tC36_1.all (kEn tY36.1 tY36.2.1) = true := by decide +kernel
theorem tc36_2 : tC36_2.all (kEn tY36.1 tY36.2.1) = true := by decide +kernel
theorem tc36_3 : tC36_3.all (kEn tY36.1 tY36.2.1) = true := by decide +kernel
theorem tm36 : kM tM36 tY36 ((tWs[36]?).getD (0, 0, 0, 0)) = true := by decide +kernel
set_option maxRecDepth 20000 in
theorem tw36 : kW ((tWs[36]?).getD (0, 0, 0, 0)).1 = some (.code tY36.1 tY36.2.1 tM36.2.1 tY36.2.2) := rfl
theorem tk36 : eMok tCl lw_g tNs tMs tYs tM36 tY36 := kM_ok (q := (tWs[36]?).getD (0, 0, 0, 0)) (show ∀ ch ∈ tC36, _ from List.forall_mem_cons.mpr ⟨tc36_0, List.forall_mem_cons.mpr ⟨tc36_1, List.forall_mem_cons.mpr ⟨tc36_2, List.forall_mem_cons.mpr ⟨tc36_3, fun _ h => absurd h List.not_mem_nil⟩⟩⟩⟩) tw36 tm36
theorem tc37_0 : tC37_0.all (kEn tY37.1 tY37.2.1) = true := by decide +kernel
theorem tm37 : kM tM37 tY37 ((tWs[37]?).getD (0, 0, 0, 0)) = true := by decide +kernel
set_option maxRecDepth 20000 in
theorem tw37 : kW ((tWs[37]?).getD (0, 0, 0, 0)).1 = some (.code tY37.1 tY37.2.1 tM37.2.1 tY37.2.2) := rfl
theorem tk37 : eMok tCl lw_g tNs tMs tYs tM37 tY37 := kM_ok (q := (tWs[37]?).getD (0, 0, 0, 0)) (show ∀ ch ∈ tC37, _ from List.forall_mem_cons.mpr ⟨tc37_0, fun _ h => absurd h List.not_mem_nil⟩) tw37 tm37
theorem tc38_0 : tC38_0.all (kEn tY38.1 tY38.2.1) = true := by decide +kernel
theorem tm38 : kM tM38 tY38 ((tWs[38]?).getD (0, 0, 0, 0)) = true := by decide +kernel
set_option maxRecDepth 20000 in
theorem tw38 : kW ((tWs[38]?).getD (0, 0, 0, 0)).1 = some (.code tY38.1 tY38.2.1 tM38.2.1 tY38.2.2) := rfl
theorem tk38 : eMok tCl lw_g tNs tMs tYs tM38 tY38 := kM_ok (q := (tWs[38]?).getD (0, 0, 0, 0)) (show ∀ ch ∈ tC38, _ from List.forall_mem_cons.mpr ⟨tc38_0, fun _ h => absurd h List.not_mem_nil⟩) tw38 tm38
end
section
theorem tc39_0 : tC39_0.all (kEn tY39.1 tY39.2.1) = true := by decide +kernel
theorem tm39 : kM tM39 tY39 ((tWs[39]?).getD (0, 0, 0, 0)) = true := by decide +kernel
set_option maxRecDepth 20000 in
theorem tw39 : kW ((tWs[39]?).getD (0, 0, 0, 0)).1 = some (.code tY39.1 tY39.2.1 tM39.2.1 tY39.2.2) := rfl
theorem tk39 : eMok tCl lw_g tNs tMs tYs tM39 tY39 := kM_ok (q := (tWs[39]?).getD (0, 0, 0, 0)) (show ∀ ch ∈ tC39, _ from List.forall_mem_cons.mpr ⟨tc39_0, fun _ h => absurd h List.not_mem_nil⟩) tw39 tm39
theorem tc40_0 : tC40_0.all (kEn tY40.1 tY40.2.1) = true := by decide +kernel
theorem tc40_1 : tC40_1.all (kEn tY40.1 tY40.2.1) = true := by decide +kernel
theorem tm40 : kM tM40 tY40 ((tWs[40]?).getD (0, 0, 0, 0)) = true := by decide +kernel
set_option maxRecDepth 20000 in
theorem tw40 : kW ((tWs[40]?).getD (0, 0, 0, 0)).1 = some (.code tY40.1 tY40.2.1 tM40.2.1 tY40.2.2) := rfl
theorem tk40 : eMok tCl lw_g tNs tMs tYs tM40 tY40 := kM_ok (q := (tWs[40]?).getD (0, 0, 0, 0)) (show ∀ ch ∈ tC40, _ from List.forall_mem_cons.mpr ⟨tc40_0, List.forall_mem_cons.mpr ⟨tc40_1, fun _ h => absurd h List.not_mem_nil⟩⟩) tw40 tm40
theorem tc41_0 : tC41_0.all (kEn tY41.1 tY41.2.1) = true := by decide +kernel
theorem tm41 : kM tM41 tY41 ((tWs[41]?).getD (0, 0, 0, 0)) = true := by decide +kernel
set_option maxRecDepth 20000 in
theorem tw41 : kW ((tWs[41]?).getD (0, 0, 0, 0)).1 = some (.code tY41.1 tY41.2.1 tM41.2.1 tY41.2.2) := rfl
theorem tk41 : eMok tCl lw_g tNs tMs tYs tM41 tY41 := kM_ok (q := (tWs[41]?).getD (0, 0, 0, 0)) (show ∀ ch ∈ tC41, _ from List.forall_mem_cons.mpr ⟨tc41_0, fun _ h => absurd h List.not_mem_nil⟩) tw41 tm41
theorem tc42_0 : tC42_0.all (kEn tY42.1 tY42.2.1) = true := by decide +kernel
theorem tc42_1 : tC42_1.all (kEn tY42.1 tY42.2.1) = true := by decide +kernel
theorem tm42 : kM tM42 tY42 ((tWs[42]?).getD (0, 0, 0, 0)) = true := by decide +kernel
set_option maxRecDepth 20000 in
theorem tw42 : kW ((tWs[42]?).getD (0, 0, 0, 0)).1 = some (.code tY42.1 tY42.2.1 tM42.2.1 tY42.2.2) := rfl
theorem tk42 : eMok tCl lw_g tNs tMs tYs tM42 tY42 := kM_ok (q := (tWs[42]?).getD (0, 0, 0, 0)) (show ∀ ch ∈ tC42, _ from List.forall_mem_cons.mpr ⟨tc42_0, List.forall_mem_cons.mpr ⟨tc42_1, fun _ h => absurd h List.not_mem_nil⟩⟩) tw42 tm42
theorem tc43_0 : tC43_0.all (kEn tY43.1 tY43.2.1) = true := by decide +kernel
theorem tm43 : kM tM43 tY43 ((tWs[43]?).getD (0, 0, 0, 0)) = true := by decide +kernel
set_option maxRecDepth 20000 in
theorem tw43 : kW ((tWs[43]?).getD (0, 0, 0, 0)).1 = some (.code tY43.1 tY43.2.1 tM43.2.1 tY43.2.2) := rfl
theorem tk43 : eMok tCl lw_g tNs tMs tYs tM43 tY43 := kM_ok (q := (tWs[43]?).getD (0, 0, 0, 0)) (show ∀ ch ∈ tC43, _ from List.forall_mem_cons.mpr ⟨tc43_0, fun _ h => absurd h List.not_mem_nil⟩) tw43 tm43
theorem tc44_0 : tC44_0.all (kEn tY44.1 tY44.2.1) = true := by decide +kernel
theorem tm44 : kM tM44 tY44 ((tWs[44]?).getD (0, 0, 0, 0)) = true := by decide +kernel
set_option maxRecDepth 20000 in
theorem tw44 : kW ((tWs[44]?).getD (0, 0, 0, 0)).1 = some (.code tY44.1 tY44.2.1 tM44.2.1 tY44.2.2) := rfl
theorem tk44 : eMok tCl lw_g tNs tMs tYs tM44 tY44 := kM_ok (q := (tWs[44]?).getD (0, 0, 0, 0)) (show ∀ ch ∈ tC44, _ from List.forall_mem_cons.mpr ⟨tc44_0, fun _ h => absurd h List.not_mem_nil⟩) tw44 tm44
theorem tc45_0 : tC45_0.all (kEn tY45.1 tY45.2.1) = true := by decide +kernel
theorem tm45 : kM tM45 tY45 ((tWs[45]?).getD (0, 0, 0, 0)) = true := by decide +kernel
set_option maxRecDepth 20000 in
theorem tw45 : kW ((tWs[45]?).getD (0, 0, 0, 0)).1 = some (.code tY45.1 tY45.2.1 tM45.2.1 tY45.2.2) := rfl
theorem tk45 : eMok tCl lw_g tNs tMs tYs tM45 tY45 := kM_ok (q := (tWs[45]?).getD (0, 0, 0, 0)) (show ∀ ch ∈ tC45, _ from List.forall_mem_cons.mpr ⟨tc45_0, fun _ h => absurd h List.not_mem_nil⟩) tw45 tm45
theorem tc46_0 : tC46_0.all (kEn tY46.1 tY46.2.1) = true := by decide +kernel
theorem tm46 : kM tM46 tY46 ((tWs[46]?).getD (0, 0, 0, 0)) = true := by decide +kernel
set_option maxRecDepth 20000 in
theorem tw46 : kW ((tWs[46]?).getD (0, 0, 0, 0)).1 = some (.code tY46.1 tY46.2.1 tM46.2.1 tY46.2.2) := rfl
theorem tk46 : eMok tCl lw_g tNs tMs tYs tM46 tY46 := kM_ok (q := (tWs[46]?).getD (0, 0, 0, 0)) (show ∀ ch ∈ tC46, _ from List.forall_mem_cons.mpr ⟨tc46_0, fun _ h => absurd h List.not_mem_nil⟩) tw46 tm46
theorem tc47_0 : tC47_0.all (kEn tY47.1 tY47.2.1) = true := by decide +kernel
theorem tm47 : kM tM47 tY47 ((tWs[47]?).getD (0, 0, 0, 0)) = true := by decide +kernel
set_option maxRecDepth 20000 in
theorem tw47 : kW ((tWs[47]?).getD (0, 0, 0, 0)).1 = some (.code tY47.1 tY47.2.1 tM47.2.1 tY47.2.2) := rfl
theorem tk47 : eMok tCl lw_g tNs tMs tYs tM47 tY47 := kM_ok (q := (tWs[47]?).getD (0, 0, 0, 0)) (show ∀ ch ∈ tC47, _ from List.forall_mem_cons.mpr ⟨tc47_0, fun _ h => absurd h List.not_mem_nil⟩) tw47 tm47
theorem tc48_0 : tC48_0.all (kEn tY48.1 tY48.2.1) = true := by decide +kernel
theorem tc48_1 : tC48_1.all (kEn tY48.1 tY48.2.1) = true := by decide +kernel
theorem tm48 : kM tM48 tY48 ((tWs[48]?).getD (0, 0, 0, 0)) = true := by decide +kernel
set_option maxRecDepth 20000 in
theorem tw48 : kW ((tWs[48]?).getD (0, 0, 0, 0)).1 = some (.code tY48.1 tY48.2.1 tM48.2.1 tY48.2.2) := rfl
theorem tk48 : eMok tCl lw_g tNs tMs tYs tM48 tY48 := kM_ok (q := (tWs[48]?).getD (0, 0, 0, 0)) (show ∀ ch ∈ tC48, _ from List.forall_mem_cons.mpr ⟨tc48_0, List.forall_mem_cons.mpr ⟨tc48_1, fun _ h => absurd h List.not_mem_nil⟩⟩) tw48 tm48
theorem tc49_0 : tC49_0.all (kEn tY49.1 tY49.2.1) = true := by decide +kernel
theorem tc49_1 : tC49_1.all (kEn tY49.1 tY49.2.1) = true := by decide +kernel
theorem tm49 : kM tM49 tY49 ((tWs[49]?).getD (0, 0, 0, 0)) = true := by decide +kernel
set_option maxRecDepth 20000 in
theorem tw49 : kW ((tWs[49]?).getD (0, 0, 0, 0)).1 = some (.code tY49.1 tY49.2.1 tM49.2.1 tY49.2.2) := rfl
theorem tk49 : eMok tCl lw_g tNs tMs tYs tM49 tY49 := kM_ok (q := (tWs[49]?).getD (0, 0, 0, 0)) (show ∀ ch ∈ tC49, _ from List.forall_mem_cons.mpr ⟨tc49_0, List.forall_mem_cons.mpr ⟨tc49_1, fun _ h => absurd h List.not_mem_nil⟩⟩) tw49 tm49
theorem tc50_0 : tC50_0.all (kEn tY50.1 tY50.2.1) = true := by decide +kernel
theorem tc50_1 : tC50_1.all (kEn tY50.1 tY50.2.1) = true := by decide +kernel
theorem tc50_2 : tC50_2.all (kEn tY50.1 tY50.2.1) = true := by decide +kernel
theorem tc50_3 : tC50_3.all (kEn tY50.1 tY50.2.1) = true := by decide +kernel
theorem tm50 : kM tM50 tY50 ((tWs[50]?).getD (0, 0, 0, 0)) = true := by decide +kernel
set_option maxRecDepth 20000 in
theorem tw50 : kW ((tWs[50]?).getD (0, 0, 0, 0)).1 = some (.code tY50.1 tY50.2.1 tM50.2.1 tY50.2.2) := rfl
theorem tk50 : eMok tCl lw_g tNs tMs tYs tM50 tY50 := kM_ok (q := (tWs[50]?).getD (0, 0, 0, 0)) (show ∀ ch ∈ tC50, _ from List.forall_mem_cons.mpr ⟨tc50_0, List.forall_mem_cons.mpr ⟨tc50_1, List.forall_mem_cons.mpr ⟨tc50_2, List.forall_mem_cons.mpr ⟨tc50_3, fun _ h => absurd h List.not_mem_nil⟩⟩⟩⟩) tw50 tm50
theorem tc51_0 : tC51_0.all (kEn tY51.1 tY51.2.1) = true := by decide +kernel
theorem tm51 : kM tM51 tY51 ((tWs[51]?).getD (0, 0, 0, 0)) = true := by decide +kernel
set_option maxRecDepth 20000 in
theorem tw51 : kW ((tWs[51]?).getD (0, 0, 0, 0)).1 = some (.code tY51.1 tY51.2.1 tM51.2.1 tY51.2.2) := rfl
theorem tk51 : eMok tCl lw_g tNs tMs tYs tM51 tY51 := kM_ok (q := (tWs[51]?).getD (0, 0, 0, 0)) (show ∀ ch ∈ tC51, _ from List.forall_mem_cons.mpr ⟨tc51_0, fun _ h => absurd h List.not_mem_nil⟩) tw51 tm51
theorem tc52_0 : tC52_0.all (kEn tY52.1 tY52.2.1) = true := by decide +kernel
theorem tc52_1 : tC52_1.all (kEn tY52.1 tY52.2.1) = true := by decide +kernel
theorem tc52_2 : tC52_2.all (kEn tY52.1 tY52.2.1) = true := by decide +kernel
theorem tc52_3 : tC52_3.all (kEn tY52.1 tY52.2.1) = true := by decide +kernel
theorem tm52 : kM tM52 tY52 ((tWs[52]?).getD (0, 0, 0, 0)) = true := by decide +kernel
set_option maxRecDepth 20000 in
theorem tw52 : kW ((tWs[52]?).getD (0, 0, 0, 0)).1 = some (.code tY52.1 tY52.2.1 tM52.2.1 tY52.2.2) := rfl
theorem tk52 : eMok tCl lw_g tNs tMs tYs tM52 tY52 := kM_ok (q := (tWs[52]?).getD (0, 0, 0, 0)) (show ∀ ch ∈ tC52, _ from List.forall_mem_cons.mpr ⟨tc52_0, List.forall_mem_cons.mpr ⟨tc52_1, List.forall_mem_cons.mpr ⟨tc52_2, List.forall_mem_cons.mpr ⟨tc52_3, fun _ h => absurd h List.not_mem_nil⟩⟩⟩⟩) tw52 tm52
theorem tc53_0 : tC53_0.all (kEn tY53.1 tY53.2.1) = true := by decide +kernel
theorem tc53_1 : tC53_1.all (kEn tY53.1 tY53.2.1) = true := by decide +kernel
theorem tm53 : kM tM53 tY53 ((tWs[53]?).getD (0, 0, 0, 0)) = true := by decide +kernel
set_option maxRecDepth 20000 in
theorem tw53 : kW ((tWs[53]?).getD (0, 0, 0, 0)).1 = some (.code tY53.1 tY53.2.1 tM53.2.1 tY53.2.2) := rfl
theorem tk53 : eMok tCl lw_g tNs tMs tYs tM53 tY53 := kM_ok (q := (tWs[53]?).getD (0, 0, 0, 0)) (show ∀ ch ∈ tC53, _ from List.forall_mem_cons.mpr ⟨tc53_0, List.forall_mem_cons.mpr ⟨tc53_1, fun _ h => absurd h List.not_mem_nil⟩⟩) tw53 tm53
theorem tc54_0 : tC54_0.all (kEn tY54.1 tY54.2.1) = true := by decide +kernel
theorem tm54 : kM tM54 tY54 ((tWs[54]?).getD (0, 0, 0, 0)) = true := by decide +kernel
set_option maxRecDepth 20000 in
theorem tw54 : kW ((tWs[54]?).getD (0, 0, 0, 0)).1 = some (.code tY54.1 tY54.2.1 tM54.2.1 tY54.2.2) := rfl
theorem tk54 : eMok tCl lw_g tNs tMs tYs tM54 tY54 := kM_ok (q := (tWs[54]?).getD (0, 0, 0, 0)) (show ∀ ch ∈ tC54, _ from List.forall_mem_cons.mpr ⟨tc54_0, fun _ h => absurd h List.not_mem_nil⟩) tw54 tm54
theorem tc55_0 : tC55_0.all (kEn tY55.1 tY55.2.1) = true := by decide +kernel
theorem tm55 : kM tM55 tY55 ((tWs[55]?).getD (0, 0, 0, 0)) = true := by decide +kernel
set_option maxRecDepth 20000 in
theorem tw55 : kW ((tWs[55]?).getD (0, 0, 0, 0)).1 = some (.code tY55.1 tY55.2.1 tM55.2.1 tY55.2.2) := rfl
theorem tk55 : eMok tCl lw_g tNs tMs tYs tM55 tY55 := kM_ok (q := (tWs[55]?).getD (0, 0, 0, 0)) (show ∀ ch ∈ tC55, _ from List.forall_mem_cons.mpr ⟨tc55_0, fun _ h => absurd h List.not_mem_nil⟩) tw55 tm55
theorem tc56_0 : tC56_0.all (kEn tY56.1 tY56.2.1) = true := by decide +kernel
theorem tm56 : kM tM56 tY56 ((tWs[56]?).getD (0, 0, 0, 0)) = true := by decide +kernel
set_option maxRecDepth 20000 in
theorem tw56 : kW ((tWs[56]?).getD (0, 0, 0, 0)).1 = some (.code tY56.1 tY56.2.1 tM56.2.1 tY56.2.2) := rfl
theorem tk56 : eMok tCl lw_g tNs tMs tYs tM56 tY56 := kM_ok (q := (tWs[56]?).getD (0, 0, 0, 0)) (show ∀ ch ∈ tC56, _ from List.forall_mem_cons.mpr ⟨tc56_0, fun _ h => absurd h List.not_mem_nil⟩) tw56 tm56
theorem tc57_0 : tC57_0.all (kEn tY57.1 tY57.2.1) = true := by decide +kernel
theorem tm57 : kM tM57 tY57 ((tWs[57]?).getD (0, 0, 0, 0)) = true := by decide +kernel
set_option maxRecDepth 20000 in
theorem tw57 : kW ((tWs[57]?).getD (0, 0, 0, 0)).1 = some (.code tY57.1 tY57.2.1 tM57.2.1 tY57.2.2) := rfl
theorem tk57 : eMok tCl lw_g tNs tMs tYs tM57 tY57 := kM_ok (q := (tWs[57]?).getD (0, 0, 0, 0)) (show ∀ ch ∈ tC57, _ from List.forall_mem_cons.mpr ⟨tc57_0, fun _ h => absurd h List.not_mem_nil⟩) tw57 tm57
theorem tc58_0 : tC58_0.all (kEn tY58.1 tY58.2.1) = true := by decide +kernel
theorem tc58_1 : tC58_1.all (kEn tY58.1 tY58.2.1) = true := by decide +kernel
theorem tc58_2 : tC58_2.all (kEn tY58.1 tY58.2.1) = true := by decide +kernel
theorem tm58 : kM tM58 tY58 ((tWs[58]?).getD (0, 0, 0, 0)) = true := by decide +kernel
set_option maxRecDepth 20000 in
theorem tw58 : kW ((tWs[58]?).getD (0, 0, 0, 0)).1 = some (.code tY58.1 tY58.2.1 tM58.2.1 tY58.2.2) := rfl
theorem tk58 : eMok tCl lw_g tNs tMs tYs tM58 tY58 := kM_ok (q := (tWs[58]?).getD (0, 0, 0, 0)) (show ∀ ch ∈ tC58, _ from List.forall_mem_cons.mpr ⟨tc58_0, List.forall_mem_cons.mpr ⟨tc58_1, List.forall_mem_cons.mpr ⟨tc58_2, fun _ h => absurd h List.not_mem_nil⟩⟩⟩) tw58 tm58
theorem tc59_0 : tC59_0.all (kEn tY59.1 tY59.2.1) = true := by decide +kernel
theorem tc59_1 : tC59_1.all (kEn tY59.1 tY59.2.1) = true := by decide +kernel
theorem tc59_2 : tC59_2.all (kEn tY59.1 tY59.2.1) = true := by decide +kernel
theorem tc59_3 : tC59_3.all (kEn tY59.1 tY59.2.1) = true := by decide +kernel
theorem tm59 : kM tM59 tY59 ((tWs[59]?).getD (0, 0, 0, 0)) = true := by decide +kernel
set_option maxRecDepth 20000 in
theorem tw59 : kW ((tWs[59]?).getD (0, 0, 0, 0)).1 = some (.code tY59.1 tY59.2.1 tM59.2.1 tY59.2.2) := rfl
theorem tk59 : eMok tCl lw_g tNs tMs tYs tM59 tY59 := kM_ok (q := (tWs[59]?).getD (0, 0, 0, 0)) (show ∀ ch ∈ tC59, _ from List.forall_mem_cons.mpr ⟨tc59_0, List.forall_mem_cons.mpr ⟨tc59_1, List.forall_mem_cons.mpr ⟨tc59_2, List.forall_mem_cons.mpr ⟨tc59_3, fun _ h => absurd h List.not_mem_nil⟩⟩⟩⟩) tw59 tm59
theorem tc60_0 : tC60_0.all (kEn tY60.1 tY60.2.1) = true := by decide +kernel
theorem tm60 : kM tM60 tY60 ((tWs[60]?).getD (0, 0, 0, 0)) = true := by decide +kernel
set_option maxRecDepth 20000 in
theorem tw60 : kW ((tWs[60]?).getD (0, 0, 0, 0)).1 = some (.code tY60.1 tY60.2.1 tM60.2.1 tY60.2.2) := rfl
theorem tk60 : eMok tCl lw_g tNs tMs tYs tM60 tY60 := kM_ok (q := (tWs[60]?).getD (0, 0, 0, 0)) (show ∀ ch ∈ tC60, _ from List.forall_mem_cons.mpr ⟨tc60_0, fun _ h => absurd h List.not_mem_nil⟩) tw60 tm60
theorem tc61_0 : tC61_0.all (kEn tY61.1 tY61.2.1) = true := by decide +kernel
theorem tc61_1 : tC61_1.all (kEn tY61.1 tY61.2.1) = true := by decide +kernel
theorem tc61_2 : tC61_2.all (kEn tY61.1 tY61.2.1) = true := by decide +kernel
theorem tm61 : kM tM61 tY61 ((tWs[61]?).getD (0, 0, 0, 0)) = true := by decide +kernel
set_option maxRecDepth 20000 in
theorem tw61 : kW ((tWs[61]?).getD (0, 0, 0, 0)).1 = some (.code tY61.1 tY61.2.1 tM61.2.1 tY61.2.2) := rfl
theorem tk61 : eMok tCl lw_g tNs tMs tYs tM61 tY61 := kM_ok (q := (tWs[61]?).getD (0, 0, 0, 0)) (show ∀ ch ∈ tC61, _ from List.forall_mem_cons.mpr ⟨tc61_0, List.forall_mem_cons.mpr ⟨tc61_1, List.forall_mem_cons.mpr ⟨tc61_2, fun _ h => absurd h List.not_mem_nil⟩⟩⟩) tw61 tm61
theorem tc62_0 : tC62_0.all (kEn tY62.1 tY62.2.1) = true := by decide +kernel
theorem tm62 : kM tM62 tY62 ((tWs[62]?).getD (0, 0, 0, 0)) = true := by decide +kernel
set_option maxRecDepth 20000 in
theorem tw62 : kW ((tWs[62]?).getD (0, 0, 0, 0)).1 = some (.code tY62.1 tY62.2.1 tM62.2.1 tY62.2.2) := rfl
theorem tk62 : eMok tCl lw_g tNs tMs tYs tM62 tY62 := kM_ok (q := (tWs[62]?).getD (0, 0, 0, 0)) (show ∀ ch ∈ tC62, _ from List.forall_mem_cons.mpr ⟨tc62_0, fun _ h => absurd h List.not_mem_nil⟩) tw62 tm62
theorem tc63_0 : tC63_0.all (kEn tY63.1 tY63.2.1) = true := by decide +kernel
theorem tc63_1 : tC63_1.all (kEn tY63.1 tY63.2.1) = true := by decide +kernel
theorem tc63_2 : tC63_2.all (kEn tY63.1 tY63.2.1) = true := by decide +kernel
theorem tm63 : kM tM63 tY63 ((tWs[63]?).getD (0, 0, 0, 0)) = true := by decide +kernel
set_option maxRecDepth 20000 in
theorem tw63 : kW ((tWs[63]?).getD (0, 0, 0, 0)).1 = some (.code tY63.1 tY63.2.1 tM63.2.1 tY63.2.2) := rfl
theorem tk63 : eMok tCl lw_g tNs tMs tYs tM63 tY63 := kM_ok (q := (tWs[63]?).getD (0, 0, 0, 0)) (show ∀ ch ∈ tC63, _ from List.forall_mem_cons.mpr ⟨tc63_0, List.forall_mem_cons.mpr ⟨tc63_1, List.forall_mem_cons.mpr ⟨tc63_2, fun _ h => absurd h List.not_mem_nil⟩⟩⟩) tw63 tm63
theorem tc64_0 : tC64_0.all (kEn tY64.1 tY64.2.1) = true := by decide +kernel
theorem tm64 : kM tM64 tY64 ((tWs[64]?).getD (0, 0, 0, 0)) = true := by decide +kernel
set_option maxRecDepth 20000 in
theorem tw64 : kW ((tWs[64]?).getD (0, 0, 0, 0)).1 = some (.code tY64.1 tY64.2.1 tM64.2.1 tY64.2.2) := rfl
theorem tk64 : eMok tCl lw_g tNs tMs tYs tM64 tY64 := kM_ok (q := (tWs[64]?).getD (0, 0, 0, 0)) (show ∀ ch ∈ tC64, _ from List.forall_mem_cons.mpr ⟨tc64_0, fun _ h => absurd h List.not_mem_nil⟩) tw64 tm64
theorem tc65_0 : tC65_0.all (kEn tY65.1 tY65.2.1) = true := by decide +kernel
theorem tm65 : kM tM65 tY65 ((tWs[65]?).getD (0, 0, 0, 0)) = true := by decide +kernel
set_option maxRecDepth 20000 in
theorem tw65 : kW ((tWs[65]?).getD (0, 0, 0, 0)).1 = some (.code tY65.1 tY65.2.1 tM65.2.1 tY65.2.2) := rfl
theorem tk65 : eMok tCl lw_g tNs tMs tYs tM65 tY65 := kM_ok (q := (tWs[65]?).getD (0, 0, 0, 0)) (show ∀ ch ∈ tC65, _ from List.forall_mem_cons.mpr ⟨tc65_0, fun _ h => absurd h List.not_mem_nil⟩) tw65 tm65
theorem tc66_0 : tC66_0.all (kEn tY66.1 tY66.2.1) = true := by decide +kernel
theorem tc66_1 : tC66_1.all (kEn tY66.1 tY66.2.1) = true := by decide +kernel
theorem tc66_2 : tC66_2.all (kEn tY66.1 tY66.2.1) = true := by decide +kernel
theorem tc66_3 : tC66_3.all (kEn tY66.1 tY66.2.1) = true := by decide +kernel
theorem tm66 : kM tM66 tY66 ((tWs[66]?).getD (0, 0, 0, 0)) = true := by decide +kernel
set_option maxRecDepth 20000 in
theorem tw66 : kW ((tWs[66]?).getD (0, 0, 0, 0)).1 = some (.code tY66.1 tY66.2.1 tM66.2.1 tY66.2.2) := rfl
theorem tk66 : eMok tCl lw_g tNs tMs tYs tM66 tY66 := kM_ok (q := (tWs[66]?).getD (0, 0, 0, 0)) (show ∀ ch ∈ tC66, _ from List.forall_mem_cons.mpr ⟨tc66_0, List.forall_mem_cons.mpr ⟨tc66_1, List.forall_mem_cons.mpr ⟨tc66_2, List.forall_mem_cons.mpr ⟨tc66_3, fun _ h => absurd h List.not_mem_nil⟩⟩⟩⟩) tw66 tm66
theorem tc67_0 : tC67_0.all (kEn tY67.1 tY67.2.1) = true := by decide +kernel
theorem tc67_1 : tC67_1.all (kEn tY67.1 tY67.2.1) = true := by decide +kernel
theorem tm67 : kM tM67 tY67 ((tWs[67]?).getD (0, 0, 0, 0)) = true := by decide +kernel
set_option maxRecDepth 20000 in
theorem tw67 : kW ((tWs[67]?).getD (0, 0, 0, 0)).1 = some (.code tY67.1 tY67.2.1 tM67.2.1 tY67.2.2) := rfl
theorem tk67 : eMok tCl lw_g tNs tMs tYs tM67 tY67 := kM_ok (q := (tWs[67]?).getD (0, 0, 0, 0)) (show ∀ ch ∈ tC67, _ from List.forall_mem_cons.mpr ⟨tc67_0, List.forall_mem_cons.mpr ⟨tc67_1, fun _ h => absurd h List.not_mem_nil⟩⟩) tw67 tm67
theorem tc68_0 : tC68_0.all (kEn tY68.1 tY68.2.1) = true := by decide +kernel
theorem tc68_1 : tC68_1.all (kEn tY68.1 tY68.2.1) = true := by decide +kernel
theorem tc68_2 : tC68_2.all (kEn tY68.1 tY68.2.1) = true := by decide +kernel
theorem tc68_3 : tC68_3.all (kEn tY68.1 tY68.2.1) = true := by decide +kernel
theorem tc68_4 : tC68_4.all (kEn tY68.1 tY68.2.1) = true := by decide +kernel
theorem tm68 : kM tM68 tY68 ((tWs[68]?).getD (0, 0, 0, 0)) = true := by decide +kernel
set_option maxRecDepth 20000 in
theorem tw68 : kW ((tWs[68]?).getD (0, 0, 0, 0)).1 = some (.code tY68.1 tY68.2.1 tM68.2.1 tY68.2.2) := rfl
theorem tk68 : eMok tCl lw_g tNs tMs tYs tM68 tY68 := kM_ok (q := (tWs[68]?).getD (0, 0, 0, 0)) (show ∀ ch ∈ tC68, _ from List.forall_mem_cons.mpr ⟨tc68_0, List.forall_mem_cons.mpr ⟨tc68_1, List.forall_mem_cons.mpr ⟨tc68_2, List.forall_mem_cons.mpr ⟨tc68_3, List.forall_mem_cons.mpr ⟨tc68_4, fun _ h => absurd h List.not_mem_nil⟩⟩⟩⟩⟩) tw68 tm68
theorem tc69_0 : tC69_0.all (kEn tY69.1 tY69.2.1) = true := by decide +kernel
theorem tc69_1 : tC69_1.all (kEn tY69.1 tY69.2.1) = true := by decide +kernel
theorem tm69 : kM tM69 tY69 ((tWs[69]?).getD (0, 0, 0, 0)) = true := by decide +kernel
set_option maxRecDepth 20000 in
theorem tw69 : kW ((tWs[69]?).getD (0, 0, 0, 0)).1 = some (.code tY69.1 tY69.2.1 tM69.2.1 tY69.2.2) := rfl
theorem tk69 : eMok tCl lw_g tNs tMs tYs tM69 tY69 := kM_ok (q := (tWs[69]?).getD (0, 0, 0, 0)) (show ∀ ch ∈ tC69, _ from List.forall_mem_cons.mpr ⟨tc69_0, List.forall_mem_cons.mpr ⟨tc69_1, fun _ h => absurd h List.not_mem_nil⟩⟩) tw69 tm69
theorem tc70_0 : tC70_0.all (kEn tY70.1 tY70.2.1) = true := by decide +kernel
theorem tm70 : kM tM70 tY70 ((tWs[70]?).getD (0, 0, 0, 0)) = true := by decide +kernel
set_option maxRecDepth 20000 in
theorem tw70 : kW ((tWs[70]?).getD (0, 0, 0, 0)).1 = some (.code tY70.1 tY70.2.1 tM70.2.1 tY70.2.2) := rfl
theorem tk70 : eMok tCl lw_g tNs tMs tYs tM70 tY70 := kM_ok (q := (tWs[70]?).getD (0, 0, 0, 0)) (show ∀ ch ∈ tC70, _ from List.forall_mem_cons.mpr ⟨tc70_0, fun _ h => absurd h List.not_mem_nil⟩) tw70 tm70
theorem tc71_0 : tC71_0.all (kEn tY71.1 tY71.2.1) = true := by decide +kernel
theorem tc71_1 : tC71_1.all (kEn tY71.1 tY71.2.1) = true := by decide +kernel
theorem tc71_2 : tC71_2.all (kEn tY71.1 tY71.2.1) = true := by decide +kernel
theorem tc71_3 : tC71_3.all (kEn tY71.1 tY71.2.1) = true := by decide +kernel
theorem tc71_4 : tC71_4.all (kEn tY71.1 tY71.2.1) = true := by decide +kernel
theorem tc71_5 : tC71_5.all (kEn tY71.1 tY71.2.1) = true := by decide +kernel
theorem tc71_6 : tC71_6.all (kEn tY71.1 tY71.2.1) = true := by decide +kernel
theorem tc71_7 : tC71_7.all (kEn tY71.1 tY71.2.1) = true := by decide +kernel
theorem tc71_8 : tC71_8.all (kEn tY71.1 tY71.2.1) = true := by decide +kernel
theorem tc71_9 : tC71_9.all (kEn tY71.1 tY71.2.1) = true := by decide +kernel
theorem tm71 : kM tM71 tY71 ((tWs[71]?).getD (0, 0, 0, 0)) = true := by decide +kernel
set_option maxRecDepth 20000 in
theorem tw71 : kW ((tWs[71]?).getD (0, 0, 0, 0)).1 = some (.code tY71.1 tY71.2.1 tM71.2.1 tY71.2.2) := rfl
theorem tk71 : eMok tCl lw_g tNs tMs tYs tM71 tY71 := kM_ok (q := (tWs[71]?).getD (0, 0, 0, 0)) (show ∀ ch ∈ tC71, _ from List.forall_mem_cons.mpr ⟨tc71_0, List.forall_mem_cons.mpr ⟨tc71_1, List.forall_mem_cons.mpr ⟨tc71_2, List.forall_mem_cons.mpr ⟨tc71_3, List.forall_mem_cons.mpr ⟨tc71_4, List.forall_mem_cons.mpr ⟨tc71_5, List.forall_mem_cons.mpr ⟨tc71_6, List.forall_mem_cons.mpr ⟨tc71_7, List.forall_mem_cons.mpr ⟨tc71_8, List.forall_mem_cons.mpr ⟨tc71_9, fun _ h => absurd h List.not_mem_nil⟩⟩⟩⟩⟩⟩⟩⟩⟩⟩) tw71 tm71
theorem tc72_0 : tC72_0.all (kEn tY72.1 tY72.2.1) = true := by decide +kernel
theorem tc72_1 : tC72_1.all (kEn tY72.1 tY72.2.1) = true := by decide +kernel
theorem tm72 : kM tM72 tY72 ((tWs[72]?).getD (0, 0, 0, 0)) = true := by decide +kernel
set_option maxRecDepth 20000 in
theorem tw72 : kW ((tWs[72]?).getD (0, 0, 0, 0)).1 = some (.code tY72.1 tY72.2.1 tM72.2.1 tY72.2.2) := rfl
theorem tk72 : eMok tCl lw_g tNs tMs tYs tM72 tY72 := kM_ok (q := (tWs[72]?).getD (0, 0, 0, 0)) (show ∀ ch ∈ tC72, _ from List.forall_mem_cons.mpr ⟨tc72_0, List.forall_mem_cons.mpr ⟨tc72_1, fun _ h => absurd h List.not_mem_nil⟩⟩) tw72 tm72
theorem tc73_0 : tC73_0.all (kEn tY73.1 tY73.2.1) = true := by decide +kernel
theorem tm73 : kM tM73 tY73 ((tWs[73]?).getD (0, 0, 0, 0)) = true := by decide +kernel
set_option maxRecDepth 20000 in
theorem tw73 : kW ((tWs[73]?).getD (0, 0, 0, 0)).1 = some (.code tY73.1 tY73.2.1 tM73.2.1 tY73.2.2) := rfl
theorem tk73 : eMok tCl lw_g tNs tMs tYs tM73 tY73 := kM_ok (q := (tWs[73]?).getD (0, 0, 0, 0)) (show ∀ ch ∈ tC73, _ from List.forall_mem_cons.mpr ⟨tc73_0, fun _ h => absurd h List.not_mem_nil⟩) tw73 tm73
theorem tc74_0 : tC74_0.all (kEn tY74.1 tY74.2.1) = true := by decide +kernel
theorem tm74 : kM tM74 tY74 ((tWs[74]?).getD (0, 0, 0, 0)) = true := by decide +kernel
set_option maxRecDepth 20000 in
theorem tw74 : kW ((tWs[74]?).getD (0, 0, 0, 0)).1 = some (.code tY74.1 tY74.2.1 tM74.2.1 tY74.2.2) := rfl
theorem tk74 : eMok tCl lw_g tNs tMs tYs tM74 tY74 := kM_ok (q := (tWs[74]?).getD (0, 0, 0, 0)) (show ∀ ch ∈ tC74, _ from List.forall_mem_cons.mpr ⟨tc74_0, fun _ h => absurd h List.not_mem_nil⟩) tw74 tm74
theorem tc75_0 : tC75_0.all (kEn tY75.1 tY75.2.1) = true := by decide +kernel
theorem tm75 : kM tM75 tY75 ((tWs[75]?).getD (0, 0, 0, 0)) = true := by decide +kernel
set_option maxRecDepth 20000 in
theorem tw75 : kW ((tWs[75]?).getD (0, 0, 0, 0)).1 = some (.code tY75.1 tY75.2.1 tM75.2.1 tY75.2.2) := rfl
theorem tk75 : eMok tCl lw_g tNs tMs tYs tM75 tY75 := kM_ok (q := (tWs[75]?).getD (0, 0, 0, 0)) (show ∀ ch ∈ tC75, _ from List.forall_mem_cons.mpr ⟨tc75_0, fun _ h => absurd h List.not_mem_nil⟩) tw75 tm75
theorem tc76_0 : tC76_0.all (kEn tY76.1 tY76.2.1) = true := by decide +kernel
theorem tc76_1 : tC76_1.all (kEn tY76.1 tY76.2.1) = true := by decide +kernel
theorem tc76_2 : tC76_2.all (kEn tY76.1 tY76.2.1) = true := by decide +kernel
theorem tc76_3 : tC76_3.all (kEn tY76.1 tY76.2.1) = true := by decide +kernel
theorem tm76 : kM tM76 tY76 ((tWs[76]?).getD (0, 0, 0, 0)) = true := by decide +kernel
set_option maxRecDepth 20000 in
theorem tw76 : kW ((tWs[76]?).getD (0, 0, 0, 0)).1 = some (.code tY76.1 tY76.2.1 tM76.2.1 tY76.2.2) := rfl
theorem tk76 : eMok tCl lw_g tNs tMs tYs tM76 tY76 := kM_ok (q := (tWs[76]?).getD (0, 0, 0, 0)) (show ∀ ch ∈ tC76, _ from List.forall_mem_cons.mpr ⟨tc76_0, List.forall_mem_cons.mpr ⟨tc76_1, List.forall_mem_cons.mpr ⟨tc76_2, List.forall_mem_cons.mpr ⟨tc76_3, fun _ h => absurd h List.not_mem_nil⟩⟩⟩⟩) tw76 tm76
theorem tc77_0 : tC77_0.all (kEn tY77.1 tY77.2.1) = true := by decide +kernel
theorem tc77_1 : tC77_1.all (kEn tY77.1 tY77.2.1) = true := by decide +kernel
theorem tc77_2 : tC77_2.all (kEn tY77.1 tY77.2.1) = true := by decide +kernel
theorem tc77_3 : tC77_3.all (kEn tY77.1 tY77.2.1) = true := by decide +kernel
theorem tc77_4 : tC77_4.all (kEn tY77.1 tY77.2.1) = true := by decide +kernel
theorem tm77 : kM tM77 tY77 ((tWs[77]?).getD (0, 0, 0, 0)) = true := by decide +kernel
set_option maxRecDepth 20000 in
theorem tw77 : kW ((tWs[77]?).getD (0, 0, 0, 0)).1 = some (.code tY77.1 tY77.2.1 tM77.2.1 tY77.2.2) := rfl
theorem tk77 : eMok tCl lw_g tNs tMs tYs tM77 tY77 := kM_ok (q := (tWs[77]?).getD (0, 0, 0, 0)) (show ∀ ch ∈ tC77, _ from List.forall_mem_cons.mpr ⟨tc77_0, List.forall_mem_cons.mpr ⟨tc77_1, List.forall_mem_cons.mpr ⟨tc77_2, List.forall_mem_cons.mpr ⟨tc77_3, List.forall_mem_cons.mpr ⟨tc77_4, fun _ h => absurd h List.not_mem_nil⟩⟩⟩⟩⟩) tw77 tm77
theorem tc78_0 : tC78_0.all (kEn tY78.1 tY78.2.1) = true := by decide +kernel
theorem tc78_1 : tC78_1.all (kEn tY78.1 tY78.2.1) = true := by decide +kernel
theorem tc78_2 : tC78_2.all (kEn tY78.1 tY78.2.1) = true := by decide +kernel
theorem tc78_3 : tC78_3.all (kEn tY78.1 tY78.2.1) = true := by decide +kernel
theorem tm78 : kM tM78 tY78 ((tWs[78]?).getD (0, 0, 0, 0)) = true := by decide +kernel
set_option maxRecDepth 20000 in
theorem tw78 : kW ((tWs[78]?).getD (0, 0, 0, 0)).1 = some (.code tY78.1 tY78.2.1 tM78.2.1 tY78.2.2) := rfl
theorem tk78 : eMok tCl lw_g tNs tMs tYs tM78 tY78 := kM_ok (q := (tWs[78]?).getD (0, 0, 0, 0)) (show ∀ ch ∈ tC78, _ from List.forall_mem_cons.mpr ⟨tc78_0, List.forall_mem_cons.mpr ⟨tc78_1, List.forall_mem_cons.mpr ⟨tc78_2, List.forall_mem_cons.mpr ⟨tc78_3, fun _ h => absurd h List.not_mem_nil⟩⟩⟩⟩) tw78 tm78
end
section
theorem tc79_0 : tC79_0.all (kEn tY79.1 tY79.2.1) = true := by decide +kernel
theorem tm79 : kM tM79 tY79 ((tWs[79]?).getD (0, 0, 0, 0)) = true := by decide +kernel
set_option maxRecDepth 20000 in
theorem tw79 : kW ((tWs[79]?).getD (0, 0, 0, 0)).1 = some (.code tY79.1 tY79.2.1 tM79.2.1 tY79.2.2) := rfl
theorem tk79 : eMok tCl lw_g tNs tMs tYs tM79 tY79 := kM_ok (q := (tWs[79]?).getD (0, 0, 0, 0)) (show ∀ ch ∈ tC79, _ from List.forall_mem_cons.mpr ⟨tc79_0, fun _ h => absurd h List.not_mem_nil⟩) tw79 tm79
theorem tc80_0 : tC80_0.all (kEn tY80.1 tY80.2.1) = true := by decide +kernel
theorem tm80 : kM tM80 tY80 ((tWs[80]?).getD (0, 0, 0, 0)) = true := by decide +kernel
set_option maxRecDepth 20000 in
theorem tw80 : kW ((tWs[80]?).getD (0, 0, 0, 0)).1 = some (.code tY80.1 tY80.2.1 tM80.2.1 tY80.2.2) := rfl
theorem tk80 : eMok tCl lw_g tNs tMs tYs tM80 tY80 := kM_ok (q := (tWs[80]?).getD (0, 0, 0, 0)) (show ∀ ch ∈ tC80, _ from List.forall_mem_cons.mpr ⟨tc80_0, fun _ h => absurd h List.not_mem_nil⟩) tw80 tm80
theorem tc81_0 : tC81_0.all (kEn tY81.1 tY81.2.1) = true := by decide +kernel
theorem tm81 : kM tM81 tY81 ((tWs[81]?).getD (0, 0, 0, 0)) = true := by decide +kernel
set_option maxRecDepth 20000 in
theorem tw81 : kW ((tWs[81]?).getD (0, 0, 0, 0)).1 = some (.code tY81.1 tY81.2.1 tM81.2.1 tY81.2.2) := rfl
theorem tk81 : eMok tCl lw_g tNs tMs tYs tM81 tY81 := kM_ok (q := (tWs[81]?).getD (0, 0, 0, 0)) (show ∀ ch ∈ tC81, _ from List.forall_mem_cons.mpr ⟨tc81_0, fun _ h => absurd h List.not_mem_nil⟩) tw81 tm81
theorem tc82_0 : tC82_0.all (kEn tY82.1 tY82.2.1) = true := by decide +kernel
theorem tm82 : kM tM82 tY82 ((tWs[82]?).getD (0, 0, 0, 0)) = true := by decide +kernel
set_option maxRecDepth 20000 in
theorem tw82 : kW ((tWs[82]?).getD (0, 0, 0, 0)).1 = some (.code tY82.1 tY82.2.1 tM82.2.1 tY82.2.2) := rfl
theorem tk82 : eMok tCl lw_g tNs tMs tYs tM82 tY82 := kM_ok (q := (tWs[82]?).getD (0, 0, 0, 0)) (show ∀ ch ∈ tC82, _ from List.forall_mem_cons.mpr ⟨tc82_0, fun _ h => absurd h List.not_mem_nil⟩) tw82 tm82
theorem tc83_0 : tC83_0.all (kEn tY83.1 tY83.2.1) = true := by decide +kernel
theorem tm83 : kM tM83 tY83 ((tWs[83]?).getD (0, 0, 0, 0)) = true := by decide +kernel
set_option maxRecDepth 20000 in
theorem tw83 : kW ((tWs[83]?).getD (0, 0, 0, 0)).1 = some (.code tY83.1 tY83.2.1 tM83.2.1 tY83.2.2) := rfl
theorem tk83 : eMok tCl lw_g tNs tMs tYs tM83 tY83 := kM_ok (q := (tWs[83]?).getD (0, 0, 0, 0)) (show ∀ ch ∈ tC83, _ from List.forall_mem_cons.mpr ⟨tc83_0, fun _ h => absurd h List.not_mem_nil⟩) tw83 tm83
theorem tc84_0 : tC84_0.all (kEn tY84.1 tY84.2.1) = true := by decide +kernel
theorem tc84_1 : tC84_1.all (kEn tY84.1 tY84.2.1) = true := by decide +kernel
theorem tm84 : kM tM84 tY84 ((tWs[84]?).getD (0, 0, 0, 0)) = true := by decide +kernel
set_option maxRecDepth 20000 in
theorem tw84 : kW ((tWs[84]?).getD (0, 0, 0, 0)).1 = some (.code tY84.1 tY84.2.1 tM84.2.1 tY84.2.2) := rfl
theorem tk84 : eMok tCl lw_g tNs tMs tYs tM84 tY84 := kM_ok (q := (tWs[84]?).getD (0, 0, 0, 0)) (show ∀ ch ∈ tC84, _ from List.forall_mem_cons.mpr ⟨tc84_0, List.forall_mem_cons.mpr ⟨tc84_1, fun _ h => absurd h List.not_mem_nil⟩⟩) tw84 tm84
theorem tc85_0 : tC85_0.all (kEn tY85.1 tY85.2.1) = true := by decide +kernel
theorem tc85_1 : tC85_1.all (kEn tY85.1 tY85.2.1) = true := by decide +kernel
theorem tc85_2 : tC85_2.all (kEn tY85.1 tY85.2.1) = true := by decide +kernel
theorem tm85 : kM tM85 tY85 ((tWs[85]?).getD (0, 0, 0, 0)) = true := by decide +kernel
set_option maxRecDepth 20000 in
theorem tw85 : kW ((tWs[85]?).getD (0, 0, 0, 0)).1 = some (.code tY85.1 tY85.2.1 tM85.2.1 tY85.2.2) := rfl
theorem tk85 : eMok tCl lw_g tNs tMs tYs tM85 tY85 := kM_ok (q := (tWs[85]?).getD (0, 0, 0, 0)) (show ∀ ch ∈ tC85, _ from List.forall_mem_cons.mpr ⟨tc85_0, List.forall_mem_cons.mpr ⟨tc85_1, List.forall_mem_cons.mpr ⟨tc85_2, fun _ h => absurd h List.not_mem_nil⟩⟩⟩) tw85 tm85
theorem tc86_0 : tC86_0.all (kEn tY86.1 tY86.2.1) = true := by decide +kernel
theorem tc86_1 : tC86_1.all (kEn tY86.1 tY86.2.1) = true := by decide +kernel
theorem tc86_2 : tC86_2.all (kEn tY86.1 tY86.2.1) = true := by decide +kernel
theorem tc86_3 : tC86_3.all (kEn tY86.1 tY86.2.1) = true := by decide +kernel
theorem tm86 : kM tM86 tY86 ((tWs[86]?).getD (0, 0, 0, 0)) = true := by decide +kernel
set_option maxRecDepth 20000 in
theorem tw86 : kW ((tWs[86]?).getD (0, 0, 0, 0)).1 = some (.code tY86.1 tY86.2.1 tM86.2.1 tY86.2.2) := rfl
theorem tk86 : eMok tCl lw_g tNs tMs tYs tM86 tY86 := kM_ok (q := (tWs[86]?).getD (0, 0, 0, 0)) (show ∀ ch ∈ tC86, _ from List.forall_mem_cons.mpr ⟨tc86_0, List.forall_mem_cons.mpr ⟨tc86_1, List.forall_mem_cons.mpr ⟨tc86_2, List.forall_mem_cons.mpr ⟨tc86_3, fun _ h => absurd h List.not_mem_nil⟩⟩⟩⟩) tw86 tm86
theorem tc87_0 : tC87_0.all (kEn tY87.1 tY87.2.1) = true := by decide +kernel
theorem tc87_1 : tC87_1.all (kEn tY87.1 tY87.2.1) = true := by decide +kernel
theorem tm87 : kM tM87 tY87 ((tWs[87]?).getD (0, 0, 0, 0)) = true := by decide +kernel
set_option maxRecDepth 20000 in
theorem tw87 : kW ((tWs[87]?).getD (0, 0, 0, 0)).1 = some (.code tY87.1 tY87.2.1 tM87.2.1 tY87.2.2) := rfl
theorem tk87 : eMok tCl lw_g tNs tMs tYs tM87 tY87 := kM_ok (q := (tWs[87]?).getD (0, 0, 0, 0)) (show ∀ ch ∈ tC87, _ from List.forall_mem_cons.mpr ⟨tc87_0, List.forall_mem_cons.mpr ⟨tc87_1, fun _ h => absurd h List.not_mem_nil⟩⟩) tw87 tm87
theorem tc88_0 : tC88_0.all (kEn tY88.1 tY88.2.1) = true := by decide +kernel
theorem tm88 : kM tM88 tY88 ((tWs[88]?).getD (0, 0, 0, 0)) = true := by decide +kernel
set_option maxRecDepth 20000 in
theorem tw88 : kW ((tWs[88]?).getD (0, 0, 0, 0)).1 = some (.code tY88.1 tY88.2.1 tM88.2.1 tY88.2.2) := rfl
theorem tk88 : eMok tCl lw_g tNs tMs tYs tM88 tY88 := kM_ok (q := (tWs[88]?).getD (0, 0, 0, 0)) (show ∀ ch ∈ tC88, _ from List.forall_mem_cons.mpr ⟨tc88_0, fun _ h => absurd h List.not_mem_nil⟩) tw88 tm88
theorem tc89_0 : tC89_0.all (kEn tY89.1 tY89.2.1) = true := by decide +kernel
theorem tc89_1 : tC89_1.all (kEn tY89.1 tY89.2.1) = true := by decide +kernel
theorem tm89 : kM tM89 tY89 ((tWs[89]?).getD (0, 0, 0, 0)) = true := by decide +kernel
set_option maxRecDepth 20000 in
theorem tw89 : kW ((tWs[89]?).getD (0, 0, 0, 0)).1 = some (.code tY89.1 tY89.2.1 tM89.2.1 tY89.2.2) := rfl
theorem tk89 : eMok tCl lw_g tNs tMs tYs tM89 tY89 := kM_ok (q := (tWs[89]?).getD (0, 0, 0, 0)) (show ∀ ch ∈ tC89, _ from List.forall_mem_cons.mpr ⟨tc89_0, List.forall_mem_cons.mpr ⟨tc89_1, fun _ h => absurd h List.not_mem_nil⟩⟩) tw89 tm89
theorem tc90_0 : tC90_0.all (kEn tY90.1 tY90.2.1) = true := by decide +kernel
theorem tc90_1 : tC90_1.all (kEn tY90.1 tY90.2.1) = true := by decide +kernel
theorem tc90_2 : tC90_2.all (kEn tY90.1 tY90.2.1) = true := by decide +kernel
theorem tc90_3 : tC90_3.all (kEn tY90.1 tY90.2.1) = true := by decide +kernel
theorem tm90 : kM tM90 tY90 ((tWs[90]?).getD (0, 0, 0, 0)) = true := by decide +kernel
set_option maxRecDepth 20000 in
theorem tw90 : kW ((tWs[90]?).getD (0, 0, 0, 0)).1 = some (.code tY90.1 tY90.2.1 tM90.2.1 tY90.2.2) := rfl
theorem tk90 : eMok tCl lw_g tNs tMs tYs tM90 tY90 := kM_ok (q := (tWs[90]?).getD (0, 0, 0, 0)) (show ∀ ch ∈ tC90, _ from List.forall_mem_cons.mpr ⟨tc90_0, List.forall_mem_cons.mpr ⟨tc90_1, List.forall_mem_cons.mpr ⟨tc90_2, List.forall_mem_cons.mpr ⟨tc90_3, fun _ h => absurd h List.not_mem_nil⟩⟩⟩⟩) tw90 tm90
theorem tc91_0 : tC91_0.all (kEn tY91.1 tY91.2.1) = true := by decide +kernel
theorem tc91_1 : tC91_1.all (kEn tY91.1 tY91.2.1) = true := by decide +kernel
theorem tc91_2 : tC91_2.all (kEn tY91.1 tY91.2.1) = true := by decide +kernel
theorem tc91_3 : tC91_3.all (kEn tY91.1 tY91.2.1) = true := by decide +kernel
theorem tc91_4 : tC91_4.all (kEn tY91.1 tY91.2.1) = true := by decide +kernel
theorem tm91 : kM tM91 tY91 ((tWs[91]?).getD (0, 0, 0, 0)) = true := by decide +kernel
set_option maxRecDepth 20000 in
theorem tw91 : kW ((tWs[91]?).getD (0, 0, 0, 0)).1 = some (.code tY91.1 tY91.2.1 tM91.2.1 tY91.2.2) := rfl
theorem tk91 : eMok tCl lw_g tNs tMs tYs tM91 tY91 := kM_ok (q := (tWs[91]?).getD (0, 0, 0, 0)) (show ∀ ch ∈ tC91, _ from List.forall_mem_cons.mpr ⟨tc91_0, List.forall_mem_cons.mpr ⟨tc91_1, List.forall_mem_cons.mpr ⟨tc91_2, List.forall_mem_cons.mpr ⟨tc91_3, List.forall_mem_cons.mpr ⟨tc91_4, fun _ h => absurd h List.not_mem_nil⟩⟩⟩⟩⟩) tw91 tm91
theorem tc92_0 : tC92_0.all (kEn tY92.1 tY92.2.1) = true := by decide +kernel
theorem tc92_1 : tC92_1.all (kEn tY92.1 tY92.2.1) = true := by decide +kernel
theorem tm92 : kM tM92 tY92 ((tWs[92]?).getD (0, 0, 0, 0)) = true := by decide +kernel
set_option maxRecDepth 20000 in
theorem tw92 : kW ((tWs[92]?).getD (0, 0, 0, 0)).1 = some (.code tY92.1 tY92.2.1 tM92.2.1 tY92.2.2) := rfl
theorem tk92 : eMok tCl lw_g tNs tMs tYs tM92 tY92 := kM_ok (q := (tWs[92]?).getD (0, 0, 0, 0)) (show ∀ ch ∈ tC92, _ from List.forall_mem_cons.mpr ⟨tc92_0, List.forall_mem_cons.mpr ⟨tc92_1, fun _ h => absurd h List.not_mem_nil⟩⟩) tw92 tm92
theorem tc93_0 : tC93_0.all (kEn tY93.1 tY93.2.1) = true := by decide +kernel
theorem tc93_1 : tC93_1.all (kEn tY93.1 tY93.2.1) = true := by decide +kernel
theorem tm93 : kM tM93 tY93 ((tWs[93]?).getD (0, 0, 0, 0)) = true := by decide +kernel
set_option maxRecDepth 20000 in
theorem tw93 : kW ((tWs[93]?).getD (0, 0, 0, 0)).1 = some (.code tY93.1 tY93.2.1 tM93.2.1 tY93.2.2) := rfl
theorem tk93 : eMok tCl lw_g tNs tMs tYs tM93 tY93 := kM_ok (q := (tWs[93]?).getD (0, 0, 0, 0)) (show ∀ ch ∈ tC93, _ from List.forall_mem_cons.mpr ⟨tc93_0, List.forall_mem_cons.mpr ⟨tc93_1, fun _ h => absurd h List.not_mem_nil⟩⟩) tw93 tm93
theorem tc94_0 : tC94_0.all (kEn tY94.1 tY94.2.1) = true := by decide +kernel
theorem tc94_1 : tC94_1.all (kEn tY94.1 tY94.2.1) = true := by decide +kernel
theorem tm94 : kM tM94 tY94 ((tWs[94]?).getD (0, 0, 0, 0)) = true := by decide +kernel
set_option maxRecDepth 20000 in
theorem tw94 : kW ((tWs[94]?).getD (0, 0, 0, 0)).1 = some (.code tY94.1 tY94.2.1 tM94.2.1 tY94.2.2) := rfl
theorem tk94 : eMok tCl lw_g tNs tMs tYs tM94 tY94 := kM_ok (q := (tWs[94]?).getD (0, 0, 0, 0)) (show ∀ ch ∈ tC94, _ from List.forall_mem_cons.mpr ⟨tc94_0, List.forall_mem_cons.mpr ⟨tc94_1, fun _ h => absurd h List.not_mem_nil⟩⟩) tw94 tm94
theorem tc95_0 : tC95_0.all (kEn tY95.1 tY95.2.1) = true := by decide +kernel
theorem tc95_1 : tC95_1.all (kEn tY95.1 tY95.2.1) = true := by decide +kernel
theorem tm95 : kM tM95 tY95 ((tWs[95]?).getD (0, 0, 0, 0)) = true := by decide +kernel
set_option maxRecDepth 20000 in
theorem tw95 : kW ((tWs[95]?).getD (0, 0, 0, 0)).1 = some (.code tY95.1 tY95.2.1 tM95.2.1 tY95.2.2) := rfl
theorem tk95 : eMok tCl lw_g tNs tMs tYs tM95 tY95 := kM_ok (q := (tWs[95]?).getD (0, 0, 0, 0)) (show ∀ ch ∈ tC95, _ from List.forall_mem_cons.mpr ⟨tc95_0, List.forall_mem_cons.mpr ⟨tc95_1, fun _ h => absurd h List.not_mem_nil⟩⟩) tw95 tm95
theorem tc96_0 : tC96_0.all (kEn tY96.1 tY96.2.1) = true := by decide +kernel
theorem tc96_1 : tC96_1.all (kEn tY96.1 tY96.2.1) = true := by decide +kernel
theorem tm96 : kM tM96 tY96 ((tWs[96]?).getD (0, 0, 0, 0)) = true := by decide +kernel
set_option maxRecDepth 20000 in
theorem tw96 : kW ((tWs[96]?).getD (0, 0, 0, 0)).1 = some (.code tY96.1 tY96.2.1 tM96.2.1 tY96.2.2) := rfl
theorem tk96 : eMok tCl lw_g tNs tMs tYs tM96 tY96 := kM_ok (q := (tWs[96]?).getD (0, 0, 0, 0)) (show ∀ ch ∈ tC96, _ from List.forall_mem_cons.mpr ⟨tc96_0, List.forall_mem_cons.mpr ⟨tc96_1, fun _ h => absurd h List.not_mem_nil⟩⟩) tw96 tm96
theorem tc97_0 : tC97_0.all (kEn tY97.1 tY97.2.1) = true := by decide +kernel
theorem tc97_1 : tC97_1.all (kEn tY97.1 tY97.2.1) = true := by decide +kernel
theorem tc97_2 : tC97_2.all (kEn tY97.1 tY97.2.1) = true := by decide +kernel
theorem tm97 : kM tM97 tY97 ((tWs[97]?).getD (0, 0, 0, 0)) = true := by decide +kernel
set_option maxRecDepth 20000 in
theorem tw97 : kW ((tWs[97]?).getD (0, 0, 0, 0)).1 = some (.code tY97.1 tY97.2.1 tM97.2.1 tY97.2.2) := rfl
theorem tk97 : eMok tCl lw_g tNs tMs tYs tM97 tY97 := kM_ok (q := (tWs[97]?).getD (0, 0, 0, 0)) (show ∀ ch ∈ tC97, _ from List.forall_mem_cons.mpr ⟨tc97_0, List.forall_mem_cons.mpr ⟨tc97_1, List.forall_mem_cons.mpr ⟨tc97_2, fun _ h => absurd h List.not_mem_nil⟩⟩⟩) tw97 tm97
theorem tc98_0 : tC98_0.all (kEn tY98.1 tY98.2.1) = true := by decide +kernel
theorem tm98 : kM tM98 tY98 ((tWs[98]?).getD (0, 0, 0, 0)) = true := by decide +kernel
set_option maxRecDepth 20000 in
theorem tw98 : kW ((tWs[98]?).getD (0, 0, 0, 0)).1 = some (.code tY98.1 tY98.2.1 tM98.2.1 tY98.2.2) := rfl
theorem tk98 : eMok tCl lw_g tNs tMs tYs tM98 tY98 := kM_ok (q := (tWs[98]?).getD (0, 0, 0, 0)) (show ∀ ch ∈ tC98, _ from List.forall_mem_cons.mpr ⟨tc98_0, fun _ h => absurd h List.not_mem_nil⟩) tw98 tm98
theorem tc99_0 : tC99_0.all (kEn tY99.1 tY99.2.1) = true := by decide +kernel
theorem tc99_1 : tC99_1.all (kEn tY99.1 tY99.2.1) = true := by decide +kernel
theorem tm99 : kM tM99 tY99 ((tWs[99]?).getD (0, 0, 0, 0)) = true := by decide +kernel
set_option maxRecDepth 20000 in
theorem tw99 : kW ((tWs[99]?).getD (0, 0, 0, 0)).1 = some (.code tY99.1 tY99.2.1 tM99.2.1 tY99.2.2) := rfl
theorem tk99 : eMok tCl lw_g tNs tMs tYs tM99 tY99 := kM_ok (q := (tWs[99]?).getD (0, 0, 0, 0)) (show ∀ ch ∈ tC99, _ from List.forall_mem_cons.mpr ⟨tc99_0, List.forall_mem_cons.mpr ⟨tc99_1, fun _ h => absurd h List.not_mem_nil⟩⟩) tw99 tm99
theorem tc100_0 : tC100_0.all (kEn tY100.1 tY100.2.1) = true := by decide +kernel
theorem tc100_1 : tC100_1.all (kEn tY100.1 tY100.2.1) = true := by decide +kernel
theorem tc100_2 : tC100_2.all (kEn tY100.1 tY100.2.1) = true := by decide +kernel
theorem tc100_3 : tC100_3.all (kEn tY100.1 tY100.2.1) = true := by decide +kernel
theorem tm100 : kM tM100 tY100 ((tWs[100]?).getD (0, 0, 0, 0)) = true := by decide +kernel
set_option maxRecDepth 20000 in
theorem tw100 : kW ((tWs[100]?).getD (0, 0, 0, 0)).1 = some (.code tY100.1 tY100.2.1 tM100.2.1 tY100.2.2) := rfl
theorem tk100 : eMok tCl lw_g tNs tMs tYs tM100 tY100 := kM_ok (q := (tWs[100]?).getD (0, 0, 0, 0)) (show ∀ ch ∈ tC100, _ from List.forall_mem_cons.mpr ⟨tc100_0, List.forall_mem_cons.mpr ⟨tc100_1, List.forall_mem_cons.mpr ⟨tc100_2, List.forall_mem_cons.mpr ⟨tc100_3, fun _ h => absurd h List.not_mem_nil⟩⟩⟩⟩) tw100 tm100
theorem tc101_0 : tC101_0.all (kEn tY101.1 tY101.2.1) = true := by decide +kernel
theorem tc101_1 : tC101_1.all (kEn tY101.1 tY101.2.1) = true := by decide +kernel
theorem tm101 : kM tM101 tY101 ((tWs[101]?).getD (0, 0, 0, 0)) = true := by decide +kernel
set_option maxRecDepth 20000 in
theorem tw101 : kW ((tWs[101]?).getD (0, 0, 0, 0)).1 = some (.code tY101.1 tY101.2.1 tM101.2.1 tY101.2.2) := rfl
theorem tk101 : eMok tCl lw_g tNs tMs tYs tM101 tY101 := kM_ok (q := (tWs[101]?).getD (0, 0, 0, 0)) (show ∀ ch ∈ tC101, _ from List.forall_mem_cons.mpr ⟨tc101_0, List.forall_mem_cons.mpr ⟨tc101_1, fun _ h => absurd h List.not_mem_nil⟩⟩) tw101 tm101
theorem tc102_0 : tC102_0.all (kEn tY102.1 tY102.2.1) = true := by decide +kernel
theorem tc102_1 : tC102_1.all (kEn tY102.1 tY102.2.1) = true := by decide +kernel
theorem tc102_2 : tC102_2.all (kEn tY102.1 tY102.2.1) = true := by decide +kernel
theorem tc102_3 : tC102_3.all (kEn tY102.1 tY102.2.1) = true := by decide +kernel
theorem tc102_4 : tC102_4.all (kEn tY102.1 tY102.2.1) = true := by decide +kernel
theorem tc102_5 : tC102_5.all (kEn tY102.1 tY102.2.1) = true := by decide +kernel
theorem tm102 : kM tM102 tY102 ((tWs[102]?).getD (0, 0, 0, 0)) = true := by decide +kernel
set_option maxRecDepth 20000 in
theorem tw102 : kW ((tWs[102]?).getD (0, 0, 0, 0)).1 = some (.code tY102.1 tY102.2.1 tM102.2.1 tY102.2.2) := rfl
theorem tk102 : eMok tCl lw_g tNs tMs tYs tM102 tY102 := kM_ok (q := (tWs[102]?).getD (0, 0, 0, 0)) (show ∀ ch ∈ tC102, _ from List.forall_mem_cons.mpr ⟨tc102_0, List.forall_mem_cons.mpr ⟨tc102_1, List.forall_mem_cons.mpr ⟨tc102_2, List.forall_mem_cons.mpr ⟨tc102_3, List.forall_mem_cons.mpr ⟨tc102_4, List.forall_mem_cons.mpr ⟨tc102_5, fun _ h => absurd h List.not_mem_nil⟩⟩⟩⟩⟩⟩) tw102 tm102
theorem tc103_0 : tC103_0.all (kEn tY103.1 tY103.2.1) = true := by decide +kernel
theorem tc103_1 : tC103_1.all (kEn tY103.1 tY103.2.1) = true := by decide +kernel
theorem tc103_2 : tC103_2.all (kEn tY103.1 tY103.2.1) = true := by decide +kernel
theorem tm103 : kM tM103 tY103 ((tWs[103]?).getD (0, 0, 0, 0)) = true := by decide +kernel
set_option maxRecDepth 20000 in
theorem tw103 : kW ((tWs[103]?).getD (0, 0, 0, 0)).1 = some (.code tY103.1 tY103.2.1 tM103.2.1 tY103.2.2) := rfl
theorem tk103 : eMok tCl lw_g tNs tMs tYs tM103 tY103 := kM_ok (q := (tWs[103]?).getD (0, 0, 0, 0)) (show ∀ ch ∈ tC103, _ from List.forall_mem_cons.mpr ⟨tc103_0, List.forall_mem_cons.mpr ⟨tc103_1, List.forall_mem_cons.mpr ⟨tc103_2, fun _ h => absurd h List.not_mem_nil⟩⟩⟩) tw103 tm103
theorem tc104_0 : tC104_0.all (kEn tY104.1 tY104.2.1) = true := by decide +kernel
theorem tc104_1 : tC104_1.all (kEn tY104.1 tY104.2.1) = true := by decide +kernel
theorem tm104 : kM tM104 tY104 ((tWs[104]?).getD (0, 0, 0, 0)) = true := by decide +kernel
set_option maxRecDepth 20000 in
theorem tw104 : kW ((tWs[104]?).getD (0, 0, 0, 0)).1 = some (.code tY104.1 tY104.2.1 tM104.2.1 tY104.2.2) := rfl
theorem tk104 : eMok tCl lw_g tNs tMs tYs tM104 tY104 := kM_ok (q := (tWs[104]?).getD (0, 0, 0, 0)) (show ∀ ch ∈ tC104, _ from List.forall_mem_cons.mpr ⟨tc104_0, List.forall_mem_cons.mpr ⟨tc104_1, fun _ h => absurd h List.not_mem_nil⟩⟩) tw104 tm104
theorem tc105_0 : tC105_0.all (kEn tY105.1 tY105.2.1) = true := by decide +kernel
theorem tc105_1 : tC105_1.all (kEn tY105.1 tY105.2.1) = true := by decide +kernel
theorem tc105_2 : tC105_2.all (kEn tY105.1 tY105.2.1) = true := by decide +kernel
theorem tm105 : kM tM105 tY105 ((tWs[105]?).getD (0, 0, 0, 0)) = true := by decide +kernel
set_option maxRecDepth 20000 in
theorem tw105 : kW ((tWs[105]?).getD (0, 0, 0, 0)).1 = some (.code tY105.1 tY105.2.1 tM105.2.1 tY105.2.2) := rfl
theorem tk105 : eMok tCl lw_g tNs tMs tYs tM105 tY105 := kM_ok (q := (tWs[105]?).getD (0, 0, 0, 0)) (show ∀ ch ∈ tC105, _ from List.forall_mem_cons.mpr ⟨tc105_0, List.forall_mem_cons.mpr ⟨tc105_1, List.forall_mem_cons.mpr ⟨tc105_2, fun _ h => absurd h List.not_mem_nil⟩⟩⟩) tw105 tm105
theorem tc106_0 : tC106_0.all (kEn tY106.1 tY106.2.1) = true := by decide +kernel
theorem tc106_1 : tC106_1.all (kEn tY106.1 tY106.2.1) = true := by decide +kernel
theorem tc106_2 : tC106_2.all (kEn tY106.1 tY106.2.1) = true := by decide +kernel
theorem tm106 : kM tM106 tY106 ((tWs[106]?).getD (0, 0, 0, 0)) = true := by decide +kernel
set_option maxRecDepth 20000 in
theorem tw106 : kW ((tWs[106]?).getD (0, 0, 0, 0)).1 = some (.code tY106.1 tY106.2.1 tM106.2.1 tY106.2.2) := rfl
theorem tk106 : eMok tCl lw_g tNs tMs tYs tM106 tY106 := kM_ok (q := (tWs[106]?).getD (0, 0, 0, 0)) (show ∀ ch ∈ tC106, _ from List.forall_mem_cons.mpr ⟨tc106_0, List.forall_mem_cons.mpr ⟨tc106_1, List.forall_mem_cons.mpr ⟨tc106_2, fun _ h => absurd h List.not_mem_nil⟩⟩⟩) tw106 tm106
theorem tc107_0 : tC107_0.all (kEn tY107.1 tY107.2.1) = true := by decide +kernel
theorem tm107 : kM tM107 tY107 ((tWs[107]?).getD (0, 0, 0, 0)) = true := by decide +kernel
set_option maxRecDepth 20000 in
theorem tw107 : kW ((tWs[107]?).getD (0, 0, 0, 0)).1 = some (.code tY107.1 tY107.2.1 tM107.2.1 tY107.2.2) := rfl
theorem tk107 : eMok tCl lw_g tNs tMs tYs tM107 tY107 := kM_ok (q := (tWs[107]?).getD (0, 0, 0, 0)) (show ∀ ch ∈ tC107, _ from List.forall_mem_cons.mpr ⟨tc107_0, fun _ h => absurd h List.not_mem_nil⟩) tw107 tm107
theorem tc108_0 : tC108_0.all (kEn tY108.1 tY108.2.1) = true := by decide +kernel
theorem tc108_1 : tC108_1.all (kEn tY108.1 tY108.2.1) = true := by decide +kernel
theorem tm108 : kM tM108 tY108 ((tWs[108]?).getD (0, 0, 0, 0)) = true := by decide +kernel
set_option maxRecDepth 20000 in
theorem tw108 : kW ((tWs[108]?).getD (0, 0, 0, 0)).1 = some (.code tY108.1 tY108.2.1 tM108.2.1 tY108.2.2) := rfl
theorem tk108 : eMok tCl lw_g tNs tMs tYs tM108 tY108 := kM_ok (q := (tWs[108]?).getD (0, 0, 0, 0)) (show ∀ ch ∈ tC108, _ from List.forall_mem_cons.mpr ⟨tc108_0, List.forall_mem_cons.mpr ⟨tc108_1, fun _ h => absurd h List.not_mem_nil⟩⟩) tw108 tm108
theorem tc109_0 : tC109_0.all (kEn tY109.1 tY109.2.1) = true := by decide +kernel
theorem tc109_1 : tC109_1.all (kEn tY109.1 tY109.2.1) = true := by decide +kernel
theorem tm109 : kM tM109 tY109 ((tWs[109]?).getD (0, 0, 0, 0)) = true := by decide +kernel
set_option maxRecDepth 20000 in
theorem tw109 : kW ((tWs[109]?).getD (0, 0, 0, 0)).1 = some (.code tY109.1 tY109.2.1 tM109.2.1 tY109.2.2) := rfl
theorem tk109 : eMok tCl lw_g tNs tMs tYs tM109 tY109 := kM_ok (q := (tWs[109]?).getD (0, 0, 0, 0)) (show ∀ ch ∈ tC109, _ from List.forall_mem_cons.mpr ⟨tc109_0, List.forall_mem_cons.mpr ⟨tc109_1, fun _ h => absurd h List.not_mem_nil⟩⟩) tw109 tm109
theorem tc110_0 : tC110_0.all (kEn tY110.1 tY110.2.1) = true := by decide +kernel
theorem tc110_1 : tC110_1.all (kEn tY110.1 tY110.2.1) = true := by decide +kernel
theorem tm110 : kM tM110 tY110 ((tWs[110]?).getD (0, 0, 0, 0)) = true := by decide +kernel
set_option maxRecDepth 20000 in
theorem tw110 : kW ((tWs[110]?).getD (0, 0, 0, 0)).1 = some (.code tY110.1 tY110.2.1 tM110.2.1 tY110.2.2) := rfl
theorem tk110 : eMok tCl lw_g tNs tMs tYs tM110 tY110 := kM_ok (q := (tWs[110]?).getD (0, 0, 0, 0)) (show ∀ ch ∈ tC110, _ from List.forall_mem_cons.mpr ⟨tc110_0, List.forall_mem_cons.mpr ⟨tc110_1, fun _ h => absurd h List.not_mem_nil⟩⟩) tw110 tm110
theorem tc111_0 : tC111_0.all (kEn tY111.1 tY111.2.1) = true := by decide +kernel
theorem tc111_1 : tC111_1.all (kEn tY111.1 tY111.2.1) = true := by decide +kernel
theorem tc111_2 : tC111_2.all (kEn tY111.1 tY111.2.1) = true := by decide +kernel
theorem tm111 : kM tM111 tY111 ((tWs[111]?).getD (0, 0, 0, 0)) = true := by decide +kernel
set_option maxRecDepth 20000 in
theorem tw111 : kW ((tWs[111]?).getD (0, 0, 0, 0)).1 = some (.code tY111.1 tY111.2.1 tM111.2.1 tY111.2.2) := rfl
theorem tk111 : eMok tCl lw_g tNs tMs tYs tM111 tY111 := kM_ok (q := (tWs[111]?).getD (0, 0, 0, 0)) (show ∀ ch ∈ tC111, _ from List.forall_mem_cons.mpr ⟨tc111_0, List.forall_mem_cons.mpr ⟨tc111_1, List.forall_mem_cons.mpr ⟨tc111_2, fun _ h => absurd h List.not_mem_nil⟩⟩⟩) tw111 tm111
theorem tc112_0 : tC112_0.all (kEn tY112.1 tY112.2.1) = true := by decide +kernel
theorem tm112 : kM tM112 tY112 ((tWs[112]?).getD (0, 0, 0, 0)) = true := by decide +kernel
set_option maxRecDepth 20000 in
theorem tw112 : kW ((tWs[112]?).getD (0, 0, 0, 0)).1 = some (.code tY112.1 tY112.2.1 tM112.2.1 tY112.2.2) := rfl
theorem tk112 : eMok tCl lw_g tNs tMs tYs tM112 tY112 := kM_ok (q := (tWs[112]?).getD (0, 0, 0, 0)) (show ∀ ch ∈ tC112, _ from List.forall_mem_cons.mpr ⟨tc112_0, fun _ h => absurd h List.not_mem_nil⟩) tw112 tm112
theorem tc113_0 : tC113_0.all (kEn tY113.1 tY113.2.1) = true := by decide +kernel
theorem tc113_1 : tC113_1.all (kEn tY113.1 tY113.2.1) = true := by decide +kernel
theorem tm113 : kM tM113 tY113 ((tWs[113]?).getD (0, 0, 0, 0)) = true := by decide +kernel
set_option maxRecDepth 20000 in
theorem tw113 : kW ((tWs[113]?).getD (0, 0, 0, 0)).1 = some (.code tY113.1 tY113.2.1 tM113.2.1 tY113.2.2) := rfl
theorem tk113 : eMok tCl lw_g tNs tMs tYs tM113 tY113 := kM_ok (q := (tWs[113]?).getD (0, 0, 0, 0)) (show ∀ ch ∈ tC113, _ from List.forall_mem_cons.mpr ⟨tc113_0, List.forall_mem_cons.mpr ⟨tc113_1, fun _ h => absurd h List.not_mem_nil⟩⟩) tw113 tm113
theorem tc114_0 : tC114_0.all (kEn tY114.1 tY114.2.1) = true := by decide +kernel
theorem tm114 : kM tM114 tY114 ((tWs[114]?).getD (0, 0, 0, 0)) = true := by decide +kernel
set_option maxRecDepth 20000 in
theorem tw114 : kW ((tWs[114]?).getD (0, 0, 0, 0)).1 = some (.code tY114.1 tY114.2.1 tM114.2.1 tY114.2.2) := rfl
theorem tk114 : eMok tCl lw_g tNs tMs tYs tM114 tY114 := kM_ok (q := (tWs[114]?).getD (0, 0, 0, 0)) (show ∀ ch ∈ tC114, _ from List.forall_mem_cons.mpr ⟨tc114_0, fun _ h => absurd h List.not_mem_nil⟩) tw114 tm114
theorem tc115_0 : tC115_0.all (kEn tY115.1 tY115.2.1) = true := by decide +kernel
theorem tm115 : kM tM115 tY115 ((tWs[115]?).getD (0, 0, 0, 0)) = true := by decide +kernel
set_option maxRecDepth 20000 in
theorem tw115 : kW ((tWs[115]?).getD (0, 0, 0, 0)).1 = some (.code tY115.1 tY115.2.1 tM115.2.1 tY115.2.2) := rfl
theorem tk115 : eMok tCl lw_g tNs tMs tYs tM115 tY115 := kM_ok (q := (tWs[115]?).getD (0, 0, 0, 0)) (show ∀ ch ∈ tC115, _ from List.forall_mem_cons.mpr ⟨tc115_0, fun _ h => absurd h List.not_mem_nil⟩) tw115 tm115
theorem tc116_0 : tC116_0.all (kEn tY116.1 tY116.2.1) = true := by decide +kernel
theorem tc116_1 : tC116_1.all (kEn tY116.1 tY116.2.1) = true := by decide +kernel
theorem tm116 : kM tM116 tY116 ((tWs[116]?).getD (0, 0, 0, 0)) = true := by decide +kernel
set_option maxRecDepth 20000 in
theorem tw116 : kW ((tWs[116]?).getD (0, 0, 0, 0)).1 = some (.code tY116.1 tY116.2.1 tM116.2.1 tY116.2.2) := rfl
theorem tk116 : eMok tCl lw_g tNs tMs tYs tM116 tY116 := kM_ok (q := (tWs[116]?).getD (0, 0, 0, 0)) (show ∀ ch ∈ tC116, _ from List.forall_mem_cons.mpr ⟨tc116_0, List.forall_mem_cons.mpr ⟨tc116_1, fun _ h => absurd h List.not_mem_nil⟩⟩) tw116 tm116
theorem tc117_0 : tC117_0.all (kEn tY117.1 tY117.2.1) = true := by decide +kernel
theorem tm117 : kM tM117 tY117 ((tWs[117]?).getD (0, 0, 0, 0)) = true := by decide +kernel
set_option maxRecDepth 20000 in
theorem tw117 : kW ((tWs[117]?).getD (0, 0, 0, 0)).1 = some (.code tY117.1 tY117.2.1 tM117.2.1 tY117.2.2) := rfl
theorem tk117 : eMok tCl lw_g tNs tMs tYs tM117 tY117 := kM_ok (q := (tWs[117]?).getD (0, 0, 0, 0)) (show ∀ ch ∈ tC117, _ from List.forall_mem_cons.mpr ⟨tc117_0, fun _ h => absurd h List.not_mem_nil⟩) tw117 tm117
theorem tc118_0 : tC118_0.all (kEn tY118.1 tY118.2.1) = true := by decide +kernel
theorem tc118_1 : tC118_1.all (kEn tY118.1 tY118.2.1) = true := by decide +kernel
theorem tm118 : kM tM118 tY118 ((tWs[118]?).getD (0, 0, 0, 0)) = true := by decide +kernel
set_option maxRecDepth 20000 in
theorem tw118 : kW ((tWs[118]?).getD (0, 0, 0, 0)).1 = some (.code tY118.1 tY118.2.1 tM118.2.1 tY118.2.2) := rfl
theorem tk118 : eMok tCl lw_g tNs tMs tYs tM118 tY118 := kM_ok (q := (tWs[118]?).getD (0, 0, 0, 0)) (show ∀ ch ∈ tC118, _ from List.forall_mem_cons.mpr ⟨tc118_0, List.forall_mem_cons.mpr ⟨tc118_1, fun _ h => absurd h List.not_mem_nil⟩⟩) tw118 tm118
theorem tc119_0 : tC119_0.all (kEn tY119.1 tY119.2.1) = true := by decide +kernel
theorem tm119 : kM tM119 tY119 ((tWs[119]?).getD (0, 0, 0, 0)) = true := by decide +kernel
set_option maxRecDepth 20000 in
theorem tw119 : kW ((tWs[119]?).getD (0, 0, 0, 0)).1 = some (.code tY119.1 tY119.2.1 tM119.2.1 tY119.2.2) := rfl
theorem tk119 : eMok tCl lw_g tNs tMs tYs tM119 tY119 := kM_ok (q := (tWs[119]?).getD (0, 0, 0, 0)) (show ∀ ch ∈ tC119, _ from List.forall_mem_cons.mpr ⟨tc119_0, fun _ h => absurd h List.not_mem_nil⟩) tw119 tm119
theorem tc120_0 : tC120_0.all (kEn tY120.1 tY120.2.1) = true := by decide +kernel
theorem tc120_1 : tC120_1.all (kEn tY120.1 tY120.2.1) = true := by decide +kernel
theorem tm120 : kM tM120 tY120 ((tWs[120]?).getD (0, 0, 0, 0)) = true := by decide +kernel
set_option maxRecDepth 20000 in
theorem tw120 : kW ((tWs[120]?).getD (0, 0, 0, 0)).1 = some (.code tY120.1 tY120.2.1 tM120.2.1 tY120.2.2) := rfl
theorem tk120 : eMok tCl lw_g tNs tMs tYs tM120 tY120 := kM_ok (q := (tWs[120]?).getD (0, 0, 0, 0)) (show ∀ ch ∈ tC120, _ from List.forall_mem_cons.mpr ⟨tc120_0, List.forall_mem_cons.mpr ⟨tc120_1, fun _ h => absurd h List.not_mem_nil⟩⟩) tw120 tm120
theorem tc121_0 : tC121_0.all (kEn tY121.1 tY121.2.1) = true := by decide +kernel
theorem tc121_1 : tC121_1.all (kEn tY121.1 tY121.2.1) = true := by decide +kernel
theorem tc121_2 : tC121_2.all (kEn tY121.1 tY121.2.1) = true := by decide +kernel
theorem tm121 : kM tM121 tY121 ((tWs[121]?).getD (0, 0, 0, 0)) = true := by decide +kernel
set_option maxRecDepth 20000 in
theorem tw121 : kW ((tWs[121]?).getD (0, 0, 0, 0)).1 = some (.code tY121.1 tY121.2.1 tM121.2.1 tY121.2.2) := rfl
theorem tk121 : eMok tCl lw_g tNs tMs tYs tM121 tY121 := kM_ok (q := (tWs[121]?).getD (0, 0, 0, 0)) (show ∀ ch ∈ tC121, _ from List.forall_mem_cons.mpr ⟨tc121_0, List.forall_mem_cons.mpr ⟨tc121_1, List.forall_mem_cons.mpr ⟨tc121_2, fun _ h => absurd h List.not_mem_nil⟩⟩⟩) tw121 tm121
theorem tc122_0 : tC122_0.all (kEn tY122.1 tY122.2.1) = true := by decide +kernel
theorem tc122_1 : tC122_1.all (kEn tY122.1 tY122.2.1) = true := by decide +kernel
theorem tc122_2 : tC122_2.all (kEn tY122.1 tY122.2.1) = true := by decide +kernel
theorem tm122 : kM tM122 tY122 ((tWs[122]?).getD (0, 0, 0, 0)) = true := by decide +kernel
set_option maxRecDepth 20000 in
theorem tw122 : kW ((tWs[122]?).getD (0, 0, 0, 0)).1 = some (.code tY122.1 tY122.2.1 tM122.2.1 tY122.2.2) := rfl
theorem tk122 : eMok tCl lw_g tNs tMs tYs tM122 tY122 := kM_ok (q := (tWs[122]?).getD (0, 0, 0, 0)) (show ∀ ch ∈ tC122, _ from List.forall_mem_cons.mpr ⟨tc122_0, List.forall_mem_cons.mpr ⟨tc122_1, List.forall_mem_cons.mpr ⟨tc122_2, fun _ h => absurd h List.not_mem_nil⟩⟩⟩) tw122 tm122
theorem tc123_0 : tC123_0.all (kEn tY123.1 tY123.2.1) = true := by decide +kernel
theorem tc123_1 : tC123_1.all (kEn tY123.1 tY123.2.1) = true := by decide +kernel
theorem tc123_2 : tC123_2.all (kEn tY123.1 tY123.2.1) = true := by decide +kernel
theorem tc123_3 : tC123_3.all (kEn tY123.1 tY123.2.1) = true := by decide +kernel
theorem tm123 : kM tM123 tY123 ((tWs[123]?).getD (0, 0, 0, 0)) = true := by decide +kernel
set_option maxRecDepth 20000 in
theorem tw123 : kW ((tWs[123]?).getD (0, 0, 0, 0)).1 = some (.code tY123.1 tY123.2.1 tM123.2.1 tY123.2.2) := rfl
theorem tk123 : eMok tCl lw_g tNs tMs tYs tM123 tY123 := kM_ok (q := (tWs[123]?).getD (0, 0, 0, 0)) (show ∀ ch ∈ tC123, _ from List.forall_mem_cons.mpr ⟨tc123_0, List.forall_mem_cons.mpr ⟨tc123_1, List.forall_mem_cons.mpr ⟨tc123_2, List.forall_mem_cons.mpr ⟨tc123_3, fun _ h => absurd h List.not_mem_nil⟩⟩⟩⟩) tw123 tm123
theorem tc124_0 : tC124_0.all (kEn tY124.1 tY124.2.1) = true := by decide +kernel
theorem tm124 : kM tM124 tY124 ((tWs[124]?).getD (0, 0, 0, 0)) = true := by decide +kernel
set_option maxRecDepth 20000 in
theorem tw124 : kW ((tWs[124]?).getD (0, 0, 0, 0)).1 = some (.code tY124.1 tY124.2.1 tM124.2.1 tY124.2.2) := rfl
theorem tk124 : eMok tCl lw_g tNs tMs tYs tM124 tY124 := kM_ok (q := (tWs[124]?).getD (0, 0, 0, 0)) (show ∀ ch ∈ tC124, _ from List.forall_mem_cons.mpr ⟨tc124_0, fun _ h => absurd h List.not_mem_nil⟩) tw124 tm124
theorem tc125_0 : tC125_0.all (kEn tY125.1 tY125.2.1) = true := by decide +kernel
theorem tc125_1 : tC125_1.all (kEn tY125.1 tY125.2.1) = true := by decide +kernel
theorem tc125_2 : tC125_2.all (kEn tY125.1 tY125.2.1) = true := by decide +kernel
theorem tc125_3 : tC125_3.all (kEn tY125.1 tY125.2.1) = true := by decide +kernel
theorem tm125 : kM tM125 tY125 ((tWs[125]?).getD (0, 0, 0, 0)) = true := by decide +kernel
set_option maxRecDepth 20000 in
theorem tw125 : kW ((tWs[125]?).getD (0, 0, 0, 0)).1 = some (.code tY125.1 tY125.2.1 tM125.2.1 tY125.2.2) := rfl
theorem tk125 : eMok tCl lw_g tNs tMs tYs tM125 tY125 := kM_ok (q := (tWs[125]?).getD (0, 0, 0, 0)) (show ∀ ch ∈ tC125, _ from List.forall_mem_cons.mpr ⟨tc125_0, List.forall_mem_cons.mpr ⟨tc125_1, List.forall_mem_cons.mpr ⟨tc125_2, List.forall_mem_cons.mpr ⟨tc125_3, fun _ h => absurd h List.not_mem_nil⟩⟩⟩⟩) tw125 tm125
end
section
theorem tc126_0 : tC126_0.all (kEn tY126.1 tY126.2.1) = true := by decide +kernel
theorem tc126_1 : tC126_1.all (kEn tY126.1 tY126.2.1) = true := by decide +kernel
theorem tc126_2 : tC126_2.all (kEn tY126.1 tY126.2.1) = true := by decide +kernel
theorem tm126 : kM tM126 tY126 ((tWs[126]?).getD (0, 0, 0, 0)) = true := by decide +kernel
set_option maxRecDepth 20000 in
theorem tw126 : kW ((tWs[126]?).getD (0, 0, 0, 0)).1 = some (.code tY126.1 tY126.2.1 tM126.2.1 tY126.2.2) := rfl
theorem tk126 : eMok tCl lw_g tNs tMs tYs tM126 tY126 := kM_ok (q := (tWs[126]?).getD (0, 0, 0, 0)) (show ∀ ch ∈ tC126, _ from List.forall_mem_cons.mpr ⟨tc126_0, List.forall_mem_cons.mpr ⟨tc126_1, List.forall_mem_cons.mpr ⟨tc126_2, fun _ h => absurd h List.not_mem_nil⟩⟩⟩) tw126 tm126
theorem tc127_0 : tC127_0.all (kEn tY127.1 tY127.2.1) = true := by decide +kernel
theorem tm127 : kM tM127 tY127 ((tWs[127]?).getD (0, 0, 0, 0)) = true := by decide +kernel
set_option maxRecDepth 20000 in
theorem tw127 : kW ((tWs[127]?).getD (0, 0, 0, 0)).1 = some (.code tY127.1 tY127.2.1 tM127.2.1 tY127.2.2) := rfl
theorem tk127 : eMok tCl lw_g tNs tMs tYs tM127 tY127 := kM_ok (q := (tWs[127]?).getD (0, 0, 0, 0)) (show ∀ ch ∈ tC127, _ from List.forall_mem_cons.mpr ⟨tc127_0, fun _ h => absurd h List.not_mem_nil⟩) tw127 tm127
theorem tc128_0 : tC128_0.all (kEn tY128.1 tY128.2.1) = true := by decide +kernel
theorem tm128 : kM tM128 tY128 ((tWs[128]?).getD (0, 0, 0, 0)) = true := by decide +kernel
set_option maxRecDepth 20000 in
theorem tw128 : kW ((tWs[128]?).getD (0, 0, 0, 0)).1 = some (.code tY128.1 tY128.2.1 tM128.2.1 tY128.2.2) := rfl
theorem tk128 : eMok tCl lw_g tNs tMs tYs tM128 tY128 := kM_ok (q := (tWs[128]?).getD (0, 0, 0, 0)) (show ∀ ch ∈ tC128, _ from List.forall_mem_cons.mpr ⟨tc128_0, fun _ h => absurd h List.not_mem_nil⟩) tw128 tm128
theorem tc129_0 : tC129_0.all (kEn tY129.1 tY129.2.1) = true := by decide +kernel
theorem tc129_1 : tC129_1.all (kEn tY129.1 tY129.2.1) = true := by decide +kernel
theorem tm129 : kM tM129 tY129 ((tWs[129]?).getD (0, 0, 0, 0)) = true := by decide +kernel
set_option maxRecDepth 20000 in
theorem tw129 : kW ((tWs[129]?).getD (0, 0, 0, 0)).1 = some (.code tY129.1 tY129.2.1 tM129.2.1 tY129.2.2) := rfl
theorem tk129 : eMok tCl lw_g tNs tMs tYs tM129 tY129 := kM_ok (q := (tWs[129]?).getD (0, 0, 0, 0)) (show ∀ ch ∈ tC129, _ from List.forall_mem_cons.mpr ⟨tc129_0, List.forall_mem_cons.mpr ⟨tc129_1, fun _ h => absurd h List.not_mem_nil⟩⟩) tw129 tm129
theorem tc130_0 : tC130_0.all (kEn tY130.1 tY130.2.1) = true := by decide +kernel
theorem tm130 : kM tM130 tY130 ((tWs[130]?).getD (0, 0, 0, 0)) = true := by decide +kernel
set_option maxRecDepth 20000 in
theorem tw130 : kW ((tWs[130]?).getD (0, 0, 0, 0)).1 = some (.code tY130.1 tY130.2.1 tM130.2.1 tY130.2.2) := rfl
theorem tk130 : eMok tCl lw_g tNs tMs tYs tM130 tY130 := kM_ok (q := (tWs[130]?).getD (0, 0, 0, 0)) (show ∀ ch ∈ tC130, _ from List.forall_mem_cons.mpr ⟨tc130_0, fun _ h => absurd h List.not_mem_nil⟩) tw130 tm130
theorem tc131_0 : tC131_0.all (kEn tY131.1 tY131.2.1) = true := by decide +kernel
theorem tm131 : kM tM131 tY131 ((tWs[131]?).getD (0, 0, 0, 0)) = true := by decide +kernel
set_option maxRecDepth 20000 in
theorem tw131 : kW ((tWs[131]?).getD (0, 0, 0, 0)).1 = some (.code tY131.1 tY131.2.1 tM131.2.1 tY131.2.2) := rfl
theorem tk131 : eMok tCl lw_g tNs tMs tYs tM131 tY131 := kM_ok (q := (tWs[131]?).getD (0, 0, 0, 0)) (show ∀ ch ∈ tC131, _ from List.forall_mem_cons.mpr ⟨tc131_0, fun _ h => absurd h List.not_mem_nil⟩) tw131 tm131
theorem tc132_0 : tC132_0.all (kEn tY132.1 tY132.2.1) = true := by decide +kernel
theorem tm132 : kM tM132 tY132 ((tWs[132]?).getD (0, 0, 0, 0)) = true := by decide +kernel
set_option maxRecDepth 20000 in
theorem tw132 : kW ((tWs[132]?).getD (0, 0, 0, 0)).1 = some (.code tY132.1 tY132.2.1 tM132.2.1 tY132.2.2) := rfl
theorem tk132 : eMok tCl lw_g tNs tMs tYs tM132 tY132 := kM_ok (q := (tWs[132]?).getD (0, 0, 0, 0)) (show ∀ ch ∈ tC132, _ from List.forall_mem_cons.mpr ⟨tc132_0, fun _ h => absurd h List.not_mem_nil⟩) tw132 tm132
theorem tc133_0 : tC133_0.all (kEn tY133.1 tY133.2.1) = true := by decide +kernel
theorem tc133_1 : tC133_1.all (kEn tY133.1 tY133.2.1) = true := by decide +kernel
theorem tm133 : kM tM133 tY133 ((tWs[133]?).getD (0, 0, 0, 0)) = true := by decide +kernel
set_option maxRecDepth 20000 in
theorem tw133 : kW ((tWs[133]?).getD (0, 0, 0, 0)).1 = some (.code tY133.1 tY133.2.1 tM133.2.1 tY133.2.2) := rfl
theorem tk133 : eMok tCl lw_g tNs tMs tYs tM133 tY133 := kM_ok (q := (tWs[133]?).getD (0, 0, 0, 0)) (show ∀ ch ∈ tC133, _ from List.forall_mem_cons.mpr ⟨tc133_0, List.forall_mem_cons.mpr ⟨tc133_1, fun _ h => absurd h List.not_mem_nil⟩⟩) tw133 tm133
theorem tc134_0 : tC134_0.all (kEn tY134.1 tY134.2.1) = true := by decide +kernel
theorem tc134_1 : tC134_1.all (kEn tY134.1 tY134.2.1) = true := by decide +kernel
theorem tc134_2 : tC134_2.all (kEn tY134.1 tY134.2.1) = true := by decide +kernel
theorem tm134 : kM tM134 tY134 ((tWs[134]?).getD (0, 0, 0, 0)) = true := by decide +kernel
set_option maxRecDepth 20000 in
theorem tw134 : kW ((tWs[134]?).getD (0, 0, 0, 0)).1 = some (.code tY134.1 tY134.2.1 tM134.2.1 tY134.2.2) := rfl
theorem tk134 : eMok tCl lw_g tNs tMs tYs tM134 tY134 := kM_ok (q := (tWs[134]?).getD (0, 0, 0, 0)) (show ∀ ch ∈ tC134, _ from List.forall_mem_cons.mpr ⟨tc134_0, List.forall_mem_cons.mpr ⟨tc134_1, List.forall_mem_cons.mpr ⟨tc134_2, fun _ h => absurd h List.not_mem_nil⟩⟩⟩) tw134 tm134
theorem tc135_0 : tC135_0.all (kEn tY135.1 tY135.2.1) = true := by decide +kernel
theorem tc135_1 : tC135_1.all (kEn tY135.1 tY135.2.1) = true := by decide +kernel
theorem tm135 : kM tM135 tY135 ((tWs[135]?).getD (0, 0, 0, 0)) = true := by decide +kernel
set_option maxRecDepth 20000 in
theorem tw135 : kW ((tWs[135]?).getD (0, 0, 0, 0)).1 = some (.code tY135.1 tY135.2.1 tM135.2.1 tY135.2.2) := rfl
theorem tk135 : eMok tCl lw_g tNs tMs tYs tM135 tY135 := kM_ok (q := (tWs[135]?).getD (0, 0, 0, 0)) (show ∀ ch ∈ tC135, _ from List.forall_mem_cons.mpr ⟨tc135_0, List.forall_mem_cons.mpr ⟨tc135_1, fun _ h => absurd h List.not_mem_nil⟩⟩) tw135 tm135
theorem tc136_0 : tC136_0.all (kEn tY136.1 tY136.2.1) = true := by decide +kernel
theorem tm136 : kM tM136 tY136 ((tWs[136]?).getD (0, 0, 0, 0)) = true := by decide +kernel
set_option maxRecDepth 20000 in
theorem tw136 : kW ((tWs[136]?).getD (0, 0, 0, 0)).1 = some (.code tY136.1 tY136.2.1 tM136.2.1 tY136.2.2) := rfl
theorem tk136 : eMok tCl lw_g tNs tMs tYs tM136 tY136 := kM_ok (q := (tWs[136]?).getD (0, 0, 0, 0)) (show ∀ ch ∈ tC136, _ from List.forall_mem_cons.mpr ⟨tc136_0, fun _ h => absurd h List.not_mem_nil⟩) tw136 tm136
theorem tc137_0 : tC137_0.all (kEn tY137.1 tY137.2.1) = true := by decide +kernel
theorem tc137_1 : tC137_1.all (kEn tY137.1 tY137.2.1) = true := by decide +kernel
theorem tc137_2 : tC137_2.all (kEn tY137.1 tY137.2.1) = true := by decide +kernel
theorem tc137_3 : tC137_3.all (kEn tY137.1 tY137.2.1) = true := by decide +kernel
theorem tc137_4 : tC137_4.all (kEn tY137.1 tY137.2.1) = true := by decide +kernel
theorem tm137 : kM tM137 tY137 ((tWs[137]?).getD (0, 0, 0, 0)) = true := by decide +kernel
set_option maxRecDepth 20000 in
theorem tw137 : kW ((tWs[137]?).getD (0, 0, 0, 0)).1 = some (.code tY137.1 tY137.2.1 tM137.2.1 tY137.2.2) := rfl
theorem tk137 : eMok tCl lw_g tNs tMs tYs tM137 tY137 := kM_ok (q := (tWs[137]?).getD (0, 0, 0, 0)) (show ∀ ch ∈ tC137, _ from List.forall_mem_cons.mpr ⟨tc137_0, List.forall_mem_cons.mpr ⟨tc137_1, List.forall_mem_cons.mpr ⟨tc137_2, List.forall_mem_cons.mpr ⟨tc137_3, List.forall_mem_cons.mpr ⟨tc137_4, fun _ h => absurd h List.not_mem_nil⟩⟩⟩⟩⟩) tw137 tm137
theorem tc138_0 : tC138_0.all (kEn tY138.1 tY138.2.1) = true := by decide +kernel
theorem tc138_1 : tC138_1.all (kEn tY138.1 tY138.2.1) = true := by decide +kernel
theorem tc138_2 : tC138_2.all (kEn tY138.1 tY138.2.1) = true := by decide +kernel
theorem tc138_3 : tC138_3.all (kEn tY138.1 tY138.2.1) = true := by decide +kernel
theorem tc138_4 : tC138_4.all (kEn tY138.1 tY138.2.1) = true := by decide +kernel
theorem tc138_5 : tC138_5.all (kEn tY138.1 tY138.2.1) = true := by decide +kernel
theorem tm138 : kM tM138 tY138 ((tWs[138]?).getD (0, 0, 0, 0)) = true := by decide +kernel
set_option maxRecDepth 20000 in
theorem tw138 : kW ((tWs[138]?).getD (0, 0, 0, 0)).1 = some (.code tY138.1 tY138.2.1 tM138.2.1 tY138.2.2) := rfl
theorem tk138 : eMok tCl lw_g tNs tMs tYs tM138 tY138 := kM_ok (q := (tWs[138]?).getD (0, 0, 0, 0)) (show ∀ ch ∈ tC138, _ from List.forall_mem_cons.mpr ⟨tc138_0, List.forall_mem_cons.mpr ⟨tc138_1, List.forall_mem_cons.mpr ⟨tc138_2, List.forall_mem_cons.mpr ⟨tc138_3, List.forall_mem_cons.mpr ⟨tc138_4, List.forall_mem_cons.mpr ⟨tc138_5, fun _ h => absurd h List.not_mem_nil⟩⟩⟩⟩⟩⟩) tw138 tm138
theorem tc139_0 : tC139_0.all (kEn tY139.1 tY139.2.1) = true := by decide +kernel
theorem tc139_1 : tC139_1.all (kEn tY139.1 tY139.2.1) = true := by decide +kernel
theorem tm139 : kM tM139 tY139 ((tWs[139]?).getD (0, 0, 0, 0)) = true := by decide +kernel
set_option maxRecDepth 20000 in
theorem tw139 : kW ((tWs[139]?).getD (0, 0, 0, 0)).1 = some (.code tY139.1 tY139.2.1 tM139.2.1 tY139.2.2) := rfl
theorem tk139 : eMok tCl lw_g tNs tMs tYs tM139 tY139 := kM_ok (q := (tWs[139]?).getD (0, 0, 0, 0)) (show ∀ ch ∈ tC139, _ from List.forall_mem_cons.mpr ⟨tc139_0, List.forall_mem_cons.mpr ⟨tc139_1, fun _ h => absurd h List.not_mem_nil⟩⟩) tw139 tm139
theorem tc140_0 : tC140_0.all (kEn tY140.1 tY140.2.1) = true := by decide +kernel
theorem tc140_1 : tC140_1.all (kEn tY140.1 tY140.2.1) = true := by decide +kernel
theorem tm140 : kM tM140 tY140 ((tWs[140]?).getD (0, 0, 0, 0)) = true := by decide +kernel
set_option maxRecDepth 20000 in
theorem tw140 : kW ((tWs[140]?).getD (0, 0, 0, 0)).1 = some (.code tY140.1 tY140.2.1 tM140.2.1 tY140.2.2) := rfl
theorem tk140 : eMok tCl lw_g tNs tMs tYs tM140 tY140 := kM_ok (q := (tWs[140]?).getD (0, 0, 0, 0)) (show ∀ ch ∈ tC140, _ from List.forall_mem_cons.mpr ⟨tc140_0, List.forall_mem_cons.mpr ⟨tc140_1, fun _ h => absurd h List.not_mem_nil⟩⟩) tw140 tm140
theorem tc141_0 : tC141_0.all (kEn tY141.1 tY141.2.1) = true := by decide +kernel
theorem tm141 : kM tM141 tY141 ((tWs[141]?).getD (0, 0, 0, 0)) = true := by decide +kernel
set_option maxRecDepth 20000 in
theorem tw141 : kW ((tWs[141]?).getD (0, 0, 0, 0)).1 = some (.code tY141.1 tY141.2.1 tM141.2.1 tY141.2.2) := rfl
theorem tk141 : eMok tCl lw_g tNs tMs tYs tM141 tY141 := kM_ok (q := (tWs[141]?).getD (0, 0, 0, 0)) (show ∀ ch ∈ tC141, _ from List.forall_mem_cons.mpr ⟨tc141_0, fun _ h => absurd h List.not_mem_nil⟩) tw141 tm141
theorem tc142_0 : tC142_0.all (kEn tY142.1 tY142.2.1) = true := by decide +kernel
theorem tc142_1 : tC142_1.all (kEn tY142.1 tY142.2.1) = true := by decide +kernel
theorem tc142_2 : tC142_2.all (kEn tY142.1 tY142.2.1) = true := by decide +kernel
theorem tc142_3 : tC142_3.all (kEn tY142.1 tY142.2.1) = true := by decide +kernel
theorem tm142 : kM tM142 tY142 ((tWs[142]?).getD (0, 0, 0, 0)) = true := by decide +kernel
set_option maxRecDepth 20000 in
theorem tw142 : kW ((tWs[142]?).getD (0, 0, 0, 0)).1 = some (.code tY142.1 tY142.2.1 tM142.2.1 tY142.2.2) := rfl
theorem tk142 : eMok tCl lw_g tNs tMs tYs tM142 tY142 := kM_ok (q := (tWs[142]?).getD (0, 0, 0, 0)) (show ∀ ch ∈ tC142, _ from List.forall_mem_cons.mpr ⟨tc142_0, List.forall_mem_cons.mpr ⟨tc142_1, List.forall_mem_cons.mpr ⟨tc142_2, List.forall_mem_cons.mpr ⟨tc142_3, fun _ h => absurd h List.not_mem_nil⟩⟩⟩⟩) tw142 tm142
theorem tc143_0 : tC143_0.all (kEn tY143.1 tY143.2.1) = true := by decide +kernel
theorem tm143 : kM tM143 tY143 ((tWs[143]?).getD (0, 0, 0, 0)) = true := by decide +kernel
set_option maxRecDepth 20000 in
theorem tw143 : kW ((tWs[143]?).getD (0, 0, 0, 0)).1 = some (.code tY143.1 tY143.2.1 tM143.2.1 tY143.2.2) := rfl
theorem tk143 : eMok tCl lw_g tNs tMs tYs tM143 tY143 := kM_ok (q := (tWs[143]?).getD (0, 0, 0, 0)) (show ∀ ch ∈ tC143, _ from List.forall_mem_cons.mpr ⟨tc143_0, fun _ h => absurd h List.not_mem_nil⟩) tw143 tm143
theorem tc144_0 : tC144_0.all (kEn tY144.1 tY144.2.1) = true := by decide +kernel
theorem tm144 : kM tM144 tY144 ((tWs[144]?).getD (0, 0, 0, 0)) = true := by decide +kernel
set_option maxRecDepth 20000 in
theorem tw144 : kW ((tWs[144]?).getD (0, 0, 0, 0)).1 = some (.code tY144.1 tY144.2.1 tM144.2.1 tY144.2.2) := rfl
theorem tk144 : eMok tCl lw_g tNs tMs tYs tM144 tY144 := kM_ok (q := (tWs[144]?).getD (0, 0, 0, 0)) (show ∀ ch ∈ tC144, _ from List.forall_mem_cons.mpr ⟨tc144_0, fun _ h => absurd h List.not_mem_nil⟩) tw144 tm144
theorem tc145_0 : tC145_0.all (kEn tY145.1 tY145.2.1) = true := by decide +kernel
theorem tm145 : kM tM145 tY145 ((tWs[145]?).getD (0, 0, 0, 0)) = true := by decide +kernel
set_option maxRecDepth 20000 in
theorem tw145 : kW ((tWs[145]?).getD (0, 0, 0, 0)).1 = some (.code tY145.1 tY145.2.1 tM145.2.1 tY145.2.2) := rfl
theorem tk145 : eMok tCl lw_g tNs tMs tYs tM145 tY145 := kM_ok (q := (tWs[145]?).getD (0, 0, 0, 0)) (show ∀ ch ∈ tC145, _ from List.forall_mem_cons.mpr ⟨tc145_0, fun _ h => absurd h List.not_mem_nil⟩) tw145 tm145
theorem tc146_0 : tC146_0.all (kEn tY146.1 tY146.2.1) = true := by decide +kernel
theorem tm146 : kM tM146 tY146 ((tWs[146]?).getD (0, 0, 0, 0)) = true := by decide +kernel
set_option maxRecDepth 20000 in
theorem tw146 : kW ((tWs[146]?).getD (0, 0, 0, 0)).1 = some (.code tY146.1 tY146.2.1 tM146.2.1 tY146.2.2) := rfl
theorem tk146 : eMok tCl lw_g tNs tMs tYs tM146 tY146 := kM_ok (q := (tWs[146]?).getD (0, 0, 0, 0)) (show ∀ ch ∈ tC146, _ from List.forall_mem_cons.mpr ⟨tc146_0, fun _ h => absurd h List.not_mem_nil⟩) tw146 tm146
theorem tc147_0 : tC147_0.all (kEn tY147.1 tY147.2.1) = true := by decide +kernel
theorem tm147 : kM tM147 tY147 ((tWs[147]?).getD (0, 0, 0, 0)) = true := by decide +kernel
set_option maxRecDepth 20000 in
theorem tw147 : kW ((tWs[147]?).getD (0, 0, 0, 0)).1 = some (.code tY147.1 tY147.2.1 tM147.2.1 tY147.2.2) := rfl
theorem tk147 : eMok tCl lw_g tNs tMs tYs tM147 tY147 := kM_ok (q := (tWs[147]?).getD (0, 0, 0, 0)) (show ∀ ch ∈ tC147, _ from List.forall_mem_cons.mpr ⟨tc147_0, fun _ h => absurd h List.not_mem_nil⟩) tw147 tm147
theorem tc148_0 : tC148_0.all (kEn tY148.1 tY148.2.1) = true := by decide +kernel
theorem tm148 : kM tM148 tY148 ((tWs[148]?).getD (0, 0, 0, 0)) = true := by decide +kernel
set_option maxRecDepth 20000 in
theorem tw148 : kW ((tWs[148]?).getD (0, 0, 0, 0)).1 = some (.code tY148.1 tY148.2.1 tM148.2.1 tY148.2.2) := rfl
theorem tk148 : eMok tCl lw_g tNs tMs tYs tM148 tY148 := kM_ok (q := (tWs[148]?).getD (0, 0, 0, 0)) (show ∀ ch ∈ tC148, _ from List.forall_mem_cons.mpr ⟨tc148_0, fun _ h => absurd h List.not_mem_nil⟩) tw148 tm148
theorem tc149_0 : tC149_0.all (kEn tY149.1 tY149.2.1) = true := by decide +kernel
theorem tm149 : kM tM149 tY149 ((tWs[149]?).getD (0, 0, 0, 0)) = true := by decide +kernel
set_option maxRecDepth 20000 in
theorem tw149 : kW ((tWs[149]?).getD (0, 0, 0, 0)).1 = some (.code tY149.1 tY149.2.1 tM149.2.1 tY149.2.2) := rfl
theorem tk149 : eMok tCl lw_g tNs tMs tYs tM149 tY149 := kM_ok (q := (tWs[149]?).getD (0, 0, 0, 0)) (show ∀ ch ∈ tC149, _ from List.forall_mem_cons.mpr ⟨tc149_0, fun _ h => absurd h List.not_mem_nil⟩) tw149 tm149
theorem tc150_0 : tC150_0.all (kEn tY150.1 tY150.2.1) = true := by decide +kernel
theorem tm150 : kM tM150 tY150 ((tWs[150]?).getD (0, 0, 0, 0)) = true := by decide +kernel
set_option maxRecDepth 20000 in
theorem tw150 : kW ((tWs[150]?).getD (0, 0, 0, 0)).1 = some (.code tY150.1 tY150.2.1 tM150.2.1 tY150.2.2) := rfl
theorem tk150 : eMok tCl lw_g tNs tMs tYs tM150 tY150 := kM_ok (q := (tWs[150]?).getD (0, 0, 0, 0)) (show ∀ ch ∈ tC150, _ from List.forall_mem_cons.mpr ⟨tc150_0, fun _ h => absurd h List.not_mem_nil⟩) tw150 tm150
theorem tc151_0 : tC151_0.all (kEn tY151.1 tY151.2.1) = true := by decide +kernel
theorem tm151 : kM tM151 tY151 ((tWs[151]?).getD (0, 0, 0, 0)) = true := by decide +kernel
set_option maxRecDepth 20000 in
theorem tw151 : kW ((tWs[151]?).getD (0, 0, 0, 0)).1 = some (.code tY151.1 tY151.2.1 tM151.2.1 tY151.2.2) := rfl
theorem tk151 : eMok tCl lw_g tNs tMs tYs tM151 tY151 := kM_ok (q := (tWs[151]?).getD (0, 0, 0, 0)) (show ∀ ch ∈ tC151, _ from List.forall_mem_cons.mpr ⟨tc151_0, fun _ h => absurd h List.not_mem_nil⟩) tw151 tm151
theorem tc152_0 : tC152_0.all (kEn tY152.1 tY152.2.1) = true := by decide +kernel
theorem tm152 : kM tM152 tY152 ((tWs[152]?).getD (0, 0, 0, 0)) = true := by decide +kernel
set_option maxRecDepth 20000 in
theorem tw152 : kW ((tWs[152]?).getD (0, 0, 0, 0)).1 = some (.code tY152.1 tY152.2.1 tM152.2.1 tY152.2.2) := rfl
theorem tk152 : eMok tCl lw_g tNs tMs tYs tM152 tY152 := kM_ok (q := (tWs[152]?).getD (0, 0, 0, 0)) (show ∀ ch ∈ tC152, _ from List.forall_mem_cons.mpr ⟨tc152_0, fun _ h => absurd h List.not_mem_nil⟩) tw152 tm152
theorem tc153_0 : tC153_0.all (kEn tY153.1 tY153.2.1) = true := by decide +kernel
theorem tc153_1 : tC153_1.all (kEn tY153.1 tY153.2.1) = true := by decide +kernel
theorem tm153 : kM tM153 tY153 ((tWs[153]?).getD (0, 0, 0, 0)) = true := by decide +kernel
set_option maxRecDepth 20000 in
theorem tw153 : kW ((tWs[153]?).getD (0, 0, 0, 0)).1 = some (.code tY153.1 tY153.2.1 tM153.2.1 tY153.2.2) := rfl
theorem tk153 : eMok tCl lw_g tNs tMs tYs tM153 tY153 := kM_ok (q := (tWs[153]?).getD (0, 0, 0, 0)) (show ∀ ch ∈ tC153, _ from List.forall_mem_cons.mpr ⟨tc153_0, List.forall_mem_cons.mpr ⟨tc153_1, fun _ h => absurd h List.not_mem_nil⟩⟩) tw153 tm153
theorem tc154_0 : tC154_0.all (kEn tY154.1 tY154.2.1) = true := by decide +kernel
theorem tc154_1 : tC154_1.all (kEn tY154.1 tY154.2.1) = true := by decide +kernel
theorem tm154 : kM tM154 tY154 ((tWs[154]?).getD (0, 0, 0, 0)) = true := by decide +kernel
set_option maxRecDepth 20000 in
theorem tw154 : kW ((tWs[154]?).getD (0, 0, 0, 0)).1 = some (.code tY154.1 tY154.2.1 tM154.2.1 tY154.2.2) := rfl
theorem tk154 : eMok tCl lw_g tNs tMs tYs tM154 tY154 := kM_ok (q := (tWs[154]?).getD (0, 0, 0, 0)) (show ∀ ch ∈ tC154, _ from List.forall_mem_cons.mpr ⟨tc154_0, List.forall_mem_cons.mpr ⟨tc154_1, fun _ h => absurd h List.not_mem_nil⟩⟩) tw154 tm154
theorem tc155_0 : tC155_0.all (kEn tY155.1 tY155.2.1) = true := by decide +kernel
theorem tm155 : kM tM155 tY155 ((tWs[155]?).getD (0, 0, 0, 0)) = true := by decide +kernel
set_option maxRecDepth 20000 in
theorem tw155 : kW ((tWs[155]?).getD (0, 0, 0, 0)).1 = some (.code tY155.1 tY155.2.1 tM155.2.1 tY155.2.2) := rfl
theorem tk155 : eMok tCl lw_g tNs tMs tYs tM155 tY155 := kM_ok (q := (tWs[155]?).getD (0, 0, 0, 0)) (show ∀ ch ∈ tC155, _ from List.forall_mem_cons.mpr ⟨tc155_0, fun _ h => absurd h List.not_mem_nil⟩) tw155 tm155
theorem tc156_0 : tC156_0.all (kEn tY156.1 tY156.2.1) = true := by decide +kernel
theorem tm156 : kM tM156 tY156 ((tWs[156]?).getD (0, 0, 0, 0)) = true := by decide +kernel
set_option maxRecDepth 20000 in
theorem tw156 : kW ((tWs[156]?).getD (0, 0, 0, 0)).1 = some (.code tY156.1 tY156.2.1 tM156.2.1 tY156.2.2) := rfl
theorem tk156 : eMok tCl lw_g tNs tMs tYs tM156 tY156 := kM_ok (q := (tWs[156]?).getD (0, 0, 0, 0)) (show ∀ ch ∈ tC156, _ from List.forall_mem_cons.mpr ⟨tc156_0, fun _ h => absurd h List.not_mem_nil⟩) tw156 tm156
theorem tc157_0 : tC157_0.all (kEn tY157.1 tY157.2.1) = true := by decide +kernel
theorem tm157 : kM tM157 tY157 ((tWs[157]?).getD (0, 0, 0, 0)) = true := by decide +kernel
set_option maxRecDepth 20000 in
theorem tw157 : kW ((tWs[157]?).getD (0, 0, 0, 0)).1 = some (.code tY157.1 tY157.2.1 tM157.2.1 tY157.2.2) := rfl
theorem tk157 : eMok tCl lw_g tNs tMs tYs tM157 tY157 := kM_ok (q := (tWs[157]?).getD (0, 0, 0, 0)) (show ∀ ch ∈ tC157, _ from List.forall_mem_cons.mpr ⟨tc157_0, fun _ h => absurd h List.not_mem_nil⟩) tw157 tm157
theorem tc158_0 : tC158_0.all (kEn tY158.1 tY158.2.1) = true := by decide +kernel
theorem tc158_1 : tC158_1.all (kEn tY158.1 tY158.2.1) = true := by decide +kernel
theorem tm158 : kM tM158 tY158 ((tWs[158]?).getD (0, 0, 0, 0)) = true := by decide +kernel
set_option maxRecDepth 20000 in
theorem tw158 : kW ((tWs[158]?).getD (0, 0, 0, 0)).1 = some (.code tY158.1 tY158.2.1 tM158.2.1 tY158.2.2) := rfl
theorem tk158 : eMok tCl lw_g tNs tMs tYs tM158 tY158 := kM_ok (q := (tWs[158]?).getD (0, 0, 0, 0)) (show ∀ ch ∈ tC158, _ from List.forall_mem_cons.mpr ⟨tc158_0, List.forall_mem_cons.mpr ⟨tc158_1, fun _ h => absurd h List.not_mem_nil⟩⟩) tw158 tm158
theorem tc159_0 : tC159_0.all (kEn tY159.1 tY159.2.1) = true := by decide +kernel
theorem tc159_1 : tC159_1.all (kEn tY159.1 tY159.2.1) = true := by decide +kernel
theorem tm159 : kM tM159 tY159 ((tWs[159]?).getD (0, 0, 0, 0)) = true := by decide +kernel
set_option maxRecDepth 20000 in
theorem tw159 : kW ((tWs[159]?).getD (0, 0, 0, 0)).1 = some (.code tY159.1 tY159.2.1 tM159.2.1 tY159.2.2) := rfl
theorem tk159 : eMok tCl lw_g tNs tMs tYs tM159 tY159 := kM_ok (q := (tWs[159]?).getD (0, 0, 0, 0)) (show ∀ ch ∈ tC159, _ from List.forall_mem_cons.mpr ⟨tc159_0, List.forall_mem_cons.mpr ⟨tc159_1, fun _ h => absurd h List.not_mem_nil⟩⟩) tw159 tm159
theorem tc160_0 : tC160_0.all (kEn tY160.1 tY160.2.1) = true := by decide +kernel
theorem tm160 : kM tM160 tY160 ((tWs[160]?).getD (0, 0, 0, 0)) = true := by decide +kernel
set_option maxRecDepth 20000 in
theorem tw160 : kW ((tWs[160]?).getD (0, 0, 0, 0)).1 = some (.code tY160.1 tY160.2.1 tM160.2.1 tY160.2.2) := rfl
theorem tk160 : eMok tCl lw_g tNs tMs tYs tM160 tY160 := kM_ok (q := (tWs[160]?).getD (0, 0, 0, 0)) (show ∀ ch ∈ tC160, _ from List.forall_mem_cons.mpr ⟨tc160_0, fun _ h => absurd h List.not_mem_nil⟩) tw160 tm160
theorem tc161_0 : tC161_0.all (kEn tY161.1 tY161.2.1) = true := by decide +kernel
theorem tm161 : kM tM161 tY161 ((tWs[161]?).getD (0, 0, 0, 0)) = true := by decide +kernel
set_option maxRecDepth 20000 in
theorem tw161 : kW ((tWs[161]?).getD (0, 0, 0, 0)).1 = some (.code tY161.1 tY161.2.1 tM161.2.1 tY161.2.2) := rfl
theorem tk161 : eMok tCl lw_g tNs tMs tYs tM161 tY161 := kM_ok (q := (tWs[161]?).getD (0, 0, 0, 0)) (show ∀ ch ∈ tC161, _ from List.forall_mem_cons.mpr ⟨tc161_0, fun _ h => absurd h List.not_mem_nil⟩) tw161 tm161
theorem tc162_0 : tC162_0.all (kEn tY162.1 tY162.2.1) = true := by decide +kernel
theorem tm162 : kM tM162 tY162 ((tWs[162]?).getD (0, 0, 0, 0)) = true := by decide +kernel
set_option maxRecDepth 20000 in
theorem tw162 : kW ((tWs[162]?).getD (0, 0, 0, 0)).1 = some (.code tY162.1 tY162.2.1 tM162.2.1 tY162.2.2) := rfl
theorem tk162 : eMok tCl lw_g tNs tMs tYs tM162 tY162 := kM_ok (q := (tWs[162]?).getD (0, 0, 0, 0)) (show ∀ ch ∈ tC162, _ from List.forall_mem_cons.mpr ⟨tc162_0, fun _ h => absurd h List.not_mem_nil⟩) tw162 tm162
theorem tc163_0 : tC163_0.all (kEn tY163.1 tY163.2.1) = true := by decide +kernel
theorem tm163 : kM tM163 tY163 ((tWs[163]?).getD (0, 0, 0, 0)) = true := by decide +kernel
set_option maxRecDepth 20000 in
theorem tw163 : kW ((tWs[163]?).getD (0, 0, 0, 0)).1 = some (.code tY163.1 tY163.2.1 tM163.2.1 tY163.2.2) := rfl
theorem tk163 : eMok tCl lw_g tNs tMs tYs tM163 tY163 := kM_ok (q := (tWs[163]?).getD (0, 0, 0, 0)) (show ∀ ch ∈ tC163, _ from List.forall_mem_cons.mpr ⟨tc163_0, fun _ h => absurd h List.not_mem_nil⟩) tw163 tm163
theorem tc164_0 : tC164_0.all (kEn tY164.1 tY164.2.1) = true := by decide +kernel
theorem tc164_1 : tC164_1.all (kEn tY164.1 tY164.2.1) = true := by decide +kernel
theorem tm164 : kM tM164 tY164 ((tWs[164]?).getD (0, 0, 0, 0)) = true := by decide +kernel
set_option maxRecDepth 20000 in
theorem tw164 : kW ((tWs[164]?).getD (0, 0, 0, 0)).1 = some (.code tY164.1 tY164.2.1 tM164.2.1 tY164.2.2) := rfl
theorem tk164 : eMok tCl lw_g tNs tMs tYs tM164 tY164 := kM_ok (q := (tWs[164]?).getD (0, 0, 0, 0)) (show ∀ ch ∈ tC164, _ from List.forall_mem_cons.mpr ⟨tc164_0, List.forall_mem_cons.mpr ⟨tc164_1, fun _ h => absurd h List.not_mem_nil⟩⟩) tw164 tm164
theorem tc165_0 : tC165_0.all (kEn tY165.1 tY165.2.1) = true := by decide +kernel
theorem tc165_1 : tC165_1.all (kEn tY165.1 tY165.2.1) = true := by decide +kernel
theorem tc165_2 : tC165_2.all (kEn tY165.1 tY165.2.1) = true := by decide +kernel
theorem tm165 : kM tM165 tY165 ((tWs[165]?).getD (0, 0, 0, 0)) = true := by decide +kernel
set_option maxRecDepth 20000 in
theorem tw165 : kW ((tWs[165]?).getD (0, 0, 0, 0)).1 = some (.code tY165.1 tY165.2.1 tM165.2.1 tY165.2.2) := rfl
theorem tk165 : eMok tCl lw_g tNs tMs tYs tM165 tY165 := kM_ok (q := (tWs[165]?).getD (0, 0, 0, 0)) (show ∀ ch ∈ tC165, _ from List.forall_mem_cons.mpr ⟨tc165_0, List.forall_mem_cons.mpr ⟨tc165_1, List.forall_mem_cons.mpr ⟨tc165_2, fun _ h => absurd h List.not_mem_nil⟩⟩⟩) tw165 tm165
theorem tc166_0 : tC166_0.all (kEn tY166.1 tY166.2.1) = true := by decide +kernel
theorem tc166_1 : tC166_1.all (kEn tY166.1 tY166.2.1) = true := by decide +kernel
theorem tc166_2 : tC166_2.all (kEn tY166.1 tY166.2.1) = true := by decide +kernel
theorem tc166_3 : tC166_3.all (kEn tY166.1 tY166.2.1) = true := by decide +kernel
theorem tm166 : kM tM166 tY166 ((tWs[166]?).getD (0, 0, 0, 0)) = true := by decide +kernel
set_option maxRecDepth 20000 in
theorem tw166 : kW ((tWs[166]?).getD (0, 0, 0, 0)).1 = some (.code tY166.1 tY166.2.1 tM166.2.1 tY166.2.2) := rfl
theorem tk166 : eMok tCl lw_g tNs tMs tYs tM166 tY166 := kM_ok (q := (tWs[166]?).getD (0, 0, 0, 0)) (show ∀ ch ∈ tC166, _ from List.forall_mem_cons.mpr ⟨tc166_0, List.forall_mem_cons.mpr ⟨tc166_1, List.forall_mem_cons.mpr ⟨tc166_2, List.forall_mem_cons.mpr ⟨tc166_3, fun _ h => absurd h List.not_mem_nil⟩⟩⟩⟩) tw166 tm166
theorem tc167_0 : tC167_0.all (kEn tY167.1 tY167.2.1) = true := by decide +kernel
theorem tc167_1 : tC167_1.all (kEn tY167.1 tY167.2.1) = true := by decide +kernel
theorem tm167 : kM tM167 tY167 ((tWs[167]?).getD (0, 0, 0, 0)) = true := by decide +kernel
set_option maxRecDepth 20000 in
theorem tw167 : kW ((tWs[167]?).getD (0, 0, 0, 0)).1 = some (.code tY167.1 tY167.2.1 tM167.2.1 tY167.2.2) := rfl
theorem tk167 : eMok tCl lw_g tNs tMs tYs tM167 tY167 := kM_ok (q := (tWs[167]?).getD (0, 0, 0, 0)) (show ∀ ch ∈ tC167, _ from List.forall_mem_cons.mpr ⟨tc167_0, List.forall_mem_cons.mpr ⟨tc167_1, fun _ h => absurd h List.not_mem_nil⟩⟩) tw167 tm167
theorem tc168_0 : tC168_0.all (kEn tY168.1 tY168.2.1) = true := by decide +kernel
theorem tc168_1 : tC168_1.all (kEn tY168.1 tY168.2.1) = true := by decide +kernel
theorem tc168_2 : tC168_2.all (kEn tY168.1 tY168.2.1) = true := by decide +kernel
theorem tm168 : kM tM168 tY168 ((tWs[168]?).getD (0, 0, 0, 0)) = true := by decide +kernel
set_option maxRecDepth 20000 in
theorem tw168 : kW ((tWs[168]?).getD (0, 0, 0, 0)).1 = some (.code tY168.1 tY168.2.1 tM168.2.1 tY168.2.2) := rfl
theorem tk168 : eMok tCl lw_g tNs tMs tYs tM168 tY168 := kM_ok (q := (tWs[168]?).getD (0, 0, 0, 0)) (show ∀ ch ∈ tC168, _ from List.forall_mem_cons.mpr ⟨tc168_0, List.forall_mem_cons.mpr ⟨tc168_1, List.forall_mem_cons.mpr ⟨tc168_2, fun _ h => absurd h List.not_mem_nil⟩⟩⟩) tw168 tm168
theorem tc169_0 : tC169_0.all (kEn tY169.1 tY169.2.1) = true := by decide +kernel
theorem tm169 : kM tM169 tY169 ((tWs[169]?).getD (0, 0, 0, 0)) = true := by decide +kernel
set_option maxRecDepth 20000 in
theorem tw169 : kW ((tWs[169]?).getD (0, 0, 0, 0)).1 = some (.code tY169.1 tY169.2.1 tM169.2.1 tY169.2.2) := rfl
theorem tk169 : eMok tCl lw_g tNs tMs tYs tM169 tY169 := kM_ok (q := (tWs[169]?).getD (0, 0, 0, 0)) (show ∀ ch ∈ tC169, _ from List.forall_mem_cons.mpr ⟨tc169_0, fun _ h => absurd h List.not_mem_nil⟩) tw169 tm169
theorem tc170_0 : tC170_0.all (kEn tY170.1 tY170.2.1) = true := by decide +kernel
theorem tc170_1 : tC170_1.all (kEn tY170.1 tY170.2.1) = true := by decide +kernel
theorem tm170 : kM tM170 tY170 ((tWs[170]?).getD (0, 0, 0, 0)) = true := by decide +kernel
set_option maxRecDepth 20000 in
theorem tw170 : kW ((tWs[170]?).getD (0, 0, 0, 0)).1 = some (.code tY170.1 tY170.2.1 tM170.2.1 tY170.2.2) := rfl
theorem tk170 : eMok tCl lw_g tNs tMs tYs tM170 tY170 := kM_ok (q := (tWs[170]?).getD (0, 0, 0, 0)) (show ∀ ch ∈ tC170, _ from List.forall_mem_cons.mpr ⟨tc170_0, List.forall_mem_cons.mpr ⟨tc170_1, fun _ h => absurd h List.not_mem_nil⟩⟩) tw170 tm170
theorem tc171_0 : tC171_0.all (kEn tY171.1 tY171.2.1) = true := by decide +kernel
theorem tm171 : kM tM171 tY171 ((tWs[171]?).getD (0, 0, 0, 0)) = true := by decide +kernel
set_option maxRecDepth 20000 in
theorem tw171 : kW ((tWs[171]?).getD (0, 0, 0, 0)).1 = some (.code tY171.1 tY171.2.1 tM171.2.1 tY171.2.2) := rfl
theorem tk171 : eMok tCl lw_g tNs tMs tYs tM171 tY171 := kM_ok (q := (tWs[171]?).getD (0, 0, 0, 0)) (show ∀ ch ∈ tC171, _ from List.forall_mem_cons.mpr ⟨tc171_0, fun _ h => absurd h List.not_mem_nil⟩) tw171 tm171
theorem tc172_0 : tC172_0.all (kEn tY172.1 tY172.2.1) = true := by decide +kernel
theorem tm172 : kM tM172 tY172 ((tWs[172]?).getD (0, 0, 0, 0)) = true := by decide +kernel
set_option maxRecDepth 20000 in
theorem tw172 : kW ((tWs[172]?).getD (0, 0, 0, 0)).1 = some (.code tY172.1 tY172.2.1 tM172.2.1 tY172.2.2) := rfl
theorem tk172 : eMok tCl lw_g tNs tMs tYs tM172 tY172 := kM_ok (q := (tWs[172]?).getD (0, 0, 0, 0)) (show ∀ ch ∈ tC172, _ from List.forall_mem_cons.mpr ⟨tc172_0, fun _ h => absurd h List.not_mem_nil⟩) tw172 tm172
theorem tc173_0 : tC173_0.all (kEn tY173.1 tY173.2.1) = true := by decide +kernel
theorem tc173_1 : tC173_1.all (kEn tY173.1 tY173.2.1) = true := by decide +kernel
theorem tm173 : kM tM173 tY173 ((tWs[173]?).getD (0, 0, 0, 0)) = true := by decide +kernel
set_option maxRecDepth 20000 in
theorem tw173 : kW ((tWs[173]?).getD (0, 0, 0, 0)).1 = some (.code tY173.1 tY173.2.1 tM173.2.1 tY173.2.2) := rfl
theorem tk173 : eMok tCl lw_g tNs tMs tYs tM173 tY173 := kM_ok (q := (tWs[173]?).getD (0, 0, 0, 0)) (show ∀ ch ∈ tC173, _ from List.forall_mem_cons.mpr ⟨tc173_0, List.forall_mem_cons.mpr ⟨tc173_1, fun _ h => absurd h List.not_mem_nil⟩⟩) tw173 tm173
theorem tc174_0 : tC174_0.all (kEn tY174.1 tY174.2.1) = true := by decide +kernel
theorem tc174_1 : tC174_1.all (kEn tY174.1 tY174.2.1) = true := by decide +kernel
theorem tm174 : kM tM174 tY174 ((tWs[174]?).getD (0, 0, 0, 0)) = true := by decide +kernel
set_option maxRecDepth 20000 in
theorem tw174 : kW ((tWs[174]?).getD (0, 0, 0, 0)).1 = some (.code tY174.1 tY174.2.1 tM174.2.1 tY174.2.2) := rfl
theorem tk174 : eMok tCl lw_g tNs tMs tYs tM174 tY174 := kM_ok (q := (tWs[174]?).getD (0, 0, 0, 0)) (show ∀ ch ∈ tC174, _ from List.forall_mem_cons.mpr ⟨tc174_0, List.forall_mem_cons.mpr ⟨tc174_1, fun _ h => absurd h List.not_mem_nil⟩⟩) tw174 tm174
theorem tc175_0 : tC175_0.all (kEn tY175.1 tY175.2.1) = true := by decide +kernel
theorem tm175 : kM tM175 tY175 ((tWs[175]?).getD (0, 0, 0, 0)) = true := by decide +kernel
set_option maxRecDepth 20000 in
theorem tw175 : kW ((tWs[175]?).getD (0, 0, 0, 0)).1 = some (.code tY175.1 tY175.2.1 tM175.2.1 tY175.2.2) := rfl
theorem tk175 : eMok tCl lw_g tNs tMs tYs tM175 tY175 := kM_ok (q := (tWs[175]?).getD (0, 0, 0, 0)) (show ∀ ch ∈ tC175, _ from List.forall_mem_cons.mpr ⟨tc175_0, fun _ h => absurd h List.not_mem_nil⟩) tw175 tm175
theorem tc176_0 : tC176_0.all (kEn tY176.1 tY176.2.1) = true := by decide +kernel
theorem tm176 : kM tM176 tY176 ((tWs[176]?).getD (0, 0, 0, 0)) = true := by decide +kernel
set_option maxRecDepth 20000 in
theorem tw176 : kW ((tWs[176]?).getD (0, 0, 0, 0)).1 = some (.code tY176.1 tY176.2.1 tM176.2.1 tY176.2.2) := rfl
theorem tk176 : eMok tCl lw_g tNs tMs tYs tM176 tY176 := kM_ok (q := (tWs[176]?).getD (0, 0, 0, 0)) (show ∀ ch ∈ tC176, _ from List.forall_mem_cons.mpr ⟨tc176_0, fun _ h => absurd h List.not_mem_nil⟩) tw176 tm176
theorem tc177_0 : tC177_0.all (kEn tY177.1 tY177.2.1) = true := by decide +kernel
theorem tc177_1 : tC177_1.all (kEn tY177.1 tY177.2.1) = true := by decide +kernel
theorem tc177_2 : tC177_2.all (kEn tY177.1 tY177.2.1) = true := by decide +kernel
theorem tc177_3 : tC177_3.all (kEn tY177.1 tY177.2.1) = true := by decide +kernel
theorem tc177_4 : tC177_4.all (kEn tY177.1 tY177.2.1) = true := by decide +kernel
theorem tc177_5 : tC177_5.all (kEn tY177.1 tY177.2.1) = true := by decide +kernel
theorem tc177_6 : tC177_6.all (kEn tY177.1 tY177.2.1) = true := by decide +kernel
theorem tc177_7 : tC177_7.all (kEn tY177.1 tY177.2.1) = true := by decide +kernel
theorem tm177 : kM tM177 tY177 ((tWs[177]?).getD (0, 0, 0, 0)) = true := by decide +kernel
set_option maxRecDepth 20000 in
theorem tw177 : kW ((tWs[177]?).getD (0, 0, 0, 0)).1 = some (.code tY177.1 tY177.2.1 tM177.2.1 tY177.2.2) := rfl
theorem tk177 : eMok tCl lw_g tNs tMs tYs tM177 tY177 := kM_ok (q := (tWs[177]?).getD (0, 0, 0, 0)) (show ∀ ch ∈ tC177, _ from List.forall_mem_cons.mpr ⟨tc177_0, List.forall_mem_cons.mpr ⟨tc177_1, List.forall_mem_cons.mpr ⟨tc177_2, List.forall_mem_cons.mpr ⟨tc177_3, List.forall_mem_cons.mpr ⟨tc177_4, List.forall_mem_cons.mpr ⟨tc177_5, List.forall_mem_cons.mpr ⟨tc177_6, List.forall_mem_cons.mpr ⟨tc177_7, fun _ h => absurd h List.not_mem_nil⟩⟩⟩⟩⟩⟩⟩⟩) tw177 tm177
theorem tc178_0 : tC178_0.all (kEn tY178.1 tY178.2.1) = true := by decide +kernel
theorem tc178_1 : tC178_1.all (kEn tY178.1 tY178.2.1) = true := by decide +kernel
theorem tm178 : kM tM178 tY178 ((tWs[178]?).getD (0, 0, 0, 0)) = true := by decide +kernel
set_option maxRecDepth 20000 in
theorem tw178 : kW ((tWs[178]?).getD (0, 0, 0, 0)).1 = some (.code tY178.1 tY178.2.1 tM178.2.1 tY178.2.2) := rfl
theorem tk178 : eMok tCl lw_g tNs tMs tYs tM178 tY178 := kM_ok (q := (tWs[178]?).getD (0, 0, 0, 0)) (show ∀ ch ∈ tC178, _ from List.forall_mem_cons.mpr ⟨tc178_0, List.forall_mem_cons.mpr ⟨tc178_1, fun _ h => absurd h List.not_mem_nil⟩⟩) tw178 tm178
theorem tc179_0 : tC179_0.all (kEn tY179.1 tY179.2.1) = true := by decide +kernel
theorem tm179 : kM tM179 tY179 ((tWs[179]?).getD (0, 0, 0, 0)) = true := by decide +kernel
set_option maxRecDepth 20000 in
theorem tw179 : kW ((tWs[179]?).getD (0, 0, 0, 0)).1 = some (.code tY179.1 tY179.2.1 tM179.2.1 tY179.2.2) := rfl
theorem tk179 : eMok tCl lw_g tNs tMs tYs tM179 tY179 := kM_ok (q := (tWs[179]?).getD (0, 0, 0, 0)) (show ∀ ch ∈ tC179, _ from List.forall_mem_cons.mpr ⟨tc179_0, fun _ h => absurd h List.not_mem_nil⟩) tw179 tm179
theorem tc180_0 : tC180_0.all (kEn tY180.1 tY180.2.1) = true := by decide +kernel
theorem tc180_1 : tC180_1.all (kEn tY180.1 tY180.2.1) = true := by decide +kernel
theorem tm180 : kM tM180 tY180 ((tWs[180]?).getD (0, 0, 0, 0)) = true := by decide +kernel
set_option maxRecDepth 20000 in
theorem tw180 : kW ((tWs[180]?).getD (0, 0, 0, 0)).1 = some (.code tY180.1 tY180.2.1 tM180.2.1 tY180.2.2) := rfl
theorem tk180 : eMok tCl lw_g tNs tMs tYs tM180 tY180 := kM_ok (q := (tWs[180]?).getD (0, 0, 0, 0)) (show ∀ ch ∈ tC180, _ from List.forall_mem_cons.mpr ⟨tc180_0, List.forall_mem_cons.mpr ⟨tc180_1, fun _ h => absurd h List.not_mem_nil⟩⟩) tw180 tm180
end
section
theorem tc181_0 : tC181_0.all (kEn tY181.1 tY181.2.1) = true := by decide +kernel
theorem tm181 : kM tM181 tY181 ((tWs[181]?).getD (0, 0, 0, 0)) = true := by decide +kernel
set_option maxRecDepth 20000 in
theorem tw181 : kW ((tWs[181]?).getD (0, 0, 0, 0)).1 = some (.code tY181.1 tY181.2.1 tM181.2.1 tY181.2.2) := rfl
theorem tk181 : eMok tCl lw_g tNs tMs tYs tM181 tY181 := kM_ok (q := (tWs[181]?).getD (0, 0, 0, 0)) (show ∀ ch ∈ tC181, _ from List.forall_mem_cons.mpr ⟨tc181_0, fun _ h => absurd h List.not_mem_nil⟩) tw181 tm181
end
section
theorem tOk : eAll (eMok tCl lw_g tNs tMs tYs) tMs tYs := ⟨tk0, ⟨tk1, ⟨tk2, ⟨tk3, ⟨tk4, ⟨tk5, ⟨tk6, ⟨tk7, ⟨tk8, ⟨tk9, ⟨tk10, ⟨tk11, ⟨tk12, ⟨tk13, ⟨tk14, ⟨tk15, ⟨tk16, ⟨tk17, ⟨tk18, ⟨tk19, ⟨tk20, ⟨tk21, ⟨tk22, ⟨tk23, ⟨tk24, ⟨tk25, ⟨tk26, ⟨tk27, ⟨tk28, ⟨tk29, ⟨tk30, ⟨tk31, ⟨tk32, ⟨tk33, ⟨tk34, ⟨tk35, ⟨tk36, ⟨tk37, ⟨tk38, ⟨tk39, ⟨tk40, ⟨tk41, ⟨tk42, ⟨tk43, ⟨tk44, ⟨tk45, ⟨tk46, ⟨tk47, ⟨tk48, ⟨tk49, ⟨tk50, ⟨tk51, ⟨tk52, ⟨tk53, ⟨tk54, ⟨tk55, ⟨tk56, ⟨tk57, ⟨tk58, ⟨tk59, ⟨tk60, ⟨tk61, ⟨tk62, ⟨tk63, ⟨tk64, ⟨tk65, ⟨tk66, ⟨tk67, ⟨tk68, ⟨tk69, ⟨tk70, ⟨tk71, ⟨tk72, ⟨tk73, ⟨tk74, ⟨tk75, ⟨tk76, ⟨tk77, ⟨tk78, ⟨tk79, ⟨tk80, ⟨tk81, ⟨tk82, ⟨tk83, ⟨tk84, ⟨tk85, ⟨tk86, ⟨tk87, ⟨tk88, ⟨tk89, ⟨tk90, ⟨tk91, ⟨tk92, ⟨tk93, ⟨tk94, ⟨tk95, ⟨tk96, ⟨tk97, ⟨tk98, ⟨tk99, ⟨tk100, ⟨tk101, ⟨tk102, ⟨tk103, ⟨tk104, ⟨tk105, ⟨tk106, ⟨tk107, ⟨tk108, ⟨tk109, ⟨tk110, ⟨tk111, ⟨tk112, ⟨tk113, ⟨tk114, ⟨tk115, ⟨tk116, ⟨tk117, ⟨tk118, ⟨tk119, ⟨tk120, ⟨tk121, ⟨tk122, ⟨tk123, ⟨tk124, ⟨tk125, ⟨tk126, ⟨tk127, ⟨tk128, ⟨tk129, ⟨tk130, ⟨tk131, ⟨tk132, ⟨tk133, ⟨tk134, ⟨tk135, ⟨tk136, ⟨tk137, ⟨tk138, ⟨tk139, ⟨tk140, ⟨tk141, ⟨tk142, ⟨tk143, ⟨tk144, ⟨tk145, ⟨tk146, ⟨tk147, ⟨tk148, ⟨tk149, ⟨tk150, ⟨tk151, ⟨tk152, ⟨tk153, ⟨tk154, ⟨tk155, ⟨tk156, ⟨tk157, ⟨tk158, ⟨tk159, ⟨tk160, ⟨tk161, ⟨tk162, ⟨tk163, ⟨tk164, ⟨tk165, ⟨tk166, ⟨tk167, ⟨tk168, ⟨tk169, ⟨tk170, ⟨tk171, ⟨tk172, ⟨tk173, ⟨tk174, ⟨tk175, ⟨tk176, ⟨tk177, ⟨tk178, ⟨tk179, ⟨tk180, ⟨tk181, trivial⟩⟩⟩⟩⟩⟩⟩⟩⟩⟩⟩⟩⟩⟩⟩⟩⟩⟩⟩⟩⟩⟩⟩⟩⟩⟩⟩⟩⟩⟩⟩⟩⟩⟩⟩⟩⟩⟩⟩⟩⟩⟩⟩⟩⟩⟩⟩⟩⟩⟩⟩⟩⟩⟩⟩⟩⟩⟩⟩⟩⟩⟩⟩⟩⟩⟩⟩⟩⟩⟩⟩⟩⟩⟩⟩⟩⟩⟩⟩⟩⟩⟩⟩⟩⟩⟩⟩⟩⟩⟩⟩⟩⟩⟩⟩⟩⟩⟩⟩⟩⟩⟩⟩⟩⟩⟩⟩⟩⟩⟩⟩⟩⟩⟩⟩⟩⟩⟩⟩⟩⟩⟩⟩⟩⟩⟩⟩⟩⟩⟩⟩⟩⟩⟩⟩⟩⟩⟩⟩⟩⟩⟩⟩⟩⟩⟩⟩⟩⟩⟩⟩⟩⟩⟩⟩⟩⟩⟩⟩⟩⟩⟩⟩⟩⟩⟩⟩⟩⟩⟩⟩⟩⟩⟩⟩⟩⟩⟩⟩⟩⟩⟩
end
section
/-! THE TEXT OF WORDS: String.length and charAt of the one literal, by hand; they only read -/
def tTx : String := "flat wire use goes quarrel costs pays surge coins seed if then else load rating age hour day amps temper dark which "
def tLen : List Nat := [116]
def tByt : List (List Int32) := [[102, 108, 97, 116, 32, 119, 105, 114, 101, 32, 117, 115, 101, 32, 103, 111, 101, 115, 32, 113, 117, 97, 114, 114, 101, 108, 32, 99, 111, 115, 116, 115, 32, 112, 97, 121, 115, 32, 115, 117, 114, 103, 101, 32, 99, 111, 105, 110, 115, 32, 115, 101, 101, 100, 32, 105, 102, 32, 116, 104, 101, 110, 32, 101, 108, 115, 101, 32, 108, 111, 97, 100, 32, 114, 97, 116, 105, 110, 103, 32, 97, 103, 101, 32, 104, 111, 117, 114, 32, 100, 97, 121, 32, 97, 109, 112, 115, 32, 116, 101, 109, 112, 101, 114, 32, 100, 97, 114, 107, 32, 119, 104, 105, 99, 104, 32]]
abbrev jB_len : ByteArray := prog_17_method_54_code
def jY_len : MethodName := ⟨"java/lang/String", "length", "()I"⟩
theorem jC_len : Cond.code jY_len jB_len 1 (some .int) ∈ lw_g := List.mem_filter.mpr ⟨kW_ok (c := 1178) rfl, rfl⟩
theorem jD_len_0 : decode jB_len 0 = .ok (.aload_n 0, 1) := by decide +kernel
theorem jD_len_1 : decode jB_len 1 = .ok (.getfield 9, 3) := by decide +kernel
theorem jD_len_4 : decode jB_len 4 = .ok (.arraylength, 1) := by decide +kernel
theorem jD_len_5 : decode jB_len 5 = .ok (.aload_n 0, 1) := by decide +kernel
theorem jD_len_6 : decode jB_len 6 = .ok (.invokevirtual 335, 3) := by decide +kernel
theorem jD_len_9 : decode jB_len 9 = .ok (.ishr, 1) := by decide +kernel
theorem jD_len_10 : decode jB_len 10 = .ok (.ireturn, 1) := by decide +kernel
theorem jI_len : Cond.instanceMethod jY_len ∈ lw_g := kIs_ok (c := 1176) (by decide +kernel)
theorem jV_len : Cond.selects jY_len.cls jY_len jY_len ∈ lw_g := kIs_ok (c := 1177) (by decide +kernel)
theorem jN_len : Cond.initialized jY_len.cls ∈ lw_g := kIs_ok (c := 1005) (by decide +kernel)
abbrev jB_chr : ByteArray := prog_17_method_56_code
def jY_chr : MethodName := ⟨"java/lang/String", "charAt", "(I)C"⟩
theorem jC_chr : Cond.code jY_chr jB_chr 2 (some .char) ∈ lw_g := List.mem_filter.mpr ⟨kW_ok (c := 1188) rfl, rfl⟩
theorem jD_chr_0 : decode jB_chr 0 = .ok (.aload_n 0, 1) := by decide +kernel
theorem jD_chr_1 : decode jB_chr 1 = .ok (.invokevirtual 492, 3) := by decide +kernel
theorem jD_chr_4 : decode jB_chr 4 = .ok (.ifCond .eq 12, 3) := by decide +kernel
theorem jD_chr_7 : decode jB_chr 7 = .ok (.aload_n 0, 1) := by decide +kernel
theorem jD_chr_8 : decode jB_chr 8 = .ok (.getfield 9, 3) := by decide +kernel
theorem jD_chr_11 : decode jB_chr 11 = .ok (.iload_n 1, 1) := by decide +kernel
theorem jD_chr_12 : decode jB_chr 12 = .ok (.invokestatic 495, 3) := by decide +kernel
theorem jD_chr_15 : decode jB_chr 15 = .ok (.ireturn, 1) := by decide +kernel
theorem jD_chr_16 : decode jB_chr 16 = .ok (.aload_n 0, 1) := by decide +kernel
theorem jD_chr_17 : decode jB_chr 17 = .ok (.getfield 9, 3) := by decide +kernel
theorem jD_chr_20 : decode jB_chr 20 = .ok (.iload_n 1, 1) := by decide +kernel
theorem jD_chr_21 : decode jB_chr 21 = .ok (.invokestatic 498, 3) := by decide +kernel
theorem jD_chr_24 : decode jB_chr 24 = .ok (.ireturn, 1) := by decide +kernel
theorem jI_chr : Cond.instanceMethod jY_chr ∈ lw_g := kIs_ok (c := 1186) (by decide +kernel)
theorem jV_chr : Cond.selects jY_chr.cls jY_chr jY_chr ∈ lw_g := kIs_ok (c := 1187) (by decide +kernel)
theorem jN_chr : Cond.initialized jY_chr.cls ∈ lw_g := kIs_ok (c := 1005) (by decide +kernel)
abbrev jB_cod : ByteArray := prog_17_method_152_code
def jY_cod : MethodName := ⟨"java/lang/String", "coder", "()B"⟩
theorem jC_cod : Cond.code jY_cod jB_cod 1 (some .byte) ∈ lw_g := List.mem_filter.mpr ⟨kW_ok (c := 1182) rfl, rfl⟩
theorem jD_cod_0 : decode jB_cod 0 = .ok (.getstatic 38, 3) := by decide +kernel
theorem jD_cod_3 : decode jB_cod 3 = .ok (.ifCond .eq 10, 3) := by decide +kernel
theorem jD_cod_6 : decode jB_cod 6 = .ok (.aload_n 0, 1) := by decide +kernel
theorem jD_cod_7 : decode jB_cod 7 = .ok (.getfield 15, 3) := by decide +kernel
theorem jD_cod_10 : decode jB_cod 10 = .ok (.goto 4, 3) := by decide +kernel
theorem jD_cod_13 : decode jB_cod 13 = .ok (.iconst 1, 1) := by decide +kernel
theorem jD_cod_14 : decode jB_cod 14 = .ok (.ireturn, 1) := by decide +kernel
theorem jI_cod : Cond.instanceMethod jY_cod ∈ lw_g := kIs_ok (c := 1180) (by decide +kernel)
theorem jV_cod : Cond.selects jY_cod.cls jY_cod jY_cod ∈ lw_g := kIs_ok (c := 1181) (by decide +kernel)
theorem jN_cod : Cond.initialized jY_cod.cls ∈ lw_g := kIs_ok (c := 1005) (by decide +kernel)
abbrev jB_lat : ByteArray := prog_17_method_154_code
def jY_lat : MethodName := ⟨"java/lang/String", "isLatin1", "()Z"⟩
theorem jC_lat : Cond.code jY_lat jB_lat 1 (some .boolean) ∈ lw_g := List.mem_filter.mpr ⟨kW_ok (c := 1192) rfl, rfl⟩
theorem jD_lat_0 : decode jB_lat 0 = .ok (.getstatic 38, 3) := by decide +kernel
theorem jD_lat_3 : decode jB_lat 3 = .ok (.ifCond .eq 14, 3) := by decide +kernel
theorem jD_lat_6 : decode jB_lat 6 = .ok (.aload_n 0, 1) := by decide +kernel
theorem jD_lat_7 : decode jB_lat 7 = .ok (.getfield 15, 3) := by decide +kernel
theorem jD_lat_10 : decode jB_lat 10 = .ok (.ifCond .ne 7, 3) := by decide +kernel
theorem jD_lat_13 : decode jB_lat 13 = .ok (.iconst 1, 1) := by decide +kernel
theorem jD_lat_14 : decode jB_lat 14 = .ok (.goto 4, 3) := by decide +kernel
theorem jD_lat_17 : decode jB_lat 17 = .ok (.iconst 0, 1) := by decide +kernel
theorem jD_lat_18 : decode jB_lat 18 = .ok (.ireturn, 1) := by decide +kernel
theorem jI_lat : Cond.instanceMethod jY_lat ∈ lw_g := kIs_ok (c := 1190) (by decide +kernel)
theorem jV_lat : Cond.selects jY_lat.cls jY_lat jY_lat ∈ lw_g := kIs_ok (c := 1191) (by decide +kernel)
theorem jN_lat : Cond.initialized jY_lat.cls ∈ lw_g := kIs_ok (c := 1005) (by decide +kernel)
abbrev jB_chk : ByteArray := prog_17_method_155_code
def jY_chk : MethodName := ⟨"java/lang/String", "checkIndex", "(II)V"⟩
theorem jC_chk : Cond.code jY_chk jB_chk 2 none ∈ lw_g := List.mem_filter.mpr ⟨kW_ok (c := 1198) rfl, rfl⟩
theorem jD_chk_0 : decode jB_chk 0 = .ok (.iload_n 0, 1) := by decide +kernel
theorem jD_chk_1 : decode jB_chk 1 = .ok (.iload_n 1, 1) := by decide +kernel
theorem jD_chk_2 : decode jB_chk 2 = .ok (.getstatic 1053, 3) := by decide +kernel
theorem jD_chk_5 : decode jB_chk 5 = .ok (.invokestatic 1059, 3) := by decide +kernel
theorem jD_chk_8 : decode jB_chk 8 = .ok (.pop, 1) := by decide +kernel
theorem jD_chk_9 : decode jB_chk 9 = .ok (.return_, 1) := by decide +kernel
theorem jS_chk : Cond.static jY_chk ∈ lw_g := kIs_ok (c := 1197) (by decide +kernel)
theorem jN_chk : Cond.initialized jY_chk.cls ∈ lw_g := kIs_ok (c := 1005) (by decide +kernel)
abbrev jB_lch : ByteArray := prog_18_method_2_code
def jY_lch : MethodName := ⟨"java/lang/StringLatin1", "charAt", "([BI)C"⟩
theorem jC_lch : Cond.code jY_lch jB_lch 2 (some .char) ∈ lw_g := List.mem_filter.mpr ⟨kW_ok (c := 1195) rfl, rfl⟩
theorem jD_lch_0 : decode jB_lch 0 = .ok (.iload_n 1, 1) := by decide +kernel
theorem jD_lch_1 : decode jB_lch 1 = .ok (.aload_n 0, 1) := by decide +kernel
theorem jD_lch_2 : decode jB_lch 2 = .ok (.arraylength, 1) := by decide +kernel
theorem jD_lch_3 : decode jB_lch 3 = .ok (.invokestatic 9, 3) := by decide +kernel
theorem jD_lch_6 : decode jB_lch 6 = .ok (.aload_n 0, 1) := by decide +kernel
theorem jD_lch_7 : decode jB_lch 7 = .ok (.iload_n 1, 1) := by decide +kernel
theorem jD_lch_8 : decode jB_lch 8 = .ok (.baload, 1) := by decide +kernel
theorem jD_lch_9 : decode jB_lch 9 = .ok (.sipush 255, 3) := by decide +kernel
theorem jD_lch_12 : decode jB_lch 12 = .ok (.iand, 1) := by decide +kernel
theorem jD_lch_13 : decode jB_lch 13 = .ok (.i2c, 1) := by decide +kernel
theorem jD_lch_14 : decode jB_lch 14 = .ok (.ireturn, 1) := by decide +kernel
theorem jS_lch : Cond.static jY_lch ∈ lw_g := kIs_ok (c := 1194) (by decide +kernel)
theorem jN_lch : Cond.initialized jY_lch.cls ∈ lw_g := kIs_ok (c := 1006) (by decide +kernel)
abbrev jB_pre : ByteArray := prog_22_method_11_code
def jY_pre : MethodName := ⟨"jdk/internal/util/Preconditions", "checkIndex", "(IILjava/util/function/BiFunction;)I"⟩
theorem jC_pre : Cond.code jY_pre jB_pre 3 (some .int) ∈ lw_g := List.mem_filter.mpr ⟨kW_ok (c := 1203) rfl, rfl⟩
theorem jD_pre_0 : decode jB_pre 0 = .ok (.iload_n 0, 1) := by decide +kernel
theorem jD_pre_1 : decode jB_pre 1 = .ok (.ifCond .lt 8, 3) := by decide +kernel
theorem jD_pre_4 : decode jB_pre 4 = .ok (.iload_n 0, 1) := by decide +kernel
theorem jD_pre_5 : decode jB_pre 5 = .ok (.iload_n 1, 1) := by decide +kernel
theorem jD_pre_6 : decode jB_pre 6 = .ok (.if_icmp .lt 10, 3) := by decide +kernel
theorem jD_pre_9 : decode jB_pre 9 = .ok (.aload_n 2, 1) := by decide +kernel
theorem jD_pre_10 : decode jB_pre 10 = .ok (.iload_n 0, 1) := by decide +kernel
theorem jD_pre_11 : decode jB_pre 11 = .ok (.iload_n 1, 1) := by decide +kernel
theorem jD_pre_12 : decode jB_pre 12 = .ok (.invokestatic 95, 3) := by decide +kernel
theorem jD_pre_15 : decode jB_pre 15 = .ok (.athrow, 1) := by decide +kernel
theorem jD_pre_16 : decode jB_pre 16 = .ok (.iload_n 0, 1) := by decide +kernel
theorem jD_pre_17 : decode jB_pre 17 = .ok (.ireturn, 1) := by decide +kernel
theorem jS_pre : Cond.static jY_pre ∈ lw_g := kIs_ok (c := 1202) (by decide +kernel)
theorem jN_pre : Cond.initialized jY_pre.cls ∈ lw_g := kIs_ok (c := 1007) (by decide +kernel)
theorem jF_38 : Cond.fieldLink "java/lang/String" 38 "java/lang/String" "COMPACT_STRINGS" "Z" ∈ lw_g := kIs_ok (c := 1183) (by decide +kernel)
theorem jF_1053 : Cond.fieldLink "java/lang/String" 1053 "jdk/internal/util/Preconditions" "SIOOBE_FORMATTER" "Ljava/util/function/BiFunction;" ∈ lw_g := kIs_ok (c := 1199) (by decide +kernel)
theorem jF_9 : Cond.fieldLink "java/lang/String" 9 "java/lang/String" "value" "[B" ∈ lw_g := kIs_ok (c := 8183) (by decide +kernel)
theorem jF_15 : Cond.fieldLink "java/lang/String" 15 "java/lang/String" "coder" "B" ∈ lw_g := kIs_ok (c := 8184) (by decide +kernel)
theorem jM_len_31 : Cond.methodLink "FuseTreaty$Tokens" 31 jY_len ∈ lw_g := kIs_ok (c := 1175) (by decide +kernel)
theorem jM_chr_36 : Cond.methodLink "FuseTreaty$Tokens" 36 jY_chr ∈ lw_g := kIs_ok (c := 1185) (by decide +kernel)
theorem jM_cod_335 : Cond.methodLink "java/lang/String" 335 jY_cod ∈ lw_g := kIs_ok (c := 1179) (by decide +kernel)
theorem jM_lat_492 : Cond.methodLink "java/lang/String" 492 jY_lat ∈ lw_g := kIs_ok (c := 1189) (by decide +kernel)
theorem jM_lch_495 : Cond.methodLink "java/lang/String" 495 jY_lch ∈ lw_g := kIs_ok (c := 1193) (by decide +kernel)
theorem jM_chk_9 : Cond.methodLink "java/lang/StringLatin1" 9 jY_chk ∈ lw_g := kIs_ok (c := 1196) (by decide +kernel)
theorem jM_pre_1059 : Cond.methodLink "java/lang/String" 1059 jY_pre ∈ lw_g := kIs_ok (c := 1201) (by decide +kernel)
def tFz (adK adV : Nat → Nat) : (Nat → Prop) → State → Heap → Prop := fun A U H => vk_S 1 tLen tByt adK adV A U H ∧ va_Z "java/lang/String" "COMPACT_STRINGS" "Z" (.int 1) A U H ∧ va_Zq "jdk/internal/util/Preconditions" "SIOOBE_FORMATTER" "Ljava/util/function/BiFunction;" A U H ∧ vk_R "FuseTreaty$Tokens" 29 tTx (adK 0) U
theorem tFzOk (adK adV : Nat → Nat) : eFzOk (tFz adK adV) := by
  refine ⟨fun A B U U' H H' h hW hq hAB => ?_, fun A U U' H h hv => ?_⟩
  · obtain ⟨h1, h2, h3, h4⟩ := h
    exact ⟨((h1.moved hW.alike).kept hq).narrow hAB, ((h2.moved hW.alike).kept hq).narrow hAB, ((h3.moved hW.alike).kept hq).narrow hAB, h4.warm hW⟩
  · obtain ⟨h1, h2, h3, h4⟩ := h
    have hal : U.vm.Alike U'.vm := by rw [hv]; exact Vm.Alike.refl _
    exact ⟨h1.moved hal, h2.moved hal, h3.moved hal, h4.same hv.symm⟩
def jRm (d : Nat) : Room := { frames := d, cells := 0, slots := 0, locals := 128 * d }
def jP (adK adV : Nat → Nat) (U : State) : Prop := tFz adK adV (fun _ => False) U U.heap
theorem jBl (adK adV : Nat → Nat) (av : List Value) : FrameBlind (va_Pc av (jP adK adV)) := fun a U g mk q => ⟨q.1, (tFzOk adK adV).2 _ U _ _ q.2 rfl⟩
theorem jPre {adK adV : Nat → Nat} {s U : State} (h : jP adK adV s) (hU : U.heap = s.heap) (hW : s.WarmedH U.vm) : jP adK adV U := (tFzOk adK adV).1 _ _ s U _ _ h hW (fun q _ _ => by rw [hU]) (fun _ q => q)
theorem jG {y : MethodName} {b : ByteArray} {n : Nat} {r : Option FieldType} (h : Cond.code y b n r ∈ lw_g) : GoodIn lw_g (Cond.code y b n r :: lw_g) := fun w hw => by
  rcases List.mem_cons.mp hw with rfl | hw
  · exact ⟨h, lw_g_good _ h⟩
  · exact ⟨hw, lw_g_good _ hw⟩
set_option maxRecDepth 20000 in
theorem c_cod (l0 : Launch) (adK adV : Nat → Nat) : Met l0 jY_cod (Cond.code jY_cod jB_cod 1 (some .byte) :: lw_g) (jRm 1) (va_Pc [.ref (adK 0)] (jP adK adV)) (vp_Si (fun r => r = 0)) 0 0 (fun _ => False) := by
  refine Met.ofW (cc := jB_cod) (maxL := 1) (ret := (some .byte)) (by decide) rfl ?_
  intro p e s m args below meth c s₁ B hml hv
  obtain ⟨rfl, hF⟩ := hv
  have hx := B.exec
  have hb := B.bytes
  have hr := B.returns
  have hts : ∀ w ∈ lw_g, w.before _ s = true := fun w hw => atoms_spec (ws := Cond.code jY_cod jB_cod 1 (some .byte) :: lw_g) B.pre w (List.mem_cons_of_mem _ hw)
  have hown : s.vm.findClass "java/lang/String" = some m.cls := findClass_of_methodNamed B.named
  have hlocks := B.notSynchronized
  have hS : va_S (fun _ => False) s.heap s.heap [] := va_S.rf
  have hF0 := hF
  obtain ⟨hSt, hCo, hZq, hR⟩ := hF
  have hl := lv_entry [.ref (adK 0)] (n := 1) (Nat.le_of_ble_eq_true rfl)
  rw [lg_entry_eq]
  generalize (lg_sl [.ref (adK 0)] ++ List.replicate (1 - (lg_sl [.ref (adK 0)]).length) Slot.unset).toArray = ls at hl ⊢
  have hl : lv_has ls 1 [(0, .ref (adK 0))] := hl
  refine va_gets hx hb hCo hS hown (hts _ jF_38) (fun _ z => z) jD_cod_0 ?_
  refine lv_if_eq (tgt := 13) hx hb jD_cod_3 (by decide) (fun q => absurd q (by decide)) (fun _ => ?_)
  refine lv_aload_n hx hb jD_cod_6 rfl (lv_at hl 0 rfl) ?_
  refine vk_getf hx hb ((hSt.1 0 (by decide)).2.1) hS hown (hts _ jF_15) (fun _ z => z) jD_cod_7 ?_
  refine lv_goto (tgt := 14) hx hb jD_cod_10 (by decide) ?_
  exact W.zret hx hb hr (by decide) (fun t ht _ => ⟨0, rfl, rfl, ht⟩) (fun q h => by cases h) jD_cod_14
set_option maxRecDepth 20000 in
theorem c_lat (l0 : Launch) (adK adV : Nat → Nat) : Met l0 jY_lat (Cond.code jY_lat jB_lat 1 (some .boolean) :: lw_g) (jRm 1) (va_Pc [.ref (adK 0)] (jP adK adV)) (vp_Si (fun r => r = 1)) 0 0 (fun _ => False) := by
  refine Met.ofW (cc := jB_lat) (maxL := 1) (ret := (some .boolean)) (by decide) rfl ?_
  intro p e s m args below meth c s₁ B hml hv
  obtain ⟨rfl, hF⟩ := hv
  have hx := B.exec
  have hb := B.bytes
  have hr := B.returns
  have hts : ∀ w ∈ lw_g, w.before _ s = true := fun w hw => atoms_spec (ws := Cond.code jY_lat jB_lat 1 (some .boolean) :: lw_g) B.pre w (List.mem_cons_of_mem _ hw)
  have hown : s.vm.findClass "java/lang/String" = some m.cls := findClass_of_methodNamed B.named
  have hlocks := B.notSynchronized
  have hS : va_S (fun _ => False) s.heap s.heap [] := va_S.rf
  have hF0 := hF
  obtain ⟨hSt, hCo, hZq, hR⟩ := hF
  have hl := lv_entry [.ref (adK 0)] (n := 1) (Nat.le_of_ble_eq_true rfl)
  rw [lg_entry_eq]
  generalize (lg_sl [.ref (adK 0)] ++ List.replicate (1 - (lg_sl [.ref (adK 0)]).length) Slot.unset).toArray = ls at hl ⊢
  have hl : lv_has ls 1 [(0, .ref (adK 0))] := hl
  refine va_gets hx hb hCo hS hown (hts _ jF_38) (fun _ z => z) jD_lat_0 ?_
  refine lv_if_eq (tgt := 17) hx hb jD_lat_3 (by decide) (fun q => absurd q (by decide)) (fun _ => ?_)
  refine lv_aload_n hx hb jD_lat_6 rfl (lv_at hl 0 rfl) ?_
  refine vk_getf hx hb ((hSt.1 0 (by decide)).2.1) hS hown (hts _ jF_15) (fun _ z => z) jD_lat_7 ?_
  refine lv_if_ne (tgt := 17) hx hb jD_lat_10 (by decide) (fun q => absurd rfl q) (fun _ => ?_)
  refine lv_iconst (v := 1) hx hb jD_lat_13 (by decide) ?_
  refine lv_goto (tgt := 18) hx hb jD_lat_14 (by decide) ?_
  exact W.zret hx hb hr (by decide) (fun t ht _ => ⟨1, rfl, rfl, ht⟩) (fun q h => by cases h) jD_lat_18
set_option maxRecDepth 20000 in
theorem c_len (l0 : Launch) (adK adV : Nat → Nat) : Met l0 jY_len (Cond.code jY_len jB_len 1 (some .int) :: lw_g) (jRm 2) (va_Pc [.ref (adK 0)] (jP adK adV)) (vp_Si (fun r => r = 116)) 0 0 (fun _ => False) := by
  refine Met.ofW (cc := jB_len) (maxL := 1) (ret := (some .int)) (by decide) rfl ?_
  intro p e s m args below meth c s₁ B hml hv
  obtain ⟨rfl, hF⟩ := hv
  have hx := B.exec
  have hb := B.bytes
  have hr := B.returns
  have hts : ∀ w ∈ lw_g, w.before _ s = true := fun w hw => atoms_spec (ws := Cond.code jY_len jB_len 1 (some .int) :: lw_g) B.pre w (List.mem_cons_of_mem _ hw)
  have hown : s.vm.findClass "java/lang/String" = some m.cls := findClass_of_methodNamed B.named
  have hlocks := B.notSynchronized
  have hS : va_S (fun _ => False) s.heap s.heap [] := va_S.rf
  have hF0 := hF
  obtain ⟨hSt, hCo, hZq, hR⟩ := hF
  have hl := lv_entry [.ref (adK 0)] (n := 1) (Nat.le_of_ble_eq_true rfl)
  rw [lg_entry_eq]
  generalize (lg_sl [.ref (adK 0)] ++ List.replicate (1 - (lg_sl [.ref (adK 0)]).length) Slot.unset).toArray = ls at hl ⊢
  have hl : lv_has ls 1 [(0, .ref (adK 0))] := hl
  refine lv_aload_n hx hb jD_len_0 rfl (lv_at hl 0 rfl) ?_
  refine vk_getf hx hb ((hSt.1 0 (by decide)).2.2.1) hS hown (hts _ jF_9) (fun _ z => z) jD_len_1 ?_
  refine va_tlen hx hb ((hSt.1 0 (by decide)).2.2.2) hS rfl jD_len_4 ?_
  refine lv_aload_n hx hb jD_len_5 rfl (lv_at hl 0 rfl) ?_
  refine vp_callSi (W.runV (As := []) (rest := [.int (Int32.ofNat (tLen.getD 0 0))]) ⟨hx, hb, hml, hown, hts⟩ (c_cod l0 adK adV) ⟨callB_of 0 hts (jG jC_cod) rfl rfl rfl (hts _ jN_cod) (hts _ jM_cod_335) (by decide +kernel) ⟨by decide, by decide⟩, hts _ jI_cod, hts _ jV_cod⟩ ⟨jBl adK adV _, vk_recv hSt (by decide) hS, fun U hU hW => ⟨rfl, jPre hF0 hU hW⟩⟩ rfl rfl hl.1 rfl (lv_room (by decide)) jD_len_6 ⟨Nat.le_refl _, Nat.le_refl _⟩) (fun r hr0 => ?_)
  subst hr0
  refine lv_ishr hx hb jD_len_9 ?_
  exact W.iret hx hb hr (fun t ht _ => ⟨_, rfl, by decide, ht⟩) (fun q h => by cases h) jD_len_10
set_option maxRecDepth 20000 in
theorem c_pre (l0 : Launch) (adK adV : Nat → Nat) (i n : Int32) (w : Value) (h1 : ¬ i < 0) (h2 : i < n) (hw : w.category = 1) : Met l0 jY_pre (Cond.code jY_pre jB_pre 3 (some .int) :: lw_g) (jRm 1) (va_Pc [.int i, .int n, w] (jP adK adV)) (vp_Si (fun _ => True)) 0 0 (fun _ => False) := by
  refine Met.ofW (cc := jB_pre) (maxL := 3) (ret := (some .int)) (by decide) rfl ?_
  intro p e s m args below meth c s₁ B hml hv
  obtain ⟨rfl, hF⟩ := hv
  have hx := B.exec
  have hb := B.bytes
  have hr := B.returns
  have hts : ∀ w ∈ lw_g, w.before _ s = true := fun w hw => atoms_spec (ws := Cond.code jY_pre jB_pre 3 (some .int) :: lw_g) B.pre w (List.mem_cons_of_mem _ hw)
  have hown : s.vm.findClass "jdk/internal/util/Preconditions" = some m.cls := findClass_of_methodNamed B.named
  have hlocks := B.notSynchronized
  have hS : va_S (fun _ => False) s.heap s.heap [] := va_S.rf
  have hF0 := hF
  obtain ⟨hSt, hCo, hZq, hR⟩ := hF
  have hl := lv_entry [.int i, .int n, w] (n := 3) (by simp only [lg_sl, List.flatMap_cons, List.flatMap_nil, hw]; simp [Value.category])
  rw [lg_entry_eq]
  generalize (lg_sl [.int i, .int n, w] ++ List.replicate (3 - (lg_sl [.int i, .int n, w]).length) Slot.unset).toArray = ls at hl ⊢
  have hl : lv_has ls 3 [(0, .int i), (1, .int n), (2, w)] := hl
  refine lv_iload_n hx hb jD_pre_0 rfl (lv_at hl 0 rfl) ?_
  refine lv_if_lt (tgt := 9) hx hb jD_pre_1 (by decide) (fun q => absurd q h1) (fun _ => ?_)
  refine lv_iload_n hx hb jD_pre_4 rfl (lv_at hl 0 rfl) ?_
  refine lv_iload_n hx hb jD_pre_5 rfl (lv_at hl 1 rfl) ?_
  refine lv_icmp_lt (tgt := 16) hx hb jD_pre_6 (by decide) (fun _ => ?_) (fun q => absurd h2 q)
  refine lv_iload_n hx hb jD_pre_16 rfl (lv_at hl 0 rfl) ?_
  exact W.iret hx hb hr (fun t ht _ => ⟨_, rfl, trivial, ht⟩) (fun q h => by cases h) jD_pre_17
set_option maxRecDepth 20000 in
theorem c_chk (l0 : Launch) (adK adV : Nat → Nat) (i n : Int32) (h1 : ¬ i < 0) (h2 : i < n) : Met l0 jY_chk (Cond.code jY_chk jB_chk 2 none :: lw_g) (jRm 2) (va_Pc [.int i, .int n] (jP adK adV)) (va_Sv (fun _ => True)) 0 0 (fun _ => False) := by
  refine Met.ofW (cc := jB_chk) (maxL := 2) (ret := none) (by decide) rfl ?_
  intro p e s m args below meth c s₁ B hml hv
  obtain ⟨rfl, hF⟩ := hv
  have hx := B.exec
  have hb := B.bytes
  have hr := B.returns
  have hts : ∀ w ∈ lw_g, w.before _ s = true := fun w hw => atoms_spec (ws := Cond.code jY_chk jB_chk 2 none :: lw_g) B.pre w (List.mem_cons_of_mem _ hw)
  have hown : s.vm.findClass "java/lang/String" = some m.cls := findClass_of_methodNamed B.named
  have hlocks := B.notSynchronized
  have hS : va_S (fun _ => False) s.heap s.heap [] := va_S.rf
  have hF0 := hF
  obtain ⟨hSt, hCo, hZq, hR⟩ := hF
  have hl := lv_entry [.int i, .int n] (n := 2) (Nat.le_of_ble_eq_true rfl)
  rw [lg_entry_eq]
  generalize (lg_sl [.int i, .int n] ++ List.replicate (2 - (lg_sl [.int i, .int n]).length) Slot.unset).toArray = ls at hl ⊢
  have hl : lv_has ls 2 [(0, .int i), (1, .int n)] := hl
  refine lv_iload_n hx hb jD_chk_0 rfl (lv_at hl 0 rfl) ?_
  refine lv_iload_n hx hb jD_chk_1 rfl (lv_at hl 1 rfl) ?_
  rcases hZq with hZ | ⟨t, hZ⟩
  · refine va_gets hx hb hZ hS hown (hts _ jF_1053) (fun _ z => z) jD_chk_2 ?_
    refine vp_callSi (W.runS (As := [.int i, .int n, .null]) (rest := []) ⟨hx, hb, hml, hown, hts⟩ (c_pre l0 adK adV i n _ h1 h2 rfl) ⟨callB_of 3 hts (jG jC_pre) rfl rfl rfl (hts _ jN_pre) (hts _ jM_pre_1059) (by decide +kernel) ⟨by decide, by decide⟩, hts _ jS_pre⟩ ⟨jBl adK adV _, fun U hU hW => ⟨rfl, jPre hF0 hU hW⟩⟩ rfl rfl hl.1 rfl (lv_room (by decide)) jD_chk_5 ⟨Nat.le_refl _, Nat.le_refl _⟩) (fun r _ => ?_)
    refine lv_pop hx hb jD_chk_8 rfl ?_
    exact W.vret hx hb hr (fun t ht _ => ⟨rfl, trivial, ht⟩) (fun q h => by cases h) jD_chk_9
  · refine va_gets hx hb hZ hS hown (hts _ jF_1053) (fun _ z => z) jD_chk_2 ?_
    refine vp_callSi (W.runS (As := [.int i, .int n, .ref t]) (rest := []) ⟨hx, hb, hml, hown, hts⟩ (c_pre l0 adK adV i n _ h1 h2 rfl) ⟨callB_of 3 hts (jG jC_pre) rfl rfl rfl (hts _ jN_pre) (hts _ jM_pre_1059) (by decide +kernel) ⟨by decide, by decide⟩, hts _ jS_pre⟩ ⟨jBl adK adV _, fun U hU hW => ⟨rfl, jPre hF0 hU hW⟩⟩ rfl rfl hl.1 rfl (lv_room (by decide)) jD_chk_5 ⟨Nat.le_refl _, Nat.le_refl _⟩) (fun r _ => ?_)
    refine lv_pop hx hb jD_chk_8 rfl ?_
    exact W.vret hx hb hr (fun t ht _ => ⟨rfl, trivial, ht⟩) (fun q h => by cases h) jD_chk_9
set_option maxRecDepth 20000 in
theorem c_lch (l0 : Launch) (adK adV : Nat → Nat) (i : Int32) (h1 : ¬ i < 0) (h2 : i < 116) : Met l0 jY_lch (Cond.code jY_lch jB_lch 2 (some .char) :: lw_g) (jRm 3) (va_Pc [.ref (adV 0), .int i] (jP adK adV)) (vp_Si (fun r => narrow .char (.int r) = .int r)) 0 0 (fun _ => False) := by
  refine Met.ofW (cc := jB_lch) (maxL := 2) (ret := (some .char)) (by decide) rfl ?_
  intro p e s m args below meth c s₁ B hml hv
  obtain ⟨rfl, hF⟩ := hv
  have hx := B.exec
  have hb := B.bytes
  have hr := B.returns
  have hts : ∀ w ∈ lw_g, w.before _ s = true := fun w hw => atoms_spec (ws := Cond.code jY_lch jB_lch 2 (some .char) :: lw_g) B.pre w (List.mem_cons_of_mem _ hw)
  have hown : s.vm.findClass "java/lang/StringLatin1" = some m.cls := findClass_of_methodNamed B.named
  have hlocks := B.notSynchronized
  have hS : va_S (fun _ => False) s.heap s.heap [] := va_S.rf
  have hF0 := hF
  obtain ⟨hSt, hCo, hZq, hR⟩ := hF
  have hl := lv_entry [.ref (adV 0), .int i] (n := 2) (Nat.le_of_ble_eq_true rfl)
  rw [lg_entry_eq]
  generalize (lg_sl [.ref (adV 0), .int i] ++ List.replicate (2 - (lg_sl [.ref (adV 0), .int i]).length) Slot.unset).toArray = ls at hl ⊢
  have hl : lv_has ls 2 [(0, .ref (adV 0)), (1, .int i)] := hl
  have hin : vp_in i (tLen.getD 0 0) := vp_in_iff.mpr ⟨by have := Int32.not_lt.mp h1; simpa using Int32.le_iff_toInt_le.mp this, by have := Int32.lt_iff_toInt_lt.mp h2; exact this⟩
  refine lv_iload_n hx hb jD_lch_0 rfl (lv_at hl 1 rfl) ?_
  refine lv_aload_n hx hb jD_lch_1 rfl (lv_at hl 0 rfl) ?_
  refine va_tlen hx hb ((hSt.1 0 (by decide)).2.2.2) hS rfl jD_lch_2 ?_
  refine va_csv (W.runS (As := [.int i, .int (Int32.ofNat (tLen.getD 0 0))]) (rest := []) ⟨hx, hb, hml, hown, hts⟩ (c_chk l0 adK adV i (Int32.ofNat (tLen.getD 0 0)) h1 h2) ⟨callB_of 2 hts (jG jC_chk) rfl rfl rfl (hts _ jN_chk) (hts _ jM_chk_9) (by decide +kernel) ⟨by decide, by decide⟩, hts _ jS_chk⟩ ⟨jBl adK adV _, fun U hU hW => ⟨rfl, jPre hF0 hU hW⟩⟩ rfl rfl hl.1 rfl (lv_room (by decide)) jD_lch_3 ⟨Nat.le_refl _, Nat.le_refl _⟩) (fun _ => ?_)
  refine lv_aload_n hx hb jD_lch_6 rfl (lv_at hl 0 rfl) ?_
  refine lv_iload_n hx hb jD_lch_7 rfl (lv_at hl 1 rfl) ?_
  refine va_tb hx hb ((hSt.1 0 (by decide)).2.2.2) hS hin rfl jD_lch_8 ?_
  refine lv_sipush (v := 255) hx hb jD_lch_9 (by decide) ?_
  refine lv_iand hx hb jD_lch_12 ?_
  refine lv_i2c hx hb jD_lch_13 rfl ?_
  exact W.zret hx hb hr (pk_nc _) (fun t ht _ => ⟨_, rfl, pk_nc _, ht⟩) (fun q h => by cases h) jD_lch_14
set_option maxRecDepth 20000 in
theorem c_chr (l0 : Launch) (adK adV : Nat → Nat) (i : Int32) (h1 : ¬ i < 0) (h2 : i < 116) : Met l0 jY_chr (Cond.code jY_chr jB_chr 2 (some .char) :: lw_g) (jRm 4) (va_Pc [.ref (adK 0), .int i] (jP adK adV)) (vp_Si (fun _ => True)) 0 0 (fun _ => False) := by
  refine Met.ofW (cc := jB_chr) (maxL := 2) (ret := (some .char)) (by decide) rfl ?_
  intro p e s m args below meth c s₁ B hml hv
  obtain ⟨rfl, hF⟩ := hv
  have hx := B.exec
  have hb := B.bytes
  have hr := B.returns
  have hts : ∀ w ∈ lw_g, w.before _ s = true := fun w hw => atoms_spec (ws := Cond.code jY_chr jB_chr 2 (some .char) :: lw_g) B.pre w (List.mem_cons_of_mem _ hw)
  have hown : s.vm.findClass "java/lang/String" = some m.cls := findClass_of_methodNamed B.named
  have hlocks := B.notSynchronized
  have hS : va_S (fun _ => False) s.heap s.heap [] := va_S.rf
  have hF0 := hF
  obtain ⟨hSt, hCo, hZq, hR⟩ := hF
  have hl := lv_entry [.ref (adK 0), .int i] (n := 2) (Nat.le_of_ble_eq_true rfl)
  rw [lg_entry_eq]
  generalize (lg_sl [.ref (adK 0), .int i] ++ List.replicate (2 - (lg_sl [.ref (adK 0), .int i]).length) Slot.unset).toArray = ls at hl ⊢
  have hl : lv_has ls 2 [(0, .ref (adK 0)), (1, .int i)] := hl
  refine lv_aload_n hx hb jD_chr_0 rfl (lv_at hl 0 rfl) ?_
  refine vp_callSi (W.runV (As := []) (rest := []) ⟨hx, hb, hml, hown, hts⟩ (c_lat l0 adK adV) ⟨callB_of 0 hts (jG jC_lat) rfl rfl rfl (hts _ jN_lat) (hts _ jM_lat_492) (by decide +kernel) ⟨by decide, by decide⟩, hts _ jI_lat, hts _ jV_lat⟩ ⟨jBl adK adV _, vk_recv hSt (by decide) hS, fun U hU hW => ⟨rfl, jPre hF0 hU hW⟩⟩ rfl rfl hl.1 rfl (lv_room (by decide)) jD_chr_1 ⟨Nat.le_refl _, Nat.le_refl _⟩) (fun r hr0 => ?_)
  subst hr0
  refine lv_if_eq (tgt := 16) hx hb jD_chr_4 (by decide) (fun q => absurd q (by decide)) (fun _ => ?_)
  refine lv_aload_n hx hb jD_chr_7 rfl (lv_at hl 0 rfl) ?_
  refine vk_getf hx hb ((hSt.1 0 (by decide)).2.2.1) hS hown (hts _ jF_9) (fun _ z => z) jD_chr_8 ?_
  refine lv_iload_n hx hb jD_chr_11 rfl (lv_at hl 1 rfl) ?_
  refine vp_callSi (W.runS (As := [.ref (adV 0), .int i]) (rest := []) ⟨hx, hb, hml, hown, hts⟩ (c_lch l0 adK adV i h1 h2) ⟨callB_of 2 hts (jG jC_lch) rfl rfl rfl (hts _ jN_lch) (hts _ jM_lch_495) (by decide +kernel) ⟨by decide, by decide⟩, hts _ jS_lch⟩ ⟨jBl adK adV _, fun U hU hW => ⟨rfl, jPre hF0 hU hW⟩⟩ rfl rfl hl.1 rfl (lv_room (by decide)) jD_chr_12 ⟨Nat.le_refl _, Nat.le_refl _⟩) (fun r hq => ?_)
  exact W.zret hx hb hr hq (fun t ht _ => ⟨_, rfl, trivial, ht⟩) (fun q h => by cases h) jD_chr_15
end
section
/-! THE TOKENS START: the loop over the text of words -/
theorem dT_51 : decode tY125.2.1 51 = .ok (.iload 4, 2) := by decide +kernel
theorem dT_53 : decode tY125.2.1 53 = .ok (.ldc 29, 2) := by decide +kernel
theorem dT_55 : decode tY125.2.1 55 = .ok (.invokevirtual 31, 3) := by decide +kernel
theorem dT_58 : decode tY125.2.1 58 = .ok (.if_icmp .ge 53, 3) := by decide +kernel
theorem dT_61 : decode tY125.2.1 61 = .ok (.iload_n 1, 1) := by decide +kernel
theorem dT_62 : decode tY125.2.1 62 = .ok (.bipush 22, 2) := by decide +kernel
theorem dT_64 : decode tY125.2.1 64 = .ok (.if_icmp .ge 47, 3) := by decide +kernel
theorem dT_67 : decode tY125.2.1 67 = .ok (.ldc 29, 2) := by decide +kernel
theorem dT_69 : decode tY125.2.1 69 = .ok (.iload 4, 2) := by decide +kernel
theorem dT_71 : decode tY125.2.1 71 = .ok (.invokevirtual 36, 3) := by decide +kernel
section TOK
variable {l0 : Launch} {adK adV : Nat → Nat} {sr : List (Int × Int)}
theorem tTok_loop {d k cs sl : Nat} {h : eH} {S0 : eS} {fins : List eS} (hn : 0 < sr.length) (hdd : 6 ≤ d) (hcs : cs ≤ tM125.2.2.1) (hsl : sl ≤ tM125.2.2.2.1) (hM : tMs[125]? = some tM125) (hY : tYs[125]? = some tY125)
    (hin0 : eLeS sr ((0, sr.length, 0) :: eId sr.length) S0 (51, [(4, .inl (sr.length, 0, 0)), (2, .inr (.inr ())), (1, .inl (0, 0, 22)), (0, .inr (.inl (some k)))], [], h, cs, sl) = true)
    (hbody : eGl (tFz adK adV) l0 tCl lw_g tNs (sr ++ [(0, 115)]) tMs tYs d 125 (74, [(4, .inl (sr.length, 0, 0)), (2, .inr (.inr ())), (1, .inl (0, 0, 21)), (0, .inr (.inl (some k)))], [.inl eTop], h, cs, sl) fins)
    (hback : fins.all (fun f => eLeS (sr ++ [(0, 115)]) ((sr.length, sr.length, -1) :: eId sr.length) f (51, [(4, .inl (sr.length, 0, 0)), (2, .inr (.inr ())), (1, .inl (0, 0, 22)), (0, .inr (.inl (some k)))], [], h, cs, sl)) = true)
    (hsy : eLeS (sr ++ [(0, 116)]) (eId sr.length) (111, [], [], h, cs, sl) (111, [], [], h, cs, sl) = true) :
    eGl (tFz adK adV) l0 tCl lw_g tNs sr tMs tYs d 125 S0 [(111, [], [], h, cs, sl)] := by
  intro M Y hM' hY' p e R s m args below meth c hcx D A H0 σ ad0 hs hA hFs Q K
  have e0 := Option.some.inj (hM.symm.trans hM')
  have e1 := Option.some.inj (hY.symm.trans hY')
  subst e0
  subst e1
  obtain ⟨hx, hb, hown, hts, hml, hini, hXt, hR1, hR2, hRc, hRs⟩ := id hcx
  have hown : s.vm.findClass "FuseTreaty$Tokens" = some m.cls := hown
  have hR := hFs.2.2.2
  have idok : ∀ v w : Int, ∀ j, j < sr.length → eUp σ sr.length v j = eUp σ sr.length w j := fun v w j hj => by rw [eUp_ne (by omega), eUp_ne (by omega)]
  have idok0 : ∀ v : Int, ∀ j, j < sr.length → σ j = eUp σ sr.length v j := fun v j hj => by rw [eUp_ne (by omega)]
  have loop : ∀ (n : Nat) (v : Int), 0 ≤ v → v ≤ 116 → (116 - v).toNat < n → ∀ (H : Heap) (locs : List Loc) (ws : va_W) (tys : List (ClassId × FieldType)) (ls : Array Slot) (lv : List (Nat × Value)) (stk : List Value), eCn D tCl A H0 s (eUp σ sr.length v) tM125.2.1 ad0 (51, [(4, .inl (sr.length, 0, 0)), (2, .inr (.inr ())), (1, .inl (0, 0, 22)), (0, .inr (.inl (some k)))], [], h, cs, sl) H locs ws tys ls lv stk → W p l0 e R s m args below meth c H locs cs sl Q (F0 m 51 ls stk) := by
    intro n
    induction n with
    | zero => intro v h1 h2 h3; omega
    | succ n ih =>
      intro v h1 h2 h3 H locs ws tys ls lv stk hc
      have hs1 : eSg (sr ++ [(0, 116)]) (eUp σ sr.length v) := eSg_up hs hn h1 h2
      obtain ⟨hK, hP, hD, hS, hpre, hh, hl, hlv, hsk⟩ := hc
      have e2 := eAll_nil hsk
      subst e2
      obtain ⟨w4, g4, ⟨x4, rfl, hx4⟩, -⟩ := eGet_at hl hlv (i := 4) (v := .inl (sr.length, 0, 0)) rfl
      obtain ⟨w1, g1, ⟨x1, rfl, hx1⟩, -⟩ := eGet_at hl hlv (i := 1) (v := .inl (0, 0, 22)) rfl
      obtain ⟨w0, g0, ⟨x0, hx0, rfl⟩, -⟩ := eGet_at hl hlv (i := 0) (v := .inr (.inl (some k))) rfl
      obtain ⟨w2, g2, ⟨x2, rfl⟩, -⟩ := eGet_at hl hlv (i := 2) (v := .inr (.inr ())) rfl
      have ex : x4.toInt = v := by
        obtain ⟨q1, q2⟩ := hx4
        have q1 : eUp σ sr.length v sr.length + 0 ≤ x4.toInt := q1
        have q2 : x4.toInt ≤ eUp σ sr.length v sr.length + 0 := q2
        rw [eUp_at] at q1 q2
        omega
      have ex1 : 0 ≤ x1.toInt ∧ x1.toInt ≤ 22 := by
        obtain ⟨q1, q2⟩ := hx1
        have q1 : eUp σ sr.length v 0 + 0 ≤ x1.toInt := q1
        have q2 : x1.toInt ≤ eUp σ sr.length v 0 + 22 := q2
        have e3 : eUp σ sr.length v 0 = 0 := by rw [eUp_ne (by omega)]; exact hs.1
        exact ⟨by omega, by omega⟩
      have hrec : ∃ cell : Cell, H[adK 0]? = some cell ∧ cell.vm.isStatics = false ∧ s.vm.findClass "java/lang/String" = some cell.cls := by
        obtain ⟨cell, q1, q2, q3, -⟩ := (hFs.1.1 0 (by decide)).1.kept hS.2.1
        exact ⟨cell, q1, q2, q3⟩
      have hjP : ∀ U : State, U.heap = H → s.WarmedH U.vm → jP adK adV U := fun U hU hW => by
        unfold jP
        rw [hU]
        exact (tFzOk adK adV).1 A _ s U H0 H hFs hW hS.2.1 (fun _ z => z.elim)
      have stop : W p l0 e R s m args below meth c H locs cs sl Q (F0 m 111 ls []) := by
        obtain ⟨-, -, -, lv', g9⟩ := eLeS_ok (τ := σ) hs1 hs.1 (eId_ok (fun j hj => (idok0 v j hj).symm)) hsy (⟨hK, hP, hD, hS, hpre, hh, ⟨hl.1, hl.2.1, fun q hq => absurd hq List.not_mem_nil⟩, trivial, trivial⟩ : eCn D tCl A H0 s (eUp σ sr.length v) tM125.2.1 ad0 (111, [], [], h, cs, sl) H locs ws tys ls [] [])
        exact K _ List.mem_cons_self H locs ws tys ls lv' [] g9
      refine lv_iload hx hb dT_51 g4 ?_
      refine va_ldcS hx hb hown hR dT_53 ?_
      refine vp_callSi (W.runV (As := []) (rest := [.int x4]) ⟨hx, hb, hml, hown, hts⟩ (c_len l0 adK adV) ⟨callB_of 0 hts (jG jC_len) rfl rfl rfl (hts _ jN_len) (hts _ jM_len_31) (by decide +kernel) ⟨by show 2 + 1 ≤ R.frames; omega, by show 8 + (1 + 11) + 128 * 2 ≤ R.locals; omega⟩, hts _ jI_len, hts _ jV_len⟩ ⟨jBl adK adV _, hrec, fun U hU hW => ⟨rfl, hjP U hU hW⟩⟩ rfl rfl hl.1 rfl (lv_room (by simp [Value.category])) dT_55 ⟨by omega, by omega⟩) (fun r hr => ?_)
      subst hr
      refine lv_icmp_ge (tgt := 111) hx hb dT_58 (by decide) (fun q => stop) (fun q => ?_)
      have q := Int32.lt_iff_toInt_lt.mp (Int32.not_le.mp q)
      have e116 : (116 : Int32).toInt = 116 := by decide
      have e22 : (22 : Int32).toInt = 22 := by decide
      have ez : (0 : Int32).toInt = 0 := by decide
      refine lv_iload_n hx hb dT_61 rfl g1 ?_
      refine lv_bipush (v := 22) hx hb dT_62 (by decide) ?_
      refine lv_icmp_ge (tgt := 111) hx hb dT_64 (by decide) (fun q => stop) (fun q2 => ?_)
      have q2 := Int32.lt_iff_toInt_lt.mp (Int32.not_le.mp q2)
      refine va_ldcS hx hb hown hR dT_67 ?_
      refine lv_iload hx hb dT_69 g4 ?_
      refine vp_callSi (W.runV (As := [.int x4]) (rest := []) ⟨hx, hb, hml, hown, hts⟩ (c_chr l0 adK adV x4 (fun z => by have := Int32.lt_iff_toInt_lt.mp z; omega) (Int32.lt_iff_toInt_lt.mpr (by omega))) ⟨callB_of 1 hts (jG jC_chr) rfl rfl rfl (hts _ jN_chr) (hts _ jM_chr_36) (by decide +kernel) ⟨by show 4 + 1 ≤ R.frames; omega, by show 8 + (2 + 11) + 128 * 4 ≤ R.locals; omega⟩, hts _ jI_chr, hts _ jV_chr⟩ ⟨jBl adK adV _, hrec, fun U hU hW => ⟨rfl, hjP U hU hW⟩⟩ rfl rfl hl.1 rfl (lv_room (by simp [Value.category])) dT_71 ⟨by omega, by omega⟩) (fun r _ => ?_)
      have hs2 : eSg (sr ++ [(0, 115)]) (eUp σ sr.length v) := eSg_up hs hn h1 (by omega)
      refine hbody tM125 tY125 hM hY p e R s m args below meth c hcx D A H0 (eUp σ sr.length v) ad0 hs2 hA hFs Q (fun f hf => ?_) H locs ws tys ls [(4, .int x4), (2, .long x2), (1, .int x1), (0, .ref x0)] [.int r] ⟨hK, hP, hD, hS, hpre, hh, ⟨hl.1, hl.2.1, ?_⟩, ⟨⟨rfl, x4, rfl, hx4⟩, ⟨rfl, x2, rfl⟩, ⟨rfl, x1, rfl, eIn_mk (by rw [hs2.1]; omega) (by rw [hs2.1]; omega)⟩, ⟨rfl, x0, hx0, rfl⟩, trivial⟩, ⟨r, rfl, eTop_ok hs2.1 r⟩, trivial⟩
      · intro H' locs' ws' tys' ls' lv' stk' hc'
        have hfact : ∀ q ∈ ((sr.length, sr.length, -1) :: eId sr.length : List (Nat × Nat × Int)), eUp σ sr.length v q.1 = eUp σ sr.length (v + 1) q.2.1 + q.2.2 := by
          intro q hq
          rcases List.mem_cons.mp hq with rfl | hq
          · show eUp σ sr.length v sr.length = eUp σ sr.length (v + 1) sr.length + -1
            rw [eUp_at, eUp_at]
            omega
          · exact eId_ok (idok v (v + 1)) q hq
        obtain ⟨g1, g2, g3, lv'', g4⟩ := eLeS_ok hs2 (by rw [eUp_ne (by omega)]; exact hs.1) hfact (List.all_eq_true.mp hback f hf) hc'
        rw [g1, g2, g3]
        exact ih (v + 1) (by omega) (by omega) (by omega) H' locs' ws' tys' ls' lv'' stk' g4
      · intro q9 hq9
        simp only [List.mem_cons, List.not_mem_nil, or_false] at hq9
        rcases hq9 with rfl | rfl | rfl | rfl
        · exact g4
        · exact g2
        · exact g1
        · exact g0
  intro H locs ws tys ls lv stk hc
  have hfact : ∀ q ∈ ((0, sr.length, 0) :: eId sr.length : List (Nat × Nat × Int)), σ q.1 = eUp σ sr.length 0 q.2.1 + q.2.2 := by
    intro q hq
    rcases List.mem_cons.mp hq with rfl | hq
    · show σ 0 = eUp σ sr.length 0 sr.length + 0
      rw [eUp_at, hs.1]
      rfl
    · exact eId_ok (idok0 0) q hq
  obtain ⟨g1, g2, g3, lv', g4⟩ := eLeS_ok hs (by rw [eUp_ne (by omega)]; exact hs.1) hfact hin0 hc
  rw [g1, g2, g3]
  exact loop _ 0 (Int.le_refl _) (by omega) (Nat.lt_succ_self _) H locs ws tys ls lv' stk g4
end TOK
end
section
/-! THE TOKENS START as a known call -/
def tNo : Nat → Nat → List eV → eH → Option (List (Option eV × eH)) := fun _ _ _ _ => none
theorem tRun {l0 : Launch} {adK adV : Nat → Nat} {sr : List (Int × Int)} {orc : Nat → Nat → List eV → eH → Option (List (Option eV × eH))} (horc : ∀ (d b : Nat) (as : List eV) (h : eH) (os : List (Option eV × eH)), orc d b as h = some os → eCon (tFz adK adV) l0 tCl lw_g tNs sr tMs tYs d b as h os) (n : Nat) : eIH (tFz adK adV) l0 tCl lw_g tNs sr tMs tYs (eExec sr tDf tMs orc n) := eExec_ok (tFzOk adK adV) tOk lw_g_good tKl horc n
theorem tRun0 {l0 : Launch} {adK adV : Nat → Nat} {sr : List (Int × Int)} (n : Nat) : eIH (tFz adK adV) l0 tCl lw_g tNs sr tMs tYs (eExec sr tDf tMs tNo n) := tRun (fun _ _ _ _ _ h => by cases h) n
def tTok1 (n k : Nat) (h : eH) (cs sl : Nat) : eS := (51, [(4, .inl (n, 0, 0)), (2, .inr (.inr ())), (1, .inl (0, 0, 22)), (0, .inr (.inl (some k)))], [], h, cs, sl)
def tTokB (sr : List (Int × Int)) (d k : Nat) (f : eS) : Bool := Nat.ble 6 d && Nat.blt 0 sr.length && Nat.ble f.2.2.2.2.1 tM125.2.2.1 && Nat.ble f.2.2.2.2.2 tM125.2.2.2.1 &&
  eLeS sr ((0, sr.length, 0) :: eId sr.length) f (tTok1 sr.length k f.2.2.2.1 f.2.2.2.2.1 f.2.2.2.2.2) &&
  (match eExec (sr ++ [(0, 115)]) tDf tMs tNo 200 d 125 [51] (74, [(4, .inl (sr.length, 0, 0)), (2, .inr (.inr ())), (1, .inl (0, 0, 21)), (0, .inr (.inl (some k)))], [.inl eTop], f.2.2.2.1, f.2.2.2.2.1, f.2.2.2.2.2) with
    | some fs => fs.all (fun g => eLeS (sr ++ [(0, 115)]) ((sr.length, sr.length, -1) :: eId sr.length) g (tTok1 sr.length k f.2.2.2.1 f.2.2.2.2.1 f.2.2.2.2.2))
    | none => false) &&
  eLeS (sr ++ [(0, 116)]) (eId sr.length) (111, [], [], f.2.2.2.1, f.2.2.2.2.1, f.2.2.2.2.2) (111, [], [], f.2.2.2.1, f.2.2.2.2.1, f.2.2.2.2.2) &&
  (match eRet tM125 (111, [], [], f.2.2.2.1, f.2.2.2.2.1, f.2.2.2.2.2) with
    | some none => true
    | _ => false)
def tTokO (sr : List (Int × Int)) (d : Nat) (as : List eV) (h : eH) : Option (List (Option eV × eH)) := match as with
  | [.inr (.inl (some k))] => match eExec sr tDf tMs tNo 200 d 125 [51] (0, eArgs 0 [.inr (.inl (some k))], [], h, 0, 0) with
    | some [f] => cond (tTokB sr d k f) (some [(none, f.2.2.2.1)]) none
    | _ => none
  | _ => none
theorem tTokO_ok {l0 : Launch} {adK adV : Nat → Nat} {sr : List (Int × Int)} {d : Nat} {as : List eV} {hp : eH} {os : List (Option eV × eH)} (h : tTokO sr d as hp = some os) : eCon (tFz adK adV) l0 tCl lw_g tNs sr tMs tYs d 125 as hp os := by
  unfold tTokO at h
  split at h
  · rename_i k
    split at h
    · rename_i f hf
      obtain ⟨hb, hg⟩ := eCond h
      cases hg
      unfold tTokB at hb
      simp only [Bool.and_eq_true] at hb
      obtain ⟨⟨⟨⟨⟨⟨⟨b1, b2⟩, b3⟩, b4⟩, b5⟩, b6⟩, b7⟩, b8⟩ := hb
      have hrun := tRun0 (l0 := l0) (adK := adK) (adV := adV) 200 d 125 [51] _ _ hf
      split at b6
      · rename_i fs hfs
        have hbody := tRun0 (l0 := l0) (adK := adK) (adV := adV) 200 d 125 [51] _ _ hfs
        have hloop := tTok_loop (l0 := l0) (adK := adK) (adV := adV) (sr := sr) (S0 := f) (fins := fs) (Nat.le_of_ble_eq_true b2) (Nat.le_of_ble_eq_true b1) (Nat.le_of_ble_eq_true b3) (Nat.le_of_ble_eq_true b4) rfl rfl b5 hbody b6 b7
        refine eCon_of tOk (N := tM125) (fs := [(111, [], [], f.2.2.2.1, f.2.2.2.2.1, f.2.2.2.2.2)]) rfl (by show 1 + 0 ≤ _; decide) (eGl_trans hrun (fun T hT => ?_)) ?_
        · rw [List.mem_singleton] at hT
          subst hT
          exact hloop
        · split at b8
          · rename_i hr
            unfold eOuts
            rw [hr]
            rfl
          · cases b8
      · cases b6
    · cases h
  · cases h
/-- the known calls: the Tokens start -/
def tOrc (sr : List (Int × Int)) : Nat → Nat → List eV → eH → Option (List (Option eV × eH)) := fun d b as h => cond (Nat.beq b 125) (tTokO sr d as h) none
theorem tOrc_ok {l0 : Launch} {adK adV : Nat → Nat} {sr : List (Int × Int)} : ∀ (d b : Nat) (as : List eV) (h : eH) (os : List (Option eV × eH)), tOrc sr d b as h = some os → eCon (tFz adK adV) l0 tCl lw_g tNs sr tMs tYs d b as h os := by
  intro d b as h os hq
  obtain ⟨h1, h2⟩ := eCond hq
  have e := Nat.eq_of_beq_eq_true h1
  subst e
  exact tTokO_ok h2
/-- a call, run to its ends -/
def tCall (sr : List (Int × Int)) (orc : Nat → Nat → List eV → eH → Option (List (Option eV × eH))) (d b : Nat) (as : List eV) (h : eH) : Option (List (Option eV × eH)) := match tMs[b]? with
  | none => none
  | some N => cond (Nat.ble (eCats as) N.2.1) (match eExec sr tDf tMs orc 100000 d b [] (0, eArgs 0 as, [], h, 0, 0) with
    | some fs => eOuts N fs
    | none => none) none
theorem tCall_ok {l0 : Launch} {adK adV : Nat → Nat} {sr : List (Int × Int)} {orc : Nat → Nat → List eV → eH → Option (List (Option eV × eH))} (horc : ∀ (d b : Nat) (as : List eV) (h : eH) (os : List (Option eV × eH)), orc d b as h = some os → eCon (tFz adK adV) l0 tCl lw_g tNs sr tMs tYs d b as h os) {d b : Nat} {as : List eV} {h : eH} {os : List (Option eV × eH)} (hc : tCall sr orc d b as h = some os) : eCon (tFz adK adV) l0 tCl lw_g tNs sr tMs tYs d b as h os := by
  unfold tCall at hc
  split at hc
  · cases hc
  · rename_i N hN
    obtain ⟨h1, h2⟩ := eCond hc
    split at h2
    · rename_i fs hfs
      exact eCon_of tOk hN (Nat.le_of_ble_eq_true h1) (tRun horc _ _ _ _ _ _ hfs) h2
    · cases h2
/-- all, as it is behind the two starts -/
def hFresh : eH := [
  .inl (11, [.inr (.inl (some 1)), eZero, .inl (0, -1, -1), .inr (.inl (some 2)), .inr (.inl (some 20)), .inr (.inl (some 38)), .inr (.inl (some 43)), .inr (.inl (some 44)), .inr (.inl (some 47)), .inr (.inl (some 51)), .inr (.inl (some 54)), .inr (.inl (some 61)), .inr (.inl (some 67))]),
  .inr (1, 2000, .inr (-128, 127)),
  .inl (3, [eZero, eZero, eZero, eZero, eZero, .inl (0, 100, 100), eZero, .inr (.inl (some 3)), .inr (.inl (some 4)), .inr (.inl (some 5)), .inr (.inl (some 6)), .inr (.inl (some 7)), .inr (.inl (some 8)), .inr (.inl (some 9)), .inr (.inl (some 10)), .inr (.inl (some 11))]),
  .inr (0, 7, .inl ([eZero, eZero, eZero, eZero, eZero, eZero, eZero])),
  .inr (0, 10, .inl ([eZero, eZero, eZero, eZero, eZero, eZero, eZero, eZero, eZero, eZero])),
  .inr (0, 10, .inl ([eZero, eZero, eZero, eZero, eZero, eZero, eZero, eZero, eZero, eZero])),
  .inr (0, 10, .inl ([eZero, eZero, eZero, eZero, eZero, eZero, eZero, eZero, eZero, eZero])),
  .inr (0, 8, .inl ([eZero, eZero, eZero, eZero, eZero, eZero, eZero, eZero])),
  .inr (0, 8, .inl ([eZero, eZero, eZero, eZero, eZero, eZero, eZero, eZero])),
  .inr (0, 8, .inl ([eZero, eZero, eZero, eZero, eZero, eZero, eZero, eZero])),
  .inr (0, 8, .inl ([eZero, eZero, eZero, eZero, eZero, eZero, eZero, eZero])),
  .inl (4, [.inr (.inl (some 12)), .inl (0, 6, 6), .inr (.inl (some 13)), .inr (.inl (some 18)), .inr (.inl (some 19)), eZero]),
  .inr (0, 406, .inl (([.inl (0, 4, 4), .inl (0, 5, 5), .inl (0, 1, 1), .inl (0, 13, 13), .inl (0, 5, 5), .inl (0, 9, 9)] ++ (List.replicate 400 (eZero))))),
  .inr (4, 4, .inl ([.inr (.inl (some 14)), .inr (.inl (some 15)), .inr (.inl (some 16)), .inr (.inl (some 17))])),
  .inr (0, 14, .inl (([eZero, .inl (0, 3, 3)] ++ (List.replicate 12 (eZero))))),
  .inr (0, 14, .inl (([.inl (0, 3, 3), .inl (0, 4, 4)] ++ (List.replicate 12 (eZero))))),
  .inr (0, 14, .inl (([.inl (0, 4, 4), .inl (0, 5, 5)] ++ (List.replicate 12 (eZero))))),
  .inr (0, 14, .inl (([.inl (0, 5, 5), .inl (0, 6, 6)] ++ (List.replicate 12 (eZero))))),
  .inr (0, 4, .inl ([.inl (0, 1, 1), .inl (0, 1, 1), .inl (0, 1, 1), .inl (0, 1, 1)])),
  .inr (0, 32, .inl (List.replicate 32 (eZero))),
  .inl (3, [eZero, eZero, eZero, eZero, eZero, eZero, eZero, .inr (.inl (some 21)), .inr (.inl (some 22)), .inr (.inl (some 23)), .inr (.inl (some 24)), .inr (.inl (some 25)), .inr (.inl (some 26)), .inr (.inl (some 27)), .inr (.inl (some 28)), .inr (.inl (some 29))]),
  .inr (0, 7, .inl ([eZero, eZero, eZero, eZero, eZero, eZero, eZero])),
  .inr (0, 10, .inl ([eZero, eZero, eZero, eZero, eZero, eZero, eZero, eZero, eZero, eZero])),
  .inr (0, 10, .inl ([eZero, eZero, eZero, eZero, eZero, eZero, eZero, eZero, eZero, eZero])),
  .inr (0, 10, .inl ([eZero, eZero, eZero, eZero, eZero, eZero, eZero, eZero, eZero, eZero])),
  .inr (0, 8, .inl ([eZero, eZero, eZero, eZero, eZero, eZero, eZero, eZero])),
  .inr (0, 8, .inl ([eZero, eZero, eZero, eZero, eZero, eZero, eZero, eZero])),
  .inr (0, 8, .inl ([eZero, eZero, eZero, eZero, eZero, eZero, eZero, eZero])),
  .inr (0, 8, .inl ([eZero, eZero, eZero, eZero, eZero, eZero, eZero, eZero])),
  .inl (4, [.inr (.inl (some 30)), eZero, .inr (.inl (some 31)), .inr (.inl (some 36)), .inr (.inl (some 37)), eZero]),
  .inr (0, 406, .inl (List.replicate 406 (eZero))),
  .inr (4, 4, .inl ([.inr (.inl (some 32)), .inr (.inl (some 33)), .inr (.inl (some 34)), .inr (.inl (some 35))])),
  .inr (0, 14, .inl (List.replicate 14 (eZero))),
  .inr (0, 14, .inl (List.replicate 14 (eZero))),
  .inr (0, 14, .inl (List.replicate 14 (eZero))),
  .inr (0, 14, .inl (List.replicate 14 (eZero))),
  .inr (0, 4, .inl ([eZero, eZero, eZero, eZero])),
  .inr (0, 32, .inl (List.replicate 32 (eZero))),
  .inl (8, [.inr (.inl (some 39)), .inr (.inl (some 40)), .inr (.inl (some 41)), .inr (.inl (some 42)), .inr (.inl none), eZero]),
  .inr (0, 401, .inl (List.replicate 401 (eZero))),
  .inr (0, 401, .inl (List.replicate 401 (eZero))),
  .inr (3, 401, .inr (0, 0)),
  .inr (3, 22, .inr (0, 0)),
  .inl (2, [.inr (.inl (some 38)), .inr (.inl (some 29)), eZero, eZero, eZero, eZero, eZero]),
  .inl (5, [.inr (.inl (some 38)), .inr (.inl (some 20)), .inr (.inl (some 45)), .inr (.inl (some 46)), eZero, eZero]),
  .inr (3, 7, .inr (0, 0)),
  .inr (3, 8, .inr (0, 0)),
  .inl (7, [eZero, .inl (0, 100, 100), eZero, eZero, eZero, eZero, .inr (.inl (some 48)), .inr (.inl (some 49)), .inr (.inl (some 50))]),
  .inr (0, 10, .inl ([eZero, eZero, eZero, eZero, eZero, eZero, eZero, eZero, eZero, eZero])),
  .inr (0, 10, .inl ([eZero, eZero, eZero, eZero, eZero, eZero, eZero, eZero, eZero, eZero])),
  .inr (0, 7, .inl ([eZero, eZero, eZero, eZero, eZero, eZero, eZero])),
  .inl (6, [.inr (.inl (some 52)), .inr (.inl (some 53)), eZero, eZero, eZero]),
  .inr (0, 1320, .inr (0, 0)),
  .inr (0, 99, .inl (List.replicate 99 (eZero))),
  .inl (0, [.inr (.inl (some 2)), .inr (.inl (some 57)), .inr (.inl (some 55)), .inr (.inl (some 56))]),
  .inr (0, 9, .inl ([eZero, eZero, eZero, eZero, eZero, eZero, eZero, eZero, eZero])),
  .inr (0, 10, .inl ([eZero, eZero, eZero, eZero, eZero, eZero, eZero, eZero, eZero, eZero])),
  .inl (10, [.inr (.inl (some 2)), .inl (0, -1, -1), .inr (.inl (some 58)), .inr (.inl (some 59)), .inr (.inl (some 60)), eZero]),
  .inr (0, 7, .inl ([eZero, eZero, eZero, eZero, eZero, eZero, eZero])),
  .inr (0, 7, .inl ([eZero, eZero, eZero, eZero, eZero, eZero, eZero])),
  .inr (0, 7, .inl ([eZero, eZero, eZero, eZero, eZero, eZero, eZero])),
  .inl (1, [.inr (.inl (some 2)), .inr (.inl (some 54)), .inr (.inl (some 62)), .inr (.inl (some 66)), eZero]),
  .inl (7, [eZero, eZero, eZero, eZero, eZero, eZero, .inr (.inl (some 63)), .inr (.inl (some 64)), .inr (.inl (some 65))]),
  .inr (0, 10, .inl ([eZero, eZero, eZero, eZero, eZero, eZero, eZero, eZero, eZero, eZero])),
  .inr (0, 10, .inl ([eZero, eZero, eZero, eZero, eZero, eZero, eZero, eZero, eZero, eZero])),
  .inr (0, 7, .inl ([eZero, eZero, eZero, eZero, eZero, eZero, eZero])),
  .inr (0, 8, .inl ([eZero, eZero, eZero, eZero, eZero, eZero, eZero, eZero])),
  .inl (9, [.inr (.inl (some 2)), .inr (.inl (some 68)), .inr (.inl (some 69)), eZero]),
  .inr (0, 20, .inl (List.replicate 20 (eZero))),
  .inr (2, 20, .inl (List.replicate 20 (eZero))),
  .inl (12, [eZero, .inr (.inl (some 71)), eZero, .inr (.inl (some 72)), eZero, .inr (.inl (some 73)), .inr (.inl (some 74)), .inr (.inl (some 75)), .inr (.inl (some 76)), .inr (.inl (some 77)), eZero, eZero, eZero, eZero, eZero, eZero, eZero, .inl (0, -1, -1), eZero, eZero, eZero, .inr (.inl (some 78)), .inr (.inl (some 79)), .inr (.inl (some 80)), .inr (.inl (some 81)), .inr (.inl (some 82)), .inr (.inl (some 83)), .inr (.inl (some 84)), .inr (.inl (some 85)), .inr (.inl (some 86)), .inr (.inl (some 87)), .inr (.inl (some 88)), .inr (.inl (some 89)), .inr (.inl (some 90)), .inr (.inl (some 91)), .inr (.inl (some 92)), .inr (.inl (some 93)), .inr (.inl (some 94)), .inr (.inl (some 95)), .inr (.inl (some 96)), eZero, .inr (.inl (some 97)), .inr (.inl (some 98)), .inr (.inl (some 99)), .inr (.inl (some 100)), .inr (.inl (some 101)), eZero, .inr (.inl (some 102)), .inr (.inl (some 103)), .inr (.inl (some 104)), eZero, .inr (.inl (some 105)), .inr (.inl (some 106)), eZero, .inr (.inl (some 107)), .inr (.inl (some 108)), eZero, eZero, .inr (.inl (some 109)), .inr (.inl (some 110)), eZero, eZero, .inr (.inl (some 111)), eZero, .inr (.inl (some 112)), .inr (.inl (some 113)), .inr (.inl (some 114)), .inr (.inl (some 115)), .inr (.inl (some 116))]),
  .inr (1, 2000, .inr (-128, 127)),
  .inr (1, 2000, .inr (-128, 127)),
  .inr (0, 403, .inl (List.replicate 403 (eZero))),
  .inr (0, 403, .inl (List.replicate 403 (eZero))),
  .inr (0, 403, .inl (List.replicate 403 (eZero))),
  .inr (3, 403, .inr (0, 0)),
  .inr (3, 22, .inr (0, 0)),
  .inr (3, 15, .inr (0, 0)),
  .inr (0, 15, .inl (List.replicate 15 (eZero))),
  .inr (0, 2, .inl ([eZero, eZero])),
  .inr (0, 14, .inl (List.replicate 14 (eZero))),
  .inr (0, 2, .inl ([eZero, eZero])),
  .inr (0, 20, .inl (List.replicate 20 (eZero))),
  .inr (0, 20, .inl (List.replicate 20 (eZero))),
  .inr (0, 20, .inl (List.replicate 20 (eZero))),
  .inr (0, 2, .inl ([eZero, eZero])),
  .inr (0, 16, .inl (List.replicate 16 (eZero))),
  .inr (0, 16, .inl (List.replicate 16 (eZero))),
  .inr (0, 16, .inl (List.replicate 16 (eZero))),
  .inr (0, 16, .inl (List.replicate 16 (eZero))),
  .inr (0, 2, .inl ([eZero, eZero])),
  .inr (0, 2, .inl ([eZero, eZero])),
  .inr (0, 2, .inl ([.inl (0, 100, 100), eZero])),
  .inr (0, 2, .inl ([eZero, eZero])),
  .inr (0, 8, .inl ([eZero, eZero, eZero, eZero, eZero, eZero, eZero, eZero])),
  .inr (0, 8, .inl ([eZero, eZero, eZero, eZero, eZero, eZero, eZero, eZero])),
  .inr (2, 260, .inl (List.replicate 260 (eZero))),
  .inr (0, 260, .inl (List.replicate 260 (eZero))),
  .inr (0, 260, .inl (List.replicate 260 (eZero))),
  .inr (0, 260, .inl (List.replicate 260 (eZero))),
  .inr (0, 260, .inl (List.replicate 260 (eZero))),
  .inr (0, 840, .inr (0, 0)),
  .inr (0, 840, .inr (0, 0)),
  .inr (0, 64, .inl (List.replicate 64 (eZero))),
  .inr (0, 9, .inl ([eZero, eZero, eZero, eZero, eZero, eZero, eZero, eZero, eZero])),
  .inr (0, 400, .inl (List.replicate 400 (eZero))),
  .inr (0, 58, .inl ((List.replicate 56 (eZero) ++ ([.inl (0, 100, 100), eZero])))),
  .inr (0, 58, .inl ((List.replicate 56 (eZero) ++ ([.inl (0, 100, 100), eZero])))),
  .inr (0, 7, .inl ([eZero, eZero, eZero, eZero, eZero, eZero, eZero])),
  .inr (0, 7, .inl ([eZero, eZero, eZero, eZero, eZero, eZero, eZero])),
  .inr (0, 2320, .inr (0, 0)),
  .inr (0, 20, .inl (List.replicate 20 (eZero))),
  .inr (0, 20, .inl (List.replicate 20 (eZero))),
  .inr (0, 10, .inl ([eZero, eZero, eZero, eZero, eZero, eZero, eZero, eZero, eZero, eZero])),
  .inr (2, 3, .inl ([eZero, eZero, eZero])),
  .inr (0, 174, .inl (List.replicate 174 (eZero)))]
def hClass : eH := [
  .inl (11, [.inr (.inl (some 1)), eZero, .inl (0, -1, -1), .inr (.inl (some 2)), .inr (.inl (some 20)), .inr (.inl (some 38)), .inr (.inl (some 43)), .inr (.inl (some 44)), .inr (.inl (some 47)), .inr (.inl (some 51)), .inr (.inl (some 54)), .inr (.inl (some 61)), .inr (.inl (some 67))]),
  .inr (1, 2000, .inr (-128, 127)),
  .inl (3, [eZero, eZero, eZero, eZero, eZero, .inl (0, 100, 100), eZero, .inr (.inl (some 3)), .inr (.inl (some 4)), .inr (.inl (some 5)), .inr (.inl (some 6)), .inr (.inl (some 7)), .inr (.inl (some 8)), .inr (.inl (some 9)), .inr (.inl (some 10)), .inr (.inl (some 11))]),
  .inr (0, 7, .inl ([eZero, eZero, eZero, eZero, eZero, eZero, eZero])),
  .inr (0, 10, .inl ([eZero, eZero, eZero, eZero, eZero, eZero, eZero, eZero, eZero, eZero])),
  .inr (0, 10, .inl ([eZero, eZero, eZero, eZero, eZero, eZero, eZero, eZero, eZero, eZero])),
  .inr (0, 10, .inl ([eZero, eZero, eZero, eZero, eZero, eZero, eZero, eZero, eZero, eZero])),
  .inr (0, 8, .inl ([eZero, eZero, eZero, eZero, eZero, eZero, eZero, eZero])),
  .inr (0, 8, .inl ([eZero, eZero, eZero, eZero, eZero, eZero, eZero, eZero])),
  .inr (0, 8, .inl ([eZero, eZero, eZero, eZero, eZero, eZero, eZero, eZero])),
  .inr (0, 8, .inl ([eZero, eZero, eZero, eZero, eZero, eZero, eZero, eZero])),
  .inl (4, [.inr (.inl (some 12)), .inl (0, 6, 6), .inr (.inl (some 13)), .inr (.inl (some 18)), .inr (.inl (some 19)), eZero]),
  .inr (0, 406, .inl (([.inl (0, 4, 4), .inl (0, 5, 5), .inl (0, 1, 1), .inl (0, 13, 13), .inl (0, 5, 5), .inl (0, 9, 9)] ++ (List.replicate 400 (eZero))))),
  .inr (4, 4, .inl ([.inr (.inl (some 14)), .inr (.inl (some 15)), .inr (.inl (some 16)), .inr (.inl (some 17))])),
  .inr (0, 14, .inl (([eZero, .inl (0, 3, 3)] ++ (List.replicate 12 (eZero))))),
  .inr (0, 14, .inl (([.inl (0, 3, 3), .inl (0, 4, 4)] ++ (List.replicate 12 (eZero))))),
  .inr (0, 14, .inl (([.inl (0, 4, 4), .inl (0, 5, 5)] ++ (List.replicate 12 (eZero))))),
  .inr (0, 14, .inl (([.inl (0, 5, 5), .inl (0, 6, 6)] ++ (List.replicate 12 (eZero))))),
  .inr (0, 4, .inl ([.inl (0, 1, 1), .inl (0, 1, 1), .inl (0, 1, 1), .inl (0, 1, 1)])),
  .inr (0, 32, .inl (List.replicate 32 (eZero))),
  .inl (3, [eZero, eZero, eZero, eZero, eZero, eZero, eZero, .inr (.inl (some 21)), .inr (.inl (some 22)), .inr (.inl (some 23)), .inr (.inl (some 24)), .inr (.inl (some 25)), .inr (.inl (some 26)), .inr (.inl (some 27)), .inr (.inl (some 28)), .inr (.inl (some 29))]),
  .inr (0, 7, .inl ([eZero, eZero, eZero, eZero, eZero, eZero, eZero])),
  .inr (0, 10, .inl ([eZero, eZero, eZero, eZero, eZero, eZero, eZero, eZero, eZero, eZero])),
  .inr (0, 10, .inl ([eZero, eZero, eZero, eZero, eZero, eZero, eZero, eZero, eZero, eZero])),
  .inr (0, 10, .inl ([eZero, eZero, eZero, eZero, eZero, eZero, eZero, eZero, eZero, eZero])),
  .inr (0, 8, .inl ([eZero, eZero, eZero, eZero, eZero, eZero, eZero, eZero])),
  .inr (0, 8, .inl ([eZero, eZero, eZero, eZero, eZero, eZero, eZero, eZero])),
  .inr (0, 8, .inl ([eZero, eZero, eZero, eZero, eZero, eZero, eZero, eZero])),
  .inr (0, 8, .inl ([eZero, eZero, eZero, eZero, eZero, eZero, eZero, eZero])),
  .inl (4, [.inr (.inl (some 30)), eZero, .inr (.inl (some 31)), .inr (.inl (some 36)), .inr (.inl (some 37)), eZero]),
  .inr (0, 406, .inl (List.replicate 406 (eZero))),
  .inr (4, 4, .inl ([.inr (.inl (some 32)), .inr (.inl (some 33)), .inr (.inl (some 34)), .inr (.inl (some 35))])),
  .inr (0, 14, .inl (List.replicate 14 (eZero))),
  .inr (0, 14, .inl (List.replicate 14 (eZero))),
  .inr (0, 14, .inl (List.replicate 14 (eZero))),
  .inr (0, 14, .inl (List.replicate 14 (eZero))),
  .inr (0, 4, .inl ([eZero, eZero, eZero, eZero])),
  .inr (0, 32, .inl (List.replicate 32 (eZero))),
  .inl (8, [.inr (.inl (some 39)), .inr (.inl (some 40)), .inr (.inl (some 41)), .inr (.inl (some 42)), .inr (.inl none), eZero]),
  .inr (0, 401, .inl (List.replicate 401 (eZero))),
  .inr (0, 401, .inl (List.replicate 401 (eZero))),
  .inr (3, 401, .inr (0, 0)),
  .inr (3, 22, .inr (0, 0)),
  .inl (2, [.inr (.inl (some 38)), .inr (.inl (some 29)), eZero, eZero, eZero, eZero, eZero]),
  .inl (5, [.inr (.inl (some 38)), .inr (.inl (some 20)), .inr (.inl (some 45)), .inr (.inl (some 46)), eZero, eZero]),
  .inr (3, 7, .inr (0, 0)),
  .inr (3, 8, .inr (0, 0)),
  .inl (7, [eZero, .inl (0, 100, 100), eZero, eZero, eZero, eZero, .inr (.inl (some 48)), .inr (.inl (some 49)), .inr (.inl (some 50))]),
  .inr (0, 10, .inl ([eZero, eZero, eZero, eZero, eZero, eZero, eZero, eZero, eZero, eZero])),
  .inr (0, 10, .inl ([eZero, eZero, eZero, eZero, eZero, eZero, eZero, eZero, eZero, eZero])),
  .inr (0, 7, .inl ([eZero, eZero, eZero, eZero, eZero, eZero, eZero])),
  .inl (6, [.inr (.inl (some 52)), .inr (.inl (some 53)), eZero, eZero, eZero]),
  .inr (0, 1320, .inr (0, 0)),
  .inr (0, 99, .inl (List.replicate 99 (eZero))),
  .inl (0, [.inr (.inl (some 2)), .inr (.inl (some 57)), .inr (.inl (some 55)), .inr (.inl (some 56))]),
  .inr (0, 9, .inl ([eZero, eZero, eZero, eZero, eZero, eZero, eZero, eZero, eZero])),
  .inr (0, 10, .inl ([eZero, eZero, eZero, eZero, eZero, eZero, eZero, eZero, eZero, eZero])),
  .inl (10, [.inr (.inl (some 2)), .inl (0, -1, -1), .inr (.inl (some 58)), .inr (.inl (some 59)), .inr (.inl (some 60)), eZero]),
  .inr (0, 7, .inl ([eZero, eZero, eZero, eZero, eZero, eZero, eZero])),
  .inr (0, 7, .inl ([eZero, eZero, eZero, eZero, eZero, eZero, eZero])),
  .inr (0, 7, .inl ([eZero, eZero, eZero, eZero, eZero, eZero, eZero])),
  .inl (1, [.inr (.inl (some 2)), .inr (.inl (some 54)), .inr (.inl (some 62)), .inr (.inl (some 66)), eZero]),
  .inl (7, [eZero, eZero, eZero, eZero, eZero, eZero, .inr (.inl (some 63)), .inr (.inl (some 64)), .inr (.inl (some 65))]),
  .inr (0, 10, .inl ([eZero, eZero, eZero, eZero, eZero, eZero, eZero, eZero, eZero, eZero])),
  .inr (0, 10, .inl ([eZero, eZero, eZero, eZero, eZero, eZero, eZero, eZero, eZero, eZero])),
  .inr (0, 7, .inl ([eZero, eZero, eZero, eZero, eZero, eZero, eZero])),
  .inr (0, 8, .inl ([eZero, eZero, eZero, eZero, eZero, eZero, eZero, eZero])),
  .inl (9, [.inr (.inl (some 2)), .inr (.inl (some 68)), .inr (.inl (some 69)), eZero]),
  .inr (0, 20, .inl (List.replicate 20 (eZero))),
  .inr (2, 20, .inl (List.replicate 20 (eZero)))]
theorem eGl_le {Fz : (Nat → Prop) → State → Heap → Prop} {l0 : Launch} {cl : List vw_C} {Ts : List Cond} {nst : List (String × Nat × MethodName × String)} {sr : List (Int × Int)} {ms : List eM} {yt : List eY} {d y : Nat} {S : eS} {fs gs : List eS} (h : eGl Fz l0 cl Ts nst sr ms yt d y S fs) (hle : fs.all (fun f => gs.any (fun g => eLeS sr (eId sr.length) f g)) = true) : eGl Fz l0 cl Ts nst sr ms yt d y S gs := by
  intro M Y hM hY p e R s m args below meth c hcx D A H0 σ ad0 hs hA hFs Q K
  refine h M Y hM hY p e R s m args below meth c hcx D A H0 σ ad0 hs hA hFs Q (fun f hf H locs ws tys ls lv stk hc => ?_)
  obtain ⟨g, hg, hfg⟩ := List.any_eq_true.mp (List.all_eq_true.mp hle f hf)
  obtain ⟨g1, g2, g3, lv', g4⟩ := eLeS_ok hs hs.1 (eId_ok (fun _ _ => rfl)) hfg hc
  have := K g hg H locs ws tys ls lv' stk g4
  rw [← g1, ← g2, ← g3] at this
  exact this
def tEnds (sr : List (Int × Int)) (orc : Nat → Nat → List eV → eH → Option (List (Option eV × eH))) (d b : Nat) (as : List eV) (h : eH) (gs : List eS) : Bool := match tMs[b]? with
  | none => false
  | some N => Nat.ble (eCats as) N.2.1 && (match eExec sr tDf tMs orc 100000 d b [] (0, eArgs 0 as, [], h, 0, 0) with
    | some fs => fs.all (fun f => gs.any (fun g => eLeS sr (eId sr.length) f g))
    | none => false)
theorem tEnds_ok {l0 : Launch} {adK adV : Nat → Nat} {sr : List (Int × Int)} {orc : Nat → Nat → List eV → eH → Option (List (Option eV × eH))} (horc : ∀ (d b : Nat) (as : List eV) (h : eH) (os : List (Option eV × eH)), orc d b as h = some os → eCon (tFz adK adV) l0 tCl lw_g tNs sr tMs tYs d b as h os) {d b : Nat} {as : List eV} {h : eH} {gs : List eS} {os : List (Option eV × eH)} {N : eM} (hc : tEnds sr orc d b as h gs = true) (hN : tMs[b]? = some N) (ho : eOuts N gs = some os) : eCon (tFz adK adV) l0 tCl lw_g tNs sr tMs tYs d b as h os := by
  unfold tEnds at hc
  rw [hN] at hc
  simp only [Bool.and_eq_true] at hc
  obtain ⟨h1, h2⟩ := hc
  split at h2
  · rename_i fs hfs
    exact eCon_of tOk hN (Nat.le_of_ble_eq_true h1) (eGl_le (tRun horc _ _ _ _ _ _ hfs) h2) ho
  · cases h2
set_option maxRecDepth 1000000 in
theorem tInit1 : tEnds [(0, 0)] (tOrc [(0, 0)]) 600 138 [.inr (.inl (some 0))] [.inl (11, (tDf[11]?).getD [])] [(183, [], [], hClass, 69, 6048)] = true := by decide +kernel
set_option maxRecDepth 1000000 in
theorem tInit2 : tEnds [(0, 0)] tNo 600 0 [.inr (.inl (some 70))] (hClass ++ [.inl (12, (tDf[12]?).getD [])]) [(860, [], [], hFresh, 46, 11962)] = true := by decide +kernel
theorem tInit1_ok (l0 : Launch) (adK adV : Nat → Nat) : eCon (tFz adK adV) l0 tCl lw_g tNs [(0, 0)] tMs tYs 600 138 [.inr (.inl (some 0))] [.inl (11, (tDf[11]?).getD [])] [(none, hClass)] := tEnds_ok tOrc_ok tInit1 rfl rfl
theorem tInit2_ok (l0 : Launch) (adK adV : Nat → Nat) : eCon (tFz adK adV) l0 tCl lw_g tNs [(0, 0)] tMs tYs 600 0 [.inr (.inl (some 70))] (hClass ++ [.inl (12, (tDf[12]?).getD [])]) [(none, hFresh)] := tEnds_ok (fun _ _ _ _ _ h => by cases h) tInit2 rfl rfl
end
section
/-! THE LAW: its instructions -/
def lDk (q : Nat × Instr × Nat) : Bool := decide (decode code q.1 = .ok (q.2.1, q.2.2))
theorem ld {ch : List (Nat × Instr × Nat)} (h : ch.all lDk = true) (i : Nat) {en : Nat × Instr × Nat} (he : ch[i]? = some en) : decode code en.1 = .ok (en.2.1, en.2.2) := of_decide_eq_true (List.all_eq_true.mp h en (List.mem_of_getElem? he))
def lC0 : List (Nat × Instr × Nat) := [(0, .new 7, 3), (3, .dup, 1), (4, .invokespecial 9, 3), (7, .astore_n 1, 1), (8, .new 10, 3), (11, .dup, 1), (12, .invokespecial 12, 3), (15, .astore_n 2, 1), (16, .iconst 0, 1), (17, .istore_n 3, 1), (18, .iload_n 3, 1), (19, .aload_n 0, 1), (20, .arraylength, 1), (21, .bipush 6, 2), (23, .isub, 1), (24, .if_icmp .gt 1173, 3), (27, .aload_n 0, 1), (28, .iload_n 3, 1), (29, .iaload, 1), (30, .bipush 63, 2), (32, .iand, 1), (33, .tableswitch 1158 0 34 #[155, 218, 241, 254, 267, 300, 333, 366, 415, 438, 461, 510, 533, 546, 579, 622, 645, 668, 691, 714, 747, 780, 803, 816, 839, 872, 905, 938, 971, 1020, 1033, 1066, 1089, 1112, 1135], 155)]
theorem lc0 : lC0.all lDk = true := by decide +kernel
def lC2 : List (Nat × Instr × Nat) := [(188, .aload_n 1, 1), (189, .aload_n 0, 1), (190, .iload_n 3, 1), (191, .iconst 1, 1)]
theorem lc2 : lC2.all lDk = true := by decide +kernel
def lC3 : List (Nat × Instr × Nat) := [(192, .iadd, 1), (193, .iaload, 1), (194, .aload_n 0, 1), (195, .iload_n 3, 1), (196, .iconst 2, 1), (197, .iadd, 1), (198, .iaload, 1), (199, .aload_n 0, 1), (200, .iload_n 3, 1), (201, .iconst 3, 1), (202, .iadd, 1), (203, .iaload, 1), (204, .aload_n 0, 1), (205, .iload_n 3, 1), (206, .iconst 4, 1), (207, .iadd, 1), (208, .iaload, 1), (209, .aload_n 0, 1), (210, .iload_n 3, 1), (211, .iconst 5, 1), (212, .iadd, 1), (213, .iaload, 1), (214, .invokevirtual 13, 3), (217, .aload_n 2, 1), (218, .aload_n 0, 1), (219, .iload_n 3, 1), (220, .iconst 1, 1), (221, .iadd, 1), (222, .iaload, 1), (223, .aload_n 0, 1), (224, .iload_n 3, 1), (225, .iconst 2, 1), (226, .iadd, 1), (227, .iaload, 1), (228, .aload_n 0, 1), (229, .iload_n 3, 1), (230, .iconst 3, 1), (231, .iadd, 1), (232, .iaload, 1), (233, .aload_n 0, 1), (234, .iload_n 3, 1), (235, .iconst 4, 1), (236, .iadd, 1), (237, .iaload, 1), (238, .aload_n 0, 1), (239, .iload_n 3, 1), (240, .iconst 5, 1), (241, .iadd, 1), (242, .iaload, 1), (243, .invokevirtual 17, 3), (246, .if_icmp .eq 945, 3), (249, .iconst 0, 1), (250, .ireturn, 1), (251, .aload_n 1, 1), (252, .aload_n 0, 1), (253, .iload_n 3, 1), (254, .iconst 1, 1), (255, .iadd, 1)]
theorem lc3 : lC3.all lDk = true := by decide +kernel
def lC4 : List (Nat × Instr × Nat) := [(256, .iaload, 1), (257, .invokevirtual 18, 3), (260, .aload_n 2, 1), (261, .aload_n 0, 1), (262, .iload_n 3, 1), (263, .iconst 1, 1), (264, .iadd, 1), (265, .iaload, 1), (266, .invokevirtual 22, 3), (269, .if_icmp .eq 922, 3), (272, .iconst 0, 1), (273, .ireturn, 1), (274, .aload_n 1, 1), (275, .invokevirtual 23, 3), (278, .aload_n 2, 1), (279, .invokevirtual 27, 3), (282, .if_icmp .eq 909, 3), (285, .iconst 0, 1), (286, .ireturn, 1), (287, .aload_n 1, 1), (288, .invokevirtual 28, 3), (291, .aload_n 2, 1), (292, .invokevirtual 31, 3), (295, .if_icmp .eq 896, 3), (298, .iconst 0, 1), (299, .ireturn, 1), (300, .aload_n 1, 1), (301, .aload_n 0, 1), (302, .iload_n 3, 1), (303, .iconst 1, 1), (304, .iadd, 1), (305, .iaload, 1), (306, .aload_n 0, 1), (307, .iload_n 3, 1), (308, .iconst 2, 1), (309, .iadd, 1), (310, .iaload, 1), (311, .invokevirtual 32, 3), (314, .aload_n 2, 1), (315, .aload_n 0, 1), (316, .iload_n 3, 1), (317, .iconst 1, 1), (318, .iadd, 1), (319, .iaload, 1)]
theorem lc4 : lC4.all lDk = true := by decide +kernel
def lC5 : List (Nat × Instr × Nat) := [(320, .aload_n 0, 1), (321, .iload_n 3, 1), (322, .iconst 2, 1), (323, .iadd, 1), (324, .iaload, 1), (325, .invokevirtual 36, 3), (328, .if_icmp .eq 863, 3), (331, .iconst 0, 1), (332, .ireturn, 1), (333, .aload_n 1, 1), (334, .aload_n 0, 1), (335, .iload_n 3, 1), (336, .iconst 1, 1), (337, .iadd, 1), (338, .iaload, 1), (339, .aload_n 0, 1), (340, .iload_n 3, 1), (341, .iconst 2, 1), (342, .iadd, 1), (343, .iaload, 1), (344, .invokevirtual 37, 3), (347, .aload_n 2, 1), (348, .aload_n 0, 1), (349, .iload_n 3, 1), (350, .iconst 1, 1), (351, .iadd, 1), (352, .iaload, 1), (353, .aload_n 0, 1), (354, .iload_n 3, 1), (355, .iconst 2, 1), (356, .iadd, 1), (357, .iaload, 1), (358, .invokevirtual 40, 3), (361, .if_icmp .eq 830, 3), (364, .iconst 0, 1), (365, .ireturn, 1), (366, .aload_n 1, 1), (367, .aload_n 0, 1), (368, .iload_n 3, 1), (369, .iconst 1, 1), (370, .iadd, 1), (371, .iaload, 1), (372, .aload_n 0, 1), (373, .iload_n 3, 1), (374, .iconst 2, 1), (375, .iadd, 1), (376, .iaload, 1), (377, .invokevirtual 41, 3), (380, .aload_n 2, 1), (381, .aload_n 0, 1), (382, .iload_n 3, 1), (383, .iconst 1, 1)]
theorem lc5 : lC5.all lDk = true := by decide +kernel
def lC6 : List (Nat × Instr × Nat) := [(384, .iadd, 1), (385, .iaload, 1), (386, .aload_n 0, 1), (387, .iload_n 3, 1), (388, .iconst 2, 1), (389, .iadd, 1), (390, .iaload, 1), (391, .invokevirtual 44, 3), (394, .if_icmp .eq 797, 3), (397, .iconst 0, 1), (398, .ireturn, 1), (399, .aload_n 1, 1), (400, .aload_n 0, 1), (401, .iload_n 3, 1), (402, .iconst 1, 1), (403, .iadd, 1), (404, .iaload, 1), (405, .aload_n 0, 1), (406, .iload_n 3, 1), (407, .iconst 2, 1), (408, .iadd, 1), (409, .iaload, 1), (410, .ifCond .eq 7, 3), (413, .iconst 1, 1), (414, .goto 4, 3), (417, .iconst 0, 1), (418, .invokevirtual 45, 3), (421, .aload_n 2, 1), (422, .aload_n 0, 1), (423, .iload_n 3, 1), (424, .iconst 1, 1), (425, .iadd, 1), (426, .iaload, 1), (427, .aload_n 0, 1), (428, .iload_n 3, 1), (429, .iconst 2, 1), (430, .iadd, 1), (431, .iaload, 1), (432, .ifCond .eq 7, 3), (435, .iconst 1, 1), (436, .goto 4, 3), (439, .iconst 0, 1), (440, .invokevirtual 49, 3), (443, .if_icmp .eq 748, 3), (446, .iconst 0, 1), (447, .ireturn, 1)]
theorem lc6 : lC6.all lDk = true := by decide +kernel
def lC7 : List (Nat × Instr × Nat) := [(448, .aload_n 1, 1), (449, .aload_n 0, 1), (450, .iload_n 3, 1), (451, .iconst 1, 1), (452, .iadd, 1), (453, .iaload, 1), (454, .invokevirtual 50, 3), (457, .aload_n 2, 1), (458, .aload_n 0, 1), (459, .iload_n 3, 1), (460, .iconst 1, 1), (461, .iadd, 1), (462, .iaload, 1), (463, .invokevirtual 53, 3), (466, .if_icmp .eq 725, 3), (469, .iconst 0, 1), (470, .ireturn, 1), (471, .aload_n 1, 1), (472, .aload_n 0, 1), (473, .iload_n 3, 1), (474, .iconst 1, 1), (475, .iadd, 1), (476, .iaload, 1), (477, .invokevirtual 54, 3), (480, .aload_n 2, 1), (481, .aload_n 0, 1), (482, .iload_n 3, 1), (483, .iconst 1, 1), (484, .iadd, 1), (485, .iaload, 1), (486, .invokevirtual 57, 3), (489, .if_icmp .eq 702, 3), (492, .iconst 0, 1), (493, .ireturn, 1), (494, .aload_n 1, 1), (495, .aload_n 0, 1), (496, .iload_n 3, 1), (497, .iconst 1, 1), (498, .iadd, 1), (499, .iaload, 1), (500, .aload_n 0, 1), (501, .iload_n 3, 1), (502, .iconst 2, 1), (503, .iadd, 1), (504, .iaload, 1), (505, .ifCond .eq 7, 3), (508, .iconst 1, 1), (509, .goto 4, 3)]
theorem lc7 : lC7.all lDk = true := by decide +kernel
def lC8 : List (Nat × Instr × Nat) := [(512, .iconst 0, 1), (513, .invokevirtual 58, 3), (516, .aload_n 2, 1), (517, .aload_n 0, 1), (518, .iload_n 3, 1), (519, .iconst 1, 1), (520, .iadd, 1), (521, .iaload, 1), (522, .aload_n 0, 1), (523, .iload_n 3, 1), (524, .iconst 2, 1), (525, .iadd, 1), (526, .iaload, 1), (527, .ifCond .eq 7, 3), (530, .iconst 1, 1), (531, .goto 4, 3), (534, .iconst 0, 1), (535, .invokevirtual 61, 3), (538, .if_icmp .eq 653, 3), (541, .iconst 0, 1), (542, .ireturn, 1), (543, .aload_n 1, 1), (544, .aload_n 0, 1), (545, .iload_n 3, 1), (546, .iconst 1, 1), (547, .iadd, 1), (548, .iaload, 1), (549, .invokevirtual 62, 3), (552, .aload_n 2, 1), (553, .aload_n 0, 1), (554, .iload_n 3, 1), (555, .iconst 1, 1), (556, .iadd, 1), (557, .iaload, 1), (558, .invokevirtual 65, 3), (561, .if_icmp .eq 630, 3), (564, .iconst 0, 1), (565, .ireturn, 1), (566, .aload_n 1, 1), (567, .invokevirtual 66, 3), (570, .aload_n 2, 1), (571, .invokevirtual 70, 3), (574, .if_icmp .eq 617, 3)]
theorem lc8 : lC8.all lDk = true := by decide +kernel
def lC9 : List (Nat × Instr × Nat) := [(577, .iconst 0, 1), (578, .ireturn, 1), (579, .aload_n 1, 1), (580, .aload_n 0, 1), (581, .iload_n 3, 1), (582, .iconst 1, 1), (583, .iadd, 1), (584, .iaload, 1), (585, .aload_n 0, 1), (586, .iload_n 3, 1), (587, .iconst 2, 1), (588, .iadd, 1), (589, .iaload, 1), (590, .invokevirtual 71, 3), (593, .aload_n 2, 1), (594, .aload_n 0, 1), (595, .iload_n 3, 1), (596, .iconst 1, 1), (597, .iadd, 1), (598, .iaload, 1), (599, .aload_n 0, 1), (600, .iload_n 3, 1), (601, .iconst 2, 1), (602, .iadd, 1), (603, .iaload, 1), (604, .invokevirtual 74, 3), (607, .if_icmp .eq 584, 3), (610, .iconst 0, 1), (611, .ireturn, 1), (612, .aload_n 1, 1), (613, .aload_n 0, 1), (614, .iload_n 3, 1), (615, .iconst 1, 1), (616, .iadd, 1), (617, .iaload, 1), (618, .aload_n 0, 1), (619, .iload_n 3, 1), (620, .iconst 2, 1), (621, .iadd, 1), (622, .iaload, 1), (623, .aload_n 0, 1), (624, .iload_n 3, 1), (625, .iconst 3, 1), (626, .iadd, 1), (627, .iaload, 1), (628, .invokevirtual 75, 3), (631, .aload_n 2, 1), (632, .aload_n 0, 1), (633, .iload_n 3, 1), (634, .iconst 1, 1), (635, .iadd, 1), (636, .iaload, 1), (637, .aload_n 0, 1), (638, .iload_n 3, 1), (639, .iconst 2, 1)]
theorem lc9 : lC9.all lDk = true := by decide +kernel
def lC10 : List (Nat × Instr × Nat) := [(640, .iadd, 1), (641, .iaload, 1), (642, .aload_n 0, 1), (643, .iload_n 3, 1), (644, .iconst 3, 1), (645, .iadd, 1), (646, .iaload, 1), (647, .invokevirtual 79, 3), (650, .if_icmp .eq 541, 3), (653, .iconst 0, 1), (654, .ireturn, 1), (655, .aload_n 1, 1), (656, .aload_n 0, 1), (657, .iload_n 3, 1), (658, .iconst 1, 1), (659, .iadd, 1), (660, .iaload, 1), (661, .invokevirtual 80, 3), (664, .aload_n 2, 1), (665, .aload_n 0, 1), (666, .iload_n 3, 1), (667, .iconst 1, 1), (668, .iadd, 1), (669, .iaload, 1), (670, .invokevirtual 83, 3), (673, .if_icmp .eq 518, 3), (676, .iconst 0, 1), (677, .ireturn, 1), (678, .aload_n 1, 1), (679, .aload_n 0, 1), (680, .iload_n 3, 1), (681, .iconst 1, 1), (682, .iadd, 1), (683, .iaload, 1), (684, .invokevirtual 84, 3), (687, .aload_n 2, 1), (688, .aload_n 0, 1), (689, .iload_n 3, 1), (690, .iconst 1, 1), (691, .iadd, 1), (692, .iaload, 1), (693, .invokevirtual 87, 3), (696, .if_icmp .eq 495, 3), (699, .iconst 0, 1), (700, .ireturn, 1), (701, .aload_n 1, 1), (702, .aload_n 0, 1), (703, .iload_n 3, 1)]
theorem lc10 : lC10.all lDk = true := by decide +kernel
def lC11 : List (Nat × Instr × Nat) := [(704, .iconst 1, 1), (705, .iadd, 1), (706, .iaload, 1), (707, .invokevirtual 88, 3), (710, .aload_n 2, 1), (711, .aload_n 0, 1), (712, .iload_n 3, 1), (713, .iconst 1, 1), (714, .iadd, 1), (715, .iaload, 1), (716, .invokevirtual 91, 3), (719, .if_icmp .eq 472, 3), (722, .iconst 0, 1), (723, .ireturn, 1), (724, .aload_n 1, 1), (725, .aload_n 0, 1), (726, .iload_n 3, 1), (727, .iconst 1, 1), (728, .iadd, 1), (729, .iaload, 1), (730, .invokevirtual 92, 3), (733, .aload_n 2, 1), (734, .aload_n 0, 1), (735, .iload_n 3, 1), (736, .iconst 1, 1), (737, .iadd, 1), (738, .iaload, 1), (739, .invokevirtual 95, 3), (742, .if_icmp .eq 449, 3), (745, .iconst 0, 1), (746, .ireturn, 1), (747, .aload_n 1, 1), (748, .aload_n 0, 1), (749, .iload_n 3, 1), (750, .iconst 1, 1), (751, .iadd, 1), (752, .iaload, 1), (753, .aload_n 0, 1), (754, .iload_n 3, 1), (755, .iconst 2, 1), (756, .iadd, 1), (757, .iaload, 1), (758, .invokevirtual 96, 3), (761, .aload_n 2, 1), (762, .aload_n 0, 1), (763, .iload_n 3, 1), (764, .iconst 1, 1), (765, .iadd, 1), (766, .iaload, 1), (767, .aload_n 0, 1)]
theorem lc11 : lC11.all lDk = true := by decide +kernel
def lC12 : List (Nat × Instr × Nat) := [(768, .iload_n 3, 1), (769, .iconst 2, 1), (770, .iadd, 1), (771, .iaload, 1), (772, .invokevirtual 99, 3), (775, .if_icmp .eq 416, 3), (778, .iconst 0, 1), (779, .ireturn, 1), (780, .aload_n 1, 1), (781, .aload_n 0, 1), (782, .iload_n 3, 1), (783, .iconst 1, 1), (784, .iadd, 1), (785, .iaload, 1), (786, .aload_n 0, 1), (787, .iload_n 3, 1), (788, .iconst 2, 1), (789, .iadd, 1), (790, .iaload, 1), (791, .invokevirtual 100, 3), (794, .aload_n 2, 1), (795, .aload_n 0, 1), (796, .iload_n 3, 1), (797, .iconst 1, 1), (798, .iadd, 1), (799, .iaload, 1), (800, .aload_n 0, 1), (801, .iload_n 3, 1), (802, .iconst 2, 1), (803, .iadd, 1), (804, .iaload, 1), (805, .invokevirtual 103, 3), (808, .if_icmp .eq 383, 3), (811, .iconst 0, 1), (812, .ireturn, 1), (813, .aload_n 1, 1), (814, .aload_n 0, 1), (815, .iload_n 3, 1), (816, .iconst 1, 1), (817, .iadd, 1), (818, .iaload, 1), (819, .invokevirtual 104, 3), (822, .aload_n 2, 1), (823, .aload_n 0, 1), (824, .iload_n 3, 1), (825, .iconst 1, 1), (826, .iadd, 1), (827, .iaload, 1), (828, .invokevirtual 107, 3), (831, .if_icmp .eq 360, 3)]
theorem lc12 : lC12.all lDk = true := by decide +kernel
def lC13 : List (Nat × Instr × Nat) := [(834, .iconst 0, 1), (835, .ireturn, 1), (836, .aload_n 1, 1), (837, .invokevirtual 108, 3), (840, .aload_n 2, 1), (841, .invokevirtual 111, 3), (844, .if_icmp .eq 347, 3), (847, .iconst 0, 1), (848, .ireturn, 1), (849, .aload_n 1, 1), (850, .aload_n 0, 1), (851, .iload_n 3, 1), (852, .iconst 1, 1), (853, .iadd, 1), (854, .iaload, 1), (855, .invokevirtual 112, 3), (858, .aload_n 2, 1), (859, .aload_n 0, 1), (860, .iload_n 3, 1), (861, .iconst 1, 1), (862, .iadd, 1), (863, .iaload, 1), (864, .invokevirtual 115, 3), (867, .if_icmp .eq 324, 3), (870, .iconst 0, 1), (871, .ireturn, 1), (872, .aload_n 1, 1), (873, .aload_n 0, 1), (874, .iload_n 3, 1), (875, .iconst 1, 1), (876, .iadd, 1), (877, .iaload, 1), (878, .aload_n 0, 1), (879, .iload_n 3, 1), (880, .iconst 2, 1), (881, .iadd, 1), (882, .iaload, 1), (883, .invokevirtual 116, 3), (886, .aload_n 2, 1), (887, .aload_n 0, 1), (888, .iload_n 3, 1), (889, .iconst 1, 1), (890, .iadd, 1), (891, .iaload, 1), (892, .aload_n 0, 1), (893, .iload_n 3, 1), (894, .iconst 2, 1), (895, .iadd, 1)]
theorem lc13 : lC13.all lDk = true := by decide +kernel
def lC14 : List (Nat × Instr × Nat) := [(896, .iaload, 1), (897, .invokevirtual 119, 3), (900, .if_icmp .eq 291, 3), (903, .iconst 0, 1), (904, .ireturn, 1), (905, .aload_n 1, 1), (906, .aload_n 0, 1), (907, .iload_n 3, 1), (908, .iconst 1, 1), (909, .iadd, 1), (910, .iaload, 1), (911, .aload_n 0, 1), (912, .iload_n 3, 1), (913, .iconst 2, 1), (914, .iadd, 1), (915, .iaload, 1), (916, .invokevirtual 120, 3), (919, .aload_n 2, 1), (920, .aload_n 0, 1), (921, .iload_n 3, 1), (922, .iconst 1, 1), (923, .iadd, 1), (924, .iaload, 1), (925, .aload_n 0, 1), (926, .iload_n 3, 1), (927, .iconst 2, 1), (928, .iadd, 1), (929, .iaload, 1), (930, .invokevirtual 123, 3), (933, .if_icmp .eq 258, 3), (936, .iconst 0, 1), (937, .ireturn, 1), (938, .aload_n 1, 1), (939, .aload_n 0, 1), (940, .iload_n 3, 1), (941, .iconst 1, 1), (942, .iadd, 1), (943, .iaload, 1), (944, .aload_n 0, 1), (945, .iload_n 3, 1), (946, .iconst 2, 1), (947, .iadd, 1), (948, .iaload, 1), (949, .invokevirtual 124, 3), (952, .aload_n 2, 1), (953, .aload_n 0, 1), (954, .iload_n 3, 1), (955, .iconst 1, 1), (956, .iadd, 1), (957, .iaload, 1), (958, .aload_n 0, 1), (959, .iload_n 3, 1)]
theorem lc14 : lC14.all lDk = true := by decide +kernel
def lC15 : List (Nat × Instr × Nat) := [(960, .iconst 2, 1), (961, .iadd, 1), (962, .iaload, 1), (963, .invokevirtual 127, 3), (966, .if_icmp .eq 225, 3), (969, .iconst 0, 1), (970, .ireturn, 1), (971, .aload_n 1, 1), (972, .aload_n 0, 1), (973, .iload_n 3, 1), (974, .iconst 1, 1), (975, .iadd, 1), (976, .iaload, 1), (977, .aload_n 0, 1), (978, .iload_n 3, 1), (979, .iconst 2, 1), (980, .iadd, 1), (981, .iaload, 1), (982, .invokevirtual 128, 3), (985, .aload_n 2, 1), (986, .aload_n 0, 1), (987, .iload_n 3, 1), (988, .iconst 1, 1), (989, .iadd, 1), (990, .iaload, 1), (991, .aload_n 0, 1), (992, .iload_n 3, 1), (993, .iconst 2, 1), (994, .iadd, 1), (995, .iaload, 1), (996, .invokevirtual 131, 3), (999, .if_icmp .eq 192, 3), (1002, .iconst 0, 1), (1003, .ireturn, 1), (1004, .aload_n 1, 1), (1005, .aload_n 0, 1), (1006, .iload_n 3, 1), (1007, .iconst 1, 1), (1008, .iadd, 1), (1009, .iaload, 1), (1010, .aload_n 0, 1), (1011, .iload_n 3, 1), (1012, .iconst 2, 1), (1013, .iadd, 1), (1014, .iaload, 1), (1015, .ifCond .eq 7, 3), (1018, .iconst 1, 1), (1019, .goto 4, 3), (1022, .iconst 0, 1), (1023, .invokevirtual 132, 3)]
theorem lc15 : lC15.all lDk = true := by decide +kernel
def lC16 : List (Nat × Instr × Nat) := [(1026, .aload_n 2, 1), (1027, .aload_n 0, 1), (1028, .iload_n 3, 1), (1029, .iconst 1, 1), (1030, .iadd, 1), (1031, .iaload, 1), (1032, .aload_n 0, 1), (1033, .iload_n 3, 1), (1034, .iconst 2, 1), (1035, .iadd, 1), (1036, .iaload, 1), (1037, .ifCond .eq 7, 3), (1040, .iconst 1, 1), (1041, .goto 4, 3), (1044, .iconst 0, 1), (1045, .invokevirtual 136, 3), (1048, .if_icmp .eq 143, 3), (1051, .iconst 0, 1), (1052, .ireturn, 1), (1053, .aload_n 1, 1), (1054, .invokevirtual 137, 3), (1057, .aload_n 2, 1), (1058, .invokevirtual 140, 3), (1061, .if_icmp .eq 130, 3), (1064, .iconst 0, 1), (1065, .ireturn, 1), (1066, .aload_n 1, 1), (1067, .aload_n 0, 1), (1068, .iload_n 3, 1), (1069, .iconst 1, 1), (1070, .iadd, 1), (1071, .iaload, 1), (1072, .aload_n 0, 1), (1073, .iload_n 3, 1), (1074, .iconst 2, 1), (1075, .iadd, 1), (1076, .iaload, 1), (1077, .invokevirtual 141, 3), (1080, .aload_n 2, 1), (1081, .aload_n 0, 1), (1082, .iload_n 3, 1), (1083, .iconst 1, 1), (1084, .iadd, 1), (1085, .iaload, 1), (1086, .aload_n 0, 1), (1087, .iload_n 3, 1)]
theorem lc16 : lC16.all lDk = true := by decide +kernel
def lC17 : List (Nat × Instr × Nat) := [(1088, .iconst 2, 1), (1089, .iadd, 1), (1090, .iaload, 1), (1091, .invokevirtual 144, 3), (1094, .if_icmp .eq 97, 3), (1097, .iconst 0, 1), (1098, .ireturn, 1), (1099, .aload_n 1, 1), (1100, .aload_n 0, 1), (1101, .iload_n 3, 1), (1102, .iconst 1, 1), (1103, .iadd, 1), (1104, .iaload, 1), (1105, .invokevirtual 145, 3), (1108, .aload_n 2, 1), (1109, .aload_n 0, 1), (1110, .iload_n 3, 1), (1111, .iconst 1, 1), (1112, .iadd, 1), (1113, .iaload, 1), (1114, .invokevirtual 148, 3), (1117, .if_icmp .eq 74, 3), (1120, .iconst 0, 1), (1121, .ireturn, 1), (1122, .aload_n 1, 1), (1123, .aload_n 0, 1), (1124, .iload_n 3, 1), (1125, .iconst 1, 1), (1126, .iadd, 1), (1127, .iaload, 1), (1128, .invokevirtual 149, 3), (1131, .aload_n 2, 1), (1132, .aload_n 0, 1), (1133, .iload_n 3, 1), (1134, .iconst 1, 1), (1135, .iadd, 1), (1136, .iaload, 1), (1137, .invokevirtual 153, 3), (1140, .if_icmp .eq 51, 3), (1143, .iconst 0, 1), (1144, .ireturn, 1), (1145, .aload_n 1, 1), (1146, .aload_n 0, 1), (1147, .iload_n 3, 1), (1148, .iconst 1, 1), (1149, .iadd, 1), (1150, .iaload, 1), (1151, .invokevirtual 154, 3)]
theorem lc17 : lC17.all lDk = true := by decide +kernel
def lC18 : List (Nat × Instr × Nat) := [(1154, .aload_n 2, 1), (1155, .aload_n 0, 1), (1156, .iload_n 3, 1), (1157, .iconst 1, 1), (1158, .iadd, 1), (1159, .iaload, 1), (1160, .invokevirtual 157, 3), (1163, .if_icmp .eq 28, 3), (1166, .iconst 0, 1), (1167, .ireturn, 1), (1168, .aload_n 1, 1), (1169, .aload_n 0, 1), (1170, .iload_n 3, 1), (1171, .iconst 1, 1), (1172, .iadd, 1), (1173, .iaload, 1), (1174, .invokevirtual 158, 3), (1177, .aload_n 2, 1), (1178, .aload_n 0, 1), (1179, .iload_n 3, 1), (1180, .iconst 1, 1), (1181, .iadd, 1), (1182, .iaload, 1), (1183, .invokevirtual 161, 3), (1186, .if_icmp .eq 5, 3), (1189, .iconst 0, 1), (1190, .ireturn, 1), (1191, .iinc 3 6, 3), (1194, .goto (-1176), 3), (1197, .iconst 1, 1), (1198, .ireturn, 1)]
theorem lc18 : lC18.all lDk = true := by decide +kernel
theorem dl_0 : decode code 0 = .ok (.new 7, 3) := ld lc0 0 (en := (0, .new 7, 3)) rfl
theorem dl_3 : decode code 3 = .ok (.dup, 1) := ld lc0 1 (en := (3, .dup, 1)) rfl
theorem dl_4 : decode code 4 = .ok (.invokespecial 9, 3) := ld lc0 2 (en := (4, .invokespecial 9, 3)) rfl
theorem dl_7 : decode code 7 = .ok (.astore_n 1, 1) := ld lc0 3 (en := (7, .astore_n 1, 1)) rfl
theorem dl_8 : decode code 8 = .ok (.new 10, 3) := ld lc0 4 (en := (8, .new 10, 3)) rfl
theorem dl_11 : decode code 11 = .ok (.dup, 1) := ld lc0 5 (en := (11, .dup, 1)) rfl
theorem dl_12 : decode code 12 = .ok (.invokespecial 12, 3) := ld lc0 6 (en := (12, .invokespecial 12, 3)) rfl
theorem dl_15 : decode code 15 = .ok (.astore_n 2, 1) := ld lc0 7 (en := (15, .astore_n 2, 1)) rfl
theorem dl_16 : decode code 16 = .ok (.iconst 0, 1) := ld lc0 8 (en := (16, .iconst 0, 1)) rfl
theorem dl_17 : decode code 17 = .ok (.istore_n 3, 1) := ld lc0 9 (en := (17, .istore_n 3, 1)) rfl
theorem dl_18 : decode code 18 = .ok (.iload_n 3, 1) := ld lc0 10 (en := (18, .iload_n 3, 1)) rfl
theorem dl_19 : decode code 19 = .ok (.aload_n 0, 1) := ld lc0 11 (en := (19, .aload_n 0, 1)) rfl
theorem dl_20 : decode code 20 = .ok (.arraylength, 1) := ld lc0 12 (en := (20, .arraylength, 1)) rfl
theorem dl_21 : decode code 21 = .ok (.bipush 6, 2) := ld lc0 13 (en := (21, .bipush 6, 2)) rfl
theorem dl_23 : decode code 23 = .ok (.isub, 1) := ld lc0 14 (en := (23, .isub, 1)) rfl
theorem dl_24 : decode code 24 = .ok (.if_icmp .gt 1173, 3) := ld lc0 15 (en := (24, .if_icmp .gt 1173, 3)) rfl
theorem dl_27 : decode code 27 = .ok (.aload_n 0, 1) := ld lc0 16 (en := (27, .aload_n 0, 1)) rfl
theorem dl_28 : decode code 28 = .ok (.iload_n 3, 1) := ld lc0 17 (en := (28, .iload_n 3, 1)) rfl
theorem dl_29 : decode code 29 = .ok (.iaload, 1) := ld lc0 18 (en := (29, .iaload, 1)) rfl
theorem dl_30 : decode code 30 = .ok (.bipush 63, 2) := ld lc0 19 (en := (30, .bipush 63, 2)) rfl
theorem dl_32 : decode code 32 = .ok (.iand, 1) := ld lc0 20 (en := (32, .iand, 1)) rfl
theorem dl_33 : decode code 33 = .ok (.tableswitch 1158 0 34 #[155, 218, 241, 254, 267, 300, 333, 366, 415, 438, 461, 510, 533, 546, 579, 622, 645, 668, 691, 714, 747, 780, 803, 816, 839, 872, 905, 938, 971, 1020, 1033, 1066, 1089, 1112, 1135], 155) := ld lc0 21 (en := (33, .tableswitch 1158 0 34 #[155, 218, 241, 254, 267, 300, 333, 366, 415, 438, 461, 510, 533, 546, 579, 622, 645, 668, 691, 714, 747, 780, 803, 816, 839, 872, 905, 938, 971, 1020, 1033, 1066, 1089, 1112, 1135], 155)) rfl
theorem dl_188 : decode code 188 = .ok (.aload_n 1, 1) := ld lc2 0 (en := (188, .aload_n 1, 1)) rfl
theorem dl_189 : decode code 189 = .ok (.aload_n 0, 1) := ld lc2 1 (en := (189, .aload_n 0, 1)) rfl
theorem dl_190 : decode code 190 = .ok (.iload_n 3, 1) := ld lc2 2 (en := (190, .iload_n 3, 1)) rfl
theorem dl_191 : decode code 191 = .ok (.iconst 1, 1) := ld lc2 3 (en := (191, .iconst 1, 1)) rfl
theorem dl_192 : decode code 192 = .ok (.iadd, 1) := ld lc3 0 (en := (192, .iadd, 1)) rfl
theorem dl_193 : decode code 193 = .ok (.iaload, 1) := ld lc3 1 (en := (193, .iaload, 1)) rfl
theorem dl_194 : decode code 194 = .ok (.aload_n 0, 1) := ld lc3 2 (en := (194, .aload_n 0, 1)) rfl
theorem dl_195 : decode code 195 = .ok (.iload_n 3, 1) := ld lc3 3 (en := (195, .iload_n 3, 1)) rfl
theorem dl_196 : decode code 196 = .ok (.iconst 2, 1) := ld lc3 4 (en := (196, .iconst 2, 1)) rfl
theorem dl_197 : decode code 197 = .ok (.iadd, 1) := ld lc3 5 (en := (197, .iadd, 1)) rfl
theorem dl_198 : decode code 198 = .ok (.iaload, 1) := ld lc3 6 (en := (198, .iaload, 1)) rfl
theorem dl_199 : decode code 199 = .ok (.aload_n 0, 1) := ld lc3 7 (en := (199, .aload_n 0, 1)) rfl
theorem dl_200 : decode code 200 = .ok (.iload_n 3, 1) := ld lc3 8 (en := (200, .iload_n 3, 1)) rfl
theorem dl_201 : decode code 201 = .ok (.iconst 3, 1) := ld lc3 9 (en := (201, .iconst 3, 1)) rfl
theorem dl_202 : decode code 202 = .ok (.iadd, 1) := ld lc3 10 (en := (202, .iadd, 1)) rfl
theorem dl_203 : decode code 203 = .ok (.iaload, 1) := ld lc3 11 (en := (203, .iaload, 1)) rfl
theorem dl_204 : decode code 204 = .ok (.aload_n 0, 1) := ld lc3 12 (en := (204, .aload_n 0, 1)) rfl
theorem dl_205 : decode code 205 = .ok (.iload_n 3, 1) := ld lc3 13 (en := (205, .iload_n 3, 1)) rfl
theorem dl_206 : decode code 206 = .ok (.iconst 4, 1) := ld lc3 14 (en := (206, .iconst 4, 1)) rfl
theorem dl_207 : decode code 207 = .ok (.iadd, 1) := ld lc3 15 (en := (207, .iadd, 1)) rfl
theorem dl_208 : decode code 208 = .ok (.iaload, 1) := ld lc3 16 (en := (208, .iaload, 1)) rfl
theorem dl_209 : decode code 209 = .ok (.aload_n 0, 1) := ld lc3 17 (en := (209, .aload_n 0, 1)) rfl
theorem dl_210 : decode code 210 = .ok (.iload_n 3, 1) := ld lc3 18 (en := (210, .iload_n 3, 1)) rfl
theorem dl_211 : decode code 211 = .ok (.iconst 5, 1) := ld lc3 19 (en := (211, .iconst 5, 1)) rfl
theorem dl_212 : decode code 212 = .ok (.iadd, 1) := ld lc3 20 (en := (212, .iadd, 1)) rfl
theorem dl_213 : decode code 213 = .ok (.iaload, 1) := ld lc3 21 (en := (213, .iaload, 1)) rfl
theorem dl_214 : decode code 214 = .ok (.invokevirtual 13, 3) := ld lc3 22 (en := (214, .invokevirtual 13, 3)) rfl
theorem dl_217 : decode code 217 = .ok (.aload_n 2, 1) := ld lc3 23 (en := (217, .aload_n 2, 1)) rfl
theorem dl_218 : decode code 218 = .ok (.aload_n 0, 1) := ld lc3 24 (en := (218, .aload_n 0, 1)) rfl
theorem dl_219 : decode code 219 = .ok (.iload_n 3, 1) := ld lc3 25 (en := (219, .iload_n 3, 1)) rfl
theorem dl_220 : decode code 220 = .ok (.iconst 1, 1) := ld lc3 26 (en := (220, .iconst 1, 1)) rfl
theorem dl_221 : decode code 221 = .ok (.iadd, 1) := ld lc3 27 (en := (221, .iadd, 1)) rfl
theorem dl_222 : decode code 222 = .ok (.iaload, 1) := ld lc3 28 (en := (222, .iaload, 1)) rfl
theorem dl_223 : decode code 223 = .ok (.aload_n 0, 1) := ld lc3 29 (en := (223, .aload_n 0, 1)) rfl
theorem dl_224 : decode code 224 = .ok (.iload_n 3, 1) := ld lc3 30 (en := (224, .iload_n 3, 1)) rfl
theorem dl_225 : decode code 225 = .ok (.iconst 2, 1) := ld lc3 31 (en := (225, .iconst 2, 1)) rfl
theorem dl_226 : decode code 226 = .ok (.iadd, 1) := ld lc3 32 (en := (226, .iadd, 1)) rfl
theorem dl_227 : decode code 227 = .ok (.iaload, 1) := ld lc3 33 (en := (227, .iaload, 1)) rfl
theorem dl_228 : decode code 228 = .ok (.aload_n 0, 1) := ld lc3 34 (en := (228, .aload_n 0, 1)) rfl
theorem dl_229 : decode code 229 = .ok (.iload_n 3, 1) := ld lc3 35 (en := (229, .iload_n 3, 1)) rfl
theorem dl_230 : decode code 230 = .ok (.iconst 3, 1) := ld lc3 36 (en := (230, .iconst 3, 1)) rfl
theorem dl_231 : decode code 231 = .ok (.iadd, 1) := ld lc3 37 (en := (231, .iadd, 1)) rfl
theorem dl_232 : decode code 232 = .ok (.iaload, 1) := ld lc3 38 (en := (232, .iaload, 1)) rfl
theorem dl_233 : decode code 233 = .ok (.aload_n 0, 1) := ld lc3 39 (en := (233, .aload_n 0, 1)) rfl
theorem dl_234 : decode code 234 = .ok (.iload_n 3, 1) := ld lc3 40 (en := (234, .iload_n 3, 1)) rfl
theorem dl_235 : decode code 235 = .ok (.iconst 4, 1) := ld lc3 41 (en := (235, .iconst 4, 1)) rfl
theorem dl_236 : decode code 236 = .ok (.iadd, 1) := ld lc3 42 (en := (236, .iadd, 1)) rfl
theorem dl_237 : decode code 237 = .ok (.iaload, 1) := ld lc3 43 (en := (237, .iaload, 1)) rfl
theorem dl_238 : decode code 238 = .ok (.aload_n 0, 1) := ld lc3 44 (en := (238, .aload_n 0, 1)) rfl
theorem dl_239 : decode code 239 = .ok (.iload_n 3, 1) := ld lc3 45 (en := (239, .iload_n 3, 1)) rfl
theorem dl_240 : decode code 240 = .ok (.iconst 5, 1) := ld lc3 46 (en := (240, .iconst 5, 1)) rfl
theorem dl_241 : decode code 241 = .ok (.iadd, 1) := ld lc3 47 (en := (241, .iadd, 1)) rfl
theorem dl_242 : decode code 242 = .ok (.iaload, 1) := ld lc3 48 (en := (242, .iaload, 1)) rfl
theorem dl_243 : decode code 243 = .ok (.invokevirtual 17, 3) := ld lc3 49 (en := (243, .invokevirtual 17, 3)) rfl
theorem dl_246 : decode code 246 = .ok (.if_icmp .eq 945, 3) := ld lc3 50 (en := (246, .if_icmp .eq 945, 3)) rfl
theorem dl_249 : decode code 249 = .ok (.iconst 0, 1) := ld lc3 51 (en := (249, .iconst 0, 1)) rfl
theorem dl_250 : decode code 250 = .ok (.ireturn, 1) := ld lc3 52 (en := (250, .ireturn, 1)) rfl
theorem dl_251 : decode code 251 = .ok (.aload_n 1, 1) := ld lc3 53 (en := (251, .aload_n 1, 1)) rfl
theorem dl_252 : decode code 252 = .ok (.aload_n 0, 1) := ld lc3 54 (en := (252, .aload_n 0, 1)) rfl
theorem dl_253 : decode code 253 = .ok (.iload_n 3, 1) := ld lc3 55 (en := (253, .iload_n 3, 1)) rfl
theorem dl_254 : decode code 254 = .ok (.iconst 1, 1) := ld lc3 56 (en := (254, .iconst 1, 1)) rfl
theorem dl_255 : decode code 255 = .ok (.iadd, 1) := ld lc3 57 (en := (255, .iadd, 1)) rfl
theorem dl_256 : decode code 256 = .ok (.iaload, 1) := ld lc4 0 (en := (256, .iaload, 1)) rfl
theorem dl_257 : decode code 257 = .ok (.invokevirtual 18, 3) := ld lc4 1 (en := (257, .invokevirtual 18, 3)) rfl
theorem dl_260 : decode code 260 = .ok (.aload_n 2, 1) := ld lc4 2 (en := (260, .aload_n 2, 1)) rfl
theorem dl_261 : decode code 261 = .ok (.aload_n 0, 1) := ld lc4 3 (en := (261, .aload_n 0, 1)) rfl
theorem dl_262 : decode code 262 = .ok (.iload_n 3, 1) := ld lc4 4 (en := (262, .iload_n 3, 1)) rfl
theorem dl_263 : decode code 263 = .ok (.iconst 1, 1) := ld lc4 5 (en := (263, .iconst 1, 1)) rfl
theorem dl_264 : decode code 264 = .ok (.iadd, 1) := ld lc4 6 (en := (264, .iadd, 1)) rfl
theorem dl_265 : decode code 265 = .ok (.iaload, 1) := ld lc4 7 (en := (265, .iaload, 1)) rfl
theorem dl_266 : decode code 266 = .ok (.invokevirtual 22, 3) := ld lc4 8 (en := (266, .invokevirtual 22, 3)) rfl
theorem dl_269 : decode code 269 = .ok (.if_icmp .eq 922, 3) := ld lc4 9 (en := (269, .if_icmp .eq 922, 3)) rfl
theorem dl_272 : decode code 272 = .ok (.iconst 0, 1) := ld lc4 10 (en := (272, .iconst 0, 1)) rfl
theorem dl_273 : decode code 273 = .ok (.ireturn, 1) := ld lc4 11 (en := (273, .ireturn, 1)) rfl
theorem dl_274 : decode code 274 = .ok (.aload_n 1, 1) := ld lc4 12 (en := (274, .aload_n 1, 1)) rfl
theorem dl_275 : decode code 275 = .ok (.invokevirtual 23, 3) := ld lc4 13 (en := (275, .invokevirtual 23, 3)) rfl
theorem dl_278 : decode code 278 = .ok (.aload_n 2, 1) := ld lc4 14 (en := (278, .aload_n 2, 1)) rfl
theorem dl_279 : decode code 279 = .ok (.invokevirtual 27, 3) := ld lc4 15 (en := (279, .invokevirtual 27, 3)) rfl
theorem dl_282 : decode code 282 = .ok (.if_icmp .eq 909, 3) := ld lc4 16 (en := (282, .if_icmp .eq 909, 3)) rfl
theorem dl_285 : decode code 285 = .ok (.iconst 0, 1) := ld lc4 17 (en := (285, .iconst 0, 1)) rfl
theorem dl_286 : decode code 286 = .ok (.ireturn, 1) := ld lc4 18 (en := (286, .ireturn, 1)) rfl
theorem dl_287 : decode code 287 = .ok (.aload_n 1, 1) := ld lc4 19 (en := (287, .aload_n 1, 1)) rfl
theorem dl_288 : decode code 288 = .ok (.invokevirtual 28, 3) := ld lc4 20 (en := (288, .invokevirtual 28, 3)) rfl
theorem dl_291 : decode code 291 = .ok (.aload_n 2, 1) := ld lc4 21 (en := (291, .aload_n 2, 1)) rfl
theorem dl_292 : decode code 292 = .ok (.invokevirtual 31, 3) := ld lc4 22 (en := (292, .invokevirtual 31, 3)) rfl
theorem dl_295 : decode code 295 = .ok (.if_icmp .eq 896, 3) := ld lc4 23 (en := (295, .if_icmp .eq 896, 3)) rfl
theorem dl_298 : decode code 298 = .ok (.iconst 0, 1) := ld lc4 24 (en := (298, .iconst 0, 1)) rfl
theorem dl_299 : decode code 299 = .ok (.ireturn, 1) := ld lc4 25 (en := (299, .ireturn, 1)) rfl
theorem dl_300 : decode code 300 = .ok (.aload_n 1, 1) := ld lc4 26 (en := (300, .aload_n 1, 1)) rfl
theorem dl_301 : decode code 301 = .ok (.aload_n 0, 1) := ld lc4 27 (en := (301, .aload_n 0, 1)) rfl
theorem dl_302 : decode code 302 = .ok (.iload_n 3, 1) := ld lc4 28 (en := (302, .iload_n 3, 1)) rfl
theorem dl_303 : decode code 303 = .ok (.iconst 1, 1) := ld lc4 29 (en := (303, .iconst 1, 1)) rfl
theorem dl_304 : decode code 304 = .ok (.iadd, 1) := ld lc4 30 (en := (304, .iadd, 1)) rfl
theorem dl_305 : decode code 305 = .ok (.iaload, 1) := ld lc4 31 (en := (305, .iaload, 1)) rfl
theorem dl_306 : decode code 306 = .ok (.aload_n 0, 1) := ld lc4 32 (en := (306, .aload_n 0, 1)) rfl
theorem dl_307 : decode code 307 = .ok (.iload_n 3, 1) := ld lc4 33 (en := (307, .iload_n 3, 1)) rfl
theorem dl_308 : decode code 308 = .ok (.iconst 2, 1) := ld lc4 34 (en := (308, .iconst 2, 1)) rfl
theorem dl_309 : decode code 309 = .ok (.iadd, 1) := ld lc4 35 (en := (309, .iadd, 1)) rfl
theorem dl_310 : decode code 310 = .ok (.iaload, 1) := ld lc4 36 (en := (310, .iaload, 1)) rfl
theorem dl_311 : decode code 311 = .ok (.invokevirtual 32, 3) := ld lc4 37 (en := (311, .invokevirtual 32, 3)) rfl
theorem dl_314 : decode code 314 = .ok (.aload_n 2, 1) := ld lc4 38 (en := (314, .aload_n 2, 1)) rfl
theorem dl_315 : decode code 315 = .ok (.aload_n 0, 1) := ld lc4 39 (en := (315, .aload_n 0, 1)) rfl
theorem dl_316 : decode code 316 = .ok (.iload_n 3, 1) := ld lc4 40 (en := (316, .iload_n 3, 1)) rfl
theorem dl_317 : decode code 317 = .ok (.iconst 1, 1) := ld lc4 41 (en := (317, .iconst 1, 1)) rfl
theorem dl_318 : decode code 318 = .ok (.iadd, 1) := ld lc4 42 (en := (318, .iadd, 1)) rfl
theorem dl_319 : decode code 319 = .ok (.iaload, 1) := ld lc4 43 (en := (319, .iaload, 1)) rfl
theorem dl_320 : decode code 320 = .ok (.aload_n 0, 1) := ld lc5 0 (en := (320, .aload_n 0, 1)) rfl
theorem dl_321 : decode code 321 = .ok (.iload_n 3, 1) := ld lc5 1 (en := (321, .iload_n 3, 1)) rfl
theorem dl_322 : decode code 322 = .ok (.iconst 2, 1) := ld lc5 2 (en := (322, .iconst 2, 1)) rfl
theorem dl_323 : decode code 323 = .ok (.iadd, 1) := ld lc5 3 (en := (323, .iadd, 1)) rfl
theorem dl_324 : decode code 324 = .ok (.iaload, 1) := ld lc5 4 (en := (324, .iaload, 1)) rfl
theorem dl_325 : decode code 325 = .ok (.invokevirtual 36, 3) := ld lc5 5 (en := (325, .invokevirtual 36, 3)) rfl
theorem dl_328 : decode code 328 = .ok (.if_icmp .eq 863, 3) := ld lc5 6 (en := (328, .if_icmp .eq 863, 3)) rfl
theorem dl_331 : decode code 331 = .ok (.iconst 0, 1) := ld lc5 7 (en := (331, .iconst 0, 1)) rfl
theorem dl_332 : decode code 332 = .ok (.ireturn, 1) := ld lc5 8 (en := (332, .ireturn, 1)) rfl
theorem dl_333 : decode code 333 = .ok (.aload_n 1, 1) := ld lc5 9 (en := (333, .aload_n 1, 1)) rfl
theorem dl_334 : decode code 334 = .ok (.aload_n 0, 1) := ld lc5 10 (en := (334, .aload_n 0, 1)) rfl
theorem dl_335 : decode code 335 = .ok (.iload_n 3, 1) := ld lc5 11 (en := (335, .iload_n 3, 1)) rfl
theorem dl_336 : decode code 336 = .ok (.iconst 1, 1) := ld lc5 12 (en := (336, .iconst 1, 1)) rfl
theorem dl_337 : decode code 337 = .ok (.iadd, 1) := ld lc5 13 (en := (337, .iadd, 1)) rfl
theorem dl_338 : decode code 338 = .ok (.iaload, 1) := ld lc5 14 (en := (338, .iaload, 1)) rfl
theorem dl_339 : decode code 339 = .ok (.aload_n 0, 1) := ld lc5 15 (en := (339, .aload_n 0, 1)) rfl
theorem dl_340 : decode code 340 = .ok (.iload_n 3, 1) := ld lc5 16 (en := (340, .iload_n 3, 1)) rfl
theorem dl_341 : decode code 341 = .ok (.iconst 2, 1) := ld lc5 17 (en := (341, .iconst 2, 1)) rfl
theorem dl_342 : decode code 342 = .ok (.iadd, 1) := ld lc5 18 (en := (342, .iadd, 1)) rfl
theorem dl_343 : decode code 343 = .ok (.iaload, 1) := ld lc5 19 (en := (343, .iaload, 1)) rfl
theorem dl_344 : decode code 344 = .ok (.invokevirtual 37, 3) := ld lc5 20 (en := (344, .invokevirtual 37, 3)) rfl
theorem dl_347 : decode code 347 = .ok (.aload_n 2, 1) := ld lc5 21 (en := (347, .aload_n 2, 1)) rfl
theorem dl_348 : decode code 348 = .ok (.aload_n 0, 1) := ld lc5 22 (en := (348, .aload_n 0, 1)) rfl
theorem dl_349 : decode code 349 = .ok (.iload_n 3, 1) := ld lc5 23 (en := (349, .iload_n 3, 1)) rfl
theorem dl_350 : decode code 350 = .ok (.iconst 1, 1) := ld lc5 24 (en := (350, .iconst 1, 1)) rfl
theorem dl_351 : decode code 351 = .ok (.iadd, 1) := ld lc5 25 (en := (351, .iadd, 1)) rfl
theorem dl_352 : decode code 352 = .ok (.iaload, 1) := ld lc5 26 (en := (352, .iaload, 1)) rfl
theorem dl_353 : decode code 353 = .ok (.aload_n 0, 1) := ld lc5 27 (en := (353, .aload_n 0, 1)) rfl
theorem dl_354 : decode code 354 = .ok (.iload_n 3, 1) := ld lc5 28 (en := (354, .iload_n 3, 1)) rfl
theorem dl_355 : decode code 355 = .ok (.iconst 2, 1) := ld lc5 29 (en := (355, .iconst 2, 1)) rfl
theorem dl_356 : decode code 356 = .ok (.iadd, 1) := ld lc5 30 (en := (356, .iadd, 1)) rfl
theorem dl_357 : decode code 357 = .ok (.iaload, 1) := ld lc5 31 (en := (357, .iaload, 1)) rfl
theorem dl_358 : decode code 358 = .ok (.invokevirtual 40, 3) := ld lc5 32 (en := (358, .invokevirtual 40, 3)) rfl
theorem dl_361 : decode code 361 = .ok (.if_icmp .eq 830, 3) := ld lc5 33 (en := (361, .if_icmp .eq 830, 3)) rfl
theorem dl_364 : decode code 364 = .ok (.iconst 0, 1) := ld lc5 34 (en := (364, .iconst 0, 1)) rfl
theorem dl_365 : decode code 365 = .ok (.ireturn, 1) := ld lc5 35 (en := (365, .ireturn, 1)) rfl
theorem dl_366 : decode code 366 = .ok (.aload_n 1, 1) := ld lc5 36 (en := (366, .aload_n 1, 1)) rfl
theorem dl_367 : decode code 367 = .ok (.aload_n 0, 1) := ld lc5 37 (en := (367, .aload_n 0, 1)) rfl
theorem dl_368 : decode code 368 = .ok (.iload_n 3, 1) := ld lc5 38 (en := (368, .iload_n 3, 1)) rfl
theorem dl_369 : decode code 369 = .ok (.iconst 1, 1) := ld lc5 39 (en := (369, .iconst 1, 1)) rfl
theorem dl_370 : decode code 370 = .ok (.iadd, 1) := ld lc5 40 (en := (370, .iadd, 1)) rfl
theorem dl_371 : decode code 371 = .ok (.iaload, 1) := ld lc5 41 (en := (371, .iaload, 1)) rfl
theorem dl_372 : decode code 372 = .ok (.aload_n 0, 1) := ld lc5 42 (en := (372, .aload_n 0, 1)) rfl
theorem dl_373 : decode code 373 = .ok (.iload_n 3, 1) := ld lc5 43 (en := (373, .iload_n 3, 1)) rfl
theorem dl_374 : decode code 374 = .ok (.iconst 2, 1) := ld lc5 44 (en := (374, .iconst 2, 1)) rfl
theorem dl_375 : decode code 375 = .ok (.iadd, 1) := ld lc5 45 (en := (375, .iadd, 1)) rfl
theorem dl_376 : decode code 376 = .ok (.iaload, 1) := ld lc5 46 (en := (376, .iaload, 1)) rfl
theorem dl_377 : decode code 377 = .ok (.invokevirtual 41, 3) := ld lc5 47 (en := (377, .invokevirtual 41, 3)) rfl
theorem dl_380 : decode code 380 = .ok (.aload_n 2, 1) := ld lc5 48 (en := (380, .aload_n 2, 1)) rfl
theorem dl_381 : decode code 381 = .ok (.aload_n 0, 1) := ld lc5 49 (en := (381, .aload_n 0, 1)) rfl
theorem dl_382 : decode code 382 = .ok (.iload_n 3, 1) := ld lc5 50 (en := (382, .iload_n 3, 1)) rfl
theorem dl_383 : decode code 383 = .ok (.iconst 1, 1) := ld lc5 51 (en := (383, .iconst 1, 1)) rfl
theorem dl_384 : decode code 384 = .ok (.iadd, 1) := ld lc6 0 (en := (384, .iadd, 1)) rfl
theorem dl_385 : decode code 385 = .ok (.iaload, 1) := ld lc6 1 (en := (385, .iaload, 1)) rfl
theorem dl_386 : decode code 386 = .ok (.aload_n 0, 1) := ld lc6 2 (en := (386, .aload_n 0, 1)) rfl
theorem dl_387 : decode code 387 = .ok (.iload_n 3, 1) := ld lc6 3 (en := (387, .iload_n 3, 1)) rfl
theorem dl_388 : decode code 388 = .ok (.iconst 2, 1) := ld lc6 4 (en := (388, .iconst 2, 1)) rfl
theorem dl_389 : decode code 389 = .ok (.iadd, 1) := ld lc6 5 (en := (389, .iadd, 1)) rfl
theorem dl_390 : decode code 390 = .ok (.iaload, 1) := ld lc6 6 (en := (390, .iaload, 1)) rfl
theorem dl_391 : decode code 391 = .ok (.invokevirtual 44, 3) := ld lc6 7 (en := (391, .invokevirtual 44, 3)) rfl
theorem dl_394 : decode code 394 = .ok (.if_icmp .eq 797, 3) := ld lc6 8 (en := (394, .if_icmp .eq 797, 3)) rfl
theorem dl_397 : decode code 397 = .ok (.iconst 0, 1) := ld lc6 9 (en := (397, .iconst 0, 1)) rfl
theorem dl_398 : decode code 398 = .ok (.ireturn, 1) := ld lc6 10 (en := (398, .ireturn, 1)) rfl
theorem dl_399 : decode code 399 = .ok (.aload_n 1, 1) := ld lc6 11 (en := (399, .aload_n 1, 1)) rfl
theorem dl_400 : decode code 400 = .ok (.aload_n 0, 1) := ld lc6 12 (en := (400, .aload_n 0, 1)) rfl
theorem dl_401 : decode code 401 = .ok (.iload_n 3, 1) := ld lc6 13 (en := (401, .iload_n 3, 1)) rfl
theorem dl_402 : decode code 402 = .ok (.iconst 1, 1) := ld lc6 14 (en := (402, .iconst 1, 1)) rfl
theorem dl_403 : decode code 403 = .ok (.iadd, 1) := ld lc6 15 (en := (403, .iadd, 1)) rfl
theorem dl_404 : decode code 404 = .ok (.iaload, 1) := ld lc6 16 (en := (404, .iaload, 1)) rfl
theorem dl_405 : decode code 405 = .ok (.aload_n 0, 1) := ld lc6 17 (en := (405, .aload_n 0, 1)) rfl
theorem dl_406 : decode code 406 = .ok (.iload_n 3, 1) := ld lc6 18 (en := (406, .iload_n 3, 1)) rfl
theorem dl_407 : decode code 407 = .ok (.iconst 2, 1) := ld lc6 19 (en := (407, .iconst 2, 1)) rfl
theorem dl_408 : decode code 408 = .ok (.iadd, 1) := ld lc6 20 (en := (408, .iadd, 1)) rfl
theorem dl_409 : decode code 409 = .ok (.iaload, 1) := ld lc6 21 (en := (409, .iaload, 1)) rfl
theorem dl_410 : decode code 410 = .ok (.ifCond .eq 7, 3) := ld lc6 22 (en := (410, .ifCond .eq 7, 3)) rfl
theorem dl_413 : decode code 413 = .ok (.iconst 1, 1) := ld lc6 23 (en := (413, .iconst 1, 1)) rfl
theorem dl_414 : decode code 414 = .ok (.goto 4, 3) := ld lc6 24 (en := (414, .goto 4, 3)) rfl
theorem dl_417 : decode code 417 = .ok (.iconst 0, 1) := ld lc6 25 (en := (417, .iconst 0, 1)) rfl
theorem dl_418 : decode code 418 = .ok (.invokevirtual 45, 3) := ld lc6 26 (en := (418, .invokevirtual 45, 3)) rfl
theorem dl_421 : decode code 421 = .ok (.aload_n 2, 1) := ld lc6 27 (en := (421, .aload_n 2, 1)) rfl
theorem dl_422 : decode code 422 = .ok (.aload_n 0, 1) := ld lc6 28 (en := (422, .aload_n 0, 1)) rfl
theorem dl_423 : decode code 423 = .ok (.iload_n 3, 1) := ld lc6 29 (en := (423, .iload_n 3, 1)) rfl
theorem dl_424 : decode code 424 = .ok (.iconst 1, 1) := ld lc6 30 (en := (424, .iconst 1, 1)) rfl
theorem dl_425 : decode code 425 = .ok (.iadd, 1) := ld lc6 31 (en := (425, .iadd, 1)) rfl
theorem dl_426 : decode code 426 = .ok (.iaload, 1) := ld lc6 32 (en := (426, .iaload, 1)) rfl
theorem dl_427 : decode code 427 = .ok (.aload_n 0, 1) := ld lc6 33 (en := (427, .aload_n 0, 1)) rfl
theorem dl_428 : decode code 428 = .ok (.iload_n 3, 1) := ld lc6 34 (en := (428, .iload_n 3, 1)) rfl
theorem dl_429 : decode code 429 = .ok (.iconst 2, 1) := ld lc6 35 (en := (429, .iconst 2, 1)) rfl
theorem dl_430 : decode code 430 = .ok (.iadd, 1) := ld lc6 36 (en := (430, .iadd, 1)) rfl
theorem dl_431 : decode code 431 = .ok (.iaload, 1) := ld lc6 37 (en := (431, .iaload, 1)) rfl
theorem dl_432 : decode code 432 = .ok (.ifCond .eq 7, 3) := ld lc6 38 (en := (432, .ifCond .eq 7, 3)) rfl
theorem dl_435 : decode code 435 = .ok (.iconst 1, 1) := ld lc6 39 (en := (435, .iconst 1, 1)) rfl
theorem dl_436 : decode code 436 = .ok (.goto 4, 3) := ld lc6 40 (en := (436, .goto 4, 3)) rfl
theorem dl_439 : decode code 439 = .ok (.iconst 0, 1) := ld lc6 41 (en := (439, .iconst 0, 1)) rfl
theorem dl_440 : decode code 440 = .ok (.invokevirtual 49, 3) := ld lc6 42 (en := (440, .invokevirtual 49, 3)) rfl
theorem dl_443 : decode code 443 = .ok (.if_icmp .eq 748, 3) := ld lc6 43 (en := (443, .if_icmp .eq 748, 3)) rfl
theorem dl_446 : decode code 446 = .ok (.iconst 0, 1) := ld lc6 44 (en := (446, .iconst 0, 1)) rfl
theorem dl_447 : decode code 447 = .ok (.ireturn, 1) := ld lc6 45 (en := (447, .ireturn, 1)) rfl
theorem dl_448 : decode code 448 = .ok (.aload_n 1, 1) := ld lc7 0 (en := (448, .aload_n 1, 1)) rfl
theorem dl_449 : decode code 449 = .ok (.aload_n 0, 1) := ld lc7 1 (en := (449, .aload_n 0, 1)) rfl
theorem dl_450 : decode code 450 = .ok (.iload_n 3, 1) := ld lc7 2 (en := (450, .iload_n 3, 1)) rfl
theorem dl_451 : decode code 451 = .ok (.iconst 1, 1) := ld lc7 3 (en := (451, .iconst 1, 1)) rfl
theorem dl_452 : decode code 452 = .ok (.iadd, 1) := ld lc7 4 (en := (452, .iadd, 1)) rfl
theorem dl_453 : decode code 453 = .ok (.iaload, 1) := ld lc7 5 (en := (453, .iaload, 1)) rfl
theorem dl_454 : decode code 454 = .ok (.invokevirtual 50, 3) := ld lc7 6 (en := (454, .invokevirtual 50, 3)) rfl
theorem dl_457 : decode code 457 = .ok (.aload_n 2, 1) := ld lc7 7 (en := (457, .aload_n 2, 1)) rfl
theorem dl_458 : decode code 458 = .ok (.aload_n 0, 1) := ld lc7 8 (en := (458, .aload_n 0, 1)) rfl
theorem dl_459 : decode code 459 = .ok (.iload_n 3, 1) := ld lc7 9 (en := (459, .iload_n 3, 1)) rfl
theorem dl_460 : decode code 460 = .ok (.iconst 1, 1) := ld lc7 10 (en := (460, .iconst 1, 1)) rfl
theorem dl_461 : decode code 461 = .ok (.iadd, 1) := ld lc7 11 (en := (461, .iadd, 1)) rfl
theorem dl_462 : decode code 462 = .ok (.iaload, 1) := ld lc7 12 (en := (462, .iaload, 1)) rfl
theorem dl_463 : decode code 463 = .ok (.invokevirtual 53, 3) := ld lc7 13 (en := (463, .invokevirtual 53, 3)) rfl
theorem dl_466 : decode code 466 = .ok (.if_icmp .eq 725, 3) := ld lc7 14 (en := (466, .if_icmp .eq 725, 3)) rfl
theorem dl_469 : decode code 469 = .ok (.iconst 0, 1) := ld lc7 15 (en := (469, .iconst 0, 1)) rfl
theorem dl_470 : decode code 470 = .ok (.ireturn, 1) := ld lc7 16 (en := (470, .ireturn, 1)) rfl
theorem dl_471 : decode code 471 = .ok (.aload_n 1, 1) := ld lc7 17 (en := (471, .aload_n 1, 1)) rfl
theorem dl_472 : decode code 472 = .ok (.aload_n 0, 1) := ld lc7 18 (en := (472, .aload_n 0, 1)) rfl
theorem dl_473 : decode code 473 = .ok (.iload_n 3, 1) := ld lc7 19 (en := (473, .iload_n 3, 1)) rfl
theorem dl_474 : decode code 474 = .ok (.iconst 1, 1) := ld lc7 20 (en := (474, .iconst 1, 1)) rfl
theorem dl_475 : decode code 475 = .ok (.iadd, 1) := ld lc7 21 (en := (475, .iadd, 1)) rfl
theorem dl_476 : decode code 476 = .ok (.iaload, 1) := ld lc7 22 (en := (476, .iaload, 1)) rfl
theorem dl_477 : decode code 477 = .ok (.invokevirtual 54, 3) := ld lc7 23 (en := (477, .invokevirtual 54, 3)) rfl
theorem dl_480 : decode code 480 = .ok (.aload_n 2, 1) := ld lc7 24 (en := (480, .aload_n 2, 1)) rfl
theorem dl_481 : decode code 481 = .ok (.aload_n 0, 1) := ld lc7 25 (en := (481, .aload_n 0, 1)) rfl
theorem dl_482 : decode code 482 = .ok (.iload_n 3, 1) := ld lc7 26 (en := (482, .iload_n 3, 1)) rfl
theorem dl_483 : decode code 483 = .ok (.iconst 1, 1) := ld lc7 27 (en := (483, .iconst 1, 1)) rfl
theorem dl_484 : decode code 484 = .ok (.iadd, 1) := ld lc7 28 (en := (484, .iadd, 1)) rfl
theorem dl_485 : decode code 485 = .ok (.iaload, 1) := ld lc7 29 (en := (485, .iaload, 1)) rfl
theorem dl_486 : decode code 486 = .ok (.invokevirtual 57, 3) := ld lc7 30 (en := (486, .invokevirtual 57, 3)) rfl
theorem dl_489 : decode code 489 = .ok (.if_icmp .eq 702, 3) := ld lc7 31 (en := (489, .if_icmp .eq 702, 3)) rfl
theorem dl_492 : decode code 492 = .ok (.iconst 0, 1) := ld lc7 32 (en := (492, .iconst 0, 1)) rfl
theorem dl_493 : decode code 493 = .ok (.ireturn, 1) := ld lc7 33 (en := (493, .ireturn, 1)) rfl
theorem dl_494 : decode code 494 = .ok (.aload_n 1, 1) := ld lc7 34 (en := (494, .aload_n 1, 1)) rfl
theorem dl_495 : decode code 495 = .ok (.aload_n 0, 1) := ld lc7 35 (en := (495, .aload_n 0, 1)) rfl
theorem dl_496 : decode code 496 = .ok (.iload_n 3, 1) := ld lc7 36 (en := (496, .iload_n 3, 1)) rfl
theorem dl_497 : decode code 497 = .ok (.iconst 1, 1) := ld lc7 37 (en := (497, .iconst 1, 1)) rfl
theorem dl_498 : decode code 498 = .ok (.iadd, 1) := ld lc7 38 (en := (498, .iadd, 1)) rfl
theorem dl_499 : decode code 499 = .ok (.iaload, 1) := ld lc7 39 (en := (499, .iaload, 1)) rfl
theorem dl_500 : decode code 500 = .ok (.aload_n 0, 1) := ld lc7 40 (en := (500, .aload_n 0, 1)) rfl
theorem dl_501 : decode code 501 = .ok (.iload_n 3, 1) := ld lc7 41 (en := (501, .iload_n 3, 1)) rfl
theorem dl_502 : decode code 502 = .ok (.iconst 2, 1) := ld lc7 42 (en := (502, .iconst 2, 1)) rfl
theorem dl_503 : decode code 503 = .ok (.iadd, 1) := ld lc7 43 (en := (503, .iadd, 1)) rfl
theorem dl_504 : decode code 504 = .ok (.iaload, 1) := ld lc7 44 (en := (504, .iaload, 1)) rfl
theorem dl_505 : decode code 505 = .ok (.ifCond .eq 7, 3) := ld lc7 45 (en := (505, .ifCond .eq 7, 3)) rfl
theorem dl_508 : decode code 508 = .ok (.iconst 1, 1) := ld lc7 46 (en := (508, .iconst 1, 1)) rfl
theorem dl_509 : decode code 509 = .ok (.goto 4, 3) := ld lc7 47 (en := (509, .goto 4, 3)) rfl
theorem dl_512 : decode code 512 = .ok (.iconst 0, 1) := ld lc8 0 (en := (512, .iconst 0, 1)) rfl
theorem dl_513 : decode code 513 = .ok (.invokevirtual 58, 3) := ld lc8 1 (en := (513, .invokevirtual 58, 3)) rfl
theorem dl_516 : decode code 516 = .ok (.aload_n 2, 1) := ld lc8 2 (en := (516, .aload_n 2, 1)) rfl
theorem dl_517 : decode code 517 = .ok (.aload_n 0, 1) := ld lc8 3 (en := (517, .aload_n 0, 1)) rfl
theorem dl_518 : decode code 518 = .ok (.iload_n 3, 1) := ld lc8 4 (en := (518, .iload_n 3, 1)) rfl
theorem dl_519 : decode code 519 = .ok (.iconst 1, 1) := ld lc8 5 (en := (519, .iconst 1, 1)) rfl
theorem dl_520 : decode code 520 = .ok (.iadd, 1) := ld lc8 6 (en := (520, .iadd, 1)) rfl
theorem dl_521 : decode code 521 = .ok (.iaload, 1) := ld lc8 7 (en := (521, .iaload, 1)) rfl
theorem dl_522 : decode code 522 = .ok (.aload_n 0, 1) := ld lc8 8 (en := (522, .aload_n 0, 1)) rfl
theorem dl_523 : decode code 523 = .ok (.iload_n 3, 1) := ld lc8 9 (en := (523, .iload_n 3, 1)) rfl
theorem dl_524 : decode code 524 = .ok (.iconst 2, 1) := ld lc8 10 (en := (524, .iconst 2, 1)) rfl
theorem dl_525 : decode code 525 = .ok (.iadd, 1) := ld lc8 11 (en := (525, .iadd, 1)) rfl
theorem dl_526 : decode code 526 = .ok (.iaload, 1) := ld lc8 12 (en := (526, .iaload, 1)) rfl
theorem dl_527 : decode code 527 = .ok (.ifCond .eq 7, 3) := ld lc8 13 (en := (527, .ifCond .eq 7, 3)) rfl
theorem dl_530 : decode code 530 = .ok (.iconst 1, 1) := ld lc8 14 (en := (530, .iconst 1, 1)) rfl
theorem dl_531 : decode code 531 = .ok (.goto 4, 3) := ld lc8 15 (en := (531, .goto 4, 3)) rfl
theorem dl_534 : decode code 534 = .ok (.iconst 0, 1) := ld lc8 16 (en := (534, .iconst 0, 1)) rfl
theorem dl_535 : decode code 535 = .ok (.invokevirtual 61, 3) := ld lc8 17 (en := (535, .invokevirtual 61, 3)) rfl
theorem dl_538 : decode code 538 = .ok (.if_icmp .eq 653, 3) := ld lc8 18 (en := (538, .if_icmp .eq 653, 3)) rfl
theorem dl_541 : decode code 541 = .ok (.iconst 0, 1) := ld lc8 19 (en := (541, .iconst 0, 1)) rfl
theorem dl_542 : decode code 542 = .ok (.ireturn, 1) := ld lc8 20 (en := (542, .ireturn, 1)) rfl
theorem dl_543 : decode code 543 = .ok (.aload_n 1, 1) := ld lc8 21 (en := (543, .aload_n 1, 1)) rfl
theorem dl_544 : decode code 544 = .ok (.aload_n 0, 1) := ld lc8 22 (en := (544, .aload_n 0, 1)) rfl
theorem dl_545 : decode code 545 = .ok (.iload_n 3, 1) := ld lc8 23 (en := (545, .iload_n 3, 1)) rfl
theorem dl_546 : decode code 546 = .ok (.iconst 1, 1) := ld lc8 24 (en := (546, .iconst 1, 1)) rfl
theorem dl_547 : decode code 547 = .ok (.iadd, 1) := ld lc8 25 (en := (547, .iadd, 1)) rfl
theorem dl_548 : decode code 548 = .ok (.iaload, 1) := ld lc8 26 (en := (548, .iaload, 1)) rfl
theorem dl_549 : decode code 549 = .ok (.invokevirtual 62, 3) := ld lc8 27 (en := (549, .invokevirtual 62, 3)) rfl
theorem dl_552 : decode code 552 = .ok (.aload_n 2, 1) := ld lc8 28 (en := (552, .aload_n 2, 1)) rfl
theorem dl_553 : decode code 553 = .ok (.aload_n 0, 1) := ld lc8 29 (en := (553, .aload_n 0, 1)) rfl
theorem dl_554 : decode code 554 = .ok (.iload_n 3, 1) := ld lc8 30 (en := (554, .iload_n 3, 1)) rfl
theorem dl_555 : decode code 555 = .ok (.iconst 1, 1) := ld lc8 31 (en := (555, .iconst 1, 1)) rfl
theorem dl_556 : decode code 556 = .ok (.iadd, 1) := ld lc8 32 (en := (556, .iadd, 1)) rfl
theorem dl_557 : decode code 557 = .ok (.iaload, 1) := ld lc8 33 (en := (557, .iaload, 1)) rfl
theorem dl_558 : decode code 558 = .ok (.invokevirtual 65, 3) := ld lc8 34 (en := (558, .invokevirtual 65, 3)) rfl
theorem dl_561 : decode code 561 = .ok (.if_icmp .eq 630, 3) := ld lc8 35 (en := (561, .if_icmp .eq 630, 3)) rfl
theorem dl_564 : decode code 564 = .ok (.iconst 0, 1) := ld lc8 36 (en := (564, .iconst 0, 1)) rfl
theorem dl_565 : decode code 565 = .ok (.ireturn, 1) := ld lc8 37 (en := (565, .ireturn, 1)) rfl
theorem dl_566 : decode code 566 = .ok (.aload_n 1, 1) := ld lc8 38 (en := (566, .aload_n 1, 1)) rfl
theorem dl_567 : decode code 567 = .ok (.invokevirtual 66, 3) := ld lc8 39 (en := (567, .invokevirtual 66, 3)) rfl
theorem dl_570 : decode code 570 = .ok (.aload_n 2, 1) := ld lc8 40 (en := (570, .aload_n 2, 1)) rfl
theorem dl_571 : decode code 571 = .ok (.invokevirtual 70, 3) := ld lc8 41 (en := (571, .invokevirtual 70, 3)) rfl
theorem dl_574 : decode code 574 = .ok (.if_icmp .eq 617, 3) := ld lc8 42 (en := (574, .if_icmp .eq 617, 3)) rfl
theorem dl_577 : decode code 577 = .ok (.iconst 0, 1) := ld lc9 0 (en := (577, .iconst 0, 1)) rfl
theorem dl_578 : decode code 578 = .ok (.ireturn, 1) := ld lc9 1 (en := (578, .ireturn, 1)) rfl
theorem dl_579 : decode code 579 = .ok (.aload_n 1, 1) := ld lc9 2 (en := (579, .aload_n 1, 1)) rfl
theorem dl_580 : decode code 580 = .ok (.aload_n 0, 1) := ld lc9 3 (en := (580, .aload_n 0, 1)) rfl
theorem dl_581 : decode code 581 = .ok (.iload_n 3, 1) := ld lc9 4 (en := (581, .iload_n 3, 1)) rfl
theorem dl_582 : decode code 582 = .ok (.iconst 1, 1) := ld lc9 5 (en := (582, .iconst 1, 1)) rfl
theorem dl_583 : decode code 583 = .ok (.iadd, 1) := ld lc9 6 (en := (583, .iadd, 1)) rfl
theorem dl_584 : decode code 584 = .ok (.iaload, 1) := ld lc9 7 (en := (584, .iaload, 1)) rfl
theorem dl_585 : decode code 585 = .ok (.aload_n 0, 1) := ld lc9 8 (en := (585, .aload_n 0, 1)) rfl
theorem dl_586 : decode code 586 = .ok (.iload_n 3, 1) := ld lc9 9 (en := (586, .iload_n 3, 1)) rfl
theorem dl_587 : decode code 587 = .ok (.iconst 2, 1) := ld lc9 10 (en := (587, .iconst 2, 1)) rfl
theorem dl_588 : decode code 588 = .ok (.iadd, 1) := ld lc9 11 (en := (588, .iadd, 1)) rfl
theorem dl_589 : decode code 589 = .ok (.iaload, 1) := ld lc9 12 (en := (589, .iaload, 1)) rfl
theorem dl_590 : decode code 590 = .ok (.invokevirtual 71, 3) := ld lc9 13 (en := (590, .invokevirtual 71, 3)) rfl
theorem dl_593 : decode code 593 = .ok (.aload_n 2, 1) := ld lc9 14 (en := (593, .aload_n 2, 1)) rfl
theorem dl_594 : decode code 594 = .ok (.aload_n 0, 1) := ld lc9 15 (en := (594, .aload_n 0, 1)) rfl
theorem dl_595 : decode code 595 = .ok (.iload_n 3, 1) := ld lc9 16 (en := (595, .iload_n 3, 1)) rfl
theorem dl_596 : decode code 596 = .ok (.iconst 1, 1) := ld lc9 17 (en := (596, .iconst 1, 1)) rfl
theorem dl_597 : decode code 597 = .ok (.iadd, 1) := ld lc9 18 (en := (597, .iadd, 1)) rfl
theorem dl_598 : decode code 598 = .ok (.iaload, 1) := ld lc9 19 (en := (598, .iaload, 1)) rfl
theorem dl_599 : decode code 599 = .ok (.aload_n 0, 1) := ld lc9 20 (en := (599, .aload_n 0, 1)) rfl
theorem dl_600 : decode code 600 = .ok (.iload_n 3, 1) := ld lc9 21 (en := (600, .iload_n 3, 1)) rfl
theorem dl_601 : decode code 601 = .ok (.iconst 2, 1) := ld lc9 22 (en := (601, .iconst 2, 1)) rfl
theorem dl_602 : decode code 602 = .ok (.iadd, 1) := ld lc9 23 (en := (602, .iadd, 1)) rfl
theorem dl_603 : decode code 603 = .ok (.iaload, 1) := ld lc9 24 (en := (603, .iaload, 1)) rfl
theorem dl_604 : decode code 604 = .ok (.invokevirtual 74, 3) := ld lc9 25 (en := (604, .invokevirtual 74, 3)) rfl
theorem dl_607 : decode code 607 = .ok (.if_icmp .eq 584, 3) := ld lc9 26 (en := (607, .if_icmp .eq 584, 3)) rfl
theorem dl_610 : decode code 610 = .ok (.iconst 0, 1) := ld lc9 27 (en := (610, .iconst 0, 1)) rfl
theorem dl_611 : decode code 611 = .ok (.ireturn, 1) := ld lc9 28 (en := (611, .ireturn, 1)) rfl
theorem dl_612 : decode code 612 = .ok (.aload_n 1, 1) := ld lc9 29 (en := (612, .aload_n 1, 1)) rfl
theorem dl_613 : decode code 613 = .ok (.aload_n 0, 1) := ld lc9 30 (en := (613, .aload_n 0, 1)) rfl
theorem dl_614 : decode code 614 = .ok (.iload_n 3, 1) := ld lc9 31 (en := (614, .iload_n 3, 1)) rfl
theorem dl_615 : decode code 615 = .ok (.iconst 1, 1) := ld lc9 32 (en := (615, .iconst 1, 1)) rfl
theorem dl_616 : decode code 616 = .ok (.iadd, 1) := ld lc9 33 (en := (616, .iadd, 1)) rfl
theorem dl_617 : decode code 617 = .ok (.iaload, 1) := ld lc9 34 (en := (617, .iaload, 1)) rfl
theorem dl_618 : decode code 618 = .ok (.aload_n 0, 1) := ld lc9 35 (en := (618, .aload_n 0, 1)) rfl
theorem dl_619 : decode code 619 = .ok (.iload_n 3, 1) := ld lc9 36 (en := (619, .iload_n 3, 1)) rfl
theorem dl_620 : decode code 620 = .ok (.iconst 2, 1) := ld lc9 37 (en := (620, .iconst 2, 1)) rfl
theorem dl_621 : decode code 621 = .ok (.iadd, 1) := ld lc9 38 (en := (621, .iadd, 1)) rfl
theorem dl_622 : decode code 622 = .ok (.iaload, 1) := ld lc9 39 (en := (622, .iaload, 1)) rfl
theorem dl_623 : decode code 623 = .ok (.aload_n 0, 1) := ld lc9 40 (en := (623, .aload_n 0, 1)) rfl
theorem dl_624 : decode code 624 = .ok (.iload_n 3, 1) := ld lc9 41 (en := (624, .iload_n 3, 1)) rfl
theorem dl_625 : decode code 625 = .ok (.iconst 3, 1) := ld lc9 42 (en := (625, .iconst 3, 1)) rfl
theorem dl_626 : decode code 626 = .ok (.iadd, 1) := ld lc9 43 (en := (626, .iadd, 1)) rfl
theorem dl_627 : decode code 627 = .ok (.iaload, 1) := ld lc9 44 (en := (627, .iaload, 1)) rfl
theorem dl_628 : decode code 628 = .ok (.invokevirtual 75, 3) := ld lc9 45 (en := (628, .invokevirtual 75, 3)) rfl
theorem dl_631 : decode code 631 = .ok (.aload_n 2, 1) := ld lc9 46 (en := (631, .aload_n 2, 1)) rfl
theorem dl_632 : decode code 632 = .ok (.aload_n 0, 1) := ld lc9 47 (en := (632, .aload_n 0, 1)) rfl
theorem dl_633 : decode code 633 = .ok (.iload_n 3, 1) := ld lc9 48 (en := (633, .iload_n 3, 1)) rfl
theorem dl_634 : decode code 634 = .ok (.iconst 1, 1) := ld lc9 49 (en := (634, .iconst 1, 1)) rfl
theorem dl_635 : decode code 635 = .ok (.iadd, 1) := ld lc9 50 (en := (635, .iadd, 1)) rfl
theorem dl_636 : decode code 636 = .ok (.iaload, 1) := ld lc9 51 (en := (636, .iaload, 1)) rfl
theorem dl_637 : decode code 637 = .ok (.aload_n 0, 1) := ld lc9 52 (en := (637, .aload_n 0, 1)) rfl
theorem dl_638 : decode code 638 = .ok (.iload_n 3, 1) := ld lc9 53 (en := (638, .iload_n 3, 1)) rfl
theorem dl_639 : decode code 639 = .ok (.iconst 2, 1) := ld lc9 54 (en := (639, .iconst 2, 1)) rfl
theorem dl_640 : decode code 640 = .ok (.iadd, 1) := ld lc10 0 (en := (640, .iadd, 1)) rfl
theorem dl_641 : decode code 641 = .ok (.iaload, 1) := ld lc10 1 (en := (641, .iaload, 1)) rfl
theorem dl_642 : decode code 642 = .ok (.aload_n 0, 1) := ld lc10 2 (en := (642, .aload_n 0, 1)) rfl
theorem dl_643 : decode code 643 = .ok (.iload_n 3, 1) := ld lc10 3 (en := (643, .iload_n 3, 1)) rfl
theorem dl_644 : decode code 644 = .ok (.iconst 3, 1) := ld lc10 4 (en := (644, .iconst 3, 1)) rfl
theorem dl_645 : decode code 645 = .ok (.iadd, 1) := ld lc10 5 (en := (645, .iadd, 1)) rfl
theorem dl_646 : decode code 646 = .ok (.iaload, 1) := ld lc10 6 (en := (646, .iaload, 1)) rfl
theorem dl_647 : decode code 647 = .ok (.invokevirtual 79, 3) := ld lc10 7 (en := (647, .invokevirtual 79, 3)) rfl
theorem dl_650 : decode code 650 = .ok (.if_icmp .eq 541, 3) := ld lc10 8 (en := (650, .if_icmp .eq 541, 3)) rfl
theorem dl_653 : decode code 653 = .ok (.iconst 0, 1) := ld lc10 9 (en := (653, .iconst 0, 1)) rfl
theorem dl_654 : decode code 654 = .ok (.ireturn, 1) := ld lc10 10 (en := (654, .ireturn, 1)) rfl
theorem dl_655 : decode code 655 = .ok (.aload_n 1, 1) := ld lc10 11 (en := (655, .aload_n 1, 1)) rfl
theorem dl_656 : decode code 656 = .ok (.aload_n 0, 1) := ld lc10 12 (en := (656, .aload_n 0, 1)) rfl
theorem dl_657 : decode code 657 = .ok (.iload_n 3, 1) := ld lc10 13 (en := (657, .iload_n 3, 1)) rfl
theorem dl_658 : decode code 658 = .ok (.iconst 1, 1) := ld lc10 14 (en := (658, .iconst 1, 1)) rfl
theorem dl_659 : decode code 659 = .ok (.iadd, 1) := ld lc10 15 (en := (659, .iadd, 1)) rfl
theorem dl_660 : decode code 660 = .ok (.iaload, 1) := ld lc10 16 (en := (660, .iaload, 1)) rfl
theorem dl_661 : decode code 661 = .ok (.invokevirtual 80, 3) := ld lc10 17 (en := (661, .invokevirtual 80, 3)) rfl
theorem dl_664 : decode code 664 = .ok (.aload_n 2, 1) := ld lc10 18 (en := (664, .aload_n 2, 1)) rfl
theorem dl_665 : decode code 665 = .ok (.aload_n 0, 1) := ld lc10 19 (en := (665, .aload_n 0, 1)) rfl
theorem dl_666 : decode code 666 = .ok (.iload_n 3, 1) := ld lc10 20 (en := (666, .iload_n 3, 1)) rfl
theorem dl_667 : decode code 667 = .ok (.iconst 1, 1) := ld lc10 21 (en := (667, .iconst 1, 1)) rfl
theorem dl_668 : decode code 668 = .ok (.iadd, 1) := ld lc10 22 (en := (668, .iadd, 1)) rfl
theorem dl_669 : decode code 669 = .ok (.iaload, 1) := ld lc10 23 (en := (669, .iaload, 1)) rfl
theorem dl_670 : decode code 670 = .ok (.invokevirtual 83, 3) := ld lc10 24 (en := (670, .invokevirtual 83, 3)) rfl
theorem dl_673 : decode code 673 = .ok (.if_icmp .eq 518, 3) := ld lc10 25 (en := (673, .if_icmp .eq 518, 3)) rfl
theorem dl_676 : decode code 676 = .ok (.iconst 0, 1) := ld lc10 26 (en := (676, .iconst 0, 1)) rfl
theorem dl_677 : decode code 677 = .ok (.ireturn, 1) := ld lc10 27 (en := (677, .ireturn, 1)) rfl
theorem dl_678 : decode code 678 = .ok (.aload_n 1, 1) := ld lc10 28 (en := (678, .aload_n 1, 1)) rfl
theorem dl_679 : decode code 679 = .ok (.aload_n 0, 1) := ld lc10 29 (en := (679, .aload_n 0, 1)) rfl
theorem dl_680 : decode code 680 = .ok (.iload_n 3, 1) := ld lc10 30 (en := (680, .iload_n 3, 1)) rfl
theorem dl_681 : decode code 681 = .ok (.iconst 1, 1) := ld lc10 31 (en := (681, .iconst 1, 1)) rfl
theorem dl_682 : decode code 682 = .ok (.iadd, 1) := ld lc10 32 (en := (682, .iadd, 1)) rfl
theorem dl_683 : decode code 683 = .ok (.iaload, 1) := ld lc10 33 (en := (683, .iaload, 1)) rfl
theorem dl_684 : decode code 684 = .ok (.invokevirtual 84, 3) := ld lc10 34 (en := (684, .invokevirtual 84, 3)) rfl
theorem dl_687 : decode code 687 = .ok (.aload_n 2, 1) := ld lc10 35 (en := (687, .aload_n 2, 1)) rfl
theorem dl_688 : decode code 688 = .ok (.aload_n 0, 1) := ld lc10 36 (en := (688, .aload_n 0, 1)) rfl
theorem dl_689 : decode code 689 = .ok (.iload_n 3, 1) := ld lc10 37 (en := (689, .iload_n 3, 1)) rfl
theorem dl_690 : decode code 690 = .ok (.iconst 1, 1) := ld lc10 38 (en := (690, .iconst 1, 1)) rfl
theorem dl_691 : decode code 691 = .ok (.iadd, 1) := ld lc10 39 (en := (691, .iadd, 1)) rfl
theorem dl_692 : decode code 692 = .ok (.iaload, 1) := ld lc10 40 (en := (692, .iaload, 1)) rfl
theorem dl_693 : decode code 693 = .ok (.invokevirtual 87, 3) := ld lc10 41 (en := (693, .invokevirtual 87, 3)) rfl
theorem dl_696 : decode code 696 = .ok (.if_icmp .eq 495, 3) := ld lc10 42 (en := (696, .if_icmp .eq 495, 3)) rfl
theorem dl_699 : decode code 699 = .ok (.iconst 0, 1) := ld lc10 43 (en := (699, .iconst 0, 1)) rfl
theorem dl_700 : decode code 700 = .ok (.ireturn, 1) := ld lc10 44 (en := (700, .ireturn, 1)) rfl
theorem dl_701 : decode code 701 = .ok (.aload_n 1, 1) := ld lc10 45 (en := (701, .aload_n 1, 1)) rfl
theorem dl_702 : decode code 702 = .ok (.aload_n 0, 1) := ld lc10 46 (en := (702, .aload_n 0, 1)) rfl
theorem dl_703 : decode code 703 = .ok (.iload_n 3, 1) := ld lc10 47 (en := (703, .iload_n 3, 1)) rfl
theorem dl_704 : decode code 704 = .ok (.iconst 1, 1) := ld lc11 0 (en := (704, .iconst 1, 1)) rfl
theorem dl_705 : decode code 705 = .ok (.iadd, 1) := ld lc11 1 (en := (705, .iadd, 1)) rfl
theorem dl_706 : decode code 706 = .ok (.iaload, 1) := ld lc11 2 (en := (706, .iaload, 1)) rfl
theorem dl_707 : decode code 707 = .ok (.invokevirtual 88, 3) := ld lc11 3 (en := (707, .invokevirtual 88, 3)) rfl
theorem dl_710 : decode code 710 = .ok (.aload_n 2, 1) := ld lc11 4 (en := (710, .aload_n 2, 1)) rfl
theorem dl_711 : decode code 711 = .ok (.aload_n 0, 1) := ld lc11 5 (en := (711, .aload_n 0, 1)) rfl
theorem dl_712 : decode code 712 = .ok (.iload_n 3, 1) := ld lc11 6 (en := (712, .iload_n 3, 1)) rfl
theorem dl_713 : decode code 713 = .ok (.iconst 1, 1) := ld lc11 7 (en := (713, .iconst 1, 1)) rfl
theorem dl_714 : decode code 714 = .ok (.iadd, 1) := ld lc11 8 (en := (714, .iadd, 1)) rfl
theorem dl_715 : decode code 715 = .ok (.iaload, 1) := ld lc11 9 (en := (715, .iaload, 1)) rfl
theorem dl_716 : decode code 716 = .ok (.invokevirtual 91, 3) := ld lc11 10 (en := (716, .invokevirtual 91, 3)) rfl
theorem dl_719 : decode code 719 = .ok (.if_icmp .eq 472, 3) := ld lc11 11 (en := (719, .if_icmp .eq 472, 3)) rfl
theorem dl_722 : decode code 722 = .ok (.iconst 0, 1) := ld lc11 12 (en := (722, .iconst 0, 1)) rfl
theorem dl_723 : decode code 723 = .ok (.ireturn, 1) := ld lc11 13 (en := (723, .ireturn, 1)) rfl
theorem dl_724 : decode code 724 = .ok (.aload_n 1, 1) := ld lc11 14 (en := (724, .aload_n 1, 1)) rfl
theorem dl_725 : decode code 725 = .ok (.aload_n 0, 1) := ld lc11 15 (en := (725, .aload_n 0, 1)) rfl
theorem dl_726 : decode code 726 = .ok (.iload_n 3, 1) := ld lc11 16 (en := (726, .iload_n 3, 1)) rfl
theorem dl_727 : decode code 727 = .ok (.iconst 1, 1) := ld lc11 17 (en := (727, .iconst 1, 1)) rfl
theorem dl_728 : decode code 728 = .ok (.iadd, 1) := ld lc11 18 (en := (728, .iadd, 1)) rfl
theorem dl_729 : decode code 729 = .ok (.iaload, 1) := ld lc11 19 (en := (729, .iaload, 1)) rfl
theorem dl_730 : decode code 730 = .ok (.invokevirtual 92, 3) := ld lc11 20 (en := (730, .invokevirtual 92, 3)) rfl
theorem dl_733 : decode code 733 = .ok (.aload_n 2, 1) := ld lc11 21 (en := (733, .aload_n 2, 1)) rfl
theorem dl_734 : decode code 734 = .ok (.aload_n 0, 1) := ld lc11 22 (en := (734, .aload_n 0, 1)) rfl
theorem dl_735 : decode code 735 = .ok (.iload_n 3, 1) := ld lc11 23 (en := (735, .iload_n 3, 1)) rfl
theorem dl_736 : decode code 736 = .ok (.iconst 1, 1) := ld lc11 24 (en := (736, .iconst 1, 1)) rfl
theorem dl_737 : decode code 737 = .ok (.iadd, 1) := ld lc11 25 (en := (737, .iadd, 1)) rfl
theorem dl_738 : decode code 738 = .ok (.iaload, 1) := ld lc11 26 (en := (738, .iaload, 1)) rfl
theorem dl_739 : decode code 739 = .ok (.invokevirtual 95, 3) := ld lc11 27 (en := (739, .invokevirtual 95, 3)) rfl
theorem dl_742 : decode code 742 = .ok (.if_icmp .eq 449, 3) := ld lc11 28 (en := (742, .if_icmp .eq 449, 3)) rfl
theorem dl_745 : decode code 745 = .ok (.iconst 0, 1) := ld lc11 29 (en := (745, .iconst 0, 1)) rfl
theorem dl_746 : decode code 746 = .ok (.ireturn, 1) := ld lc11 30 (en := (746, .ireturn, 1)) rfl
theorem dl_747 : decode code 747 = .ok (.aload_n 1, 1) := ld lc11 31 (en := (747, .aload_n 1, 1)) rfl
theorem dl_748 : decode code 748 = .ok (.aload_n 0, 1) := ld lc11 32 (en := (748, .aload_n 0, 1)) rfl
theorem dl_749 : decode code 749 = .ok (.iload_n 3, 1) := ld lc11 33 (en := (749, .iload_n 3, 1)) rfl
theorem dl_750 : decode code 750 = .ok (.iconst 1, 1) := ld lc11 34 (en := (750, .iconst 1, 1)) rfl
theorem dl_751 : decode code 751 = .ok (.iadd, 1) := ld lc11 35 (en := (751, .iadd, 1)) rfl
theorem dl_752 : decode code 752 = .ok (.iaload, 1) := ld lc11 36 (en := (752, .iaload, 1)) rfl
theorem dl_753 : decode code 753 = .ok (.aload_n 0, 1) := ld lc11 37 (en := (753, .aload_n 0, 1)) rfl
theorem dl_754 : decode code 754 = .ok (.iload_n 3, 1) := ld lc11 38 (en := (754, .iload_n 3, 1)) rfl
theorem dl_755 : decode code 755 = .ok (.iconst 2, 1) := ld lc11 39 (en := (755, .iconst 2, 1)) rfl
theorem dl_756 : decode code 756 = .ok (.iadd, 1) := ld lc11 40 (en := (756, .iadd, 1)) rfl
theorem dl_757 : decode code 757 = .ok (.iaload, 1) := ld lc11 41 (en := (757, .iaload, 1)) rfl
theorem dl_758 : decode code 758 = .ok (.invokevirtual 96, 3) := ld lc11 42 (en := (758, .invokevirtual 96, 3)) rfl
theorem dl_761 : decode code 761 = .ok (.aload_n 2, 1) := ld lc11 43 (en := (761, .aload_n 2, 1)) rfl
theorem dl_762 : decode code 762 = .ok (.aload_n 0, 1) := ld lc11 44 (en := (762, .aload_n 0, 1)) rfl
theorem dl_763 : decode code 763 = .ok (.iload_n 3, 1) := ld lc11 45 (en := (763, .iload_n 3, 1)) rfl
theorem dl_764 : decode code 764 = .ok (.iconst 1, 1) := ld lc11 46 (en := (764, .iconst 1, 1)) rfl
theorem dl_765 : decode code 765 = .ok (.iadd, 1) := ld lc11 47 (en := (765, .iadd, 1)) rfl
theorem dl_766 : decode code 766 = .ok (.iaload, 1) := ld lc11 48 (en := (766, .iaload, 1)) rfl
theorem dl_767 : decode code 767 = .ok (.aload_n 0, 1) := ld lc11 49 (en := (767, .aload_n 0, 1)) rfl
theorem dl_768 : decode code 768 = .ok (.iload_n 3, 1) := ld lc12 0 (en := (768, .iload_n 3, 1)) rfl
theorem dl_769 : decode code 769 = .ok (.iconst 2, 1) := ld lc12 1 (en := (769, .iconst 2, 1)) rfl
theorem dl_770 : decode code 770 = .ok (.iadd, 1) := ld lc12 2 (en := (770, .iadd, 1)) rfl
theorem dl_771 : decode code 771 = .ok (.iaload, 1) := ld lc12 3 (en := (771, .iaload, 1)) rfl
theorem dl_772 : decode code 772 = .ok (.invokevirtual 99, 3) := ld lc12 4 (en := (772, .invokevirtual 99, 3)) rfl
theorem dl_775 : decode code 775 = .ok (.if_icmp .eq 416, 3) := ld lc12 5 (en := (775, .if_icmp .eq 416, 3)) rfl
theorem dl_778 : decode code 778 = .ok (.iconst 0, 1) := ld lc12 6 (en := (778, .iconst 0, 1)) rfl
theorem dl_779 : decode code 779 = .ok (.ireturn, 1) := ld lc12 7 (en := (779, .ireturn, 1)) rfl
theorem dl_780 : decode code 780 = .ok (.aload_n 1, 1) := ld lc12 8 (en := (780, .aload_n 1, 1)) rfl
theorem dl_781 : decode code 781 = .ok (.aload_n 0, 1) := ld lc12 9 (en := (781, .aload_n 0, 1)) rfl
theorem dl_782 : decode code 782 = .ok (.iload_n 3, 1) := ld lc12 10 (en := (782, .iload_n 3, 1)) rfl
theorem dl_783 : decode code 783 = .ok (.iconst 1, 1) := ld lc12 11 (en := (783, .iconst 1, 1)) rfl
theorem dl_784 : decode code 784 = .ok (.iadd, 1) := ld lc12 12 (en := (784, .iadd, 1)) rfl
theorem dl_785 : decode code 785 = .ok (.iaload, 1) := ld lc12 13 (en := (785, .iaload, 1)) rfl
theorem dl_786 : decode code 786 = .ok (.aload_n 0, 1) := ld lc12 14 (en := (786, .aload_n 0, 1)) rfl
theorem dl_787 : decode code 787 = .ok (.iload_n 3, 1) := ld lc12 15 (en := (787, .iload_n 3, 1)) rfl
theorem dl_788 : decode code 788 = .ok (.iconst 2, 1) := ld lc12 16 (en := (788, .iconst 2, 1)) rfl
theorem dl_789 : decode code 789 = .ok (.iadd, 1) := ld lc12 17 (en := (789, .iadd, 1)) rfl
theorem dl_790 : decode code 790 = .ok (.iaload, 1) := ld lc12 18 (en := (790, .iaload, 1)) rfl
theorem dl_791 : decode code 791 = .ok (.invokevirtual 100, 3) := ld lc12 19 (en := (791, .invokevirtual 100, 3)) rfl
theorem dl_794 : decode code 794 = .ok (.aload_n 2, 1) := ld lc12 20 (en := (794, .aload_n 2, 1)) rfl
theorem dl_795 : decode code 795 = .ok (.aload_n 0, 1) := ld lc12 21 (en := (795, .aload_n 0, 1)) rfl
theorem dl_796 : decode code 796 = .ok (.iload_n 3, 1) := ld lc12 22 (en := (796, .iload_n 3, 1)) rfl
theorem dl_797 : decode code 797 = .ok (.iconst 1, 1) := ld lc12 23 (en := (797, .iconst 1, 1)) rfl
theorem dl_798 : decode code 798 = .ok (.iadd, 1) := ld lc12 24 (en := (798, .iadd, 1)) rfl
theorem dl_799 : decode code 799 = .ok (.iaload, 1) := ld lc12 25 (en := (799, .iaload, 1)) rfl
theorem dl_800 : decode code 800 = .ok (.aload_n 0, 1) := ld lc12 26 (en := (800, .aload_n 0, 1)) rfl
theorem dl_801 : decode code 801 = .ok (.iload_n 3, 1) := ld lc12 27 (en := (801, .iload_n 3, 1)) rfl
theorem dl_802 : decode code 802 = .ok (.iconst 2, 1) := ld lc12 28 (en := (802, .iconst 2, 1)) rfl
theorem dl_803 : decode code 803 = .ok (.iadd, 1) := ld lc12 29 (en := (803, .iadd, 1)) rfl
theorem dl_804 : decode code 804 = .ok (.iaload, 1) := ld lc12 30 (en := (804, .iaload, 1)) rfl
theorem dl_805 : decode code 805 = .ok (.invokevirtual 103, 3) := ld lc12 31 (en := (805, .invokevirtual 103, 3)) rfl
theorem dl_808 : decode code 808 = .ok (.if_icmp .eq 383, 3) := ld lc12 32 (en := (808, .if_icmp .eq 383, 3)) rfl
theorem dl_811 : decode code 811 = .ok (.iconst 0, 1) := ld lc12 33 (en := (811, .iconst 0, 1)) rfl
theorem dl_812 : decode code 812 = .ok (.ireturn, 1) := ld lc12 34 (en := (812, .ireturn, 1)) rfl
theorem dl_813 : decode code 813 = .ok (.aload_n 1, 1) := ld lc12 35 (en := (813, .aload_n 1, 1)) rfl
theorem dl_814 : decode code 814 = .ok (.aload_n 0, 1) := ld lc12 36 (en := (814, .aload_n 0, 1)) rfl
theorem dl_815 : decode code 815 = .ok (.iload_n 3, 1) := ld lc12 37 (en := (815, .iload_n 3, 1)) rfl
theorem dl_816 : decode code 816 = .ok (.iconst 1, 1) := ld lc12 38 (en := (816, .iconst 1, 1)) rfl
theorem dl_817 : decode code 817 = .ok (.iadd, 1) := ld lc12 39 (en := (817, .iadd, 1)) rfl
theorem dl_818 : decode code 818 = .ok (.iaload, 1) := ld lc12 40 (en := (818, .iaload, 1)) rfl
theorem dl_819 : decode code 819 = .ok (.invokevirtual 104, 3) := ld lc12 41 (en := (819, .invokevirtual 104, 3)) rfl
theorem dl_822 : decode code 822 = .ok (.aload_n 2, 1) := ld lc12 42 (en := (822, .aload_n 2, 1)) rfl
theorem dl_823 : decode code 823 = .ok (.aload_n 0, 1) := ld lc12 43 (en := (823, .aload_n 0, 1)) rfl
theorem dl_824 : decode code 824 = .ok (.iload_n 3, 1) := ld lc12 44 (en := (824, .iload_n 3, 1)) rfl
theorem dl_825 : decode code 825 = .ok (.iconst 1, 1) := ld lc12 45 (en := (825, .iconst 1, 1)) rfl
theorem dl_826 : decode code 826 = .ok (.iadd, 1) := ld lc12 46 (en := (826, .iadd, 1)) rfl
theorem dl_827 : decode code 827 = .ok (.iaload, 1) := ld lc12 47 (en := (827, .iaload, 1)) rfl
theorem dl_828 : decode code 828 = .ok (.invokevirtual 107, 3) := ld lc12 48 (en := (828, .invokevirtual 107, 3)) rfl
theorem dl_831 : decode code 831 = .ok (.if_icmp .eq 360, 3) := ld lc12 49 (en := (831, .if_icmp .eq 360, 3)) rfl
theorem dl_834 : decode code 834 = .ok (.iconst 0, 1) := ld lc13 0 (en := (834, .iconst 0, 1)) rfl
theorem dl_835 : decode code 835 = .ok (.ireturn, 1) := ld lc13 1 (en := (835, .ireturn, 1)) rfl
theorem dl_836 : decode code 836 = .ok (.aload_n 1, 1) := ld lc13 2 (en := (836, .aload_n 1, 1)) rfl
theorem dl_837 : decode code 837 = .ok (.invokevirtual 108, 3) := ld lc13 3 (en := (837, .invokevirtual 108, 3)) rfl
theorem dl_840 : decode code 840 = .ok (.aload_n 2, 1) := ld lc13 4 (en := (840, .aload_n 2, 1)) rfl
theorem dl_841 : decode code 841 = .ok (.invokevirtual 111, 3) := ld lc13 5 (en := (841, .invokevirtual 111, 3)) rfl
theorem dl_844 : decode code 844 = .ok (.if_icmp .eq 347, 3) := ld lc13 6 (en := (844, .if_icmp .eq 347, 3)) rfl
theorem dl_847 : decode code 847 = .ok (.iconst 0, 1) := ld lc13 7 (en := (847, .iconst 0, 1)) rfl
theorem dl_848 : decode code 848 = .ok (.ireturn, 1) := ld lc13 8 (en := (848, .ireturn, 1)) rfl
theorem dl_849 : decode code 849 = .ok (.aload_n 1, 1) := ld lc13 9 (en := (849, .aload_n 1, 1)) rfl
theorem dl_850 : decode code 850 = .ok (.aload_n 0, 1) := ld lc13 10 (en := (850, .aload_n 0, 1)) rfl
theorem dl_851 : decode code 851 = .ok (.iload_n 3, 1) := ld lc13 11 (en := (851, .iload_n 3, 1)) rfl
theorem dl_852 : decode code 852 = .ok (.iconst 1, 1) := ld lc13 12 (en := (852, .iconst 1, 1)) rfl
theorem dl_853 : decode code 853 = .ok (.iadd, 1) := ld lc13 13 (en := (853, .iadd, 1)) rfl
theorem dl_854 : decode code 854 = .ok (.iaload, 1) := ld lc13 14 (en := (854, .iaload, 1)) rfl
theorem dl_855 : decode code 855 = .ok (.invokevirtual 112, 3) := ld lc13 15 (en := (855, .invokevirtual 112, 3)) rfl
theorem dl_858 : decode code 858 = .ok (.aload_n 2, 1) := ld lc13 16 (en := (858, .aload_n 2, 1)) rfl
theorem dl_859 : decode code 859 = .ok (.aload_n 0, 1) := ld lc13 17 (en := (859, .aload_n 0, 1)) rfl
theorem dl_860 : decode code 860 = .ok (.iload_n 3, 1) := ld lc13 18 (en := (860, .iload_n 3, 1)) rfl
theorem dl_861 : decode code 861 = .ok (.iconst 1, 1) := ld lc13 19 (en := (861, .iconst 1, 1)) rfl
theorem dl_862 : decode code 862 = .ok (.iadd, 1) := ld lc13 20 (en := (862, .iadd, 1)) rfl
theorem dl_863 : decode code 863 = .ok (.iaload, 1) := ld lc13 21 (en := (863, .iaload, 1)) rfl
theorem dl_864 : decode code 864 = .ok (.invokevirtual 115, 3) := ld lc13 22 (en := (864, .invokevirtual 115, 3)) rfl
theorem dl_867 : decode code 867 = .ok (.if_icmp .eq 324, 3) := ld lc13 23 (en := (867, .if_icmp .eq 324, 3)) rfl
theorem dl_870 : decode code 870 = .ok (.iconst 0, 1) := ld lc13 24 (en := (870, .iconst 0, 1)) rfl
theorem dl_871 : decode code 871 = .ok (.ireturn, 1) := ld lc13 25 (en := (871, .ireturn, 1)) rfl
theorem dl_872 : decode code 872 = .ok (.aload_n 1, 1) := ld lc13 26 (en := (872, .aload_n 1, 1)) rfl
theorem dl_873 : decode code 873 = .ok (.aload_n 0, 1) := ld lc13 27 (en := (873, .aload_n 0, 1)) rfl
theorem dl_874 : decode code 874 = .ok (.iload_n 3, 1) := ld lc13 28 (en := (874, .iload_n 3, 1)) rfl
theorem dl_875 : decode code 875 = .ok (.iconst 1, 1) := ld lc13 29 (en := (875, .iconst 1, 1)) rfl
theorem dl_876 : decode code 876 = .ok (.iadd, 1) := ld lc13 30 (en := (876, .iadd, 1)) rfl
theorem dl_877 : decode code 877 = .ok (.iaload, 1) := ld lc13 31 (en := (877, .iaload, 1)) rfl
theorem dl_878 : decode code 878 = .ok (.aload_n 0, 1) := ld lc13 32 (en := (878, .aload_n 0, 1)) rfl
theorem dl_879 : decode code 879 = .ok (.iload_n 3, 1) := ld lc13 33 (en := (879, .iload_n 3, 1)) rfl
theorem dl_880 : decode code 880 = .ok (.iconst 2, 1) := ld lc13 34 (en := (880, .iconst 2, 1)) rfl
theorem dl_881 : decode code 881 = .ok (.iadd, 1) := ld lc13 35 (en := (881, .iadd, 1)) rfl
theorem dl_882 : decode code 882 = .ok (.iaload, 1) := ld lc13 36 (en := (882, .iaload, 1)) rfl
theorem dl_883 : decode code 883 = .ok (.invokevirtual 116, 3) := ld lc13 37 (en := (883, .invokevirtual 116, 3)) rfl
theorem dl_886 : decode code 886 = .ok (.aload_n 2, 1) := ld lc13 38 (en := (886, .aload_n 2, 1)) rfl
theorem dl_887 : decode code 887 = .ok (.aload_n 0, 1) := ld lc13 39 (en := (887, .aload_n 0, 1)) rfl
theorem dl_888 : decode code 888 = .ok (.iload_n 3, 1) := ld lc13 40 (en := (888, .iload_n 3, 1)) rfl
theorem dl_889 : decode code 889 = .ok (.iconst 1, 1) := ld lc13 41 (en := (889, .iconst 1, 1)) rfl
theorem dl_890 : decode code 890 = .ok (.iadd, 1) := ld lc13 42 (en := (890, .iadd, 1)) rfl
theorem dl_891 : decode code 891 = .ok (.iaload, 1) := ld lc13 43 (en := (891, .iaload, 1)) rfl
theorem dl_892 : decode code 892 = .ok (.aload_n 0, 1) := ld lc13 44 (en := (892, .aload_n 0, 1)) rfl
theorem dl_893 : decode code 893 = .ok (.iload_n 3, 1) := ld lc13 45 (en := (893, .iload_n 3, 1)) rfl
theorem dl_894 : decode code 894 = .ok (.iconst 2, 1) := ld lc13 46 (en := (894, .iconst 2, 1)) rfl
theorem dl_895 : decode code 895 = .ok (.iadd, 1) := ld lc13 47 (en := (895, .iadd, 1)) rfl
theorem dl_896 : decode code 896 = .ok (.iaload, 1) := ld lc14 0 (en := (896, .iaload, 1)) rfl
theorem dl_897 : decode code 897 = .ok (.invokevirtual 119, 3) := ld lc14 1 (en := (897, .invokevirtual 119, 3)) rfl
theorem dl_900 : decode code 900 = .ok (.if_icmp .eq 291, 3) := ld lc14 2 (en := (900, .if_icmp .eq 291, 3)) rfl
theorem dl_903 : decode code 903 = .ok (.iconst 0, 1) := ld lc14 3 (en := (903, .iconst 0, 1)) rfl
theorem dl_904 : decode code 904 = .ok (.ireturn, 1) := ld lc14 4 (en := (904, .ireturn, 1)) rfl
theorem dl_905 : decode code 905 = .ok (.aload_n 1, 1) := ld lc14 5 (en := (905, .aload_n 1, 1)) rfl
theorem dl_906 : decode code 906 = .ok (.aload_n 0, 1) := ld lc14 6 (en := (906, .aload_n 0, 1)) rfl
theorem dl_907 : decode code 907 = .ok (.iload_n 3, 1) := ld lc14 7 (en := (907, .iload_n 3, 1)) rfl
theorem dl_908 : decode code 908 = .ok (.iconst 1, 1) := ld lc14 8 (en := (908, .iconst 1, 1)) rfl
theorem dl_909 : decode code 909 = .ok (.iadd, 1) := ld lc14 9 (en := (909, .iadd, 1)) rfl
theorem dl_910 : decode code 910 = .ok (.iaload, 1) := ld lc14 10 (en := (910, .iaload, 1)) rfl
theorem dl_911 : decode code 911 = .ok (.aload_n 0, 1) := ld lc14 11 (en := (911, .aload_n 0, 1)) rfl
theorem dl_912 : decode code 912 = .ok (.iload_n 3, 1) := ld lc14 12 (en := (912, .iload_n 3, 1)) rfl
theorem dl_913 : decode code 913 = .ok (.iconst 2, 1) := ld lc14 13 (en := (913, .iconst 2, 1)) rfl
theorem dl_914 : decode code 914 = .ok (.iadd, 1) := ld lc14 14 (en := (914, .iadd, 1)) rfl
theorem dl_915 : decode code 915 = .ok (.iaload, 1) := ld lc14 15 (en := (915, .iaload, 1)) rfl
theorem dl_916 : decode code 916 = .ok (.invokevirtual 120, 3) := ld lc14 16 (en := (916, .invokevirtual 120, 3)) rfl
theorem dl_919 : decode code 919 = .ok (.aload_n 2, 1) := ld lc14 17 (en := (919, .aload_n 2, 1)) rfl
theorem dl_920 : decode code 920 = .ok (.aload_n 0, 1) := ld lc14 18 (en := (920, .aload_n 0, 1)) rfl
theorem dl_921 : decode code 921 = .ok (.iload_n 3, 1) := ld lc14 19 (en := (921, .iload_n 3, 1)) rfl
theorem dl_922 : decode code 922 = .ok (.iconst 1, 1) := ld lc14 20 (en := (922, .iconst 1, 1)) rfl
theorem dl_923 : decode code 923 = .ok (.iadd, 1) := ld lc14 21 (en := (923, .iadd, 1)) rfl
theorem dl_924 : decode code 924 = .ok (.iaload, 1) := ld lc14 22 (en := (924, .iaload, 1)) rfl
theorem dl_925 : decode code 925 = .ok (.aload_n 0, 1) := ld lc14 23 (en := (925, .aload_n 0, 1)) rfl
theorem dl_926 : decode code 926 = .ok (.iload_n 3, 1) := ld lc14 24 (en := (926, .iload_n 3, 1)) rfl
theorem dl_927 : decode code 927 = .ok (.iconst 2, 1) := ld lc14 25 (en := (927, .iconst 2, 1)) rfl
theorem dl_928 : decode code 928 = .ok (.iadd, 1) := ld lc14 26 (en := (928, .iadd, 1)) rfl
theorem dl_929 : decode code 929 = .ok (.iaload, 1) := ld lc14 27 (en := (929, .iaload, 1)) rfl
theorem dl_930 : decode code 930 = .ok (.invokevirtual 123, 3) := ld lc14 28 (en := (930, .invokevirtual 123, 3)) rfl
theorem dl_933 : decode code 933 = .ok (.if_icmp .eq 258, 3) := ld lc14 29 (en := (933, .if_icmp .eq 258, 3)) rfl
theorem dl_936 : decode code 936 = .ok (.iconst 0, 1) := ld lc14 30 (en := (936, .iconst 0, 1)) rfl
theorem dl_937 : decode code 937 = .ok (.ireturn, 1) := ld lc14 31 (en := (937, .ireturn, 1)) rfl
theorem dl_938 : decode code 938 = .ok (.aload_n 1, 1) := ld lc14 32 (en := (938, .aload_n 1, 1)) rfl
theorem dl_939 : decode code 939 = .ok (.aload_n 0, 1) := ld lc14 33 (en := (939, .aload_n 0, 1)) rfl
theorem dl_940 : decode code 940 = .ok (.iload_n 3, 1) := ld lc14 34 (en := (940, .iload_n 3, 1)) rfl
theorem dl_941 : decode code 941 = .ok (.iconst 1, 1) := ld lc14 35 (en := (941, .iconst 1, 1)) rfl
theorem dl_942 : decode code 942 = .ok (.iadd, 1) := ld lc14 36 (en := (942, .iadd, 1)) rfl
theorem dl_943 : decode code 943 = .ok (.iaload, 1) := ld lc14 37 (en := (943, .iaload, 1)) rfl
theorem dl_944 : decode code 944 = .ok (.aload_n 0, 1) := ld lc14 38 (en := (944, .aload_n 0, 1)) rfl
theorem dl_945 : decode code 945 = .ok (.iload_n 3, 1) := ld lc14 39 (en := (945, .iload_n 3, 1)) rfl
theorem dl_946 : decode code 946 = .ok (.iconst 2, 1) := ld lc14 40 (en := (946, .iconst 2, 1)) rfl
theorem dl_947 : decode code 947 = .ok (.iadd, 1) := ld lc14 41 (en := (947, .iadd, 1)) rfl
theorem dl_948 : decode code 948 = .ok (.iaload, 1) := ld lc14 42 (en := (948, .iaload, 1)) rfl
theorem dl_949 : decode code 949 = .ok (.invokevirtual 124, 3) := ld lc14 43 (en := (949, .invokevirtual 124, 3)) rfl
theorem dl_952 : decode code 952 = .ok (.aload_n 2, 1) := ld lc14 44 (en := (952, .aload_n 2, 1)) rfl
theorem dl_953 : decode code 953 = .ok (.aload_n 0, 1) := ld lc14 45 (en := (953, .aload_n 0, 1)) rfl
theorem dl_954 : decode code 954 = .ok (.iload_n 3, 1) := ld lc14 46 (en := (954, .iload_n 3, 1)) rfl
theorem dl_955 : decode code 955 = .ok (.iconst 1, 1) := ld lc14 47 (en := (955, .iconst 1, 1)) rfl
theorem dl_956 : decode code 956 = .ok (.iadd, 1) := ld lc14 48 (en := (956, .iadd, 1)) rfl
theorem dl_957 : decode code 957 = .ok (.iaload, 1) := ld lc14 49 (en := (957, .iaload, 1)) rfl
theorem dl_958 : decode code 958 = .ok (.aload_n 0, 1) := ld lc14 50 (en := (958, .aload_n 0, 1)) rfl
theorem dl_959 : decode code 959 = .ok (.iload_n 3, 1) := ld lc14 51 (en := (959, .iload_n 3, 1)) rfl
theorem dl_960 : decode code 960 = .ok (.iconst 2, 1) := ld lc15 0 (en := (960, .iconst 2, 1)) rfl
theorem dl_961 : decode code 961 = .ok (.iadd, 1) := ld lc15 1 (en := (961, .iadd, 1)) rfl
theorem dl_962 : decode code 962 = .ok (.iaload, 1) := ld lc15 2 (en := (962, .iaload, 1)) rfl
theorem dl_963 : decode code 963 = .ok (.invokevirtual 127, 3) := ld lc15 3 (en := (963, .invokevirtual 127, 3)) rfl
theorem dl_966 : decode code 966 = .ok (.if_icmp .eq 225, 3) := ld lc15 4 (en := (966, .if_icmp .eq 225, 3)) rfl
theorem dl_969 : decode code 969 = .ok (.iconst 0, 1) := ld lc15 5 (en := (969, .iconst 0, 1)) rfl
theorem dl_970 : decode code 970 = .ok (.ireturn, 1) := ld lc15 6 (en := (970, .ireturn, 1)) rfl
theorem dl_971 : decode code 971 = .ok (.aload_n 1, 1) := ld lc15 7 (en := (971, .aload_n 1, 1)) rfl
theorem dl_972 : decode code 972 = .ok (.aload_n 0, 1) := ld lc15 8 (en := (972, .aload_n 0, 1)) rfl
theorem dl_973 : decode code 973 = .ok (.iload_n 3, 1) := ld lc15 9 (en := (973, .iload_n 3, 1)) rfl
theorem dl_974 : decode code 974 = .ok (.iconst 1, 1) := ld lc15 10 (en := (974, .iconst 1, 1)) rfl
theorem dl_975 : decode code 975 = .ok (.iadd, 1) := ld lc15 11 (en := (975, .iadd, 1)) rfl
theorem dl_976 : decode code 976 = .ok (.iaload, 1) := ld lc15 12 (en := (976, .iaload, 1)) rfl
theorem dl_977 : decode code 977 = .ok (.aload_n 0, 1) := ld lc15 13 (en := (977, .aload_n 0, 1)) rfl
theorem dl_978 : decode code 978 = .ok (.iload_n 3, 1) := ld lc15 14 (en := (978, .iload_n 3, 1)) rfl
theorem dl_979 : decode code 979 = .ok (.iconst 2, 1) := ld lc15 15 (en := (979, .iconst 2, 1)) rfl
theorem dl_980 : decode code 980 = .ok (.iadd, 1) := ld lc15 16 (en := (980, .iadd, 1)) rfl
theorem dl_981 : decode code 981 = .ok (.iaload, 1) := ld lc15 17 (en := (981, .iaload, 1)) rfl
theorem dl_982 : decode code 982 = .ok (.invokevirtual 128, 3) := ld lc15 18 (en := (982, .invokevirtual 128, 3)) rfl
theorem dl_985 : decode code 985 = .ok (.aload_n 2, 1) := ld lc15 19 (en := (985, .aload_n 2, 1)) rfl
theorem dl_986 : decode code 986 = .ok (.aload_n 0, 1) := ld lc15 20 (en := (986, .aload_n 0, 1)) rfl
theorem dl_987 : decode code 987 = .ok (.iload_n 3, 1) := ld lc15 21 (en := (987, .iload_n 3, 1)) rfl
theorem dl_988 : decode code 988 = .ok (.iconst 1, 1) := ld lc15 22 (en := (988, .iconst 1, 1)) rfl
theorem dl_989 : decode code 989 = .ok (.iadd, 1) := ld lc15 23 (en := (989, .iadd, 1)) rfl
theorem dl_990 : decode code 990 = .ok (.iaload, 1) := ld lc15 24 (en := (990, .iaload, 1)) rfl
theorem dl_991 : decode code 991 = .ok (.aload_n 0, 1) := ld lc15 25 (en := (991, .aload_n 0, 1)) rfl
theorem dl_992 : decode code 992 = .ok (.iload_n 3, 1) := ld lc15 26 (en := (992, .iload_n 3, 1)) rfl
theorem dl_993 : decode code 993 = .ok (.iconst 2, 1) := ld lc15 27 (en := (993, .iconst 2, 1)) rfl
theorem dl_994 : decode code 994 = .ok (.iadd, 1) := ld lc15 28 (en := (994, .iadd, 1)) rfl
theorem dl_995 : decode code 995 = .ok (.iaload, 1) := ld lc15 29 (en := (995, .iaload, 1)) rfl
theorem dl_996 : decode code 996 = .ok (.invokevirtual 131, 3) := ld lc15 30 (en := (996, .invokevirtual 131, 3)) rfl
theorem dl_999 : decode code 999 = .ok (.if_icmp .eq 192, 3) := ld lc15 31 (en := (999, .if_icmp .eq 192, 3)) rfl
theorem dl_1002 : decode code 1002 = .ok (.iconst 0, 1) := ld lc15 32 (en := (1002, .iconst 0, 1)) rfl
theorem dl_1003 : decode code 1003 = .ok (.ireturn, 1) := ld lc15 33 (en := (1003, .ireturn, 1)) rfl
theorem dl_1004 : decode code 1004 = .ok (.aload_n 1, 1) := ld lc15 34 (en := (1004, .aload_n 1, 1)) rfl
theorem dl_1005 : decode code 1005 = .ok (.aload_n 0, 1) := ld lc15 35 (en := (1005, .aload_n 0, 1)) rfl
theorem dl_1006 : decode code 1006 = .ok (.iload_n 3, 1) := ld lc15 36 (en := (1006, .iload_n 3, 1)) rfl
theorem dl_1007 : decode code 1007 = .ok (.iconst 1, 1) := ld lc15 37 (en := (1007, .iconst 1, 1)) rfl
theorem dl_1008 : decode code 1008 = .ok (.iadd, 1) := ld lc15 38 (en := (1008, .iadd, 1)) rfl
theorem dl_1009 : decode code 1009 = .ok (.iaload, 1) := ld lc15 39 (en := (1009, .iaload, 1)) rfl
theorem dl_1010 : decode code 1010 = .ok (.aload_n 0, 1) := ld lc15 40 (en := (1010, .aload_n 0, 1)) rfl
theorem dl_1011 : decode code 1011 = .ok (.iload_n 3, 1) := ld lc15 41 (en := (1011, .iload_n 3, 1)) rfl
theorem dl_1012 : decode code 1012 = .ok (.iconst 2, 1) := ld lc15 42 (en := (1012, .iconst 2, 1)) rfl
theorem dl_1013 : decode code 1013 = .ok (.iadd, 1) := ld lc15 43 (en := (1013, .iadd, 1)) rfl
theorem dl_1014 : decode code 1014 = .ok (.iaload, 1) := ld lc15 44 (en := (1014, .iaload, 1)) rfl
theorem dl_1015 : decode code 1015 = .ok (.ifCond .eq 7, 3) := ld lc15 45 (en := (1015, .ifCond .eq 7, 3)) rfl
theorem dl_1018 : decode code 1018 = .ok (.iconst 1, 1) := ld lc15 46 (en := (1018, .iconst 1, 1)) rfl
theorem dl_1019 : decode code 1019 = .ok (.goto 4, 3) := ld lc15 47 (en := (1019, .goto 4, 3)) rfl
theorem dl_1022 : decode code 1022 = .ok (.iconst 0, 1) := ld lc15 48 (en := (1022, .iconst 0, 1)) rfl
theorem dl_1023 : decode code 1023 = .ok (.invokevirtual 132, 3) := ld lc15 49 (en := (1023, .invokevirtual 132, 3)) rfl
theorem dl_1026 : decode code 1026 = .ok (.aload_n 2, 1) := ld lc16 0 (en := (1026, .aload_n 2, 1)) rfl
theorem dl_1027 : decode code 1027 = .ok (.aload_n 0, 1) := ld lc16 1 (en := (1027, .aload_n 0, 1)) rfl
theorem dl_1028 : decode code 1028 = .ok (.iload_n 3, 1) := ld lc16 2 (en := (1028, .iload_n 3, 1)) rfl
theorem dl_1029 : decode code 1029 = .ok (.iconst 1, 1) := ld lc16 3 (en := (1029, .iconst 1, 1)) rfl
theorem dl_1030 : decode code 1030 = .ok (.iadd, 1) := ld lc16 4 (en := (1030, .iadd, 1)) rfl
theorem dl_1031 : decode code 1031 = .ok (.iaload, 1) := ld lc16 5 (en := (1031, .iaload, 1)) rfl
theorem dl_1032 : decode code 1032 = .ok (.aload_n 0, 1) := ld lc16 6 (en := (1032, .aload_n 0, 1)) rfl
theorem dl_1033 : decode code 1033 = .ok (.iload_n 3, 1) := ld lc16 7 (en := (1033, .iload_n 3, 1)) rfl
theorem dl_1034 : decode code 1034 = .ok (.iconst 2, 1) := ld lc16 8 (en := (1034, .iconst 2, 1)) rfl
theorem dl_1035 : decode code 1035 = .ok (.iadd, 1) := ld lc16 9 (en := (1035, .iadd, 1)) rfl
theorem dl_1036 : decode code 1036 = .ok (.iaload, 1) := ld lc16 10 (en := (1036, .iaload, 1)) rfl
theorem dl_1037 : decode code 1037 = .ok (.ifCond .eq 7, 3) := ld lc16 11 (en := (1037, .ifCond .eq 7, 3)) rfl
theorem dl_1040 : decode code 1040 = .ok (.iconst 1, 1) := ld lc16 12 (en := (1040, .iconst 1, 1)) rfl
theorem dl_1041 : decode code 1041 = .ok (.goto 4, 3) := ld lc16 13 (en := (1041, .goto 4, 3)) rfl
theorem dl_1044 : decode code 1044 = .ok (.iconst 0, 1) := ld lc16 14 (en := (1044, .iconst 0, 1)) rfl
theorem dl_1045 : decode code 1045 = .ok (.invokevirtual 136, 3) := ld lc16 15 (en := (1045, .invokevirtual 136, 3)) rfl
theorem dl_1048 : decode code 1048 = .ok (.if_icmp .eq 143, 3) := ld lc16 16 (en := (1048, .if_icmp .eq 143, 3)) rfl
theorem dl_1051 : decode code 1051 = .ok (.iconst 0, 1) := ld lc16 17 (en := (1051, .iconst 0, 1)) rfl
theorem dl_1052 : decode code 1052 = .ok (.ireturn, 1) := ld lc16 18 (en := (1052, .ireturn, 1)) rfl
theorem dl_1053 : decode code 1053 = .ok (.aload_n 1, 1) := ld lc16 19 (en := (1053, .aload_n 1, 1)) rfl
theorem dl_1054 : decode code 1054 = .ok (.invokevirtual 137, 3) := ld lc16 20 (en := (1054, .invokevirtual 137, 3)) rfl
theorem dl_1057 : decode code 1057 = .ok (.aload_n 2, 1) := ld lc16 21 (en := (1057, .aload_n 2, 1)) rfl
theorem dl_1058 : decode code 1058 = .ok (.invokevirtual 140, 3) := ld lc16 22 (en := (1058, .invokevirtual 140, 3)) rfl
theorem dl_1061 : decode code 1061 = .ok (.if_icmp .eq 130, 3) := ld lc16 23 (en := (1061, .if_icmp .eq 130, 3)) rfl
theorem dl_1064 : decode code 1064 = .ok (.iconst 0, 1) := ld lc16 24 (en := (1064, .iconst 0, 1)) rfl
theorem dl_1065 : decode code 1065 = .ok (.ireturn, 1) := ld lc16 25 (en := (1065, .ireturn, 1)) rfl
theorem dl_1066 : decode code 1066 = .ok (.aload_n 1, 1) := ld lc16 26 (en := (1066, .aload_n 1, 1)) rfl
theorem dl_1067 : decode code 1067 = .ok (.aload_n 0, 1) := ld lc16 27 (en := (1067, .aload_n 0, 1)) rfl
theorem dl_1068 : decode code 1068 = .ok (.iload_n 3, 1) := ld lc16 28 (en := (1068, .iload_n 3, 1)) rfl
theorem dl_1069 : decode code 1069 = .ok (.iconst 1, 1) := ld lc16 29 (en := (1069, .iconst 1, 1)) rfl
theorem dl_1070 : decode code 1070 = .ok (.iadd, 1) := ld lc16 30 (en := (1070, .iadd, 1)) rfl
theorem dl_1071 : decode code 1071 = .ok (.iaload, 1) := ld lc16 31 (en := (1071, .iaload, 1)) rfl
theorem dl_1072 : decode code 1072 = .ok (.aload_n 0, 1) := ld lc16 32 (en := (1072, .aload_n 0, 1)) rfl
theorem dl_1073 : decode code 1073 = .ok (.iload_n 3, 1) := ld lc16 33 (en := (1073, .iload_n 3, 1)) rfl
theorem dl_1074 : decode code 1074 = .ok (.iconst 2, 1) := ld lc16 34 (en := (1074, .iconst 2, 1)) rfl
theorem dl_1075 : decode code 1075 = .ok (.iadd, 1) := ld lc16 35 (en := (1075, .iadd, 1)) rfl
theorem dl_1076 : decode code 1076 = .ok (.iaload, 1) := ld lc16 36 (en := (1076, .iaload, 1)) rfl
theorem dl_1077 : decode code 1077 = .ok (.invokevirtual 141, 3) := ld lc16 37 (en := (1077, .invokevirtual 141, 3)) rfl
theorem dl_1080 : decode code 1080 = .ok (.aload_n 2, 1) := ld lc16 38 (en := (1080, .aload_n 2, 1)) rfl
theorem dl_1081 : decode code 1081 = .ok (.aload_n 0, 1) := ld lc16 39 (en := (1081, .aload_n 0, 1)) rfl
theorem dl_1082 : decode code 1082 = .ok (.iload_n 3, 1) := ld lc16 40 (en := (1082, .iload_n 3, 1)) rfl
theorem dl_1083 : decode code 1083 = .ok (.iconst 1, 1) := ld lc16 41 (en := (1083, .iconst 1, 1)) rfl
theorem dl_1084 : decode code 1084 = .ok (.iadd, 1) := ld lc16 42 (en := (1084, .iadd, 1)) rfl
theorem dl_1085 : decode code 1085 = .ok (.iaload, 1) := ld lc16 43 (en := (1085, .iaload, 1)) rfl
theorem dl_1086 : decode code 1086 = .ok (.aload_n 0, 1) := ld lc16 44 (en := (1086, .aload_n 0, 1)) rfl
theorem dl_1087 : decode code 1087 = .ok (.iload_n 3, 1) := ld lc16 45 (en := (1087, .iload_n 3, 1)) rfl
theorem dl_1088 : decode code 1088 = .ok (.iconst 2, 1) := ld lc17 0 (en := (1088, .iconst 2, 1)) rfl
theorem dl_1089 : decode code 1089 = .ok (.iadd, 1) := ld lc17 1 (en := (1089, .iadd, 1)) rfl
theorem dl_1090 : decode code 1090 = .ok (.iaload, 1) := ld lc17 2 (en := (1090, .iaload, 1)) rfl
theorem dl_1091 : decode code 1091 = .ok (.invokevirtual 144, 3) := ld lc17 3 (en := (1091, .invokevirtual 144, 3)) rfl
theorem dl_1094 : decode code 1094 = .ok (.if_icmp .eq 97, 3) := ld lc17 4 (en := (1094, .if_icmp .eq 97, 3)) rfl
theorem dl_1097 : decode code 1097 = .ok (.iconst 0, 1) := ld lc17 5 (en := (1097, .iconst 0, 1)) rfl
theorem dl_1098 : decode code 1098 = .ok (.ireturn, 1) := ld lc17 6 (en := (1098, .ireturn, 1)) rfl
theorem dl_1099 : decode code 1099 = .ok (.aload_n 1, 1) := ld lc17 7 (en := (1099, .aload_n 1, 1)) rfl
theorem dl_1100 : decode code 1100 = .ok (.aload_n 0, 1) := ld lc17 8 (en := (1100, .aload_n 0, 1)) rfl
theorem dl_1101 : decode code 1101 = .ok (.iload_n 3, 1) := ld lc17 9 (en := (1101, .iload_n 3, 1)) rfl
theorem dl_1102 : decode code 1102 = .ok (.iconst 1, 1) := ld lc17 10 (en := (1102, .iconst 1, 1)) rfl
theorem dl_1103 : decode code 1103 = .ok (.iadd, 1) := ld lc17 11 (en := (1103, .iadd, 1)) rfl
theorem dl_1104 : decode code 1104 = .ok (.iaload, 1) := ld lc17 12 (en := (1104, .iaload, 1)) rfl
theorem dl_1105 : decode code 1105 = .ok (.invokevirtual 145, 3) := ld lc17 13 (en := (1105, .invokevirtual 145, 3)) rfl
theorem dl_1108 : decode code 1108 = .ok (.aload_n 2, 1) := ld lc17 14 (en := (1108, .aload_n 2, 1)) rfl
theorem dl_1109 : decode code 1109 = .ok (.aload_n 0, 1) := ld lc17 15 (en := (1109, .aload_n 0, 1)) rfl
theorem dl_1110 : decode code 1110 = .ok (.iload_n 3, 1) := ld lc17 16 (en := (1110, .iload_n 3, 1)) rfl
theorem dl_1111 : decode code 1111 = .ok (.iconst 1, 1) := ld lc17 17 (en := (1111, .iconst 1, 1)) rfl
theorem dl_1112 : decode code 1112 = .ok (.iadd, 1) := ld lc17 18 (en := (1112, .iadd, 1)) rfl
theorem dl_1113 : decode code 1113 = .ok (.iaload, 1) := ld lc17 19 (en := (1113, .iaload, 1)) rfl
theorem dl_1114 : decode code 1114 = .ok (.invokevirtual 148, 3) := ld lc17 20 (en := (1114, .invokevirtual 148, 3)) rfl
theorem dl_1117 : decode code 1117 = .ok (.if_icmp .eq 74, 3) := ld lc17 21 (en := (1117, .if_icmp .eq 74, 3)) rfl
theorem dl_1120 : decode code 1120 = .ok (.iconst 0, 1) := ld lc17 22 (en := (1120, .iconst 0, 1)) rfl
theorem dl_1121 : decode code 1121 = .ok (.ireturn, 1) := ld lc17 23 (en := (1121, .ireturn, 1)) rfl
theorem dl_1122 : decode code 1122 = .ok (.aload_n 1, 1) := ld lc17 24 (en := (1122, .aload_n 1, 1)) rfl
theorem dl_1123 : decode code 1123 = .ok (.aload_n 0, 1) := ld lc17 25 (en := (1123, .aload_n 0, 1)) rfl
theorem dl_1124 : decode code 1124 = .ok (.iload_n 3, 1) := ld lc17 26 (en := (1124, .iload_n 3, 1)) rfl
theorem dl_1125 : decode code 1125 = .ok (.iconst 1, 1) := ld lc17 27 (en := (1125, .iconst 1, 1)) rfl
theorem dl_1126 : decode code 1126 = .ok (.iadd, 1) := ld lc17 28 (en := (1126, .iadd, 1)) rfl
theorem dl_1127 : decode code 1127 = .ok (.iaload, 1) := ld lc17 29 (en := (1127, .iaload, 1)) rfl
theorem dl_1128 : decode code 1128 = .ok (.invokevirtual 149, 3) := ld lc17 30 (en := (1128, .invokevirtual 149, 3)) rfl
theorem dl_1131 : decode code 1131 = .ok (.aload_n 2, 1) := ld lc17 31 (en := (1131, .aload_n 2, 1)) rfl
theorem dl_1132 : decode code 1132 = .ok (.aload_n 0, 1) := ld lc17 32 (en := (1132, .aload_n 0, 1)) rfl
theorem dl_1133 : decode code 1133 = .ok (.iload_n 3, 1) := ld lc17 33 (en := (1133, .iload_n 3, 1)) rfl
theorem dl_1134 : decode code 1134 = .ok (.iconst 1, 1) := ld lc17 34 (en := (1134, .iconst 1, 1)) rfl
theorem dl_1135 : decode code 1135 = .ok (.iadd, 1) := ld lc17 35 (en := (1135, .iadd, 1)) rfl
theorem dl_1136 : decode code 1136 = .ok (.iaload, 1) := ld lc17 36 (en := (1136, .iaload, 1)) rfl
theorem dl_1137 : decode code 1137 = .ok (.invokevirtual 153, 3) := ld lc17 37 (en := (1137, .invokevirtual 153, 3)) rfl
theorem dl_1140 : decode code 1140 = .ok (.if_icmp .eq 51, 3) := ld lc17 38 (en := (1140, .if_icmp .eq 51, 3)) rfl
theorem dl_1143 : decode code 1143 = .ok (.iconst 0, 1) := ld lc17 39 (en := (1143, .iconst 0, 1)) rfl
theorem dl_1144 : decode code 1144 = .ok (.ireturn, 1) := ld lc17 40 (en := (1144, .ireturn, 1)) rfl
theorem dl_1145 : decode code 1145 = .ok (.aload_n 1, 1) := ld lc17 41 (en := (1145, .aload_n 1, 1)) rfl
theorem dl_1146 : decode code 1146 = .ok (.aload_n 0, 1) := ld lc17 42 (en := (1146, .aload_n 0, 1)) rfl
theorem dl_1147 : decode code 1147 = .ok (.iload_n 3, 1) := ld lc17 43 (en := (1147, .iload_n 3, 1)) rfl
theorem dl_1148 : decode code 1148 = .ok (.iconst 1, 1) := ld lc17 44 (en := (1148, .iconst 1, 1)) rfl
theorem dl_1149 : decode code 1149 = .ok (.iadd, 1) := ld lc17 45 (en := (1149, .iadd, 1)) rfl
theorem dl_1150 : decode code 1150 = .ok (.iaload, 1) := ld lc17 46 (en := (1150, .iaload, 1)) rfl
theorem dl_1151 : decode code 1151 = .ok (.invokevirtual 154, 3) := ld lc17 47 (en := (1151, .invokevirtual 154, 3)) rfl
theorem dl_1154 : decode code 1154 = .ok (.aload_n 2, 1) := ld lc18 0 (en := (1154, .aload_n 2, 1)) rfl
theorem dl_1155 : decode code 1155 = .ok (.aload_n 0, 1) := ld lc18 1 (en := (1155, .aload_n 0, 1)) rfl
theorem dl_1156 : decode code 1156 = .ok (.iload_n 3, 1) := ld lc18 2 (en := (1156, .iload_n 3, 1)) rfl
theorem dl_1157 : decode code 1157 = .ok (.iconst 1, 1) := ld lc18 3 (en := (1157, .iconst 1, 1)) rfl
theorem dl_1158 : decode code 1158 = .ok (.iadd, 1) := ld lc18 4 (en := (1158, .iadd, 1)) rfl
theorem dl_1159 : decode code 1159 = .ok (.iaload, 1) := ld lc18 5 (en := (1159, .iaload, 1)) rfl
theorem dl_1160 : decode code 1160 = .ok (.invokevirtual 157, 3) := ld lc18 6 (en := (1160, .invokevirtual 157, 3)) rfl
theorem dl_1163 : decode code 1163 = .ok (.if_icmp .eq 28, 3) := ld lc18 7 (en := (1163, .if_icmp .eq 28, 3)) rfl
theorem dl_1166 : decode code 1166 = .ok (.iconst 0, 1) := ld lc18 8 (en := (1166, .iconst 0, 1)) rfl
theorem dl_1167 : decode code 1167 = .ok (.ireturn, 1) := ld lc18 9 (en := (1167, .ireturn, 1)) rfl
theorem dl_1168 : decode code 1168 = .ok (.aload_n 1, 1) := ld lc18 10 (en := (1168, .aload_n 1, 1)) rfl
theorem dl_1169 : decode code 1169 = .ok (.aload_n 0, 1) := ld lc18 11 (en := (1169, .aload_n 0, 1)) rfl
theorem dl_1170 : decode code 1170 = .ok (.iload_n 3, 1) := ld lc18 12 (en := (1170, .iload_n 3, 1)) rfl
theorem dl_1171 : decode code 1171 = .ok (.iconst 1, 1) := ld lc18 13 (en := (1171, .iconst 1, 1)) rfl
theorem dl_1172 : decode code 1172 = .ok (.iadd, 1) := ld lc18 14 (en := (1172, .iadd, 1)) rfl
theorem dl_1173 : decode code 1173 = .ok (.iaload, 1) := ld lc18 15 (en := (1173, .iaload, 1)) rfl
theorem dl_1174 : decode code 1174 = .ok (.invokevirtual 158, 3) := ld lc18 16 (en := (1174, .invokevirtual 158, 3)) rfl
theorem dl_1177 : decode code 1177 = .ok (.aload_n 2, 1) := ld lc18 17 (en := (1177, .aload_n 2, 1)) rfl
theorem dl_1178 : decode code 1178 = .ok (.aload_n 0, 1) := ld lc18 18 (en := (1178, .aload_n 0, 1)) rfl
theorem dl_1179 : decode code 1179 = .ok (.iload_n 3, 1) := ld lc18 19 (en := (1179, .iload_n 3, 1)) rfl
theorem dl_1180 : decode code 1180 = .ok (.iconst 1, 1) := ld lc18 20 (en := (1180, .iconst 1, 1)) rfl
theorem dl_1181 : decode code 1181 = .ok (.iadd, 1) := ld lc18 21 (en := (1181, .iadd, 1)) rfl
theorem dl_1182 : decode code 1182 = .ok (.iaload, 1) := ld lc18 22 (en := (1182, .iaload, 1)) rfl
theorem dl_1183 : decode code 1183 = .ok (.invokevirtual 161, 3) := ld lc18 23 (en := (1183, .invokevirtual 161, 3)) rfl
theorem dl_1186 : decode code 1186 = .ok (.if_icmp .eq 5, 3) := ld lc18 24 (en := (1186, .if_icmp .eq 5, 3)) rfl
theorem dl_1189 : decode code 1189 = .ok (.iconst 0, 1) := ld lc18 25 (en := (1189, .iconst 0, 1)) rfl
theorem dl_1190 : decode code 1190 = .ok (.ireturn, 1) := ld lc18 26 (en := (1190, .ireturn, 1)) rfl
theorem dl_1191 : decode code 1191 = .ok (.iinc 3 6, 3) := ld lc18 27 (en := (1191, .iinc 3 6, 3)) rfl
theorem dl_1194 : decode code 1194 = .ok (.goto (-1176), 3) := ld lc18 28 (en := (1194, .goto (-1176), 3)) rfl
theorem dl_1197 : decode code 1197 = .ok (.iconst 1, 1) := ld lc18 29 (en := (1197, .iconst 1, 1)) rfl
theorem dl_1198 : decode code 1198 = .ok (.ireturn, 1) := ld lc18 30 (en := (1198, .ireturn, 1)) rfl
end
section
/-! THE CLAIM OUT OF ONE WALK OF THE LAW'S BODY. Your part is whole_start (and what it stands on); all else here is the same for every law, but numbers. -/
def R_law : String := "FuseTreatyLaw"
def lw_P (b : Addr) (xs : List Int32) (args : Array Value) (s : State) : Prop := args = #[.ref b] ∧ s.IntsAt b xs ∧ xs.length ≤ 6 ∧ (Jvm.Cond.and given_1 narrow_1).before args s = true
def lw_Q (_ : Array Value) (s : State) (o : Outcome) (t : State) : Prop := o = .returned (some (.int 1)) ∧ Framed s o t [] 600000 7302250
def lw_Z (below : List Frame) (a : Array Value) (s : State) : State → Prop := fun t => ∃ o, t.status = .running ∧ Ended t below o ∧ lw_Q a s o t
/-- the law's own end, with 1 on the stack, nothing written that was there before, its room as the claim has it -/
theorem lw_ret {p : Program} {l : Launch} {e : Env} {s : State} {m : MethodId} {below : List Frame} {meth : Method} {c : Code} {b : Nat} (hx : p.tables.exec = Jvm.exec) (hb : c.code = code) (hr : meth.sig.returnType = ret) (hlocks : meth.locks = false) {pc : Nat} {H : Heap} {ls : Array Slot} (hdg : decode code pc = .ok (.ireturn, 1)) : W p l e room_1 s m #[Value.ref b] below meth c H [] 600000 7302250 (lw_Z below #[Value.ref b] s) (F0 m pc ls [.int 1]) := by
  intro T hT X
  obtain ⟨fs, hret, hrun, hended, hW, hframe⟩ := X.leave (v := some (.int 1)) (hlocks := hlocks) (fun h => by rw [hr] at h; cases h)
  have hmeth' : T.vm.method? m = some meth := X.method'
  refine ⟨T.setFrames fs, ?_, .returned (some (.int 1)), hrun, hended, rfl, ⟨_, rfl⟩, hW, hframe⟩
  jvm_step X.here [X.here.top, hx, hb, hdg, hmeth', hr, ret, narrow_b1]
  (try refine ⟨rfl, ?_⟩); (try refine ⟨rfl, ?_⟩)
  first | (intro acts; rw [hret _ acts rfl rfl rfl]) | rw [hret _ _ rfl rfl rfl]
  exact Steps.refl _
/-- what holds at the law's entry: the machine, the code, the tables' words (any of lw_tbl by 'hts w (by decide +kernel)'), the script of L ints xs at the cell b, what the Statement gives of the start (any of its parts by flat_of_before) -/
def lw_At (p : Program) (s : State) (m : MethodId) (meth : Method) (c : Code) (b L : Nat) (xs : Nat → Int32) : Prop :=
  p.tables.exec = Jvm.exec ∧ c.code = code ∧ meth.sig.returnType = ret ∧ c.maxLocals = 4 ∧ s.vm.findClass R_law = some m.cls ∧ (∀ w ∈ lw_tbl, w.before #[Value.ref b] s = true) ∧ va_X b L xs s s.heap ∧ b < s.heap.size ∧ meth.locks = false ∧ (Jvm.Cond.and given_1 narrow_1).before #[Value.ref b] s = true
section LAW
variable {p : Program} {l : Launch} {e : Env} {s : State} {m : MethodId} {below : List Frame} {meth : Method} {c : Code} {b : Nat} {xs : Nat → Int32} {adK adV : Nat → Nat} {D : va_G}
/-- the law's own: the machine, the code, the words, the script of six ints, what lies outside -/
def lX (p : Program) (s : State) (m : MethodId) (meth : Method) (c : Code) (b : Nat) (xs : Nat → Int32) (adK adV : Nat → Nat) : Prop := lw_At p s m meth c b 6 xs ∧ eXt tNs s ∧ tFz adK adV (fun q => s.heap.size ≤ q) s s.heap
/-- the world between calls -/
def lWd (D : va_G) (s : State) (σ : Nat → Int) (h : eH) (H : Heap) (locs : List Loc) (ws : va_W) (tys : List (ClassId × FieldType)) : Prop := va_K D tCl tys s ∧ va_P D tCl ws H ∧ va_D (fun q => s.heap.size ≤ q) ws ∧ va_S (fun q => s.heap.size ≤ q) s.heap H locs ∧ eAll (eCk (ws.map Prod.fst) σ tys) h ws
theorem lgt {s : State} {args : Array Value} (h : ∀ w ∈ lw_tbl, w.before args s = true) : ∀ w ∈ lw_g, w.before args s = true := fun w hw => h w (List.mem_filter.mp hw).1
theorem law_arg {H : Heap} {locs : List Loc} {cs sl pc k : Nat} {ls : Array Slot} {rest : List Value} {ax am : Nat} {Q : State → Prop} (C0 : lX p s m meth c b xs adK adV) (hS : va_S (fun q => s.heap.size ≤ q) s.heap H locs) (hl : lv_has ls 4 [(0, .ref b), (1, .ref ax), (2, .ref am), (3, .int 0)]) (hk : k < 6) (d1 : decode code pc = .ok (.aload_n 0, 1)) (d2 : decode code (pc + 1) = .ok (.iload_n 3, 1)) (d3 : decode code (pc + 2) = .ok (.iconst (k : Int), 1)) (d4 : decode code (pc + 3) = .ok (.iadd, 1)) (d5 : decode code (pc + 4) = .ok (.iaload, 1))
    (kk : W p l e room_1 s m #[Value.ref b] below meth c H locs cs sl Q (F0 m (pc + 5) ls (.int (xs k) :: rest))) : W p l e room_1 s m #[Value.ref b] below meth c H locs cs sl Q (F0 m pc ls rest) := by
  obtain ⟨⟨hx, hb, hr, hml, hown, hts, hX, hbl, hlocks, hgv⟩, hXt, hFz⟩ := C0
  have hbA : ¬ (fun q : Nat => s.heap.size ≤ q) b := Nat.not_le.mpr hbl
  refine lv_aload_n hx hb d1 rfl (lv_at hl 0 rfl) ?_
  refine lv_iload_n hx hb d2 rfl (lv_at hl 3 rfl) ?_
  refine lv_iconst hx hb d3 rfl ?_
  refine lv_iadd hx hb d4 ?_
  have e1 : ∀ k : Nat, k < 6 → (((0 : Int32) + Int32.ofInt (k : Int)).toNatClampNeg = k ∧ 0 ≤ ((0 : Int32) + Int32.ofInt (k : Int)).toInt ∧ ((0 : Int32) + Int32.ofInt (k : Int)).toInt < ((6 : Nat) : Int)) := by decide
  obtain ⟨e2, e3, e4⟩ := e1 k hk
  refine va_sld hx hb hX hbl hbA hS (vp_in_iff.mpr ⟨e3, e4⟩) d5 ?_
  rw [e2]
  exact kk
theorem law_call {sr : List (Int × Int)} {σ : Nat → Int} {H : Heap} {locs : List Loc} {ws : va_W} {tys : List (ClassId × FieldType)} {ls : Array Slot} {h : eH} {cs sl pc idx k a bm d0 : Nat} {as : List eV} {vs rest : List Value} {os : List (Option eV × eH)} {N : eM} {Y : eY} {T : u_T} {NN : Nat} {Q : State → Prop} (C0 : lX p s m meth c b xs adK adV) (hs : eSg sr σ) (hW : lWd D s σ h H locs ws tys) (hsz : ls.size = 4) (hcon : eCon (tFz adK adV) l tCl lw_g tNs sr tMs tYs 600 bm (.inr (.inl (some k)) :: as) h os) (hN : tMs[bm]? = some N) (hY : tYs[bm]? = some Y) (hn0 : N.2.2.1 = 0) (hn1 : N.2.2.2.1 = 0) (hnp : vs.length = N.2.2.2.2.2)
    (w1 : Cond.methodLink R_law idx Y.1 ∈ lw_g) (w2 : Cond.instanceMethod Y.1 ∈ lw_g) (w3 : Cond.selects Y.1.cls Y.1 Y.1 ∈ lw_g) (hcl : tCl[d0]? = some (Y.1.cls, T, NN)) (hrcv : eRcv h 0 d0 (.inr (.inl (some k)) :: as) = true) (ha : (ws.map Prod.fst)[k]? = some a) (has : eAll (eOk (ws.map Prod.fst) σ) as vs) (hcr : (rest.map fun v => v.category).sum ≤ 8) (hcs : cs ≤ 600000) (hsl : sl ≤ 7302250) (hdg : decode code pc = .ok (.invokevirtual idx, 3))
    (kk : ∀ o ∈ os, ∀ (w : Option Value) (H1 : Heap) (locs1 : List Loc) (ws' : va_W) (tys' : List (ClassId × FieldType)), eOv (ws'.map Prod.fst) σ o.1 w → (∃ t, ws'.map Prod.fst = ws.map Prod.fst ++ t) → lWd D s σ o.2 H1 locs1 ws' tys' → W p l e room_1 s m #[Value.ref b] below meth c H1 locs1 cs sl Q (F0 m (pc + 3) ls (w.toList ++ rest))) : W p l e room_1 s m #[Value.ref b] below meth c H locs cs sl Q (F0 m pc ls (vs.reverse ++ .ref a :: rest)) := by
  obtain ⟨⟨hx, hb, hr, hml, hown, hts0, hX, hbl, hlocks, hgv⟩, hXt, hFz⟩ := C0
  have hts := lgt hts0
  obtain ⟨hK, hP, hD, hS, hh⟩ := hW
  have hok : eMok tCl lw_g tNs tMs tYs N Y := by
    obtain ⟨Y', g1, g2⟩ := eAll_get tOk hN
    have e1 := Option.some.inj (g1.symm.trans hY)
    subst e1
    exact g2
  obtain ⟨-, hcode, hini, -, hdd, hnl, -⟩ := hok
  have hA1 : ∀ q, va_A ws H.size q → s.heap.size ≤ q := by
    intro q hq
    rcases hq with ⟨k, e9, hk⟩ | hq
    · exact hD.2 k (q, e9) hk
    · exact Nat.le_trans hS.1 hq
  have hM := hcon N Y hN hY D σ ws tys (.ref a :: vs) H.size hs hh ⟨⟨a, ha, rfl⟩, has⟩
  have hPre : ∀ U : State, U.heap = H → s.WarmedH U.vm → ePc (tFz adK adV) tCl tNs D ws tys (.ref a :: vs) H.size (Value.ref a :: vs).toArray U := fun U hU hW => ⟨rfl, by rw [hU], by rw [hU]; exact hP, va_K.moved hW.alike hK, hD.weaken (fun _ _ _ _ => trivial), hXt.warm hW, by rw [hU]; exact (tFzOk adK adV).1 _ _ s U s.heap H hFz hW hS.2.1 hA1⟩
  unfold eRcv at hrcv
  simp only at hrcv
  split at hrcv
  · rename_i o ho
    have e0 := Nat.eq_of_beq_eq_true hrcv
    obtain ⟨⟨q, e9⟩, he, fs, hf, -⟩ := eAll_get hh ho
    have hf : e9 = .inr (o.1, fs) := hf
    subst hf
    have e1 := eAd_at he ha
    subst e1
    rw [e0] at he
    have hrun := va_runV (R := room_1) (p := p) (e := e) (below := below) (meth := meth) (locs := locs) (cells := cs) (slots := sl) (g := F0 m pc ls (vs.reverse ++ .ref a :: rest)) (As := vs) (rest := rest) ⟨hx, hb, hml, hown, hts⟩ hM ⟨callB_of _ hts (jG hcode) rfl rfl rfl (hts _ hini) (hts _ w1) hdd ⟨by show 600 + 1 ≤ 2048; omega, by show 8 + (N.2.1 + 11) + 128 * 600 ≤ 84000; omega⟩, hts _ w2, hts _ w3⟩ ⟨ePc_blind (tFzOk adK adV), va_recv hK hP hcl he, hPre⟩ rfl hnp hsz rfl (by show 2 * 0 + _ ≤ 8; omega) hdg ⟨by rw [hn0]; exact hcs, by rw [hn1]; exact hsl⟩
    rw [hn0, hn1] at hrun
    exact eBack hrun hS hA1 (fun o ho w ws' tys' H1 locs1 hov hpre' hh' hP' hK' hD' hS' => kk o ho w H1 locs1 ws' tys' hov hpre' ⟨hK', hP', hD', hS', hh'⟩)
  · cases hrcv
/-- the law's end -/
theorem law_end {H : Heap} {locs : List Loc} {cs sl : Nat} {ls : Array Slot} {ax am : Nat} (C0 : lX p s m meth c b xs adK adV) (hS : va_S (fun q => s.heap.size ≤ q) s.heap H locs) (hl : lv_has ls 4 [(0, .ref b), (1, .ref ax), (2, .ref am), (3, .int 0)]) (hcs : cs ≤ 600000) (hsl : sl ≤ 7302250) : W p l e room_1 s m #[Value.ref b] below meth c H locs cs sl (lw_Z below #[Value.ref b] s) (F0 m 1191 ls []) := by
  obtain ⟨⟨hx, hb, hr, hml, hown, hts, hX, hbl, hlocks, hgv⟩, hXt, hFz⟩ := C0
  have hbA : ¬ (fun q : Nat => s.heap.size ≤ q) b := Nat.not_le.mpr hbl
  refine lv_iinc (v := 6) (lv' := [(3, .int 6), (0, .ref b), (1, .ref ax), (2, .ref am)]) hx hb dl_1191 hl (k := 3) rfl (by decide) (by decide) rfl (fun ls hl => ?_)
  refine lv_goto (tgt := 18) hx hb dl_1194 (by decide) ?_
  refine lv_iload_n hx hb dl_18 rfl (lv_at hl 0 rfl) ?_
  refine lv_aload_n hx hb dl_19 rfl (lv_at hl 1 rfl) ?_
  refine va_slen hx hb hX hbl hbA hS dl_20 ?_
  refine lv_bipush (v := 6) hx hb dl_21 (by decide) ?_
  refine lv_isub hx hb dl_23 ?_
  refine lv_icmp_gt (tgt := 1197) hx hb dl_24 (by decide) (fun _ => ?_) (fun q => absurd (by decide) q)
  refine lv_iconst (v := 1) hx hb dl_1197 (by decide) ?_
  refine va_forget hS.2.2 (W.widen hcs hsl ?_)
  exact lw_ret hx hb hr hlocks dl_1198
/-- two answers are one -/
def eSm (v w : Option eV) : Bool := match v, w with
  | some (.inl p), some (.inl q) => Nat.beq p.1 q.1 && eLe p.2.2 p.2.1 && eLe q.2.2 q.2.1 && eLe p.2.1 q.2.1 && eLe q.2.1 p.2.1
  | _, _ => false
theorem eSm_ok {ad ad' : List Nat} {σ : Nat → Int} {v w : Option eV} {x y : Option Value} (h : eSm v w = true) (hx : eOv ad σ v x) (hy : eOv ad' σ w y) : ∃ z : Int32, x = some (.int z) ∧ y = some (.int z) := by
  unfold eSm at h
  split at h
  · rename_i p q
    simp only [Bool.and_eq_true] at h
    obtain ⟨⟨⟨⟨h1, h2⟩, h3⟩, h4⟩, h5⟩ := h
    have h1 := Nat.eq_of_beq_eq_true h1
    have h2 := eLe_ok h2
    have h3 := eLe_ok h3
    have h4 := eLe_ok h4
    have h5 := eLe_ok h5
    cases x with
    | none => exact hx.elim
    | some x =>
      cases y with
      | none => exact hy.elim
      | some y =>
        obtain ⟨x, rfl, a1, a2⟩ := hx
        obtain ⟨y, rfl, b1, b2⟩ := hy
        rw [h1] at a1 a2
        have e1 : x = y := Int32.toInt_inj.mp (by omega)
        subst e1
        exact ⟨x, rfl, rfl⟩
  · cases h
/-- a pair of calls that answer alike -/
def tPair (sr : List (Int × Int)) (ox om : Nat → Nat → List eV → eH → Option (List (Option eV × eH))) (bx bm : Nat) (as : List eV) : Bool := match tCall sr ox 600 bx (.inr (.inl (some 0)) :: as) hFresh with
  | some os => os.all (fun o => eRcv o.2 0 12 (.inr (.inl (some 70)) :: as) && (match tCall sr om 600 bm (.inr (.inl (some 70)) :: as) o.2 with
    | some os2 => os2.all (fun o2 => eSm o.1 o2.1)
    | none => false))
  | none => false
def PairOk (adK adV : Nat → Nat) (l : Launch) (sr : List (Int × Int)) (bx bm : Nat) (as : List eV) : Prop := ∃ os, eCon (tFz adK adV) l tCl lw_g tNs sr tMs tYs 600 bx (.inr (.inl (some 0)) :: as) hFresh os ∧ ∀ o ∈ os, eRcv o.2 0 12 (.inr (.inl (some 70)) :: as) = true ∧ ∃ os2, eCon (tFz adK adV) l tCl lw_g tNs sr tMs tYs 600 bm (.inr (.inl (some 70)) :: as) o.2 os2 ∧ ∀ o2 ∈ os2, eSm o.1 o2.1 = true
theorem tPair_ok {sr : List (Int × Int)} {ox om : Nat → Nat → List eV → eH → Option (List (Option eV × eH))} {bx bm : Nat} {as : List eV} (hox : ∀ (d b : Nat) (as : List eV) (h : eH) (os : List (Option eV × eH)), ox d b as h = some os → eCon (tFz adK adV) l tCl lw_g tNs sr tMs tYs d b as h os) (hom : ∀ (d b : Nat) (as : List eV) (h : eH) (os : List (Option eV × eH)), om d b as h = some os → eCon (tFz adK adV) l tCl lw_g tNs sr tMs tYs d b as h os) (h : tPair sr ox om bx bm as = true) : PairOk adK adV l sr bx bm as := by
  unfold tPair at h
  split at h
  · rename_i os hos
    refine ⟨os, tCall_ok hox hos, fun o ho => ?_⟩
    have h1 := List.all_eq_true.mp h o ho
    rw [Bool.and_eq_true] at h1
    refine ⟨h1.1, ?_⟩
    have h2 := h1.2
    split at h2
    · rename_i os2 hos2
      exact ⟨os2, tCall_ok hom hos2, fun o2 ho2 => List.all_eq_true.mp h2 o2 ho2⟩
    · cases h2
  · cases h
theorem tPair0 {sr : List (Int × Int)} {bx bm : Nat} {as : List eV} (h : tPair sr tNo tNo bx bm as = true) : PairOk adK adV l sr bx bm as := tPair_ok (fun _ _ _ _ _ h => by cases h) (fun _ _ _ _ _ h => by cases h) h
theorem hFresh_any : eLeH [(0, 0)] [(0, 0, 0)] hFresh hFresh = true := by decide +kernel
theorem lWd_any {σ τ : Nat → Int} {H : Heap} {locs : List Loc} {ws : va_W} {tys : List (ClassId × FieldType)} (hs : eSg [(0, 0)] σ) (h0 : τ 0 = 0) (h : lWd D s σ hFresh H locs ws tys) : lWd D s τ hFresh H locs ws tys := by
  obtain ⟨h1, h2, h3, h4, h5⟩ := h
  refine ⟨h1, h2, h3, h4, eLeH_ok hs h0 (fun q hq => ?_) hFresh_any h5⟩
  rw [List.mem_singleton] at hq
  subst hq
  show σ 0 = τ 0 + 0
  rw [hs.1, h0]
  rfl
end LAW
end
section
/-! THE LAW, a case each -/
section LWC
variable {p : Program} {l : Launch} {e : Env} {s : State} {m : MethodId} {below : List Frame} {meth : Method} {c : Code} {b : Nat} {xs : Nat → Int32} {adK adV : Nat → Nat} {D : va_G}
theorem lw_rest (w : Option Value) : ((w.toList ++ []).map fun v : Value => v.category).sum ≤ 8 := by
  cases w with
  | none => decide
  | some v =>
    have := lv_cat v
    simp
    omega
theorem lw_ad {ws ws' : va_W} {k a : Nat} (h : (ws.map Prod.fst)[k]? = some a) (hp : ∃ t, ws'.map Prod.fst = ws.map Prod.fst ++ t) : (ws'.map Prod.fst)[k]? = some a := by
  obtain ⟨t, ht⟩ := hp
  rw [ht, List.getElem?_append_left (List.getElem?_eq_some_iff.mp h).1]
  exact h
theorem law_feed {sr : List (Int × Int)} {σ : Nat → Int} (hs : eSg sr σ) {as : List eV} (hP : PairOk adK adV l sr 139 1 as) (C0 : lX p s m meth c b xs adK adV) {H : Heap} {locs : List Loc} {ws : va_W} {tys : List (ClassId × FieldType)} {ls : Array Slot} {ax am cs sl : Nat} (hW : lWd D s σ hFresh H locs ws tys) (hax : (ws.map Prod.fst)[0]? = some ax) (ham : (ws.map Prod.fst)[70]? = some am) (hl : lv_has ls 4 [(0, .ref b), (1, .ref ax), (2, .ref am), (3, .int 0)]) (hcs : cs ≤ 600000) (hsl : sl ≤ 7302250) (has : ∀ ad : List Nat, eAll (eOk ad σ) as [.int (xs 1), .int (xs 2), .int (xs 3), .int (xs 4), .int (xs 5)]) : W p l e room_1 s m #[Value.ref b] below meth c H locs cs sl (lw_Z below #[Value.ref b] s) (F0 m 188 ls []) := by
  obtain ⟨⟨hx, hb, -, -, -, -, -, -, -, -⟩, -, -⟩ := id C0
  obtain ⟨os, hc1, hc2⟩ := hP
  refine lv_aload_n hx hb dl_188 rfl (lv_at hl 1 rfl) ?_
  refine law_arg (k := 1) C0 hW.2.2.2.1 hl (by decide) dl_189 dl_190 dl_191 dl_192 dl_193 ?_
  refine law_arg (k := 2) C0 hW.2.2.2.1 hl (by decide) dl_194 dl_195 dl_196 dl_197 dl_198 ?_
  refine law_arg (k := 3) C0 hW.2.2.2.1 hl (by decide) dl_199 dl_200 dl_201 dl_202 dl_203 ?_
  refine law_arg (k := 4) C0 hW.2.2.2.1 hl (by decide) dl_204 dl_205 dl_206 dl_207 dl_208 ?_
  refine law_arg (k := 5) C0 hW.2.2.2.1 hl (by decide) dl_209 dl_210 dl_211 dl_212 dl_213 ?_
  refine law_call (N := tM139) (Y := tY139) (vs := [.int (xs 1), .int (xs 2), .int (xs 3), .int (xs 4), .int (xs 5)]) (rest := []) C0 hs hW hl.1 hc1 rfl rfl rfl rfl rfl (kIs_ok (c := 3067) (by decide +kernel)) (kIs_ok (c := 3068) (by decide +kernel)) (kIs_ok (c := 3069) (by decide +kernel)) (d0 := 11) rfl rfl hax (has _) (by decide) hcs hsl dl_214 (fun o ho w H1 locs1 ws1 tys1 hov hpre hW1 => ?_)
  obtain ⟨hr, os2, hc3, hsm⟩ := hc2 o ho
  refine lv_aload_n hx hb dl_217 rfl (lv_at hl 2 rfl) ?_
  refine law_arg (k := 1) C0 hW1.2.2.2.1 hl (by decide) dl_218 dl_219 dl_220 dl_221 dl_222 ?_
  refine law_arg (k := 2) C0 hW1.2.2.2.1 hl (by decide) dl_223 dl_224 dl_225 dl_226 dl_227 ?_
  refine law_arg (k := 3) C0 hW1.2.2.2.1 hl (by decide) dl_228 dl_229 dl_230 dl_231 dl_232 ?_
  refine law_arg (k := 4) C0 hW1.2.2.2.1 hl (by decide) dl_233 dl_234 dl_235 dl_236 dl_237 ?_
  refine law_arg (k := 5) C0 hW1.2.2.2.1 hl (by decide) dl_238 dl_239 dl_240 dl_241 dl_242 ?_
  refine law_call (N := tM1) (Y := tY1) (vs := [.int (xs 1), .int (xs 2), .int (xs 3), .int (xs 4), .int (xs 5)]) (rest := w.toList ++ []) C0 hs hW1 hl.1 hc3 rfl rfl rfl rfl rfl (kIs_ok (c := 6238) (by decide +kernel)) (kIs_ok (c := 6239) (by decide +kernel)) (kIs_ok (c := 7000) (by decide +kernel)) (d0 := 12) rfl hr (lw_ad ham hpre) (has _) (lw_rest w) hcs hsl dl_243 (fun o2 ho2 w2 H2 locs2 ws2 tys2 hov2 hpre2 hW2 => ?_)
  obtain ⟨z, rfl, rfl⟩ := eSm_ok (hsm o2 ho2) hov hov2
  exact lv_icmp_eq (tgt := 1191) hx hb dl_246 (by decide) (fun _ => law_end C0 hW2.2.2.2.1 hl hcs hsl) (fun q => absurd rfl q)
theorem law_back {sr : List (Int × Int)} {σ : Nat → Int} (hs : eSg sr σ) {as : List eV} (hP : PairOk adK adV l sr 141 3 as) (C0 : lX p s m meth c b xs adK adV) {H : Heap} {locs : List Loc} {ws : va_W} {tys : List (ClassId × FieldType)} {ls : Array Slot} {ax am cs sl : Nat} (hW : lWd D s σ hFresh H locs ws tys) (hax : (ws.map Prod.fst)[0]? = some ax) (ham : (ws.map Prod.fst)[70]? = some am) (hl : lv_has ls 4 [(0, .ref b), (1, .ref ax), (2, .ref am), (3, .int 0)]) (hcs : cs ≤ 600000) (hsl : sl ≤ 7302250) (has : ∀ ad : List Nat, eAll (eOk ad σ) as [.int (xs 1)]) : W p l e room_1 s m #[Value.ref b] below meth c H locs cs sl (lw_Z below #[Value.ref b] s) (F0 m 251 ls []) := by
  obtain ⟨⟨hx, hb, -, -, -, -, -, -, -, -⟩, -, -⟩ := id C0
  obtain ⟨os, hc1, hc2⟩ := hP
  refine lv_aload_n hx hb dl_251 rfl (lv_at hl 1 rfl) ?_
  refine law_arg (k := 1) C0 hW.2.2.2.1 hl (by decide) dl_252 dl_253 dl_254 dl_255 dl_256 ?_
  refine law_call (N := tM141) (Y := tY141) (vs := [.int (xs 1)]) (rest := []) C0 hs hW hl.1 hc1 rfl rfl rfl rfl rfl (kIs_ok (c := 3075) (by decide +kernel)) (kIs_ok (c := 3076) (by decide +kernel)) (kIs_ok (c := 3077) (by decide +kernel)) (d0 := 11) rfl rfl hax (has _) (by decide) hcs hsl dl_257 (fun o ho w H1 locs1 ws1 tys1 hov hpre hW1 => ?_)
  obtain ⟨hr, os2, hc3, hsm⟩ := hc2 o ho
  refine lv_aload_n hx hb dl_260 rfl (lv_at hl 2 rfl) ?_
  refine law_arg (k := 1) C0 hW1.2.2.2.1 hl (by decide) dl_261 dl_262 dl_263 dl_264 dl_265 ?_
  refine law_call (N := tM3) (Y := tY3) (vs := [.int (xs 1)]) (rest := w.toList ++ []) C0 hs hW1 hl.1 hc3 rfl rfl rfl rfl rfl (kIs_ok (c := 7006) (by decide +kernel)) (kIs_ok (c := 7007) (by decide +kernel)) (kIs_ok (c := 7008) (by decide +kernel)) (d0 := 12) rfl hr (lw_ad ham hpre) (has _) (lw_rest w) hcs hsl dl_266 (fun o2 ho2 w2 H2 locs2 ws2 tys2 hov2 hpre2 hW2 => ?_)
  obtain ⟨z, rfl, rfl⟩ := eSm_ok (hsm o2 ho2) hov hov2
  exact lv_icmp_eq (tgt := 1191) hx hb dl_269 (by decide) (fun _ => law_end C0 hW2.2.2.2.1 hl hcs hsl) (fun q => absurd rfl q)
theorem law_read {sr : List (Int × Int)} {σ : Nat → Int} (hs : eSg sr σ) {as : List eV} (hP : PairOk adK adV l sr 142 11 as) (C0 : lX p s m meth c b xs adK adV) {H : Heap} {locs : List Loc} {ws : va_W} {tys : List (ClassId × FieldType)} {ls : Array Slot} {ax am cs sl : Nat} (hW : lWd D s σ hFresh H locs ws tys) (hax : (ws.map Prod.fst)[0]? = some ax) (ham : (ws.map Prod.fst)[70]? = some am) (hl : lv_has ls 4 [(0, .ref b), (1, .ref ax), (2, .ref am), (3, .int 0)]) (hcs : cs ≤ 600000) (hsl : sl ≤ 7302250) (has : ∀ ad : List Nat, eAll (eOk ad σ) as []) : W p l e room_1 s m #[Value.ref b] below meth c H locs cs sl (lw_Z below #[Value.ref b] s) (F0 m 274 ls []) := by
  obtain ⟨⟨hx, hb, -, -, -, -, -, -, -, -⟩, -, -⟩ := id C0
  obtain ⟨os, hc1, hc2⟩ := hP
  refine lv_aload_n hx hb dl_274 rfl (lv_at hl 1 rfl) ?_
  refine law_call (N := tM142) (Y := tY142) (vs := []) (rest := []) C0 hs hW hl.1 hc1 rfl rfl rfl rfl rfl (kIs_ok (c := 3079) (by decide +kernel)) (kIs_ok (c := 3080) (by decide +kernel)) (kIs_ok (c := 3081) (by decide +kernel)) (d0 := 11) rfl rfl hax (has _) (by decide) hcs hsl dl_275 (fun o ho w H1 locs1 ws1 tys1 hov hpre hW1 => ?_)
  obtain ⟨hr, os2, hc3, hsm⟩ := hc2 o ho
  refine lv_aload_n hx hb dl_278 rfl (lv_at hl 2 rfl) ?_
  refine law_call (N := tM11) (Y := tY11) (vs := []) (rest := w.toList ++ []) C0 hs hW1 hl.1 hc3 rfl rfl rfl rfl rfl (kIs_ok (c := 7010) (by decide +kernel)) (kIs_ok (c := 7011) (by decide +kernel)) (kIs_ok (c := 7012) (by decide +kernel)) (d0 := 12) rfl hr (lw_ad ham hpre) (has _) (lw_rest w) hcs hsl dl_279 (fun o2 ho2 w2 H2 locs2 ws2 tys2 hov2 hpre2 hW2 => ?_)
  obtain ⟨z, rfl, rfl⟩ := eSm_ok (hsm o2 ho2) hov hov2
  exact lv_icmp_eq (tgt := 1191) hx hb dl_282 (by decide) (fun _ => law_end C0 hW2.2.2.2.1 hl hcs hsl) (fun q => absurd rfl q)
theorem law_place {sr : List (Int × Int)} {σ : Nat → Int} (hs : eSg sr σ) {as : List eV} (hP : PairOk adK adV l sr 143 12 as) (C0 : lX p s m meth c b xs adK adV) {H : Heap} {locs : List Loc} {ws : va_W} {tys : List (ClassId × FieldType)} {ls : Array Slot} {ax am cs sl : Nat} (hW : lWd D s σ hFresh H locs ws tys) (hax : (ws.map Prod.fst)[0]? = some ax) (ham : (ws.map Prod.fst)[70]? = some am) (hl : lv_has ls 4 [(0, .ref b), (1, .ref ax), (2, .ref am), (3, .int 0)]) (hcs : cs ≤ 600000) (hsl : sl ≤ 7302250) (has : ∀ ad : List Nat, eAll (eOk ad σ) as []) : W p l e room_1 s m #[Value.ref b] below meth c H locs cs sl (lw_Z below #[Value.ref b] s) (F0 m 287 ls []) := by
  obtain ⟨⟨hx, hb, -, -, -, -, -, -, -, -⟩, -, -⟩ := id C0
  obtain ⟨os, hc1, hc2⟩ := hP
  refine lv_aload_n hx hb dl_287 rfl (lv_at hl 1 rfl) ?_
  refine law_call (N := tM143) (Y := tY143) (vs := []) (rest := []) C0 hs hW hl.1 hc1 rfl rfl rfl rfl rfl (kIs_ok (c := 4061) (by decide +kernel)) (kIs_ok (c := 4062) (by decide +kernel)) (kIs_ok (c := 4063) (by decide +kernel)) (d0 := 11) rfl rfl hax (has _) (by decide) hcs hsl dl_288 (fun o ho w H1 locs1 ws1 tys1 hov hpre hW1 => ?_)
  obtain ⟨hr, os2, hc3, hsm⟩ := hc2 o ho
  refine lv_aload_n hx hb dl_291 rfl (lv_at hl 2 rfl) ?_
  refine law_call (N := tM12) (Y := tY12) (vs := []) (rest := w.toList ++ []) C0 hs hW1 hl.1 hc3 rfl rfl rfl rfl rfl (kIs_ok (c := 7116) (by decide +kernel)) (kIs_ok (c := 7117) (by decide +kernel)) (kIs_ok (c := 7118) (by decide +kernel)) (d0 := 12) rfl hr (lw_ad ham hpre) (has _) (lw_rest w) hcs hsl dl_292 (fun o2 ho2 w2 H2 locs2 ws2 tys2 hov2 hpre2 hW2 => ?_)
  obtain ⟨z, rfl, rfl⟩ := eSm_ok (hsm o2 ho2) hov hov2
  exact lv_icmp_eq (tgt := 1191) hx hb dl_295 (by decide) (fun _ => law_end C0 hW2.2.2.2.1 hl hcs hsl) (fun q => absurd rfl q)
theorem law_flat {sr : List (Int × Int)} {σ : Nat → Int} (hs : eSg sr σ) {as : List eV} (hP : PairOk adK adV l sr 147 33 as) (C0 : lX p s m meth c b xs adK adV) {H : Heap} {locs : List Loc} {ws : va_W} {tys : List (ClassId × FieldType)} {ls : Array Slot} {ax am cs sl : Nat} (hW : lWd D s σ hFresh H locs ws tys) (hax : (ws.map Prod.fst)[0]? = some ax) (ham : (ws.map Prod.fst)[70]? = some am) (hl : lv_has ls 4 [(0, .ref b), (1, .ref ax), (2, .ref am), (3, .int 0)]) (hcs : cs ≤ 600000) (hsl : sl ≤ 7302250) (has : ∀ ad : List Nat, eAll (eOk ad σ) as [.int (xs 1), .int (xs 2)]) : W p l e room_1 s m #[Value.ref b] below meth c H locs cs sl (lw_Z below #[Value.ref b] s) (F0 m 300 ls []) := by
  obtain ⟨⟨hx, hb, -, -, -, -, -, -, -, -⟩, -, -⟩ := id C0
  obtain ⟨os, hc1, hc2⟩ := hP
  refine lv_aload_n hx hb dl_300 rfl (lv_at hl 1 rfl) ?_
  refine law_arg (k := 1) C0 hW.2.2.2.1 hl (by decide) dl_301 dl_302 dl_303 dl_304 dl_305 ?_
  refine law_arg (k := 2) C0 hW.2.2.2.1 hl (by decide) dl_306 dl_307 dl_308 dl_309 dl_310 ?_
  refine law_call (N := tM147) (Y := tY147) (vs := [.int (xs 1), .int (xs 2)]) (rest := []) C0 hs hW hl.1 hc1 rfl rfl rfl rfl rfl (kIs_ok (c := 4065) (by decide +kernel)) (kIs_ok (c := 4066) (by decide +kernel)) (kIs_ok (c := 4067) (by decide +kernel)) (d0 := 11) rfl rfl hax (has _) (by decide) hcs hsl dl_311 (fun o ho w H1 locs1 ws1 tys1 hov hpre hW1 => ?_)
  obtain ⟨hr, os2, hc3, hsm⟩ := hc2 o ho
  refine lv_aload_n hx hb dl_314 rfl (lv_at hl 2 rfl) ?_
  refine law_arg (k := 1) C0 hW1.2.2.2.1 hl (by decide) dl_315 dl_316 dl_317 dl_318 dl_319 ?_
  refine law_arg (k := 2) C0 hW1.2.2.2.1 hl (by decide) dl_320 dl_321 dl_322 dl_323 dl_324 ?_
  refine law_call (N := tM33) (Y := tY33) (vs := [.int (xs 1), .int (xs 2)]) (rest := w.toList ++ []) C0 hs hW1 hl.1 hc3 rfl rfl rfl rfl rfl (kIs_ok (c := 7120) (by decide +kernel)) (kIs_ok (c := 7121) (by decide +kernel)) (kIs_ok (c := 7122) (by decide +kernel)) (d0 := 12) rfl hr (lw_ad ham hpre) (has _) (lw_rest w) hcs hsl dl_325 (fun o2 ho2 w2 H2 locs2 ws2 tys2 hov2 hpre2 hW2 => ?_)
  obtain ⟨z, rfl, rfl⟩ := eSm_ok (hsm o2 ho2) hov hov2
  exact lv_icmp_eq (tgt := 1191) hx hb dl_328 (by decide) (fun _ => law_end C0 hW2.2.2.2.1 hl hcs hsl) (fun q => absurd rfl q)
theorem law_wire {sr : List (Int × Int)} {σ : Nat → Int} (hs : eSg sr σ) {as : List eV} (hP : PairOk adK adV l sr 148 34 as) (C0 : lX p s m meth c b xs adK adV) {H : Heap} {locs : List Loc} {ws : va_W} {tys : List (ClassId × FieldType)} {ls : Array Slot} {ax am cs sl : Nat} (hW : lWd D s σ hFresh H locs ws tys) (hax : (ws.map Prod.fst)[0]? = some ax) (ham : (ws.map Prod.fst)[70]? = some am) (hl : lv_has ls 4 [(0, .ref b), (1, .ref ax), (2, .ref am), (3, .int 0)]) (hcs : cs ≤ 600000) (hsl : sl ≤ 7302250) (has : ∀ ad : List Nat, eAll (eOk ad σ) as [.int (xs 1), .int (xs 2)]) : W p l e room_1 s m #[Value.ref b] below meth c H locs cs sl (lw_Z below #[Value.ref b] s) (F0 m 333 ls []) := by
  obtain ⟨⟨hx, hb, -, -, -, -, -, -, -, -⟩, -, -⟩ := id C0
  obtain ⟨os, hc1, hc2⟩ := hP
  refine lv_aload_n hx hb dl_333 rfl (lv_at hl 1 rfl) ?_
  refine law_arg (k := 1) C0 hW.2.2.2.1 hl (by decide) dl_334 dl_335 dl_336 dl_337 dl_338 ?_
  refine law_arg (k := 2) C0 hW.2.2.2.1 hl (by decide) dl_339 dl_340 dl_341 dl_342 dl_343 ?_
  refine law_call (N := tM148) (Y := tY148) (vs := [.int (xs 1), .int (xs 2)]) (rest := []) C0 hs hW hl.1 hc1 rfl rfl rfl rfl rfl (kIs_ok (c := 4139) (by decide +kernel)) (kIs_ok (c := 4140) (by decide +kernel)) (kIs_ok (c := 4141) (by decide +kernel)) (d0 := 11) rfl rfl hax (has _) (by decide) hcs hsl dl_344 (fun o ho w H1 locs1 ws1 tys1 hov hpre hW1 => ?_)
  obtain ⟨hr, os2, hc3, hsm⟩ := hc2 o ho
  refine lv_aload_n hx hb dl_347 rfl (lv_at hl 2 rfl) ?_
  refine law_arg (k := 1) C0 hW1.2.2.2.1 hl (by decide) dl_348 dl_349 dl_350 dl_351 dl_352 ?_
  refine law_arg (k := 2) C0 hW1.2.2.2.1 hl (by decide) dl_353 dl_354 dl_355 dl_356 dl_357 ?_
  refine law_call (N := tM34) (Y := tY34) (vs := [.int (xs 1), .int (xs 2)]) (rest := w.toList ++ []) C0 hs hW1 hl.1 hc3 rfl rfl rfl rfl rfl (kIs_ok (c := 7198) (by decide +kernel)) (kIs_ok (c := 7199) (by decide +kernel)) (kIs_ok (c := 7200) (by decide +kernel)) (d0 := 12) rfl hr (lw_ad ham hpre) (has _) (lw_rest w) hcs hsl dl_358 (fun o2 ho2 w2 H2 locs2 ws2 tys2 hov2 hpre2 hW2 => ?_)
  obtain ⟨z, rfl, rfl⟩ := eSm_ok (hsm o2 ho2) hov hov2
  exact lv_icmp_eq (tgt := 1191) hx hb dl_361 (by decide) (fun _ => law_end C0 hW2.2.2.2.1 hl hcs hsl) (fun q => absurd rfl q)
theorem law_use {sr : List (Int × Int)} {σ : Nat → Int} (hs : eSg sr σ) {as : List eV} (hP : PairOk adK adV l sr 149 35 as) (C0 : lX p s m meth c b xs adK adV) {H : Heap} {locs : List Loc} {ws : va_W} {tys : List (ClassId × FieldType)} {ls : Array Slot} {ax am cs sl : Nat} (hW : lWd D s σ hFresh H locs ws tys) (hax : (ws.map Prod.fst)[0]? = some ax) (ham : (ws.map Prod.fst)[70]? = some am) (hl : lv_has ls 4 [(0, .ref b), (1, .ref ax), (2, .ref am), (3, .int 0)]) (hcs : cs ≤ 600000) (hsl : sl ≤ 7302250) (has : ∀ ad : List Nat, eAll (eOk ad σ) as [.int (xs 1), .int (xs 2)]) : W p l e room_1 s m #[Value.ref b] below meth c H locs cs sl (lw_Z below #[Value.ref b] s) (F0 m 366 ls []) := by
  obtain ⟨⟨hx, hb, -, -, -, -, -, -, -, -⟩, -, -⟩ := id C0
  obtain ⟨os, hc1, hc2⟩ := hP
  refine lv_aload_n hx hb dl_366 rfl (lv_at hl 1 rfl) ?_
  refine law_arg (k := 1) C0 hW.2.2.2.1 hl (by decide) dl_367 dl_368 dl_369 dl_370 dl_371 ?_
  refine law_arg (k := 2) C0 hW.2.2.2.1 hl (by decide) dl_372 dl_373 dl_374 dl_375 dl_376 ?_
  refine law_call (N := tM149) (Y := tY149) (vs := [.int (xs 1), .int (xs 2)]) (rest := []) C0 hs hW hl.1 hc1 rfl rfl rfl rfl rfl (kIs_ok (c := 4172) (by decide +kernel)) (kIs_ok (c := 4173) (by decide +kernel)) (kIs_ok (c := 4174) (by decide +kernel)) (d0 := 11) rfl rfl hax (has _) (by decide) hcs hsl dl_377 (fun o ho w H1 locs1 ws1 tys1 hov hpre hW1 => ?_)
  obtain ⟨hr, os2, hc3, hsm⟩ := hc2 o ho
  refine lv_aload_n hx hb dl_380 rfl (lv_at hl 2 rfl) ?_
  refine law_arg (k := 1) C0 hW1.2.2.2.1 hl (by decide) dl_381 dl_382 dl_383 dl_384 dl_385 ?_
  refine law_arg (k := 2) C0 hW1.2.2.2.1 hl (by decide) dl_386 dl_387 dl_388 dl_389 dl_390 ?_
  refine law_call (N := tM35) (Y := tY35) (vs := [.int (xs 1), .int (xs 2)]) (rest := w.toList ++ []) C0 hs hW1 hl.1 hc3 rfl rfl rfl rfl rfl (kIs_ok (c := 7214) (by decide +kernel)) (kIs_ok (c := 7215) (by decide +kernel)) (kIs_ok (c := 7216) (by decide +kernel)) (d0 := 12) rfl hr (lw_ad ham hpre) (has _) (lw_rest w) hcs hsl dl_391 (fun o2 ho2 w2 H2 locs2 ws2 tys2 hov2 hpre2 hW2 => ?_)
  obtain ⟨z, rfl, rfl⟩ := eSm_ok (hsm o2 ho2) hov hov2
  exact lv_icmp_eq (tgt := 1191) hx hb dl_394 (by decide) (fun _ => law_end C0 hW2.2.2.2.1 hl hcs hsl) (fun q => absurd rfl q)
theorem law_agree0 {sr : List (Int × Int)} {σ : Nat → Int} (hs : eSg sr σ) {as : List eV} (hP : PairOk adK adV l sr 150 37 as) (C0 : lX p s m meth c b xs adK adV) (hz : xs 2 = 0) {H : Heap} {locs : List Loc} {ws : va_W} {tys : List (ClassId × FieldType)} {ls : Array Slot} {ax am cs sl : Nat} (hW : lWd D s σ hFresh H locs ws tys) (hax : (ws.map Prod.fst)[0]? = some ax) (ham : (ws.map Prod.fst)[70]? = some am) (hl : lv_has ls 4 [(0, .ref b), (1, .ref ax), (2, .ref am), (3, .int 0)]) (hcs : cs ≤ 600000) (hsl : sl ≤ 7302250) (has : ∀ ad : List Nat, eAll (eOk ad σ) as [.int (xs 1), .int 0]) : W p l e room_1 s m #[Value.ref b] below meth c H locs cs sl (lw_Z below #[Value.ref b] s) (F0 m 399 ls []) := by
  obtain ⟨⟨hx, hb, -, -, -, -, -, -, -, -⟩, -, -⟩ := id C0
  obtain ⟨os, hc1, hc2⟩ := hP
  refine lv_aload_n hx hb dl_399 rfl (lv_at hl 1 rfl) ?_
  refine law_arg (k := 1) C0 hW.2.2.2.1 hl (by decide) dl_400 dl_401 dl_402 dl_403 dl_404 ?_
  refine law_arg (k := 2) C0 hW.2.2.2.1 hl (by decide) dl_405 dl_406 dl_407 dl_408 dl_409 ?_
  refine lv_if_eq (tgt := 417) hx hb dl_410 (by decide) (fun _ => ?_) (fun q => absurd hz q)
  refine lv_iconst (v := 0) hx hb dl_417 (by decide) ?_
  refine law_call (N := tM150) (Y := tY150) (vs := [.int (xs 1), .int 0]) (rest := []) C0 hs hW hl.1 hc1 rfl rfl rfl rfl rfl (kIs_ok (c := 4184) (by decide +kernel)) (kIs_ok (c := 4185) (by decide +kernel)) (kIs_ok (c := 4186) (by decide +kernel)) (d0 := 11) rfl rfl hax (has _) (by decide) hcs hsl dl_418 (fun o ho w H1 locs1 ws1 tys1 hov hpre hW1 => ?_)
  obtain ⟨hr, os2, hc3, hsm⟩ := hc2 o ho
  refine lv_aload_n hx hb dl_421 rfl (lv_at hl 2 rfl) ?_
  refine law_arg (k := 1) C0 hW1.2.2.2.1 hl (by decide) dl_422 dl_423 dl_424 dl_425 dl_426 ?_
  refine law_arg (k := 2) C0 hW1.2.2.2.1 hl (by decide) dl_427 dl_428 dl_429 dl_430 dl_431 ?_
  refine lv_if_eq (tgt := 439) hx hb dl_432 (by decide) (fun _ => ?_) (fun q => absurd hz q)
  refine lv_iconst (v := 0) hx hb dl_439 (by decide) ?_
  refine law_call (N := tM37) (Y := tY37) (vs := [.int (xs 1), .int 0]) (rest := w.toList ++ []) C0 hs hW1 hl.1 hc3 rfl rfl rfl rfl rfl (kIs_ok (c := 7226) (by decide +kernel)) (kIs_ok (c := 7227) (by decide +kernel)) (kIs_ok (c := 7228) (by decide +kernel)) (d0 := 12) rfl hr (lw_ad ham hpre) (has _) (lw_rest w) hcs hsl dl_440 (fun o2 ho2 w2 H2 locs2 ws2 tys2 hov2 hpre2 hW2 => ?_)
  obtain ⟨z, rfl, rfl⟩ := eSm_ok (hsm o2 ho2) hov hov2
  exact lv_icmp_eq (tgt := 1191) hx hb dl_443 (by decide) (fun _ => law_end C0 hW2.2.2.2.1 hl hcs hsl) (fun q => absurd rfl q)
theorem law_agree1 {sr : List (Int × Int)} {σ : Nat → Int} (hs : eSg sr σ) {as : List eV} (hP : PairOk adK adV l sr 150 37 as) (C0 : lX p s m meth c b xs adK adV) (hz : ¬ xs 2 = 0) {H : Heap} {locs : List Loc} {ws : va_W} {tys : List (ClassId × FieldType)} {ls : Array Slot} {ax am cs sl : Nat} (hW : lWd D s σ hFresh H locs ws tys) (hax : (ws.map Prod.fst)[0]? = some ax) (ham : (ws.map Prod.fst)[70]? = some am) (hl : lv_has ls 4 [(0, .ref b), (1, .ref ax), (2, .ref am), (3, .int 0)]) (hcs : cs ≤ 600000) (hsl : sl ≤ 7302250) (has : ∀ ad : List Nat, eAll (eOk ad σ) as [.int (xs 1), .int 1]) : W p l e room_1 s m #[Value.ref b] below meth c H locs cs sl (lw_Z below #[Value.ref b] s) (F0 m 399 ls []) := by
  obtain ⟨⟨hx, hb, -, -, -, -, -, -, -, -⟩, -, -⟩ := id C0
  obtain ⟨os, hc1, hc2⟩ := hP
  refine lv_aload_n hx hb dl_399 rfl (lv_at hl 1 rfl) ?_
  refine law_arg (k := 1) C0 hW.2.2.2.1 hl (by decide) dl_400 dl_401 dl_402 dl_403 dl_404 ?_
  refine law_arg (k := 2) C0 hW.2.2.2.1 hl (by decide) dl_405 dl_406 dl_407 dl_408 dl_409 ?_
  refine lv_if_eq (tgt := 417) hx hb dl_410 (by decide) (fun q => absurd q hz) (fun _ => ?_)
  refine lv_iconst (v := 1) hx hb dl_413 (by decide) ?_
  refine lv_goto (tgt := 418) hx hb dl_414 (by decide) ?_
  refine law_call (N := tM150) (Y := tY150) (vs := [.int (xs 1), .int 1]) (rest := []) C0 hs hW hl.1 hc1 rfl rfl rfl rfl rfl (kIs_ok (c := 4184) (by decide +kernel)) (kIs_ok (c := 4185) (by decide +kernel)) (kIs_ok (c := 4186) (by decide +kernel)) (d0 := 11) rfl rfl hax (has _) (by decide) hcs hsl dl_418 (fun o ho w H1 locs1 ws1 tys1 hov hpre hW1 => ?_)
  obtain ⟨hr, os2, hc3, hsm⟩ := hc2 o ho
  refine lv_aload_n hx hb dl_421 rfl (lv_at hl 2 rfl) ?_
  refine law_arg (k := 1) C0 hW1.2.2.2.1 hl (by decide) dl_422 dl_423 dl_424 dl_425 dl_426 ?_
  refine law_arg (k := 2) C0 hW1.2.2.2.1 hl (by decide) dl_427 dl_428 dl_429 dl_430 dl_431 ?_
  refine lv_if_eq (tgt := 439) hx hb dl_432 (by decide) (fun q => absurd q hz) (fun _ => ?_)
  refine lv_iconst (v := 1) hx hb dl_435 (by decide) ?_
  refine lv_goto (tgt := 440) hx hb dl_436 (by decide) ?_
  refine law_call (N := tM37) (Y := tY37) (vs := [.int (xs 1), .int 1]) (rest := w.toList ++ []) C0 hs hW1 hl.1 hc3 rfl rfl rfl rfl rfl (kIs_ok (c := 7226) (by decide +kernel)) (kIs_ok (c := 7227) (by decide +kernel)) (kIs_ok (c := 7228) (by decide +kernel)) (d0 := 12) rfl hr (lw_ad ham hpre) (has _) (lw_rest w) hcs hsl dl_440 (fun o2 ho2 w2 H2 locs2 ws2 tys2 hov2 hpre2 hW2 => ?_)
  obtain ⟨z, rfl, rfl⟩ := eSm_ok (hsm o2 ho2) hov hov2
  exact lv_icmp_eq (tgt := 1191) hx hb dl_443 (by decide) (fun _ => law_end C0 hW2.2.2.2.1 hl hcs hsl) (fun q => absurd rfl q)
theorem law_mend {sr : List (Int × Int)} {σ : Nat → Int} (hs : eSg sr σ) {as : List eV} (hP : PairOk adK adV l sr 151 38 as) (C0 : lX p s m meth c b xs adK adV) {H : Heap} {locs : List Loc} {ws : va_W} {tys : List (ClassId × FieldType)} {ls : Array Slot} {ax am cs sl : Nat} (hW : lWd D s σ hFresh H locs ws tys) (hax : (ws.map Prod.fst)[0]? = some ax) (ham : (ws.map Prod.fst)[70]? = some am) (hl : lv_has ls 4 [(0, .ref b), (1, .ref ax), (2, .ref am), (3, .int 0)]) (hcs : cs ≤ 600000) (hsl : sl ≤ 7302250) (has : ∀ ad : List Nat, eAll (eOk ad σ) as [.int (xs 1)]) : W p l e room_1 s m #[Value.ref b] below meth c H locs cs sl (lw_Z below #[Value.ref b] s) (F0 m 448 ls []) := by
  obtain ⟨⟨hx, hb, -, -, -, -, -, -, -, -⟩, -, -⟩ := id C0
  obtain ⟨os, hc1, hc2⟩ := hP
  refine lv_aload_n hx hb dl_448 rfl (lv_at hl 1 rfl) ?_
  refine law_arg (k := 1) C0 hW.2.2.2.1 hl (by decide) dl_449 dl_450 dl_451 dl_452 dl_453 ?_
  refine law_call (N := tM151) (Y := tY151) (vs := [.int (xs 1)]) (rest := []) C0 hs hW hl.1 hc1 rfl rfl rfl rfl rfl (kIs_ok (c := 4197) (by decide +kernel)) (kIs_ok (c := 4198) (by decide +kernel)) (kIs_ok (c := 4199) (by decide +kernel)) (d0 := 11) rfl rfl hax (has _) (by decide) hcs hsl dl_454 (fun o ho w H1 locs1 ws1 tys1 hov hpre hW1 => ?_)
  obtain ⟨hr, os2, hc3, hsm⟩ := hc2 o ho
  refine lv_aload_n hx hb dl_457 rfl (lv_at hl 2 rfl) ?_
  refine law_arg (k := 1) C0 hW1.2.2.2.1 hl (by decide) dl_458 dl_459 dl_460 dl_461 dl_462 ?_
  refine law_call (N := tM38) (Y := tY38) (vs := [.int (xs 1)]) (rest := w.toList ++ []) C0 hs hW1 hl.1 hc3 rfl rfl rfl rfl rfl (kIs_ok (c := 7234) (by decide +kernel)) (kIs_ok (c := 7235) (by decide +kernel)) (kIs_ok (c := 7236) (by decide +kernel)) (d0 := 12) rfl hr (lw_ad ham hpre) (has _) (lw_rest w) hcs hsl dl_463 (fun o2 ho2 w2 H2 locs2 ws2 tys2 hov2 hpre2 hW2 => ?_)
  obtain ⟨z, rfl, rfl⟩ := eSm_ok (hsm o2 ho2) hov hov2
  exact lv_icmp_eq (tgt := 1191) hx hb dl_466 (by decide) (fun _ => law_end C0 hW2.2.2.2.1 hl hcs hsl) (fun q => absurd rfl q)
theorem law_thicken {sr : List (Int × Int)} {σ : Nat → Int} (hs : eSg sr σ) {as : List eV} (hP : PairOk adK adV l sr 152 39 as) (C0 : lX p s m meth c b xs adK adV) {H : Heap} {locs : List Loc} {ws : va_W} {tys : List (ClassId × FieldType)} {ls : Array Slot} {ax am cs sl : Nat} (hW : lWd D s σ hFresh H locs ws tys) (hax : (ws.map Prod.fst)[0]? = some ax) (ham : (ws.map Prod.fst)[70]? = some am) (hl : lv_has ls 4 [(0, .ref b), (1, .ref ax), (2, .ref am), (3, .int 0)]) (hcs : cs ≤ 600000) (hsl : sl ≤ 7302250) (has : ∀ ad : List Nat, eAll (eOk ad σ) as [.int (xs 1)]) : W p l e room_1 s m #[Value.ref b] below meth c H locs cs sl (lw_Z below #[Value.ref b] s) (F0 m 471 ls []) := by
  obtain ⟨⟨hx, hb, -, -, -, -, -, -, -, -⟩, -, -⟩ := id C0
  obtain ⟨os, hc1, hc2⟩ := hP
  refine lv_aload_n hx hb dl_471 rfl (lv_at hl 1 rfl) ?_
  refine law_arg (k := 1) C0 hW.2.2.2.1 hl (by decide) dl_472 dl_473 dl_474 dl_475 dl_476 ?_
  refine law_call (N := tM152) (Y := tY152) (vs := [.int (xs 1)]) (rest := []) C0 hs hW hl.1 hc1 rfl rfl rfl rfl rfl (kIs_ok (c := 4201) (by decide +kernel)) (kIs_ok (c := 4202) (by decide +kernel)) (kIs_ok (c := 4203) (by decide +kernel)) (d0 := 11) rfl rfl hax (has _) (by decide) hcs hsl dl_477 (fun o ho w H1 locs1 ws1 tys1 hov hpre hW1 => ?_)
  obtain ⟨hr, os2, hc3, hsm⟩ := hc2 o ho
  refine lv_aload_n hx hb dl_480 rfl (lv_at hl 2 rfl) ?_
  refine law_arg (k := 1) C0 hW1.2.2.2.1 hl (by decide) dl_481 dl_482 dl_483 dl_484 dl_485 ?_
  refine law_call (N := tM39) (Y := tY39) (vs := [.int (xs 1)]) (rest := w.toList ++ []) C0 hs hW1 hl.1 hc3 rfl rfl rfl rfl rfl (kIs_ok (c := 7238) (by decide +kernel)) (kIs_ok (c := 7239) (by decide +kernel)) (kIs_ok (c := 8000) (by decide +kernel)) (d0 := 12) rfl hr (lw_ad ham hpre) (has _) (lw_rest w) hcs hsl dl_486 (fun o2 ho2 w2 H2 locs2 ws2 tys2 hov2 hpre2 hW2 => ?_)
  obtain ⟨z, rfl, rfl⟩ := eSm_ok (hsm o2 ho2) hov hov2
  exact lv_icmp_eq (tgt := 1191) hx hb dl_489 (by decide) (fun _ => law_end C0 hW2.2.2.2.1 hl hcs hsl) (fun q => absurd rfl q)
theorem law_pin0 {sr : List (Int × Int)} {σ : Nat → Int} (hs : eSg sr σ) {as : List eV} (hP : PairOk adK adV l sr 153 40 as) (C0 : lX p s m meth c b xs adK adV) (hz : xs 2 = 0) {H : Heap} {locs : List Loc} {ws : va_W} {tys : List (ClassId × FieldType)} {ls : Array Slot} {ax am cs sl : Nat} (hW : lWd D s σ hFresh H locs ws tys) (hax : (ws.map Prod.fst)[0]? = some ax) (ham : (ws.map Prod.fst)[70]? = some am) (hl : lv_has ls 4 [(0, .ref b), (1, .ref ax), (2, .ref am), (3, .int 0)]) (hcs : cs ≤ 600000) (hsl : sl ≤ 7302250) (has : ∀ ad : List Nat, eAll (eOk ad σ) as [.int (xs 1), .int 0]) : W p l e room_1 s m #[Value.ref b] below meth c H locs cs sl (lw_Z below #[Value.ref b] s) (F0 m 494 ls []) := by
  obtain ⟨⟨hx, hb, -, -, -, -, -, -, -, -⟩, -, -⟩ := id C0
  obtain ⟨os, hc1, hc2⟩ := hP
  refine lv_aload_n hx hb dl_494 rfl (lv_at hl 1 rfl) ?_
  refine law_arg (k := 1) C0 hW.2.2.2.1 hl (by decide) dl_495 dl_496 dl_497 dl_498 dl_499 ?_
  refine law_arg (k := 2) C0 hW.2.2.2.1 hl (by decide) dl_500 dl_501 dl_502 dl_503 dl_504 ?_
  refine lv_if_eq (tgt := 512) hx hb dl_505 (by decide) (fun _ => ?_) (fun q => absurd hz q)
  refine lv_iconst (v := 0) hx hb dl_512 (by decide) ?_
  refine law_call (N := tM153) (Y := tY153) (vs := [.int (xs 1), .int 0]) (rest := []) C0 hs hW hl.1 hc1 rfl rfl rfl rfl rfl (kIs_ok (c := 4205) (by decide +kernel)) (kIs_ok (c := 4206) (by decide +kernel)) (kIs_ok (c := 4207) (by decide +kernel)) (d0 := 11) rfl rfl hax (has _) (by decide) hcs hsl dl_513 (fun o ho w H1 locs1 ws1 tys1 hov hpre hW1 => ?_)
  obtain ⟨hr, os2, hc3, hsm⟩ := hc2 o ho
  refine lv_aload_n hx hb dl_516 rfl (lv_at hl 2 rfl) ?_
  refine law_arg (k := 1) C0 hW1.2.2.2.1 hl (by decide) dl_517 dl_518 dl_519 dl_520 dl_521 ?_
  refine law_arg (k := 2) C0 hW1.2.2.2.1 hl (by decide) dl_522 dl_523 dl_524 dl_525 dl_526 ?_
  refine lv_if_eq (tgt := 534) hx hb dl_527 (by decide) (fun _ => ?_) (fun q => absurd hz q)
  refine lv_iconst (v := 0) hx hb dl_534 (by decide) ?_
  refine law_call (N := tM40) (Y := tY40) (vs := [.int (xs 1), .int 0]) (rest := w.toList ++ []) C0 hs hW1 hl.1 hc3 rfl rfl rfl rfl rfl (kIs_ok (c := 8002) (by decide +kernel)) (kIs_ok (c := 8003) (by decide +kernel)) (kIs_ok (c := 8004) (by decide +kernel)) (d0 := 12) rfl hr (lw_ad ham hpre) (has _) (lw_rest w) hcs hsl dl_535 (fun o2 ho2 w2 H2 locs2 ws2 tys2 hov2 hpre2 hW2 => ?_)
  obtain ⟨z, rfl, rfl⟩ := eSm_ok (hsm o2 ho2) hov hov2
  exact lv_icmp_eq (tgt := 1191) hx hb dl_538 (by decide) (fun _ => law_end C0 hW2.2.2.2.1 hl hcs hsl) (fun q => absurd rfl q)
theorem law_pin1 {sr : List (Int × Int)} {σ : Nat → Int} (hs : eSg sr σ) {as : List eV} (hP : PairOk adK adV l sr 153 40 as) (C0 : lX p s m meth c b xs adK adV) (hz : ¬ xs 2 = 0) {H : Heap} {locs : List Loc} {ws : va_W} {tys : List (ClassId × FieldType)} {ls : Array Slot} {ax am cs sl : Nat} (hW : lWd D s σ hFresh H locs ws tys) (hax : (ws.map Prod.fst)[0]? = some ax) (ham : (ws.map Prod.fst)[70]? = some am) (hl : lv_has ls 4 [(0, .ref b), (1, .ref ax), (2, .ref am), (3, .int 0)]) (hcs : cs ≤ 600000) (hsl : sl ≤ 7302250) (has : ∀ ad : List Nat, eAll (eOk ad σ) as [.int (xs 1), .int 1]) : W p l e room_1 s m #[Value.ref b] below meth c H locs cs sl (lw_Z below #[Value.ref b] s) (F0 m 494 ls []) := by
  obtain ⟨⟨hx, hb, -, -, -, -, -, -, -, -⟩, -, -⟩ := id C0
  obtain ⟨os, hc1, hc2⟩ := hP
  refine lv_aload_n hx hb dl_494 rfl (lv_at hl 1 rfl) ?_
  refine law_arg (k := 1) C0 hW.2.2.2.1 hl (by decide) dl_495 dl_496 dl_497 dl_498 dl_499 ?_
  refine law_arg (k := 2) C0 hW.2.2.2.1 hl (by decide) dl_500 dl_501 dl_502 dl_503 dl_504 ?_
  refine lv_if_eq (tgt := 512) hx hb dl_505 (by decide) (fun q => absurd q hz) (fun _ => ?_)
  refine lv_iconst (v := 1) hx hb dl_508 (by decide) ?_
  refine lv_goto (tgt := 513) hx hb dl_509 (by decide) ?_
  refine law_call (N := tM153) (Y := tY153) (vs := [.int (xs 1), .int 1]) (rest := []) C0 hs hW hl.1 hc1 rfl rfl rfl rfl rfl (kIs_ok (c := 4205) (by decide +kernel)) (kIs_ok (c := 4206) (by decide +kernel)) (kIs_ok (c := 4207) (by decide +kernel)) (d0 := 11) rfl rfl hax (has _) (by decide) hcs hsl dl_513 (fun o ho w H1 locs1 ws1 tys1 hov hpre hW1 => ?_)
  obtain ⟨hr, os2, hc3, hsm⟩ := hc2 o ho
  refine lv_aload_n hx hb dl_516 rfl (lv_at hl 2 rfl) ?_
  refine law_arg (k := 1) C0 hW1.2.2.2.1 hl (by decide) dl_517 dl_518 dl_519 dl_520 dl_521 ?_
  refine law_arg (k := 2) C0 hW1.2.2.2.1 hl (by decide) dl_522 dl_523 dl_524 dl_525 dl_526 ?_
  refine lv_if_eq (tgt := 534) hx hb dl_527 (by decide) (fun q => absurd q hz) (fun _ => ?_)
  refine lv_iconst (v := 1) hx hb dl_530 (by decide) ?_
  refine lv_goto (tgt := 535) hx hb dl_531 (by decide) ?_
  refine law_call (N := tM40) (Y := tY40) (vs := [.int (xs 1), .int 1]) (rest := w.toList ++ []) C0 hs hW1 hl.1 hc3 rfl rfl rfl rfl rfl (kIs_ok (c := 8002) (by decide +kernel)) (kIs_ok (c := 8003) (by decide +kernel)) (kIs_ok (c := 8004) (by decide +kernel)) (d0 := 12) rfl hr (lw_ad ham hpre) (has _) (lw_rest w) hcs hsl dl_535 (fun o2 ho2 w2 H2 locs2 ws2 tys2 hov2 hpre2 hW2 => ?_)
  obtain ⟨z, rfl, rfl⟩ := eSm_ok (hsm o2 ho2) hov hov2
  exact lv_icmp_eq (tgt := 1191) hx hb dl_538 (by decide) (fun _ => law_end C0 hW2.2.2.2.1 hl hcs hsl) (fun q => absurd rfl q)
theorem law_hours {sr : List (Int × Int)} {σ : Nat → Int} (hs : eSg sr σ) {as : List eV} (hP : PairOk adK adV l sr 154 42 as) (C0 : lX p s m meth c b xs adK adV) {H : Heap} {locs : List Loc} {ws : va_W} {tys : List (ClassId × FieldType)} {ls : Array Slot} {ax am cs sl : Nat} (hW : lWd D s σ hFresh H locs ws tys) (hax : (ws.map Prod.fst)[0]? = some ax) (ham : (ws.map Prod.fst)[70]? = some am) (hl : lv_has ls 4 [(0, .ref b), (1, .ref ax), (2, .ref am), (3, .int 0)]) (hcs : cs ≤ 600000) (hsl : sl ≤ 7302250) (has : ∀ ad : List Nat, eAll (eOk ad σ) as [.int (xs 1)]) : W p l e room_1 s m #[Value.ref b] below meth c H locs cs sl (lw_Z below #[Value.ref b] s) (F0 m 543 ls []) := by
  obtain ⟨⟨hx, hb, -, -, -, -, -, -, -, -⟩, -, -⟩ := id C0
  obtain ⟨os, hc1, hc2⟩ := hP
  refine lv_aload_n hx hb dl_543 rfl (lv_at hl 1 rfl) ?_
  refine law_arg (k := 1) C0 hW.2.2.2.1 hl (by decide) dl_544 dl_545 dl_546 dl_547 dl_548 ?_
  refine law_call (N := tM154) (Y := tY154) (vs := [.int (xs 1)]) (rest := []) C0 hs hW hl.1 hc1 rfl rfl rfl rfl rfl (kIs_ok (c := 4209) (by decide +kernel)) (kIs_ok (c := 4210) (by decide +kernel)) (kIs_ok (c := 4211) (by decide +kernel)) (d0 := 11) rfl rfl hax (has _) (by decide) hcs hsl dl_549 (fun o ho w H1 locs1 ws1 tys1 hov hpre hW1 => ?_)
  obtain ⟨hr, os2, hc3, hsm⟩ := hc2 o ho
  refine lv_aload_n hx hb dl_552 rfl (lv_at hl 2 rfl) ?_
  refine law_arg (k := 1) C0 hW1.2.2.2.1 hl (by decide) dl_553 dl_554 dl_555 dl_556 dl_557 ?_
  refine law_call (N := tM42) (Y := tY42) (vs := [.int (xs 1)]) (rest := w.toList ++ []) C0 hs hW1 hl.1 hc3 rfl rfl rfl rfl rfl (kIs_ok (c := 8006) (by decide +kernel)) (kIs_ok (c := 8007) (by decide +kernel)) (kIs_ok (c := 8008) (by decide +kernel)) (d0 := 12) rfl hr (lw_ad ham hpre) (has _) (lw_rest w) hcs hsl dl_558 (fun o2 ho2 w2 H2 locs2 ws2 tys2 hov2 hpre2 hW2 => ?_)
  obtain ⟨z, rfl, rfl⟩ := eSm_ok (hsm o2 ho2) hov hov2
  exact lv_icmp_eq (tgt := 1191) hx hb dl_561 (by decide) (fun _ => law_end C0 hW2.2.2.2.1 hl hcs hsl) (fun q => absurd rfl q)
theorem law_undo {sr : List (Int × Int)} {σ : Nat → Int} (hs : eSg sr σ) {as : List eV} (hP : PairOk adK adV l sr 155 43 as) (C0 : lX p s m meth c b xs adK adV) {H : Heap} {locs : List Loc} {ws : va_W} {tys : List (ClassId × FieldType)} {ls : Array Slot} {ax am cs sl : Nat} (hW : lWd D s σ hFresh H locs ws tys) (hax : (ws.map Prod.fst)[0]? = some ax) (ham : (ws.map Prod.fst)[70]? = some am) (hl : lv_has ls 4 [(0, .ref b), (1, .ref ax), (2, .ref am), (3, .int 0)]) (hcs : cs ≤ 600000) (hsl : sl ≤ 7302250) (has : ∀ ad : List Nat, eAll (eOk ad σ) as []) : W p l e room_1 s m #[Value.ref b] below meth c H locs cs sl (lw_Z below #[Value.ref b] s) (F0 m 566 ls []) := by
  obtain ⟨⟨hx, hb, -, -, -, -, -, -, -, -⟩, -, -⟩ := id C0
  obtain ⟨os, hc1, hc2⟩ := hP
  refine lv_aload_n hx hb dl_566 rfl (lv_at hl 1 rfl) ?_
  refine law_call (N := tM155) (Y := tY155) (vs := []) (rest := []) C0 hs hW hl.1 hc1 rfl rfl rfl rfl rfl (kIs_ok (c := 5008) (by decide +kernel)) (kIs_ok (c := 5009) (by decide +kernel)) (kIs_ok (c := 5010) (by decide +kernel)) (d0 := 11) rfl rfl hax (has _) (by decide) hcs hsl dl_567 (fun o ho w H1 locs1 ws1 tys1 hov hpre hW1 => ?_)
  obtain ⟨hr, os2, hc3, hsm⟩ := hc2 o ho
  refine lv_aload_n hx hb dl_570 rfl (lv_at hl 2 rfl) ?_
  refine law_call (N := tM43) (Y := tY43) (vs := []) (rest := w.toList ++ []) C0 hs hW1 hl.1 hc3 rfl rfl rfl rfl rfl (kIs_ok (c := 8043) (by decide +kernel)) (kIs_ok (c := 8044) (by decide +kernel)) (kIs_ok (c := 8045) (by decide +kernel)) (d0 := 12) rfl hr (lw_ad ham hpre) (has _) (lw_rest w) hcs hsl dl_571 (fun o2 ho2 w2 H2 locs2 ws2 tys2 hov2 hpre2 hW2 => ?_)
  obtain ⟨z, rfl, rfl⟩ := eSm_ok (hsm o2 ho2) hov hov2
  exact lv_icmp_eq (tgt := 1191) hx hb dl_574 (by decide) (fun _ => law_end C0 hW2.2.2.2.1 hl hcs hsl) (fun q => absurd rfl q)
theorem law_way {sr : List (Int × Int)} {σ : Nat → Int} (hs : eSg sr σ) {as : List eV} (hP : PairOk adK adV l sr 156 44 as) (C0 : lX p s m meth c b xs adK adV) {H : Heap} {locs : List Loc} {ws : va_W} {tys : List (ClassId × FieldType)} {ls : Array Slot} {ax am cs sl : Nat} (hW : lWd D s σ hFresh H locs ws tys) (hax : (ws.map Prod.fst)[0]? = some ax) (ham : (ws.map Prod.fst)[70]? = some am) (hl : lv_has ls 4 [(0, .ref b), (1, .ref ax), (2, .ref am), (3, .int 0)]) (hcs : cs ≤ 600000) (hsl : sl ≤ 7302250) (has : ∀ ad : List Nat, eAll (eOk ad σ) as [.int (xs 1), .int (xs 2)]) : W p l e room_1 s m #[Value.ref b] below meth c H locs cs sl (lw_Z below #[Value.ref b] s) (F0 m 579 ls []) := by
  obtain ⟨⟨hx, hb, -, -, -, -, -, -, -, -⟩, -, -⟩ := id C0
  obtain ⟨os, hc1, hc2⟩ := hP
  refine lv_aload_n hx hb dl_579 rfl (lv_at hl 1 rfl) ?_
  refine law_arg (k := 1) C0 hW.2.2.2.1 hl (by decide) dl_580 dl_581 dl_582 dl_583 dl_584 ?_
  refine law_arg (k := 2) C0 hW.2.2.2.1 hl (by decide) dl_585 dl_586 dl_587 dl_588 dl_589 ?_
  refine law_call (N := tM156) (Y := tY156) (vs := [.int (xs 1), .int (xs 2)]) (rest := []) C0 hs hW hl.1 hc1 rfl rfl rfl rfl rfl (kIs_ok (c := 5020) (by decide +kernel)) (kIs_ok (c := 5021) (by decide +kernel)) (kIs_ok (c := 5022) (by decide +kernel)) (d0 := 11) rfl rfl hax (has _) (by decide) hcs hsl dl_590 (fun o ho w H1 locs1 ws1 tys1 hov hpre hW1 => ?_)
  obtain ⟨hr, os2, hc3, hsm⟩ := hc2 o ho
  refine lv_aload_n hx hb dl_593 rfl (lv_at hl 2 rfl) ?_
  refine law_arg (k := 1) C0 hW1.2.2.2.1 hl (by decide) dl_594 dl_595 dl_596 dl_597 dl_598 ?_
  refine law_arg (k := 2) C0 hW1.2.2.2.1 hl (by decide) dl_599 dl_600 dl_601 dl_602 dl_603 ?_
  refine law_call (N := tM44) (Y := tY44) (vs := [.int (xs 1), .int (xs 2)]) (rest := w.toList ++ []) C0 hs hW1 hl.1 hc3 rfl rfl rfl rfl rfl (kIs_ok (c := 8047) (by decide +kernel)) (kIs_ok (c := 8048) (by decide +kernel)) (kIs_ok (c := 8049) (by decide +kernel)) (d0 := 12) rfl hr (lw_ad ham hpre) (has _) (lw_rest w) hcs hsl dl_604 (fun o2 ho2 w2 H2 locs2 ws2 tys2 hov2 hpre2 hW2 => ?_)
  obtain ⟨z, rfl, rfl⟩ := eSm_ok (hsm o2 ho2) hov hov2
  exact lv_icmp_eq (tgt := 1191) hx hb dl_607 (by decide) (fun _ => law_end C0 hW2.2.2.2.1 hl hcs hsl) (fun q => absurd rfl q)
theorem law_peak {sr : List (Int × Int)} {σ : Nat → Int} (hs : eSg sr σ) {as : List eV} (hP : PairOk adK adV l sr 157 46 as) (C0 : lX p s m meth c b xs adK adV) {H : Heap} {locs : List Loc} {ws : va_W} {tys : List (ClassId × FieldType)} {ls : Array Slot} {ax am cs sl : Nat} (hW : lWd D s σ hFresh H locs ws tys) (hax : (ws.map Prod.fst)[0]? = some ax) (ham : (ws.map Prod.fst)[70]? = some am) (hl : lv_has ls 4 [(0, .ref b), (1, .ref ax), (2, .ref am), (3, .int 0)]) (hcs : cs ≤ 600000) (hsl : sl ≤ 7302250) (has : ∀ ad : List Nat, eAll (eOk ad σ) as [.int (xs 1), .int (xs 2), .int (xs 3)]) : W p l e room_1 s m #[Value.ref b] below meth c H locs cs sl (lw_Z below #[Value.ref b] s) (F0 m 612 ls []) := by
  obtain ⟨⟨hx, hb, -, -, -, -, -, -, -, -⟩, -, -⟩ := id C0
  obtain ⟨os, hc1, hc2⟩ := hP
  refine lv_aload_n hx hb dl_612 rfl (lv_at hl 1 rfl) ?_
  refine law_arg (k := 1) C0 hW.2.2.2.1 hl (by decide) dl_613 dl_614 dl_615 dl_616 dl_617 ?_
  refine law_arg (k := 2) C0 hW.2.2.2.1 hl (by decide) dl_618 dl_619 dl_620 dl_621 dl_622 ?_
  refine law_arg (k := 3) C0 hW.2.2.2.1 hl (by decide) dl_623 dl_624 dl_625 dl_626 dl_627 ?_
  refine law_call (N := tM157) (Y := tY157) (vs := [.int (xs 1), .int (xs 2), .int (xs 3)]) (rest := []) C0 hs hW hl.1 hc1 rfl rfl rfl rfl rfl (kIs_ok (c := 5028) (by decide +kernel)) (kIs_ok (c := 5029) (by decide +kernel)) (kIs_ok (c := 5030) (by decide +kernel)) (d0 := 11) rfl rfl hax (has _) (by decide) hcs hsl dl_628 (fun o ho w H1 locs1 ws1 tys1 hov hpre hW1 => ?_)
  obtain ⟨hr, os2, hc3, hsm⟩ := hc2 o ho
  refine lv_aload_n hx hb dl_631 rfl (lv_at hl 2 rfl) ?_
  refine law_arg (k := 1) C0 hW1.2.2.2.1 hl (by decide) dl_632 dl_633 dl_634 dl_635 dl_636 ?_
  refine law_arg (k := 2) C0 hW1.2.2.2.1 hl (by decide) dl_637 dl_638 dl_639 dl_640 dl_641 ?_
  refine law_arg (k := 3) C0 hW1.2.2.2.1 hl (by decide) dl_642 dl_643 dl_644 dl_645 dl_646 ?_
  refine law_call (N := tM46) (Y := tY46) (vs := [.int (xs 1), .int (xs 2), .int (xs 3)]) (rest := w.toList ++ []) C0 hs hW1 hl.1 hc3 rfl rfl rfl rfl rfl (kIs_ok (c := 8051) (by decide +kernel)) (kIs_ok (c := 8052) (by decide +kernel)) (kIs_ok (c := 8053) (by decide +kernel)) (d0 := 12) rfl hr (lw_ad ham hpre) (has _) (lw_rest w) hcs hsl dl_647 (fun o2 ho2 w2 H2 locs2 ws2 tys2 hov2 hpre2 hW2 => ?_)
  obtain ⟨z, rfl, rfl⟩ := eSm_ok (hsm o2 ho2) hov hov2
  exact lv_icmp_eq (tgt := 1191) hx hb dl_650 (by decide) (fun _ => law_end C0 hW2.2.2.2.1 hl hcs hsl) (fun q => absurd rfl q)
theorem law_first {sr : List (Int × Int)} {σ : Nat → Int} (hs : eSg sr σ) {as : List eV} (hP : PairOk adK adV l sr 158 48 as) (C0 : lX p s m meth c b xs adK adV) {H : Heap} {locs : List Loc} {ws : va_W} {tys : List (ClassId × FieldType)} {ls : Array Slot} {ax am cs sl : Nat} (hW : lWd D s σ hFresh H locs ws tys) (hax : (ws.map Prod.fst)[0]? = some ax) (ham : (ws.map Prod.fst)[70]? = some am) (hl : lv_has ls 4 [(0, .ref b), (1, .ref ax), (2, .ref am), (3, .int 0)]) (hcs : cs ≤ 600000) (hsl : sl ≤ 7302250) (has : ∀ ad : List Nat, eAll (eOk ad σ) as [.int (xs 1)]) : W p l e room_1 s m #[Value.ref b] below meth c H locs cs sl (lw_Z below #[Value.ref b] s) (F0 m 655 ls []) := by
  obtain ⟨⟨hx, hb, -, -, -, -, -, -, -, -⟩, -, -⟩ := id C0
  obtain ⟨os, hc1, hc2⟩ := hP
  refine lv_aload_n hx hb dl_655 rfl (lv_at hl 1 rfl) ?_
  refine law_arg (k := 1) C0 hW.2.2.2.1 hl (by decide) dl_656 dl_657 dl_658 dl_659 dl_660 ?_
  refine law_call (N := tM158) (Y := tY158) (vs := [.int (xs 1)]) (rest := []) C0 hs hW hl.1 hc1 rfl rfl rfl rfl rfl (kIs_ok (c := 5041) (by decide +kernel)) (kIs_ok (c := 5042) (by decide +kernel)) (kIs_ok (c := 5043) (by decide +kernel)) (d0 := 11) rfl rfl hax (has _) (by decide) hcs hsl dl_661 (fun o ho w H1 locs1 ws1 tys1 hov hpre hW1 => ?_)
  obtain ⟨hr, os2, hc3, hsm⟩ := hc2 o ho
  refine lv_aload_n hx hb dl_664 rfl (lv_at hl 2 rfl) ?_
  refine law_arg (k := 1) C0 hW1.2.2.2.1 hl (by decide) dl_665 dl_666 dl_667 dl_668 dl_669 ?_
  refine law_call (N := tM48) (Y := tY48) (vs := [.int (xs 1)]) (rest := w.toList ++ []) C0 hs hW1 hl.1 hc3 rfl rfl rfl rfl rfl (kIs_ok (c := 8059) (by decide +kernel)) (kIs_ok (c := 8060) (by decide +kernel)) (kIs_ok (c := 8061) (by decide +kernel)) (d0 := 12) rfl hr (lw_ad ham hpre) (has _) (lw_rest w) hcs hsl dl_670 (fun o2 ho2 w2 H2 locs2 ws2 tys2 hov2 hpre2 hW2 => ?_)
  obtain ⟨z, rfl, rfl⟩ := eSm_ok (hsm o2 ho2) hov hov2
  exact lv_icmp_eq (tgt := 1191) hx hb dl_673 (by decide) (fun _ => law_end C0 hW2.2.2.2.1 hl hcs hsl) (fun q => absurd rfl q)
theorem law_together {sr : List (Int × Int)} {σ : Nat → Int} (hs : eSg sr σ) {as : List eV} (hP : PairOk adK adV l sr 159 50 as) (C0 : lX p s m meth c b xs adK adV) {H : Heap} {locs : List Loc} {ws : va_W} {tys : List (ClassId × FieldType)} {ls : Array Slot} {ax am cs sl : Nat} (hW : lWd D s σ hFresh H locs ws tys) (hax : (ws.map Prod.fst)[0]? = some ax) (ham : (ws.map Prod.fst)[70]? = some am) (hl : lv_has ls 4 [(0, .ref b), (1, .ref ax), (2, .ref am), (3, .int 0)]) (hcs : cs ≤ 600000) (hsl : sl ≤ 7302250) (has : ∀ ad : List Nat, eAll (eOk ad σ) as [.int (xs 1)]) : W p l e room_1 s m #[Value.ref b] below meth c H locs cs sl (lw_Z below #[Value.ref b] s) (F0 m 678 ls []) := by
  obtain ⟨⟨hx, hb, -, -, -, -, -, -, -, -⟩, -, -⟩ := id C0
  obtain ⟨os, hc1, hc2⟩ := hP
  refine lv_aload_n hx hb dl_678 rfl (lv_at hl 1 rfl) ?_
  refine law_arg (k := 1) C0 hW.2.2.2.1 hl (by decide) dl_679 dl_680 dl_681 dl_682 dl_683 ?_
  refine law_call (N := tM159) (Y := tY159) (vs := [.int (xs 1)]) (rest := []) C0 hs hW hl.1 hc1 rfl rfl rfl rfl rfl (kIs_ok (c := 5060) (by decide +kernel)) (kIs_ok (c := 5061) (by decide +kernel)) (kIs_ok (c := 5062) (by decide +kernel)) (d0 := 11) rfl rfl hax (has _) (by decide) hcs hsl dl_684 (fun o ho w H1 locs1 ws1 tys1 hov hpre hW1 => ?_)
  obtain ⟨hr, os2, hc3, hsm⟩ := hc2 o ho
  refine lv_aload_n hx hb dl_687 rfl (lv_at hl 2 rfl) ?_
  refine law_arg (k := 1) C0 hW1.2.2.2.1 hl (by decide) dl_688 dl_689 dl_690 dl_691 dl_692 ?_
  refine law_call (N := tM50) (Y := tY50) (vs := [.int (xs 1)]) (rest := w.toList ++ []) C0 hs hW1 hl.1 hc3 rfl rfl rfl rfl rfl (kIs_ok (c := 8070) (by decide +kernel)) (kIs_ok (c := 8071) (by decide +kernel)) (kIs_ok (c := 8072) (by decide +kernel)) (d0 := 12) rfl hr (lw_ad ham hpre) (has _) (lw_rest w) hcs hsl dl_693 (fun o2 ho2 w2 H2 locs2 ws2 tys2 hov2 hpre2 hW2 => ?_)
  obtain ⟨z, rfl, rfl⟩ := eSm_ok (hsm o2 ho2) hov hov2
  exact lv_icmp_eq (tgt := 1191) hx hb dl_696 (by decide) (fun _ => law_end C0 hW2.2.2.2.1 hl hcs hsl) (fun q => absurd rfl q)
theorem law_when {sr : List (Int × Int)} {σ : Nat → Int} (hs : eSg sr σ) {as : List eV} (hP : PairOk adK adV l sr 160 51 as) (C0 : lX p s m meth c b xs adK adV) {H : Heap} {locs : List Loc} {ws : va_W} {tys : List (ClassId × FieldType)} {ls : Array Slot} {ax am cs sl : Nat} (hW : lWd D s σ hFresh H locs ws tys) (hax : (ws.map Prod.fst)[0]? = some ax) (ham : (ws.map Prod.fst)[70]? = some am) (hl : lv_has ls 4 [(0, .ref b), (1, .ref ax), (2, .ref am), (3, .int 0)]) (hcs : cs ≤ 600000) (hsl : sl ≤ 7302250) (has : ∀ ad : List Nat, eAll (eOk ad σ) as [.int (xs 1)]) : W p l e room_1 s m #[Value.ref b] below meth c H locs cs sl (lw_Z below #[Value.ref b] s) (F0 m 701 ls []) := by
  obtain ⟨⟨hx, hb, -, -, -, -, -, -, -, -⟩, -, -⟩ := id C0
  obtain ⟨os, hc1, hc2⟩ := hP
  refine lv_aload_n hx hb dl_701 rfl (lv_at hl 1 rfl) ?_
  refine law_arg (k := 1) C0 hW.2.2.2.1 hl (by decide) dl_702 dl_703 dl_704 dl_705 dl_706 ?_
  refine law_call (N := tM160) (Y := tY160) (vs := [.int (xs 1)]) (rest := []) C0 hs hW hl.1 hc1 rfl rfl rfl rfl rfl (kIs_ok (c := 5077) (by decide +kernel)) (kIs_ok (c := 5078) (by decide +kernel)) (kIs_ok (c := 5079) (by decide +kernel)) (d0 := 11) rfl rfl hax (has _) (by decide) hcs hsl dl_707 (fun o ho w H1 locs1 ws1 tys1 hov hpre hW1 => ?_)
  obtain ⟨hr, os2, hc3, hsm⟩ := hc2 o ho
  refine lv_aload_n hx hb dl_710 rfl (lv_at hl 2 rfl) ?_
  refine law_arg (k := 1) C0 hW1.2.2.2.1 hl (by decide) dl_711 dl_712 dl_713 dl_714 dl_715 ?_
  refine law_call (N := tM51) (Y := tY51) (vs := [.int (xs 1)]) (rest := w.toList ++ []) C0 hs hW1 hl.1 hc3 rfl rfl rfl rfl rfl (kIs_ok (c := 8078) (by decide +kernel)) (kIs_ok (c := 8079) (by decide +kernel)) (kIs_ok (c := 8080) (by decide +kernel)) (d0 := 12) rfl hr (lw_ad ham hpre) (has _) (lw_rest w) hcs hsl dl_716 (fun o2 ho2 w2 H2 locs2 ws2 tys2 hov2 hpre2 hW2 => ?_)
  obtain ⟨z, rfl, rfl⟩ := eSm_ok (hsm o2 ho2) hov hov2
  exact lv_icmp_eq (tgt := 1191) hx hb dl_719 (by decide) (fun _ => law_end C0 hW2.2.2.2.1 hl hcs hsl) (fun q => absurd rfl q)
theorem law_thick {sr : List (Int × Int)} {σ : Nat → Int} (hs : eSg sr σ) {as : List eV} (hP : PairOk adK adV l sr 161 52 as) (C0 : lX p s m meth c b xs adK adV) {H : Heap} {locs : List Loc} {ws : va_W} {tys : List (ClassId × FieldType)} {ls : Array Slot} {ax am cs sl : Nat} (hW : lWd D s σ hFresh H locs ws tys) (hax : (ws.map Prod.fst)[0]? = some ax) (ham : (ws.map Prod.fst)[70]? = some am) (hl : lv_has ls 4 [(0, .ref b), (1, .ref ax), (2, .ref am), (3, .int 0)]) (hcs : cs ≤ 600000) (hsl : sl ≤ 7302250) (has : ∀ ad : List Nat, eAll (eOk ad σ) as [.int (xs 1)]) : W p l e room_1 s m #[Value.ref b] below meth c H locs cs sl (lw_Z below #[Value.ref b] s) (F0 m 724 ls []) := by
  obtain ⟨⟨hx, hb, -, -, -, -, -, -, -, -⟩, -, -⟩ := id C0
  obtain ⟨os, hc1, hc2⟩ := hP
  refine lv_aload_n hx hb dl_724 rfl (lv_at hl 1 rfl) ?_
  refine law_arg (k := 1) C0 hW.2.2.2.1 hl (by decide) dl_725 dl_726 dl_727 dl_728 dl_729 ?_
  refine law_call (N := tM161) (Y := tY161) (vs := [.int (xs 1)]) (rest := []) C0 hs hW hl.1 hc1 rfl rfl rfl rfl rfl (kIs_ok (c := 5088) (by decide +kernel)) (kIs_ok (c := 5089) (by decide +kernel)) (kIs_ok (c := 5090) (by decide +kernel)) (d0 := 11) rfl rfl hax (has _) (by decide) hcs hsl dl_730 (fun o ho w H1 locs1 ws1 tys1 hov hpre hW1 => ?_)
  obtain ⟨hr, os2, hc3, hsm⟩ := hc2 o ho
  refine lv_aload_n hx hb dl_733 rfl (lv_at hl 2 rfl) ?_
  refine law_arg (k := 1) C0 hW1.2.2.2.1 hl (by decide) dl_734 dl_735 dl_736 dl_737 dl_738 ?_
  refine law_call (N := tM52) (Y := tY52) (vs := [.int (xs 1)]) (rest := w.toList ++ []) C0 hs hW1 hl.1 hc3 rfl rfl rfl rfl rfl (kIs_ok (c := 8086) (by decide +kernel)) (kIs_ok (c := 8087) (by decide +kernel)) (kIs_ok (c := 8088) (by decide +kernel)) (d0 := 12) rfl hr (lw_ad ham hpre) (has _) (lw_rest w) hcs hsl dl_739 (fun o2 ho2 w2 H2 locs2 ws2 tys2 hov2 hpre2 hW2 => ?_)
  obtain ⟨z, rfl, rfl⟩ := eSm_ok (hsm o2 ho2) hov hov2
  exact lv_icmp_eq (tgt := 1191) hx hb dl_742 (by decide) (fun _ => law_end C0 hW2.2.2.2.1 hl hcs hsl) (fun q => absurd rfl q)
theorem law_cut {sr : List (Int × Int)} {σ : Nat → Int} (hs : eSg sr σ) {as : List eV} (hP : PairOk adK adV l sr 162 54 as) (C0 : lX p s m meth c b xs adK adV) {H : Heap} {locs : List Loc} {ws : va_W} {tys : List (ClassId × FieldType)} {ls : Array Slot} {ax am cs sl : Nat} (hW : lWd D s σ hFresh H locs ws tys) (hax : (ws.map Prod.fst)[0]? = some ax) (ham : (ws.map Prod.fst)[70]? = some am) (hl : lv_has ls 4 [(0, .ref b), (1, .ref ax), (2, .ref am), (3, .int 0)]) (hcs : cs ≤ 600000) (hsl : sl ≤ 7302250) (has : ∀ ad : List Nat, eAll (eOk ad σ) as [.int (xs 1), .int (xs 2)]) : W p l e room_1 s m #[Value.ref b] below meth c H locs cs sl (lw_Z below #[Value.ref b] s) (F0 m 747 ls []) := by
  obtain ⟨⟨hx, hb, -, -, -, -, -, -, -, -⟩, -, -⟩ := id C0
  obtain ⟨os, hc1, hc2⟩ := hP
  refine lv_aload_n hx hb dl_747 rfl (lv_at hl 1 rfl) ?_
  refine law_arg (k := 1) C0 hW.2.2.2.1 hl (by decide) dl_748 dl_749 dl_750 dl_751 dl_752 ?_
  refine law_arg (k := 2) C0 hW.2.2.2.1 hl (by decide) dl_753 dl_754 dl_755 dl_756 dl_757 ?_
  refine law_call (N := tM162) (Y := tY162) (vs := [.int (xs 1), .int (xs 2)]) (rest := []) C0 hs hW hl.1 hc1 rfl rfl rfl rfl rfl (kIs_ok (c := 5097) (by decide +kernel)) (kIs_ok (c := 5098) (by decide +kernel)) (kIs_ok (c := 5099) (by decide +kernel)) (d0 := 11) rfl rfl hax (has _) (by decide) hcs hsl dl_758 (fun o ho w H1 locs1 ws1 tys1 hov hpre hW1 => ?_)
  obtain ⟨hr, os2, hc3, hsm⟩ := hc2 o ho
  refine lv_aload_n hx hb dl_761 rfl (lv_at hl 2 rfl) ?_
  refine law_arg (k := 1) C0 hW1.2.2.2.1 hl (by decide) dl_762 dl_763 dl_764 dl_765 dl_766 ?_
  refine law_arg (k := 2) C0 hW1.2.2.2.1 hl (by decide) dl_767 dl_768 dl_769 dl_770 dl_771 ?_
  refine law_call (N := tM54) (Y := tY54) (vs := [.int (xs 1), .int (xs 2)]) (rest := w.toList ++ []) C0 hs hW1 hl.1 hc3 rfl rfl rfl rfl rfl (kIs_ok (c := 8090) (by decide +kernel)) (kIs_ok (c := 8091) (by decide +kernel)) (kIs_ok (c := 8092) (by decide +kernel)) (d0 := 12) rfl hr (lw_ad ham hpre) (has _) (lw_rest w) hcs hsl dl_772 (fun o2 ho2 w2 H2 locs2 ws2 tys2 hov2 hpre2 hW2 => ?_)
  obtain ⟨z, rfl, rfl⟩ := eSm_ok (hsm o2 ho2) hov hov2
  exact lv_icmp_eq (tgt := 1191) hx hb dl_775 (by decide) (fun _ => law_end C0 hW2.2.2.2.1 hl hcs hsl) (fun q => absurd rfl q)
theorem law_share {sr : List (Int × Int)} {σ : Nat → Int} (hs : eSg sr σ) {as : List eV} (hP : PairOk adK adV l sr 163 55 as) (C0 : lX p s m meth c b xs adK adV) {H : Heap} {locs : List Loc} {ws : va_W} {tys : List (ClassId × FieldType)} {ls : Array Slot} {ax am cs sl : Nat} (hW : lWd D s σ hFresh H locs ws tys) (hax : (ws.map Prod.fst)[0]? = some ax) (ham : (ws.map Prod.fst)[70]? = some am) (hl : lv_has ls 4 [(0, .ref b), (1, .ref ax), (2, .ref am), (3, .int 0)]) (hcs : cs ≤ 600000) (hsl : sl ≤ 7302250) (has : ∀ ad : List Nat, eAll (eOk ad σ) as [.int (xs 1), .int (xs 2)]) : W p l e room_1 s m #[Value.ref b] below meth c H locs cs sl (lw_Z below #[Value.ref b] s) (F0 m 780 ls []) := by
  obtain ⟨⟨hx, hb, -, -, -, -, -, -, -, -⟩, -, -⟩ := id C0
  obtain ⟨os, hc1, hc2⟩ := hP
  refine lv_aload_n hx hb dl_780 rfl (lv_at hl 1 rfl) ?_
  refine law_arg (k := 1) C0 hW.2.2.2.1 hl (by decide) dl_781 dl_782 dl_783 dl_784 dl_785 ?_
  refine law_arg (k := 2) C0 hW.2.2.2.1 hl (by decide) dl_786 dl_787 dl_788 dl_789 dl_790 ?_
  refine law_call (N := tM163) (Y := tY163) (vs := [.int (xs 1), .int (xs 2)]) (rest := []) C0 hs hW hl.1 hc1 rfl rfl rfl rfl rfl (kIs_ok (c := 5120) (by decide +kernel)) (kIs_ok (c := 5121) (by decide +kernel)) (kIs_ok (c := 5122) (by decide +kernel)) (d0 := 11) rfl rfl hax (has _) (by decide) hcs hsl dl_791 (fun o ho w H1 locs1 ws1 tys1 hov hpre hW1 => ?_)
  obtain ⟨hr, os2, hc3, hsm⟩ := hc2 o ho
  refine lv_aload_n hx hb dl_794 rfl (lv_at hl 2 rfl) ?_
  refine law_arg (k := 1) C0 hW1.2.2.2.1 hl (by decide) dl_795 dl_796 dl_797 dl_798 dl_799 ?_
  refine law_arg (k := 2) C0 hW1.2.2.2.1 hl (by decide) dl_800 dl_801 dl_802 dl_803 dl_804 ?_
  refine law_call (N := tM55) (Y := tY55) (vs := [.int (xs 1), .int (xs 2)]) (rest := w.toList ++ []) C0 hs hW1 hl.1 hc3 rfl rfl rfl rfl rfl (kIs_ok (c := 8111) (by decide +kernel)) (kIs_ok (c := 8112) (by decide +kernel)) (kIs_ok (c := 8113) (by decide +kernel)) (d0 := 12) rfl hr (lw_ad ham hpre) (has _) (lw_rest w) hcs hsl dl_805 (fun o2 ho2 w2 H2 locs2 ws2 tys2 hov2 hpre2 hW2 => ?_)
  obtain ⟨z, rfl, rfl⟩ := eSm_ok (hsm o2 ho2) hov hov2
  exact lv_icmp_eq (tgt := 1191) hx hb dl_808 (by decide) (fun _ => law_end C0 hW2.2.2.2.1 hl hcs hsl) (fun q => absurd rfl q)
theorem law_without {sr : List (Int × Int)} {σ : Nat → Int} (hs : eSg sr σ) {as : List eV} (hP : PairOk adK adV l sr 164 57 as) (C0 : lX p s m meth c b xs adK adV) {H : Heap} {locs : List Loc} {ws : va_W} {tys : List (ClassId × FieldType)} {ls : Array Slot} {ax am cs sl : Nat} (hW : lWd D s σ hFresh H locs ws tys) (hax : (ws.map Prod.fst)[0]? = some ax) (ham : (ws.map Prod.fst)[70]? = some am) (hl : lv_has ls 4 [(0, .ref b), (1, .ref ax), (2, .ref am), (3, .int 0)]) (hcs : cs ≤ 600000) (hsl : sl ≤ 7302250) (has : ∀ ad : List Nat, eAll (eOk ad σ) as [.int (xs 1)]) : W p l e room_1 s m #[Value.ref b] below meth c H locs cs sl (lw_Z below #[Value.ref b] s) (F0 m 813 ls []) := by
  obtain ⟨⟨hx, hb, -, -, -, -, -, -, -, -⟩, -, -⟩ := id C0
  obtain ⟨os, hc1, hc2⟩ := hP
  refine lv_aload_n hx hb dl_813 rfl (lv_at hl 1 rfl) ?_
  refine law_arg (k := 1) C0 hW.2.2.2.1 hl (by decide) dl_814 dl_815 dl_816 dl_817 dl_818 ?_
  refine law_call (N := tM164) (Y := tY164) (vs := [.int (xs 1)]) (rest := []) C0 hs hW hl.1 hc1 rfl rfl rfl rfl rfl (kIs_ok (c := 5124) (by decide +kernel)) (kIs_ok (c := 5125) (by decide +kernel)) (kIs_ok (c := 5126) (by decide +kernel)) (d0 := 11) rfl rfl hax (has _) (by decide) hcs hsl dl_819 (fun o ho w H1 locs1 ws1 tys1 hov hpre hW1 => ?_)
  obtain ⟨hr, os2, hc3, hsm⟩ := hc2 o ho
  refine lv_aload_n hx hb dl_822 rfl (lv_at hl 2 rfl) ?_
  refine law_arg (k := 1) C0 hW1.2.2.2.1 hl (by decide) dl_823 dl_824 dl_825 dl_826 dl_827 ?_
  refine law_call (N := tM57) (Y := tY57) (vs := [.int (xs 1)]) (rest := w.toList ++ []) C0 hs hW1 hl.1 hc3 rfl rfl rfl rfl rfl (kIs_ok (c := 8115) (by decide +kernel)) (kIs_ok (c := 8116) (by decide +kernel)) (kIs_ok (c := 8117) (by decide +kernel)) (d0 := 12) rfl hr (lw_ad ham hpre) (has _) (lw_rest w) hcs hsl dl_828 (fun o2 ho2 w2 H2 locs2 ws2 tys2 hov2 hpre2 hW2 => ?_)
  obtain ⟨z, rfl, rfl⟩ := eSm_ok (hsm o2 ho2) hov hov2
  exact lv_icmp_eq (tgt := 1191) hx hb dl_831 (by decide) (fun _ => law_end C0 hW2.2.2.2.1 hl hcs hsl) (fun q => absurd rfl q)
theorem law_needed {sr : List (Int × Int)} {σ : Nat → Int} (hs : eSg sr σ) {as : List eV} (hP : PairOk adK adV l sr 165 58 as) (C0 : lX p s m meth c b xs adK adV) {H : Heap} {locs : List Loc} {ws : va_W} {tys : List (ClassId × FieldType)} {ls : Array Slot} {ax am cs sl : Nat} (hW : lWd D s σ hFresh H locs ws tys) (hax : (ws.map Prod.fst)[0]? = some ax) (ham : (ws.map Prod.fst)[70]? = some am) (hl : lv_has ls 4 [(0, .ref b), (1, .ref ax), (2, .ref am), (3, .int 0)]) (hcs : cs ≤ 600000) (hsl : sl ≤ 7302250) (has : ∀ ad : List Nat, eAll (eOk ad σ) as []) : W p l e room_1 s m #[Value.ref b] below meth c H locs cs sl (lw_Z below #[Value.ref b] s) (F0 m 836 ls []) := by
  obtain ⟨⟨hx, hb, -, -, -, -, -, -, -, -⟩, -, -⟩ := id C0
  obtain ⟨os, hc1, hc2⟩ := hP
  refine lv_aload_n hx hb dl_836 rfl (lv_at hl 1 rfl) ?_
  refine law_call (N := tM165) (Y := tY165) (vs := []) (rest := []) C0 hs hW hl.1 hc1 rfl rfl rfl rfl rfl (kIs_ok (c := 5133) (by decide +kernel)) (kIs_ok (c := 5134) (by decide +kernel)) (kIs_ok (c := 5135) (by decide +kernel)) (d0 := 11) rfl rfl hax (has _) (by decide) hcs hsl dl_837 (fun o ho w H1 locs1 ws1 tys1 hov hpre hW1 => ?_)
  obtain ⟨hr, os2, hc3, hsm⟩ := hc2 o ho
  refine lv_aload_n hx hb dl_840 rfl (lv_at hl 2 rfl) ?_
  refine law_call (N := tM58) (Y := tY58) (vs := []) (rest := w.toList ++ []) C0 hs hW1 hl.1 hc3 rfl rfl rfl rfl rfl (kIs_ok (c := 8127) (by decide +kernel)) (kIs_ok (c := 8128) (by decide +kernel)) (kIs_ok (c := 8129) (by decide +kernel)) (d0 := 12) rfl hr (lw_ad ham hpre) (has _) (lw_rest w) hcs hsl dl_841 (fun o2 ho2 w2 H2 locs2 ws2 tys2 hov2 hpre2 hW2 => ?_)
  obtain ⟨z, rfl, rfl⟩ := eSm_ok (hsm o2 ho2) hov hov2
  exact lv_icmp_eq (tgt := 1191) hx hb dl_844 (by decide) (fun _ => law_end C0 hW2.2.2.2.1 hl hcs hsl) (fun q => absurd rfl q)
theorem law_hottest {sr : List (Int × Int)} {σ : Nat → Int} (hs : eSg sr σ) {as : List eV} (hP : PairOk adK adV l sr 166 59 as) (C0 : lX p s m meth c b xs adK adV) {H : Heap} {locs : List Loc} {ws : va_W} {tys : List (ClassId × FieldType)} {ls : Array Slot} {ax am cs sl : Nat} (hW : lWd D s σ hFresh H locs ws tys) (hax : (ws.map Prod.fst)[0]? = some ax) (ham : (ws.map Prod.fst)[70]? = some am) (hl : lv_has ls 4 [(0, .ref b), (1, .ref ax), (2, .ref am), (3, .int 0)]) (hcs : cs ≤ 600000) (hsl : sl ≤ 7302250) (has : ∀ ad : List Nat, eAll (eOk ad σ) as [.int (xs 1)]) : W p l e room_1 s m #[Value.ref b] below meth c H locs cs sl (lw_Z below #[Value.ref b] s) (F0 m 849 ls []) := by
  obtain ⟨⟨hx, hb, -, -, -, -, -, -, -, -⟩, -, -⟩ := id C0
  obtain ⟨os, hc1, hc2⟩ := hP
  refine lv_aload_n hx hb dl_849 rfl (lv_at hl 1 rfl) ?_
  refine law_arg (k := 1) C0 hW.2.2.2.1 hl (by decide) dl_850 dl_851 dl_852 dl_853 dl_854 ?_
  refine law_call (N := tM166) (Y := tY166) (vs := [.int (xs 1)]) (rest := []) C0 hs hW hl.1 hc1 rfl rfl rfl rfl rfl (kIs_ok (c := 5137) (by decide +kernel)) (kIs_ok (c := 5138) (by decide +kernel)) (kIs_ok (c := 5139) (by decide +kernel)) (d0 := 11) rfl rfl hax (has _) (by decide) hcs hsl dl_855 (fun o ho w H1 locs1 ws1 tys1 hov hpre hW1 => ?_)
  obtain ⟨hr, os2, hc3, hsm⟩ := hc2 o ho
  refine lv_aload_n hx hb dl_858 rfl (lv_at hl 2 rfl) ?_
  refine law_arg (k := 1) C0 hW1.2.2.2.1 hl (by decide) dl_859 dl_860 dl_861 dl_862 dl_863 ?_
  refine law_call (N := tM59) (Y := tY59) (vs := [.int (xs 1)]) (rest := w.toList ++ []) C0 hs hW1 hl.1 hc3 rfl rfl rfl rfl rfl (kIs_ok (c := 8131) (by decide +kernel)) (kIs_ok (c := 8132) (by decide +kernel)) (kIs_ok (c := 8133) (by decide +kernel)) (d0 := 12) rfl hr (lw_ad ham hpre) (has _) (lw_rest w) hcs hsl dl_864 (fun o2 ho2 w2 H2 locs2 ws2 tys2 hov2 hpre2 hW2 => ?_)
  obtain ⟨z, rfl, rfl⟩ := eSm_ok (hsm o2 ho2) hov hov2
  exact lv_icmp_eq (tgt := 1191) hx hb dl_867 (by decide) (fun _ => law_end C0 hW2.2.2.2.1 hl hcs hsl) (fun q => absurd rfl q)
theorem law_clash {sr : List (Int × Int)} {σ : Nat → Int} (hs : eSg sr σ) {as : List eV} (hP : PairOk adK adV l sr 167 60 as) (C0 : lX p s m meth c b xs adK adV) {H : Heap} {locs : List Loc} {ws : va_W} {tys : List (ClassId × FieldType)} {ls : Array Slot} {ax am cs sl : Nat} (hW : lWd D s σ hFresh H locs ws tys) (hax : (ws.map Prod.fst)[0]? = some ax) (ham : (ws.map Prod.fst)[70]? = some am) (hl : lv_has ls 4 [(0, .ref b), (1, .ref ax), (2, .ref am), (3, .int 0)]) (hcs : cs ≤ 600000) (hsl : sl ≤ 7302250) (has : ∀ ad : List Nat, eAll (eOk ad σ) as [.int (xs 1), .int (xs 2)]) : W p l e room_1 s m #[Value.ref b] below meth c H locs cs sl (lw_Z below #[Value.ref b] s) (F0 m 872 ls []) := by
  obtain ⟨⟨hx, hb, -, -, -, -, -, -, -, -⟩, -, -⟩ := id C0
  obtain ⟨os, hc1, hc2⟩ := hP
  refine lv_aload_n hx hb dl_872 rfl (lv_at hl 1 rfl) ?_
  refine law_arg (k := 1) C0 hW.2.2.2.1 hl (by decide) dl_873 dl_874 dl_875 dl_876 dl_877 ?_
  refine law_arg (k := 2) C0 hW.2.2.2.1 hl (by decide) dl_878 dl_879 dl_880 dl_881 dl_882 ?_
  refine law_call (N := tM167) (Y := tY167) (vs := [.int (xs 1), .int (xs 2)]) (rest := []) C0 hs hW hl.1 hc1 rfl rfl rfl rfl rfl (kIs_ok (c := 5142) (by decide +kernel)) (kIs_ok (c := 5143) (by decide +kernel)) (kIs_ok (c := 5144) (by decide +kernel)) (d0 := 11) rfl rfl hax (has _) (by decide) hcs hsl dl_883 (fun o ho w H1 locs1 ws1 tys1 hov hpre hW1 => ?_)
  obtain ⟨hr, os2, hc3, hsm⟩ := hc2 o ho
  refine lv_aload_n hx hb dl_886 rfl (lv_at hl 2 rfl) ?_
  refine law_arg (k := 1) C0 hW1.2.2.2.1 hl (by decide) dl_887 dl_888 dl_889 dl_890 dl_891 ?_
  refine law_arg (k := 2) C0 hW1.2.2.2.1 hl (by decide) dl_892 dl_893 dl_894 dl_895 dl_896 ?_
  refine law_call (N := tM60) (Y := tY60) (vs := [.int (xs 1), .int (xs 2)]) (rest := w.toList ++ []) C0 hs hW1 hl.1 hc3 rfl rfl rfl rfl rfl (kIs_ok (c := 8135) (by decide +kernel)) (kIs_ok (c := 8136) (by decide +kernel)) (kIs_ok (c := 8137) (by decide +kernel)) (d0 := 12) rfl hr (lw_ad ham hpre) (has _) (lw_rest w) hcs hsl dl_897 (fun o2 ho2 w2 H2 locs2 ws2 tys2 hov2 hpre2 hW2 => ?_)
  obtain ⟨z, rfl, rfl⟩ := eSm_ok (hsm o2 ho2) hov hov2
  exact lv_icmp_eq (tgt := 1191) hx hb dl_900 (by decide) (fun _ => law_end C0 hW2.2.2.2.1 hl hcs hsl) (fun q => absurd rfl q)
theorem law_then {sr : List (Int × Int)} {σ : Nat → Int} (hs : eSg sr σ) {as : List eV} (hP : PairOk adK adV l sr 168 61 as) (C0 : lX p s m meth c b xs adK adV) {H : Heap} {locs : List Loc} {ws : va_W} {tys : List (ClassId × FieldType)} {ls : Array Slot} {ax am cs sl : Nat} (hW : lWd D s σ hFresh H locs ws tys) (hax : (ws.map Prod.fst)[0]? = some ax) (ham : (ws.map Prod.fst)[70]? = some am) (hl : lv_has ls 4 [(0, .ref b), (1, .ref ax), (2, .ref am), (3, .int 0)]) (hcs : cs ≤ 600000) (hsl : sl ≤ 7302250) (has : ∀ ad : List Nat, eAll (eOk ad σ) as [.int (xs 1), .int (xs 2)]) : W p l e room_1 s m #[Value.ref b] below meth c H locs cs sl (lw_Z below #[Value.ref b] s) (F0 m 905 ls []) := by
  obtain ⟨⟨hx, hb, -, -, -, -, -, -, -, -⟩, -, -⟩ := id C0
  obtain ⟨os, hc1, hc2⟩ := hP
  refine lv_aload_n hx hb dl_905 rfl (lv_at hl 1 rfl) ?_
  refine law_arg (k := 1) C0 hW.2.2.2.1 hl (by decide) dl_906 dl_907 dl_908 dl_909 dl_910 ?_
  refine law_arg (k := 2) C0 hW.2.2.2.1 hl (by decide) dl_911 dl_912 dl_913 dl_914 dl_915 ?_
  refine law_call (N := tM168) (Y := tY168) (vs := [.int (xs 1), .int (xs 2)]) (rest := []) C0 hs hW hl.1 hc1 rfl rfl rfl rfl rfl (kIs_ok (c := 5151) (by decide +kernel)) (kIs_ok (c := 5152) (by decide +kernel)) (kIs_ok (c := 5153) (by decide +kernel)) (d0 := 11) rfl rfl hax (has _) (by decide) hcs hsl dl_916 (fun o ho w H1 locs1 ws1 tys1 hov hpre hW1 => ?_)
  obtain ⟨hr, os2, hc3, hsm⟩ := hc2 o ho
  refine lv_aload_n hx hb dl_919 rfl (lv_at hl 2 rfl) ?_
  refine law_arg (k := 1) C0 hW1.2.2.2.1 hl (by decide) dl_920 dl_921 dl_922 dl_923 dl_924 ?_
  refine law_arg (k := 2) C0 hW1.2.2.2.1 hl (by decide) dl_925 dl_926 dl_927 dl_928 dl_929 ?_
  refine law_call (N := tM61) (Y := tY61) (vs := [.int (xs 1), .int (xs 2)]) (rest := w.toList ++ []) C0 hs hW1 hl.1 hc3 rfl rfl rfl rfl rfl (kIs_ok (c := 8139) (by decide +kernel)) (kIs_ok (c := 8140) (by decide +kernel)) (kIs_ok (c := 8141) (by decide +kernel)) (d0 := 12) rfl hr (lw_ad ham hpre) (has _) (lw_rest w) hcs hsl dl_930 (fun o2 ho2 w2 H2 locs2 ws2 tys2 hov2 hpre2 hW2 => ?_)
  obtain ⟨z, rfl, rfl⟩ := eSm_ok (hsm o2 ho2) hov hov2
  exact lv_icmp_eq (tgt := 1191) hx hb dl_933 (by decide) (fun _ => law_end C0 hW2.2.2.2.1 hl hcs hsl) (fun q => absurd rfl q)
theorem law_litIn {sr : List (Int × Int)} {σ : Nat → Int} (hs : eSg sr σ) {as : List eV} (hP : PairOk adK adV l sr 169 62 as) (C0 : lX p s m meth c b xs adK adV) {H : Heap} {locs : List Loc} {ws : va_W} {tys : List (ClassId × FieldType)} {ls : Array Slot} {ax am cs sl : Nat} (hW : lWd D s σ hFresh H locs ws tys) (hax : (ws.map Prod.fst)[0]? = some ax) (ham : (ws.map Prod.fst)[70]? = some am) (hl : lv_has ls 4 [(0, .ref b), (1, .ref ax), (2, .ref am), (3, .int 0)]) (hcs : cs ≤ 600000) (hsl : sl ≤ 7302250) (has : ∀ ad : List Nat, eAll (eOk ad σ) as [.int (xs 1), .int (xs 2)]) : W p l e room_1 s m #[Value.ref b] below meth c H locs cs sl (lw_Z below #[Value.ref b] s) (F0 m 938 ls []) := by
  obtain ⟨⟨hx, hb, -, -, -, -, -, -, -, -⟩, -, -⟩ := id C0
  obtain ⟨os, hc1, hc2⟩ := hP
  refine lv_aload_n hx hb dl_938 rfl (lv_at hl 1 rfl) ?_
  refine law_arg (k := 1) C0 hW.2.2.2.1 hl (by decide) dl_939 dl_940 dl_941 dl_942 dl_943 ?_
  refine law_arg (k := 2) C0 hW.2.2.2.1 hl (by decide) dl_944 dl_945 dl_946 dl_947 dl_948 ?_
  refine law_call (N := tM169) (Y := tY169) (vs := [.int (xs 1), .int (xs 2)]) (rest := []) C0 hs hW hl.1 hc1 rfl rfl rfl rfl rfl (kIs_ok (c := 5160) (by decide +kernel)) (kIs_ok (c := 5161) (by decide +kernel)) (kIs_ok (c := 5162) (by decide +kernel)) (d0 := 11) rfl rfl hax (has _) (by decide) hcs hsl dl_949 (fun o ho w H1 locs1 ws1 tys1 hov hpre hW1 => ?_)
  obtain ⟨hr, os2, hc3, hsm⟩ := hc2 o ho
  refine lv_aload_n hx hb dl_952 rfl (lv_at hl 2 rfl) ?_
  refine law_arg (k := 1) C0 hW1.2.2.2.1 hl (by decide) dl_953 dl_954 dl_955 dl_956 dl_957 ?_
  refine law_arg (k := 2) C0 hW1.2.2.2.1 hl (by decide) dl_958 dl_959 dl_960 dl_961 dl_962 ?_
  refine law_call (N := tM62) (Y := tY62) (vs := [.int (xs 1), .int (xs 2)]) (rest := w.toList ++ []) C0 hs hW1 hl.1 hc3 rfl rfl rfl rfl rfl (kIs_ok (c := 8143) (by decide +kernel)) (kIs_ok (c := 8144) (by decide +kernel)) (kIs_ok (c := 8145) (by decide +kernel)) (d0 := 12) rfl hr (lw_ad ham hpre) (has _) (lw_rest w) hcs hsl dl_963 (fun o2 ho2 w2 H2 locs2 ws2 tys2 hov2 hpre2 hW2 => ?_)
  obtain ⟨z, rfl, rfl⟩ := eSm_ok (hsm o2 ho2) hov hov2
  exact lv_icmp_eq (tgt := 1191) hx hb dl_966 (by decide) (fun _ => law_end C0 hW2.2.2.2.1 hl hcs hsl) (fun q => absurd rfl q)
theorem law_year {sr : List (Int × Int)} {σ : Nat → Int} (hs : eSg sr σ) {as : List eV} (hP : PairOk adK adV l sr 170 63 as) (C0 : lX p s m meth c b xs adK adV) {H : Heap} {locs : List Loc} {ws : va_W} {tys : List (ClassId × FieldType)} {ls : Array Slot} {ax am cs sl : Nat} (hW : lWd D s σ hFresh H locs ws tys) (hax : (ws.map Prod.fst)[0]? = some ax) (ham : (ws.map Prod.fst)[70]? = some am) (hl : lv_has ls 4 [(0, .ref b), (1, .ref ax), (2, .ref am), (3, .int 0)]) (hcs : cs ≤ 600000) (hsl : sl ≤ 7302250) (has : ∀ ad : List Nat, eAll (eOk ad σ) as [.int (xs 1), .int (xs 2)]) : W p l e room_1 s m #[Value.ref b] below meth c H locs cs sl (lw_Z below #[Value.ref b] s) (F0 m 971 ls []) := by
  obtain ⟨⟨hx, hb, -, -, -, -, -, -, -, -⟩, -, -⟩ := id C0
  obtain ⟨os, hc1, hc2⟩ := hP
  refine lv_aload_n hx hb dl_971 rfl (lv_at hl 1 rfl) ?_
  refine law_arg (k := 1) C0 hW.2.2.2.1 hl (by decide) dl_972 dl_973 dl_974 dl_975 dl_976 ?_
  refine law_arg (k := 2) C0 hW.2.2.2.1 hl (by decide) dl_977 dl_978 dl_979 dl_980 dl_981 ?_
  refine law_call (N := tM170) (Y := tY170) (vs := [.int (xs 1), .int (xs 2)]) (rest := []) C0 hs hW hl.1 hc1 rfl rfl rfl rfl rfl (kIs_ok (c := 5164) (by decide +kernel)) (kIs_ok (c := 5165) (by decide +kernel)) (kIs_ok (c := 5166) (by decide +kernel)) (d0 := 11) rfl rfl hax (has _) (by decide) hcs hsl dl_982 (fun o ho w H1 locs1 ws1 tys1 hov hpre hW1 => ?_)
  obtain ⟨hr, os2, hc3, hsm⟩ := hc2 o ho
  refine lv_aload_n hx hb dl_985 rfl (lv_at hl 2 rfl) ?_
  refine law_arg (k := 1) C0 hW1.2.2.2.1 hl (by decide) dl_986 dl_987 dl_988 dl_989 dl_990 ?_
  refine law_arg (k := 2) C0 hW1.2.2.2.1 hl (by decide) dl_991 dl_992 dl_993 dl_994 dl_995 ?_
  refine law_call (N := tM63) (Y := tY63) (vs := [.int (xs 1), .int (xs 2)]) (rest := w.toList ++ []) C0 hs hW1 hl.1 hc3 rfl rfl rfl rfl rfl (kIs_ok (c := 8147) (by decide +kernel)) (kIs_ok (c := 8148) (by decide +kernel)) (kIs_ok (c := 8149) (by decide +kernel)) (d0 := 12) rfl hr (lw_ad ham hpre) (has _) (lw_rest w) hcs hsl dl_996 (fun o2 ho2 w2 H2 locs2 ws2 tys2 hov2 hpre2 hW2 => ?_)
  obtain ⟨z, rfl, rfl⟩ := eSm_ok (hsm o2 ho2) hov hov2
  exact lv_icmp_eq (tgt := 1191) hx hb dl_999 (by decide) (fun _ => law_end C0 hW2.2.2.2.1 hl hcs hsl) (fun q => absurd rfl q)
theorem law_tell0 {sr : List (Int × Int)} {σ : Nat → Int} (hs : eSg sr σ) {as : List eV} (hP : PairOk adK adV l sr 171 64 as) (C0 : lX p s m meth c b xs adK adV) (hz : xs 2 = 0) {H : Heap} {locs : List Loc} {ws : va_W} {tys : List (ClassId × FieldType)} {ls : Array Slot} {ax am cs sl : Nat} (hW : lWd D s σ hFresh H locs ws tys) (hax : (ws.map Prod.fst)[0]? = some ax) (ham : (ws.map Prod.fst)[70]? = some am) (hl : lv_has ls 4 [(0, .ref b), (1, .ref ax), (2, .ref am), (3, .int 0)]) (hcs : cs ≤ 600000) (hsl : sl ≤ 7302250) (has : ∀ ad : List Nat, eAll (eOk ad σ) as [.int (xs 1), .int 0]) : W p l e room_1 s m #[Value.ref b] below meth c H locs cs sl (lw_Z below #[Value.ref b] s) (F0 m 1004 ls []) := by
  obtain ⟨⟨hx, hb, -, -, -, -, -, -, -, -⟩, -, -⟩ := id C0
  obtain ⟨os, hc1, hc2⟩ := hP
  refine lv_aload_n hx hb dl_1004 rfl (lv_at hl 1 rfl) ?_
  refine law_arg (k := 1) C0 hW.2.2.2.1 hl (by decide) dl_1005 dl_1006 dl_1007 dl_1008 dl_1009 ?_
  refine law_arg (k := 2) C0 hW.2.2.2.1 hl (by decide) dl_1010 dl_1011 dl_1012 dl_1013 dl_1014 ?_
  refine lv_if_eq (tgt := 1022) hx hb dl_1015 (by decide) (fun _ => ?_) (fun q => absurd hz q)
  refine lv_iconst (v := 0) hx hb dl_1022 (by decide) ?_
  refine law_call (N := tM171) (Y := tY171) (vs := [.int (xs 1), .int 0]) (rest := []) C0 hs hW hl.1 hc1 rfl rfl rfl rfl rfl (kIs_ok (c := 5177) (by decide +kernel)) (kIs_ok (c := 5178) (by decide +kernel)) (kIs_ok (c := 5179) (by decide +kernel)) (d0 := 11) rfl rfl hax (has _) (by decide) hcs hsl dl_1023 (fun o ho w H1 locs1 ws1 tys1 hov hpre hW1 => ?_)
  obtain ⟨hr, os2, hc3, hsm⟩ := hc2 o ho
  refine lv_aload_n hx hb dl_1026 rfl (lv_at hl 2 rfl) ?_
  refine law_arg (k := 1) C0 hW1.2.2.2.1 hl (by decide) dl_1027 dl_1028 dl_1029 dl_1030 dl_1031 ?_
  refine law_arg (k := 2) C0 hW1.2.2.2.1 hl (by decide) dl_1032 dl_1033 dl_1034 dl_1035 dl_1036 ?_
  refine lv_if_eq (tgt := 1044) hx hb dl_1037 (by decide) (fun _ => ?_) (fun q => absurd hz q)
  refine lv_iconst (v := 0) hx hb dl_1044 (by decide) ?_
  refine law_call (N := tM64) (Y := tY64) (vs := [.int (xs 1), .int 0]) (rest := w.toList ++ []) C0 hs hW1 hl.1 hc3 rfl rfl rfl rfl rfl (kIs_ok (c := 8151) (by decide +kernel)) (kIs_ok (c := 8152) (by decide +kernel)) (kIs_ok (c := 8153) (by decide +kernel)) (d0 := 12) rfl hr (lw_ad ham hpre) (has _) (lw_rest w) hcs hsl dl_1045 (fun o2 ho2 w2 H2 locs2 ws2 tys2 hov2 hpre2 hW2 => ?_)
  obtain ⟨z, rfl, rfl⟩ := eSm_ok (hsm o2 ho2) hov hov2
  exact lv_icmp_eq (tgt := 1191) hx hb dl_1048 (by decide) (fun _ => law_end C0 hW2.2.2.2.1 hl hcs hsl) (fun q => absurd rfl q)
theorem law_tell1 {sr : List (Int × Int)} {σ : Nat → Int} (hs : eSg sr σ) {as : List eV} (hP : PairOk adK adV l sr 171 64 as) (C0 : lX p s m meth c b xs adK adV) (hz : ¬ xs 2 = 0) {H : Heap} {locs : List Loc} {ws : va_W} {tys : List (ClassId × FieldType)} {ls : Array Slot} {ax am cs sl : Nat} (hW : lWd D s σ hFresh H locs ws tys) (hax : (ws.map Prod.fst)[0]? = some ax) (ham : (ws.map Prod.fst)[70]? = some am) (hl : lv_has ls 4 [(0, .ref b), (1, .ref ax), (2, .ref am), (3, .int 0)]) (hcs : cs ≤ 600000) (hsl : sl ≤ 7302250) (has : ∀ ad : List Nat, eAll (eOk ad σ) as [.int (xs 1), .int 1]) : W p l e room_1 s m #[Value.ref b] below meth c H locs cs sl (lw_Z below #[Value.ref b] s) (F0 m 1004 ls []) := by
  obtain ⟨⟨hx, hb, -, -, -, -, -, -, -, -⟩, -, -⟩ := id C0
  obtain ⟨os, hc1, hc2⟩ := hP
  refine lv_aload_n hx hb dl_1004 rfl (lv_at hl 1 rfl) ?_
  refine law_arg (k := 1) C0 hW.2.2.2.1 hl (by decide) dl_1005 dl_1006 dl_1007 dl_1008 dl_1009 ?_
  refine law_arg (k := 2) C0 hW.2.2.2.1 hl (by decide) dl_1010 dl_1011 dl_1012 dl_1013 dl_1014 ?_
  refine lv_if_eq (tgt := 1022) hx hb dl_1015 (by decide) (fun q => absurd q hz) (fun _ => ?_)
  refine lv_iconst (v := 1) hx hb dl_1018 (by decide) ?_
  refine lv_goto (tgt := 1023) hx hb dl_1019 (by decide) ?_
  refine law_call (N := tM171) (Y := tY171) (vs := [.int (xs 1), .int 1]) (rest := []) C0 hs hW hl.1 hc1 rfl rfl rfl rfl rfl (kIs_ok (c := 5177) (by decide +kernel)) (kIs_ok (c := 5178) (by decide +kernel)) (kIs_ok (c := 5179) (by decide +kernel)) (d0 := 11) rfl rfl hax (has _) (by decide) hcs hsl dl_1023 (fun o ho w H1 locs1 ws1 tys1 hov hpre hW1 => ?_)
  obtain ⟨hr, os2, hc3, hsm⟩ := hc2 o ho
  refine lv_aload_n hx hb dl_1026 rfl (lv_at hl 2 rfl) ?_
  refine law_arg (k := 1) C0 hW1.2.2.2.1 hl (by decide) dl_1027 dl_1028 dl_1029 dl_1030 dl_1031 ?_
  refine law_arg (k := 2) C0 hW1.2.2.2.1 hl (by decide) dl_1032 dl_1033 dl_1034 dl_1035 dl_1036 ?_
  refine lv_if_eq (tgt := 1044) hx hb dl_1037 (by decide) (fun q => absurd q hz) (fun _ => ?_)
  refine lv_iconst (v := 1) hx hb dl_1040 (by decide) ?_
  refine lv_goto (tgt := 1045) hx hb dl_1041 (by decide) ?_
  refine law_call (N := tM64) (Y := tY64) (vs := [.int (xs 1), .int 1]) (rest := w.toList ++ []) C0 hs hW1 hl.1 hc3 rfl rfl rfl rfl rfl (kIs_ok (c := 8151) (by decide +kernel)) (kIs_ok (c := 8152) (by decide +kernel)) (kIs_ok (c := 8153) (by decide +kernel)) (d0 := 12) rfl hr (lw_ad ham hpre) (has _) (lw_rest w) hcs hsl dl_1045 (fun o2 ho2 w2 H2 locs2 ws2 tys2 hov2 hpre2 hW2 => ?_)
  obtain ⟨z, rfl, rfl⟩ := eSm_ok (hsm o2 ho2) hov hov2
  exact lv_icmp_eq (tgt := 1191) hx hb dl_1048 (by decide) (fun _ => law_end C0 hW2.2.2.2.1 hl hcs hsl) (fun q => absurd rfl q)
theorem law_forget {sr : List (Int × Int)} {σ : Nat → Int} (hs : eSg sr σ) {as : List eV} (hP : PairOk adK adV l sr 172 65 as) (C0 : lX p s m meth c b xs adK adV) {H : Heap} {locs : List Loc} {ws : va_W} {tys : List (ClassId × FieldType)} {ls : Array Slot} {ax am cs sl : Nat} (hW : lWd D s σ hFresh H locs ws tys) (hax : (ws.map Prod.fst)[0]? = some ax) (ham : (ws.map Prod.fst)[70]? = some am) (hl : lv_has ls 4 [(0, .ref b), (1, .ref ax), (2, .ref am), (3, .int 0)]) (hcs : cs ≤ 600000) (hsl : sl ≤ 7302250) (has : ∀ ad : List Nat, eAll (eOk ad σ) as []) : W p l e room_1 s m #[Value.ref b] below meth c H locs cs sl (lw_Z below #[Value.ref b] s) (F0 m 1053 ls []) := by
  obtain ⟨⟨hx, hb, -, -, -, -, -, -, -, -⟩, -, -⟩ := id C0
  obtain ⟨os, hc1, hc2⟩ := hP
  refine lv_aload_n hx hb dl_1053 rfl (lv_at hl 1 rfl) ?_
  refine law_call (N := tM172) (Y := tY172) (vs := []) (rest := []) C0 hs hW hl.1 hc1 rfl rfl rfl rfl rfl (kIs_ok (c := 5185) (by decide +kernel)) (kIs_ok (c := 5186) (by decide +kernel)) (kIs_ok (c := 5187) (by decide +kernel)) (d0 := 11) rfl rfl hax (has _) (by decide) hcs hsl dl_1054 (fun o ho w H1 locs1 ws1 tys1 hov hpre hW1 => ?_)
  obtain ⟨hr, os2, hc3, hsm⟩ := hc2 o ho
  refine lv_aload_n hx hb dl_1057 rfl (lv_at hl 2 rfl) ?_
  refine law_call (N := tM65) (Y := tY65) (vs := []) (rest := w.toList ++ []) C0 hs hW1 hl.1 hc3 rfl rfl rfl rfl rfl (kIs_ok (c := 8155) (by decide +kernel)) (kIs_ok (c := 8156) (by decide +kernel)) (kIs_ok (c := 8157) (by decide +kernel)) (d0 := 12) rfl hr (lw_ad ham hpre) (has _) (lw_rest w) hcs hsl dl_1058 (fun o2 ho2 w2 H2 locs2 ws2 tys2 hov2 hpre2 hW2 => ?_)
  obtain ⟨z, rfl, rfl⟩ := eSm_ok (hsm o2 ho2) hov hov2
  exact lv_icmp_eq (tgt := 1191) hx hb dl_1061 (by decide) (fun _ => law_end C0 hW2.2.2.2.1 hl hcs hsl) (fun q => absurd rfl q)
theorem law_went {sr : List (Int × Int)} {σ : Nat → Int} (hs : eSg sr σ) {as : List eV} (hP : PairOk adK adV l sr 173 67 as) (C0 : lX p s m meth c b xs adK adV) {H : Heap} {locs : List Loc} {ws : va_W} {tys : List (ClassId × FieldType)} {ls : Array Slot} {ax am cs sl : Nat} (hW : lWd D s σ hFresh H locs ws tys) (hax : (ws.map Prod.fst)[0]? = some ax) (ham : (ws.map Prod.fst)[70]? = some am) (hl : lv_has ls 4 [(0, .ref b), (1, .ref ax), (2, .ref am), (3, .int 0)]) (hcs : cs ≤ 600000) (hsl : sl ≤ 7302250) (has : ∀ ad : List Nat, eAll (eOk ad σ) as [.int (xs 1), .int (xs 2)]) : W p l e room_1 s m #[Value.ref b] below meth c H locs cs sl (lw_Z below #[Value.ref b] s) (F0 m 1066 ls []) := by
  obtain ⟨⟨hx, hb, -, -, -, -, -, -, -, -⟩, -, -⟩ := id C0
  obtain ⟨os, hc1, hc2⟩ := hP
  refine lv_aload_n hx hb dl_1066 rfl (lv_at hl 1 rfl) ?_
  refine law_arg (k := 1) C0 hW.2.2.2.1 hl (by decide) dl_1067 dl_1068 dl_1069 dl_1070 dl_1071 ?_
  refine law_arg (k := 2) C0 hW.2.2.2.1 hl (by decide) dl_1072 dl_1073 dl_1074 dl_1075 dl_1076 ?_
  refine law_call (N := tM173) (Y := tY173) (vs := [.int (xs 1), .int (xs 2)]) (rest := []) C0 hs hW hl.1 hc1 rfl rfl rfl rfl rfl (kIs_ok (c := 5189) (by decide +kernel)) (kIs_ok (c := 5190) (by decide +kernel)) (kIs_ok (c := 5191) (by decide +kernel)) (d0 := 11) rfl rfl hax (has _) (by decide) hcs hsl dl_1077 (fun o ho w H1 locs1 ws1 tys1 hov hpre hW1 => ?_)
  obtain ⟨hr, os2, hc3, hsm⟩ := hc2 o ho
  refine lv_aload_n hx hb dl_1080 rfl (lv_at hl 2 rfl) ?_
  refine law_arg (k := 1) C0 hW1.2.2.2.1 hl (by decide) dl_1081 dl_1082 dl_1083 dl_1084 dl_1085 ?_
  refine law_arg (k := 2) C0 hW1.2.2.2.1 hl (by decide) dl_1086 dl_1087 dl_1088 dl_1089 dl_1090 ?_
  refine law_call (N := tM67) (Y := tY67) (vs := [.int (xs 1), .int (xs 2)]) (rest := w.toList ++ []) C0 hs hW1 hl.1 hc3 rfl rfl rfl rfl rfl (kIs_ok (c := 8159) (by decide +kernel)) (kIs_ok (c := 8160) (by decide +kernel)) (kIs_ok (c := 8161) (by decide +kernel)) (d0 := 12) rfl hr (lw_ad ham hpre) (has _) (lw_rest w) hcs hsl dl_1091 (fun o2 ho2 w2 H2 locs2 ws2 tys2 hov2 hpre2 hW2 => ?_)
  obtain ⟨z, rfl, rfl⟩ := eSm_ok (hsm o2 ho2) hov hov2
  exact lv_icmp_eq (tgt := 1191) hx hb dl_1094 (by decide) (fun _ => law_end C0 hW2.2.2.2.1 hl hcs hsl) (fun q => absurd rfl q)
theorem law_ask {sr : List (Int × Int)} {σ : Nat → Int} (hs : eSg sr σ) {as : List eV} (hP : PairOk adK adV l sr 174 68 as) (C0 : lX p s m meth c b xs adK adV) {H : Heap} {locs : List Loc} {ws : va_W} {tys : List (ClassId × FieldType)} {ls : Array Slot} {ax am cs sl : Nat} (hW : lWd D s σ hFresh H locs ws tys) (hax : (ws.map Prod.fst)[0]? = some ax) (ham : (ws.map Prod.fst)[70]? = some am) (hl : lv_has ls 4 [(0, .ref b), (1, .ref ax), (2, .ref am), (3, .int 0)]) (hcs : cs ≤ 600000) (hsl : sl ≤ 7302250) (has : ∀ ad : List Nat, eAll (eOk ad σ) as [.int (xs 1)]) : W p l e room_1 s m #[Value.ref b] below meth c H locs cs sl (lw_Z below #[Value.ref b] s) (F0 m 1099 ls []) := by
  obtain ⟨⟨hx, hb, -, -, -, -, -, -, -, -⟩, -, -⟩ := id C0
  obtain ⟨os, hc1, hc2⟩ := hP
  refine lv_aload_n hx hb dl_1099 rfl (lv_at hl 1 rfl) ?_
  refine law_arg (k := 1) C0 hW.2.2.2.1 hl (by decide) dl_1100 dl_1101 dl_1102 dl_1103 dl_1104 ?_
  refine law_call (N := tM174) (Y := tY174) (vs := [.int (xs 1)]) (rest := []) C0 hs hW hl.1 hc1 rfl rfl rfl rfl rfl (kIs_ok (c := 5203) (by decide +kernel)) (kIs_ok (c := 5204) (by decide +kernel)) (kIs_ok (c := 5205) (by decide +kernel)) (d0 := 11) rfl rfl hax (has _) (by decide) hcs hsl dl_1105 (fun o ho w H1 locs1 ws1 tys1 hov hpre hW1 => ?_)
  obtain ⟨hr, os2, hc3, hsm⟩ := hc2 o ho
  refine lv_aload_n hx hb dl_1108 rfl (lv_at hl 2 rfl) ?_
  refine law_arg (k := 1) C0 hW1.2.2.2.1 hl (by decide) dl_1109 dl_1110 dl_1111 dl_1112 dl_1113 ?_
  refine law_call (N := tM68) (Y := tY68) (vs := [.int (xs 1)]) (rest := w.toList ++ []) C0 hs hW1 hl.1 hc3 rfl rfl rfl rfl rfl (kIs_ok (c := 8167) (by decide +kernel)) (kIs_ok (c := 8168) (by decide +kernel)) (kIs_ok (c := 8169) (by decide +kernel)) (d0 := 12) rfl hr (lw_ad ham hpre) (has _) (lw_rest w) hcs hsl dl_1114 (fun o2 ho2 w2 H2 locs2 ws2 tys2 hov2 hpre2 hW2 => ?_)
  obtain ⟨z, rfl, rfl⟩ := eSm_ok (hsm o2 ho2) hov hov2
  exact lv_icmp_eq (tgt := 1191) hx hb dl_1117 (by decide) (fun _ => law_end C0 hW2.2.2.2.1 hl hcs hsl) (fun q => absurd rfl q)
theorem law_hold {sr : List (Int × Int)} {σ : Nat → Int} (hs : eSg sr σ) {as : List eV} (hP : PairOk adK adV l sr 175 69 as) (C0 : lX p s m meth c b xs adK adV) {H : Heap} {locs : List Loc} {ws : va_W} {tys : List (ClassId × FieldType)} {ls : Array Slot} {ax am cs sl : Nat} (hW : lWd D s σ hFresh H locs ws tys) (hax : (ws.map Prod.fst)[0]? = some ax) (ham : (ws.map Prod.fst)[70]? = some am) (hl : lv_has ls 4 [(0, .ref b), (1, .ref ax), (2, .ref am), (3, .int 0)]) (hcs : cs ≤ 600000) (hsl : sl ≤ 7302250) (has : ∀ ad : List Nat, eAll (eOk ad σ) as [.int (xs 1)]) : W p l e room_1 s m #[Value.ref b] below meth c H locs cs sl (lw_Z below #[Value.ref b] s) (F0 m 1122 ls []) := by
  obtain ⟨⟨hx, hb, -, -, -, -, -, -, -, -⟩, -, -⟩ := id C0
  obtain ⟨os, hc1, hc2⟩ := hP
  refine lv_aload_n hx hb dl_1122 rfl (lv_at hl 1 rfl) ?_
  refine law_arg (k := 1) C0 hW.2.2.2.1 hl (by decide) dl_1123 dl_1124 dl_1125 dl_1126 dl_1127 ?_
  refine law_call (N := tM175) (Y := tY175) (vs := [.int (xs 1)]) (rest := []) C0 hs hW hl.1 hc1 rfl rfl rfl rfl rfl (kIs_ok (c := 5219) (by decide +kernel)) (kIs_ok (c := 5220) (by decide +kernel)) (kIs_ok (c := 5221) (by decide +kernel)) (d0 := 11) rfl rfl hax (has _) (by decide) hcs hsl dl_1128 (fun o ho w H1 locs1 ws1 tys1 hov hpre hW1 => ?_)
  obtain ⟨hr, os2, hc3, hsm⟩ := hc2 o ho
  refine lv_aload_n hx hb dl_1131 rfl (lv_at hl 2 rfl) ?_
  refine law_arg (k := 1) C0 hW1.2.2.2.1 hl (by decide) dl_1132 dl_1133 dl_1134 dl_1135 dl_1136 ?_
  refine law_call (N := tM69) (Y := tY69) (vs := [.int (xs 1)]) (rest := w.toList ++ []) C0 hs hW1 hl.1 hc3 rfl rfl rfl rfl rfl (kIs_ok (c := 8171) (by decide +kernel)) (kIs_ok (c := 8172) (by decide +kernel)) (kIs_ok (c := 8173) (by decide +kernel)) (d0 := 12) rfl hr (lw_ad ham hpre) (has _) (lw_rest w) hcs hsl dl_1137 (fun o2 ho2 w2 H2 locs2 ws2 tys2 hov2 hpre2 hW2 => ?_)
  obtain ⟨z, rfl, rfl⟩ := eSm_ok (hsm o2 ho2) hov hov2
  exact lv_icmp_eq (tgt := 1191) hx hb dl_1140 (by decide) (fun _ => law_end C0 hW2.2.2.2.1 hl hcs hsl) (fun q => absurd rfl q)
theorem law_restore {sr : List (Int × Int)} {σ : Nat → Int} (hs : eSg sr σ) {as : List eV} (hP : PairOk adK adV l sr 176 70 as) (C0 : lX p s m meth c b xs adK adV) {H : Heap} {locs : List Loc} {ws : va_W} {tys : List (ClassId × FieldType)} {ls : Array Slot} {ax am cs sl : Nat} (hW : lWd D s σ hFresh H locs ws tys) (hax : (ws.map Prod.fst)[0]? = some ax) (ham : (ws.map Prod.fst)[70]? = some am) (hl : lv_has ls 4 [(0, .ref b), (1, .ref ax), (2, .ref am), (3, .int 0)]) (hcs : cs ≤ 600000) (hsl : sl ≤ 7302250) (has : ∀ ad : List Nat, eAll (eOk ad σ) as [.int (xs 1)]) : W p l e room_1 s m #[Value.ref b] below meth c H locs cs sl (lw_Z below #[Value.ref b] s) (F0 m 1145 ls []) := by
  obtain ⟨⟨hx, hb, -, -, -, -, -, -, -, -⟩, -, -⟩ := id C0
  obtain ⟨os, hc1, hc2⟩ := hP
  refine lv_aload_n hx hb dl_1145 rfl (lv_at hl 1 rfl) ?_
  refine law_arg (k := 1) C0 hW.2.2.2.1 hl (by decide) dl_1146 dl_1147 dl_1148 dl_1149 dl_1150 ?_
  refine law_call (N := tM176) (Y := tY176) (vs := [.int (xs 1)]) (rest := []) C0 hs hW hl.1 hc1 rfl rfl rfl rfl rfl (kIs_ok (c := 5227) (by decide +kernel)) (kIs_ok (c := 5228) (by decide +kernel)) (kIs_ok (c := 5229) (by decide +kernel)) (d0 := 11) rfl rfl hax (has _) (by decide) hcs hsl dl_1151 (fun o ho w H1 locs1 ws1 tys1 hov hpre hW1 => ?_)
  obtain ⟨hr, os2, hc3, hsm⟩ := hc2 o ho
  refine lv_aload_n hx hb dl_1154 rfl (lv_at hl 2 rfl) ?_
  refine law_arg (k := 1) C0 hW1.2.2.2.1 hl (by decide) dl_1155 dl_1156 dl_1157 dl_1158 dl_1159 ?_
  refine law_call (N := tM70) (Y := tY70) (vs := [.int (xs 1)]) (rest := w.toList ++ []) C0 hs hW1 hl.1 hc3 rfl rfl rfl rfl rfl (kIs_ok (c := 8175) (by decide +kernel)) (kIs_ok (c := 8176) (by decide +kernel)) (kIs_ok (c := 8177) (by decide +kernel)) (d0 := 12) rfl hr (lw_ad ham hpre) (has _) (lw_rest w) hcs hsl dl_1160 (fun o2 ho2 w2 H2 locs2 ws2 tys2 hov2 hpre2 hW2 => ?_)
  obtain ⟨z, rfl, rfl⟩ := eSm_ok (hsm o2 ho2) hov hov2
  exact lv_icmp_eq (tgt := 1191) hx hb dl_1163 (by decide) (fun _ => law_end C0 hW2.2.2.2.1 hl hcs hsl) (fun q => absurd rfl q)
theorem law_count {sr : List (Int × Int)} {σ : Nat → Int} (hs : eSg sr σ) {as : List eV} (hP : PairOk adK adV l sr 177 71 as) (C0 : lX p s m meth c b xs adK adV) {H : Heap} {locs : List Loc} {ws : va_W} {tys : List (ClassId × FieldType)} {ls : Array Slot} {ax am cs sl : Nat} (hW : lWd D s σ hFresh H locs ws tys) (hax : (ws.map Prod.fst)[0]? = some ax) (ham : (ws.map Prod.fst)[70]? = some am) (hl : lv_has ls 4 [(0, .ref b), (1, .ref ax), (2, .ref am), (3, .int 0)]) (hcs : cs ≤ 600000) (hsl : sl ≤ 7302250) (has : ∀ ad : List Nat, eAll (eOk ad σ) as [.int (xs 1)]) : W p l e room_1 s m #[Value.ref b] below meth c H locs cs sl (lw_Z below #[Value.ref b] s) (F0 m 1168 ls []) := by
  obtain ⟨⟨hx, hb, -, -, -, -, -, -, -, -⟩, -, -⟩ := id C0
  obtain ⟨os, hc1, hc2⟩ := hP
  refine lv_aload_n hx hb dl_1168 rfl (lv_at hl 1 rfl) ?_
  refine law_arg (k := 1) C0 hW.2.2.2.1 hl (by decide) dl_1169 dl_1170 dl_1171 dl_1172 dl_1173 ?_
  refine law_call (N := tM177) (Y := tY177) (vs := [.int (xs 1)]) (rest := []) C0 hs hW hl.1 hc1 rfl rfl rfl rfl rfl (kIs_ok (c := 5237) (by decide +kernel)) (kIs_ok (c := 5238) (by decide +kernel)) (kIs_ok (c := 5239) (by decide +kernel)) (d0 := 11) rfl rfl hax (has _) (by decide) hcs hsl dl_1174 (fun o ho w H1 locs1 ws1 tys1 hov hpre hW1 => ?_)
  obtain ⟨hr, os2, hc3, hsm⟩ := hc2 o ho
  refine lv_aload_n hx hb dl_1177 rfl (lv_at hl 2 rfl) ?_
  refine law_arg (k := 1) C0 hW1.2.2.2.1 hl (by decide) dl_1178 dl_1179 dl_1180 dl_1181 dl_1182 ?_
  refine law_call (N := tM71) (Y := tY71) (vs := [.int (xs 1)]) (rest := w.toList ++ []) C0 hs hW1 hl.1 hc3 rfl rfl rfl rfl rfl (kIs_ok (c := 8179) (by decide +kernel)) (kIs_ok (c := 8180) (by decide +kernel)) (kIs_ok (c := 8181) (by decide +kernel)) (d0 := 12) rfl hr (lw_ad ham hpre) (has _) (lw_rest w) hcs hsl dl_1183 (fun o2 ho2 w2 H2 locs2 ws2 tys2 hov2 hpre2 hW2 => ?_)
  obtain ⟨z, rfl, rfl⟩ := eSm_ok (hsm o2 ho2) hov hov2
  exact lv_icmp_eq (tgt := 1191) hx hb dl_1186 (by decide) (fun _ => law_end C0 hW2.2.2.2.1 hl hcs hsl) (fun q => absurd rfl q)
end LWC
end
section
set_option maxRecDepth 1000000 in
theorem pk_feed_0_t : tPair [(0, 0), (-2147483648, 2147483647), (-2147483648, 2147483647), (-2147483648, 2147483647), (-2147483648, 2147483647), (-2147483648, 2147483647)] tNo tNo 139 1 [.inl (1, 0, 0), .inl (2, 0, 0), .inl (3, 0, 0), .inl (4, 0, 0), .inl (5, 0, 0)] = true := by decide +kernel
theorem pk_feed_0 (adK adV : Nat → Nat) (l : Launch) : PairOk adK adV l [(0, 0), (-2147483648, 2147483647), (-2147483648, 2147483647), (-2147483648, 2147483647), (-2147483648, 2147483647), (-2147483648, 2147483647)] 139 1 [.inl (1, 0, 0), .inl (2, 0, 0), .inl (3, 0, 0), .inl (4, 0, 0), .inl (5, 0, 0)] := tPair0 pk_feed_0_t
set_option maxRecDepth 1000000 in
theorem pk_back_0_t : tPair [(0, 0), (-2147483648, -1)] tNo tNo 141 3 [.inl (1, 0, 0)] = true := by decide +kernel
theorem pk_back_0 (adK adV : Nat → Nat) (l : Launch) : PairOk adK adV l [(0, 0), (-2147483648, -1)] 141 3 [.inl (1, 0, 0)] := tPair0 pk_back_0_t
set_option maxRecDepth 1000000 in
theorem pk_back_1_t : tPair [(0, 0)] tNo tNo 141 3 [.inl (0, 0, 0)] = true := by decide +kernel
theorem pk_back_1 (adK adV : Nat → Nat) (l : Launch) : PairOk adK adV l [(0, 0)] 141 3 [.inl (0, 0, 0)] := tPair0 pk_back_1_t
set_option maxRecDepth 1000000 in
theorem pk_back_2_t : tPair [(0, 0), (1, 2147483647)] tNo tNo 141 3 [.inl (1, 0, 0)] = true := by decide +kernel
theorem pk_back_2 (adK adV : Nat → Nat) (l : Launch) : PairOk adK adV l [(0, 0), (1, 2147483647)] 141 3 [.inl (1, 0, 0)] := tPair0 pk_back_2_t
set_option maxRecDepth 1000000 in
theorem pk_read_0_t : tPair [(0, 0)] tNo tNo 142 11 [] = true := by decide +kernel
theorem pk_read_0 (adK adV : Nat → Nat) (l : Launch) : PairOk adK adV l [(0, 0)] 142 11 [] := tPair0 pk_read_0_t
set_option maxRecDepth 1000000 in
theorem pk_place_0_t : tPair [(0, 0)] tNo tNo 143 12 [] = true := by decide +kernel
theorem pk_place_0 (adK adV : Nat → Nat) (l : Launch) : PairOk adK adV l [(0, 0)] 143 12 [] := tPair0 pk_place_0_t
set_option maxRecDepth 1000000 in
theorem pk_flat_0_t : tPair [(0, 0), (-2147483648, -1), (-2147483648, 2147483647)] tNo tNo 147 33 [.inl (1, 0, 0), .inl (2, 0, 0)] = true := by decide +kernel
theorem pk_flat_0 (adK adV : Nat → Nat) (l : Launch) : PairOk adK adV l [(0, 0), (-2147483648, -1), (-2147483648, 2147483647)] 147 33 [.inl (1, 0, 0), .inl (2, 0, 0)] := tPair0 pk_flat_0_t
set_option maxRecDepth 1000000 in
theorem pk_flat_1_t : tPair [(0, 0), (0, 2147483647), (-2147483648, 2147483647)] tNo tNo 147 33 [.inl (1, 0, 0), .inl (2, 0, 0)] = true := by decide +kernel
theorem pk_flat_1 (adK adV : Nat → Nat) (l : Launch) : PairOk adK adV l [(0, 0), (0, 2147483647), (-2147483648, 2147483647)] 147 33 [.inl (1, 0, 0), .inl (2, 0, 0)] := tPair0 pk_flat_1_t
set_option maxRecDepth 1000000 in
theorem pk_wire_0_t : tPair [(0, 0), (-2147483648, -1), (-2147483648, 2147483647)] tNo tNo 148 34 [.inl (1, 0, 0), .inl (2, 0, 0)] = true := by decide +kernel
theorem pk_wire_0 (adK adV : Nat → Nat) (l : Launch) : PairOk adK adV l [(0, 0), (-2147483648, -1), (-2147483648, 2147483647)] 148 34 [.inl (1, 0, 0), .inl (2, 0, 0)] := tPair0 pk_wire_0_t
set_option maxRecDepth 1000000 in
theorem pk_wire_1_t : tPair [(0, 0), (0, 2147483647), (-2147483648, 2147483647)] tNo tNo 148 34 [.inl (1, 0, 0), .inl (2, 0, 0)] = true := by decide +kernel
theorem pk_wire_1 (adK adV : Nat → Nat) (l : Launch) : PairOk adK adV l [(0, 0), (0, 2147483647), (-2147483648, 2147483647)] 148 34 [.inl (1, 0, 0), .inl (2, 0, 0)] := tPair0 pk_wire_1_t
set_option maxRecDepth 1000000 in
theorem pk_use_0_t : tPair [(0, 0), (-2147483648, -1), (-2147483648, 2147483647)] tNo tNo 149 35 [.inl (1, 0, 0), .inl (2, 0, 0)] = true := by decide +kernel
theorem pk_use_0 (adK adV : Nat → Nat) (l : Launch) : PairOk adK adV l [(0, 0), (-2147483648, -1), (-2147483648, 2147483647)] 149 35 [.inl (1, 0, 0), .inl (2, 0, 0)] := tPair0 pk_use_0_t
set_option maxRecDepth 1000000 in
theorem pk_use_1_t : tPair [(0, 0), (0, 2147483647), (-2147483648, 2147483647)] tNo tNo 149 35 [.inl (1, 0, 0), .inl (2, 0, 0)] = true := by decide +kernel
theorem pk_use_1 (adK adV : Nat → Nat) (l : Launch) : PairOk adK adV l [(0, 0), (0, 2147483647), (-2147483648, 2147483647)] 149 35 [.inl (1, 0, 0), .inl (2, 0, 0)] := tPair0 pk_use_1_t
set_option maxRecDepth 1000000 in
theorem pk_agreeb0_0_t : tPair [(0, 0), (-2147483648, -1)] tNo tNo 150 37 [.inl (1, 0, 0), .inl (0, 0, 0)] = true := by decide +kernel
theorem pk_agreeb0_0 (adK adV : Nat → Nat) (l : Launch) : PairOk adK adV l [(0, 0), (-2147483648, -1)] 150 37 [.inl (1, 0, 0), .inl (0, 0, 0)] := tPair0 pk_agreeb0_0_t
set_option maxRecDepth 1000000 in
theorem pk_agreeb0_1_t : tPair [(0, 0), (0, 2147483647)] tNo tNo 150 37 [.inl (1, 0, 0), .inl (0, 0, 0)] = true := by decide +kernel
theorem pk_agreeb0_1 (adK adV : Nat → Nat) (l : Launch) : PairOk adK adV l [(0, 0), (0, 2147483647)] 150 37 [.inl (1, 0, 0), .inl (0, 0, 0)] := tPair0 pk_agreeb0_1_t
set_option maxRecDepth 1000000 in
theorem pk_agreeb1_0_t : tPair [(0, 0), (-2147483648, -1)] tNo tNo 150 37 [.inl (1, 0, 0), .inl (0, 1, 1)] = true := by decide +kernel
theorem pk_agreeb1_0 (adK adV : Nat → Nat) (l : Launch) : PairOk adK adV l [(0, 0), (-2147483648, -1)] 150 37 [.inl (1, 0, 0), .inl (0, 1, 1)] := tPair0 pk_agreeb1_0_t
set_option maxRecDepth 1000000 in
theorem pk_agreeb1_1_t : tPair [(0, 0), (0, 2147483647)] tNo tNo 150 37 [.inl (1, 0, 0), .inl (0, 1, 1)] = true := by decide +kernel
theorem pk_agreeb1_1 (adK adV : Nat → Nat) (l : Launch) : PairOk adK adV l [(0, 0), (0, 2147483647)] 150 37 [.inl (1, 0, 0), .inl (0, 1, 1)] := tPair0 pk_agreeb1_1_t
set_option maxRecDepth 1000000 in
theorem pk_mend_0_t : tPair [(0, 0), (-2147483648, -1)] tNo tNo 151 38 [.inl (1, 0, 0)] = true := by decide +kernel
theorem pk_mend_0 (adK adV : Nat → Nat) (l : Launch) : PairOk adK adV l [(0, 0), (-2147483648, -1)] 151 38 [.inl (1, 0, 0)] := tPair0 pk_mend_0_t
set_option maxRecDepth 1000000 in
theorem pk_mend_1_t : tPair [(0, 0), (0, 2147483647)] tNo tNo 151 38 [.inl (1, 0, 0)] = true := by decide +kernel
theorem pk_mend_1 (adK adV : Nat → Nat) (l : Launch) : PairOk adK adV l [(0, 0), (0, 2147483647)] 151 38 [.inl (1, 0, 0)] := tPair0 pk_mend_1_t
set_option maxRecDepth 1000000 in
theorem pk_thicken_0_t : tPair [(0, 0), (-2147483648, -1)] tNo tNo 152 39 [.inl (1, 0, 0)] = true := by decide +kernel
theorem pk_thicken_0 (adK adV : Nat → Nat) (l : Launch) : PairOk adK adV l [(0, 0), (-2147483648, -1)] 152 39 [.inl (1, 0, 0)] := tPair0 pk_thicken_0_t
set_option maxRecDepth 1000000 in
theorem pk_thicken_1_t : tPair [(0, 0), (0, 2147483647)] tNo tNo 152 39 [.inl (1, 0, 0)] = true := by decide +kernel
theorem pk_thicken_1 (adK adV : Nat → Nat) (l : Launch) : PairOk adK adV l [(0, 0), (0, 2147483647)] 152 39 [.inl (1, 0, 0)] := tPair0 pk_thicken_1_t
set_option maxRecDepth 1000000 in
theorem pk_pinb0_0_t : tPair [(0, 0), (-2147483648, -1)] tNo tNo 153 40 [.inl (1, 0, 0), .inl (0, 0, 0)] = true := by decide +kernel
theorem pk_pinb0_0 (adK adV : Nat → Nat) (l : Launch) : PairOk adK adV l [(0, 0), (-2147483648, -1)] 153 40 [.inl (1, 0, 0), .inl (0, 0, 0)] := tPair0 pk_pinb0_0_t
set_option maxRecDepth 1000000 in
theorem pk_pinb0_1_t : tPair [(0, 0), (0, 2147483647)] tNo tNo 153 40 [.inl (1, 0, 0), .inl (0, 0, 0)] = true := by decide +kernel
theorem pk_pinb0_1 (adK adV : Nat → Nat) (l : Launch) : PairOk adK adV l [(0, 0), (0, 2147483647)] 153 40 [.inl (1, 0, 0), .inl (0, 0, 0)] := tPair0 pk_pinb0_1_t
set_option maxRecDepth 1000000 in
theorem pk_pinb1_0_t : tPair [(0, 0), (-2147483648, -1)] tNo tNo 153 40 [.inl (1, 0, 0), .inl (0, 1, 1)] = true := by decide +kernel
theorem pk_pinb1_0 (adK adV : Nat → Nat) (l : Launch) : PairOk adK adV l [(0, 0), (-2147483648, -1)] 153 40 [.inl (1, 0, 0), .inl (0, 1, 1)] := tPair0 pk_pinb1_0_t
set_option maxRecDepth 1000000 in
theorem pk_pinb1_1_t : tPair [(0, 0), (0, 2147483647)] tNo tNo 153 40 [.inl (1, 0, 0), .inl (0, 1, 1)] = true := by decide +kernel
theorem pk_pinb1_1 (adK adV : Nat → Nat) (l : Launch) : PairOk adK adV l [(0, 0), (0, 2147483647)] 153 40 [.inl (1, 0, 0), .inl (0, 1, 1)] := tPair0 pk_pinb1_1_t
set_option maxRecDepth 1000000 in
theorem pk_hours_0_t : tPair [(0, 0), (-2147483648, -1)] tNo tNo 154 42 [.inl (1, 0, 0)] = true := by decide +kernel
theorem pk_hours_0 (adK adV : Nat → Nat) (l : Launch) : PairOk adK adV l [(0, 0), (-2147483648, -1)] 154 42 [.inl (1, 0, 0)] := tPair0 pk_hours_0_t
set_option maxRecDepth 1000000 in
theorem pk_hours_1_t : tPair [(0, 0)] tNo tNo 154 42 [.inl (0, 0, 0)] = true := by decide +kernel
theorem pk_hours_1 (adK adV : Nat → Nat) (l : Launch) : PairOk adK adV l [(0, 0)] 154 42 [.inl (0, 0, 0)] := tPair0 pk_hours_1_t
set_option maxRecDepth 1000000 in
theorem pk_hours_3_t : tPair [(0, 0), (73, 2147483647)] tNo tNo 154 42 [.inl (1, 0, 0)] = true := by decide +kernel
theorem pk_hours_3 (adK adV : Nat → Nat) (l : Launch) : PairOk adK adV l [(0, 0), (73, 2147483647)] 154 42 [.inl (1, 0, 0)] := tPair0 pk_hours_3_t
set_option maxRecDepth 1000000 in
theorem pk_undo_0_t : tPair [(0, 0)] tNo tNo 155 43 [] = true := by decide +kernel
theorem pk_undo_0 (adK adV : Nat → Nat) (l : Launch) : PairOk adK adV l [(0, 0)] 155 43 [] := tPair0 pk_undo_0_t
set_option maxRecDepth 1000000 in
theorem pk_way_0_t : tPair [(0, 0), (-2147483648, -1), (-2147483648, 2147483647)] tNo tNo 156 44 [.inl (1, 0, 0), .inl (2, 0, 0)] = true := by decide +kernel
theorem pk_way_0 (adK adV : Nat → Nat) (l : Launch) : PairOk adK adV l [(0, 0), (-2147483648, -1), (-2147483648, 2147483647)] 156 44 [.inl (1, 0, 0), .inl (2, 0, 0)] := tPair0 pk_way_0_t
set_option maxRecDepth 1000000 in
theorem pk_way_1_t : tPair [(0, 0), (0, 2147483647), (-2147483648, 2147483647)] tNo tNo 156 44 [.inl (1, 0, 0), .inl (2, 0, 0)] = true := by decide +kernel
theorem pk_way_1 (adK adV : Nat → Nat) (l : Launch) : PairOk adK adV l [(0, 0), (0, 2147483647), (-2147483648, 2147483647)] 156 44 [.inl (1, 0, 0), .inl (2, 0, 0)] := tPair0 pk_way_1_t
set_option maxRecDepth 1000000 in
theorem pk_peak_0_t : tPair [(0, 0), (-2147483648, -1), (-2147483648, 2147483647), (-2147483648, 2147483647)] tNo tNo 157 46 [.inl (1, 0, 0), .inl (2, 0, 0), .inl (3, 0, 0)] = true := by decide +kernel
theorem pk_peak_0 (adK adV : Nat → Nat) (l : Launch) : PairOk adK adV l [(0, 0), (-2147483648, -1), (-2147483648, 2147483647), (-2147483648, 2147483647)] 157 46 [.inl (1, 0, 0), .inl (2, 0, 0), .inl (3, 0, 0)] := tPair0 pk_peak_0_t
set_option maxRecDepth 1000000 in
theorem pk_peak_1_t : tPair [(0, 0), (0, 2147483647), (-2147483648, 2147483647), (-2147483648, 2147483647)] tNo tNo 157 46 [.inl (1, 0, 0), .inl (2, 0, 0), .inl (3, 0, 0)] = true := by decide +kernel
theorem pk_peak_1 (adK adV : Nat → Nat) (l : Launch) : PairOk adK adV l [(0, 0), (0, 2147483647), (-2147483648, 2147483647), (-2147483648, 2147483647)] 157 46 [.inl (1, 0, 0), .inl (2, 0, 0), .inl (3, 0, 0)] := tPair0 pk_peak_1_t
set_option maxRecDepth 1000000 in
theorem pk_first_0_t : tPair [(0, 0), (-2147483648, -1)] tNo tNo 158 48 [.inl (1, 0, 0)] = true := by decide +kernel
theorem pk_first_0 (adK adV : Nat → Nat) (l : Launch) : PairOk adK adV l [(0, 0), (-2147483648, -1)] 158 48 [.inl (1, 0, 0)] := tPair0 pk_first_0_t
set_option maxRecDepth 1000000 in
theorem pk_first_3_t : tPair [(0, 0), (2, 2147483647)] tNo tNo 158 48 [.inl (1, 0, 0)] = true := by decide +kernel
theorem pk_first_3 (adK adV : Nat → Nat) (l : Launch) : PairOk adK adV l [(0, 0), (2, 2147483647)] 158 48 [.inl (1, 0, 0)] := tPair0 pk_first_3_t
set_option maxRecDepth 1000000 in
theorem pk_together_0_t : tPair [(0, 0), (-2147483648, -1)] tNo tNo 159 50 [.inl (1, 0, 0)] = true := by decide +kernel
theorem pk_together_0 (adK adV : Nat → Nat) (l : Launch) : PairOk adK adV l [(0, 0), (-2147483648, -1)] 159 50 [.inl (1, 0, 0)] := tPair0 pk_together_0_t
set_option maxRecDepth 1000000 in
theorem pk_together_1_t : tPair [(0, 0)] tNo tNo 159 50 [.inl (0, 0, 0)] = true := by decide +kernel
theorem pk_together_1 (adK adV : Nat → Nat) (l : Launch) : PairOk adK adV l [(0, 0)] 159 50 [.inl (0, 0, 0)] := tPair0 pk_together_1_t
end
section
set_option maxRecDepth 1000000 in
theorem pk_together_2_t : tPair [(0, 0)] tNo tNo 159 50 [.inl (0, 1, 1)] = true := by decide +kernel
theorem pk_together_2 (adK adV : Nat → Nat) (l : Launch) : PairOk adK adV l [(0, 0)] 159 50 [.inl (0, 1, 1)] := tPair0 pk_together_2_t
set_option maxRecDepth 1000000 in
theorem pk_together_3_t : tPair [(0, 0), (2, 2147483647)] tNo tNo 159 50 [.inl (1, 0, 0)] = true := by decide +kernel
theorem pk_together_3 (adK adV : Nat → Nat) (l : Launch) : PairOk adK adV l [(0, 0), (2, 2147483647)] 159 50 [.inl (1, 0, 0)] := tPair0 pk_together_3_t
set_option maxRecDepth 1000000 in
theorem pk_when_0_t : tPair [(0, 0), (-2147483648, -1)] tNo tNo 160 51 [.inl (1, 0, 0)] = true := by decide +kernel
theorem pk_when_0 (adK adV : Nat → Nat) (l : Launch) : PairOk adK adV l [(0, 0), (-2147483648, -1)] 160 51 [.inl (1, 0, 0)] := tPair0 pk_when_0_t
set_option maxRecDepth 1000000 in
theorem pk_when_1_t : tPair [(0, 0), (0, 2147483647)] tNo tNo 160 51 [.inl (1, 0, 0)] = true := by decide +kernel
theorem pk_when_1 (adK adV : Nat → Nat) (l : Launch) : PairOk adK adV l [(0, 0), (0, 2147483647)] 160 51 [.inl (1, 0, 0)] := tPair0 pk_when_1_t
set_option maxRecDepth 1000000 in
theorem pk_thick_0_t : tPair [(0, 0), (-2147483648, 0)] tNo tNo 161 52 [.inl (1, 0, 0)] = true := by decide +kernel
theorem pk_thick_0 (adK adV : Nat → Nat) (l : Launch) : PairOk adK adV l [(0, 0), (-2147483648, 0)] 161 52 [.inl (1, 0, 0)] := tPair0 pk_thick_0_t
set_option maxRecDepth 1000000 in
theorem pk_thick_2_t : tPair [(0, 0), (21, 2147483647)] tNo tNo 161 52 [.inl (1, 0, 0)] = true := by decide +kernel
theorem pk_thick_2 (adK adV : Nat → Nat) (l : Launch) : PairOk adK adV l [(0, 0), (21, 2147483647)] 161 52 [.inl (1, 0, 0)] := tPair0 pk_thick_2_t
set_option maxRecDepth 1000000 in
theorem pk_cut_0_t : tPair [(0, 0), (-2147483648, -1), (-2147483648, 2147483647)] tNo tNo 162 54 [.inl (1, 0, 0), .inl (2, 0, 0)] = true := by decide +kernel
theorem pk_cut_0 (adK adV : Nat → Nat) (l : Launch) : PairOk adK adV l [(0, 0), (-2147483648, -1), (-2147483648, 2147483647)] 162 54 [.inl (1, 0, 0), .inl (2, 0, 0)] := tPair0 pk_cut_0_t
set_option maxRecDepth 1000000 in
theorem pk_cut_1_t : tPair [(0, 0), (0, 2147483647), (-2147483648, 2147483647)] tNo tNo 162 54 [.inl (1, 0, 0), .inl (2, 0, 0)] = true := by decide +kernel
theorem pk_cut_1 (adK adV : Nat → Nat) (l : Launch) : PairOk adK adV l [(0, 0), (0, 2147483647), (-2147483648, 2147483647)] 162 54 [.inl (1, 0, 0), .inl (2, 0, 0)] := tPair0 pk_cut_1_t
set_option maxRecDepth 1000000 in
theorem pk_share_0_t : tPair [(0, 0), (-2147483648, -1), (-2147483648, 2147483647)] tNo tNo 163 55 [.inl (1, 0, 0), .inl (2, 0, 0)] = true := by decide +kernel
theorem pk_share_0 (adK adV : Nat → Nat) (l : Launch) : PairOk adK adV l [(0, 0), (-2147483648, -1), (-2147483648, 2147483647)] 163 55 [.inl (1, 0, 0), .inl (2, 0, 0)] := tPair0 pk_share_0_t
set_option maxRecDepth 1000000 in
theorem pk_share_1_t : tPair [(0, 0), (0, 2147483647), (-2147483648, 2147483647)] tNo tNo 163 55 [.inl (1, 0, 0), .inl (2, 0, 0)] = true := by decide +kernel
theorem pk_share_1 (adK adV : Nat → Nat) (l : Launch) : PairOk adK adV l [(0, 0), (0, 2147483647), (-2147483648, 2147483647)] 163 55 [.inl (1, 0, 0), .inl (2, 0, 0)] := tPair0 pk_share_1_t
set_option maxRecDepth 1000000 in
theorem pk_without_0_t : tPair [(0, 0), (-2147483648, -1)] tNo tNo 164 57 [.inl (1, 0, 0)] = true := by decide +kernel
theorem pk_without_0 (adK adV : Nat → Nat) (l : Launch) : PairOk adK adV l [(0, 0), (-2147483648, -1)] 164 57 [.inl (1, 0, 0)] := tPair0 pk_without_0_t
set_option maxRecDepth 1000000 in
theorem pk_without_1_t : tPair [(0, 0), (0, 2147483647)] tNo tNo 164 57 [.inl (1, 0, 0)] = true := by decide +kernel
theorem pk_without_1 (adK adV : Nat → Nat) (l : Launch) : PairOk adK adV l [(0, 0), (0, 2147483647)] 164 57 [.inl (1, 0, 0)] := tPair0 pk_without_1_t
set_option maxRecDepth 1000000 in
theorem pk_needed_0_t : tPair [(0, 0)] tNo tNo 165 58 [] = true := by decide +kernel
theorem pk_needed_0 (adK adV : Nat → Nat) (l : Launch) : PairOk adK adV l [(0, 0)] 165 58 [] := tPair0 pk_needed_0_t
set_option maxRecDepth 1000000 in
theorem pk_hottest_0_t : tPair [(0, 0), (-2147483648, -1)] tNo tNo 166 59 [.inl (1, 0, 0)] = true := by decide +kernel
theorem pk_hottest_0 (adK adV : Nat → Nat) (l : Launch) : PairOk adK adV l [(0, 0), (-2147483648, -1)] 166 59 [.inl (1, 0, 0)] := tPair0 pk_hottest_0_t
set_option maxRecDepth 1000000 in
theorem pk_hottest_1_t : tPair [(0, 0)] tNo tNo 166 59 [.inl (0, 0, 0)] = true := by decide +kernel
theorem pk_hottest_1 (adK adV : Nat → Nat) (l : Launch) : PairOk adK adV l [(0, 0)] 166 59 [.inl (0, 0, 0)] := tPair0 pk_hottest_1_t
set_option maxRecDepth 1000000 in
theorem pk_hottest_2_t : tPair [(0, 0)] tNo tNo 166 59 [.inl (0, 1, 1)] = true := by decide +kernel
theorem pk_hottest_2 (adK adV : Nat → Nat) (l : Launch) : PairOk adK adV l [(0, 0)] 166 59 [.inl (0, 1, 1)] := tPair0 pk_hottest_2_t
set_option maxRecDepth 1000000 in
theorem pk_hottest_3_t : tPair [(0, 0), (2, 2147483647)] tNo tNo 166 59 [.inl (1, 0, 0)] = true := by decide +kernel
theorem pk_hottest_3 (adK adV : Nat → Nat) (l : Launch) : PairOk adK adV l [(0, 0), (2, 2147483647)] 166 59 [.inl (1, 0, 0)] := tPair0 pk_hottest_3_t
set_option maxRecDepth 1000000 in
theorem pk_clash_0_t : tPair [(0, 0), (-2147483648, -1), (-2147483648, 2147483647)] tNo tNo 167 60 [.inl (1, 0, 0), .inl (2, 0, 0)] = true := by decide +kernel
theorem pk_clash_0 (adK adV : Nat → Nat) (l : Launch) : PairOk adK adV l [(0, 0), (-2147483648, -1), (-2147483648, 2147483647)] 167 60 [.inl (1, 0, 0), .inl (2, 0, 0)] := tPair0 pk_clash_0_t
set_option maxRecDepth 1000000 in
theorem pk_clash_1_t : tPair [(0, 0), (0, 2147483647), (-2147483648, 2147483647)] tNo tNo 167 60 [.inl (1, 0, 0), .inl (2, 0, 0)] = true := by decide +kernel
theorem pk_clash_1 (adK adV : Nat → Nat) (l : Launch) : PairOk adK adV l [(0, 0), (0, 2147483647), (-2147483648, 2147483647)] 167 60 [.inl (1, 0, 0), .inl (2, 0, 0)] := tPair0 pk_clash_1_t
set_option maxRecDepth 1000000 in
theorem pk_then_0_t : tPair [(0, 0), (-2147483648, -1), (-2147483648, -1)] tNo tNo 168 61 [.inl (1, 0, 0), .inl (2, 0, 0)] = true := by decide +kernel
theorem pk_then_0 (adK adV : Nat → Nat) (l : Launch) : PairOk adK adV l [(0, 0), (-2147483648, -1), (-2147483648, -1)] 168 61 [.inl (1, 0, 0), .inl (2, 0, 0)] := tPair0 pk_then_0_t
set_option maxRecDepth 1000000 in
theorem pk_then_1_t : tPair [(0, 0), (-2147483648, -1)] tNo tNo 168 61 [.inl (1, 0, 0), .inl (0, 0, 0)] = true := by decide +kernel
theorem pk_then_1 (adK adV : Nat → Nat) (l : Launch) : PairOk adK adV l [(0, 0), (-2147483648, -1)] 168 61 [.inl (1, 0, 0), .inl (0, 0, 0)] := tPair0 pk_then_1_t
end
section
set_option maxRecDepth 1000000 in
theorem pk_then_2_t : tPair [(0, 0), (-2147483648, -1)] tNo tNo 168 61 [.inl (1, 0, 0), .inl (0, 1, 1)] = true := by decide +kernel
theorem pk_then_2 (adK adV : Nat → Nat) (l : Launch) : PairOk adK adV l [(0, 0), (-2147483648, -1)] 168 61 [.inl (1, 0, 0), .inl (0, 1, 1)] := tPair0 pk_then_2_t
set_option maxRecDepth 1000000 in
theorem pk_then_3_t : tPair [(0, 0), (-2147483648, -1)] tNo tNo 168 61 [.inl (1, 0, 0), .inl (0, 2, 2)] = true := by decide +kernel
theorem pk_then_3 (adK adV : Nat → Nat) (l : Launch) : PairOk adK adV l [(0, 0), (-2147483648, -1)] 168 61 [.inl (1, 0, 0), .inl (0, 2, 2)] := tPair0 pk_then_3_t
set_option maxRecDepth 1000000 in
theorem pk_then_4_t : tPair [(0, 0), (-2147483648, -1), (3, 2147483647)] tNo tNo 168 61 [.inl (1, 0, 0), .inl (2, 0, 0)] = true := by decide +kernel
theorem pk_then_4 (adK adV : Nat → Nat) (l : Launch) : PairOk adK adV l [(0, 0), (-2147483648, -1), (3, 2147483647)] 168 61 [.inl (1, 0, 0), .inl (2, 0, 0)] := tPair0 pk_then_4_t
set_option maxRecDepth 1000000 in
theorem pk_then_5_t : tPair [(0, 0), (-2147483648, -1)] tNo tNo 168 61 [.inl (0, 0, 0), .inl (1, 0, 0)] = true := by decide +kernel
theorem pk_then_5 (adK adV : Nat → Nat) (l : Launch) : PairOk adK adV l [(0, 0), (-2147483648, -1)] 168 61 [.inl (0, 0, 0), .inl (1, 0, 0)] := tPair0 pk_then_5_t
set_option maxRecDepth 1000000 in
theorem pk_then_6_t : tPair [(0, 0)] tNo tNo 168 61 [.inl (0, 0, 0), .inl (0, 0, 0)] = true := by decide +kernel
theorem pk_then_6 (adK adV : Nat → Nat) (l : Launch) : PairOk adK adV l [(0, 0)] 168 61 [.inl (0, 0, 0), .inl (0, 0, 0)] := tPair0 pk_then_6_t
set_option maxRecDepth 1000000 in
theorem pk_then_7_t : tPair [(0, 0)] tNo tNo 168 61 [.inl (0, 0, 0), .inl (0, 1, 1)] = true := by decide +kernel
theorem pk_then_7 (adK adV : Nat → Nat) (l : Launch) : PairOk adK adV l [(0, 0)] 168 61 [.inl (0, 0, 0), .inl (0, 1, 1)] := tPair0 pk_then_7_t
set_option maxRecDepth 1000000 in
theorem pk_then_8_t : tPair [(0, 0)] tNo tNo 168 61 [.inl (0, 0, 0), .inl (0, 2, 2)] = true := by decide +kernel
theorem pk_then_8 (adK adV : Nat → Nat) (l : Launch) : PairOk adK adV l [(0, 0)] 168 61 [.inl (0, 0, 0), .inl (0, 2, 2)] := tPair0 pk_then_8_t
set_option maxRecDepth 1000000 in
theorem pk_then_9_t : tPair [(0, 0), (3, 2147483647)] tNo tNo 168 61 [.inl (0, 0, 0), .inl (1, 0, 0)] = true := by decide +kernel
theorem pk_then_9 (adK adV : Nat → Nat) (l : Launch) : PairOk adK adV l [(0, 0), (3, 2147483647)] 168 61 [.inl (0, 0, 0), .inl (1, 0, 0)] := tPair0 pk_then_9_t
set_option maxRecDepth 1000000 in
theorem pk_then_10_t : tPair [(0, 0), (1, 72), (-2147483648, -1)] tNo tNo 168 61 [.inl (1, 0, 0), .inl (2, 0, 0)] = true := by decide +kernel
theorem pk_then_10 (adK adV : Nat → Nat) (l : Launch) : PairOk adK adV l [(0, 0), (1, 72), (-2147483648, -1)] 168 61 [.inl (1, 0, 0), .inl (2, 0, 0)] := tPair0 pk_then_10_t
set_option maxRecDepth 1000000 in
theorem pk_then_14_t : tPair [(0, 0), (1, 72), (3, 2147483647)] tNo tNo 168 61 [.inl (1, 0, 0), .inl (2, 0, 0)] = true := by decide +kernel
theorem pk_then_14 (adK adV : Nat → Nat) (l : Launch) : PairOk adK adV l [(0, 0), (1, 72), (3, 2147483647)] 168 61 [.inl (1, 0, 0), .inl (2, 0, 0)] := tPair0 pk_then_14_t
set_option maxRecDepth 1000000 in
theorem pk_then_15_t : tPair [(0, 0), (73, 2147483647), (-2147483648, -1)] tNo tNo 168 61 [.inl (1, 0, 0), .inl (2, 0, 0)] = true := by decide +kernel
theorem pk_then_15 (adK adV : Nat → Nat) (l : Launch) : PairOk adK adV l [(0, 0), (73, 2147483647), (-2147483648, -1)] 168 61 [.inl (1, 0, 0), .inl (2, 0, 0)] := tPair0 pk_then_15_t
end
section
set_option maxRecDepth 1000000 in
theorem pk_then_16_t : tPair [(0, 0), (73, 2147483647)] tNo tNo 168 61 [.inl (1, 0, 0), .inl (0, 0, 0)] = true := by decide +kernel
theorem pk_then_16 (adK adV : Nat → Nat) (l : Launch) : PairOk adK adV l [(0, 0), (73, 2147483647)] 168 61 [.inl (1, 0, 0), .inl (0, 0, 0)] := tPair0 pk_then_16_t
set_option maxRecDepth 1000000 in
theorem pk_then_17_t : tPair [(0, 0), (73, 2147483647)] tNo tNo 168 61 [.inl (1, 0, 0), .inl (0, 1, 1)] = true := by decide +kernel
theorem pk_then_17 (adK adV : Nat → Nat) (l : Launch) : PairOk adK adV l [(0, 0), (73, 2147483647)] 168 61 [.inl (1, 0, 0), .inl (0, 1, 1)] := tPair0 pk_then_17_t
set_option maxRecDepth 1000000 in
theorem pk_then_18_t : tPair [(0, 0), (73, 2147483647)] tNo tNo 168 61 [.inl (1, 0, 0), .inl (0, 2, 2)] = true := by decide +kernel
theorem pk_then_18 (adK adV : Nat → Nat) (l : Launch) : PairOk adK adV l [(0, 0), (73, 2147483647)] 168 61 [.inl (1, 0, 0), .inl (0, 2, 2)] := tPair0 pk_then_18_t
set_option maxRecDepth 1000000 in
theorem pk_then_19_t : tPair [(0, 0), (73, 2147483647), (3, 2147483647)] tNo tNo 168 61 [.inl (1, 0, 0), .inl (2, 0, 0)] = true := by decide +kernel
theorem pk_then_19 (adK adV : Nat → Nat) (l : Launch) : PairOk adK adV l [(0, 0), (73, 2147483647), (3, 2147483647)] 168 61 [.inl (1, 0, 0), .inl (2, 0, 0)] := tPair0 pk_then_19_t
set_option maxRecDepth 1000000 in
theorem pk_litIn_0_t : tPair [(0, 0), (-2147483648, -1), (-2147483648, 2147483647)] tNo tNo 169 62 [.inl (1, 0, 0), .inl (2, 0, 0)] = true := by decide +kernel
theorem pk_litIn_0 (adK adV : Nat → Nat) (l : Launch) : PairOk adK adV l [(0, 0), (-2147483648, -1), (-2147483648, 2147483647)] 169 62 [.inl (1, 0, 0), .inl (2, 0, 0)] := tPair0 pk_litIn_0_t
set_option maxRecDepth 1000000 in
theorem pk_litIn_1_t : tPair [(0, 0), (0, 2147483647), (-2147483648, 2147483647)] tNo tNo 169 62 [.inl (1, 0, 0), .inl (2, 0, 0)] = true := by decide +kernel
theorem pk_litIn_1 (adK adV : Nat → Nat) (l : Launch) : PairOk adK adV l [(0, 0), (0, 2147483647), (-2147483648, 2147483647)] 169 62 [.inl (1, 0, 0), .inl (2, 0, 0)] := tPair0 pk_litIn_1_t
set_option maxRecDepth 1000000 in
theorem pk_year_0_t : tPair [(0, 0), (-2147483648, -1), (-2147483648, 0)] tNo tNo 170 63 [.inl (1, 0, 0), .inl (2, 0, 0)] = true := by decide +kernel
theorem pk_year_0 (adK adV : Nat → Nat) (l : Launch) : PairOk adK adV l [(0, 0), (-2147483648, -1), (-2147483648, 0)] 170 63 [.inl (1, 0, 0), .inl (2, 0, 0)] := tPair0 pk_year_0_t
set_option maxRecDepth 1000000 in
theorem pk_year_1_t : tPair [(0, 0), (-2147483648, -1), (1, 20)] tNo tNo 170 63 [.inl (1, 0, 0), .inl (2, 0, 0)] = true := by decide +kernel
theorem pk_year_1 (adK adV : Nat → Nat) (l : Launch) : PairOk adK adV l [(0, 0), (-2147483648, -1), (1, 20)] 170 63 [.inl (1, 0, 0), .inl (2, 0, 0)] := tPair0 pk_year_1_t
set_option maxRecDepth 1000000 in
theorem pk_year_2_t : tPair [(0, 0), (-2147483648, -1), (21, 2147483647)] tNo tNo 170 63 [.inl (1, 0, 0), .inl (2, 0, 0)] = true := by decide +kernel
theorem pk_year_2 (adK adV : Nat → Nat) (l : Launch) : PairOk adK adV l [(0, 0), (-2147483648, -1), (21, 2147483647)] 170 63 [.inl (1, 0, 0), .inl (2, 0, 0)] := tPair0 pk_year_2_t
set_option maxRecDepth 1000000 in
theorem pk_year_3_t : tPair [(0, 0), (0, 0), (-2147483648, 0)] tNo tNo 170 63 [.inl (1, 0, 0), .inl (2, 0, 0)] = true := by decide +kernel
theorem pk_year_3 (adK adV : Nat → Nat) (l : Launch) : PairOk adK adV l [(0, 0), (0, 0), (-2147483648, 0)] 170 63 [.inl (1, 0, 0), .inl (2, 0, 0)] := tPair0 pk_year_3_t
set_option maxRecDepth 1000000 in
theorem pk_year_5_t : tPair [(0, 0), (0, 0), (21, 2147483647)] tNo tNo 170 63 [.inl (1, 0, 0), .inl (2, 0, 0)] = true := by decide +kernel
theorem pk_year_5 (adK adV : Nat → Nat) (l : Launch) : PairOk adK adV l [(0, 0), (0, 0), (21, 2147483647)] 170 63 [.inl (1, 0, 0), .inl (2, 0, 0)] := tPair0 pk_year_5_t
set_option maxRecDepth 1000000 in
theorem pk_year_6_t : tPair [(0, 0), (1, 72), (-2147483648, 0)] tNo tNo 170 63 [.inl (1, 0, 0), .inl (2, 0, 0)] = true := by decide +kernel
theorem pk_year_6 (adK adV : Nat → Nat) (l : Launch) : PairOk adK adV l [(0, 0), (1, 72), (-2147483648, 0)] 170 63 [.inl (1, 0, 0), .inl (2, 0, 0)] := tPair0 pk_year_6_t
end
section
set_option maxRecDepth 1000000 in
theorem pk_year_8_t : tPair [(0, 0), (1, 72), (21, 2147483647)] tNo tNo 170 63 [.inl (1, 0, 0), .inl (2, 0, 0)] = true := by decide +kernel
theorem pk_year_8 (adK adV : Nat → Nat) (l : Launch) : PairOk adK adV l [(0, 0), (1, 72), (21, 2147483647)] 170 63 [.inl (1, 0, 0), .inl (2, 0, 0)] := tPair0 pk_year_8_t
set_option maxRecDepth 1000000 in
theorem pk_year_9_t : tPair [(0, 0), (73, 2147483647), (-2147483648, 0)] tNo tNo 170 63 [.inl (1, 0, 0), .inl (2, 0, 0)] = true := by decide +kernel
theorem pk_year_9 (adK adV : Nat → Nat) (l : Launch) : PairOk adK adV l [(0, 0), (73, 2147483647), (-2147483648, 0)] 170 63 [.inl (1, 0, 0), .inl (2, 0, 0)] := tPair0 pk_year_9_t
set_option maxRecDepth 1000000 in
theorem pk_year_10_t : tPair [(0, 0), (73, 2147483647), (1, 20)] tNo tNo 170 63 [.inl (1, 0, 0), .inl (2, 0, 0)] = true := by decide +kernel
theorem pk_year_10 (adK adV : Nat → Nat) (l : Launch) : PairOk adK adV l [(0, 0), (73, 2147483647), (1, 20)] 170 63 [.inl (1, 0, 0), .inl (2, 0, 0)] := tPair0 pk_year_10_t
set_option maxRecDepth 1000000 in
theorem pk_year_11_t : tPair [(0, 0), (73, 2147483647), (21, 2147483647)] tNo tNo 170 63 [.inl (1, 0, 0), .inl (2, 0, 0)] = true := by decide +kernel
theorem pk_year_11 (adK adV : Nat → Nat) (l : Launch) : PairOk adK adV l [(0, 0), (73, 2147483647), (21, 2147483647)] 170 63 [.inl (1, 0, 0), .inl (2, 0, 0)] := tPair0 pk_year_11_t
set_option maxRecDepth 1000000 in
theorem pk_tellb0_0_t : tPair [(0, 0), (-2147483648, -1)] tNo tNo 171 64 [.inl (1, 0, 0), .inl (0, 0, 0)] = true := by decide +kernel
theorem pk_tellb0_0 (adK adV : Nat → Nat) (l : Launch) : PairOk adK adV l [(0, 0), (-2147483648, -1)] 171 64 [.inl (1, 0, 0), .inl (0, 0, 0)] := tPair0 pk_tellb0_0_t
set_option maxRecDepth 1000000 in
theorem pk_tellb0_1_t : tPair [(0, 0), (0, 2147483647)] tNo tNo 171 64 [.inl (1, 0, 0), .inl (0, 0, 0)] = true := by decide +kernel
theorem pk_tellb0_1 (adK adV : Nat → Nat) (l : Launch) : PairOk adK adV l [(0, 0), (0, 2147483647)] 171 64 [.inl (1, 0, 0), .inl (0, 0, 0)] := tPair0 pk_tellb0_1_t
set_option maxRecDepth 1000000 in
theorem pk_tellb1_0_t : tPair [(0, 0), (-2147483648, -1)] tNo tNo 171 64 [.inl (1, 0, 0), .inl (0, 1, 1)] = true := by decide +kernel
theorem pk_tellb1_0 (adK adV : Nat → Nat) (l : Launch) : PairOk adK adV l [(0, 0), (-2147483648, -1)] 171 64 [.inl (1, 0, 0), .inl (0, 1, 1)] := tPair0 pk_tellb1_0_t
set_option maxRecDepth 1000000 in
theorem pk_tellb1_1_t : tPair [(0, 0), (0, 2147483647)] tNo tNo 171 64 [.inl (1, 0, 0), .inl (0, 1, 1)] = true := by decide +kernel
theorem pk_tellb1_1 (adK adV : Nat → Nat) (l : Launch) : PairOk adK adV l [(0, 0), (0, 2147483647)] 171 64 [.inl (1, 0, 0), .inl (0, 1, 1)] := tPair0 pk_tellb1_1_t
set_option maxRecDepth 1000000 in
theorem pk_forget_0_t : tPair [(0, 0)] tNo tNo 172 65 [] = true := by decide +kernel
theorem pk_forget_0 (adK adV : Nat → Nat) (l : Launch) : PairOk adK adV l [(0, 0)] 172 65 [] := tPair0 pk_forget_0_t
set_option maxRecDepth 1000000 in
theorem pk_went_0_t : tPair [(0, 0), (-2147483648, -1), (-2147483648, -1)] tNo tNo 173 67 [.inl (1, 0, 0), .inl (2, 0, 0)] = true := by decide +kernel
theorem pk_went_0 (adK adV : Nat → Nat) (l : Launch) : PairOk adK adV l [(0, 0), (-2147483648, -1), (-2147483648, -1)] 173 67 [.inl (1, 0, 0), .inl (2, 0, 0)] := tPair0 pk_went_0_t
set_option maxRecDepth 1000000 in
theorem pk_went_1_t : tPair [(0, 0), (-2147483648, -1)] tNo tNo 173 67 [.inl (1, 0, 0), .inl (0, 0, 0)] = true := by decide +kernel
theorem pk_went_1 (adK adV : Nat → Nat) (l : Launch) : PairOk adK adV l [(0, 0), (-2147483648, -1)] 173 67 [.inl (1, 0, 0), .inl (0, 0, 0)] := tPair0 pk_went_1_t
set_option maxRecDepth 1000000 in
theorem pk_went_2_t : tPair [(0, 0), (-2147483648, -1)] tNo tNo 173 67 [.inl (1, 0, 0), .inl (0, 1, 1)] = true := by decide +kernel
theorem pk_went_2 (adK adV : Nat → Nat) (l : Launch) : PairOk adK adV l [(0, 0), (-2147483648, -1)] 173 67 [.inl (1, 0, 0), .inl (0, 1, 1)] := tPair0 pk_went_2_t
set_option maxRecDepth 1000000 in
theorem pk_went_3_t : tPair [(0, 0), (-2147483648, -1), (2, 2147483647)] tNo tNo 173 67 [.inl (1, 0, 0), .inl (2, 0, 0)] = true := by decide +kernel
theorem pk_went_3 (adK adV : Nat → Nat) (l : Launch) : PairOk adK adV l [(0, 0), (-2147483648, -1), (2, 2147483647)] 173 67 [.inl (1, 0, 0), .inl (2, 0, 0)] := tPair0 pk_went_3_t
set_option maxRecDepth 1000000 in
theorem pk_went_4_t : tPair [(0, 0), (-2147483648, -1)] tNo tNo 173 67 [.inl (0, 0, 0), .inl (1, 0, 0)] = true := by decide +kernel
theorem pk_went_4 (adK adV : Nat → Nat) (l : Launch) : PairOk adK adV l [(0, 0), (-2147483648, -1)] 173 67 [.inl (0, 0, 0), .inl (1, 0, 0)] := tPair0 pk_went_4_t
set_option maxRecDepth 1000000 in
theorem pk_went_5_t : tPair [(0, 0)] tNo tNo 173 67 [.inl (0, 0, 0), .inl (0, 0, 0)] = true := by decide +kernel
theorem pk_went_5 (adK adV : Nat → Nat) (l : Launch) : PairOk adK adV l [(0, 0)] 173 67 [.inl (0, 0, 0), .inl (0, 0, 0)] := tPair0 pk_went_5_t
set_option maxRecDepth 1000000 in
theorem pk_went_6_t : tPair [(0, 0)] tNo tNo 173 67 [.inl (0, 0, 0), .inl (0, 1, 1)] = true := by decide +kernel
theorem pk_went_6 (adK adV : Nat → Nat) (l : Launch) : PairOk adK adV l [(0, 0)] 173 67 [.inl (0, 0, 0), .inl (0, 1, 1)] := tPair0 pk_went_6_t
set_option maxRecDepth 1000000 in
theorem pk_went_7_t : tPair [(0, 0), (2, 2147483647)] tNo tNo 173 67 [.inl (0, 0, 0), .inl (1, 0, 0)] = true := by decide +kernel
theorem pk_went_7 (adK adV : Nat → Nat) (l : Launch) : PairOk adK adV l [(0, 0), (2, 2147483647)] 173 67 [.inl (0, 0, 0), .inl (1, 0, 0)] := tPair0 pk_went_7_t
set_option maxRecDepth 1000000 in
theorem pk_went_8_t : tPair [(0, 0), (1, 2147483647), (-2147483648, -1)] tNo tNo 173 67 [.inl (1, 0, 0), .inl (2, 0, 0)] = true := by decide +kernel
theorem pk_went_8 (adK adV : Nat → Nat) (l : Launch) : PairOk adK adV l [(0, 0), (1, 2147483647), (-2147483648, -1)] 173 67 [.inl (1, 0, 0), .inl (2, 0, 0)] := tPair0 pk_went_8_t
set_option maxRecDepth 1000000 in
theorem pk_went_9_t : tPair [(0, 0), (1, 2147483647)] tNo tNo 173 67 [.inl (1, 0, 0), .inl (0, 0, 0)] = true := by decide +kernel
theorem pk_went_9 (adK adV : Nat → Nat) (l : Launch) : PairOk adK adV l [(0, 0), (1, 2147483647)] 173 67 [.inl (1, 0, 0), .inl (0, 0, 0)] := tPair0 pk_went_9_t
set_option maxRecDepth 1000000 in
theorem pk_went_10_t : tPair [(0, 0), (1, 2147483647)] tNo tNo 173 67 [.inl (1, 0, 0), .inl (0, 1, 1)] = true := by decide +kernel
theorem pk_went_10 (adK adV : Nat → Nat) (l : Launch) : PairOk adK adV l [(0, 0), (1, 2147483647)] 173 67 [.inl (1, 0, 0), .inl (0, 1, 1)] := tPair0 pk_went_10_t
set_option maxRecDepth 1000000 in
theorem pk_went_11_t : tPair [(0, 0), (1, 2147483647), (2, 2147483647)] tNo tNo 173 67 [.inl (1, 0, 0), .inl (2, 0, 0)] = true := by decide +kernel
theorem pk_went_11 (adK adV : Nat → Nat) (l : Launch) : PairOk adK adV l [(0, 0), (1, 2147483647), (2, 2147483647)] 173 67 [.inl (1, 0, 0), .inl (2, 0, 0)] := tPair0 pk_went_11_t
set_option maxRecDepth 1000000 in
theorem pk_ask_0_t : tPair [(0, 0), (-2147483648, -1)] tNo tNo 174 68 [.inl (1, 0, 0)] = true := by decide +kernel
theorem pk_ask_0 (adK adV : Nat → Nat) (l : Launch) : PairOk adK adV l [(0, 0), (-2147483648, -1)] 174 68 [.inl (1, 0, 0)] := tPair0 pk_ask_0_t
set_option maxRecDepth 1000000 in
theorem pk_ask_1_t : tPair [(0, 0)] tNo tNo 174 68 [.inl (0, 0, 0)] = true := by decide +kernel
theorem pk_ask_1 (adK adV : Nat → Nat) (l : Launch) : PairOk adK adV l [(0, 0)] 174 68 [.inl (0, 0, 0)] := tPair0 pk_ask_1_t
set_option maxRecDepth 1000000 in
theorem pk_ask_2_t : tPair [(0, 0), (1, 2147483647)] tNo tNo 174 68 [.inl (1, 0, 0)] = true := by decide +kernel
theorem pk_ask_2 (adK adV : Nat → Nat) (l : Launch) : PairOk adK adV l [(0, 0), (1, 2147483647)] 174 68 [.inl (1, 0, 0)] := tPair0 pk_ask_2_t
set_option maxRecDepth 1000000 in
theorem pk_hold_0_t : tPair [(0, 0), (-2147483648, -1)] tNo tNo 175 69 [.inl (1, 0, 0)] = true := by decide +kernel
theorem pk_hold_0 (adK adV : Nat → Nat) (l : Launch) : PairOk adK adV l [(0, 0), (-2147483648, -1)] 175 69 [.inl (1, 0, 0)] := tPair0 pk_hold_0_t
set_option maxRecDepth 1000000 in
theorem pk_hold_1_t : tPair [(0, 0)] tNo tNo 175 69 [.inl (0, 0, 0)] = true := by decide +kernel
theorem pk_hold_1 (adK adV : Nat → Nat) (l : Launch) : PairOk adK adV l [(0, 0)] 175 69 [.inl (0, 0, 0)] := tPair0 pk_hold_1_t
set_option maxRecDepth 1000000 in
theorem pk_hold_2_t : tPair [(0, 0)] tNo tNo 175 69 [.inl (0, 1, 1)] = true := by decide +kernel
theorem pk_hold_2 (adK adV : Nat → Nat) (l : Launch) : PairOk adK adV l [(0, 0)] 175 69 [.inl (0, 1, 1)] := tPair0 pk_hold_2_t
end
section
set_option maxRecDepth 1000000 in
theorem pk_hold_3_t : tPair [(0, 0)] tNo tNo 175 69 [.inl (0, 2, 2)] = true := by decide +kernel
theorem pk_hold_3 (adK adV : Nat → Nat) (l : Launch) : PairOk adK adV l [(0, 0)] 175 69 [.inl (0, 2, 2)] := tPair0 pk_hold_3_t
set_option maxRecDepth 1000000 in
theorem pk_hold_4_t : tPair [(0, 0), (3, 2147483647)] tNo tNo 175 69 [.inl (1, 0, 0)] = true := by decide +kernel
theorem pk_hold_4 (adK adV : Nat → Nat) (l : Launch) : PairOk adK adV l [(0, 0), (3, 2147483647)] 175 69 [.inl (1, 0, 0)] := tPair0 pk_hold_4_t
set_option maxRecDepth 1000000 in
theorem pk_restore_0_t : tPair [(0, 0), (-2147483648, -1)] tNo tNo 176 70 [.inl (1, 0, 0)] = true := by decide +kernel
theorem pk_restore_0 (adK adV : Nat → Nat) (l : Launch) : PairOk adK adV l [(0, 0), (-2147483648, -1)] 176 70 [.inl (1, 0, 0)] := tPair0 pk_restore_0_t
set_option maxRecDepth 1000000 in
theorem pk_restore_1_t : tPair [(0, 0)] tNo tNo 176 70 [.inl (0, 0, 0)] = true := by decide +kernel
theorem pk_restore_1 (adK adV : Nat → Nat) (l : Launch) : PairOk adK adV l [(0, 0)] 176 70 [.inl (0, 0, 0)] := tPair0 pk_restore_1_t
set_option maxRecDepth 1000000 in
theorem pk_restore_2_t : tPair [(0, 0)] tNo tNo 176 70 [.inl (0, 1, 1)] = true := by decide +kernel
theorem pk_restore_2 (adK adV : Nat → Nat) (l : Launch) : PairOk adK adV l [(0, 0)] 176 70 [.inl (0, 1, 1)] := tPair0 pk_restore_2_t
set_option maxRecDepth 1000000 in
theorem pk_restore_3_t : tPair [(0, 0)] tNo tNo 176 70 [.inl (0, 2, 2)] = true := by decide +kernel
theorem pk_restore_3 (adK adV : Nat → Nat) (l : Launch) : PairOk adK adV l [(0, 0)] 176 70 [.inl (0, 2, 2)] := tPair0 pk_restore_3_t
set_option maxRecDepth 1000000 in
theorem pk_restore_4_t : tPair [(0, 0), (3, 2147483647)] tNo tNo 176 70 [.inl (1, 0, 0)] = true := by decide +kernel
theorem pk_restore_4 (adK adV : Nat → Nat) (l : Launch) : PairOk adK adV l [(0, 0), (3, 2147483647)] 176 70 [.inl (1, 0, 0)] := tPair0 pk_restore_4_t
set_option maxRecDepth 1000000 in
theorem pk_count_0_t : tPair [(0, 0), (-2147483648, -1)] tNo tNo 177 71 [.inl (1, 0, 0)] = true := by decide +kernel
theorem pk_count_0 (adK adV : Nat → Nat) (l : Launch) : PairOk adK adV l [(0, 0), (-2147483648, -1)] 177 71 [.inl (1, 0, 0)] := tPair0 pk_count_0_t
set_option maxRecDepth 1000000 in
theorem pk_count_1_t : tPair [(0, 0)] tNo tNo 177 71 [.inl (0, 0, 0)] = true := by decide +kernel
theorem pk_count_1 (adK adV : Nat → Nat) (l : Launch) : PairOk adK adV l [(0, 0)] 177 71 [.inl (0, 0, 0)] := tPair0 pk_count_1_t
set_option maxRecDepth 1000000 in
theorem pk_count_2_t : tPair [(0, 0)] tNo tNo 177 71 [.inl (0, 1, 1)] = true := by decide +kernel
theorem pk_count_2 (adK adV : Nat → Nat) (l : Launch) : PairOk adK adV l [(0, 0)] 177 71 [.inl (0, 1, 1)] := tPair0 pk_count_2_t
set_option maxRecDepth 1000000 in
theorem pk_count_3_t : tPair [(0, 0)] tNo tNo 177 71 [.inl (0, 2, 2)] = true := by decide +kernel
theorem pk_count_3 (adK adV : Nat → Nat) (l : Launch) : PairOk adK adV l [(0, 0)] 177 71 [.inl (0, 2, 2)] := tPair0 pk_count_3_t
set_option maxRecDepth 1000000 in
theorem pk_count_4_t : tPair [(0, 0)] tNo tNo 177 71 [.inl (0, 3, 3)] = true := by decide +kernel
theorem pk_count_4 (adK adV : Nat → Nat) (l : Launch) : PairOk adK adV l [(0, 0)] 177 71 [.inl (0, 3, 3)] := tPair0 pk_count_4_t
set_option maxRecDepth 1000000 in
theorem pk_count_5_t : tPair [(0, 0)] tNo tNo 177 71 [.inl (0, 4, 4)] = true := by decide +kernel
theorem pk_count_5 (adK adV : Nat → Nat) (l : Launch) : PairOk adK adV l [(0, 0)] 177 71 [.inl (0, 4, 4)] := tPair0 pk_count_5_t
set_option maxRecDepth 1000000 in
theorem pk_count_6_t : tPair [(0, 0)] tNo tNo 177 71 [.inl (0, 5, 5)] = true := by decide +kernel
theorem pk_count_6 (adK adV : Nat → Nat) (l : Launch) : PairOk adK adV l [(0, 0)] 177 71 [.inl (0, 5, 5)] := tPair0 pk_count_6_t
set_option maxRecDepth 1000000 in
theorem pk_count_7_t : tPair [(0, 0)] tNo tNo 177 71 [.inl (0, 6, 6)] = true := by decide +kernel
theorem pk_count_7 (adK adV : Nat → Nat) (l : Launch) : PairOk adK adV l [(0, 0)] 177 71 [.inl (0, 6, 6)] := tPair0 pk_count_7_t
end
section
set_option maxRecDepth 1000000 in
theorem pk_count_8_t : tPair [(0, 0)] tNo tNo 177 71 [.inl (0, 7, 7)] = true := by decide +kernel
theorem pk_count_8 (adK adV : Nat → Nat) (l : Launch) : PairOk adK adV l [(0, 0)] 177 71 [.inl (0, 7, 7)] := tPair0 pk_count_8_t
set_option maxRecDepth 1000000 in
theorem pk_count_9_t : tPair [(0, 0)] tNo tNo 177 71 [.inl (0, 8, 8)] = true := by decide +kernel
theorem pk_count_9 (adK adV : Nat → Nat) (l : Launch) : PairOk adK adV l [(0, 0)] 177 71 [.inl (0, 8, 8)] := tPair0 pk_count_9_t
set_option maxRecDepth 1000000 in
theorem pk_count_10_t : tPair [(0, 0)] tNo tNo 177 71 [.inl (0, 9, 9)] = true := by decide +kernel
theorem pk_count_10 (adK adV : Nat → Nat) (l : Launch) : PairOk adK adV l [(0, 0)] 177 71 [.inl (0, 9, 9)] := tPair0 pk_count_10_t
set_option maxRecDepth 1000000 in
theorem pk_count_11_t : tPair [(0, 0)] tNo tNo 177 71 [.inl (0, 10, 10)] = true := by decide +kernel
theorem pk_count_11 (adK adV : Nat → Nat) (l : Launch) : PairOk adK adV l [(0, 0)] 177 71 [.inl (0, 10, 10)] := tPair0 pk_count_11_t
set_option maxRecDepth 1000000 in
theorem pk_count_12_t : tPair [(0, 0)] tNo tNo 177 71 [.inl (0, 11, 11)] = true := by decide +kernel
theorem pk_count_12 (adK adV : Nat → Nat) (l : Launch) : PairOk adK adV l [(0, 0)] 177 71 [.inl (0, 11, 11)] := tPair0 pk_count_12_t
set_option maxRecDepth 1000000 in
theorem pk_count_13_t : tPair [(0, 0)] tNo tNo 177 71 [.inl (0, 12, 12)] = true := by decide +kernel
theorem pk_count_13 (adK adV : Nat → Nat) (l : Launch) : PairOk adK adV l [(0, 0)] 177 71 [.inl (0, 12, 12)] := tPair0 pk_count_13_t
set_option maxRecDepth 1000000 in
theorem pk_count_14_t : tPair [(0, 0)] tNo tNo 177 71 [.inl (0, 13, 13)] = true := by decide +kernel
theorem pk_count_14 (adK adV : Nat → Nat) (l : Launch) : PairOk adK adV l [(0, 0)] 177 71 [.inl (0, 13, 13)] := tPair0 pk_count_14_t
set_option maxRecDepth 1000000 in
theorem pk_count_15_t : tPair [(0, 0)] tNo tNo 177 71 [.inl (0, 14, 14)] = true := by decide +kernel
theorem pk_count_15 (adK adV : Nat → Nat) (l : Launch) : PairOk adK adV l [(0, 0)] 177 71 [.inl (0, 14, 14)] := tPair0 pk_count_15_t
set_option maxRecDepth 1000000 in
theorem pk_count_16_t : tPair [(0, 0)] tNo tNo 177 71 [.inl (0, 15, 15)] = true := by decide +kernel
theorem pk_count_16 (adK adV : Nat → Nat) (l : Launch) : PairOk adK adV l [(0, 0)] 177 71 [.inl (0, 15, 15)] := tPair0 pk_count_16_t
set_option maxRecDepth 1000000 in
theorem pk_count_17_t : tPair [(0, 0), (16, 2147483647)] tNo tNo 177 71 [.inl (1, 0, 0)] = true := by decide +kernel
theorem pk_count_17 (adK adV : Nat → Nat) (l : Launch) : PairOk adK adV l [(0, 0), (16, 2147483647)] 177 71 [.inl (1, 0, 0)] := tPair0 pk_count_17_t
end
section
/-! LOOPS AS KNOWN CALLS: a loop's head, compare, exit; which locals and cells count with it; its bound -/
abbrev eSp : Type := Nat × Nat × Nat × Bool × List Nat × List (Nat × Nat) × Nat × Int × Int × Int
def eGenC (n : Nat) (st : Int) (h : eH) (q : Nat × Nat) : eH := match h[q.1]? with
  | some (.inl o) => match o.2[q.2]? with
    | some (.inl v) => h.set q.1 (.inl (o.1, o.2.set q.2 (.inl (n, v.2.1 - st, v.2.2 - st))))
    | _ => h
  | some (.inr (t, m, .inl es)) => match es[q.2]? with
    | some (.inl v) => h.set q.1 (.inr (t, m, .inl (es.set q.2 (.inl (n, v.2.1 - st, v.2.2 - st)))))
    | _ => h
  | _ => h
def eGenL (n : Nat) (st : Int) (l : eL) (i : Nat) : eL := match eGet l i with
  | some (.inl v) => ePut l i (.inl (n, v.2.1 - st, v.2.2 - st))
  | _ => l
def eGen (n : Nat) (st : Int) (ls : List Nat) (cs : List (Nat × Nat)) (S : eS) : eS := (S.1, ls.foldl (eGenL n st) S.2.1, S.2.2.1, cs.foldl (eGenC n st) S.2.2.2.1, S.2.2.2.2.1, S.2.2.2.2.2)
def eRenV (n b : Nat) (bd : Int) (v : eV) : eV := match v with
  | .inl q => cond (Nat.beq q.1 n) (.inl (b, q.2.1 + bd, q.2.2 + bd)) (.inl q)
  | .inr q => .inr q
def eRenC (n b : Nat) (bd : Int) (c : eC) : eC := match c with
  | .inl o => .inl (o.1, o.2.map (eRenV n b bd))
  | .inr (t, m, .inl es) => .inr (t, m, .inl (es.map (eRenV n b bd)))
  | .inr (t, m, .inr q) => .inr (t, m, .inr q)
def eRen (n b : Nat) (bd : Int) (S : eS) : eS := (S.1, S.2.1.map (fun q => (q.1, eRenV n b bd q.2)), S.2.2.1.map (eRenV n b bd), S.2.2.2.1.map (eRenC n b bd), S.2.2.2.2.1, S.2.2.2.2.2)
abbrev eRn : Type := List (Int × Int) → List Nat → eS → Option (List eS)
def eIsE (q r : eI) : Bool := Nat.beq q.1 r.1 && eLe q.2.1 r.2.1 && eLe r.2.1 q.2.1 && eLe q.2.2 r.2.2 && eLe r.2.2 q.2.2
theorem eIsE_ok {q r : eI} (h : eIsE q r = true) : q = r := by
  unfold eIsE at h
  simp only [Bool.and_eq_true] at h
  obtain ⟨⟨⟨⟨h1, h2⟩, h3⟩, h4⟩, h5⟩ := h
  have h1 := Nat.eq_of_beq_eq_true h1
  have h2 := eLe_ok h2
  have h3 := eLe_ok h3
  have h4 := eLe_ok h4
  have h5 := eLe_ok h5
  obtain ⟨a, b, c⟩ := q
  obtain ⟨a', b', c'⟩ := r
  simp only at h1 h2 h3 h4 h5
  rw [h1, show b = b' by omega, show c = c' by omega]
def eEnt (y cp xp : Nat) (gt : Bool) : Bool := match tMs[y]? with
  | some M => match eAt M.1 cp with
    | some (c, .if_icmp k _, _, x, _, _, _) => Nat.beq c cp && Nat.beq x xp && decide (k = cond gt .gt .ge)
    | _ => false
  | none => false
/-- the loop, from its head on: the state at its end -/
def eLpS (y : Nat) (sp : eSp) (R : eRn) (sr : List (Int × Int)) (S : eS) : Option eS := match sp with
  | (hp, cp, xp, gt, ls, cs, b, lo, st, hi) => match R sr [hp] S with
    | some [S0] => match R (sr ++ [(st, hi)]) [cp] (eGen sr.length st ls cs S0) with
      | some [(cp', l, [.inl q, .inl r], h, c1, c2)] => match R (sr ++ [(st, hi - 1)]) [hp] (cp + 3, l, [], h, c1, c2), sr[b]? with
        | some fins, some rb => cond (eEnt y cp xp gt && Nat.blt 0 sr.length && eLe st (rb.1 + (lo + cond gt 1 0)) && eLe (rb.2 + (lo + cond gt 1 0)) hi && eLeS sr ((0, sr.length, -st) :: eId sr.length) S0 (eGen sr.length st ls cs S0) && Nat.beq cp' cp && eIsE q (b, lo, lo) && eIsE r (sr.length, 0, 0) &&
            fins.all (fun f => eLeS (sr ++ [(st, hi - 1)]) ((sr.length, sr.length, -1) :: eId sr.length) f (eGen sr.length st ls cs S0)) &&
            eLeS (sr ++ [(st, hi)]) ((sr.length, b, lo + cond gt 1 0) :: eId sr.length) (xp, l, [], h, c1, c2) (eRen sr.length b (lo + cond gt 1 0) (xp, l, [], h, c1, c2)))
            (some (eRen sr.length b (lo + cond gt 1 0) (xp, l, [], h, c1, c2))) none
        | _, _ => none
      | _ => none
    | _ => none
section ELO
variable {adK adV : Nat → Nat} {l0 : Launch} {d y : Nat}
def eRnOk (adK adV : Nat → Nat) (l0 : Launch) (d y : Nat) (R : eRn) : Prop := ∀ (sr : List (Int × Int)) (stop : List Nat) (S : eS) (fins : List eS), R sr stop S = some fins → eGl (tFz adK adV) l0 tCl lw_g tNs sr tMs tYs d y S fins
theorem eLpS_ok {sp : eSp} {R : eRn} (hR : eRnOk adK adV l0 d y R) {sr : List (Int × Int)} {S So : eS} (h : eLpS y sp R sr S = some So) : eGl (tFz adK adV) l0 tCl lw_g tNs sr tMs tYs d y S [So] := by
  obtain ⟨hp, cp, xp, gt, ls, cs, b, lo, st, hi⟩ := sp
  unfold eLpS at h
  simp only at h
  split at h
  · rename_i S0 h0
    split at h
    · rename_i cp' l q r hh c1 c2 h1
      split at h
      · rename_i fins rb h2 hrb
        obtain ⟨hb, hg⟩ := eCond h
        clear h
        cases hg
        simp only [Bool.and_eq_true] at hb
        obtain ⟨⟨⟨⟨⟨⟨⟨⟨⟨b1, b2⟩, b3⟩, b4⟩, b5⟩, b6⟩, b7⟩, b8⟩, b9⟩, b10⟩ := hb
        have e1 := Nat.eq_of_beq_eq_true b6
        have e2 := eIsE_ok b7
        have e3 := eIsE_ok b8
        subst e1
        subst e2
        subst e3
        have b3 := eLe_ok b3
        have b4 := eLe_ok b4
        refine eGl_trans (hR _ _ _ _ h0) (fun T hT => ?_)
        rw [List.mem_singleton] at hT
        subst hT
        refine eFor (k := cond gt .gt .ge) (bd := lo + cond gt 1 0) (Nat.le_of_ble_eq_true b2) (List.getElem?_eq_some_iff.mp hrb).1 tOk ?_ ?_ b5 (hR _ _ _ _ h1) (hR _ _ _ _ h2) b9 rfl b10 ?_
        · intro M hM
          unfold eEnt at b1
          rw [hM] at b1
          simp only at b1
          split at b1
          · rename_i c k off len x a2 a3 a4 hat
            simp only [Bool.and_eq_true] at b1
            obtain ⟨⟨g1, g2⟩, g3⟩ := b1
            have g1 := Nat.eq_of_beq_eq_true g1
            have g2 := Nat.eq_of_beq_eq_true g2
            have g3 := of_decide_eq_true g3
            subst g1
            subst g2
            subst g3
            exact ⟨off, len, a2, a3, a4, hat⟩
          · cases b1
        · cases gt with
          | true => exact Or.inr ⟨rfl, rfl⟩
          | false => exact Or.inl ⟨rfl, by show lo + 0 = lo; omega⟩
        · intro σ hs
          have := hs.2 _ _ hrb
          exact ⟨by omega, by omega⟩
      · cases h
    · cases h
  · cases h
/-- a run with a loop in it -/
def eRL (y : Nat) (sp : eSp) (R : eRn) : eRn := fun sr stop S => match R sr (sp.1 :: stop) S with
  | some fs => eColl (fun f => cond (Nat.beq f.1 sp.1) (match eLpS y sp R sr f with
    | some So => R sr stop So
    | none => R sr stop f) (some [f])) fs
  | none => none
theorem eRL_ok {sp : eSp} {R : eRn} (hR : eRnOk adK adV l0 d y R) : eRnOk adK adV l0 d y (eRL y sp R) := by
  intro sr stop S fins h
  unfold eRL at h
  split at h
  · rename_i fs hfs
    refine eGl_trans (hR _ _ _ _ hfs) (fun f hf => ?_)
    obtain ⟨zs, hz1, hz2⟩ := eColl_ok h f hf
    refine eGl_mono ?_ hz2
    cases hb : Nat.beq f.1 sp.1 with
    | true =>
      rw [hb] at hz1
      simp only [cond_true] at hz1
      split at hz1
      · rename_i So hSo
        refine eGl_trans (eLpS_ok hR hSo) (fun T hT => ?_)
        rw [List.mem_singleton] at hT
        subst hT
        exact hR _ _ _ _ hz1
      · exact hR _ _ _ _ hz1
    | false =>
      rw [hb] at hz1
      cases hz1
      intro M Y hM hY p e R s m args below meth c hcx D A H0 σ ad0 hs hA hFs Q K
      exact K f List.mem_cons_self
  · cases h
end ELO
/-- the runs: of which methods, with which loops -/
def tR0 (o : List (Int × Int) → Nat → Nat → List eV → eH → Option (List (Option eV × eH))) (d y : Nat) : eRn := fun sr stop S => eExec sr tDf tMs (o sr) 100000 d y stop S
def tLC (R : eRn) (sr : List (Int × Int)) (b : Nat) (as : List eV) (h : eH) : Option (List (Option eV × eH)) := match tMs[b]? with
  | none => none
  | some N => cond (Nat.ble (eCats as) N.2.1) (match R sr [] (0, eArgs 0 as, [], h, 0, 0) with
    | some fs => eOuts N fs
    | none => none) none
theorem tLC_ok {adK adV : Nat → Nat} {l0 : Launch} {R : eRn} {d b : Nat} (hR : eRnOk adK adV l0 d b R) {sr : List (Int × Int)} {as : List eV} {h : eH} {os : List (Option eV × eH)} (hc : tLC R sr b as h = some os) : eCon (tFz adK adV) l0 tCl lw_g tNs sr tMs tYs d b as h os := by
  unfold tLC at hc
  split at hc
  · cases hc
  · rename_i N hN
    obtain ⟨h1, h2⟩ := eCond hc
    split at h2
    · rename_i fs hfs
      exact eCon_of tOk hN (Nat.le_of_ble_eq_true h1) (hR _ _ _ _ hfs) h2
    · cases h2
def tOk1 (adK adV : Nat → Nat) (l0 : Launch) (o : List (Int × Int) → Nat → Nat → List eV → eH → Option (List (Option eV × eH))) : Prop := ∀ (sr : List (Int × Int)) (d b : Nat) (as : List eV) (h : eH) (os : List (Option eV × eH)), o sr d b as h = some os → eCon (tFz adK adV) l0 tCl lw_g tNs sr tMs tYs d b as h os
theorem tR0_ok {adK adV : Nat → Nat} {l0 : Launch} {o : List (Int × Int) → Nat → Nat → List eV → eH → Option (List (Option eV × eH))} (ho : tOk1 adK adV l0 o) (d y : Nat) : eRnOk adK adV l0 d y (tR0 o d y) := fun sr stop S fins h => tRun (ho sr) 100000 d y stop S fins h
def tNo1 : List (Int × Int) → Nat → Nat → List eV → eH → Option (List (Option eV × eH)) := fun _ _ _ _ _ => none
end
section
/-! THE LOOPS of this system as known calls -/
def sp_hours : eSp := (29, 31, 51, false, [2], [(47, 0)], 1, 0, 1, 72)
def sp_after : eSp := (10, 12, 32, false, [3], [(62, 0)], 1, 0, 1, 72)
def sp_calm : eSp := (11, 14, 54, false, [4], [(62, 0)], 1, 0, 1, 72)
def sp_seeds : eSp := (6, 9, 47, false, [5, 4], [], 2, 0, 1, 20)
def sp_gone : eSp := (7, 11, 45, true, [1], [(62, 0)], 0, 200, 2, 201)
def sp_goes : eSp := (2, 4, 17, false, [2], [(108, 55)], 1, 0, 1, 72)
def sp_fgoing : eSp := (2, 6, 28, true, [1], [(108, 55)], 0, 200, 2, 201)
def sp_yearO : eSp := (24, 27, 91, false, [4, 3], [(70, 56)], 2, 0, 1, 20)
def sp_yearI : eSp := (51, 54, 77, false, [6], [(108, 55)], 1, 0, 1, 72)
def tO1 : List (Int × Int) → Nat → Nat → List eV → eH → Option (List (Option eV × eH)) := fun sr d b as h => cond (Nat.beq b 63) (tLC (eRL 63 sp_yearO (eRL 63 sp_yearI (tR0 tNo1 d 63))) sr 63 as h) (cond (Nat.beq b 154) (tLC (eRL 154 sp_hours (tR0 tNo1 d 154)) sr 154 as h) (cond (Nat.beq b 93) (tLC (eRL 93 sp_after (tR0 tNo1 d 93)) sr 93 as h) (cond (Nat.beq b 95) (tLC (eRL 95 sp_calm (tR0 tNo1 d 95)) sr 95 as h) (cond (Nat.beq b 89) (tLC (eRL 89 sp_gone (tR0 tNo1 d 89)) sr 89 as h) (cond (Nat.beq b 32) (tLC (eRL 32 sp_goes (tR0 tNo1 d 32)) sr 32 as h) (cond (Nat.beq b 47) (tLC (eRL 47 sp_fgoing (tR0 tNo1 d 47)) sr 47 as h) (none)))))))
def tO2 : List (Int × Int) → Nat → Nat → List eV → eH → Option (List (Option eV × eH)) := fun sr d b as h => cond (Nat.beq b 94) (tLC (eRL 94 sp_seeds (tR0 tO1 d 94)) sr 94 as h) (tO1 sr d b as h)
theorem tNo1_ok (adK adV : Nat → Nat) (l0 : Launch) : tOk1 adK adV l0 tNo1 := fun _ _ _ _ _ _ h => by cases h
theorem tO1_ok (adK adV : Nat → Nat) (l0 : Launch) : tOk1 adK adV l0 tO1 := by
  intro sr d b as h os hq
  unfold tO1 at hq
  cases hb : Nat.beq b 63 with
  | true =>
    rw [hb] at hq
    have e := Nat.eq_of_beq_eq_true hb
    subst e
    exact tLC_ok (eRL_ok (eRL_ok (tR0_ok (tNo1_ok adK adV l0) d 63))) hq
  | false =>
  rw [hb] at hq
  simp only [cond_false] at hq
  cases hb : Nat.beq b 154 with
  | true =>
    rw [hb] at hq
    have e := Nat.eq_of_beq_eq_true hb
    subst e
    exact tLC_ok (eRL_ok (tR0_ok (tNo1_ok adK adV l0) d 154)) hq
  | false =>
  rw [hb] at hq
  simp only [cond_false] at hq
  cases hb : Nat.beq b 93 with
  | true =>
    rw [hb] at hq
    have e := Nat.eq_of_beq_eq_true hb
    subst e
    exact tLC_ok (eRL_ok (tR0_ok (tNo1_ok adK adV l0) d 93)) hq
  | false =>
  rw [hb] at hq
  simp only [cond_false] at hq
  cases hb : Nat.beq b 95 with
  | true =>
    rw [hb] at hq
    have e := Nat.eq_of_beq_eq_true hb
    subst e
    exact tLC_ok (eRL_ok (tR0_ok (tNo1_ok adK adV l0) d 95)) hq
  | false =>
  rw [hb] at hq
  simp only [cond_false] at hq
  cases hb : Nat.beq b 89 with
  | true =>
    rw [hb] at hq
    have e := Nat.eq_of_beq_eq_true hb
    subst e
    exact tLC_ok (eRL_ok (tR0_ok (tNo1_ok adK adV l0) d 89)) hq
  | false =>
  rw [hb] at hq
  simp only [cond_false] at hq
  cases hb : Nat.beq b 32 with
  | true =>
    rw [hb] at hq
    have e := Nat.eq_of_beq_eq_true hb
    subst e
    exact tLC_ok (eRL_ok (tR0_ok (tNo1_ok adK adV l0) d 32)) hq
  | false =>
  rw [hb] at hq
  simp only [cond_false] at hq
  cases hb : Nat.beq b 47 with
  | true =>
    rw [hb] at hq
    have e := Nat.eq_of_beq_eq_true hb
    subst e
    exact tLC_ok (eRL_ok (tR0_ok (tNo1_ok adK adV l0) d 47)) hq
  | false =>
  rw [hb] at hq
  simp only [cond_false] at hq
  cases hq
theorem tO2_ok (adK adV : Nat → Nat) (l0 : Launch) : tOk1 adK adV l0 tO2 := by
  intro sr d b as h os hq
  unfold tO2 at hq
  cases hb : Nat.beq b 94 with
  | true =>
    rw [hb] at hq
    have e := Nat.eq_of_beq_eq_true hb
    subst e
    exact tLC_ok (eRL_ok (tR0_ok (tO1_ok adK adV l0) d 94)) hq
  | false =>
  rw [hb] at hq
  simp only [cond_false] at hq
  exact tO1_ok adK adV l0 _ _ _ _ _ _ hq
def tCl2 (sr : List (Int × Int)) (b : Nat) (as : List eV) (h : eH) : Option (List (Option eV × eH)) := match tO2 sr 600 b as h with
  | some os => some os
  | none => tCall sr (tO2 sr) 600 b as h
theorem tCl2_ok {adK adV : Nat → Nat} {l0 : Launch} {sr : List (Int × Int)} {b : Nat} {as : List eV} {h : eH} {os : List (Option eV × eH)} (hc : tCl2 sr b as h = some os) : eCon (tFz adK adV) l0 tCl lw_g tNs sr tMs tYs 600 b as h os := by
  unfold tCl2 at hc
  split at hc
  · rename_i os' ho
    cases hc
    exact tO2_ok adK adV l0 _ _ _ _ _ _ ho
  · exact tCall_ok (tO2_ok adK adV l0 sr) hc
def tPairL (sr : List (Int × Int)) (bx bm : Nat) (as : List eV) : Bool := match tCl2 sr bx (.inr (.inl (some 0)) :: as) hFresh with
  | some os => os.all (fun o => eRcv o.2 0 12 (.inr (.inl (some 70)) :: as) && (match tCl2 sr bm (.inr (.inl (some 70)) :: as) o.2 with
    | some os2 => os2.all (fun o2 => eSm o.1 o2.1)
    | none => false))
  | none => false
theorem tPairL_ok {adK adV : Nat → Nat} {l : Launch} {sr : List (Int × Int)} {bx bm : Nat} {as : List eV} (h : tPairL sr bx bm as = true) : PairOk adK adV l sr bx bm as := by
  unfold tPairL at h
  split at h
  · rename_i os hos
    refine ⟨os, tCl2_ok hos, fun o ho => ?_⟩
    have h1 := List.all_eq_true.mp h o ho
    rw [Bool.and_eq_true] at h1
    refine ⟨h1.1, ?_⟩
    have h2 := h1.2
    split at h2
    · rename_i os2 hos2
      exact ⟨os2, tCl2_ok hos2, fun o2 ho2 => List.all_eq_true.mp h2 o2 ho2⟩
    · cases h2
  · cases h
end
section
set_option maxRecDepth 1000000 in
theorem pk_hours_2_t : tPairL [(0, 0), (1, 72)] 154 42 [.inl (1, 0, 0)] = true := by decide +kernel
theorem pk_hours_2 (adK adV : Nat → Nat) (l : Launch) : PairOk adK adV l [(0, 0), (1, 72)] 154 42 [.inl (1, 0, 0)] := tPairL_ok pk_hours_2_t
set_option maxRecDepth 1000000 in
theorem pk_first_1_t : tPairL [(0, 0)] 158 48 [.inl (0, 0, 0)] = true := by decide +kernel
theorem pk_first_1 (adK adV : Nat → Nat) (l : Launch) : PairOk adK adV l [(0, 0)] 158 48 [.inl (0, 0, 0)] := tPairL_ok pk_first_1_t
set_option maxRecDepth 1000000 in
theorem pk_first_2_t : tPairL [(0, 0)] 158 48 [.inl (0, 1, 1)] = true := by decide +kernel
theorem pk_first_2 (adK adV : Nat → Nat) (l : Launch) : PairOk adK adV l [(0, 0)] 158 48 [.inl (0, 1, 1)] := tPairL_ok pk_first_2_t
set_option maxRecDepth 1000000 in
theorem pk_thick_1_t : tPairL [(0, 0), (1, 20)] 161 52 [.inl (1, 0, 0)] = true := by decide +kernel
theorem pk_thick_1 (adK adV : Nat → Nat) (l : Launch) : PairOk adK adV l [(0, 0), (1, 20)] 161 52 [.inl (1, 0, 0)] := tPairL_ok pk_thick_1_t
set_option maxRecDepth 1000000 in
theorem pk_then_11_t : tPairL [(0, 0), (1, 72)] 168 61 [.inl (1, 0, 0), .inl (0, 0, 0)] = true := by decide +kernel
theorem pk_then_11 (adK adV : Nat → Nat) (l : Launch) : PairOk adK adV l [(0, 0), (1, 72)] 168 61 [.inl (1, 0, 0), .inl (0, 0, 0)] := tPairL_ok pk_then_11_t
set_option maxRecDepth 1000000 in
theorem pk_then_12_t : tPairL [(0, 0), (1, 72)] 168 61 [.inl (1, 0, 0), .inl (0, 1, 1)] = true := by decide +kernel
theorem pk_then_12 (adK adV : Nat → Nat) (l : Launch) : PairOk adK adV l [(0, 0), (1, 72)] 168 61 [.inl (1, 0, 0), .inl (0, 1, 1)] := tPairL_ok pk_then_12_t
set_option maxRecDepth 1000000 in
theorem pk_then_13_t : tPairL [(0, 0), (1, 72)] 168 61 [.inl (1, 0, 0), .inl (0, 2, 2)] = true := by decide +kernel
theorem pk_then_13 (adK adV : Nat → Nat) (l : Launch) : PairOk adK adV l [(0, 0), (1, 72)] 168 61 [.inl (1, 0, 0), .inl (0, 2, 2)] := tPairL_ok pk_then_13_t
set_option maxRecDepth 1000000 in
theorem pk_year_4_t : tPairL [(0, 0), (0, 0), (1, 20)] 170 63 [.inl (1, 0, 0), .inl (2, 0, 0)] = true := by decide +kernel
theorem pk_year_4 (adK adV : Nat → Nat) (l : Launch) : PairOk adK adV l [(0, 0), (0, 0), (1, 20)] 170 63 [.inl (1, 0, 0), .inl (2, 0, 0)] := tPairL_ok pk_year_4_t
set_option maxRecDepth 1000000 in
theorem pk_year_7_t : tPairL [(0, 0), (1, 72), (1, 20)] 170 63 [.inl (1, 0, 0), .inl (2, 0, 0)] = true := by decide +kernel
theorem pk_year_7 (adK adV : Nat → Nat) (l : Launch) : PairOk adK adV l [(0, 0), (1, 72), (1, 20)] 170 63 [.inl (1, 0, 0), .inl (2, 0, 0)] := tPairL_ok pk_year_7_t
end
