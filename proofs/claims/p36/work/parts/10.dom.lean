section
/-! THE ENGINE, 1: what is known of a value, of a cell; reckoning with it. A symbol's number stands first (0: none); then the bounds of what comes to it. -/
abbrev eI : Type := Nat × Int × Int
abbrev eV : Type := eI ⊕ (Option Nat ⊕ Option Int64)
abbrev eC : Type := (Nat × List eV) ⊕ (Nat × Nat × (List eV ⊕ (Int × Int)))
def eTop : eI := (0, -2147483648, 2147483647)
def eLe (a b : Int) : Bool := match b - a with
  | .ofNat _ => true
  | .negSucc _ => false
theorem eLe_ok {a b : Int} (h : eLe a b = true) : a ≤ b := by
  unfold eLe at h
  split at h
  · rename_i n hn
    have : (0 : Int) ≤ Int.ofNat n := Int.natCast_nonneg n
    omega
  · cases h
theorem eLe_no {a b : Int} (h : eLe a b = false) : b < a := by
  unfold eLe at h
  split at h
  · cases h
  · rename_i n hn; omega
def eIn (σ : Nat → Int) (q : eI) (x : Int32) : Prop := σ q.1 + q.2.1 ≤ x.toInt ∧ x.toInt ≤ σ q.1 + q.2.2
def eSg (sr : List (Int × Int)) (σ : Nat → Int) : Prop := σ 0 = 0 ∧ ∀ (j : Nat) (q : Int × Int), sr[j]? = some q → q.1 ≤ σ j ∧ σ j ≤ q.2
def eOk (ad : List Nat) (σ : Nat → Int) (v : eV) (w : Value) : Prop := match v with
  | .inl q => ∃ x : Int32, w = .int x ∧ eIn σ q x
  | .inr (.inl none) => w = .null
  | .inr (.inl (some k)) => ∃ a : Nat, ad[k]? = some a ∧ w = .ref a
  | .inr (.inr o) => ∃ x : Int64, w = .long x ∧ ∀ y : Int64, o = some y → x = y
def eCat (v : eV) : Nat := match v with
  | .inr (.inr _) => 2
  | _ => 1
theorem eOk_cat {ad : List Nat} {σ : Nat → Int} {v : eV} {w : Value} (h : eOk ad σ v w) : w.category = eCat v := by
  match v, h with
  | .inl q, ⟨x, hw, _⟩ => rw [hw]; rfl
  | .inr (.inl none), h => rw [show w = .null from h]; rfl
  | .inr (.inl (some k)), ⟨a, _, hw⟩ => rw [hw]; rfl
  | .inr (.inr _), ⟨x, hw, _⟩ => rw [hw]; rfl
theorem e_lo (x : Int32) : -2147483648 ≤ x.toInt := by have := Int32.le_toInt x; omega
theorem e_hi (x : Int32) : x.toInt ≤ 2147483647 := by have := Int32.toInt_lt x; omega
theorem eIn_mk {σ : Nat → Int} {b : Nat} {lo hi : Int} {x : Int32} (h1 : σ b + lo ≤ x.toInt) (h2 : x.toInt ≤ σ b + hi) : eIn σ (b, lo, hi) x := ⟨h1, h2⟩
theorem eTop_ok {σ : Nat → Int} (h0 : σ 0 = 0) (x : Int32) : eIn σ eTop x := ⟨by show σ 0 + -2147483648 ≤ _; have := e_lo x; omega, by show _ ≤ σ 0 + 2147483647; have := e_hi x; omega⟩
/-- plain bounds -/
def eRg (sr : List (Int × Int)) (q : eI) : Int × Int := match sr[q.1]? with
  | some r => (r.1 + q.2.1, r.2 + q.2.2)
  | none => (-2147483648, 2147483647)
theorem eRg_ok {sr : List (Int × Int)} {σ : Nat → Int} (hs : eSg sr σ) {q : eI} {x : Int32} (h : eIn σ q x) : (eRg sr q).1 ≤ x.toInt ∧ x.toInt ≤ (eRg sr q).2 := by
  unfold eRg
  split
  · rename_i r hr
    have := hs.2 _ _ hr
    obtain ⟨h1, h2⟩ := h
    exact ⟨by show r.1 + q.2.1 ≤ _; omega, by show _ ≤ r.2 + q.2.2; omega⟩
  · exact ⟨e_lo x, e_hi x⟩
theorem eAddI {x y : Int32} (h1 : -2147483648 ≤ x.toInt + y.toInt) (h2 : x.toInt + y.toInt ≤ 2147483647) : (x + y).toInt = x.toInt + y.toInt := by
  rw [Int32.toInt_add]; exact Int.bmod_eq_of_le (by omega) (by omega)
theorem eSubI {x y : Int32} (h1 : -2147483648 ≤ x.toInt - y.toInt) (h2 : x.toInt - y.toInt ≤ 2147483647) : (x - y).toInt = x.toInt - y.toInt := by
  rw [Int32.toInt_sub]; exact Int.bmod_eq_of_le (by omega) (by omega)
def eFit (lo hi : Int) : Bool := eLe (-2147483648) lo && eLe hi 2147483647
theorem eFit_ok {lo hi : Int} (h : eFit lo hi = true) : -2147483648 ≤ lo ∧ hi ≤ 2147483647 := by
  unfold eFit at h
  rw [Bool.and_eq_true] at h
  exact ⟨eLe_ok h.1, eLe_ok h.2⟩
def eAdd (sr : List (Int × Int)) (a b : eI) : eI :=
  cond (eFit ((eRg sr a).1 + (eRg sr b).1) ((eRg sr a).2 + (eRg sr b).2))
    (cond (Nat.beq b.1 0) (a.1, a.2.1 + b.2.1, a.2.2 + b.2.2) (cond (Nat.beq a.1 0) (b.1, a.2.1 + b.2.1, a.2.2 + b.2.2) (0, (eRg sr a).1 + (eRg sr b).1, (eRg sr a).2 + (eRg sr b).2)))
    eTop
theorem eAdd_ok {sr : List (Int × Int)} {σ : Nat → Int} (hs : eSg sr σ) {a b : eI} {x y : Int32} (ha : eIn σ a x) (hb : eIn σ b y) : eIn σ (eAdd sr a b) (x + y) := by
  have ra := eRg_ok hs ha
  have rb := eRg_ok hs hb
  have h0 := hs.1
  unfold eAdd
  cases hf : eFit ((eRg sr a).1 + (eRg sr b).1) ((eRg sr a).2 + (eRg sr b).2) with
  | false => exact eTop_ok h0 _
  | true =>
    have hf := eFit_ok hf
    have e := eAddI (x := x) (y := y) (by omega) (by omega)
    obtain ⟨ha1, ha2⟩ := ha
    obtain ⟨hb1, hb2⟩ := hb
    simp only [cond_true]
    cases hz : Nat.beq b.1 0 with
    | true =>
      have hz : b.1 = 0 := Nat.eq_of_beq_eq_true hz
      rw [hz, h0] at hb1 hb2
      simp only [cond_true]
      exact eIn_mk (by rw [e]; omega) (by rw [e]; omega)
    | false =>
      simp only [cond_false]
      cases hz : Nat.beq a.1 0 with
      | true =>
        have hz : a.1 = 0 := Nat.eq_of_beq_eq_true hz
        rw [hz, h0] at ha1 ha2
        simp only [cond_true]
        exact eIn_mk (by rw [e]; omega) (by rw [e]; omega)
      | false =>
        simp only [cond_false]
        exact eIn_mk (by rw [h0, e]; omega) (by rw [h0, e]; omega)
def eSub (sr : List (Int × Int)) (a b : eI) : eI :=
  cond (Nat.beq a.1 b.1 && eFit (a.2.1 - b.2.2) (a.2.2 - b.2.1)) (0, a.2.1 - b.2.2, a.2.2 - b.2.1)
    (cond (eFit ((eRg sr a).1 - (eRg sr b).2) ((eRg sr a).2 - (eRg sr b).1))
      (cond (Nat.beq b.1 0) (a.1, a.2.1 - b.2.2, a.2.2 - b.2.1) (0, (eRg sr a).1 - (eRg sr b).2, (eRg sr a).2 - (eRg sr b).1))
      eTop)
theorem eSub_ok {sr : List (Int × Int)} {σ : Nat → Int} (hs : eSg sr σ) {a b : eI} {x y : Int32} (ha : eIn σ a x) (hb : eIn σ b y) : eIn σ (eSub sr a b) (x - y) := by
  have ra := eRg_ok hs ha
  have rb := eRg_ok hs hb
  have h0 := hs.1
  unfold eSub
  obtain ⟨ha1, ha2⟩ := ha
  obtain ⟨hb1, hb2⟩ := hb
  cases hq : (Nat.beq a.1 b.1 && eFit (a.2.1 - b.2.2) (a.2.2 - b.2.1)) with
  | true =>
    rw [Bool.and_eq_true] at hq
    have hz : a.1 = b.1 := Nat.eq_of_beq_eq_true hq.1
    have hf := eFit_ok hq.2
    rw [hz] at ha1 ha2
    simp only [cond_true]
    have e := eSubI (x := x) (y := y) (by omega) (by omega)
    exact eIn_mk (by rw [h0, e]; omega) (by rw [h0, e]; omega)
  | false =>
    simp only [cond_false]
    cases hf : eFit ((eRg sr a).1 - (eRg sr b).2) ((eRg sr a).2 - (eRg sr b).1) with
    | false => exact eTop_ok h0 _
    | true =>
      have hf := eFit_ok hf
      have e := eSubI (x := x) (y := y) (by omega) (by omega)
      simp only [cond_true]
      cases hz : Nat.beq b.1 0 with
      | true =>
        have hz : b.1 = 0 := Nat.eq_of_beq_eq_true hz
        rw [hz, h0] at hb1 hb2
        simp only [cond_true]
        exact eIn_mk (by rw [e]; omega) (by rw [e]; omega)
      | false =>
        simp only [cond_false]
        exact eIn_mk (by rw [h0, e]; omega) (by rw [h0, e]; omega)
/-- one value alone -/
def eOne (q : eI) : Option Int32 := cond (Nat.beq q.1 0 && eLe q.2.2 q.2.1) (some (Int32.ofInt q.2.1)) none
theorem eOne_ok {σ : Nat → Int} (h0 : σ 0 = 0) {q : eI} {x y : Int32} (h : eIn σ q x) (hq : eOne q = some y) : x = y := by
  unfold eOne at hq
  cases hc : (Nat.beq q.1 0 && eLe q.2.2 q.2.1) with
  | false => rw [hc] at hq; cases hq
  | true =>
    rw [hc] at hq
    rw [Bool.and_eq_true] at hc
    have hz : q.1 = 0 := Nat.eq_of_beq_eq_true hc.1
    have hl := eLe_ok hc.2
    cases hq
    obtain ⟨h1, h2⟩ := h
    rw [hz, h0] at h1 h2
    rw [show q.2.1 = x.toInt by omega]
    exact (Int32.ofInt_toInt x).symm
def ePt (x : Int32) : eI := (0, x.toInt, x.toInt)
theorem ePt_ok {σ : Nat → Int} (h0 : σ 0 = 0) (x : Int32) : eIn σ (ePt x) x := eIn_mk (by omega) (by omega)
def eBin (f : Int32 → Int32 → Int32) (g a b : eI) : eI := match eOne a, eOne b with
  | some x, some y => ePt (f x y)
  | _, _ => g
theorem eBin_ok {σ : Nat → Int} (h0 : σ 0 = 0) {f : Int32 → Int32 → Int32} {g a b : eI} {x y : Int32} (ha : eIn σ a x) (hb : eIn σ b y) (hg : eIn σ g (f x y)) : eIn σ (eBin f g a b) (f x y) := by
  unfold eBin
  split
  · rename_i x' y' h1 h2
    rw [← eOne_ok h0 ha h1, ← eOne_ok h0 hb h2]
    exact ePt_ok h0 _
  · exact hg
/-- the remainder by a number above 0 -/
def eRem (sr : List (Int × Int)) (a b : eI) : eI := match eOne b with
  | some y => cond (eLe 1 y.toInt) (cond (eLe 0 (eRg sr a).1) (0, 0, y.toInt - 1) (0, 1 - y.toInt, y.toInt - 1)) eTop
  | none => eTop
theorem eRem_ok {sr : List (Int × Int)} {σ : Nat → Int} (hs : eSg sr σ) {a b : eI} {x y : Int32} (ha : eIn σ a x) (hb : eIn σ b y) : eIn σ (eRem sr a b) (x - x / y * y) := by
  have ra := eRg_ok hs ha
  have h0 := hs.1
  unfold eRem
  split
  · rename_i y' hy
    have hy := eOne_ok h0 hb hy
    subst hy
    cases hc : eLe 1 y.toInt with
    | false => exact eTop_ok h0 _
    | true =>
      have hc := eLe_ok hc
      have e := rem_toInt x y
      have hb := tmod_bounds (a := x.toInt) (M := y.toInt) (by omega)
      simp only [cond_true]
      cases hd : eLe 0 (eRg sr a).1 with
      | true =>
        have hd := eLe_ok hd
        have hn : 0 ≤ x.toInt.tmod y.toInt := Int.tmod_nonneg _ (by omega)
        exact eIn_mk (by rw [h0, e]; omega) (by rw [h0, e]; omega)
      | false => exact eIn_mk (by rw [h0, e]; omega) (by rw [h0, e]; omega)
  · exact eTop_ok h0 _
/-- the shift to the right without a sign, by 1 to 31 -/
def eUsh (b : eI) : eI := match eOne b with
  | some y => cond (eLe 1 y.toInt && eLe y.toInt 31) (0, 0, 2147483647) eTop
  | none => eTop
theorem e_ush : ∀ k : Nat, k < 32 → 0 < k → ∀ x : Int32, 0 ≤ (x.toUInt32 >>> ((Int32.ofNat k).toUInt32 &&& Int32.toUInt32 31)).toInt32.toInt := by
  intro k hk h0 x
  have e : (x.toUInt32 >>> ((Int32.ofNat k).toUInt32 &&& Int32.toUInt32 31)).toInt32.toBitVec.toNat = x.toBitVec.toNat / 2 ^ k := pk_ushr x (Int32.ofNat k) k (by revert k; decide)
  have hx : x.toBitVec.toNat < 2 ^ 32 := x.toBitVec.isLt
  have h2 : 2 ^ 1 ≤ 2 ^ k := Nat.pow_le_pow_right (by omega) h0
  have h3 : x.toBitVec.toNat / 2 ^ k ≤ x.toBitVec.toNat / 2 := Nat.div_le_div_left h2 (by omega)
  have h4 : (x.toUInt32 >>> ((Int32.ofNat k).toUInt32 &&& Int32.toUInt32 31)).toInt32.toInt = (x.toUInt32 >>> ((Int32.ofNat k).toUInt32 &&& Int32.toUInt32 31)).toInt32.toBitVec.toInt := rfl
  rw [h4, BitVec.toInt_eq_toNat_cond]
  split <;> omega
theorem eUsh_ok {σ : Nat → Int} (h0 : σ 0 = 0) {b : eI} {x y : Int32} (hb : eIn σ b y) : eIn σ (eUsh b) (x.toUInt32 >>> (y.toUInt32 &&& Int32.toUInt32 31)).toInt32 := by
  unfold eUsh
  split
  · rename_i y' hy
    have hy := eOne_ok h0 hb hy
    subst hy
    cases hc : (eLe 1 y.toInt && eLe y.toInt 31) with
    | false => exact eTop_ok h0 _
    | true =>
      rw [Bool.and_eq_true] at hc
      have h1 := eLe_ok hc.1
      have h2 := eLe_ok hc.2
      have ey : y = Int32.ofNat y.toInt.toNat := by
        apply Int32.toInt_inj.mp
        rw [Int32.toInt_ofNat_of_lt (by omega)]
        omega
      simp only [cond_true]
      have h3 := e_ush y.toInt.toNat (by omega) (by omega) x
      rw [← ey] at h3
      exact eIn_mk (by rw [h0]; omega) (by rw [h0]; have := e_hi (x.toUInt32 >>> (y.toUInt32 &&& Int32.toUInt32 31)).toInt32; omega)
  · exact eTop_ok h0 _
/-- one is below another: known, or not -/
def eLt (sr : List (Int × Int)) (a b : eI) : Option Bool :=
  cond (Nat.beq a.1 b.1)
    (cond (eLe (a.2.2 + 1) b.2.1) (some true) (cond (eLe b.2.2 a.2.1) (some false) none))
    (cond (eLe ((eRg sr a).2 + 1) (eRg sr b).1) (some true) (cond (eLe (eRg sr b).2 (eRg sr a).1) (some false) none))
theorem eLt_ok {sr : List (Int × Int)} {σ : Nat → Int} (hs : eSg sr σ) {a b : eI} {x y : Int32} (ha : eIn σ a x) (hb : eIn σ b y) {r : Bool} (h : eLt sr a b = some r) : (x < y) = (r = true) := by
  have ra := eRg_ok hs ha
  have rb := eRg_ok hs hb
  obtain ⟨ha1, ha2⟩ := ha
  obtain ⟨hb1, hb2⟩ := hb
  have tt : x.toInt < y.toInt → (x < y) = (true = true) := fun q => by simp [Int32.lt_iff_toInt_lt, q]
  have ff : y.toInt ≤ x.toInt → (x < y) = (false = true) := fun q => by simp [Int32.lt_iff_toInt_lt, Int.not_lt.mpr q]
  unfold eLt at h
  cases hz : Nat.beq a.1 b.1 with
  | true =>
    rw [hz] at h
    have hz : a.1 = b.1 := Nat.eq_of_beq_eq_true hz
    rw [hz] at ha1 ha2
    simp only [cond_true] at h
    cases h1 : eLe (a.2.2 + 1) b.2.1 with
    | true => rw [h1] at h; have h1 := eLe_ok h1; cases h; exact tt (by omega)
    | false =>
      rw [h1] at h
      cases h2 : eLe b.2.2 a.2.1 with
      | true => rw [h2] at h; have h2 := eLe_ok h2; cases h; exact ff (by omega)
      | false => rw [h2] at h; cases h
  | false =>
    rw [hz] at h
    simp only [cond_false] at h
    cases h1 : eLe ((eRg sr a).2 + 1) (eRg sr b).1 with
    | true => rw [h1] at h; have h1 := eLe_ok h1; cases h; exact tt (by omega)
    | false =>
      rw [h1] at h
      cases h2 : eLe (eRg sr b).2 (eRg sr a).1 with
      | true => rw [h2] at h; have h2 := eLe_ok h2; cases h; exact ff (by omega)
      | false => rw [h2] at h; cases h
def eEq (sr : List (Int × Int)) (a b : eI) : Option Bool := match eLt sr a b, eLt sr b a with
  | some false, some false => some true
  | some true, _ => some false
  | _, some true => some false
  | _, _ => none
theorem eEq_ok {sr : List (Int × Int)} {σ : Nat → Int} (hs : eSg sr σ) {a b : eI} {x y : Int32} (ha : eIn σ a x) (hb : eIn σ b y) {r : Bool} (h : eEq sr a b = some r) : (x = y) = (r = true) := by
  have lt := @eLt_ok sr σ hs a b x y ha hb
  have gt := @eLt_ok sr σ hs b a y x hb ha
  have eqi : (x = y) = (x.toInt = y.toInt) := propext (Int32.toInt_inj.symm)
  unfold eEq at h
  split at h
  · rename_i h1 h2
    have h1 := lt h1
    have h2 := gt h2
    simp only [Int32.lt_iff_toInt_lt, Bool.false_eq_true, eq_iff_iff, iff_false] at h1 h2
    cases h
    rw [eqi]
    simp only [eq_iff_iff, iff_true]
    omega
  · rename_i h1
    have h1 := lt h1
    simp only [Int32.lt_iff_toInt_lt, eq_iff_iff, iff_true] at h1
    cases h
    rw [eqi]
    simp only [Bool.false_eq_true, eq_iff_iff, iff_false]
    omega
  · rename_i h1 hx
    have h1 := gt h1
    simp only [Int32.lt_iff_toInt_lt, eq_iff_iff, iff_true] at h1
    cases h
    rw [eqi]
    simp only [Bool.false_eq_true, eq_iff_iff, iff_false]
    omega
  · cases h
/-- a comparison by its name -/
def eCmp (sr : List (Int × Int)) (c : Jvm.ClassFile.Cond) (a b : eI) : Option Bool := match c with
  | .eq => eEq sr a b
  | .ne => (eEq sr a b).map (!·)
  | .lt => eLt sr a b
  | .ge => (eLt sr a b).map (!·)
  | .gt => eLt sr b a
  | .le => (eLt sr b a).map (!·)
def eL2 (f : Int64 → Int64 → Int64) (a b : Option Int64) : Option Int64 := match a, b with
  | some x, some y => some (f x y)
  | _, _ => none
theorem eL2_ok {f : Int64 → Int64 → Int64} {a b : Option Int64} {x y : Int64} (ha : ∀ z, a = some z → x = z) (hb : ∀ z, b = some z → y = z) : ∀ z, eL2 f a b = some z → f x y = z := by
  intro z h
  unfold eL2 at h
  split at h
  · rename_i u v
    cases h
    rw [ha _ rfl, hb _ rfl]
  · cases h
end
section
/-! THE ENGINE, 2: lists that answer to lists; cells, locals, stacks. -/
def eAll {α β : Type} (r : α → β → Prop) : List α → List β → Prop
  | [], [] => True
  | a :: as, b :: bs => r a b ∧ eAll r as bs
  | [], _ :: _ => False
  | _ :: _, [] => False
section EAL
variable {α β : Type} {r : α → β → Prop}
theorem eAll_cons {a : α} {as : List α} {bs : List β} (h : eAll r (a :: as) bs) : ∃ (b : β) (bs' : List β), bs = b :: bs' ∧ r a b ∧ eAll r as bs' := by
  match bs, h with
  | b :: bs', h => exact ⟨b, bs', rfl, h.1, h.2⟩
theorem eAll_nil {bs : List β} (h : eAll r ([] : List α) bs) : bs = [] := by
  match bs, h with
  | [], _ => rfl
theorem eAll_len : ∀ {as : List α} {bs : List β}, eAll r as bs → as.length = bs.length
  | [], [], _ => rfl
  | _ :: as, _ :: bs, h => by simp [eAll_len (as := as) (bs := bs) h.2]
theorem eAll_get : ∀ {as : List α} {bs : List β}, eAll r as bs → ∀ {k : Nat} {a : α}, as[k]? = some a → ∃ b, bs[k]? = some b ∧ r a b
  | [], [], _, k, a, hk => by simp at hk
  | a' :: as, b' :: bs, h, 0, a, hk => by simp at hk; subst hk; exact ⟨b', by simp, h.1⟩
  | a' :: as, b' :: bs, h, k + 1, a, hk => by
    simp at hk
    obtain ⟨b, h1, h2⟩ := eAll_get h.2 hk
    exact ⟨b, by simpa using h1, h2⟩
theorem eAll_getR : ∀ {as : List α} {bs : List β}, eAll r as bs → ∀ {k : Nat} {b : β}, bs[k]? = some b → ∃ a, as[k]? = some a ∧ r a b
  | [], [], _, k, b, hk => by simp at hk
  | a' :: as, b' :: bs, h, 0, b, hk => by simp at hk; subst hk; exact ⟨a', by simp, h.1⟩
  | a' :: as, b' :: bs, h, k + 1, b, hk => by
    simp at hk
    obtain ⟨a, h1, h2⟩ := eAll_getR h.2 hk
    exact ⟨a, by simpa using h1, h2⟩
theorem eAll_set : ∀ {as : List α} {bs : List β}, eAll r as bs → ∀ (k : Nat) {a : α} {b : β}, r a b → eAll r (as.set k a) (bs.set k b)
  | [], [], _, _, _, _, _ => trivial
  | _ :: _, _ :: _, h, 0, _, _, hr => ⟨hr, h.2⟩
  | _ :: _, _ :: _, h, k + 1, _, _, hr => ⟨h.1, eAll_set h.2 k hr⟩
theorem eAll_app : ∀ {as : List α} {bs : List β} {cs : List α} {ds : List β}, eAll r as bs → eAll r cs ds → eAll r (as ++ cs) (bs ++ ds)
  | [], [], _, _, _, h2 => h2
  | _ :: _, _ :: _, _, _, h, h2 => ⟨h.1, eAll_app h.2 h2⟩
theorem eAll_mono {r' : α → β → Prop} (hm : ∀ a b, r a b → r' a b) : ∀ {as : List α} {bs : List β}, eAll r as bs → eAll r' as bs
  | [], [], _ => trivial
  | _ :: _, _ :: _, h => ⟨hm _ _ h.1, eAll_mono hm h.2⟩
theorem eAll_filter {f : α → Bool} {g : β → Bool} (hm : ∀ a b, r a b → f a = g b) : ∀ {as : List α} {bs : List β}, eAll r as bs → eAll r (as.filter f) (bs.filter g)
  | [], [], _ => trivial
  | a :: as, b :: bs, h => by
    have e := hm a b h.1
    cases hg : g b with
    | true => rw [List.filter_cons_of_pos (by rw [e, hg]), List.filter_cons_of_pos hg]; exact ⟨h.1, eAll_filter hm h.2⟩
    | false => rw [List.filter_cons_of_neg (by rw [e, hg]; decide), List.filter_cons_of_neg (by rw [hg]; decide)]; exact eAll_filter hm h.2
theorem eAll_mem : ∀ {as : List α} {bs : List β}, eAll r as bs → ∀ {a : α}, a ∈ as → ∃ b, b ∈ bs ∧ r a b := by
  intro as bs h a ha
  obtain ⟨k, hk⟩ := List.getElem?_of_mem ha
  obtain ⟨b, h1, h2⟩ := eAll_get h hk
  exact ⟨b, List.mem_of_getElem? h1, h2⟩
theorem eAll_rev {as : List α} {bs : List β} (h : eAll r as bs) : eAll r as.reverse bs.reverse := by
  induction as generalizing bs with
  | nil => rw [eAll_nil h]; trivial
  | cons a as ih =>
    obtain ⟨b, bs', rfl, h1, h2⟩ := eAll_cons h
    simp only [List.reverse_cons]
    exact eAll_app (ih h2) ⟨h1, trivial⟩
end EAL
theorem eOk_ad {ad ad' : List Nat} {σ : Nat → Int} (hp : ∃ t, ad' = ad ++ t) {v : eV} {w : Value} (h : eOk ad σ v w) : eOk ad' σ v w := by
  match v, h with
  | .inl q, h => exact h
  | .inr (.inl none), h => exact h
  | .inr (.inl (some k)), ⟨a, h1, h2⟩ =>
    obtain ⟨t, rfl⟩ := hp
    refine ⟨a, ?_, h2⟩
    rw [List.getElem?_append_left (List.getElem?_eq_some_iff.mp h1).1]
    exact h1
  | .inr (.inr _), h => exact h
/-- arrays: 0 ints, 1 bytes, 2 booleans, 3 longs, 4 rows of ints -/
def eTy (k : Nat) : FieldType := match k with
  | 0 => .int
  | 1 => .byte
  | 2 => .boolean
  | 3 => .long
  | _ => .array .int
def eCt (ad : List Nat) (σ : Nat → Int) (n : Nat) (f : Nat → Int32) (c : List eV ⊕ (Int × Int)) : Prop := match c with
  | .inl es => ∀ j, j < n → ∃ v, es[j]? = some v ∧ eOk ad σ v (.int (f j))
  | .inr q => ∀ j, j < n → q.1 ≤ (f j).toInt ∧ (f j).toInt ≤ q.2
def eAr (ad : List Nat) (σ : Nat → Int) (k n : Nat) (c : List eV ⊕ (Int × Int)) (cA : ClassId) (e : va_E) : Prop := match k with
  | 3 => ∃ f : Nat → Int64, e = .inl (cA, n, .inr (.inl f)) ∧ match c with
    | .inl es => ∀ j, j < n → ∃ v, es[j]? = some v ∧ eOk ad σ v (.long (f j))
    | .inr _ => True
  | 4 => ∃ f : Nat → Option Nat, e = .inl (cA, n, .inr (.inr (.inr (.inr f)))) ∧ match c with
    | .inl es => ∀ j, j < n → ∃ v, es[j]? = some v ∧ eOk ad σ v (va_rf (f j))
    | .inr _ => True
  | _ => ∃ f : Nat → Int32, e = .inl (cA, n, .inl f) ∧ eCt ad σ n f c
def eCk (ad : List Nat) (σ : Nat → Int) (tys : List (ClassId × FieldType)) (c : eC) (q : Nat × va_E) : Prop := match c with
  | .inl o => ∃ vs : List Value, q.2 = .inr (o.1, vs) ∧ eAll (eOk ad σ) o.2 vs
  | .inr a => ∃ (cA : ClassId) (t0 : Nat), tys[t0]? = some (cA, eTy a.1) ∧ a.2.1 < 2 ^ 31 ∧ eAr ad σ a.1 a.2.1 a.2.2 cA q.2
theorem eAr_ad {ad ad' : List Nat} {σ : Nat → Int} (hp : ∃ t, ad' = ad ++ t) {k n : Nat} {c : List eV ⊕ (Int × Int)} {cA : ClassId} {e : va_E} (h : eAr ad σ k n c cA e) : eAr ad' σ k n c cA e := by
  unfold eAr at h ⊢
  split at h
  · obtain ⟨f, h1, h2⟩ := h
    refine ⟨f, h1, ?_⟩
    cases c with
    | inl es => exact fun j hj => by obtain ⟨v, g1, g2⟩ := h2 j hj; exact ⟨v, g1, eOk_ad hp g2⟩
    | inr q => trivial
  · obtain ⟨f, h1, h2⟩ := h
    refine ⟨f, h1, ?_⟩
    cases c with
    | inl es => exact fun j hj => by obtain ⟨v, g1, g2⟩ := h2 j hj; exact ⟨v, g1, eOk_ad hp g2⟩
    | inr q => trivial
  · obtain ⟨f, h1, h2⟩ := h
    refine ⟨f, h1, ?_⟩
    cases c with
    | inl es => exact fun j hj => by obtain ⟨v, g1, g2⟩ := h2 j hj; exact ⟨v, g1, eOk_ad hp g2⟩
    | inr q => exact h2
theorem eCk_ad {ad ad' : List Nat} {σ : Nat → Int} {tys tys' : List (ClassId × FieldType)} (hp : ∃ t, ad' = ad ++ t) (ht : ∃ t, tys' = tys ++ t) {c : eC} {q : Nat × va_E} (h : eCk ad σ tys c q) : eCk ad' σ tys' c q := by
  match c, h with
  | .inl o, ⟨vs, h1, h2⟩ => exact ⟨vs, h1, eAll_mono (fun _ _ => eOk_ad hp) h2⟩
  | .inr a, ⟨cA, t0, h1, h2, h3⟩ =>
    obtain ⟨t, rfl⟩ := ht
    exact ⟨cA, t0, by rw [List.getElem?_append_left (List.getElem?_eq_some_iff.mp h1).1]; exact h1, h2, eAr_ad hp h3⟩
abbrev eH : Type := List eC
abbrev eL : Type := List (Nat × eV)
/-- a place in a method: where, locals, stack, cells, how many cells and slots it has made -/
abbrev eS : Type := Nat × eL × List eV × eH × Nat × Nat
def eLo (ad : List Nat) (σ : Nat → Int) (q : Nat × eV) (w : Nat × Value) : Prop := q.1 = w.1 ∧ eOk ad σ q.2 w.2
def eGet (l : eL) (i : Nat) : Option eV := match l with
  | [] => none
  | q :: l => cond (Nat.beq q.1 i) (some q.2) (eGet l i)
theorem eGet_ok {ad : List Nat} {σ : Nat → Int} : ∀ {l : eL} {lv : List (Nat × Value)} {i : Nat} {v : eV}, eAll (eLo ad σ) l lv → eGet l i = some v → ∃ w, (i, w) ∈ lv ∧ eOk ad σ v w
  | [], _, i, v, h, hg => by simp [eGet] at hg
  | q :: l, lv, i, v, h, hg => by
    obtain ⟨b, bs, rfl, h1, h2⟩ := eAll_cons h
    unfold eGet at hg
    cases hb : Nat.beq q.1 i with
    | true =>
      rw [hb] at hg
      have e := Nat.eq_of_beq_eq_true hb
      simp only [cond_true, Option.some.injEq] at hg
      subst hg
      refine ⟨b.2, ?_, h1.2⟩
      rw [← e, h1.1]
      exact List.mem_cons_self
    | false =>
      rw [hb] at hg
      obtain ⟨w, g1, g2⟩ := eGet_ok h2 hg
      exact ⟨w, List.mem_cons_of_mem _ g1, g2⟩
def ePut (l : eL) (i : Nat) (v : eV) : eL := (i, v) :: l.filter (fun q => !(q.1 == i) && !(q.1 + 1 == i && eCat q.2 == 2))
def ePut2 (l : eL) (i : Nat) (v : eV) : eL := (i, v) :: l.filter (fun q => !(q.1 == i) && (!(q.1 == i + 1) && !(q.1 + 1 == i && eCat q.2 == 2)))
theorem ePut_ok {ad : List Nat} {σ : Nat → Int} {l : eL} {lv : List (Nat × Value)} (h : eAll (eLo ad σ) l lv) {i : Nat} {v : eV} {w : Value} (hv : eOk ad σ v w) : eAll (eLo ad σ) (ePut l i v) ((i, w) :: lv.filter (fun q => !(q.1 == i) && !(q.1 + 1 == i && q.2.category == 2))) :=
  ⟨⟨rfl, hv⟩, eAll_filter (fun a b hab => by rw [hab.1, eOk_cat hab.2]) h⟩
theorem ePut2_ok {ad : List Nat} {σ : Nat → Int} {l : eL} {lv : List (Nat × Value)} (h : eAll (eLo ad σ) l lv) {i : Nat} {v : eV} {w : Value} (hv : eOk ad σ v w) : eAll (eLo ad σ) (ePut2 l i v) ((i, w) :: lv.filter (fun q => !(q.1 == i) && (!(q.1 == i + 1) && !(q.1 + 1 == i && q.2.category == 2)))) :=
  ⟨⟨rfl, hv⟩, eAll_filter (fun a b hab => by rw [hab.1, eOk_cat hab.2]) h⟩
end
section
/-! THE ENGINE, 3: one step. -/
/-- an instruction of the table: where, what, how long, and four numbers that its links come to -/
abbrev eN : Type := Nat × Instr × Nat × Nat × Nat × Nat × Nat
def eLen (i : Instr) : Nat := match i with
  | .bipush _ | .iload _ | .lload _ | .aload _ | .istore _ | .lstore _ | .astore _ | .ldc _ | .newarray _ => 2
  | .sipush _ | .iinc _ _ | .ldc_w _ | .ldc2_w _ | .getfield _ | .putfield _ | .goto _ | .ifCond _ _ | .if_icmp _ _ | .ifnull _ | .ifnonnull _ | .new _ | .invokevirtual _ | .invokestatic _ | .invokespecial _ => 3
  | .multianewarray _ _ => 4
  | .tableswitch _ _ _ _ | .lookupswitch _ _ => 0
  | _ => 1
def eTwo (st : List eV) : Option (eI × eI × List eV) := match st with
  | .inl b :: .inl a :: r => some (a, b, r)
  | _ => none
def eFld (h : eH) (k a b : Nat) : Option eV := match h[k]? with
  | some (.inl o) => cond (Nat.beq o.1 a) (o.2[b]?) none
  | _ => none
def eSetF (h : eH) (k a b : Nat) (v : eV) : Option eH := match h[k]? with
  | some (.inl o) => cond (Nat.beq o.1 a && Nat.blt b o.2.length) (some (h.set k (.inl (o.1, o.2.set b v)))) none
  | _ => none
def eIx (sr : List (Int × Int)) (q : eI) (n : Nat) : Bool := eLe 0 (eRg sr q).1 && eLe ((eRg sr q).2 + 1) (n : Int)
def eALd1 (q : eI) (c : List eV ⊕ (Int × Int)) : Option eI := match c with
  | .inr r => some (0, r.1, r.2)
  | .inl es => match eOne q with
    | some x => match es[x.toNatClampNeg]? with
      | some (.inl v) => some v
      | _ => none
    | none => some eTop
/-- a value out of a row of ints, bytes, booleans (kd) -/
def eALd (sr : List (Int × Int)) (h : eH) (k : Nat) (q : eI) (kd : Nat) : Option eI := match h[k]? with
  | some (.inr (t, n, c)) => cond (Nat.beq t kd && eIx sr q n) (eALd1 q c) none
  | _ => none
def eMin (a b : Int) : Int := cond (eLe a b) a b
def eMax (a b : Int) : Int := cond (eLe a b) b a
def eASt1 (sr : List (Int × Int)) (q v : eI) (c : List eV ⊕ (Int × Int)) : Option (List eV ⊕ (Int × Int)) := match c with
  | .inr r => some (.inr (eMin r.1 (eRg sr v).1, eMax r.2 (eRg sr v).2))
  | .inl es => match eOne q with
    | some x => some (.inl (es.set x.toNatClampNeg (.inl v)))
    | none => none
/-- a value into a row of ints (0), booleans (2) -/
def eASt (sr : List (Int × Int)) (h : eH) (k : Nat) (q v : eI) (kd : Nat) : Option eH := match h[k]? with
  | some (.inr (t, n, c)) => match eASt1 sr q v c with
    | some c' => cond (Nat.beq t kd && eIx sr q n) (some (h.set k (.inr (t, n, c')))) none
    | none => none
  | _ => none
/-- bytes: what they hold isn't followed -/
def eBSt (sr : List (Int × Int)) (h : eH) (k : Nat) (q : eI) : Bool := match h[k]? with
  | some (.inr (t, n, .inr r)) => Nat.beq t 1 && eIx sr q n && eLe r.1 (-128) && eLe 127 r.2
  | _ => false
/-- a row of longs -/
def eLng (sr : List (Int × Int)) (h : eH) (k : Nat) (q : eI) : Bool := match h[k]? with
  | some (.inr (t, n, _)) => Nat.beq t 3 && eIx sr q n
  | _ => false
def eLSt (sr : List (Int × Int)) (h : eH) (k : Nat) (q : eI) (u : Option Int64) : Option eH := match h[k]? with
  | some (.inr (t, n, .inr _)) => cond (Nat.beq t 3 && eIx sr q n) (some h) none
  | some (.inr (t, n, .inl es)) => match eOne q with
    | some x => cond (Nat.beq t 3 && eIx sr q n) (some (h.set k (.inr (t, n, .inl (es.set x.toNatClampNeg (.inr (.inr u))))))) none
    | none => none
  | _ => none
def eRow (sr : List (Int × Int)) (h : eH) (k : Nat) (q : eI) : Option eV := match h[k]? with
  | some (.inr (t, n, .inl es)) => match eOne q with
    | some x => cond (Nat.beq t 4 && eIx sr q n) (es[x.toNatClampNeg]?) none
    | none => none
  | _ => none
def eZero : eV := .inl (0, 0, 0)
def eNew (kd n : Nat) : Option eC := match kd with
  | 0 => some (.inr (0, n, cond (Nat.ble n 410) (.inl (List.replicate n eZero)) (.inr (0, 0))))
  | 1 => some (.inr (1, n, .inr (-128, 127)))
  | 2 => some (.inr (2, n, cond (Nat.ble n 410) (.inl (List.replicate n eZero)) (.inr (0, 0))))
  | 3 => some (.inr (3, n, cond (Nat.beq n 22) (.inl (List.replicate n (.inr (.inr (some 0))))) (.inr (0, 0))))
  | _ => none
def eBr (r : Option Bool) (yes no : eS) : Option (List eS) := match r with
  | some true => some [yes]
  | some false => some [no]
  | none => some [yes, no]
/-- all that isn't a call, a return, a jump by a table -/
def eStep (sr : List (Int × Int)) (dfs : List (List eV)) (Rc Rs nL : Nat) (i : Instr) (a b d pc : Nat) (l : eL) (st : List eV) (h : eH) (cs sl : Nat) : Option (List eS) := match i with
  | .iconst n => some [(pc + 1, l, .inl (ePt (Int32.ofInt n)) :: st, h, cs, sl)]
  | .bipush n => some [(pc + 2, l, .inl (ePt (Int8.ofInt n).toInt32) :: st, h, cs, sl)]
  | .sipush n => some [(pc + 3, l, .inl (ePt (Int16.ofInt n).toInt32) :: st, h, cs, sl)]
  | .lconst n => some [(pc + 1, l, .inr (.inr (some (Int64.ofNat (n : Nat)))) :: st, h, cs, sl)]
  | .ldc _ => some [(pc + 2, l, .inl (ePt (Int32.ofNat a)) :: st, h, cs, sl)]
  | .ldc_w _ => some [(pc + 3, l, .inl (ePt (Int32.ofNat a)) :: st, h, cs, sl)]
  | .ldc2_w _ => some [(pc + 3, l, .inr (.inr (some (Int64.ofNat a))) :: st, h, cs, sl)]
  | .iload_n k => match eGet l k with
    | some (.inl q) => some [(pc + 1, l, .inl q :: st, h, cs, sl)]
    | _ => none
  | .iload k => match eGet l k with
    | some (.inl q) => some [(pc + 2, l, .inl q :: st, h, cs, sl)]
    | _ => none
  | .lload_n k => match eGet l k with
    | some (.inr (.inr u)) => some [(pc + 1, l, .inr (.inr u) :: st, h, cs, sl)]
    | _ => none
  | .lload k => match eGet l k with
    | some (.inr (.inr u)) => some [(pc + 2, l, .inr (.inr u) :: st, h, cs, sl)]
    | _ => none
  | .aload_n k => match eGet l k with
    | some (.inr (.inl (some v))) => some [(pc + 1, l, .inr (.inl (some v)) :: st, h, cs, sl)]
    | _ => none
  | .aload k => match eGet l k with
    | some (.inr (.inl (some v))) => some [(pc + 2, l, .inr (.inl (some v)) :: st, h, cs, sl)]
    | _ => none
  | .istore_n k => match st with
    | .inl q :: r => cond (Nat.blt k nL) (some [(pc + 1, ePut l k (.inl q), r, h, cs, sl)]) none
    | _ => none
  | .istore k => match st with
    | .inl q :: r => cond (Nat.blt k nL) (some [(pc + 2, ePut l k (.inl q), r, h, cs, sl)]) none
    | _ => none
  | .lstore_n k => match st with
    | .inr (.inr u) :: r => cond (Nat.blt (k + 1) nL) (some [(pc + 1, ePut2 l k (.inr (.inr u)), r, h, cs, sl)]) none
    | _ => none
  | .lstore k => match st with
    | .inr (.inr u) :: r => cond (Nat.blt (k + 1) nL) (some [(pc + 2, ePut2 l k (.inr (.inr u)), r, h, cs, sl)]) none
    | _ => none
  | .astore_n k => match st with
    | .inr (.inl (some v)) :: r => cond (Nat.blt k nL) (some [(pc + 1, ePut l k (.inr (.inl (some v))), r, h, cs, sl)]) none
    | _ => none
  | .astore k => match st with
    | .inr (.inl (some v)) :: r => cond (Nat.blt k nL) (some [(pc + 2, ePut l k (.inr (.inl (some v))), r, h, cs, sl)]) none
    | _ => none
  | .iinc k n => match eGet l k with
    | some (.inl q) => cond (Nat.blt k nL) (some [(pc + 3, ePut l k (.inl (eAdd sr q (ePt (Int32.ofInt n)))), st, h, cs, sl)]) none
    | _ => none
  | .iadd => match eTwo st with
    | some (x, y, r) => some [(pc + 1, l, .inl (eAdd sr x y) :: r, h, cs, sl)]
    | none => none
  | .isub => match eTwo st with
    | some (x, y, r) => some [(pc + 1, l, .inl (eSub sr x y) :: r, h, cs, sl)]
    | none => none
  | .imul => match eTwo st with
    | some (x, y, r) => some [(pc + 1, l, .inl (eBin (fun u v => u * v) eTop x y) :: r, h, cs, sl)]
    | none => none
  | .iand => match eTwo st with
    | some (x, y, r) => some [(pc + 1, l, .inl (eBin (fun u v => u &&& v) eTop x y) :: r, h, cs, sl)]
    | none => none
  | .ior => match eTwo st with
    | some (x, y, r) => some [(pc + 1, l, .inl (eBin (fun u v => u ||| v) eTop x y) :: r, h, cs, sl)]
    | none => none
  | .ixor => match eTwo st with
    | some (x, y, r) => some [(pc + 1, l, .inl (eBin (fun u v => u ^^^ v) eTop x y) :: r, h, cs, sl)]
    | none => none
  | .ishl => match eTwo st with
    | some (x, y, r) => some [(pc + 1, l, .inl (eBin (fun u v => u <<< (v &&& 31)) eTop x y) :: r, h, cs, sl)]
    | none => none
  | .ishr => match eTwo st with
    | some (x, y, r) => some [(pc + 1, l, .inl (eBin (fun u v => u >>> (v &&& 31)) eTop x y) :: r, h, cs, sl)]
    | none => none
  | .iushr => match eTwo st with
    | some (x, y, r) => some [(pc + 1, l, .inl (eBin (fun u v => (u.toUInt32 >>> (v.toUInt32 &&& Int32.toUInt32 31)).toInt32) (eUsh y) x y) :: r, h, cs, sl)]
    | none => none
  | .irem => match eTwo st with
    | some (x, y, r) => cond (eEq sr y (0, 0, 0) == some false) (some [(pc + 1, l, .inl (eBin (fun u v => u - u / v * v) (eRem sr x y) x y) :: r, h, cs, sl)]) none
    | none => none
  | .idiv => match eTwo st with
    | some (x, y, r) => cond (eEq sr y (0, 0, 0) == some false) (some [(pc + 1, l, .inl (eBin (fun u v => u / v) eTop x y) :: r, h, cs, sl)]) none
    | none => none
  | .i2b => match st with
    | .inl _ :: r => some [(pc + 1, l, .inl eTop :: r, h, cs, sl)]
    | _ => none
  | .i2l => match st with
    | .inl q :: r => some [(pc + 1, l, .inr (.inr ((eOne q).map Int32.toInt64)) :: r, h, cs, sl)]
    | _ => none
  | .l2i => match st with
    | .inr (.inr _) :: r => some [(pc + 1, l, .inl eTop :: r, h, cs, sl)]
    | _ => none
  | .ladd => match st with
    | .inr (.inr u) :: .inr (.inr v) :: r => some [(pc + 1, l, .inr (.inr (eL2 (fun x y => x + y) v u)) :: r, h, cs, sl)]
    | _ => none
  | .lmul => match st with
    | .inr (.inr u) :: .inr (.inr v) :: r => some [(pc + 1, l, .inr (.inr (eL2 (fun x y => x * y) v u)) :: r, h, cs, sl)]
    | _ => none
  | .lcmp => match st with
    | .inr (.inr _) :: .inr (.inr _) :: r => some [(pc + 1, l, .inl eTop :: r, h, cs, sl)]
    | _ => none
  | .dup => match st with
    | v :: r => cond (Nat.beq (eCat v) 1) (some [(pc + 1, l, v :: v :: r, h, cs, sl)]) none
    | _ => none
  | .dup2 => match st with
    | v :: w :: r => cond (Nat.beq (eCat v) 1 && Nat.beq (eCat w) 1) (some [(pc + 1, l, v :: w :: v :: w :: r, h, cs, sl)]) none
    | _ => none
  | .pop => match st with
    | v :: r => cond (Nat.beq (eCat v) 1) (some [(pc + 1, l, r, h, cs, sl)]) none
    | _ => none
  | .getfield _ => match st with
    | .inr (.inl (some k)) :: r => match eFld h k a b with
      | some v => some [(pc + 3, l, v :: r, h, cs, sl)]
      | none => none
    | _ => none
  | .putfield _ => match st with
    | .inl q :: .inr (.inl (some k)) :: r => cond (Nat.beq d 0 || (Nat.beq d 2 && (eOne q == some 0 || eOne q == some 1))) (match eSetF h k a b (.inl q) with
      | some h' => some [(pc + 3, l, r, h', cs, sl)]
      | none => none) none
    | .inr (.inl (some v)) :: .inr (.inl (some k)) :: r => cond (Nat.beq d 5) (match eSetF h k a b (.inr (.inl (some v))) with
      | some h' => some [(pc + 3, l, r, h', cs, sl)]
      | none => none) none
    | _ => none
  | .iaload => match st with
    | .inl q :: .inr (.inl (some k)) :: r => match eALd sr h k q 0 with
      | some v => some [(pc + 1, l, .inl v :: r, h, cs, sl)]
      | none => none
    | _ => none
  | .baload => match st with
    | .inl q :: .inr (.inl (some k)) :: r => match eALd sr h k q 1, eALd sr h k q 2 with
      | some v, _ => some [(pc + 1, l, .inl v :: r, h, cs, sl)]
      | none, some v => some [(pc + 1, l, .inl v :: r, h, cs, sl)]
      | none, none => none
    | _ => none
  | .laload => match st with
    | .inl q :: .inr (.inl (some k)) :: r => cond (eLng sr h k q) (some [(pc + 1, l, .inr (.inr none) :: r, h, cs, sl)]) none
    | _ => none
  | .aaload => match st with
    | .inl q :: .inr (.inl (some k)) :: r => match eRow sr h k q with
      | some v => some [(pc + 1, l, v :: r, h, cs, sl)]
      | none => none
    | _ => none
  | .iastore => match st with
    | .inl v :: .inl q :: .inr (.inl (some k)) :: r => match eASt sr h k q v 0 with
      | some h' => some [(pc + 1, l, r, h', cs, sl)]
      | none => none
    | _ => none
  | .bastore => match st with
    | .inl v :: .inl q :: .inr (.inl (some k)) :: r => cond (eBSt sr h k q) (some [(pc + 1, l, r, h, cs, sl)]) (cond (eOne v == some 0 || eOne v == some 1) (match eASt sr h k q v 2 with
      | some h' => some [(pc + 1, l, r, h', cs, sl)]
      | none => none) none)
    | _ => none
  | .lastore => match st with
    | .inr (.inr u) :: .inl q :: .inr (.inl (some k)) :: r => match eLSt sr h k q u with
      | some h' => some [(pc + 1, l, r, h', cs, sl)]
      | none => none
    | _ => none
  | .arraylength => match st with
    | .inr (.inl (some k)) :: r => match h[k]? with
      | some (.inr (_, n, _)) => some [(pc + 1, l, .inl (ePt (Int32.ofNat n)) :: r, h, cs, sl)]
      | _ => none
    | _ => none
  | .newarray _ => match st with
    | .inl q :: r => match eOne q with
      | some x => cond (eLe 0 x.toInt && Nat.ble x.toNatClampNeg 60000000 && Nat.ble (cs + 1) Rc && Nat.ble (sl + x.toNatClampNeg) Rs) (match eNew a x.toNatClampNeg with
        | some c => some [(pc + 2, l, .inr (.inl (some h.length)) :: r, h ++ [c], cs + 1, sl + x.toNatClampNeg)]
        | none => none) none
      | none => none
    | _ => none
  | .new _ => match dfs[a]? with
    | some fs => cond (Nat.ble (cs + 1) Rc && Nat.ble (sl + fs.length) Rs) (some [(pc + 3, l, .inr (.inl (some h.length)) :: st, h ++ [.inl (a, fs)], cs + 1, sl + fs.length)]) none
    | none => none
  | .goto _ => some [(a, l, st, h, cs, sl)]
  | .ifCond k _ => match st with
    | .inl x :: r => eBr (eCmp sr k x (0, 0, 0)) (a, l, r, h, cs, sl) (pc + 3, l, r, h, cs, sl)
    | _ => none
  | .if_icmp k _ => match eTwo st with
    | some (x, y, r) => eBr (eCmp sr k x y) (a, l, r, h, cs, sl) (pc + 3, l, r, h, cs, sl)
    | none => none
  | .ifnull _ => match st with
    | .inr (.inl (some _)) :: r => some [(pc + 3, l, r, h, cs, sl)]
    | .inr (.inl none) :: r => some [(a, l, r, h, cs, sl)]
    | _ => none
  | .ifnonnull _ => match st with
    | .inr (.inl (some _)) :: r => some [(a, l, r, h, cs, sl)]
    | .inr (.inl none) :: r => some [(pc + 3, l, r, h, cs, sl)]
    | _ => none
  | .tableswitch dflt lo hi offs => match st with
    | .inl q :: r => match eOne q with
      | some x => cond (eLe lo x.toInt && eLe x.toInt hi) (match offs[(x.toInt - lo).toNat]? with
        | some off => cond (eLe 0 ((pc : Int) + off)) (some [(((pc : Int) + off).toNat, l, r, h, cs, sl)]) none
        | none => none) (cond (eLe 0 ((pc : Int) + dflt)) (some [(((pc : Int) + dflt).toNat, l, r, h, cs, sl)]) none)
      | none => cond ((eLe ((eRg sr q).2 + 1) lo || eLe (hi + 1) (eRg sr q).1) && eLe 0 ((pc : Int) + dflt)) (some [(((pc : Int) + dflt).toNat, l, r, h, cs, sl)]) none
    | _ => none
  | _ => none
end
section
/-! THE ENGINE, 4: the run of a method, with the calls in it. -/
/-- a method: its instructions by 32s of places, its locals, the cells and slots that it may make, what it hands back (0 nothing, 1 int, 2 boolean, 3 long, 4 a cell), how many arguments -/
abbrev eM : Type := List (List eN) × Nat × Nat × Nat × Nat × Nat
def eFind (ch : List eN) (pc : Nat) : Option eN := match ch with
  | [] => none
  | q :: ch => cond (Nat.beq q.1 pc) (some q) (eFind ch pc)
def eAt (code : List (List eN)) (pc : Nat) : Option eN := match code[pc / 32]? with
  | some ch => eFind ch pc
  | none => none
def eArgs (i : Nat) (vs : List eV) : eL := match vs with
  | [] => []
  | v :: vs => (i, v) :: eArgs (cond (Nat.beq (eCat v) 2) (i + 2) (i + 1)) vs
def eCats (vs : List eV) : Nat := match vs with
  | [] => 0
  | v :: vs => eCat v + eCats vs
def eMn (sr : List (Int × Int)) (a b : eI) : eI := (0, eMin (eRg sr a).1 (eRg sr b).1, eMin (eRg sr a).2 (eRg sr b).2)
def eMx (sr : List (Int × Int)) (a b : eI) : eI := (0, eMax (eRg sr a).1 (eRg sr b).1, eMax (eRg sr a).2 (eRg sr b).2)
def eJoin (sr : List (Int × Int)) (es : List eV) (q : Int × Int) : Option (Int × Int) := match es with
  | [] => some q
  | .inl v :: es => eJoin sr es (eMin q.1 (eRg sr v).1, eMax q.2 (eRg sr v).2)
  | _ :: _ => none
def eCopy (sr : List (Int × Int)) (h : eH) (k0 sp k1 dp n : Nat) : Option eH := match h[k0]?, h[k1]? with
  | some (.inr (t0, n0, c0)), some (.inr (t1, n1, c1)) => cond (Nat.beq t0 0 && Nat.beq t1 0 && !(Nat.beq k0 k1) && Nat.ble (sp + n) n0 && Nat.ble (dp + n) n1) (match c0, c1 with
    | .inl e0, .inl e1 => some (h.set k1 (.inr (t1, n1, .inl (e1.take dp ++ ((e0.drop sp).take n ++ e1.drop (dp + n))))))
    | .inl e0, .inr q => match eJoin sr e0 q with
      | some q' => some (h.set k1 (.inr (t1, n1, .inr q')))
      | none => none
    | .inr q0, .inr q1 => some (h.set k1 (.inr (t1, n1, .inr (eMin q0.1 q1.1, eMax q0.2 q1.2))))
    | .inr _, .inl _ => none) none
  | _, _ => none
/-- what the machine has rows of its own for: Object's start, Math.min, Math.max, arraycopy -/
def eBlt (sr : List (Int × Int)) (kd : Nat) (h : eH) (st : List eV) : Option (List eV × eH) := match kd with
  | 6 => match st with
    | .inr (.inl (some _)) :: r => cond (Nat.ble (eCats r) 8) (some (r, h)) none
    | _ => none
  | 7 => match eTwo st with
    | some (x, y, r) => cond (Nat.ble (eCats r) 8) (some (.inl (eMn sr x y) :: r, h)) none
    | none => none
  | 8 => match eTwo st with
    | some (x, y, r) => cond (Nat.ble (eCats r) 8) (some (.inl (eMx sr x y) :: r, h)) none
    | none => none
  | 9 => match st with
    | .inl n :: .inl dp :: .inr (.inl (some k1)) :: .inl sp :: .inr (.inl (some k0)) :: r => cond (Nat.ble (eCats r) 8) (match eOne n, eOne dp, eOne sp with
      | some n, some dp, some sp => cond (eLe 0 n.toInt && eLe 0 dp.toInt && eLe 0 sp.toInt) (match eCopy sr h k0 sp.toNatClampNeg k1 dp.toNatClampNeg n.toNatClampNeg with
        | some h' => some (r, h')
        | none => none) none
      | _, _, _ => none) none
    | _ => none
  | _ => none
def eColl {α : Type} (f : α → Option (List eS)) (xs : List α) : Option (List eS) := match xs with
  | [] => some []
  | x :: xs => match f x with
    | none => none
    | some a => match eColl f xs with
      | none => none
      | some b => some (a ++ b)
/-- what a method that stands at its return hands back: nothing, or a value -/
def eRet (M : eM) (f : eS) : Option (Option eV) := cond (Nat.ble f.2.2.2.2.1 M.2.2.1 && Nat.ble f.2.2.2.2.2 M.2.2.2.1) (match eAt M.1 f.1 with
  | some en => match M.2.2.2.2.1, en.2.1, f.2.2.1 with
    | 0, .return_, [] => some none
    | 1, .ireturn, [.inl q] => some (some (.inl q))
    | 2, .ireturn, [.inl q] => cond (eOne q == some 0 || eOne q == some 1) (some (some (.inl q))) none
    | 3, .lreturn, [.inr (.inr u)] => some (some (.inr (.inr u)))
    | 4, .areturn, [.inr (.inl (some k))] => some (some (.inr (.inl (some k))))
    | _, _, _ => none
  | none => none) none
def eOuts (N : eM) (fs : List eS) : Option (List (Option eV × eH)) := match fs with
  | [] => some []
  | f :: fs => match eRet N f with
    | none => none
    | some v => match eOuts N fs with
      | none => none
      | some os => some ((v, f.2.2.2.1) :: os)
/-- the arguments out of the stack: how many, with the one that is called upon or without -/
def ePop (st : List eV) (np : Nat) (kd : Nat) : Option (List eV × List eV) := match kd with
  | 1 | 4 => cond (Nat.ble np st.length) (some ((st.take np).reverse, st.drop np)) none
  | _ => match st[np]? with
    | some (.inr (.inl (some k))) => some (.inr (.inl (some k)) :: (st.take np).reverse, st.drop (np + 1))
    | _ => none
def eGrid (b n k : Nat) : eH := .inr (4, n, .inl ((List.range n).map (fun j => .inr (.inl (some (b + 1 + j)))))) :: List.replicate n (.inr (0, k, .inl (List.replicate k eZero)))
/-- a new row of rows of ints -/
def eMul (Rc Rs : Nat) (st : List eV) (h : eH) (cs sl : Nat) : Option (List eV × eH × Nat × Nat) := match st with
  | .inl qk :: .inl qn :: r => match eOne qk, eOne qn with
    | some k, some n => cond (eLe 0 k.toInt && eLe 0 n.toInt && Nat.ble k.toNatClampNeg 410 && Nat.ble n.toNatClampNeg 410 && Nat.ble (cs + (1 + n.toNatClampNeg)) Rc && Nat.ble (sl + (n.toNatClampNeg + n.toNatClampNeg * k.toNatClampNeg)) Rs)
      (some (.inr (.inl (some h.length)) :: r, h ++ eGrid h.length n.toNatClampNeg k.toNatClampNeg, cs + 1 + n.toNatClampNeg, sl + n.toNatClampNeg + n.toNatClampNeg * k.toNatClampNeg)) none
    | _, _ => none
  | _ => none
/-- what is called upon is of the class that the call selects -/
def eRcv (h : eH) (kd d0 : Nat) (as : List eV) : Bool := match kd with
  | 0 => match as with
    | .inr (.inl (some k)) :: _ => match h[k]? with
      | some (.inl o) => Nat.beq o.1 d0
      | _ => false
    | _ => false
  | _ => true
/-- a call; 'orc': calls that are known already -/
def eInv (sr : List (Int × Int)) (ms : List eM) (orc : Nat → Nat → List eV → eH → Option (List (Option eV × eH))) (ih : Nat → Nat → List Nat → eS → Option (List eS)) (d y : Nat) (stop : List Nat) (S : eS) (kd b d0 : Nat) (M : eM) : Option (List eS) :=
  match d with
  | 0 => none
  | d' + 1 => cond (Nat.ble 6 kd)
    (match eBlt sr kd S.2.2.2.1 S.2.2.1 with
      | some (st', h') => cond (Nat.ble S.2.2.2.2.1 M.2.2.1 && Nat.ble S.2.2.2.2.2 M.2.2.2.1) (cond (stop.elem (S.1 + 3)) (some [(S.1 + 3, S.2.1, st', h', S.2.2.2.2.1, S.2.2.2.2.2)]) (ih (d' + 1) y stop (S.1 + 3, S.2.1, st', h', S.2.2.2.2.1, S.2.2.2.2.2))) none
      | none => none)
    (match ms[b]? with
      | none => none
      | some N => match ePop S.2.2.1 N.2.2.2.2.2 kd with
        | none => none
        | some (as, r) => cond (Nat.ble (eCats r) 8 && Nat.ble (S.2.2.2.2.1 + N.2.2.1) M.2.2.1 && Nat.ble (S.2.2.2.2.2 + N.2.2.2.1) M.2.2.2.1 && Nat.ble (eCats as) N.2.1 && eRcv S.2.2.2.1 kd d0 as)
          (match (match orc d' b as S.2.2.2.1 with
              | some os => some os
              | none => match ih d' b [] (0, eArgs 0 as, [], S.2.2.2.1, 0, 0) with
                | none => none
                | some fs => eOuts N fs) with
            | none => none
            | some os => eColl (fun o : Option eV × eH => cond (stop.elem (S.1 + 3)) (some [(S.1 + 3, S.2.1, o.1.toList ++ r, o.2, S.2.2.2.2.1 + N.2.2.1, S.2.2.2.2.2 + N.2.2.2.1)]) (ih (d' + 1) y stop (S.1 + 3, S.2.1, o.1.toList ++ r, o.2, S.2.2.2.2.1 + N.2.2.1, S.2.2.2.2.2 + N.2.2.2.1))) os)
          none)
def eBody (sr : List (Int × Int)) (dfs : List (List eV)) (ms : List eM) (orc : Nat → Nat → List eV → eH → Option (List (Option eV × eH))) (ih : Nat → Nat → List Nat → eS → Option (List eS)) (d y : Nat) (stop : List Nat) (S : eS) : Option (List eS) := match ms[y]? with
  | none => none
  | some M => match eAt M.1 S.1 with
    | none => none
    | some en => match en.2.1 with
      | .ireturn => some [S]
      | .return_ => some [S]
      | .lreturn => some [S]
      | .areturn => some [S]
      | .invokevirtual _ => eInv sr ms orc ih d y stop S en.2.2.2.1 en.2.2.2.2.1 en.2.2.2.2.2.2 M
      | .invokestatic _ => eInv sr ms orc ih d y stop S en.2.2.2.1 en.2.2.2.2.1 en.2.2.2.2.2.2 M
      | .invokespecial _ => eInv sr ms orc ih d y stop S en.2.2.2.1 en.2.2.2.2.1 en.2.2.2.2.2.2 M
      | .multianewarray _ _ => match eMul M.2.2.1 M.2.2.2.1 S.2.2.1 S.2.2.2.1 S.2.2.2.2.1 S.2.2.2.2.2 with
        | none => none
        | some (st', h', cs', sl') => cond (stop.elem (S.1 + 4)) (some [(S.1 + 4, S.2.1, st', h', cs', sl')]) (ih d y stop (S.1 + 4, S.2.1, st', h', cs', sl'))
      | i => match eStep sr dfs M.2.2.1 M.2.2.2.1 M.2.1 i en.2.2.2.1 en.2.2.2.2.1 en.2.2.2.2.2.2 S.1 S.2.1 S.2.2.1 S.2.2.2.1 S.2.2.2.2.1 S.2.2.2.2.2 with
        | none => none
        | some outs => eColl (fun S' => cond (stop.elem S'.1) (some [S']) (ih d y stop S')) outs
def eExec (sr : List (Int × Int)) (dfs : List (List eV)) (ms : List eM) (orc : Nat → Nat → List eV → eH → Option (List (Option eV × eH))) (fuel : Nat) : Nat → Nat → List Nat → eS → Option (List eS) :=
  Nat.rec (fun _ _ _ _ => none) (fun _ ih => eBody sr dfs ms orc ih) fuel
end
section
/-! THE ENGINE, 5: what its reckonings say of the cells. -/
theorem eCond {α : Type} {b : Bool} {x : Option α} {y : α} (h : cond b x none = some y) : b = true ∧ x = some y := by
  cases b with
  | true => exact ⟨rfl, h⟩
  | false => cases h
def eHolds (k : Jvm.ClassFile.Cond) (x y : Int32) : Prop := match k with
  | .eq => x = y
  | .ne => ¬ x = y
  | .lt => x < y
  | .ge => y ≤ x
  | .gt => y < x
  | .le => x ≤ y
theorem eNotMap {o : Option Bool} {r : Bool} (h : o.map (!·) = some r) : o = some (!r) := by
  cases o with
  | none => cases h
  | some b => cases h; simp
theorem eCmp_ok {sr : List (Int × Int)} {σ : Nat → Int} (hs : eSg sr σ) {k : Jvm.ClassFile.Cond} {a b : eI} {x y : Int32} (ha : eIn σ a x) (hb : eIn σ b y) {r : Bool} (h : eCmp sr k a b = some r) : eHolds k x y ↔ r = true := by
  cases k with
  | eq => exact iff_of_eq (eEq_ok hs ha hb h)
  | ne =>
    have h1 := eEq_ok hs ha hb (eNotMap h)
    show ¬ x = y ↔ _
    rw [h1]
    cases r <;> simp
  | lt => exact iff_of_eq (eLt_ok hs ha hb h)
  | ge =>
    have h1 := eLt_ok hs ha hb (eNotMap h)
    show y ≤ x ↔ _
    rw [← Int32.not_lt, h1]
    cases r <;> simp
  | gt => exact iff_of_eq (eLt_ok hs hb ha h)
  | le =>
    have h1 := eLt_ok hs hb ha (eNotMap h)
    show x ≤ y ↔ _
    rw [← Int32.not_lt, h1]
    cases r <;> simp
theorem eBr_yes {sr : List (Int × Int)} {σ : Nat → Int} (hs : eSg sr σ) {k : Jvm.ClassFile.Cond} {a b : eI} {x y : Int32} (ha : eIn σ a x) (hb : eIn σ b y) {S1 S2 : eS} {outs : List eS} (h : eBr (eCmp sr k a b) S1 S2 = some outs) (hq : eHolds k x y) : S1 ∈ outs := by
  cases hc : eCmp sr k a b with
  | none => rw [hc] at h; cases h; exact List.mem_cons_self
  | some r =>
    have := (eCmp_ok hs ha hb hc).mp hq
    subst this
    rw [hc] at h
    cases h
    exact List.mem_cons_self
theorem eBr_no {sr : List (Int × Int)} {σ : Nat → Int} (hs : eSg sr σ) {k : Jvm.ClassFile.Cond} {a b : eI} {x y : Int32} (ha : eIn σ a x) (hb : eIn σ b y) {S1 S2 : eS} {outs : List eS} (h : eBr (eCmp sr k a b) S1 S2 = some outs) (hq : ¬ eHolds k x y) : S2 ∈ outs := by
  cases hc : eCmp sr k a b with
  | none => rw [hc] at h; cases h; exact List.mem_cons_of_mem _ List.mem_cons_self
  | some r =>
    have hr : r = false := by
      cases r with
      | false => rfl
      | true => exact absurd ((eCmp_ok hs ha hb hc).mpr rfl) hq
    subst hr
    rw [hc] at h
    cases h
    exact List.mem_cons_self
section ELM
variable {ad : List Nat} {σ : Nat → Int} {tys : List (ClassId × FieldType)} {h h' : eH} {ws : va_W} {sr : List (Int × Int)}
theorem eAd_set {k q : Nat} {e0 e1 : va_E} (hk : ws[k]? = some (q, e0)) : (ws.set k (q, e1)).map Prod.fst = ws.map Prod.fst := by
  rw [List.map_set]
  apply List.ext_getElem?
  intro j
  by_cases hj : k = j
  · subst hj
    have hlt : k < (ws.map Prod.fst).length := by rw [List.length_map]; exact (List.getElem?_eq_some_iff.mp hk).1
    rw [List.getElem?_set_self hlt, List.getElem?_map, hk]
    rfl
  · rw [List.getElem?_set_ne hj]
theorem eAd_at {k q a : Nat} {e0 : va_E} (hk : ws[k]? = some (q, e0)) (ha : (ws.map Prod.fst)[k]? = some a) : a = q := by
  rw [List.getElem?_map, hk] at ha
  exact (Option.some.inj ha).symm
theorem eFld_ok {k a b : Nat} {v : eV} (hf : eFld h k a b = some v) (hh : eAll (eCk ad σ tys) h ws) : ∃ (q : Nat) (vs : List Value) (w : Value), ws[k]? = some (q, .inr (a, vs)) ∧ vs[b]? = some w ∧ eOk ad σ v w := by
  unfold eFld at hf
  split at hf
  · rename_i o ho
    obtain ⟨hc, hg⟩ := eCond hf
    clear hf
    have hc := Nat.eq_of_beq_eq_true hc
    obtain ⟨⟨q, e⟩, h1, vs, h2, h3⟩ := eAll_get hh ho
    obtain ⟨w, h4, h5⟩ := eAll_get h3 hg
    have h2 : e = .inr (o.1, vs) := h2
    subst h2
    rw [hc] at h1
    exact ⟨q, vs, w, h1, h4, h5⟩
  · cases hf
theorem eSetF_ok {k a b : Nat} {v : eV} {w : Value} (hf : eSetF h k a b v = some h') (hh : eAll (eCk ad σ tys) h ws) (hv : eOk ad σ v w) : ∃ (q : Nat) (vs : List Value), ws[k]? = some (q, .inr (a, vs)) ∧ b < vs.length ∧ eAll (eCk ad σ tys) h' (ws.set k (q, .inr (a, vs.set b w))) := by
  unfold eSetF at hf
  split at hf
  · rename_i o ho
    obtain ⟨hc, hg⟩ := eCond hf
    clear hf
    rw [Bool.and_eq_true] at hc
    have h9 := Nat.eq_of_beq_eq_true hc.1
    have hb : b < o.2.length := Nat.le_of_ble_eq_true hc.2
    obtain ⟨⟨q, e⟩, h1, vs, h2, h3⟩ := eAll_get hh ho
    have h2 : e = .inr (o.1, vs) := h2
    subst h2
    cases hg
    subst h9
    rw [eAll_len h3] at hb
    exact ⟨q, vs, h1, hb, eAll_set hh k ⟨vs.set b w, rfl, eAll_set h3 b hv⟩⟩
  · cases hf
theorem eIx_ok (hs : eSg sr σ) {q : eI} {n : Nat} {x : Int32} (hx : eIn σ q x) (h : eIx sr q n = true) : vp_in x n ∧ x.toNatClampNeg < n := by
  unfold eIx at h
  rw [Bool.and_eq_true] at h
  have h1 := eLe_ok h.1
  have h2 := eLe_ok h.2
  have h3 := eRg_ok hs hx
  have h4 : vp_in x n := vp_in_iff.mpr ⟨by omega, by omega⟩
  exact ⟨h4, Nat.not_le.mp fun q => h4 (Or.inr q)⟩
theorem eAr_int {k n : Nat} {c : List eV ⊕ (Int × Int)} {cA : ClassId} {e : va_E} (hk : k = 0 ∨ k = 1 ∨ k = 2) (h : eAr ad σ k n c cA e) : ∃ f : Nat → Int32, e = .inl (cA, n, .inl f) ∧ eCt ad σ n f c := by
  rcases hk with rfl | rfl | rfl <;> exact h
theorem eInt_ar {k n : Nat} {c : List eV ⊕ (Int × Int)} {cA : ClassId} {f : Nat → Int32} (hk : k = 0 ∨ k = 1 ∨ k = 2) (h : eCt ad σ n f c) : eAr ad σ k n c cA (.inl (cA, n, .inl f)) := by
  rcases hk with rfl | rfl | rfl <;> exact ⟨f, rfl, h⟩
theorem eALd1_ok (h0 : σ 0 = 0) {n : Nat} {q v : eI} {x : Int32} {f : Nat → Int32} {c : List eV ⊕ (Int × Int)} (hf : eALd1 q c = some v) (hx : eIn σ q x) (h5 : eCt ad σ n f c) (hlt : x.toNatClampNeg < n) : eIn σ v (f x.toNatClampNeg) := by
  cases c with
  | inr r =>
    cases hf
    have := h5 _ hlt
    exact eIn_mk (by rw [h0]; omega) (by rw [h0]; omega)
  | inl es =>
    unfold eALd1 at hf
    simp only at hf
    split at hf
    · rename_i y hy
      have := eOne_ok h0 hx hy
      subst this
      obtain ⟨v', g1, g2⟩ := h5 _ hlt
      rw [g1] at hf
      match v', hf, g2 with
      | .inl v', hf, ⟨z, hz, g2⟩ =>
        cases hf
        cases hz
        exact g2
    · cases hf
      exact eTop_ok h0 _
theorem eALd_ok (hs : eSg sr σ) {k kd : Nat} {q v : eI} {x : Int32} (hk : kd = 0 ∨ kd = 1 ∨ kd = 2) (hf : eALd sr h k q kd = some v) (hh : eAll (eCk ad σ tys) h ws) (hx : eIn σ q x) : ∃ (a : Nat) (cA : ClassId) (t0 n : Nat) (f : Nat → Int32), ws[k]? = some (a, .inl (cA, n, .inl f)) ∧ tys[t0]? = some (cA, eTy kd) ∧ vp_in x n ∧ eIn σ v (f x.toNatClampNeg) := by
  unfold eALd at hf
  split at hf
  · rename_i t n c ho
    obtain ⟨hc, hg⟩ := eCond hf
    clear hf
    rw [Bool.and_eq_true] at hc
    have ht := Nat.eq_of_beq_eq_true hc.1
    subst ht
    obtain ⟨hin, hlt⟩ := eIx_ok hs hx hc.2
    obtain ⟨⟨a, e⟩, h1, cA, t0, h2, -, h3⟩ := eAll_get hh ho
    obtain ⟨f, h4, h5⟩ := eAr_int hk h3
    have h4 : e = .inl (cA, n, .inl f) := h4
    subst h4
    exact ⟨a, cA, t0, n, f, h1, h2, hin, eALd1_ok hs.1 hg hx h5 hlt⟩
  · cases hf
theorem eMin_ok (a b : Int) : eMin a b ≤ a ∧ eMin a b ≤ b := by
  unfold eMin
  cases hc : eLe a b with
  | true => have := eLe_ok hc; exact ⟨Int.le_refl _, this⟩
  | false => have := eLe_no hc; exact ⟨by show b ≤ a; omega, Int.le_refl _⟩
theorem eMax_ok (a b : Int) : a ≤ eMax a b ∧ b ≤ eMax a b := by
  unfold eMax
  cases hc : eLe a b with
  | true => have := eLe_ok hc; exact ⟨this, Int.le_refl _⟩
  | false => have := eLe_no hc; exact ⟨Int.le_refl _, by show b ≤ a; omega⟩
theorem eASt1_ok (hs : eSg sr σ) {n : Nat} {q v : eI} {x z : Int32} {f : Nat → Int32} {c c' : List eV ⊕ (Int × Int)} (hf : eASt1 sr q v c = some c') (hx : eIn σ q x) (hz : eIn σ v z) (h5 : eCt ad σ n f c) : eCt ad σ n (upd f x.toNatClampNeg z) c' := by
  cases c with
  | inr r =>
    cases hf
    have hr := eRg_ok hs hz
    intro j hj
    have h6 := h5 j hj
    have m1 := eMin_ok r.1 (eRg sr v).1
    have m2 := eMax_ok r.2 (eRg sr v).2
    show eMin r.1 (eRg sr v).1 ≤ _ ∧ _ ≤ eMax r.2 (eRg sr v).2
    unfold upd
    split
    · exact ⟨by omega, by omega⟩
    · exact ⟨by omega, by omega⟩
  | inl es =>
    unfold eASt1 at hf
    simp only at hf
    split at hf
    · rename_i y hy
      have := eOne_ok hs.1 hx hy
      subst this
      cases hf
      intro j hj
      obtain ⟨v0, g1, g2⟩ := h5 j hj
      by_cases hq : x.toNatClampNeg = j
      · refine ⟨.inl v, ?_, z, ?_, hz⟩
        · rw [← hq, List.getElem?_set_self (by rw [hq]; exact (List.getElem?_eq_some_iff.mp g1).1)]
        · simp [upd, hq]
      · refine ⟨v0, by rw [List.getElem?_set_ne hq]; exact g1, ?_⟩
        have : upd f x.toNatClampNeg z j = f j := by simp [upd, Ne.symm hq]
        rw [this]
        exact g2
    · cases hf
theorem eASt_ok (hs : eSg sr σ) {k kd : Nat} {q v : eI} {x z : Int32} (hk : kd = 0 ∨ kd = 1 ∨ kd = 2) (hf : eASt sr h k q v kd = some h') (hh : eAll (eCk ad σ tys) h ws) (hx : eIn σ q x) (hz : eIn σ v z) : ∃ (a : Nat) (cA : ClassId) (t0 n : Nat) (f : Nat → Int32), ws[k]? = some (a, .inl (cA, n, .inl f)) ∧ tys[t0]? = some (cA, eTy kd) ∧ vp_in x n ∧ eAll (eCk ad σ tys) h' (ws.set k (a, .inl (cA, n, .inl (upd f x.toNatClampNeg z)))) := by
  unfold eASt at hf
  split at hf
  · rename_i t n c ho
    split at hf
    · rename_i c' hc'
      obtain ⟨hc, hg⟩ := eCond hf
      clear hf
      rw [Bool.and_eq_true] at hc
      have ht := Nat.eq_of_beq_eq_true hc.1
      subst ht
      obtain ⟨hin, hlt⟩ := eIx_ok hs hx hc.2
      obtain ⟨⟨a, e⟩, h1, cA, t0, h2, hN, h3⟩ := eAll_get hh ho
      obtain ⟨f, h4, h5⟩ := eAr_int hk h3
      have h4 : e = .inl (cA, n, .inl f) := h4
      subst h4
      cases hg
      exact ⟨a, cA, t0, n, f, h1, h2, hin, eAll_set hh k ⟨cA, t0, h2, hN, eInt_ar hk (eASt1_ok hs hc' hx hz h5)⟩⟩
    · cases hf
  · cases hf
theorem eBSt_ok (hs : eSg sr σ) {k : Nat} {q : eI} {x : Int32} (hf : eBSt sr h k q = true) (hh : eAll (eCk ad σ tys) h ws) (hx : eIn σ q x) (z : Int32) : ∃ (a : Nat) (cA : ClassId) (t0 n : Nat) (f : Nat → Int32), ws[k]? = some (a, .inl (cA, n, .inl f)) ∧ tys[t0]? = some (cA, .byte) ∧ vp_in x n ∧ eAll (eCk ad σ tys) h (ws.set k (a, .inl (cA, n, .inl (upd f x.toNatClampNeg (vp_nar .byte z))))) := by
  unfold eBSt at hf
  split at hf
  · rename_i t n r ho
    simp only [Bool.and_eq_true] at hf
    obtain ⟨⟨⟨hf1, hf2⟩, hf3⟩, hf4⟩ := hf
    have ht := Nat.eq_of_beq_eq_true hf1
    subst ht
    obtain ⟨hin, hlt⟩ := eIx_ok hs hx hf2
    have l3 := eLe_ok hf3
    have l4 := eLe_ok hf4
    obtain ⟨⟨a, e⟩, h1, cA, t0, h2, hN, h3⟩ := eAll_get hh ho
    obtain ⟨f, h4, h5⟩ := eAr_int (Or.inr (Or.inl rfl)) h3
    have h4 : e = .inl (cA, n, .inl f) := h4
    subst h4
    refine ⟨a, cA, t0, n, f, h1, h2, hin, ?_⟩
    have e1 : h.set k (.inr (1, n, .inr r)) = h := by
      apply List.ext_getElem?
      intro j
      by_cases hj : k = j
      · subst hj
        rw [List.getElem?_set_self (List.getElem?_eq_some_iff.mp ho).1, ho]
      · rw [List.getElem?_set_ne hj]
    rw [← e1]
    refine eAll_set hh k ⟨cA, t0, h2, hN, eInt_ar (Or.inr (Or.inl rfl)) ?_⟩
    intro j hj
    have h6 := h5 j hj
    unfold upd
    split
    · rw [vp_nar_byte]
      have b1 : -128 ≤ z.toInt8.toInt32.toInt := by rw [Int8.toInt_toInt32]; have := Int8.le_toInt z.toInt8; omega
      have b2 : z.toInt8.toInt32.toInt ≤ 127 := by rw [Int8.toInt_toInt32]; have := Int8.toInt_lt z.toInt8; omega
      exact ⟨by omega, by omega⟩
    · exact h6
  · cases hf
theorem eLng_ok (hs : eSg sr σ) {k : Nat} {q : eI} {x : Int32} (hf : eLng sr h k q = true) (hh : eAll (eCk ad σ tys) h ws) (hx : eIn σ q x) : ∃ (a : Nat) (cA : ClassId) (t0 n : Nat) (f : Nat → Int64), ws[k]? = some (a, .inl (cA, n, .inr (.inl f))) ∧ tys[t0]? = some (cA, .long) ∧ vp_in x n := by
  unfold eLng at hf
  split at hf
  · rename_i t n r ho
    simp only [Bool.and_eq_true] at hf
    have ht := Nat.eq_of_beq_eq_true hf.1
    subst ht
    obtain ⟨hin, hlt⟩ := eIx_ok hs hx hf.2
    obtain ⟨⟨a, e⟩, h1, cA, t0, h2, hN, f, h4, h5⟩ := eAll_get hh ho
    have h4 : e = .inl (cA, n, .inr (.inl f)) := h4
    subst h4
    exact ⟨a, cA, t0, n, f, h1, h2, hin⟩
  · cases hf
theorem eLSt_ok (hs : eSg sr σ) {k : Nat} {q : eI} {x : Int32} {u : Option Int64} {z : Int64} {h' : eH} (hf : eLSt sr h k q u = some h') (hh : eAll (eCk ad σ tys) h ws) (hx : eIn σ q x) (hz : ∀ y, u = some y → z = y) : ∃ (a : Nat) (cA : ClassId) (t0 n : Nat) (f : Nat → Int64), ws[k]? = some (a, .inl (cA, n, .inr (.inl f))) ∧ tys[t0]? = some (cA, .long) ∧ vp_in x n ∧ eAll (eCk ad σ tys) h' (ws.set k (a, .inl (cA, n, .inr (.inl (vp_updL f x.toNatClampNeg z))))) := by
  unfold eLSt at hf
  split at hf
  · rename_i t n r ho
    obtain ⟨hc, hg⟩ := eCond hf
    cases hg
    simp only [Bool.and_eq_true] at hc
    have ht := Nat.eq_of_beq_eq_true hc.1
    subst ht
    obtain ⟨hin, hlt⟩ := eIx_ok hs hx hc.2
    obtain ⟨⟨a, e⟩, h1, cA, t0, h2, hN, f, h4, h5⟩ := eAll_get hh ho
    have h4 : e = .inl (cA, n, .inr (.inl f)) := h4
    subst h4
    refine ⟨a, cA, t0, n, f, h1, h2, hin, ?_⟩
    have e1 : h.set k (.inr (3, n, .inr r)) = h := by
      apply List.ext_getElem?
      intro j
      by_cases hj : k = j
      · subst hj
        rw [List.getElem?_set_self (List.getElem?_eq_some_iff.mp ho).1, ho]
      · rw [List.getElem?_set_ne hj]
    rw [← e1]
    exact eAll_set hh k ⟨cA, t0, h2, hN, vp_updL f x.toNatClampNeg z, rfl, trivial⟩
  · rename_i t n es ho
    split at hf
    · rename_i y hy
      obtain ⟨hc, hg⟩ := eCond hf
      cases hg
      simp only [Bool.and_eq_true] at hc
      have ht := Nat.eq_of_beq_eq_true hc.1
      subst ht
      obtain ⟨hin, hlt⟩ := eIx_ok hs hx hc.2
      obtain ⟨⟨a, e⟩, h1, cA, t0, h2, hN, f, h4, h5⟩ := eAll_get hh ho
      have h4 : e = .inl (cA, n, .inr (.inl f)) := h4
      subst h4
      refine ⟨a, cA, t0, n, f, h1, h2, hin, ?_⟩
      have hy := eOne_ok hs.1 hx hy
      subst hy
      refine eAll_set hh k ⟨cA, t0, h2, hN, vp_updL f x.toNatClampNeg z, rfl, fun j hj => ?_⟩
      obtain ⟨v, g1, g2⟩ := h5 j hj
      by_cases hj2 : j = x.toNatClampNeg
      · subst hj2
        refine ⟨.inr (.inr u), ?_, z, ?_, hz⟩
        · rw [List.getElem?_set_self (List.getElem?_eq_some_iff.mp g1).1]
        · simp [vp_updL]
      · refine ⟨v, ?_, ?_⟩
        · rw [List.getElem?_set_ne (fun q => hj2 q.symm)]
          exact g1
        · have : vp_updL f x.toNatClampNeg z j = f j := by simp [vp_updL, hj2]
          rw [this]
          exact g2
    · cases hf
  · cases hf
theorem eRow_ok (hs : eSg sr σ) {k : Nat} {q : eI} {v : eV} {x : Int32} (hf : eRow sr h k q = some v) (hh : eAll (eCk ad σ tys) h ws) (hx : eIn σ q x) : ∃ (a : Nat) (cA : ClassId) (t0 n : Nat) (f : Nat → Option Nat), ws[k]? = some (a, .inl (cA, n, .inr (.inr (.inr (.inr f))))) ∧ tys[t0]? = some (cA, .array .int) ∧ vp_in x n ∧ eOk ad σ v (va_rf (f x.toNatClampNeg)) := by
  unfold eRow at hf
  split at hf
  · rename_i t n es ho
    split at hf
    · rename_i y hy
      obtain ⟨hc, hg⟩ := eCond hf
      clear hf
      rw [Bool.and_eq_true] at hc
      have ht := Nat.eq_of_beq_eq_true hc.1
      subst ht
      obtain ⟨hin, hlt⟩ := eIx_ok hs hx hc.2
      obtain ⟨⟨a, e⟩, h1, cA, t0, h2, hN, f, h4, h5⟩ := eAll_get hh ho
      have h4 : e = .inl (cA, n, .inr (.inr (.inr (.inr f)))) := h4
      subst h4
      refine ⟨a, cA, t0, n, f, h1, h2, hin, ?_⟩
      have := eOne_ok hs.1 hx hy
      subst this
      obtain ⟨v', g1, g2⟩ := h5 _ hlt
      rw [g1] at hg
      cases hg
      exact g2
    · cases hf
  · cases hf
end ELM
end
section
/-! THE ENGINE, 5: one step is right. -/
/-- what holds of a place: the world, the locals, the stack -/
def eCn (D : va_G) (cl : List vw_C) (A : Nat → Prop) (H0 : Heap) (s : State) (σ : Nat → Int) (nL : Nat) (ad0 : List Nat) (S : eS) (H : Heap) (locs : List Loc) (ws : va_W) (tys : List (ClassId × FieldType)) (ls : Array Slot) (lv : List (Nat × Value)) (stk : List Value) : Prop :=
  va_K D cl tys s ∧ va_P D cl ws H ∧ va_D A ws ∧ va_S A H0 H locs ∧ (∃ t, ws.map Prod.fst = ad0 ++ t) ∧ eAll (eCk (ws.map Prod.fst) σ tys) S.2.2.2.1 ws ∧ lv_has ls nL lv ∧ eAll (eLo (ws.map Prod.fst) σ) S.2.1 lv ∧ eAll (eOk (ws.map Prod.fst) σ) S.2.2.1 stk
/-- what an instruction's links come to -/
def eLk (cl : List vw_C) (Ts : List Cond) (own : String) (init : Bool) (i : Instr) (pc a b d : Nat) : Prop := match i with
  | .getfield idx => ∃ (C : String) (T : u_T) (N : Nat), cl[a]? = some (C, T, N) ∧ b < N ∧ Cond.fieldLink own idx (T b).1 (T b).2.1 (T b).2.2.1 ∈ Ts
  | .putfield idx => ∃ (C : String) (T : u_T) (N : Nat), cl[a]? = some (C, T, N) ∧ b < N ∧ Cond.fieldLink own idx (T b).1 (T b).2.1 (T b).2.2.1 ∈ Ts ∧ ((T b).2.2.2 = false ∨ (init = true ∧ (T b).1 = own)) ∧ (d = 0 → parseFieldDescriptor (T b).2.2.1 = some .int) ∧ (d = 2 → parseFieldDescriptor (T b).2.2.1 = some .boolean) ∧ (d = 5 → ∃ ty, parseFieldDescriptor (T b).2.2.1 = some ty ∧ ((∃ n, ty = .object n) ∨ ∃ t, ty = .array t))
  | .ldc idx => Cond.constant own idx (Int32.ofNat a) ∈ Ts
  | .ldc_w idx => Cond.constant own idx (Int32.ofNat a) ∈ Ts
  | .ldc2_w idx => Cond.constantLong own idx (Int64.ofNat a) ∈ Ts
  | .newarray t => Cond.arrayClass (newarray.typeOf t) ∈ Ts ∧ newarray.typeOf t = eTy a
  | .new idx => ∃ (C : String) (T : u_T) (N : Nat), cl[a]? = some (C, T, N) ∧ Cond.classLink own idx C ∈ Ts ∧ Cond.instantiable C N ∈ Ts ∧ Cond.initialized C ∈ Ts
  | .goto off => (pc : Int) + off = (a : Int)
  | .ifCond _ off => (pc : Int) + off = (a : Int)
  | .if_icmp _ off => (pc : Int) + off = (a : Int)
  | .ifnull off => (pc : Int) + off = (a : Int)
  | .ifnonnull off => (pc : Int) + off = (a : Int)
  | _ => True
/-- what is known of the classes -/
def eKl (cl : List vw_C) (Ts : List Cond) (dfs : List (List eV)) : Prop := ∀ (ci : Nat) (C : String) (T : u_T) (N : Nat), cl[ci]? = some (C, T, N) → (∀ w ∈ u_ws C T N, w ∈ Ts) ∧ ∃ ty : Nat → FieldType, (∀ k, k < N → parseFieldDescriptor (T k).2.2.1 = some (ty k)) ∧ (∀ a, a < N → ∀ b, b < N → a ≠ b → (T a).2.1 ≠ (T b).2.1) ∧ ∀ fs, dfs[ci]? = some fs → fs.length = N ∧ ∃ vs : List Value, (∀ (ad : List Nat) (σ : Nat → Int), σ 0 = 0 → eAll (eOk ad σ) fs vs) ∧ ∀ j, j < N → defaultValue (ty j) = vp_V vs j
section ESO
variable {p : Program} {l0 : Launch} {e : Env} {R : Room} {s : State} {m : MethodId} {args : Array Value} {below : List Frame} {meth : Method} {c : Code} {Q : State → Prop}
variable {cc : ByteArray} {own : String} {Ts : List Cond} {cl : List vw_C} {dfs : List (List eV)} {init : Bool} {sr : List (Int × Int)} {σ : Nat → Int} {D : va_G} {A : Nat → Prop} {H0 : Heap} {ad0 : List Nat} {nL Rc Rs : Nat}
theorem eTwo_ok {ad : List Nat} {st r : List eV} {a b : eI} {w : List Value} (h : eTwo st = some (a, b, r)) (hw : eAll (eOk ad σ) st w) : ∃ (x y : Int32) (r' : List Value), w = .int y :: .int x :: r' ∧ eIn σ a x ∧ eIn σ b y ∧ eAll (eOk ad σ) r r' := by
  match st, h with
  | .inl b' :: .inl a' :: r', h =>
    cases h
    obtain ⟨w1, ws1, rfl, ⟨y, rfl, hy⟩, h2⟩ := eAll_cons hw
    obtain ⟨w2, ws2, rfl, ⟨x, rfl, hx⟩, h3⟩ := eAll_cons h2
    exact ⟨x, y, ws2, rfl, hx, hy, h3⟩
theorem eGet_at {ad : List Nat} {l : eL} {lv : List (Nat × Value)} {ls : Array Slot} {i : Nat} {v : eV} (hl : lv_has ls nL lv) (h : eAll (eLo ad σ) l lv) (hg : eGet l i = some v) : ∃ w, ls[i]? = some (.val w) ∧ eOk ad σ v w ∧ ∃ k : Nat, lv[k]? = some (i, w) := by
  obtain ⟨w, h1, h2⟩ := eGet_ok h hg
  exact ⟨w, hl.2.2 _ h1, h2, List.getElem?_of_mem h1⟩
theorem eCn_set {k q pc cs sl : Nat} {e0 e1 : va_E} {H1 : Heap} {locs1 : List Loc} {ws : va_W} {tys : List (ClassId × FieldType)} {ls : Array Slot} {lv : List (Nat × Value)} {stk : List Value} {l : eL} {st : List eV} {h' : eH} (hK : va_K D cl tys s) (he : ws[k]? = some (q, e0)) (hP : va_P D cl (ws.set k (q, e1)) H1) (hD : va_D A (ws.set k (q, e1))) (hS : va_S A H0 H1 locs1) (hpre : ∃ t, ws.map Prod.fst = ad0 ++ t) (hh : eAll (eCk (ws.map Prod.fst) σ tys) h' (ws.set k (q, e1))) (hl : lv_has ls nL lv) (hlv : eAll (eLo (ws.map Prod.fst) σ) l lv) (hsk : eAll (eOk (ws.map Prod.fst) σ) st stk) : eCn D cl A H0 s σ nL ad0 (pc, l, st, h', cs, sl) H1 locs1 (ws.set k (q, e1)) tys ls lv stk := by
  have e := eAd_set (e1 := e1) he
  refine ⟨hK, hP, hD, hS, ?_, ?_, hl, ?_, ?_⟩ <;> rw [e] <;> assumption
theorem eCn_app {q pc cs sl : Nat} {e1 : va_E} {cc' : eC} {H1 : Heap} {locs1 : List Loc} {ws : va_W} {tys tys' : List (ClassId × FieldType)} {ls : Array Slot} {lv : List (Nat × Value)} {stk : List Value} {l : eL} {st : List eV} {h : eH} (hK : va_K D cl tys' s) (ht : ∃ t, tys' = tys ++ t) (hP : va_P D cl (ws ++ [(q, e1)]) H1) (hD : va_D A (ws ++ [(q, e1)])) (hS : va_S A H0 H1 locs1) (hpre : ∃ t, ws.map Prod.fst = ad0 ++ t) (hh : eAll (eCk (ws.map Prod.fst) σ tys) h ws) (hc : eCk ((ws ++ [(q, e1)]).map Prod.fst) σ tys' cc' (q, e1)) (hl : lv_has ls nL lv) (hlv : eAll (eLo (ws.map Prod.fst) σ) l lv) (hsk : eAll (eOk (ws.map Prod.fst) σ) st stk) : eCn D cl A H0 s σ nL ad0 (pc, l, .inr (.inl (some h.length)) :: st, h ++ [cc'], cs, sl) H1 locs1 (ws ++ [(q, e1)]) tys' ls lv (.ref q :: stk) := by
  have e : ∃ t, (ws ++ [(q, e1)]).map Prod.fst = ws.map Prod.fst ++ t := ⟨[q], by simp⟩
  refine ⟨hK, hP, hD, hS, ?_, eAll_app (eAll_mono (fun _ _ => eCk_ad e ht) hh) ⟨hc, trivial⟩, hl, eAll_mono (fun _ _ z => ⟨z.1, eOk_ad e z.2⟩) hlv, ⟨q, ?_, rfl⟩, eAll_mono (fun _ _ => eOk_ad e) hsk⟩
  · obtain ⟨t, ht⟩ := hpre
    exact ⟨t ++ [q], by simp [ht]⟩
  · rw [eAll_len hh]
    simp
theorem eNew_ok {a n : Nat} {c' : eC} (h : eNew a n = some c') (hn : n ≤ 60000000) : ∃ a0 : vp_A, (∀ cA : ClassId, vp_cell cA a0 = arrV cA n (fun _ => defaultValue (eTy a))) ∧ n * componentBytes (eTy a) ≤ 536870912 ∧ ∀ (ad : List Nat) (σ : Nat → Int) (tys : List (ClassId × FieldType)) (cA : ClassId) (t0 q : Nat), σ 0 = 0 → tys[t0]? = some (cA, eTy a) → eCk ad σ tys c' (q, .inl (cA, a0)) := by
  have z : ∀ (ad : List Nat) (σ : Nat → Int), σ 0 = 0 → eCt ad σ n (fun _ => 0) (cond (Nat.ble n 410) (.inl (List.replicate n eZero)) (.inr (0, 0))) := by
    intro ad σ h0
    cases Nat.ble n 410 with
    | true => exact fun j hj => ⟨eZero, by simp [hj], 0, rfl, eIn_mk (by rw [h0]; decide) (by rw [h0]; decide)⟩
    | false => exact fun j hj => ⟨by show (0 : Int) ≤ (0 : Int32).toInt; decide, by show (0 : Int32).toInt ≤ (0 : Int); decide⟩
  unfold eNew at h
  split at h
  · cases h
    exact ⟨(n, .inl (fun _ => 0)), fun _ => rfl, by show n * 4 ≤ _; omega, fun ad σ tys cA t0 q h0 ht => ⟨cA, t0, ht, by show n < 2 ^ 31; omega, _, rfl, z ad σ h0⟩⟩
  · cases h
    exact ⟨(n, .inl (fun _ => 0)), fun _ => rfl, by show n * 1 ≤ _; omega, fun ad σ tys cA t0 q h0 ht => ⟨cA, t0, ht, by show n < 2 ^ 31; omega, _, rfl, fun j hj => ⟨by show (-128 : Int) ≤ (0 : Int32).toInt; decide, by show (0 : Int32).toInt ≤ (127 : Int); decide⟩⟩⟩
  · cases h
    exact ⟨(n, .inl (fun _ => 0)), fun _ => rfl, by show n * 1 ≤ _; omega, fun ad σ tys cA t0 q h0 ht => ⟨cA, t0, ht, by show n < 2 ^ 31; omega, _, rfl, z ad σ h0⟩⟩
  · cases h
    exact ⟨(n, .inr (.inl (fun _ => 0))), fun _ => rfl, by show n * 8 ≤ _; omega, fun ad σ tys cA t0 q h0 ht => ⟨cA, t0, ht, by show n < 2 ^ 31; omega, _, rfl, by
      cases hb : Nat.beq n 22 with
      | true => exact fun j hj => ⟨.inr (.inr (some 0)), by simp [hj], 0, rfl, fun y hy => by cases hy; rfl⟩
      | false => trivial⟩⟩
  · cases h
theorem eStF (hx : p.tables.exec = Jvm.exec) (hb : c.code = cc) (hown : s.vm.findClass own = some m.cls) (hts : ∀ w ∈ Ts, w.before args s = true) (hcl : eKl cl Ts dfs) (hin : init = true → meth.name = "<init>")
    {H : Heap} {locs : List Loc} {ws : va_W} {tys : List (ClassId × FieldType)} {ls : Array Slot} {pc idx k a b q cs sl : Nat} {vs rest : List Value} {w : Value} {C : String} {T : u_T} {N : Nat} {ty : FieldType} (hK : va_K D cl tys s) (hP : va_P D cl ws H) (hD : va_D A ws) (hS : va_S A H0 H locs) (he : ws[k]? = some (q, .inr (a, vs))) (hl : b < vs.length) (hc : cl[a]? = some (C, T, N)) (hbN : b < N) (hlink : Cond.fieldLink own idx (T b).1 (T b).2.1 (T b).2.2.1 ∈ Ts) (hfin : (T b).2.2.2 = false ∨ (init = true ∧ (T b).1 = own)) (hty : parseFieldDescriptor (T b).2.2.1 = some ty) (hn : narrow ty w = w) (hfit : fits ty w = true) (hdg : decode cc pc = .ok (.putfield idx, 3))
    (kk : ∀ (H1 : Heap) (locs1 : List Loc), va_P D cl (ws.set k (q, .inr (a, vs.set b w))) H1 → va_D A (ws.set k (q, .inr (a, vs.set b w))) → va_S A H0 H1 locs1 → W p l0 e R s m args below meth c H1 locs1 cs sl Q (F0 m (pc + 3) ls rest)) : W p l0 e R s m args below meth c H locs cs sl Q (F0 m pc ls (w :: .ref q :: rest)) := by
  obtain ⟨h1, ty0, h2, h3, -⟩ := hcl a C T N hc
  cases hf : (T b).2.2.2 with
  | false => exact va_put hx hb hts h1 ty0 h2 h3 hown hK hP hD hS k he hc b hbN (hts _ hlink) (fun _ z => z) hf hty hn hfit hl hdg kk
  | true =>
    rcases hfin with z | ⟨z1, z2⟩
    · rw [hf] at z; cases z
    · exact va_putF hx hb hts h1 ty0 h2 h3 hown hK hP hD hS k he hc b hbN (hts _ hlink) (fun _ z => z) hf (hin z1) z2 hty hn hfit hl hdg kk
theorem e_bool {q : eI} {x : Int32} (h0 : σ 0 = 0) (hq : eIn σ q x) (h : (eOne q == some 0 || eOne q == some 1) = true) : x = 0 ∨ x = 1 := by
  rw [Bool.or_eq_true] at h
  rcases h with h | h
  · exact Or.inl (eOne_ok h0 hq (eq_of_beq h))
  · exact Or.inr (eOne_ok h0 hq (eq_of_beq h))
theorem eAr_len {ad : List Nat} {k n : Nat} {c9 : List eV ⊕ (Int × Int)} {cA : ClassId} {e9 : va_E} (h : eAr ad σ k n c9 cA e9) : ∃ z : vp_A, e9 = .inl (cA, z) ∧ z.1 = n := by
  unfold eAr at h
  split at h
  · obtain ⟨f, h1, -⟩ := h; exact ⟨_, h1, rfl⟩
  · obtain ⟨f, h1, -⟩ := h; exact ⟨_, h1, rfl⟩
  · obtain ⟨f, h1, -⟩ := h; exact ⟨_, h1, rfl⟩
theorem va_aldA {H : Heap} {locs : List Loc} {ws : va_W} {tys : List (ClassId × FieldType)} {ls : Array Slot} {pc cs sl a : Nat} {rest : List Value} (hexec : p.tables.exec = Jvm.exec) (hb : c.code = cc) (hK : va_K D cl tys s) (hP : va_P D cl ws H) (q0 t0 : Nat) {cA : ClassId} {n : Nat} {f : Nat → Option Nat} (ha : ws[q0]? = some (a, .inl (cA, n, .inr (.inr (.inr (.inr f)))))) (ht : tys[t0]? = some (cA, .array .int)) {i : Int32} (hin : vp_in i n) (hdg : decode cc pc = .ok (.aaload, 1))
    (kk : W p l0 e R s m args below meth c H locs cs sl Q (F0 m (pc + 1) ls (va_rf (f i.toNatClampNeg) :: rest))) : W p l0 e R s m args below meth c H locs cs sl Q (F0 m pc ls (.int i :: .ref a :: rest)) := by
  have hlt : i.toNatClampNeg < n := Nat.not_le.mp fun q => hin (Or.inr q)
  exact W.aald (v := va_rf (f i.toNatClampNeg)) (ty := .array .int) hexec hb (hP q0 _ ha) ((hK.2 t0 _ ht).1 n (fun j => va_rf (f j))) rfl (fun q => by cases q) (by show ¬ (i < 0 ∨ (arrV _ _ _).slots.size ≤ _); rw [arrV_size]; exact hin) (by show (arrV _ _ _).slots[_]? = _; rw [arrV_read _ _ hlt]) rfl rfl hdg kk
set_option maxHeartbeats 4000000 in
theorem eStep_ok (hx : p.tables.exec = Jvm.exec) (hb : c.code = cc) (hown : s.vm.findClass own = some m.cls) (hts : ∀ w ∈ Ts, w.before args s = true) (hcl : eKl cl Ts dfs) (hin : init = true → meth.name = "<init>") (hRc : R.cells = Rc) (hRs : R.slots = Rs) (hs : eSg sr σ) (hA : ∀ q, H0.size ≤ q → A q)
    {i : Instr} {pc a b d cs sl : Nat} {l : eL} {st : List eV} {h : eH} {outs : List eS} (hd : eLen i ≠ 0 → decode cc pc = .ok (i, eLen i)) (hd0 : ∃ len, decode cc pc = .ok (i, len)) (hlk : eLk cl Ts own init i pc a b d)
    (hst : eStep sr dfs Rc Rs nL i a b d pc l st h cs sl = some outs)
    (K : ∀ S' ∈ outs, ∀ (H : Heap) (locs : List Loc) (ws : va_W) (tys : List (ClassId × FieldType)) (ls : Array Slot) (lv : List (Nat × Value)) (stk : List Value), eCn D cl A H0 s σ nL ad0 S' H locs ws tys ls lv stk → W p l0 e R s m args below meth c H locs S'.2.2.2.2.1 S'.2.2.2.2.2 Q (F0 m S'.1 ls stk)) :
    ∀ (H : Heap) (locs : List Loc) (ws : va_W) (tys : List (ClassId × FieldType)) (ls : Array Slot) (lv : List (Nat × Value)) (stk : List Value), eCn D cl A H0 s σ nL ad0 (pc, l, st, h, cs, sl) H locs ws tys ls lv stk → W p l0 e R s m args below meth c H locs cs sl Q (F0 m pc ls stk) := by
  intro H locs ws tys ls lv stk hc
  obtain ⟨hK, hP, hD, hS, hpre, hh, hl, hlv, hsk⟩ := hc
  have h0 := hs.1
  unfold eStep at hst
  split at hst
  · cases hst
    exact lv_iconst hx hb (hd (by simp [eLen])) rfl (K _ List.mem_cons_self _ _ _ _ _ _ _ ⟨hK, hP, hD, hS, hpre, hh, hl, hlv, ⟨_, rfl, ePt_ok h0 _⟩, hsk⟩)
  · cases hst
    exact lv_bipush hx hb (hd (by simp [eLen])) rfl (K _ List.mem_cons_self _ _ _ _ _ _ _ ⟨hK, hP, hD, hS, hpre, hh, hl, hlv, ⟨_, rfl, ePt_ok h0 _⟩, hsk⟩)
  · cases hst
    exact lv_sipush hx hb (hd (by simp [eLen])) rfl (K _ List.mem_cons_self _ _ _ _ _ _ _ ⟨hK, hP, hD, hS, hpre, hh, hl, hlv, ⟨_, rfl, ePt_ok h0 _⟩, hsk⟩)
  · cases hst
    exact lv_lconst hx hb (hd (by simp [eLen])) rfl (K _ List.mem_cons_self _ _ _ _ _ _ _ ⟨hK, hP, hD, hS, hpre, hh, hl, hlv, ⟨_, rfl, fun y hy => by cases hy; rfl⟩, hsk⟩)
  · cases hst
    exact lv_ldc hx hb hown (hts _ hlk) (hd (by simp [eLen])) (K _ List.mem_cons_self _ _ _ _ _ _ _ ⟨hK, hP, hD, hS, hpre, hh, hl, hlv, ⟨_, rfl, ePt_ok h0 _⟩, hsk⟩)
  · cases hst
    exact lv_ldcw hx hb hown (hts _ hlk) (hd (by simp [eLen])) (K _ List.mem_cons_self _ _ _ _ _ _ _ ⟨hK, hP, hD, hS, hpre, hh, hl, hlv, ⟨_, rfl, ePt_ok h0 _⟩, hsk⟩)
  · cases hst
    exact lv_ldc2 hx hb hown (hts _ hlk) (hd (by simp [eLen])) (K _ List.mem_cons_self _ _ _ _ _ _ _ ⟨hK, hP, hD, hS, hpre, hh, hl, hlv, ⟨_, rfl, fun y hy => by cases hy; rfl⟩, hsk⟩)
  · split at hst
    · rename_i v hg
      obtain ⟨w, h1, h2, -⟩ := eGet_at hl hlv hg
      obtain ⟨x, rfl, hxq⟩ := h2
      cases hst
      exact lv_iload_n hx hb (hd (by simp [eLen])) rfl h1 (K _ List.mem_cons_self _ _ _ _ _ _ _ ⟨hK, hP, hD, hS, hpre, hh, hl, hlv, ⟨_, rfl, hxq⟩, hsk⟩)
    · cases hst
  · split at hst
    · rename_i v hg
      obtain ⟨w, h1, h2, -⟩ := eGet_at hl hlv hg
      obtain ⟨x, rfl, hxq⟩ := h2
      cases hst
      exact lv_iload hx hb (hd (by simp [eLen])) h1 (K _ List.mem_cons_self _ _ _ _ _ _ _ ⟨hK, hP, hD, hS, hpre, hh, hl, hlv, ⟨_, rfl, hxq⟩, hsk⟩)
    · cases hst
  · split at hst
    · rename_i v hg
      obtain ⟨w, h1, h2, -⟩ := eGet_at hl hlv hg
      obtain ⟨x, rfl, hxy⟩ := h2
      cases hst
      exact lv_lload_n hx hb (hd (by simp [eLen])) rfl h1 (K _ List.mem_cons_self _ _ _ _ _ _ _ ⟨hK, hP, hD, hS, hpre, hh, hl, hlv, ⟨_, rfl, hxy⟩, hsk⟩)
    · cases hst
  · split at hst
    · rename_i v hg
      obtain ⟨w, h1, h2, -⟩ := eGet_at hl hlv hg
      obtain ⟨x, rfl, hxy⟩ := h2
      cases hst
      exact lv_lload hx hb (hd (by simp [eLen])) h1 (K _ List.mem_cons_self _ _ _ _ _ _ _ ⟨hK, hP, hD, hS, hpre, hh, hl, hlv, ⟨_, rfl, hxy⟩, hsk⟩)
    · cases hst
  · split at hst
    · rename_i v hg
      obtain ⟨w, h1, h2, -⟩ := eGet_at hl hlv hg
      obtain ⟨x, hxa, rfl⟩ := h2
      cases hst
      exact lv_aload_n hx hb (hd (by simp [eLen])) rfl h1 (K _ List.mem_cons_self _ _ _ _ _ _ _ ⟨hK, hP, hD, hS, hpre, hh, hl, hlv, ⟨_, hxa, rfl⟩, hsk⟩)
    · cases hst
  · split at hst
    · rename_i v hg
      obtain ⟨w, h1, h2, -⟩ := eGet_at hl hlv hg
      obtain ⟨x, hxa, rfl⟩ := h2
      cases hst
      exact lv_aload hx hb (hd (by simp [eLen])) h1 (K _ List.mem_cons_self _ _ _ _ _ _ _ ⟨hK, hP, hD, hS, hpre, hh, hl, hlv, ⟨_, hxa, rfl⟩, hsk⟩)
    · cases hst
  · split at hst
    · obtain ⟨hn, hg⟩ := eCond hst
      cases hg
      obtain ⟨w, stk, rfl, ⟨x, rfl, hxq⟩, hsk1⟩ := eAll_cons hsk
      exact lv_istore_n hx hb (hd (by simp [eLen])) rfl hl (Nat.le_of_ble_eq_true hn) rfl (fun ls hl => K _ List.mem_cons_self _ _ _ _ _ _ _ ⟨hK, hP, hD, hS, hpre, hh, hl, ePut_ok hlv ⟨x, rfl, hxq⟩, hsk1⟩)
    · cases hst
  · split at hst
    · obtain ⟨hn, hg⟩ := eCond hst
      cases hg
      obtain ⟨w, stk, rfl, ⟨x, rfl, hxq⟩, hsk1⟩ := eAll_cons hsk
      exact lv_istore hx hb (hd (by simp [eLen])) hl (Nat.le_of_ble_eq_true hn) rfl (fun ls hl => K _ List.mem_cons_self _ _ _ _ _ _ _ ⟨hK, hP, hD, hS, hpre, hh, hl, ePut_ok hlv ⟨x, rfl, hxq⟩, hsk1⟩)
    · cases hst
  · split at hst
    · obtain ⟨hn, hg⟩ := eCond hst
      cases hg
      obtain ⟨w, stk, rfl, ⟨x, rfl, hxy⟩, hsk1⟩ := eAll_cons hsk
      exact lv_lstore_n hx hb (hd (by simp [eLen])) rfl hl (Nat.le_of_ble_eq_true hn) rfl (fun ls hl => K _ List.mem_cons_self _ _ _ _ _ _ _ ⟨hK, hP, hD, hS, hpre, hh, hl, ePut2_ok hlv ⟨x, rfl, hxy⟩, hsk1⟩)
    · cases hst
  · split at hst
    · obtain ⟨hn, hg⟩ := eCond hst
      cases hg
      obtain ⟨w, stk, rfl, ⟨x, rfl, hxy⟩, hsk1⟩ := eAll_cons hsk
      exact lv_lstore hx hb (hd (by simp [eLen])) hl (Nat.le_of_ble_eq_true hn) rfl (fun ls hl => K _ List.mem_cons_self _ _ _ _ _ _ _ ⟨hK, hP, hD, hS, hpre, hh, hl, ePut2_ok hlv ⟨x, rfl, hxy⟩, hsk1⟩)
    · cases hst
  · split at hst
    · obtain ⟨hn, hg⟩ := eCond hst
      cases hg
      obtain ⟨w, stk, rfl, ⟨x, hxa, rfl⟩, hsk1⟩ := eAll_cons hsk
      exact lv_astore_n hx hb (hd (by simp [eLen])) rfl hl (Nat.le_of_ble_eq_true hn) rfl (fun ls hl => K _ List.mem_cons_self _ _ _ _ _ _ _ ⟨hK, hP, hD, hS, hpre, hh, hl, ePut_ok hlv ⟨x, hxa, rfl⟩, hsk1⟩)
    · cases hst
  · split at hst
    · obtain ⟨hn, hg⟩ := eCond hst
      cases hg
      obtain ⟨w, stk, rfl, ⟨x, hxa, rfl⟩, hsk1⟩ := eAll_cons hsk
      exact lv_astore hx hb (hd (by simp [eLen])) hl (Nat.le_of_ble_eq_true hn) rfl (fun ls hl => K _ List.mem_cons_self _ _ _ _ _ _ _ ⟨hK, hP, hD, hS, hpre, hh, hl, ePut_ok hlv ⟨x, hxa, rfl⟩, hsk1⟩)
    · cases hst
  · split at hst
    · rename_i v hg
      obtain ⟨hn, hg2⟩ := eCond hst
      cases hg2
      obtain ⟨w, -, ⟨x, rfl, hxq⟩, kk, hkk⟩ := eGet_at hl hlv hg
      exact lv_iinc hx hb (hd (by simp [eLen])) hl hkk rfl (Nat.le_of_ble_eq_true hn) rfl (fun ls hl => K _ List.mem_cons_self _ _ _ _ _ _ _ ⟨hK, hP, hD, hS, hpre, hh, hl, ePut_ok hlv ⟨_, rfl, eAdd_ok hs hxq (ePt_ok h0 _)⟩, hsk⟩)
    · cases hst
  · split at hst
    · rename_i x y r hg
      cases hst
      obtain ⟨u, v, r, rfl, hu, hv, hr⟩ := eTwo_ok hg hsk
      exact lv_iadd hx hb (hd (by simp [eLen])) (K _ List.mem_cons_self _ _ _ _ _ _ _ ⟨hK, hP, hD, hS, hpre, hh, hl, hlv, ⟨_, rfl, eAdd_ok hs hu hv⟩, hr⟩)
    · cases hst
  · split at hst
    · rename_i x y r hg
      cases hst
      obtain ⟨u, v, r, rfl, hu, hv, hr⟩ := eTwo_ok hg hsk
      exact lv_isub hx hb (hd (by simp [eLen])) (K _ List.mem_cons_self _ _ _ _ _ _ _ ⟨hK, hP, hD, hS, hpre, hh, hl, hlv, ⟨_, rfl, eSub_ok hs hu hv⟩, hr⟩)
    · cases hst
  · split at hst
    · rename_i x y r hg
      cases hst
      obtain ⟨u, v, r, rfl, hu, hv, hr⟩ := eTwo_ok hg hsk
      exact lv_imul hx hb (hd (by simp [eLen])) (K _ List.mem_cons_self _ _ _ _ _ _ _ ⟨hK, hP, hD, hS, hpre, hh, hl, hlv, ⟨_, rfl, eBin_ok (f := fun u v => u * v) h0 hu hv (eTop_ok h0 _)⟩, hr⟩)
    · cases hst
  · split at hst
    · rename_i x y r hg
      cases hst
      obtain ⟨u, v, r, rfl, hu, hv, hr⟩ := eTwo_ok hg hsk
      exact lv_iand hx hb (hd (by simp [eLen])) (K _ List.mem_cons_self _ _ _ _ _ _ _ ⟨hK, hP, hD, hS, hpre, hh, hl, hlv, ⟨_, rfl, eBin_ok (f := fun u v => u &&& v) h0 hu hv (eTop_ok h0 _)⟩, hr⟩)
    · cases hst
  · split at hst
    · rename_i x y r hg
      cases hst
      obtain ⟨u, v, r, rfl, hu, hv, hr⟩ := eTwo_ok hg hsk
      exact lv_ior hx hb (hd (by simp [eLen])) (K _ List.mem_cons_self _ _ _ _ _ _ _ ⟨hK, hP, hD, hS, hpre, hh, hl, hlv, ⟨_, rfl, eBin_ok (f := fun u v => u ||| v) h0 hu hv (eTop_ok h0 _)⟩, hr⟩)
    · cases hst
  · split at hst
    · rename_i x y r hg
      cases hst
      obtain ⟨u, v, r, rfl, hu, hv, hr⟩ := eTwo_ok hg hsk
      exact lv_ixor hx hb (hd (by simp [eLen])) (K _ List.mem_cons_self _ _ _ _ _ _ _ ⟨hK, hP, hD, hS, hpre, hh, hl, hlv, ⟨_, rfl, eBin_ok (f := fun u v => u ^^^ v) h0 hu hv (eTop_ok h0 _)⟩, hr⟩)
    · cases hst
  · split at hst
    · rename_i x y r hg
      cases hst
      obtain ⟨u, v, r, rfl, hu, hv, hr⟩ := eTwo_ok hg hsk
      exact lv_ishl hx hb (hd (by simp [eLen])) (K _ List.mem_cons_self _ _ _ _ _ _ _ ⟨hK, hP, hD, hS, hpre, hh, hl, hlv, ⟨_, rfl, eBin_ok (f := fun u v => u <<< (v &&& 31)) h0 hu hv (eTop_ok h0 _)⟩, hr⟩)
    · cases hst
  · split at hst
    · rename_i x y r hg
      cases hst
      obtain ⟨u, v, r, rfl, hu, hv, hr⟩ := eTwo_ok hg hsk
      exact lv_ishr hx hb (hd (by simp [eLen])) (K _ List.mem_cons_self _ _ _ _ _ _ _ ⟨hK, hP, hD, hS, hpre, hh, hl, hlv, ⟨_, rfl, eBin_ok (f := fun u v => u >>> (v &&& 31)) h0 hu hv (eTop_ok h0 _)⟩, hr⟩)
    · cases hst
  · split at hst
    · rename_i x y r hg
      cases hst
      obtain ⟨u, v, r, rfl, hu, hv, hr⟩ := eTwo_ok hg hsk
      exact lv_iushr hx hb (hd (by simp [eLen])) rfl (K _ List.mem_cons_self _ _ _ _ _ _ _ ⟨hK, hP, hD, hS, hpre, hh, hl, hlv, ⟨_, rfl, eBin_ok (f := fun u v => (u.toUInt32 >>> (v.toUInt32 &&& Int32.toUInt32 31)).toInt32) h0 hu hv (eUsh_ok h0 hv)⟩, hr⟩)
    · cases hst
  · split at hst
    · rename_i x y r hg
      obtain ⟨hn, hg2⟩ := eCond hst
      cases hg2
      obtain ⟨u, v, r, rfl, hu, hv, hr⟩ := eTwo_ok hg hsk
      have hz := eEq_ok hs hv (y := 0) (b := (0, 0, 0)) (eIn_mk (by rw [h0]; decide) (by rw [h0]; decide)) (eq_of_beq hn)
      have hz : ¬ v = 0 := by rw [hz]; decide
      exact lv_irem hx hb (hd (by simp [eLen])) hz (K _ List.mem_cons_self _ _ _ _ _ _ _ ⟨hK, hP, hD, hS, hpre, hh, hl, hlv, ⟨_, rfl, eBin_ok (f := fun u v => u - u / v * v) h0 hu hv (eRem_ok hs hu hv)⟩, hr⟩)
    · cases hst
  · split at hst
    · rename_i x y r hg
      obtain ⟨hn, hg2⟩ := eCond hst
      cases hg2
      obtain ⟨u, v, r, rfl, hu, hv, hr⟩ := eTwo_ok hg hsk
      have hz := eEq_ok hs hv (y := 0) (b := (0, 0, 0)) (eIn_mk (by rw [h0]; decide) (by rw [h0]; decide)) (eq_of_beq hn)
      have hz : ¬ v = 0 := by rw [hz]; decide
      exact lv_idiv hx hb (hd (by simp [eLen])) hz (K _ List.mem_cons_self _ _ _ _ _ _ _ ⟨hK, hP, hD, hS, hpre, hh, hl, hlv, ⟨_, rfl, eBin_ok (f := fun u v => u / v) h0 hu hv (eTop_ok h0 _)⟩, hr⟩)
    · cases hst
  · split at hst
    · cases hst
      obtain ⟨w, stk, rfl, ⟨x, rfl, hxq⟩, hsk1⟩ := eAll_cons hsk
      exact lv_i2b hx hb (hd (by simp [eLen])) rfl (K _ List.mem_cons_self _ _ _ _ _ _ _ ⟨hK, hP, hD, hS, hpre, hh, hl, hlv, ⟨_, rfl, eTop_ok h0 _⟩, hsk1⟩)
    · cases hst
  · split at hst
    · cases hst
      obtain ⟨w, stk, rfl, ⟨x, rfl, hxq⟩, hsk1⟩ := eAll_cons hsk
      exact lv_i2l hx hb (hd (by simp [eLen])) rfl (K _ List.mem_cons_self _ _ _ _ _ _ _ ⟨hK, hP, hD, hS, hpre, hh, hl, hlv, ⟨_, rfl, fun y hy => by
        rw [Option.map_eq_some_iff] at hy
        obtain ⟨x', hx', rfl⟩ := hy
        rw [eOne_ok h0 hxq hx']⟩, hsk1⟩)
    · cases hst
  · split at hst
    · cases hst
      obtain ⟨w, stk, rfl, ⟨x, rfl, -⟩, hsk1⟩ := eAll_cons hsk
      exact lv_l2i hx hb (hd (by simp [eLen])) rfl (K _ List.mem_cons_self _ _ _ _ _ _ _ ⟨hK, hP, hD, hS, hpre, hh, hl, hlv, ⟨_, rfl, eTop_ok h0 _⟩, hsk1⟩)
    · cases hst
  · split at hst
    · cases hst
      obtain ⟨w, stk, rfl, ⟨x, rfl, hxu⟩, hsk1⟩ := eAll_cons hsk
      obtain ⟨w, stk, rfl, ⟨y, rfl, hyu⟩, hsk2⟩ := eAll_cons hsk1
      exact lv_ladd hx hb (hd (by simp [eLen])) (K _ List.mem_cons_self _ _ _ _ _ _ _ ⟨hK, hP, hD, hS, hpre, hh, hl, hlv, ⟨_, rfl, eL2_ok hyu hxu⟩, hsk2⟩)
    · cases hst
  · split at hst
    · cases hst
      obtain ⟨w, stk, rfl, ⟨x, rfl, hxu⟩, hsk1⟩ := eAll_cons hsk
      obtain ⟨w, stk, rfl, ⟨y, rfl, hyu⟩, hsk2⟩ := eAll_cons hsk1
      exact lv_lmul hx hb (hd (by simp [eLen])) (K _ List.mem_cons_self _ _ _ _ _ _ _ ⟨hK, hP, hD, hS, hpre, hh, hl, hlv, ⟨_, rfl, eL2_ok hyu hxu⟩, hsk2⟩)
    · cases hst
  · split at hst
    · cases hst
      obtain ⟨w, stk, rfl, ⟨x, rfl, -⟩, hsk1⟩ := eAll_cons hsk
      obtain ⟨w, stk, rfl, ⟨y, rfl, -⟩, hsk2⟩ := eAll_cons hsk1
      exact W.lcmp hx hb (hd (by simp [eLen])) (K _ List.mem_cons_self _ _ _ _ _ _ _ ⟨hK, hP, hD, hS, hpre, hh, hl, hlv, ⟨_, rfl, eTop_ok h0 _⟩, hsk2⟩)
    · cases hst
  · split at hst
    · obtain ⟨hn, hg⟩ := eCond hst
      cases hg
      have hn := Nat.eq_of_beq_eq_true hn
      obtain ⟨w, stk, rfl, hw, hsk1⟩ := eAll_cons hsk
      exact lv_dup hx hb (hd (by simp [eLen])) (by rw [eOk_cat hw, hn]) (K _ List.mem_cons_self _ _ _ _ _ _ _ ⟨hK, hP, hD, hS, hpre, hh, hl, hlv, hw, hw, hsk1⟩)
    · cases hst
  · split at hst
    · obtain ⟨hn, hg⟩ := eCond hst
      cases hg
      rw [Bool.and_eq_true] at hn
      have hn1 := Nat.eq_of_beq_eq_true hn.1
      have hn2 := Nat.eq_of_beq_eq_true hn.2
      obtain ⟨w, stk, rfl, hw, hsk1⟩ := eAll_cons hsk
      obtain ⟨w2, stk, rfl, hw2, hsk2⟩ := eAll_cons hsk1
      exact lv_dup2_11 hx hb (hd (by simp [eLen])) (by rw [eOk_cat hw, hn1]) (by rw [eOk_cat hw2, hn2]) (K _ List.mem_cons_self _ _ _ _ _ _ _ ⟨hK, hP, hD, hS, hpre, hh, hl, hlv, hw, hw2, hw, hw2, hsk2⟩)
    · cases hst
  · split at hst
    · obtain ⟨hn, hg⟩ := eCond hst
      cases hg
      have hn := Nat.eq_of_beq_eq_true hn
      obtain ⟨w, stk, rfl, hw, hsk1⟩ := eAll_cons hsk
      exact lv_pop hx hb (hd (by simp [eLen])) (by rw [eOk_cat hw, hn]) (K _ List.mem_cons_self _ _ _ _ _ _ _ ⟨hK, hP, hD, hS, hpre, hh, hl, hlv, hsk1⟩)
    · cases hst
  · split at hst
    · split at hst
      · rename_i v hg
        cases hst
        obtain ⟨w, stk, rfl, ⟨x, hxa, rfl⟩, hsk1⟩ := eAll_cons hsk
        obtain ⟨q, vs, w, he, hv, hw⟩ := eFld_ok hg hh
        have e1 := eAd_at he hxa
        subst e1
        obtain ⟨C, T, N, hc, hbN, hlink⟩ := hlk
        exact va_get hx hb hts (hcl _ C T N hc).1 hown hK hP _ he hc _ hbN (hts _ hlink) (fun _ z => z) hv (hd (by simp [eLen])) (K _ List.mem_cons_self _ _ _ _ _ _ _ ⟨hK, hP, hD, hS, hpre, hh, hl, hlv, hw, hsk1⟩)
      · cases hst
    · cases hst
  · obtain ⟨C, T, N, hc, hbN, hlink, hfin, t0, t2, t5⟩ := hlk
    split at hst
    · obtain ⟨hn, hg⟩ := eCond hst
      clear hst
      split at hg
      · rename_i h2 hg2
        cases hg
        obtain ⟨w, stk, rfl, ⟨x, rfl, hxq⟩, hsk1⟩ := eAll_cons hsk
        obtain ⟨w, stk, rfl, ⟨y, hya, rfl⟩, hsk2⟩ := eAll_cons hsk1
        obtain ⟨q, vs, he, hbl, hh2⟩ := eSetF_ok (w := .int x) hg2 hh ⟨x, rfl, hxq⟩
        have e1 := eAd_at he hya
        subst e1
        have hk : ∃ ty, parseFieldDescriptor (T b).2.2.1 = some ty ∧ narrow ty (.int x) = .int x ∧ fits ty (.int x) = true := by
          rw [Bool.or_eq_true] at hn
          rcases hn with hn | hn
          · exact ⟨_, t0 (Nat.eq_of_beq_eq_true hn), rfl, rfl⟩
          · rw [Bool.and_eq_true] at hn
            refine ⟨_, t2 (Nat.eq_of_beq_eq_true hn.1), ?_⟩
            rcases e_bool h0 hxq hn.2 with rfl | rfl <;> exact ⟨by decide, by decide⟩
        obtain ⟨ty, k1, k2, k3⟩ := hk
        exact eStF hx hb hown hts hcl hin hK hP hD hS he hbl hc hbN hlink hfin k1 k2 k3 (hd (by simp [eLen])) (fun H1 locs1 hP hD hS => K _ List.mem_cons_self _ _ _ _ _ _ _ (eCn_set hK he hP hD hS hpre hh2 hl hlv hsk2))
      · cases hg
    · obtain ⟨hn, hg⟩ := eCond hst
      clear hst
      split at hg
      · rename_i h2 hg2
        cases hg
        obtain ⟨w, stk, rfl, ⟨x, hxa, rfl⟩, hsk1⟩ := eAll_cons hsk
        obtain ⟨w, stk, rfl, ⟨y, hya, rfl⟩, hsk2⟩ := eAll_cons hsk1
        obtain ⟨q, vs, he, hbl, hh2⟩ := eSetF_ok (w := .ref x) hg2 hh ⟨x, hxa, rfl⟩
        have e1 := eAd_at he hya
        subst e1
        obtain ⟨ty, k1, k2⟩ := t5 (Nat.eq_of_beq_eq_true hn)
        have k3 : narrow ty (.ref x) = .ref x ∧ fits ty (.ref x) = true := by rcases k2 with ⟨n, rfl⟩ | ⟨n, rfl⟩ <;> exact ⟨rfl, rfl⟩
        exact eStF hx hb hown hts hcl hin hK hP hD hS he hbl hc hbN hlink hfin k1 k3.1 k3.2 (hd (by simp [eLen])) (fun H1 locs1 hP hD hS => K _ List.mem_cons_self _ _ _ _ _ _ _ (eCn_set hK he hP hD hS hpre hh2 hl hlv hsk2))
      · cases hg
    · cases hst
  · split at hst
    · split at hst
      · rename_i v hg
        cases hst
        obtain ⟨w, stk, rfl, ⟨x, rfl, hxq⟩, hsk1⟩ := eAll_cons hsk
        obtain ⟨w, stk, rfl, ⟨y, hya, rfl⟩, hsk2⟩ := eAll_cons hsk1
        obtain ⟨q, cA, t0, n, f, he, ht, hxi, hv⟩ := eALd_ok hs (Or.inl rfl) hg hh hxq
        have e1 := eAd_at he hya
        subst e1
        exact va_iald hx hb hK hP _ t0 he ht hxi (hd (by simp [eLen])) (K _ List.mem_cons_self _ _ _ _ _ _ _ ⟨hK, hP, hD, hS, hpre, hh, hl, hlv, ⟨_, rfl, hv⟩, hsk2⟩)
      · cases hst
    · cases hst
  · split at hst
    · split at hst
      · rename_i v hg
        cases hst
        obtain ⟨w, stk, rfl, ⟨x, rfl, hxq⟩, hsk1⟩ := eAll_cons hsk
        obtain ⟨w, stk, rfl, ⟨y, hya, rfl⟩, hsk2⟩ := eAll_cons hsk1
        obtain ⟨q, cA, t0, n, f, he, ht, hxi, hv⟩ := eALd_ok hs (Or.inr (Or.inl rfl)) hg hh hxq
        have e1 := eAd_at he hya
        subst e1
        exact va_bald hx hb hK hP _ t0 he ht hxi (hd (by simp [eLen])) (K _ List.mem_cons_self _ _ _ _ _ _ _ ⟨hK, hP, hD, hS, hpre, hh, hl, hlv, ⟨_, rfl, hv⟩, hsk2⟩)
      · rename_i v hg0 hg
        cases hst
        obtain ⟨w, stk, rfl, ⟨x, rfl, hxq⟩, hsk1⟩ := eAll_cons hsk
        obtain ⟨w, stk, rfl, ⟨y, hya, rfl⟩, hsk2⟩ := eAll_cons hsk1
        obtain ⟨q, cA, t0, n, f, he, ht, hxi, hv⟩ := eALd_ok hs (Or.inr (Or.inr rfl)) hg hh hxq
        have e1 := eAd_at he hya
        subst e1
        exact va_zald hx hb hK hP _ t0 he ht hxi (hd (by simp [eLen])) (K _ List.mem_cons_self _ _ _ _ _ _ _ ⟨hK, hP, hD, hS, hpre, hh, hl, hlv, ⟨_, rfl, hv⟩, hsk2⟩)
      · cases hst
    · cases hst
  · split at hst
    · obtain ⟨hn, hg⟩ := eCond hst
      cases hg
      obtain ⟨w, stk, rfl, ⟨x, rfl, hxq⟩, hsk1⟩ := eAll_cons hsk
      obtain ⟨w, stk, rfl, ⟨y, hya, rfl⟩, hsk2⟩ := eAll_cons hsk1
      obtain ⟨q, cA, t0, n, f, he, ht, hxi⟩ := eLng_ok hs hn hh hxq
      have e1 := eAd_at he hya
      subst e1
      exact va_lald hx hb hK hP _ t0 he ht hxi (hd (by simp [eLen])) (K _ List.mem_cons_self _ _ _ _ _ _ _ ⟨hK, hP, hD, hS, hpre, hh, hl, hlv, ⟨_, rfl, fun y hy => by cases hy⟩, hsk2⟩)
    · cases hst
  · split at hst
    · split at hst
      · rename_i v hg
        cases hst
        obtain ⟨w, stk, rfl, ⟨x, rfl, hxq⟩, hsk1⟩ := eAll_cons hsk
        obtain ⟨w, stk, rfl, ⟨y, hya, rfl⟩, hsk2⟩ := eAll_cons hsk1
        obtain ⟨q, cA, t0, n, f, he, ht, hxi, hv⟩ := eRow_ok hs hg hh hxq
        have e1 := eAd_at he hya
        subst e1
        exact va_aldA hx hb hK hP _ t0 he ht hxi (hd (by simp [eLen])) (K _ List.mem_cons_self _ _ _ _ _ _ _ ⟨hK, hP, hD, hS, hpre, hh, hl, hlv, hv, hsk2⟩)
      · cases hst
    · cases hst
  · split at hst
    · split at hst
      · rename_i h2 hg
        cases hst
        obtain ⟨w, stk, rfl, ⟨z, rfl, hzq⟩, hsk1⟩ := eAll_cons hsk
        obtain ⟨w, stk, rfl, ⟨x, rfl, hxq⟩, hsk2⟩ := eAll_cons hsk1
        obtain ⟨w, stk, rfl, ⟨y, hya, rfl⟩, hsk3⟩ := eAll_cons hsk2
        obtain ⟨q, cA, t0, n, f, he, ht, hxi, hh2⟩ := eASt_ok hs (Or.inl rfl) hg hh hxq hzq
        have e1 := eAd_at he hya
        subst e1
        exact va_iast hx hb hK hP hD hS _ t0 he ht hxi (hd (by simp [eLen])) (fun H1 locs1 hP hD hS => K _ List.mem_cons_self _ _ _ _ _ _ _ (eCn_set hK he hP hD hS hpre hh2 hl hlv hsk3))
      · cases hst
    · cases hst
  · split at hst
    · rename_i v q k r
      cases hc : eBSt sr h k q with
      | true =>
        rw [hc] at hst
        cases hst
        obtain ⟨w, stk, rfl, ⟨z, rfl, hzq⟩, hsk1⟩ := eAll_cons hsk
        obtain ⟨w, stk, rfl, ⟨x, rfl, hxq⟩, hsk2⟩ := eAll_cons hsk1
        obtain ⟨w, stk, rfl, ⟨y, hya, rfl⟩, hsk3⟩ := eAll_cons hsk2
        obtain ⟨q, cA, t0, n, f, he, ht, hxi, hh2⟩ := eBSt_ok hs hc hh hxq z
        have e1 := eAd_at he hya
        subst e1
        exact va_bast hx hb hK hP hD hS _ t0 he ht hxi (hd (by simp [eLen])) (fun H1 locs1 hP hD hS => K _ List.mem_cons_self _ _ _ _ _ _ _ (eCn_set hK he hP hD hS hpre hh2 hl hlv hsk3))
      | false =>
        rw [hc] at hst
        obtain ⟨hn, hg⟩ := eCond (show cond _ _ none = some outs from hst)
        clear hst
        split at hg
        · rename_i h2 hg2
          cases hg
          obtain ⟨w, stk, rfl, ⟨z, rfl, hzq⟩, hsk1⟩ := eAll_cons hsk
          obtain ⟨w, stk, rfl, ⟨x, rfl, hxq⟩, hsk2⟩ := eAll_cons hsk1
          obtain ⟨w, stk, rfl, ⟨y, hya, rfl⟩, hsk3⟩ := eAll_cons hsk2
          have hzz : vp_nar .boolean z = z := by rcases e_bool h0 hzq hn with rfl | rfl <;> decide
          obtain ⟨q, cA, t0, n, f, he, ht, hxi, hh2⟩ := eASt_ok hs (Or.inr (Or.inr rfl)) hg2 hh hxq hzq
          have e1 := eAd_at he hya
          subst e1
          exact va_zast hx hb hK hP hD hS _ t0 he ht hxi (hd (by simp [eLen])) (fun H1 locs1 hP hD hS => K _ List.mem_cons_self _ _ _ _ _ _ _ (eCn_set hK he hP hD hS hpre (by rw [hzz]; exact hh2) hl hlv hsk3))
        · cases hg
    · cases hst
  · split at hst
    · split at hst
      · rename_i h2 hg
        cases hst
        obtain ⟨w, stk, rfl, ⟨z, rfl, hzy⟩, hsk1⟩ := eAll_cons hsk
        obtain ⟨w, stk, rfl, ⟨x, rfl, hxq⟩, hsk2⟩ := eAll_cons hsk1
        obtain ⟨w, stk, rfl, ⟨y, hya, rfl⟩, hsk3⟩ := eAll_cons hsk2
        obtain ⟨q, cA, t0, n, f, he, ht, hxi, hh2⟩ := eLSt_ok hs hg hh hxq hzy
        have e1 := eAd_at he hya
        subst e1
        exact va_last hx hb hK hP hD hS _ t0 he ht hxi (hd (by simp [eLen])) (fun H1 locs1 hP hD hS => K _ List.mem_cons_self _ _ _ _ _ _ _ (eCn_set hK he hP hD hS hpre hh2 hl hlv hsk3))
      · cases hst
    · cases hst
  · split at hst
    · split at hst
      · rename_i n9 c9 ho
        cases hst
        obtain ⟨w, stk, rfl, ⟨y, hya, rfl⟩, hsk1⟩ := eAll_cons hsk
        obtain ⟨⟨q, e9⟩, he, cA, t0, ht, hN, har⟩ := eAll_get hh ho
        have e1 := eAd_at he hya
        subst e1
        obtain ⟨z, hz1, hz2⟩ := eAr_len har
        have hz1 : e9 = .inl (cA, z) := hz1
        subst hz1
        exact va_alen hx hb hK hP _ t0 he ht (by rw [hz2]) (hd (by simp [eLen])) (K _ List.mem_cons_self _ _ _ _ _ _ _ ⟨hK, hP, hD, hS, hpre, hh, hl, hlv, ⟨_, rfl, ePt_ok h0 _⟩, hsk1⟩)
      · cases hst
    · cases hst
  · split at hst
    · split at hst
      · rename_i y hy
        obtain ⟨hn, hg⟩ := eCond hst
        clear hst
        split at hg
        · rename_i c9 hc9
          cases hg
          obtain ⟨w, stk, rfl, ⟨x, rfl, hxq⟩, hsk1⟩ := eAll_cons hsk
          have e1 := eOne_ok h0 hxq hy
          subst e1
          simp only [Bool.and_eq_true] at hn
          obtain ⟨⟨⟨n1, n2⟩, n3⟩, n4⟩ := hn
          have n1 := eLe_ok n1
          have n2 := Nat.le_of_ble_eq_true n2
          have n3 := Nat.le_of_ble_eq_true n3
          have n4 := Nat.le_of_ble_eq_true n4
          obtain ⟨a0, z1, z2, z3⟩ := eNew_ok hc9 n2
          exact va_newa hx hb (hts _ hlk.1) hlk.2 hK hP hD hS hA z1 (by rw [Int32.lt_iff_toInt_lt]; show ¬ x.toInt < 0; omega) rfl z2 (by rw [hRc]; exact n3) (by rw [hRs]; exact n4) (hd (by simp [eLen])) (fun q cA H1 hK2 hP hD hS => K _ List.mem_cons_self _ _ _ _ _ _ _ (eCn_app hK2 ⟨_, rfl⟩ hP hD hS hpre hh (z3 _ _ _ cA tys.length q h0 (by simp)) hl hlv hsk1))
        · cases hg
      · cases hst
    · cases hst
  · split at hst
    · rename_i fs hfs
      obtain ⟨hn, hg⟩ := eCond hst
      cases hg
      rw [Bool.and_eq_true] at hn
      have n1 := Nat.le_of_ble_eq_true hn.1
      have n2 := Nat.le_of_ble_eq_true hn.2
      obtain ⟨C, T, N, hc, w1, w2, w3⟩ := hlk
      obtain ⟨hin1, ty, hty, hnm, hdf⟩ := hcl _ C T N hc
      obtain ⟨hlen, vs, hvs, hdv⟩ := hdf fs hfs
      subst hlen
      exact va_new hx hb hts hin1 ty hty hown (hts _ w1) (hts _ w2) (hts _ w3) hK hP hD hS hA hc hdv (by rw [hRc]; exact n1) (by rw [hRs]; exact n2) (hd (by simp [eLen])) (fun q H1 hP hD hS => K _ List.mem_cons_self _ _ _ _ _ _ _ (eCn_app hK ⟨[], by simp⟩ hP hD hS hpre hh ⟨vs, rfl, hvs _ _ h0⟩ hl hlv hsk))
    · cases hst
  · cases hst
    exact lv_goto hx hb (hd (by simp [eLen])) hlk (K _ List.mem_cons_self _ _ _ _ _ _ _ ⟨hK, hP, hD, hS, hpre, hh, hl, hlv, hsk⟩)
  · rename_i kc off
    split at hst
    · obtain ⟨w, stk, rfl, ⟨x, rfl, hxq⟩, hsk1⟩ := eAll_cons hsk
      have hz : eIn σ (0, 0, 0) 0 := eIn_mk (by rw [h0]; decide) (by rw [h0]; decide)
      cases kc
      · exact lv_if_eq hx hb (hd (by simp [eLen])) hlk (fun hq => K _ (eBr_yes hs hxq hz hst hq) _ _ _ _ _ _ _ ⟨hK, hP, hD, hS, hpre, hh, hl, hlv, hsk1⟩) (fun hq => K _ (eBr_no hs hxq hz hst hq) _ _ _ _ _ _ _ ⟨hK, hP, hD, hS, hpre, hh, hl, hlv, hsk1⟩)
      · exact lv_if_ne hx hb (hd (by simp [eLen])) hlk (fun hq => K _ (eBr_yes hs hxq hz hst hq) _ _ _ _ _ _ _ ⟨hK, hP, hD, hS, hpre, hh, hl, hlv, hsk1⟩) (fun hq => K _ (eBr_no hs hxq hz hst (fun z => z hq)) _ _ _ _ _ _ _ ⟨hK, hP, hD, hS, hpre, hh, hl, hlv, hsk1⟩)
      · exact lv_if_lt hx hb (hd (by simp [eLen])) hlk (fun hq => K _ (eBr_yes hs hxq hz hst hq) _ _ _ _ _ _ _ ⟨hK, hP, hD, hS, hpre, hh, hl, hlv, hsk1⟩) (fun hq => K _ (eBr_no hs hxq hz hst hq) _ _ _ _ _ _ _ ⟨hK, hP, hD, hS, hpre, hh, hl, hlv, hsk1⟩)
      · exact lv_if_ge hx hb (hd (by simp [eLen])) hlk (fun hq => K _ (eBr_yes hs hxq hz hst hq) _ _ _ _ _ _ _ ⟨hK, hP, hD, hS, hpre, hh, hl, hlv, hsk1⟩) (fun hq => K _ (eBr_no hs hxq hz hst hq) _ _ _ _ _ _ _ ⟨hK, hP, hD, hS, hpre, hh, hl, hlv, hsk1⟩)
      · exact lv_if_gt hx hb (hd (by simp [eLen])) hlk (fun hq => K _ (eBr_yes hs hxq hz hst hq) _ _ _ _ _ _ _ ⟨hK, hP, hD, hS, hpre, hh, hl, hlv, hsk1⟩) (fun hq => K _ (eBr_no hs hxq hz hst hq) _ _ _ _ _ _ _ ⟨hK, hP, hD, hS, hpre, hh, hl, hlv, hsk1⟩)
      · exact lv_if_le hx hb (hd (by simp [eLen])) hlk (fun hq => K _ (eBr_yes hs hxq hz hst hq) _ _ _ _ _ _ _ ⟨hK, hP, hD, hS, hpre, hh, hl, hlv, hsk1⟩) (fun hq => K _ (eBr_no hs hxq hz hst hq) _ _ _ _ _ _ _ ⟨hK, hP, hD, hS, hpre, hh, hl, hlv, hsk1⟩)
    · cases hst
  · rename_i kc off
    split at hst
    · rename_i x y r hg
      obtain ⟨u, v, r, rfl, hu, hv, hr⟩ := eTwo_ok hg hsk
      cases kc
      · exact lv_icmp_eq hx hb (hd (by simp [eLen])) hlk (fun hq => K _ (eBr_yes hs hu hv hst hq) _ _ _ _ _ _ _ ⟨hK, hP, hD, hS, hpre, hh, hl, hlv, hr⟩) (fun hq => K _ (eBr_no hs hu hv hst hq) _ _ _ _ _ _ _ ⟨hK, hP, hD, hS, hpre, hh, hl, hlv, hr⟩)
      · exact lv_icmp_ne hx hb (hd (by simp [eLen])) hlk (fun hq => K _ (eBr_yes hs hu hv hst hq) _ _ _ _ _ _ _ ⟨hK, hP, hD, hS, hpre, hh, hl, hlv, hr⟩) (fun hq => K _ (eBr_no hs hu hv hst (fun z => z hq)) _ _ _ _ _ _ _ ⟨hK, hP, hD, hS, hpre, hh, hl, hlv, hr⟩)
      · exact lv_icmp_lt hx hb (hd (by simp [eLen])) hlk (fun hq => K _ (eBr_yes hs hu hv hst hq) _ _ _ _ _ _ _ ⟨hK, hP, hD, hS, hpre, hh, hl, hlv, hr⟩) (fun hq => K _ (eBr_no hs hu hv hst hq) _ _ _ _ _ _ _ ⟨hK, hP, hD, hS, hpre, hh, hl, hlv, hr⟩)
      · exact lv_icmp_ge hx hb (hd (by simp [eLen])) hlk (fun hq => K _ (eBr_yes hs hu hv hst hq) _ _ _ _ _ _ _ ⟨hK, hP, hD, hS, hpre, hh, hl, hlv, hr⟩) (fun hq => K _ (eBr_no hs hu hv hst hq) _ _ _ _ _ _ _ ⟨hK, hP, hD, hS, hpre, hh, hl, hlv, hr⟩)
      · exact lv_icmp_gt hx hb (hd (by simp [eLen])) hlk (fun hq => K _ (eBr_yes hs hu hv hst hq) _ _ _ _ _ _ _ ⟨hK, hP, hD, hS, hpre, hh, hl, hlv, hr⟩) (fun hq => K _ (eBr_no hs hu hv hst hq) _ _ _ _ _ _ _ ⟨hK, hP, hD, hS, hpre, hh, hl, hlv, hr⟩)
      · exact lv_icmp_le hx hb (hd (by simp [eLen])) hlk (fun hq => K _ (eBr_yes hs hu hv hst hq) _ _ _ _ _ _ _ ⟨hK, hP, hD, hS, hpre, hh, hl, hlv, hr⟩) (fun hq => K _ (eBr_no hs hu hv hst hq) _ _ _ _ _ _ _ ⟨hK, hP, hD, hS, hpre, hh, hl, hlv, hr⟩)
    · cases hst
  · split at hst
    · cases hst
      obtain ⟨w, stk, rfl, ⟨y, hya, rfl⟩, hsk1⟩ := eAll_cons hsk
      exact lv_ifnull hx hb (hd (by simp [eLen])) (K _ List.mem_cons_self _ _ _ _ _ _ _ ⟨hK, hP, hD, hS, hpre, hh, hl, hlv, hsk1⟩)
    · cases hst
      obtain ⟨w, stk, rfl, hw, hsk1⟩ := eAll_cons hsk
      have hw : w = .null := hw
      subst hw
      exact lv_ifnullN hx hb (hd (by simp [eLen])) hlk (K _ List.mem_cons_self _ _ _ _ _ _ _ ⟨hK, hP, hD, hS, hpre, hh, hl, hlv, hsk1⟩)
    · cases hst
  · split at hst
    · cases hst
      obtain ⟨w, stk, rfl, ⟨y, hya, rfl⟩, hsk1⟩ := eAll_cons hsk
      exact lv_ifnonnull hx hb (hd (by simp [eLen])) hlk (K _ List.mem_cons_self _ _ _ _ _ _ _ ⟨hK, hP, hD, hS, hpre, hh, hl, hlv, hsk1⟩)
    · cases hst
      obtain ⟨w, stk, rfl, hw, hsk1⟩ := eAll_cons hsk
      have hw : w = .null := hw
      subst hw
      exact lv_ifnonnullN hx hb (hd (by simp [eLen])) (K _ List.mem_cons_self _ _ _ _ _ _ _ ⟨hK, hP, hD, hS, hpre, hh, hl, hlv, hsk1⟩)
    · cases hst
  · rename_i dflt lo hi offs
    obtain ⟨len, hd0⟩ := hd0
    split at hst
    · rename_i q r
      obtain ⟨w, stk, rfl, ⟨x, rfl, hxq⟩, hsk1⟩ := eAll_cons hsk
      split at hst
      · rename_i y hy
        have e1 := eOne_ok h0 hxq hy
        subst e1
        cases hc : (eLe lo x.toInt && eLe x.toInt hi) with
        | true =>
          rw [hc] at hst
          rw [Bool.and_eq_true] at hc
          have c1 := eLe_ok hc.1
          have c2 := eLe_ok hc.2
          simp only [cond_true] at hst
          split at hst
          · rename_i off hoff
            obtain ⟨hn, hg⟩ := eCond hst
            cases hg
            have hn := eLe_ok hn
            exact lv_tableIn hx hb hd0 (by omega) (by omega) hoff (by omega) (K _ List.mem_cons_self _ _ _ _ _ _ _ ⟨hK, hP, hD, hS, hpre, hh, hl, hlv, hsk1⟩)
          · cases hst
        | false =>
          rw [hc] at hst
          obtain ⟨hn, hg⟩ := eCond (show cond _ _ none = some outs from hst)
          cases hg
          have hn := eLe_ok hn
          rw [Bool.and_eq_false_iff] at hc
          exact lv_tableOut hx hb hd0 (by rcases hc with z | z; exact Or.inl (eLe_no z); exact Or.inr (eLe_no z)) (by omega) (K _ List.mem_cons_self _ _ _ _ _ _ _ ⟨hK, hP, hD, hS, hpre, hh, hl, hlv, hsk1⟩)
      · obtain ⟨hn, hg⟩ := eCond hst
        cases hg
        rw [Bool.and_eq_true, Bool.or_eq_true] at hn
        have hr := eRg_ok hs hxq
        have hn2 := eLe_ok hn.2
        exact lv_tableOut hx hb hd0 (by rcases hn.1 with z | z; exact Or.inl (by have := eLe_ok z; omega); exact Or.inr (by have := eLe_ok z; omega)) (by omega) (K _ List.mem_cons_self _ _ _ _ _ _ _ ⟨hK, hP, hD, hS, hpre, hh, hl, hlv, hsk1⟩)
    · cases hst
  · cases hst
end ESO
end
section
/-! ===== BEGIN new T[n][m]: the outer array a place, the inner ones among the pooled ===== -/
/-- f, but v at every address of l -/
def vr_up {α : Type} (f : Nat → α) (l : List Nat) (v : α) : Nat → α := fun a => if a ∈ l then v else f a
theorem vr_up_in {α : Type} {f : Nat → α} {l : List Nat} {v : α} {a : Nat} (h : a ∈ l) : vr_up f l v a = v := if_pos h
theorem vr_up_ne {α : Type} {f : Nat → α} {l : List Nat} {v : α} {a : Nat} (h : a ∉ l) : vr_up f l v a = f a := if_neg h
theorem vr_rows {L l : List Nat} {f : Nat → va_E} {e : va_E} (h : ∀ a, a ∈ l → a ∉ L) : va_pl L f ++ l.map (fun a => (a, e)) = va_pl (L ++ l) (vr_up f l e) := by
  unfold va_pl
  rw [List.map_append]
  congr 1
  · apply List.map_congr_left
    intro a ha
    rw [vr_up_ne (fun q => h a q ha)]
  · apply List.map_congr_left
    intro a ha
    rw [vr_up_in ha]
theorem vr_lay {X rows : va_W} {x : Nat × va_E} {pl : va_W} {D : va_G} {cl : List vw_C} {H : Heap} (hP : va_P D cl (((X ++ pl) ++ [x]) ++ rows) H) : va_P D cl ((X ++ [x]) ++ (pl ++ rows)) H := by
  rw [List.append_assoc (X ++ pl)] at hP
  have h := va_P.swap hP
  rw [← List.append_assoc X] at h
  have h2 := va_P.swap h
  rw [List.append_assoc (X ++ [x])] at h2
  exact h2
theorem vr_layD {X rows : va_W} {x : Nat × va_E} {pl : va_W} {A : Nat → Prop} (hD : va_D A (((X ++ pl) ++ [x]) ++ rows)) : va_D A ((X ++ [x]) ++ (pl ++ rows)) := by
  rw [List.append_assoc (X ++ pl)] at hD
  have h := va_D.swap hD
  rw [← List.append_assoc X] at h
  have h2 := va_D.swap h
  rw [List.append_assoc (X ++ [x])] at h2
  exact h2
theorem vr_outer (c : ClassId) (N h0 : Nat) : ∀ i : Nat, Jvm.Free.Multi.outerC c N h0 i = arrV c N (fun j => va_rf (if j < i then some (h0 + 1 + j) else none))
  | 0 => by
    show ({ cls := c, slots := Array.replicate N .null, vm := .none } : Cell) = _
    rw [arrV_new]
    refine congrArg (arrV c N) (funext fun j => ?_)
    simp [va_rf]
  | i + 1 => by
    show (Jvm.Free.Multi.outerC c N h0 i).setSlot i (.ref (h0 + 1 + i)) = _
    rw [vr_outer c N h0 i, arrV_store]
    refine congrArg (arrV c N) (funext fun j => ?_)
    by_cases e : j = i
    · subst e
      simp [updV, va_rf]
    · by_cases h : j < i
      · simp [updV, e, h, Nat.lt_succ_of_lt h]
      · simp [updV, e, h, show ¬ j < i + 1 by omega]
section VGM
variable {p : Program} {l : Launch} {e : Env} {R : Room} {s : State} {m : MethodId} {args : Array Value} {below : List Frame} {meth : Method} {c : Code} {H : Heap} {locs : List Loc} {cells slots : Nat} {Q : State → Prop}
variable {cc : ByteArray} {pc : Nat} {ls : Array Slot} {rest : List Value} {D : va_G} {cl : List vw_C} {A : Nat → Prop} {a : Nat} {tys : List (ClassId × FieldType)} {ws : va_W} {H0 : Heap}
theorem va_mna {X : va_W} {L : List Nat} {f : Nat → va_E} {cc : ByteArray} (hexec : p.tables.exec = Jvm.exec) (hb : c.code = cc) {own : String} {index : Nat} {ty : FieldType} {cy : ClassId} (hown : s.vm.findClass own = some m.cls) (hclink : (Cond.classLink own index ("[" ++ (FieldType.array ty).toString)).before args s = true) (hover : (Cond.arrayOver (.array ty)).before args s = true) (harr : (Cond.arrayClass ty).before args s = true) (hcy : s.vm.findClass (FieldType.array ty).toString = some cy)
    (hK : va_K D cl tys s) (hP : va_P D cl (X ++ va_pl L f) H) (hD : va_D A (X ++ va_pl L f)) (hS : va_S A H0 H locs) (hA : ∀ q, H0.size ≤ q → A q) {n k : Int32} {N' K' : Nat} {z : vp_A} (hn : ¬ n < 0) (hk : ¬ k < 0) (hN : n.toNatClampNeg = N') (hM : k.toNatClampNeg = K')
    (hb1 : N' * 4 ≤ 536870912) (hb2 : K' * componentBytes ty ≤ 536870912) (hb3 : K' ≤ 536870912) (hdf : fits ty (defaultValue ty) = true) (hdd : (defaultValue ty).isDefault = true) (hcells : cells + (1 + N') ≤ R.cells) (hslots : slots + (N' + N' * K') ≤ R.slots) (hz : ∀ c : ClassId, Jvm.Free.Multi.innerC c K' (defaultValue ty) = vp_cell c z) (hdg : decode cc pc = .ok (.multianewarray index 2, 4))
    (kk : ∀ (q : Nat) (r : Nat → Nat) (cA : ClassId) (H1 : Heap), (∀ i j : Nat, i < N' → j < N' → r i = r j → i = j) → (∀ i : Nat, i < N' → r i ∉ L) → va_K D cl (tys ++ [(cA, .array ty)]) s →
      va_P D cl ((X ++ [(q, .inl (cA, N', .inr (.inr (.inr (.inr (fun i => if i < N' then some (r i) else none))))))]) ++ va_pl (L ++ (List.range N').map r) (vr_up f ((List.range N').map r) (.inl (cy, z)))) H1 → va_D A ((X ++ [(q, .inl (cA, N', .inr (.inr (.inr (.inr (fun i => if i < N' then some (r i) else none))))))]) ++ va_pl (L ++ (List.range N').map r) (vr_up f ((List.range N').map r) (.inl (cy, z)))) → va_S A H0 H1 locs →
      W p l e R s m args below meth c H1 locs (cells + 1 + N') (slots + N' + N' * K') Q (F0 m (pc + 4) ls (.ref q :: rest))) : W p l e R s m args below meth c H locs cells slots Q (F0 m pc ls (.int k :: .int n :: rest)) := by
  subst hN
  subst hM
  intro T hT Xs
  obtain ⟨vm₁, cA, comp, -, fA, fC, hO, -, X', step⟩ := Xs.multianewarray2F hexec hown hclink hover harr (g := F0 m pc ls (.int k :: .int n :: rest)) rfl (by rw [hb]; exact hdg) rfl hn hk hb1 hb2 hb3 hdf hdd hcells hslots
  have ec : some cy = some comp := hcy.symm.trans fC
  cases ec
  generalize hF : Jvm.Free.Multi.fill (T.setVm vm₁) cA cy n.toNatClampNeg k.toNatClampNeg (defaultValue ty) n.toNatClampNeg = F at X' step
  have hTh : (T.setVm vm₁).heap = H := hT
  obtain ⟨f1, f2, -, -⟩ := Jvm.Free.Multi.fill_facts (T.setVm vm₁) cA cy n.toNatClampNeg k.toNatClampNeg (defaultValue ty) n.toNatClampNeg
  rw [hF, hTh] at f1 f2
  have hold : ∀ x : Nat, x < H.size → F.heap[x]? = H[x]? := fun x hx => by
    have := Jvm.Free.Multi.fill_old (T.setVm vm₁) cA cy n.toNatClampNeg k.toNatClampNeg (defaultValue ty) (a := x) (by rw [hTh]; exact hx) n.toNatClampNeg
    rw [hF, hTh] at this
    exact this
  have hrow : ∀ j : Nat, j < n.toNatClampNeg → F.heap[H.size + 1 + j]? = some (vp_cell cy z) := fun j hj => by
    have := Jvm.Free.Multi.fill_inner (T.setVm vm₁) cA cy n.toNatClampNeg k.toNatClampNeg (defaultValue ty) n.toNatClampNeg j hj
    rw [hF, hTh, hz] at this
    exact this
  have hout : Jvm.Free.Multi.outerC cA n.toNatClampNeg H.size n.toNatClampNeg = vp_cell cA (n.toNatClampNeg, .inr (.inr (.inr (.inr (fun i => if i < n.toNatClampNeg then some (H.size + 1 + i) else none))))) := by
    rw [vp_cell_q]
    exact vr_outer cA n.toNatClampNeg H.size n.toNatClampNeg
  rw [hout] at f2
  have hlt : ∀ a, a ∈ L → a < H.size := fun a ha => by
    obtain ⟨k9, hk9⟩ := va_pl_get (X := X) (f := f) ha
    exact (hP k9 _ hk9).lt
  have hnl : ∀ i : Nat, i < n.toNatClampNeg → H.size + 1 + i ∉ L := fun i _ h => by
    have := hlt _ h
    omega
  have hnm : ∀ a, a ∈ (List.range n.toNatClampNeg).map (fun i => H.size + 1 + i) → a ∉ L := fun a ha h => by
    obtain ⟨i, -, rfl⟩ := List.mem_map.mp ha
    have := hlt _ h
    omega
  have hP0 : va_P D cl (X ++ va_pl L f) F.heap := hP.kept (fun k9 x hx => hold x.1 ((hP k9 x hx).lt))
  have hP1 : va_P D cl ((X ++ va_pl L f) ++ [(H.size, .inl (cA, n.toNatClampNeg, .inr (.inr (.inr (.inr (fun i => if i < n.toNatClampNeg then some (H.size + 1 + i) else none))))))]) F.heap := hP0.app (fun k9 x hx => by
    have h0 : k9 < 1 := (List.getElem?_eq_some_iff.mp hx).1
    rw [show k9 = 0 by omega] at hx
    cases hx
    exact f2)
  have hP2 : va_P D cl (((X ++ va_pl L f) ++ [(H.size, .inl (cA, n.toNatClampNeg, .inr (.inr (.inr (.inr (fun i => if i < n.toNatClampNeg then some (H.size + 1 + i) else none))))))]) ++ ((List.range n.toNatClampNeg).map (fun i => H.size + 1 + i)).map (fun a => (a, .inl (cy, z)))) F.heap := hP1.app (fun k9 x hx => by
    obtain ⟨a, ha, rfl⟩ := List.mem_map.mp (List.mem_of_getElem? hx)
    obtain ⟨i, hi, rfl⟩ := List.mem_map.mp ha
    exact hrow i (List.mem_range.mp hi))
  have hD2 : va_D A (((X ++ va_pl L f) ++ [(H.size, .inl (cA, n.toNatClampNeg, .inr (.inr (.inr (.inr (fun i => if i < n.toNatClampNeg then some (H.size + 1 + i) else none))))))]) ++ ((List.range n.toNatClampNeg).map (fun i => H.size + 1 + i)).map (fun a => (a, .inl (cy, z)))) := by
    have hD1 := hD.push (e := .inl (cA, n.toNatClampNeg, .inr (.inr (.inr (.inr (fun i => if i < n.toNatClampNeg then some (H.size + 1 + i) else none)))))) hP rfl (hA _ hS.1)
    generalize hW1 : (X ++ va_pl L f) ++ [(H.size, .inl (cA, n.toNatClampNeg, .inr (.inr (.inr (.inr (fun i => if i < n.toNatClampNeg then some (H.size + 1 + i) else none))))))] = W1 at hD1 hP1 ⊢
    have hle : ∀ (k9 : Nat) (x : Nat × va_E), W1[k9]? = some x → x.1 ≤ H.size := fun k9 x hx => by
      rw [← hW1] at hx
      by_cases hl : k9 < (X ++ va_pl L f).length
      · rw [List.getElem?_append_left hl] at hx
        exact Nat.le_of_lt ((hP k9 x hx).lt)
      · rw [List.getElem?_append_right (by omega)] at hx
        have h0 : k9 - (X ++ va_pl L f).length < 1 := (List.getElem?_eq_some_iff.mp hx).1
        rw [show k9 - (X ++ va_pl L f).length = 0 by omega] at hx
        cases hx
        exact Nat.le_refl _
    have hr : ∀ (k9 : Nat) (x : Nat × va_E), (((List.range n.toNatClampNeg).map (fun i => H.size + 1 + i)).map (fun a => ((a, .inl (cy, z)) : Nat × va_E)))[k9]? = some x → x.1 = H.size + 1 + k9 := fun k9 x hx => by
      rw [List.getElem?_map, List.getElem?_map] at hx
      by_cases h9 : k9 < n.toNatClampNeg
      · rw [List.getElem?_range h9] at hx
        cases hx
        rfl
      · have hn0 : (List.range n.toNatClampNeg)[k9]? = none := List.getElem?_eq_none (by rw [List.length_range]; omega)
        rw [hn0] at hx
        cases hx
    refine ⟨fun i j x y hi hj hxy => ?_, fun k9 x hx => ?_⟩
    · by_cases h1 : i < W1.length <;> by_cases h2 : j < W1.length
      · rw [List.getElem?_append_left h1] at hi
        rw [List.getElem?_append_left h2] at hj
        exact hD1.1 i j x y hi hj hxy
      · rw [List.getElem?_append_left h1] at hi
        rw [List.getElem?_append_right (by omega)] at hj
        have := hle _ _ hi
        have := hr _ _ hj
        omega
      · rw [List.getElem?_append_right (by omega)] at hi
        rw [List.getElem?_append_left h2] at hj
        have := hle _ _ hj
        have := hr _ _ hi
        omega
      · rw [List.getElem?_append_right (by omega)] at hi hj
        have := hr _ _ hi
        have := hr _ _ hj
        omega
    · by_cases h1 : k9 < W1.length
      · rw [List.getElem?_append_left h1] at hx
        exact hD1.2 k9 x hx
      · rw [List.getElem?_append_right (by omega)] at hx
        have := hr _ _ hx
        exact hA _ (by have := hS.1; omega)
  have hAr : ArrOfT s cA (.array ty) := fun N9 z9 => by
    obtain ⟨-, k9, hk9, cm9, hkk9⟩ := (hO 0 0 0).1
    exact ⟨(fun q hq => by cases hq), k9, hk9, cm9, hkk9⟩
  have hK2 : va_K D cl (tys ++ [(cA, .array ty)]) s := ⟨hK.1, fun k9 x hx => by
    by_cases hl : k9 < tys.length
    · rw [List.getElem?_append_left hl] at hx
      exact hK.2 k9 x hx
    · rw [List.getElem?_append_right (by omega)] at hx
      have h0 : k9 - tys.length < 1 := (List.getElem?_eq_some_iff.mp hx).1
      rw [show k9 - tys.length = 0 by omega] at hx
      cases hx
      exact ⟨hAr, fA⟩⟩
  obtain ⟨t, a1, b1⟩ := kk H.size (fun i => H.size + 1 + i) cA F.heap (fun i j _ _ h => by have h9 : H.size + 1 + i = H.size + 1 + j := h; omega) hnl hK2 (by rw [← vr_rows hnm]; exact vr_lay hP2) (by rw [← vr_rows hnm]; exact vr_layD hD2) ⟨by rw [f1]; have := hS.1; omega, fun x h1 h2 => (hold x (Nat.lt_of_lt_of_le h1 hS.1)).trans (hS.2.1 x h1 h2), hS.2.2⟩ F rfl X'
  refine ⟨t, step t ?_, b1⟩
  have e : T.heap.size = H.size := by rw [hT]
  rw [e]
  exact a1
end VGM
/-! ===== END ===== -/
end
section
/-! THE ENGINE, 6: Object's start, Math.min and max, arraycopy; rows of rows. -/
theorem eMin_or (a b : Int) : eMin a b = a ∨ eMin a b = b := by
  unfold eMin
  cases eLe a b with
  | true => exact Or.inl rfl
  | false => exact Or.inr rfl
theorem eMax_or (a b : Int) : eMax a b = a ∨ eMax a b = b := by
  unfold eMax
  cases eLe a b with
  | true => exact Or.inr rfl
  | false => exact Or.inl rfl
theorem eMn_ok {sr : List (Int × Int)} {σ : Nat → Int} (hs : eSg sr σ) {a b : eI} {x y : Int32} (ha : eIn σ a x) (hb : eIn σ b y) : eIn σ (eMn sr a b) (if y < x then y else x) := by
  have ra := eRg_ok hs ha
  have rb := eRg_ok hs hb
  have h0 := hs.1
  have m1 := eMin_ok (eRg sr a).1 (eRg sr b).1
  have m2 := eMin_or (eRg sr a).2 (eRg sr b).2
  by_cases hc : y < x
  · have hq := Int32.lt_iff_toInt_lt.mp hc
    rw [if_pos hc]
    exact eIn_mk (by rw [h0]; omega) (by rw [h0]; omega)
  · have hq : ¬ y.toInt < x.toInt := fun q => hc (Int32.lt_iff_toInt_lt.mpr q)
    rw [if_neg hc]
    exact eIn_mk (by rw [h0]; omega) (by rw [h0]; omega)
theorem eMx_ok {sr : List (Int × Int)} {σ : Nat → Int} (hs : eSg sr σ) {a b : eI} {x y : Int32} (ha : eIn σ a x) (hb : eIn σ b y) : eIn σ (eMx sr a b) (if x < y then y else x) := by
  have ra := eRg_ok hs ha
  have rb := eRg_ok hs hb
  have h0 := hs.1
  have m1 := eMax_or (eRg sr a).1 (eRg sr b).1
  have m2 := eMax_ok (eRg sr a).2 (eRg sr b).2
  by_cases hc : x < y
  · have hq := Int32.lt_iff_toInt_lt.mp hc
    rw [if_pos hc]
    exact eIn_mk (by rw [h0]; omega) (by rw [h0]; omega)
  · have hq : ¬ x.toInt < y.toInt := fun q => hc (Int32.lt_iff_toInt_lt.mpr q)
    rw [if_neg hc]
    exact eIn_mk (by rw [h0]; omega) (by rw [h0]; omega)
theorem eCats_ok {ad : List Nat} {σ : Nat → Int} : ∀ {r : List eV} {rest : List Value}, eAll (eOk ad σ) r rest → (rest.map fun v => v.category).sum = eCats r
  | [], _, h => by rw [eAll_nil h]; rfl
  | v :: r, rest, h => by
    obtain ⟨w, rs, rfl, h1, h2⟩ := eAll_cons h
    simp only [List.map_cons, List.sum_cons, eCats]
    rw [eOk_cat h1, eCats_ok h2]
theorem eJoin_ok {sr : List (Int × Int)} {σ : Nat → Int} (hs : eSg sr σ) {ad : List Nat} : ∀ {es : List eV} {q q' : Int × Int}, eJoin sr es q = some q' → q'.1 ≤ q.1 ∧ q.2 ≤ q'.2 ∧ ∀ (j : Nat) (v : eV) (x : Int32), es[j]? = some v → eOk ad σ v (.int x) → q'.1 ≤ x.toInt ∧ x.toInt ≤ q'.2
  | [], q, q', h => by
    cases h
    exact ⟨Int.le_refl _, Int.le_refl _, fun j v x hj => by simp at hj⟩
  | .inl v :: es, q, q', h => by
    obtain ⟨h1, h2, h3⟩ := eJoin_ok hs (ad := ad) (es := es) h
    have m1 := eMin_ok q.1 (eRg sr v).1
    have m2 := eMax_ok q.2 (eRg sr v).2
    have h1 : q'.1 ≤ eMin q.1 (eRg sr v).1 := h1
    have h2 : eMax q.2 (eRg sr v).2 ≤ q'.2 := h2
    refine ⟨by omega, by omega, fun j v' x hj hx => ?_⟩
    cases j with
    | zero =>
      simp at hj
      subst hj
      obtain ⟨z, hz, hq⟩ := hx
      cases hz
      have := eRg_ok hs hq
      exact ⟨by omega, by omega⟩
    | succ j => exact h3 j v' x (by simpa using hj) hx
  | .inr _ :: _, q, q', h => by cases h
theorem eCpL {α : Type} {e0 e1 : List α} {sp dp n n0 n1 : Nat} (l0 : n0 ≤ e0.length) (l1 : n1 ≤ e1.length) (h0 : sp + n ≤ n0) (h1 : dp + n ≤ n1) (j : Nat) : (e1.take dp ++ ((e0.drop sp).take n ++ e1.drop (dp + n)))[j]? = if dp ≤ j ∧ j < dp + n then e0[sp + (j - dp)]? else e1[j]? := by
  have t1 : (e1.take dp).length = dp := by rw [List.length_take]; omega
  have t2 : ((e0.drop sp).take n).length = n := by rw [List.length_take, List.length_drop]; omega
  by_cases c1 : j < dp
  · rw [if_neg (by omega), List.getElem?_append_left (by omega), List.getElem?_take_of_lt c1]
  · rw [List.getElem?_append_right (by omega), t1]
    by_cases c2 : j < dp + n
    · rw [if_pos ⟨by omega, c2⟩, List.getElem?_append_left (by omega), List.getElem?_take_of_lt (by omega), List.getElem?_drop]
    · rw [if_neg (by omega), List.getElem?_append_right (by omega), t2, List.getElem?_drop]
      congr 1
      omega
section EBL
variable {ad : List Nat} {σ : Nat → Int} {tys : List (ClassId × FieldType)} {h h' : eH} {ws : va_W} {sr : List (Int × Int)}
theorem eCt_len {n : Nat} {f : Nat → Int32} {es : List eV} (h : eCt ad σ n f (.inl es)) : n ≤ es.length := by
  cases n with
  | zero => exact Nat.zero_le _
  | succ n =>
    obtain ⟨v, h1, -⟩ := h n (Nat.lt_succ_self n)
    exact (List.getElem?_eq_some_iff.mp h1).1
theorem eCopy_ok (hs : eSg sr σ) {k0 sp k1 dp n : Nat} (hf : eCopy sr h k0 sp k1 dp n = some h') (hh : eAll (eCk ad σ tys) h ws) : ∃ (a0 a1 : Nat) (c0 c1 : ClassId) (t0 t1 n0 n1 : Nat) (f g : Nat → Int32), ws[k0]? = some (a0, .inl (c0, n0, .inl f)) ∧ ws[k1]? = some (a1, .inl (c1, n1, .inl g)) ∧ tys[t0]? = some (c0, .int) ∧ tys[t1]? = some (c1, .int) ∧ sp + n ≤ n0 ∧ dp + n ≤ n1 ∧ eAll (eCk ad σ tys) h' (ws.set k1 (a1, .inl (c1, n1, .inl (va_cpy f g sp dp n)))) := by
  unfold eCopy at hf
  split at hf
  · rename_i t0 n0 c0 t1 n1 c1 ho0 ho1
    obtain ⟨hc, hg⟩ := eCond hf
    clear hf
    simp only [Bool.and_eq_true] at hc
    obtain ⟨⟨⟨⟨hc1, hc2⟩, hc3⟩, hc4⟩, hc5⟩ := hc
    have e0 := Nat.eq_of_beq_eq_true hc1
    have e1 := Nat.eq_of_beq_eq_true hc2
    have b4 := Nat.le_of_ble_eq_true hc4
    have b5 := Nat.le_of_ble_eq_true hc5
    subst e0
    subst e1
    obtain ⟨⟨a0, x0⟩, h1, cA0, s0, ht0, hN0, hr0⟩ := eAll_get hh ho0
    obtain ⟨⟨a1, x1⟩, h2, cA1, s1, ht1, hN1, hr1⟩ := eAll_get hh ho1
    obtain ⟨f, z0, hf0⟩ := eAr_int (Or.inl rfl) hr0
    obtain ⟨g, z1, hg1⟩ := eAr_int (Or.inl rfl) hr1
    have z0 : x0 = .inl (cA0, n0, .inl f) := z0
    have z1 : x1 = .inl (cA1, n1, .inl g) := z1
    subst z0
    subst z1
    refine ⟨a0, a1, cA0, cA1, s0, s1, n0, n1, f, g, h1, h2, ht0, ht1, b4, b5, ?_⟩
    have fin : ∀ c', eCt ad σ n1 (va_cpy f g sp dp n) c' → eAll (eCk ad σ tys) (h.set k1 (.inr (0, n1, c'))) (ws.set k1 (a1, .inl (cA1, n1, .inl (va_cpy f g sp dp n)))) := fun c' hc' => eAll_set hh k1 ⟨cA1, s1, ht1, hN1, eInt_ar (Or.inl rfl) hc'⟩
    split at hg
    · rename_i es0 es1
      cases hg
      refine fin _ (fun j hj => ?_)
      have l0 := eCt_len hf0
      have l1 := eCt_len hg1
      have e := eCpL (e0 := es0) (e1 := es1) l0 l1 b4 b5 j
      by_cases hq : dp ≤ j ∧ j < dp + n
      · obtain ⟨v, g1, g2⟩ := hf0 (sp + (j - dp)) (show sp + (j - dp) < n0 by omega)
        refine ⟨v, by rw [e, if_pos hq]; exact g1, ?_⟩
        rw [show va_cpy f g sp dp n j = f (sp + (j - dp)) from if_pos hq]
        exact g2
      · obtain ⟨v, g1, g2⟩ := hg1 j hj
        refine ⟨v, by rw [e, if_neg hq]; exact g1, ?_⟩
        rw [show va_cpy f g sp dp n j = g j from if_neg hq]
        exact g2
    · rename_i es0 q1
      split at hg
      · rename_i q' hq'
        cases hg
        obtain ⟨j1, j2, j3⟩ := eJoin_ok hs (ad := ad) hq'
        refine fin _ (fun j hj => ?_)
        by_cases hq : dp ≤ j ∧ j < dp + n
        · obtain ⟨v, g1, g2⟩ := hf0 (sp + (j - dp)) (show sp + (j - dp) < n0 by omega)
          rw [show va_cpy f g sp dp n j = f (sp + (j - dp)) from if_pos hq]
          exact j3 _ _ _ g1 g2
        · have := hg1 j hj
          rw [show va_cpy f g sp dp n j = g j from if_neg hq]
          exact ⟨by omega, by omega⟩
      · cases hg
    · rename_i q0 q1
      cases hg
      have m1 := eMin_ok q0.1 q1.1
      have m2 := eMax_ok q0.2 q1.2
      refine fin _ (fun j hj => ?_)
      show eMin q0.1 q1.1 ≤ _ ∧ _ ≤ eMax q0.2 q1.2
      by_cases hq : dp ≤ j ∧ j < dp + n
      · have := hf0 (sp + (j - dp)) (show sp + (j - dp) < n0 by omega)
        rw [show va_cpy f g sp dp n j = f (sp + (j - dp)) from if_pos hq]
        exact ⟨by omega, by omega⟩
      · have := hg1 j hj
        rw [show va_cpy f g sp dp n j = g j from if_neg hq]
        exact ⟨by omega, by omega⟩
    · cases hg
  · cases hf
end EBL
/-- what links a call that the machine has a row for -/
def eLb (Ts : List Cond) (own : String) (idx kd : Nat) : Prop := match kd with
  | 6 => Cond.methodLink own idx Lib.objectInit ∈ Ts ∧ Cond.instanceMethod Lib.objectInit ∈ Ts ∧ Cond.code Lib.objectInit ⟨#[0xb1]⟩ 1 none ∈ Ts
  | 7 => Cond.methodLink own idx Lib.Math.min.name ∈ Ts ∧ Cond.static Lib.Math.min.name ∈ Ts ∧ Cond.initialized "java/lang/Math" ∈ Ts ∧ Cond.code Lib.Math.min.name Lib.Math.min.code 2 (some .int) ∈ Ts
  | 8 => Cond.methodLink own idx Lib.Math.max.name ∈ Ts ∧ Cond.static Lib.Math.max.name ∈ Ts ∧ Cond.initialized "java/lang/Math" ∈ Ts ∧ Cond.code Lib.Math.max.name Lib.Math.max.code 2 (some .int) ∈ Ts
  | 9 => Cond.methodLink own idx arraycopyName ∈ Ts ∧ Cond.native arraycopyName ∈ Ts ∧ Cond.static arraycopyName ∈ Ts ∧ Cond.initialized "java/lang/System" ∈ Ts
  | _ => False
section EBO
variable {p : Program} {l0 : Launch} {e : Env} {R : Room} {s : State} {m : MethodId} {args : Array Value} {below : List Frame} {meth : Method} {c : Code} {Q : State → Prop}
variable {cc : ByteArray} {own : String} {Ts : List Cond} {cl : List vw_C} {sr : List (Int × Int)} {σ : Nat → Int} {D : va_G} {A : Nat → Prop} {H0 : Heap} {ad0 : List Nat} {nL : Nat}
theorem eBlt_ok (hx : p.tables.exec = Jvm.exec) (hb : c.code = cc) (hown : s.vm.findClass own = some m.cls) (hts : ∀ w ∈ Ts, w.before args s = true) (hml : c.maxLocals = nL) (hR1 : 1 ≤ R.frames) (hR2 : 128 ≤ R.locals) (hs : eSg sr σ)
    {idx kd pc cs sl : Nat} {l : eL} {st st' : List eV} {h h' : eH} (hcs : cs ≤ R.cells) (hsl : sl ≤ R.slots) (hd6 : kd = 6 → decode cc pc = .ok (.invokespecial idx, 3)) (hdS : kd ≠ 6 → decode cc pc = .ok (.invokestatic idx, 3)) (hlk : eLb Ts own idx kd)
    (hst : eBlt sr kd h st = some (st', h'))
    (K : ∀ (H : Heap) (locs : List Loc) (ws : va_W) (tys : List (ClassId × FieldType)) (ls : Array Slot) (lv : List (Nat × Value)) (stk : List Value), eCn D cl A H0 s σ nL ad0 (pc + 3, l, st', h', cs, sl) H locs ws tys ls lv stk → W p l0 e R s m args below meth c H locs cs sl Q (F0 m (pc + 3) ls stk)) :
    ∀ (H : Heap) (locs : List Loc) (ws : va_W) (tys : List (ClassId × FieldType)) (ls : Array Slot) (lv : List (Nat × Value)) (stk : List Value), eCn D cl A H0 s σ nL ad0 (pc, l, st, h, cs, sl) H locs ws tys ls lv stk → W p l0 e R s m args below meth c H locs cs sl Q (F0 m pc ls stk) := by
  intro H locs ws tys ls lv stk hc
  obtain ⟨hK, hP, hD, hS, hpre, hh, hl, hlv, hsk⟩ := hc
  have h0 := hs.1
  have hsz : ls.size = c.maxLocals := by rw [hml]; exact hl.1
  unfold eBlt at hst
  split at hst
  · split at hst
    · obtain ⟨hn, hg⟩ := eCond hst
      cases hg
      have hn := Nat.le_of_ble_eq_true hn
      obtain ⟨w, stk, rfl, ⟨x, hxa, rfl⟩, hsk1⟩ := eAll_cons hsk
      have hcat := eCats_ok hsk1
      exact W.objInit hx hb hown (hts _ hlk.1) (hts _ hlk.2.1) (hts _ hlk.2.2) rfl hsz rfl (hd6 rfl) hR1 (by rw [hcat]; show 2 * 0 + _ + 12 ≤ _; omega) (K _ _ _ _ _ _ _ ⟨hK, hP, hD, hS, hpre, hh, hl, hlv, hsk1⟩)
    · cases hst
  · split at hst
    · rename_i x y r hg
      obtain ⟨hn, hg2⟩ := eCond hst
      cases hg2
      have hn := Nat.le_of_ble_eq_true hn
      obtain ⟨u, v, r, rfl, hu, hv, hr⟩ := eTwo_ok hg hsk
      have hcat := eCats_ok hr
      exact va_mmin hx hb hsz.symm hown (hts _ hlk.1) (hts _ hlk.2.1) (hts _ hlk.2.2.1) (hts _ hlk.2.2.2) hR1 (by rw [hcat]; omega) hcs hsl (hdS (by decide)) (K _ _ _ _ _ _ _ ⟨hK, hP, hD, hS, hpre, hh, hl, hlv, ⟨_, rfl, eMn_ok hs hu hv⟩, hr⟩)
    · cases hst
  · split at hst
    · rename_i x y r hg
      obtain ⟨hn, hg2⟩ := eCond hst
      cases hg2
      have hn := Nat.le_of_ble_eq_true hn
      obtain ⟨u, v, r, rfl, hu, hv, hr⟩ := eTwo_ok hg hsk
      have hcat := eCats_ok hr
      exact va_mmax hx hb hsz.symm hown (hts _ hlk.1) (hts _ hlk.2.1) (hts _ hlk.2.2.1) (hts _ hlk.2.2.2) hR1 (by rw [hcat]; omega) hcs hsl (hdS (by decide)) (K _ _ _ _ _ _ _ ⟨hK, hP, hD, hS, hpre, hh, hl, hlv, ⟨_, rfl, eMx_ok hs hu hv⟩, hr⟩)
    · cases hst
  · split at hst
    · obtain ⟨hn, hg⟩ := eCond hst
      clear hst
      have hn := Nat.le_of_ble_eq_true hn
      split at hg
      · rename_i n dp sp hn1 hn2 hn3
        obtain ⟨hn4, hg2⟩ := eCond hg
        clear hg
        split at hg2
        · rename_i h2 hcp
          cases hg2
          simp only [Bool.and_eq_true] at hn4
          obtain ⟨⟨p1, p2⟩, p3⟩ := hn4
          have p1 := eLe_ok p1
          have p2 := eLe_ok p2
          have p3 := eLe_ok p3
          obtain ⟨w, stk, rfl, ⟨x1, rfl, hx1⟩, hsk1⟩ := eAll_cons hsk
          obtain ⟨w, stk, rfl, ⟨x2, rfl, hx2⟩, hsk2⟩ := eAll_cons hsk1
          obtain ⟨w, stk, rfl, ⟨y1, hy1, rfl⟩, hsk3⟩ := eAll_cons hsk2
          obtain ⟨w, stk, rfl, ⟨x3, rfl, hx3⟩, hsk4⟩ := eAll_cons hsk3
          obtain ⟨w, stk, rfl, ⟨y2, hy2, rfl⟩, hsk5⟩ := eAll_cons hsk4
          have e1 := eOne_ok h0 hx1 hn1
          have e2 := eOne_ok h0 hx2 hn2
          have e3 := eOne_ok h0 hx3 hn3
          subst e1
          subst e2
          subst e3
          have hcat := eCats_ok hsk5
          obtain ⟨a0, a1, c0, c1, t0, t1, n0, n1, f, g, g1, g2, g3, g4, g5, g6, hh2⟩ := eCopy_ok hs hcp hh
          have e4 := eAd_at g2 hy1
          have e5 := eAd_at g1 hy2
          subst e4
          subst e5
          have neg : ∀ z : Int32, 0 ≤ z.toInt → ¬ z < 0 := fun z hz q => by have := Int32.lt_iff_toInt_lt.mp q; have e : (0 : Int32).toInt = 0 := rfl; omega
          exact va_copyi hx hb hsz.symm hown (hts _ hlk.1) (hts _ hlk.2.1) (hts _ hlk.2.2.1) (hts _ hlk.2.2.2) hK hP hD hS _ _ t0 t1 g1 g2 g3 g4 rfl (neg _ p3) (neg _ p2) (neg _ p1) g5 g6 (fun _ _ => rfl) hR1 (by rw [hcat]; show _ + (7 + 11) ≤ _; omega) (hdS (by decide)) (fun H1 locs1 hP hD hS => K _ _ _ _ _ _ _ (eCn_set hK g2 hP hD hS hpre hh2 hl hlv hsk5))
        · cases hg2
      · cases hg
    · cases hst
  · cases hst
end EBO
end
section
/-! THE ENGINE, 7: rows of rows. -/
section EMU
variable {p : Program} {l0 : Launch} {e : Env} {R : Room} {s : State} {m : MethodId} {args : Array Value} {below : List Frame} {meth : Method} {c : Code} {Q : State → Prop}
variable {cc : ByteArray} {own : String} {Ts : List Cond} {cl : List vw_C} {sr : List (Int × Int)} {σ : Nat → Int} {D : va_G} {A : Nat → Prop} {H0 : Heap} {ad0 : List Nat} {nL Rc Rs : Nat}
theorem eMul_ok (hx : p.tables.exec = Jvm.exec) (hb : c.code = cc) (hown : s.vm.findClass own = some m.cls) (hts : ∀ w ∈ Ts, w.before args s = true) (hov : (Cond.arrayOver (.array .int)).before args s = true) (hRc : R.cells = Rc) (hRs : R.slots = Rs) (hs : eSg sr σ) (hA : ∀ q, H0.size ≤ q → A q)
    {idx pc cs sl cs' sl' : Nat} {l : eL} {st st' : List eV} {h h' : eH} (hd : decode cc pc = .ok (.multianewarray idx 2, 4)) (hcl : Cond.classLink own idx ("[" ++ (FieldType.array .int).toString) ∈ Ts) (hac : Cond.arrayClass .int ∈ Ts)
    (hst : eMul Rc Rs st h cs sl = some (st', h', cs', sl'))
    (K : ∀ (H : Heap) (locs : List Loc) (ws : va_W) (tys : List (ClassId × FieldType)) (ls : Array Slot) (lv : List (Nat × Value)) (stk : List Value), eCn D cl A H0 s σ nL ad0 (pc + 4, l, st', h', cs', sl') H locs ws tys ls lv stk → W p l0 e R s m args below meth c H locs cs' sl' Q (F0 m (pc + 4) ls stk)) :
    ∀ (H : Heap) (locs : List Loc) (ws : va_W) (tys : List (ClassId × FieldType)) (ls : Array Slot) (lv : List (Nat × Value)) (stk : List Value), eCn D cl A H0 s σ nL ad0 (pc, l, st, h, cs, sl) H locs ws tys ls lv stk → W p l0 e R s m args below meth c H locs cs sl Q (F0 m pc ls stk) := by
  intro H locs ws tys ls lv stk hc
  obtain ⟨hK, hP, hD, hS, hpre, hh, hl, hlv, hsk⟩ := hc
  have h0 := hs.1
  unfold eMul at hst
  split at hst
  · split at hst
    · rename_i k n hk hn
      obtain ⟨hc, hg⟩ := eCond hst
      clear hst
      cases hg
      simp only [Bool.and_eq_true] at hc
      obtain ⟨⟨⟨⟨⟨n1, n2⟩, n3⟩, n4⟩, n5⟩, n6⟩ := hc
      have n1 := eLe_ok n1
      have n2 := eLe_ok n2
      have n3 := Nat.le_of_ble_eq_true n3
      have n4 := Nat.le_of_ble_eq_true n4
      have n5 := Nat.le_of_ble_eq_true n5
      have n6 := Nat.le_of_ble_eq_true n6
      obtain ⟨w, stk, rfl, ⟨x1, rfl, hx1⟩, hsk1⟩ := eAll_cons hsk
      obtain ⟨w, stk, rfl, ⟨x2, rfl, hx2⟩, hsk2⟩ := eAll_cons hsk1
      have e1 := eOne_ok h0 hx1 hk
      have e2 := eOne_ok h0 hx2 hn
      subst e1
      subst e2
      have neg : ∀ z : Int32, 0 ≤ z.toInt → ¬ z < 0 := fun z hz q => by have := Int32.lt_iff_toInt_lt.mp q; have e : (0 : Int32).toInt = 0 := rfl; omega
      have hacb := hts _ hac
      obtain ⟨cy, kc, comp, f1, f2, f3⟩ := Cond.arrayClass_spec hacb
      have hAi : ArrOfT s cy .int := fun N z => ⟨(fun q hq => by cases hq), kc, f2, comp, f3⟩
      generalize hN : x2.toNatClampNeg = N at *
      generalize hM : x1.toNatClampNeg = M at *
      have eN : ∀ X : va_W, X ++ va_pl [] (fun _ => (.inr (0, []) : va_E)) = X := fun X => by simp [va_pl]
      refine va_mna (X := ws) (L := []) (f := fun _ => .inr (0, [])) (ty := .int) (cy := cy) (N' := N) (K' := M) (z := (M, .inl (fun _ => 0))) hx hb hown (hts _ hcl) hov hacb f1 hK (by rw [eN]; exact hP) (by rw [eN]; exact hD) hS hA (neg _ n2) (neg _ n1) hN hM (by omega) (by show M * 4 ≤ _; omega) (by omega) rfl rfl (by rw [hRc]; exact n5) (by rw [hRs]; exact n6) (fun c => arrV_new c M (.int 0)) hd ?_
      intro q r cA H1 hinj hnL hK2 hP2 hD2 hS2
      have eW : (ws ++ [(q, (.inl (cA, N, .inr (.inr (.inr (.inr (fun i => if i < N then some (r i) else none))))) : va_E))]) ++ va_pl ([] ++ (List.range N).map r) (vr_up (fun _ => .inr (0, [])) ((List.range N).map r) (.inl (cy, M, .inl (fun _ => 0)))) = ws ++ ((q, .inl (cA, N, .inr (.inr (.inr (.inr (fun i => if i < N then some (r i) else none)))))) :: (List.range N).map (fun i => (r i, (.inl (cy, M, .inl (fun _ => (0 : Int32))) : va_E)))) := by
        rw [List.append_assoc]
        congr 1
        unfold va_pl
        rw [List.nil_append, List.map_map]
        show _ :: _ = _ :: _
        congr 1
        apply List.map_congr_left
        intro i hi
        show (r i, vr_up _ _ _ (r i)) = _
        rw [vr_up_in (List.mem_map.mpr ⟨i, hi, rfl⟩)]
      rw [eW] at hP2 hD2
      have hK3 : va_K D cl (tys ++ [(cA, .array .int), (cy, .int)]) s := by
        have := va_K.app hK2 (t2 := [(cy, .int)]) ⟨hK.1, fun k9 x9 hx9 => by
          have hz : k9 < 1 := (List.getElem?_eq_some_iff.mp hx9).1
          rw [show k9 = 0 by omega] at hx9
          cases hx9
          exact ⟨hAi, f1⟩⟩
        rw [List.append_assoc] at this
        exact this
      have hlen := eAll_len hh
      generalize hR : (q, (.inl (cA, N, .inr (.inr (.inr (.inr (fun i => if i < N then some (r i) else none))))) : va_E)) :: (List.range N).map (fun i => (r i, (.inl (cy, M, .inl (fun _ => (0 : Int32))) : va_E))) = RW at hP2 hD2
      have eA : ∃ t, (ws ++ RW).map Prod.fst = ws.map Prod.fst ++ t := ⟨RW.map Prod.fst, by rw [List.map_append]⟩
      have atR : ∀ j : Nat, j < N → ((ws ++ RW).map Prod.fst)[h.length + 1 + j]? = some (r j) := by
        intro j hj
        rw [List.getElem?_map, hlen, List.getElem?_append_right (by omega), ← hR, show ws.length + 1 + j - ws.length = j + 1 by omega, List.getElem?_cons_succ, List.getElem?_map, List.getElem?_range hj]
        rfl
      refine K _ _ (ws ++ RW) (tys ++ [(cA, .array .int), (cy, .int)]) _ _ _ ⟨hK3, hP2, hD2, hS2, ?_, eAll_app (eAll_mono (fun _ _ => eCk_ad eA ⟨_, rfl⟩) hh) ?_, hl, eAll_mono (fun _ _ z => ⟨z.1, eOk_ad eA z.2⟩) hlv, ⟨q, ?_, rfl⟩, eAll_mono (fun _ _ => eOk_ad eA) hsk2⟩
      · obtain ⟨t, ht⟩ := hpre
        exact ⟨t ++ RW.map Prod.fst, by rw [List.map_append, ht, List.append_assoc]⟩
      · unfold eGrid
        rw [← hR]
        refine ⟨⟨cA, tys.length, by simp [eTy], by show N < 2 ^ 31; omega, _, rfl, fun j hj => ?_⟩, ?_⟩
        · refine ⟨.inr (.inl (some (h.length + 1 + j))), ?_, ?_⟩
          · rw [List.getElem?_map, List.getElem?_range hj]
            rfl
          · show eOk _ σ _ (va_rf (if j < N then some (r j) else none))
            rw [if_pos hj]
            rw [← hR] at atR
            exact ⟨r j, atR j hj, rfl⟩
        · have gen : ∀ L : List Nat, eAll (eCk ((ws ++ ((q, (.inl (cA, N, .inr (.inr (.inr (.inr (fun i => if i < N then some (r i) else none))))) : va_E)) :: (List.range N).map (fun i => (r i, (.inl (cy, M, .inl (fun _ => (0 : Int32))) : va_E))))).map Prod.fst) σ (tys ++ [(cA, .array .int), (cy, .int)])) (List.replicate L.length (.inr (0, M, .inl (List.replicate M eZero)))) (L.map (fun i => (r i, (.inl (cy, M, .inl (fun _ => (0 : Int32))) : va_E)))) := by
            intro L
            induction L with
            | nil => trivial
            | cons i L ih =>
              refine ⟨⟨cy, tys.length + 1, ?_, by show M < 2 ^ 31; omega, _, rfl, fun j hj => ⟨eZero, by simp [hj], 0, rfl, eIn_mk (by rw [h0]; decide) (by rw [h0]; decide)⟩⟩, ih⟩
              rw [List.getElem?_append_right (by omega), show tys.length + 1 - tys.length = 1 by omega]
              rfl
          have := gen (List.range N)
          rw [List.length_range] at this
          exact this
      · rw [List.getElem?_map, hlen, List.getElem?_append_right (by omega), Nat.sub_self, ← hR]
        rfl
    · cases hst
  · cases hst
end EMU
end
section
/-! THE ENGINE, 8: a run is right. -/
abbrev eY : Type := MethodName × ByteArray × Option FieldType
/-- what goes on over calls beside the words: the links between nest mates, the class of rows of rows -/
def eXt (nst : List (String × Nat × MethodName × String)) (U : State) : Prop := (∀ q ∈ nst, va_Nw (.methodLinkNest q.1 q.2.1 q.2.2.1 q.2.2.2) U) ∧ (Cond.arrayOver (.array .int)).before #[] U = true
theorem eXt.warm {nst : List (String × Nat × MethodName × String)} {s U : State} (hW : s.WarmedH U.vm) (h : eXt nst s) : eXt nst U := by
  refine ⟨fun q hq => va_Nw.warmM hW (h.1 q hq), ?_⟩
  have := Cond.arrayOver_setVmC (args := #[]) hW.alike (.array .int)
  rw [h.2] at this
  exact this
def eRtk (r : Nat) (ret : Option FieldType) : Prop := match r with
  | 0 => ret = none
  | 1 => ret = some .int
  | 2 => ret = some .boolean
  | 3 => ret = some .long
  | _ => ∃ rt, ret = some rt ∧ ((∃ n, rt = .object n) ∨ ∃ t, rt = .array t)
/-- what lies outside and stays: it goes over to later heaps, later tables, fewer cells of one's own -/
def eFzOk (Fz : (Nat → Prop) → State → Heap → Prop) : Prop := (∀ (A B : Nat → Prop) (U U' : State) (H H' : Heap), Fz A U H → U.WarmedH U'.vm → (∀ q : Nat, q < H.size → ¬ A q → H'[q]? = H[q]?) → (∀ q, B q → A q) → Fz B U' H') ∧ ∀ (A : Nat → Prop) (U U' : State) (H : Heap), Fz A U H → U.vm = U'.vm → Fz A U' H
section ERN
variable (Fz : (Nat → Prop) → State → Heap → Prop) (l0 : Launch) (cl : List vw_C) (Ts : List Cond) (nst : List (String × Nat × MethodName × String)) (sr : List (Int × Int)) (dfs : List (List eV)) (ms : List eM) (yt : List eY)
/-- what links a call -/
def eLi (own : String) (i : Instr) (a b d : Nat) : Prop := match i with
  | .invokevirtual idx => a = 0 ∧ ∃ (M : eM) (Y : eY), ms[b]? = some M ∧ yt[b]? = some Y ∧ Cond.methodLink own idx Y.1 ∈ Ts ∧ Cond.instanceMethod Y.1 ∈ Ts ∧ Cond.selects Y.1.cls Y.1 Y.1 ∈ Ts ∧ ∃ (T : u_T) (N : Nat), cl[d]? = some (Y.1.cls, T, N)
  | .invokestatic idx => (6 < a ∧ eLb Ts own idx a) ∨ (a < 6 ∧ ∃ (M : eM) (Y : eY), ms[b]? = some M ∧ yt[b]? = some Y ∧ Cond.static Y.1 ∈ Ts ∧ ((a = 1 ∧ Cond.methodLink own idx Y.1 ∈ Ts) ∨ (a = 4 ∧ ∃ host, (own, idx, Y.1, host) ∈ nst)))
  | .invokespecial idx => (a = 6 ∧ eLb Ts own idx a) ∨ (a < 6 ∧ ∃ (M : eM) (Y : eY), ms[b]? = some M ∧ yt[b]? = some Y ∧ Y.1.name = "<init>" ∧ Y.2.2 = none ∧ Cond.instanceMethod Y.1 ∈ Ts ∧ ((a = 2 ∧ Cond.methodLink own idx Y.1 ∈ Ts) ∨ (a = 5 ∧ ∃ host, (own, idx, Y.1, host) ∈ nst)))
  | .multianewarray idx dim => dim = 2 ∧ Cond.classLink own idx ("[" ++ (FieldType.array .int).toString) ∈ Ts ∧ Cond.arrayClass .int ∈ Ts
  | _ => True
/-- what holds of a method of the table -/
def eMok (M : eM) (Y : eY) : Prop :=
  (∀ en : eN, en ∈ M.1.flatten → (eLen en.2.1 ≠ 0 → decode Y.2.1 en.1 = .ok (en.2.1, eLen en.2.1)) ∧ (∃ len, decode Y.2.1 en.1 = .ok (en.2.1, len)) ∧ eLk cl Ts Y.1.cls (Y.1.name == "<init>") en.2.1 en.1 en.2.2.2.1 en.2.2.2.2.1 en.2.2.2.2.2.2 ∧ eLi cl Ts nst ms yt Y.1.cls en.2.1 en.2.2.2.1 en.2.2.2.2.1 en.2.2.2.2.2.2) ∧
  Cond.code Y.1 Y.2.1 M.2.1 Y.2.2 ∈ Ts ∧ Cond.initialized Y.1.cls ∈ Ts ∧ plainName Y.1.cls = true ∧ (Y.1.cls ≠ "java/lang/invoke/MethodHandle" ∧ Y.1.cls ≠ "java/lang/invoke/VarHandle" ∧ (parseMethodDescriptor Y.1.desc).map (fun d => d.parameters.length) = some M.2.2.2.2.2) ∧ M.2.1 ≤ 100 ∧ eRtk M.2.2.2.2.1 Y.2.2
def eRm (d : Nat) (M : eM) : Room := { frames := d, cells := M.2.2.1, slots := M.2.2.2.1, locals := 128 * d }
def eOv (ad : List Nat) (σ : Nat → Int) (v : Option eV) (w : Option Value) : Prop := match v, w with
  | none, none => True
  | some v, some w => eOk ad σ v w
  | _, _ => False
/-- a method's end: one of the ways that were found -/
def eQ (D : va_G) (σ : Nat → Int) (ws : va_W) (os : List (Option eV × eH)) (sz : Nat) : Array Value → State → Outcome → State → Prop := fun _ st oc t =>
  (∃ o ∈ os, ∃ (w : Option Value) (ws' : va_W) (tys' : List (ClassId × FieldType)), oc = .returned w ∧ eOv (ws'.map Prod.fst) σ o.1 w ∧ (∃ t, ws'.map Prod.fst = ws.map Prod.fst ++ t) ∧ eAll (eCk (ws'.map Prod.fst) σ tys') o.2 ws' ∧ va_P D cl ws' t.heap ∧ va_K D cl tys' t ∧ va_D (va_A ws sz) ws') ∧ va_F (va_A ws sz) st t
def ePc (D : va_G) (ws : va_W) (tys : List (ClassId × FieldType)) (vs : List Value) (sz : Nat) : Array Value → State → Prop := va_Pc vs (fun U => U.heap.size = sz ∧ va_P D cl ws U.heap ∧ va_K D cl tys U ∧ va_D (fun _ => True) ws ∧ eXt nst U ∧ Fz (va_A ws sz) U U.heap)
/-- a call's contract -/
def eCon (d b : Nat) (as : List eV) (h : eH) (os : List (Option eV × eH)) : Prop := ∀ (M : eM) (Y : eY), ms[b]? = some M → yt[b]? = some Y → ∀ (D : va_G) (σ : Nat → Int) (ws : va_W) (tys : List (ClassId × FieldType)) (vs : List Value) (sz : Nat), eSg sr σ → eAll (eCk (ws.map Prod.fst) σ tys) h ws → eAll (eOk (ws.map Prod.fst) σ) as vs →
  Met l0 Y.1 (Cond.code Y.1 Y.2.1 M.2.1 Y.2.2 :: Ts) (eRm d M) (ePc Fz cl nst D ws tys vs sz) (eQ cl D σ ws os sz) M.2.2.1 M.2.2.2.1 (va_A ws sz)
end ERN
theorem ePc_blind {Fz : (Nat → Prop) → State → Heap → Prop} (hF : eFzOk Fz) {cl : List vw_C} {nst : List (String × Nat × MethodName × String)} {D : va_G} {ws : va_W} {tys : List (ClassId × FieldType)} {vs : List Value} {sz : Nat} : FrameBlind (ePc Fz cl nst D ws tys vs sz) := by
  intro a U g mk q
  obtain ⟨q0, q1, qP, qK, qD, qX, qF⟩ := q
  exact ⟨q0, q1, qP, va_K.moved (u := U) (U := U.calling g mk a) (Vm.Alike.refl U.vm) qK, qD, ⟨fun x hx => va_Nw.same rfl rfl (qX.1 x hx), qX.2⟩, hF.2 _ U _ _ qF rfl⟩
theorem eAll_take {α β : Type} {r : α → β → Prop} : ∀ {as : List α} {bs : List β} (n : Nat), eAll r as bs → eAll r (as.take n) (bs.take n)
  | _, _, 0, _ => by simp [eAll]
  | [], [], _ + 1, _ => trivial
  | _ :: _, _ :: _, n + 1, h => ⟨h.1, eAll_take n h.2⟩
theorem eAll_drop {α β : Type} {r : α → β → Prop} : ∀ {as : List α} {bs : List β} (n : Nat), eAll r as bs → eAll r (as.drop n) (bs.drop n)
  | _, _, 0, h => h
  | [], [], _ + 1, _ => trivial
  | _ :: _, _ :: _, n + 1, h => eAll_drop n h.2
section ECB
variable {p : Program} {l0 : Launch} {e : Env} {R : Room} {s : State} {m : MethodId} {args : Array Value} {below : List Frame} {meth : Method} {c : Code} {Q : State → Prop}
variable {cl : List vw_C} {σ : Nat → Int} {D : va_G} {A : Nat → Prop} {H0 : Heap}
theorem eBack {H : Heap} {locs : List Loc} {cs sl mc ms pc : Nat} {ls : Array Slot} {st0 rest : List Value} {ws : va_W} {os : List (Option eV × eH)} {a : Array Value} (hr : va_Run p l0 e R s m args below meth c H locs cs sl mc ms (F0 m pc ls st0) rest (eQ cl D σ ws os H.size a) (va_A ws H.size)) (hS : va_S A H0 H locs) (hA1 : ∀ q, va_A ws H.size q → A q)
    (kk : ∀ o ∈ os, ∀ (w : Option Value) (ws' : va_W) (tys' : List (ClassId × FieldType)) (H1 : Heap) (locs1 : List Loc), eOv (ws'.map Prod.fst) σ o.1 w → (∃ t, ws'.map Prod.fst = ws.map Prod.fst ++ t) → eAll (eCk (ws'.map Prod.fst) σ tys') o.2 ws' → va_P D cl ws' H1 → va_K D cl tys' s → va_D A ws' → va_S A H0 H1 locs1 → W p l0 e R s m args below meth c H1 locs1 (cs + mc) (sl + ms) Q (F0 m (pc + 3) ls (w.toList ++ rest))) : W p l0 e R s m args below meth c H locs cs sl Q (F0 m pc ls st0) := by
  intro T hT X
  obtain ⟨v, st₀, t, T', L, h0, X', hL, e1, e2, ⟨⟨o, ho, w, ws', tys', hv, hov, hpre', hh', hP', hK', hD'⟩, hz, hk⟩, st⟩ := hr T hT X
  cases hv
  rw [h0] at hz hk
  have hal : s.vm.Alike t.vm := by rw [← e2]; exact X'.warmed.alike
  obtain ⟨t2, a1, b1⟩ := kk o ho v ws' tys' T'.heap (locs ++ L) hov hpre' hh' (by rw [e1]; exact hP') (va_K.moved hal.symm hK') (hD'.weaken (fun k q _ h => hA1 q.1 h))
    ⟨Nat.le_trans hS.1 (by rw [e1]; exact hz), fun q h1 h2 => by rw [e1, hk q (Nat.lt_of_lt_of_le h1 hS.1) (fun z => h2 (hA1 q z))]; exact hS.2.1 q h1 h2, fun q hq => by
      rcases List.mem_append.mp hq with h | h
      · exact hS.2.2 q h
      · exact hA1 _ (hL q h)⟩ T' rfl X'
  exact ⟨t2, st t2 a1, b1⟩
end ECB
end
section
/-! THE ENGINE, 9: a call. -/
section ECL
variable {p : Program} {l0 : Launch} {e : Env} {R : Room} {s : State} {m : MethodId} {args : Array Value} {below : List Frame} {meth : Method} {c : Code} {Q : State → Prop}
variable {Fz : (Nat → Prop) → State → Heap → Prop} {cc : ByteArray} {own : String} {Ts : List Cond} {nst : List (String × Nat × MethodName × String)} {cl : List vw_C} {ms : List eM} {yt : List eY} {sr : List (Int × Int)} {σ : Nat → Int} {D : va_G} {A : Nat → Prop} {H0 : Heap} {ad0 : List Nat} {nL : Nat}
/-- how a call of kind kd is linked -/
def eKd (cl : List vw_C) (Ts : List Cond) (nst : List (String × Nat × MethodName × String)) (own : String) (cc : ByteArray) (pc kd d0 : Nat) (Y : eY) : Prop :=
  (kd = 0 ∧ ∃ (idx : Nat) (T : u_T) (N : Nat), decode cc pc = .ok (.invokevirtual idx, 3) ∧ Cond.methodLink own idx Y.1 ∈ Ts ∧ Cond.instanceMethod Y.1 ∈ Ts ∧ Cond.selects Y.1.cls Y.1 Y.1 ∈ Ts ∧ cl[d0]? = some (Y.1.cls, T, N)) ∨
  (kd = 1 ∧ ∃ idx : Nat, decode cc pc = .ok (.invokestatic idx, 3) ∧ Cond.methodLink own idx Y.1 ∈ Ts ∧ Cond.static Y.1 ∈ Ts) ∨
  (kd = 4 ∧ ∃ (idx : Nat) (host : String), decode cc pc = .ok (.invokestatic idx, 3) ∧ (own, idx, Y.1, host) ∈ nst ∧ Cond.static Y.1 ∈ Ts) ∨
  (kd = 2 ∧ ∃ idx : Nat, decode cc pc = .ok (.invokespecial idx, 3) ∧ Cond.methodLink own idx Y.1 ∈ Ts ∧ Y.1.name = "<init>" ∧ Y.2.2 = none ∧ Cond.instanceMethod Y.1 ∈ Ts) ∨
  (kd = 5 ∧ ∃ (idx : Nat) (host : String), decode cc pc = .ok (.invokespecial idx, 3) ∧ (own, idx, Y.1, host) ∈ nst ∧ Y.1.name = "<init>" ∧ Y.2.2 = none ∧ Cond.instanceMethod Y.1 ∈ Ts)
theorem ePopS_ok {ad : List Nat} {st as r : List eV} {np kd : Nat} {stk : List Value} (h : ePop st np kd = some (as, r)) (hk : kd = 1 ∨ kd = 4) (hs : eAll (eOk ad σ) st stk) : ∃ vs rest : List Value, stk = vs.reverse ++ rest ∧ vs.length = np ∧ eAll (eOk ad σ) as vs ∧ eAll (eOk ad σ) r rest := by
  have h2 : cond (Nat.ble np st.length) (some ((st.take np).reverse, st.drop np)) none = some (as, r) := by rcases hk with rfl | rfl <;> exact h
  obtain ⟨h3, h4⟩ := eCond h2
  cases h4
  have h3 := Nat.le_of_ble_eq_true h3
  refine ⟨(stk.take np).reverse, stk.drop np, by simp, ?_, eAll_rev (eAll_take np hs), eAll_drop np hs⟩
  have := eAll_len hs
  simp
  omega
theorem ePopV_ok {ad : List Nat} {st as r : List eV} {np kd : Nat} {stk : List Value} (h : ePop st np kd = some (as, r)) (hk : kd = 0 ∨ kd = 2 ∨ kd = 5) (hs : eAll (eOk ad σ) st stk) : ∃ (k a : Nat) (as1 : List eV) (vs rest : List Value), as = .inr (.inl (some k)) :: as1 ∧ ad[k]? = some a ∧ stk = vs.reverse ++ .ref a :: rest ∧ vs.length = np ∧ eAll (eOk ad σ) as1 vs ∧ eAll (eOk ad σ) r rest := by
  have h2 : (match st[np]? with
    | some (.inr (.inl (some k))) => some (.inr (.inl (some k)) :: (st.take np).reverse, st.drop (np + 1))
    | _ => none) = some (as, r) := by rcases hk with rfl | rfl | rfl <;> exact h
  split at h2
  · rename_i k hk2
    cases h2
    obtain ⟨w, hw, a, ha, rfl⟩ := eAll_get hs hk2
    have hlt := (List.getElem?_eq_some_iff.mp hw).1
    refine ⟨k, a, _, (stk.take np).reverse, stk.drop (np + 1), rfl, ha, ?_, by simp; omega, eAll_rev (eAll_take np hs), eAll_drop (np + 1) hs⟩
    rw [List.reverse_reverse]
    have e1 : stk.drop np = .ref a :: stk.drop (np + 1) := by
      rw [List.drop_eq_getElem_cons hlt]
      congr 1
      have := List.getElem?_eq_getElem hlt
      rw [hw] at this
      exact (Option.some.inj this).symm
    rw [← e1]
    exact (List.take_append_drop np stk).symm
  · cases h2
theorem eCall_ok (hx : p.tables.exec = Jvm.exec) (hb : c.code = cc) (hown : s.vm.findClass own = some m.cls) (hts : ∀ w ∈ Ts, w.before args s = true) (hgood : ∀ w ∈ Ts, (w.onTables && w.keeps) = true ∨ ∃ ty, w = .arrayClass ty) (hml : c.maxLocals = nL) (hXt : eXt nst s) (hF : eFzOk Fz) (hFs : Fz A s H0) (hs : eSg sr σ) (hA : ∀ q, H0.size ≤ q → A q)
    {d b kd d0 pc cs sl : Nat} {l : eL} {st as r : List eV} {h : eH} {os : List (Option eV × eH)} {N : eM} {Y : eY} (hR1 : d + 1 ≤ R.frames) (hR2 : 128 * (d + 1) ≤ R.locals) (hN : ms[b]? = some N) (hY : yt[b]? = some Y) (hok : eMok cl Ts nst ms yt N Y) (hcon : eCon Fz l0 cl Ts nst sr ms yt d b as h os)
    (hkd : eKd cl Ts nst own cc pc kd d0 Y) (hpop : ePop st N.2.2.2.2.2 kd = some (as, r)) (hcr : eCats r ≤ 8) (hmc : cs + N.2.2.1 ≤ R.cells) (hms : sl + N.2.2.2.1 ≤ R.slots) (hrcv : eRcv h kd d0 as = true)
    (K : ∀ o ∈ os, ∀ (H : Heap) (locs : List Loc) (ws : va_W) (tys : List (ClassId × FieldType)) (ls : Array Slot) (lv : List (Nat × Value)) (stk : List Value), eCn D cl A H0 s σ nL ad0 (pc + 3, l, o.1.toList ++ r, o.2, cs + N.2.2.1, sl + N.2.2.2.1) H locs ws tys ls lv stk → W p l0 e R s m args below meth c H locs (cs + N.2.2.1) (sl + N.2.2.2.1) Q (F0 m (pc + 3) ls stk)) :
    ∀ (H : Heap) (locs : List Loc) (ws : va_W) (tys : List (ClassId × FieldType)) (ls : Array Slot) (lv : List (Nat × Value)) (stk : List Value), eCn D cl A H0 s σ nL ad0 (pc, l, st, h, cs, sl) H locs ws tys ls lv stk → W p l0 e R s m args below meth c H locs cs sl Q (F0 m pc ls stk) := by
  intro H locs ws tys ls lv stk hc
  obtain ⟨hK, hP, hD, hS, hpre, hh, hl, hlv, hsk⟩ := hc
  obtain ⟨-, hcode, hini, -, hdd, hnl, -⟩ := hok
  have hG : GoodIn Ts (Cond.code Y.1 Y.2.1 N.2.1 Y.2.2 :: Ts) := fun w hw => by
    rcases List.mem_cons.mp hw with rfl | hw
    · exact ⟨hcode, hgood _ hcode⟩
    · exact ⟨hw, hgood _ hw⟩
  have hroom : (eRm d N).frames + 1 ≤ R.frames ∧ 8 + (N.2.1 + 11) + (eRm d N).locals ≤ R.locals := ⟨hR1, by show 8 + (N.2.1 + 11) + 128 * d ≤ _; omega⟩
  have hA1 : ∀ q, va_A ws H.size q → A q := by
    intro q hq
    rcases hq with ⟨k, e9, hk⟩ | hq
    · exact hD.2 k (q, e9) hk
    · exact hA q (Nat.le_trans hS.1 hq)
  have hPre : ∀ (vs : List Value) (U : State), U.heap = H → s.WarmedH U.vm → ePc Fz cl nst D ws tys vs H.size vs.toArray U := fun vs U hU hW => ⟨rfl, by rw [hU], by rw [hU]; exact hP, va_K.moved hW.alike hK, hD.weaken (fun _ _ _ _ => trivial), hXt.warm hW, by rw [hU]; exact hF.1 A _ s U H0 H hFs hW hS.2.1 hA1⟩
  have fin : ∀ (rest : List Value) (a : Array Value), eAll (eOk (ws.map Prod.fst) σ) r rest → va_Run p l0 e R s m args below meth c H locs cs sl N.2.2.1 N.2.2.2.1 (F0 m pc ls stk) rest (eQ cl D σ ws os H.size a) (va_A ws H.size) → W p l0 e R s m args below meth c H locs cs sl Q (F0 m pc ls stk) := by
    intro rest a hr hrun
    refine eBack hrun hS hA1 (fun o ho w ws' tys' H1 locs1 hov hpre' hh' hP' hK' hD' hS' => ?_)
    refine K o ho _ _ ws' tys' ls lv _ ⟨hK', hP', hD', hS', ?_, hh', hl, eAll_mono (fun _ _ z => ⟨z.1, eOk_ad hpre' z.2⟩) hlv, ?_⟩
    · obtain ⟨t, ht⟩ := hpre
      obtain ⟨t', ht'⟩ := hpre'
      exact ⟨t ++ t', by rw [ht', ht, List.append_assoc]⟩
    · have hr' := eAll_mono (fun _ _ => eOk_ad hpre') hr
      show eAll _ (o.1.toList ++ r) _
      cases h1 : o.1 with
      | none =>
        rw [h1] at hov
        cases w with
        | none => exact hr'
        | some w => exact hov.elim
      | some v =>
        rw [h1] at hov
        cases w with
        | none => exact hov.elim
        | some w => exact ⟨hov, hr'⟩
  have hcat : ∀ rest : List Value, eAll (eOk (ws.map Prod.fst) σ) r rest → 2 * (F0 m pc ls stk).monitorRoom + (rest.map fun v => v.category).sum ≤ 8 := fun rest hr => by
    rw [eCats_ok hr]
    show 2 * 0 + _ ≤ 8
    omega
  rcases hkd with ⟨rfl, idx, T, NN, hdg, w1, w2, w3, hcl⟩ | ⟨rfl, idx, hdg, w1, w2⟩ | ⟨rfl, idx, host, hdg, w1, w2⟩ | ⟨rfl, idx, hdg, w1, w2, w3, w4⟩ | ⟨rfl, idx, host, hdg, w1, w2, w3, w4⟩
  · obtain ⟨k, a, as1, vs, rest, rfl, ha, hstk, hlen, has, hr⟩ := ePopV_ok hpop (Or.inl rfl) hsk
    have hM := hcon N Y hN hY D σ ws tys (.ref a :: vs) H.size hs hh ⟨⟨a, ha, rfl⟩, has⟩
    unfold eRcv at hrcv
    simp only at hrcv
    split at hrcv
    · rename_i o ho
      have e0 := Nat.eq_of_beq_eq_true hrcv
      obtain ⟨⟨q, e9⟩, he, fs, hf, -⟩ := eAll_get hh ho
      have hf : e9 = .inr (o.1, fs) := hf
      subst hf
      have e1 := eAd_at he ha
      subst e1
      rw [e0] at he
      exact fin rest _ hr (va_runV (As := vs) (rest := rest) ⟨hx, hb, hml, hown, hts⟩ hM ⟨callB_of _ hts hG rfl rfl rfl (hts _ hini) (hts _ w1) hdd hroom, hts _ w2, hts _ w3⟩ ⟨ePc_blind hF, va_recv hK hP hcl he, hPre _⟩ rfl hlen hl.1 hstk (hcat rest hr) hdg ⟨hmc, hms⟩)
    · cases hrcv
  · obtain ⟨vs, rest, hstk, hlen, has, hr⟩ := ePopS_ok hpop (Or.inl rfl) hsk
    have hM := hcon N Y hN hY D σ ws tys vs H.size hs hh has
    exact fin rest _ hr (va_runS (As := vs) (rest := rest) ⟨hx, hb, hml, hown, hts⟩ hM ⟨callB_of _ hts hG rfl rfl rfl (hts _ hini) (hts _ w1) hdd hroom, hts _ w2⟩ ⟨ePc_blind hF, hPre _⟩ rfl hlen hl.1 hstk (hcat rest hr) hdg ⟨hmc, hms⟩)
  · obtain ⟨vs, rest, hstk, hlen, has, hr⟩ := ePopS_ok hpop (Or.inr rfl) hsk
    have hM := hcon N Y hN hY D σ ws tys vs H.size hs hh has
    exact fin rest _ hr (va_runSN (As := vs) (rest := rest) ⟨hx, hb, hml, hown, hts⟩ hM ⟨va_cnB _ hts hG rfl rfl rfl (hXt.1 _ w1) (hts _ hini) hdd hroom, hts _ w2, trivial⟩ ⟨ePc_blind hF, hPre _⟩ rfl hlen hl.1 hstk (hcat rest hr) hdg ⟨hmc, hms⟩)
  · obtain ⟨k, a, as1, vs, rest, rfl, ha, hstk, hlen, has, hr⟩ := ePopV_ok hpop (Or.inr (Or.inl rfl)) hsk
    have hM := hcon N Y hN hY D σ ws tys (.ref a :: vs) H.size hs hh ⟨⟨a, ha, rfl⟩, has⟩
    rw [w3] at hM hG
    exact fin rest _ hr (va_runI (As := vs) (rest := rest) ⟨hx, hb, hml, hown, hts⟩ hM ⟨callB_of _ hts hG rfl rfl rfl (hts _ hini) (hts _ w1) hdd hroom, w2, hts _ w4⟩ ⟨ePc_blind hF, hPre _⟩ rfl hlen hl.1 hstk (hcat rest hr) hdg ⟨hmc, hms⟩)
  · obtain ⟨k, a, as1, vs, rest, rfl, ha, hstk, hlen, has, hr⟩ := ePopV_ok hpop (Or.inr (Or.inr rfl)) hsk
    have hM := hcon N Y hN hY D σ ws tys (.ref a :: vs) H.size hs hh ⟨⟨a, ha, rfl⟩, has⟩
    rw [w3] at hM hG
    exact fin rest _ hr (va_runIN (As := vs) (rest := rest) ⟨hx, hb, hml, hown, hts⟩ hM ⟨va_cnB _ hts hG rfl rfl rfl (hXt.1 _ w1) (hts _ hini) hdd hroom, w2, hts _ w4⟩ ⟨ePc_blind hF, hPre _⟩ rfl hlen hl.1 hstk (hcat rest hr) hdg ⟨hmc, hms⟩)
end ECL
end
section
/-! THE ENGINE, 10: every run is right. -/
theorem eFind_ok : ∀ {ch : List eN} {pc : Nat} {en : eN}, eFind ch pc = some en → en.1 = pc ∧ en ∈ ch
  | [], pc, en, h => by cases h
  | q :: ch, pc, en, h => by
    unfold eFind at h
    cases hb : Nat.beq q.1 pc with
    | true =>
      rw [hb] at h
      cases h
      exact ⟨Nat.eq_of_beq_eq_true hb, List.mem_cons_self⟩
    | false =>
      rw [hb] at h
      obtain ⟨h1, h2⟩ := eFind_ok (ch := ch) h
      exact ⟨h1, List.mem_cons_of_mem _ h2⟩
theorem eAt_ok {code : List (List eN)} {pc : Nat} {en : eN} (h : eAt code pc = some en) : en.1 = pc ∧ en ∈ code.flatten := by
  unfold eAt at h
  split at h
  · rename_i ch hch
    obtain ⟨h1, h2⟩ := eFind_ok h
    exact ⟨h1, List.mem_flatten.mpr ⟨ch, List.mem_of_getElem? hch, h2⟩⟩
  · cases h
theorem eColl_ok {α : Type} {f : α → Option (List eS)} : ∀ {xs : List α} {ys : List eS}, eColl f xs = some ys → ∀ x ∈ xs, ∃ zs, f x = some zs ∧ ∀ z ∈ zs, z ∈ ys
  | [], ys, h, x, hx => absurd hx List.not_mem_nil
  | a :: xs, ys, h, x, hx => by
    unfold eColl at h
    split at h
    · cases h
    · rename_i z1 h1
      split at h
      · cases h
      · rename_i z2 h2
        cases h
        rcases List.mem_cons.mp hx with rfl | hx
        · exact ⟨z1, h1, fun z hz => List.mem_append_left _ hz⟩
        · obtain ⟨zs, g1, g2⟩ := eColl_ok h2 x hx
          exact ⟨zs, g1, fun z hz => List.mem_append_right _ (g2 z hz)⟩
theorem eOuts_ok {N : eM} : ∀ {fs : List eS} {os : List (Option eV × eH)}, eOuts N fs = some os → ∀ f ∈ fs, ∃ v, eRet N f = some v ∧ (v, f.2.2.2.1) ∈ os
  | [], os, h, f, hf => absurd hf List.not_mem_nil
  | a :: fs, os, h, f, hf => by
    unfold eOuts at h
    split at h
    · cases h
    · rename_i v h1
      split at h
      · cases h
      · rename_i os' h2
        cases h
        rcases List.mem_cons.mp hf with rfl | hf
        · exact ⟨v, h1, List.mem_cons_self⟩
        · obtain ⟨w, g1, g2⟩ := eOuts_ok h2 f hf
          exact ⟨w, g1, List.mem_cons_of_mem _ g2⟩
theorem eArgs_ok {ad : List Nat} {σ : Nat → Int} : ∀ {as : List eV} {vs : List Value} (i : Nat), eAll (eOk ad σ) as vs → eAll (eLo ad σ) (eArgs i as) (lv_args i vs)
  | [], _, i, h => by rw [eAll_nil h]; trivial
  | a :: as, _, i, h => by
    obtain ⟨w, vs, rfl, h1, h2⟩ := eAll_cons h
    refine ⟨⟨rfl, h1⟩, ?_⟩
    have e := eOk_cat h1
    have e2 : (cond (Nat.beq (eCat a) 2) (i + 2) (i + 1)) = (if w.category = 2 then i + 2 else i + 1) := by
      rw [e]
      by_cases hc : eCat a = 2
      · rw [if_pos hc, hc]; rfl
      · rw [if_neg hc]
        cases hb : Nat.beq (eCat a) 2 with
        | true => exact absurd (Nat.eq_of_beq_eq_true hb) hc
        | false => rfl
    show eAll (eLo ad σ) (eArgs (cond (Nat.beq (eCat a) 2) (i + 2) (i + 1)) as) _
    rw [e2]
    exact eArgs_ok _ h2
theorem eSl_ok {ad : List Nat} {σ : Nat → Int} : ∀ {as : List eV} {vs : List Value}, eAll (eOk ad σ) as vs → (lg_sl vs).length = eCats as
  | [], _, h => by rw [eAll_nil h]; rfl
  | a :: as, _, h => by
    obtain ⟨w, vs, rfl, h1, h2⟩ := eAll_cons h
    have e := eOk_cat h1
    have ih := eSl_ok h2
    unfold lg_sl at ih ⊢
    rw [List.flatMap_cons, List.length_append, ih, e]
    show _ = eCat a + eCats as
    congr 1
    match a with
    | .inl _ => rfl
    | .inr (.inl none) => rfl
    | .inr (.inl (some _)) => rfl
    | .inr (.inr _) => rfl
section EGL
variable (Fz : (Nat → Prop) → State → Heap → Prop) (l0 : Launch) (cl : List vw_C) (Ts : List Cond) (nst : List (String × Nat × MethodName × String)) (sr : List (Int × Int)) (dfs : List (List eV)) (ms : List eM) (yt : List eY)
def eCx (M : eM) (Y : eY) (d : Nat) (p : Program) (R : Room) (s : State) (m : MethodId) (args : Array Value) (meth : Method) (c : Code) : Prop :=
  p.tables.exec = Jvm.exec ∧ c.code = Y.2.1 ∧ s.vm.findClass Y.1.cls = some m.cls ∧ (∀ w ∈ Ts, w.before args s = true) ∧ c.maxLocals = M.2.1 ∧ ((Y.1.name == "<init>") = true → meth.name = "<init>") ∧ eXt nst s ∧ d ≤ R.frames ∧ 128 * d ≤ R.locals ∧ R.cells = M.2.2.1 ∧ R.slots = M.2.2.2.1
def eGl (d y : Nat) (S : eS) (fins : List eS) : Prop := ∀ (M : eM) (Y : eY), ms[y]? = some M → yt[y]? = some Y → ∀ (p : Program) (e : Env) (R : Room) (s : State) (m : MethodId) (args : Array Value) (below : List Frame) (meth : Method) (c : Code), eCx Ts nst M Y d p R s m args meth c → ∀ (D : va_G) (A : Nat → Prop) (H0 : Heap) (σ : Nat → Int) (ad0 : List Nat), eSg sr σ → (∀ q, H0.size ≤ q → A q) → Fz A s H0 → ∀ Q : State → Prop,
  (∀ f ∈ fins, ∀ (H : Heap) (locs : List Loc) (ws : va_W) (tys : List (ClassId × FieldType)) (ls : Array Slot) (lv : List (Nat × Value)) (stk : List Value), eCn D cl A H0 s σ M.2.1 ad0 f H locs ws tys ls lv stk → W p l0 e R s m args below meth c H locs f.2.2.2.2.1 f.2.2.2.2.2 Q (F0 m f.1 ls stk)) →
  ∀ (H : Heap) (locs : List Loc) (ws : va_W) (tys : List (ClassId × FieldType)) (ls : Array Slot) (lv : List (Nat × Value)) (stk : List Value), eCn D cl A H0 s σ M.2.1 ad0 S H locs ws tys ls lv stk → W p l0 e R s m args below meth c H locs S.2.2.2.2.1 S.2.2.2.2.2 Q (F0 m S.1 ls stk)
end EGL
section EAX
variable {Fz : (Nat → Prop) → State → Heap → Prop} {l0 : Launch} {cl : List vw_C} {Ts : List Cond} {nst : List (String × Nat × MethodName × String)} {sr : List (Int × Int)} {dfs : List (List eV)} {ms : List eM} {yt : List eY}
/-- a run from a method's first instruction to its returns is a contract -/
theorem eCon_of (hT : eAll (eMok cl Ts nst ms yt) ms yt) {d b : Nat} {as : List eV} {h : eH} {fs : List eS} {os : List (Option eV × eH)} {N : eM} (hN : ms[b]? = some N) (hca : eCats as ≤ N.2.1) (hg : eGl Fz l0 cl Ts nst sr ms yt d b (0, eArgs 0 as, [], h, 0, 0) fs) (ho : eOuts N fs = some os) : eCon Fz l0 cl Ts nst sr ms yt d b as h os := by
  intro M Y hM hY D σ ws tys vs sz hs hh has
  have eM := Option.some.inj (hN.symm.trans hM)
  subst eM
  obtain ⟨Y', hY', hok⟩ := eAll_get hT hN
  have eY' := Option.some.inj (hY'.symm.trans hY)
  subst eY'
  refine Met.ofW (cc := Y'.2.1) (maxL := N.2.1) (ret := Y'.2.2) hok.2.2.2.1 rfl ?_
  intro p e s m args below meth c s₁ B hml hv
  obtain ⟨rfl, hsz, hP, hK, hD0, hXt, hFz⟩ := hv
  have hts := atoms_spec (ws := Cond.code Y'.1 Y'.2.1 N.2.1 Y'.2.2 :: Ts) B.pre
  have hlocks := B.notSynchronized
  have hD := hD0.self (sz := s.heap.size)
  have hl := lv_entry vs (n := N.2.1) (by rw [eSl_ok has]; exact hca)
  rw [lg_entry_eq]
  generalize (lg_sl vs ++ List.replicate (N.2.1 - (lg_sl vs).length) Slot.unset).toArray = ls at hl ⊢
  subst hsz
  have hcx : eCx Ts nst N Y' d p (eRm d N) s m vs.toArray meth c := ⟨B.exec, B.bytes, findClass_of_methodNamed B.named, fun w hw => hts w (List.mem_cons_of_mem _ hw), hml, fun hi => by rw [(name_of_methodNamed B.named B.method).1]; exact eq_of_beq hi, hXt, Nat.le_refl _, Nat.le_refl _, rfl, rfl⟩
  refine hg N Y' hN hY p e (eRm d N) s m vs.toArray below meth c hcx D (va_A ws s.heap.size) s.heap σ (ws.map Prod.fst) hs (fun q hq => Or.inr hq) hFz _ ?_ s.heap [] ws tys ls (lv_args 0 vs) [] ⟨hK, hP, hD, va_S.rf, ⟨[], by simp⟩, hh, hl, eArgs_ok 0 has, trivial⟩
  intro f hf H locs ws' tys' ls' lv' stk' hc
  obtain ⟨hK', hP', hD', hS', hpre', hh', hl', hlv', hsk'⟩ := hc
  obtain ⟨v, hr, hmem⟩ := eOuts_ok ho f hf
  unfold eRet at hr
  obtain ⟨hb, hr2⟩ := eCond hr
  clear hr
  rw [Bool.and_eq_true] at hb
  refine W.widen (Nat.le_of_ble_eq_true hb.1) (Nat.le_of_ble_eq_true hb.2) ?_
  have hq : ∀ (w : Option Value) (t : State), eOv (ws'.map Prod.fst) σ v w → t.heap = H → s.WarmedH t.vm → eQ cl D σ ws os s.heap.size vs.toArray s (.returned w) t := fun w t hov ht hW => ⟨⟨_, hmem, w, ws', tys', rfl, hov, hpre', hh', by rw [ht]; exact hP', va_K.moved hW.alike hK', hD'⟩, hS'.F ht⟩
  have hfr : ∀ q ∈ locs, va_A ws s.heap.size q.base := hS'.2.2
  split at hr2
  · rename_i en hen
    obtain ⟨hpc, hmem2⟩ := eAt_ok hen
    have hdec := (hok.1 en hmem2).1
    have hrt := hok.2.2.2.2.2.2
    have hst : ∀ x, f.2.2.1 = x → eAll (eOk (ws'.map Prod.fst) σ) x stk' := fun x hx => hx ▸ hsk'
    split at hr2
    · rename_i h1 h2 h3
      cases hr2
      have e1 := eAll_nil (hst _ h3)
      subst e1
      rw [h2] at hdec
      rw [h1] at hrt
      have hdec := hdec (by simp [eLen])
      rw [hpc] at hdec
      exact W.vret B.exec B.bytes (by rw [B.returns]; exact hrt) (fun t ht hW => hq none t trivial ht hW) hfr hdec
    · rename_i q h1 h2 h3
      cases hr2
      obtain ⟨w, r, rfl, ⟨x, rfl, hxq⟩, hn⟩ := eAll_cons (hst _ h3)
      have e1 := eAll_nil hn
      subst e1
      rw [h2] at hdec
      rw [h1] at hrt
      have hdec := hdec (by simp [eLen])
      rw [hpc] at hdec
      exact W.iret B.exec B.bytes (by rw [B.returns]; exact hrt) (fun t ht hW => hq (some (.int x)) t ⟨x, rfl, hxq⟩ ht hW) hfr hdec
    · rename_i q h1 h2 h3
      obtain ⟨hbo, hr3⟩ := eCond hr2
      cases hr3
      obtain ⟨w, r, rfl, ⟨x, rfl, hxq⟩, hn⟩ := eAll_cons (hst _ h3)
      have e1 := eAll_nil hn
      subst e1
      rw [h2] at hdec
      rw [h1] at hrt
      have hdec := hdec (by simp [eLen])
      rw [hpc] at hdec
      have hx01 : x = 0 ∨ x = 1 := e_bool hs.1 hxq hbo
      exact W.zret B.exec B.bytes (by rw [B.returns]; exact hrt) (by rcases hx01 with rfl | rfl <;> decide) (fun t ht hW => hq (some (.int x)) t ⟨x, rfl, hxq⟩ ht hW) hfr hdec
    · rename_i u h1 h2 h3
      cases hr2
      obtain ⟨w, r, rfl, ⟨x, rfl, hxy⟩, hn⟩ := eAll_cons (hst _ h3)
      have e1 := eAll_nil hn
      subst e1
      rw [h2] at hdec
      rw [h1] at hrt
      have hdec := hdec (by simp [eLen])
      rw [hpc] at hdec
      exact W.lret B.exec B.bytes (by rw [B.returns]; exact hrt) (fun t ht hW => hq (some (.long x)) t ⟨x, rfl, hxy⟩ ht hW) hfr hdec
    · rename_i k h1 h2 h3
      cases hr2
      obtain ⟨w, r, rfl, ⟨x, hxa, rfl⟩, hn⟩ := eAll_cons (hst _ h3)
      have e1 := eAll_nil hn
      subst e1
      rw [h2] at hdec
      rw [h1] at hrt
      have hdec := hdec (by simp [eLen])
      rw [hpc] at hdec
      obtain ⟨rt, hrt1, hrt2⟩ := hrt
      exact W.aret B.exec B.bytes (by rw [B.returns]; exact hrt1) hrt2 (Or.inr ⟨x, rfl⟩) (fun t ht hW => hq (some (.ref x)) t ⟨x, hxa, rfl⟩ ht hW) hfr hdec
    · cases hr2
  · cases hr2
end EAX
end
section
/-! THE ENGINE, 11: the theorem. -/
section EMN
variable {Fz : (Nat → Prop) → State → Heap → Prop} {l0 : Launch} {cl : List vw_C} {Ts : List Cond} {nst : List (String × Nat × MethodName × String)} {sr : List (Int × Int)} {dfs : List (List eV)} {ms : List eM} {yt : List eY} {orc : Nat → Nat → List eV → eH → Option (List (Option eV × eH))}
/-- what goes on is right -/
def eIH (Fz : (Nat → Prop) → State → Heap → Prop) (l0 : Launch) (cl : List vw_C) (Ts : List Cond) (nst : List (String × Nat × MethodName × String)) (sr : List (Int × Int)) (ms : List eM) (yt : List eY) (X : Nat → Nat → List Nat → eS → Option (List eS)) : Prop := ∀ (d y : Nat) (stop : List Nat) (S : eS) (fins : List eS), X d y stop S = some fins → eGl Fz l0 cl Ts nst sr ms yt d y S fins
theorem eNext {X : Nat → Nat → List Nat → eS → Option (List eS)} (ih : eIH Fz l0 cl Ts nst sr ms yt X) {d y : Nat} {stop : List Nat} {S : eS} {zs : List eS} (h : cond (stop.elem S.1) (some [S]) (X d y stop S) = some zs) : eGl Fz l0 cl Ts nst sr ms yt d y S zs := by
  cases hb : stop.elem S.1 with
  | true =>
    rw [hb] at h
    cases h
    intro M Y hM hY p e R s m args below meth c hcx D A H0 σ ad0 hs hA hFs Q K
    exact K S List.mem_cons_self
  | false =>
    rw [hb] at h
    exact ih d y stop S zs h
theorem eGl_mono {d y : Nat} {S : eS} {zs fins : List eS} (h : eGl Fz l0 cl Ts nst sr ms yt d y S zs) (hz : ∀ z ∈ zs, z ∈ fins) : eGl Fz l0 cl Ts nst sr ms yt d y S fins := by
  intro M Y hM hY p e R s m args below meth c hcx D A H0 σ ad0 hs hA hFs Q K
  exact h M Y hM hY p e R s m args below meth c hcx D A H0 σ ad0 hs hA hFs Q (fun f hf => K f (hz f hf))
theorem eInv_ok (hF : eFzOk Fz) (hT : eAll (eMok cl Ts nst ms yt) ms yt) (hgood : ∀ w ∈ Ts, (w.onTables && w.keeps) = true ∨ ∃ ty, w = .arrayClass ty) (horc : ∀ (d b : Nat) (as : List eV) (h : eH) (os : List (Option eV × eH)), orc d b as h = some os → eCon Fz l0 cl Ts nst sr ms yt d b as h os)
    {X : Nat → Nat → List Nat → eS → Option (List eS)} (ih : eIH Fz l0 cl Ts nst sr ms yt X) {d y : Nat} {stop : List Nat} {S : eS} {fins : List eS} {kd b d0 : Nat} {M : eM} (hM : ms[y]? = some M) (h : eInv sr ms orc X d y stop S kd b d0 M = some fins)
    (hlk : ∀ Y, yt[y]? = some Y → (6 ≤ kd → ∃ idx, eLb Ts Y.1.cls idx kd ∧ (kd = 6 → decode Y.2.1 S.1 = .ok (.invokespecial idx, 3)) ∧ (kd ≠ 6 → decode Y.2.1 S.1 = .ok (.invokestatic idx, 3))) ∧ (kd < 6 → ∃ (N : eM) (Z : eY), ms[b]? = some N ∧ yt[b]? = some Z ∧ eKd cl Ts nst Y.1.cls Y.2.1 S.1 kd d0 Z)) : eGl Fz l0 cl Ts nst sr ms yt d y S fins := by
  intro M' Y hM' hY p e R s m args below meth c hcx D A H0 σ ad0 hs hA hFs Q K H locs ws tys ls lv stk hc
  have e0 := Option.some.inj (hM.symm.trans hM')
  subst e0
  obtain ⟨hx, hb, hown, hts, hml, hin, hXt, hR1, hR2, hRc, hRs⟩ := id hcx
  obtain ⟨pc, l, st, hp, cs, sl⟩ := S
  unfold eInv at h
  cases d with
  | zero => cases h
  | succ d' =>
    simp only at h
    cases hk : Nat.ble 6 kd with
    | true =>
      rw [hk] at h
      simp only [cond_true] at h
      obtain ⟨idx, g1, g2, g3⟩ := (hlk Y hY).1 (Nat.le_of_ble_eq_true hk)
      split at h
      · rename_i st' h' hbl
        obtain ⟨hn, hg⟩ := eCond h
        rw [Bool.and_eq_true] at hn
        refine eBlt_ok (l := l) hx hb hown hts hml (by omega) (by omega) hs (by rw [hRc]; exact Nat.le_of_ble_eq_true hn.1) (by rw [hRs]; exact Nat.le_of_ble_eq_true hn.2) g2 g3 g1 hbl ?_ H locs ws tys ls lv stk hc
        exact eNext ih hg M Y hM hY p e R s m args below meth c hcx D A H0 σ ad0 hs hA hFs Q K
      · cases h
    | false =>
      rw [hk] at h
      simp only [cond_false] at h
      have hlt : kd < 6 := by
        rcases Nat.lt_or_ge kd 6 with q | q
        · exact q
        · rw [Nat.ble_eq_true_of_le q] at hk; cases hk
      obtain ⟨N, Z, hN, hZ, hkd⟩ := (hlk Y hY).2 hlt
      rw [hN] at h
      simp only at h
      split at h
      · cases h
      · rename_i as r hpop
        obtain ⟨hn, hg⟩ := eCond h
        clear h
        simp only [Bool.and_eq_true] at hn
        obtain ⟨⟨⟨⟨n1, n2⟩, n3⟩, n4⟩, n5⟩ := hn
        split at hg
        · cases hg
        · rename_i os hos
          obtain ⟨Z', hZ', hok⟩ := eAll_get hT hN
          have e1 := Option.some.inj (hZ'.symm.trans hZ)
          subst e1
          have hcon : eCon Fz l0 cl Ts nst sr ms yt d' b as hp os := by
            split at hos
            · rename_i os' ho'
              cases hos
              exact horc d' b as hp _ ho'
            · split at hos
              · cases hos
              · rename_i fs hfs
                exact eCon_of hT hN (Nat.le_of_ble_eq_true n4) (ih d' b [] _ fs hfs) hos
          refine eCall_ok (l := l) hx hb hown hts hgood hml hXt hF hFs hs hA hR1 hR2 hN hZ hok hcon hkd hpop (Nat.le_of_ble_eq_true n1) (by rw [hRc]; exact Nat.le_of_ble_eq_true n2) (by rw [hRs]; exact Nat.le_of_ble_eq_true n3) n5 ?_ H locs ws tys ls lv stk hc
          intro o ho
          obtain ⟨zs, hz1, hz2⟩ := eColl_ok hg o ho
          exact eGl_mono (eNext ih hz1) hz2 M Y hM hY p e R s m args below meth c hcx D A H0 σ ad0 hs hA hFs Q K
theorem eExec_ok (hF : eFzOk Fz) (hT : eAll (eMok cl Ts nst ms yt) ms yt) (hgood : ∀ w ∈ Ts, (w.onTables && w.keeps) = true ∨ ∃ ty, w = .arrayClass ty) (hcl : eKl cl Ts dfs) (horc : ∀ (d b : Nat) (as : List eV) (h : eH) (os : List (Option eV × eH)), orc d b as h = some os → eCon Fz l0 cl Ts nst sr ms yt d b as h os) : ∀ n : Nat, eIH Fz l0 cl Ts nst sr ms yt (eExec sr dfs ms orc n) := by
  intro n
  induction n with
  | zero => intro d y stop S fins h; cases h
  | succ n ih =>
    intro d y stop S fins h
    have h : eBody sr dfs ms orc (eExec sr dfs ms orc n) d y stop S = some fins := h
    unfold eBody at h
    split at h
    · cases h
    · rename_i M hM
      obtain ⟨Y, hY, hok⟩ := eAll_get hT hM
      split at h
      · cases h
      · rename_i en hen
        obtain ⟨hpc, hmem⟩ := eAt_ok hen
        obtain ⟨hd, hd0, hlk, hli⟩ := hok.1 en hmem
        rw [hpc] at hd hd0 hlk
        have ret : some [S] = some fins → eGl Fz l0 cl Ts nst sr ms yt d y S fins := fun hr => by
          cases hr
          intro M Y hM hY p e R s m args below meth c hcx D A H0 σ ad0 hs hA hFs Q K
          exact K S List.mem_cons_self
        split at h
        · exact ret h
        · exact ret h
        · exact ret h
        · exact ret h
        · rename_i idx hi
          rw [hi] at hd hli
          have hd := hd (by simp [eLen])
          refine eInv_ok hF hT hgood horc ih hM h (fun Y' hY' => ?_)
          have e1 := Option.some.inj (hY.symm.trans hY')
          subst e1
          obtain ⟨ha, N, Z, w1, w2, w3, w4, w5, T, NN, w6⟩ := hli
          refine ⟨fun q => by omega, fun _ => ⟨N, Z, w1, w2, Or.inl ⟨ha, idx, T, NN, hd, w3, w4, w5, w6⟩⟩⟩
        · rename_i idx hi
          rw [hi] at hd hli
          have hd := hd (by simp [eLen])
          refine eInv_ok hF hT hgood horc ih hM h (fun Y' hY' => ?_)
          have e1 := Option.some.inj (hY.symm.trans hY')
          subst e1
          rcases hli with ⟨ha, hb⟩ | ⟨ha, N, Z, w1, w2, w3, w4⟩
          · exact ⟨fun _ => ⟨idx, hb, fun q => by omega, fun _ => hd⟩, fun q => by omega⟩
          · refine ⟨fun q => by omega, fun _ => ⟨N, Z, w1, w2, ?_⟩⟩
            rcases w4 with ⟨w4, w5⟩ | ⟨w4, host, w5⟩
            · exact Or.inr (Or.inl ⟨w4, idx, hd, w5, w3⟩)
            · exact Or.inr (Or.inr (Or.inl ⟨w4, idx, host, hd, w5, w3⟩))
        · rename_i idx hi
          rw [hi] at hd hli
          have hd := hd (by simp [eLen])
          refine eInv_ok hF hT hgood horc ih hM h (fun Y' hY' => ?_)
          have e1 := Option.some.inj (hY.symm.trans hY')
          subst e1
          rcases hli with ⟨ha, hb⟩ | ⟨ha, N, Z, w1, w2, w3, w4, w5, w6⟩
          · exact ⟨fun _ => ⟨idx, hb, fun _ => hd, fun q => absurd ha q⟩, fun q => by omega⟩
          · refine ⟨fun q => by omega, fun _ => ⟨N, Z, w1, w2, ?_⟩⟩
            rcases w6 with ⟨w6, w7⟩ | ⟨w6, host, w7⟩
            · exact Or.inr (Or.inr (Or.inr (Or.inl ⟨w6, idx, hd, w7, w3, w4, w5⟩)))
            · exact Or.inr (Or.inr (Or.inr (Or.inr ⟨w6, idx, host, hd, w7, w3, w4, w5⟩)))
        · rename_i idx dim hi
          rw [hi] at hd hli
          obtain ⟨hdim, w1, w2⟩ := hli
          subst hdim
          have hd := hd (by simp [eLen])
          split at h
          · cases h
          · rename_i st' h' cs' sl' hmul
            intro M' Y' hM' hY' p e R s m args below meth c hcx D A H0 σ ad0 hs hA hFs Q K H locs ws tys ls lv stk hc
            have e0 := Option.some.inj (hM.symm.trans hM')
            subst e0
            have e1 := Option.some.inj (hY.symm.trans hY')
            subst e1
            obtain ⟨hx, hb, hown, hts, hml, hin, hXt, hR1, hR2, hRc, hRs⟩ := id hcx
            exact eMul_ok hx hb hown hts hXt.2 hRc hRs hs hA hd w1 w2 hmul (eNext ih h M Y hM hY p e R s m args below meth c hcx D A H0 σ ad0 hs hA hFs Q K) H locs ws tys ls lv stk hc
        · split at h
          · cases h
          · rename_i outs hst
            intro M' Y' hM' hY' p e R s m args below meth c hcx D A H0 σ ad0 hs hA hFs Q K H locs ws tys ls lv stk hc
            have e0 := Option.some.inj (hM.symm.trans hM')
            subst e0
            have e1 := Option.some.inj (hY.symm.trans hY')
            subst e1
            obtain ⟨hx, hb, hown, hts, hml, hin, hXt, hR1, hR2, hRc, hRs⟩ := id hcx
            refine eStep_ok hx hb hown hts hcl hin hRc hRs hs hA hd hd0 hlk hst ?_ H locs ws tys ls lv stk hc
            intro S' hS'
            obtain ⟨zs, hz1, hz2⟩ := eColl_ok h S' hS'
            exact eGl_mono (eNext ih hz1) hz2 M Y hM hY p e R s m args below meth c hcx D A H0 σ ad0 hs hA hFs Q K
end EMN
end
section
/-! THE ENGINE, 12: what is known may be loosened; symbols may be renamed; loops. -/
def eFnd (R : List (Nat × Nat × Int)) (a b : Nat) : Option Int := match R with
  | [] => none
  | q :: R => cond (Nat.beq q.1 a && Nat.beq q.2.1 b) (some q.2.2) (eFnd R a b)
theorem eFnd_ok : ∀ {R : List (Nat × Nat × Int)} {a b : Nat} {c : Int}, eFnd R a b = some c → (a, b, c) ∈ R
  | [], a, b, c, h => by cases h
  | q :: R, a, b, c, h => by
    unfold eFnd at h
    cases hq : (Nat.beq q.1 a && Nat.beq q.2.1 b) with
    | true =>
      rw [hq] at h
      rw [Bool.and_eq_true] at hq
      cases h
      rw [← Nat.eq_of_beq_eq_true hq.1, ← Nat.eq_of_beq_eq_true hq.2]
      exact List.mem_cons_self
    | false =>
      rw [hq] at h
      exact List.mem_cons_of_mem _ (eFnd_ok (R := R) h)
def eLeI (sr : List (Int × Int)) (R : List (Nat × Nat × Int)) (p q : eI) : Bool := (match eFnd R p.1 q.1 with
  | some c => eLe q.2.1 (p.2.1 + c) && eLe (p.2.2 + c) q.2.2
  | none => false) || (Nat.beq q.1 0 && eLe q.2.1 (eRg sr p).1 && eLe (eRg sr p).2 q.2.2)
def eLeG (a b : Option Int64) : Bool := match b with
  | none => true
  | some y => match a with
    | some x => decide (x = y)
    | none => false
theorem eLeG_ok {a b : Option Int64} {x : Int64} (h : eLeG a b = true) (ha : ∀ y, a = some y → x = y) : ∀ y, b = some y → x = y := by
  intro y hy
  subst hy
  cases a with
  | none => cases h
  | some z => exact (ha z rfl).trans (of_decide_eq_true (show decide (z = y) = true from h))
def eLeV (sr : List (Int × Int)) (R : List (Nat × Nat × Int)) (v w : eV) : Bool := match v, w with
  | .inl p, .inl q => eLeI sr R p q
  | .inr (.inl none), .inr (.inl none) => true
  | .inr (.inl (some a)), .inr (.inl (some b)) => Nat.beq a b
  | .inr (.inr a), .inr (.inr b) => eLeG a b
  | _, _ => false
def eLeL (sr : List (Int × Int)) (R : List (Nat × Nat × Int)) (vs ws : List eV) : Bool := match vs, ws with
  | [], [] => true
  | v :: vs, w :: ws => eLeV sr R v w && eLeL sr R vs ws
  | _, _ => false
def eLeC (sr : List (Int × Int)) (R : List (Nat × Nat × Int)) (c d : eC) : Bool := match c, d with
  | .inl o, .inl o' => Nat.beq o.1 o'.1 && eLeL sr R o.2 o'.2
  | .inr (t, n, .inl es), .inr (t', n', .inl es') => Nat.beq t t' && Nat.beq n n' && eLeL sr R es es'
  | .inr (t, n, .inr q), .inr (t', n', .inr q') => Nat.beq t t' && Nat.beq n n' && eLe q'.1 q.1 && eLe q.2 q'.2
  | _, _ => false
def eLeH (sr : List (Int × Int)) (R : List (Nat × Nat × Int)) (g h : eH) : Bool := match g, h with
  | [], [] => true
  | c :: g, d :: h => eLeC sr R c d && eLeH sr R g h
  | _, _ => false
def eLeO (sr : List (Int × Int)) (R : List (Nat × Nat × Int)) (l l' : eL) : Bool := match l' with
  | [] => true
  | q :: l' => (match eGet l q.1 with
    | some v => eLeV sr R v q.2
    | none => false) && eLeO sr R l l'
def eLeS (sr : List (Int × Int)) (R : List (Nat × Nat × Int)) (S T : eS) : Bool := Nat.beq S.1 T.1 && eLeO sr R S.2.1 T.2.1 && eLeL sr R S.2.2.1 T.2.2.1 && eLeH sr R S.2.2.2.1 T.2.2.2.1 && Nat.beq S.2.2.2.2.1 T.2.2.2.2.1 && Nat.beq S.2.2.2.2.2 T.2.2.2.2.2
section ELE
variable {sr : List (Int × Int)} {R : List (Nat × Nat × Int)} {σ τ : Nat → Int} {ad : List Nat} {tys : List (ClassId × FieldType)}
theorem eLeI_ok (hs : eSg sr σ) (h0 : τ 0 = 0) (hR : ∀ q ∈ R, σ q.1 = τ q.2.1 + q.2.2) {p q : eI} {x : Int32} (h : eLeI sr R p q = true) (hx : eIn σ p x) : eIn τ q x := by
  unfold eLeI at h
  rw [Bool.or_eq_true] at h
  rcases h with h | h
  · split at h
    · rename_i c hc
      have hm := hR _ (eFnd_ok hc)
      have hm : σ p.1 = τ q.1 + c := hm
      rw [Bool.and_eq_true] at h
      have h1 := eLe_ok h.1
      have h2 := eLe_ok h.2
      obtain ⟨hx1, hx2⟩ := hx
      exact ⟨by omega, by omega⟩
    · cases h
  · simp only [Bool.and_eq_true] at h
    obtain ⟨⟨h1, h2⟩, h3⟩ := h
    have h1 := Nat.eq_of_beq_eq_true h1
    have h2 := eLe_ok h2
    have h3 := eLe_ok h3
    have hr := eRg_ok hs hx
    exact ⟨by rw [h1, h0]; omega, by rw [h1, h0]; omega⟩
theorem eLeV_ok (hs : eSg sr σ) (h0 : τ 0 = 0) (hR : ∀ q ∈ R, σ q.1 = τ q.2.1 + q.2.2) {v w : eV} {x : Value} (h : eLeV sr R v w = true) (hx : eOk ad σ v x) : eOk ad τ w x := by
  match v, w, h, hx with
  | .inl p, .inl q, h, ⟨x, hx, hq⟩ => exact ⟨x, hx, eLeI_ok hs h0 hR h hq⟩
  | .inr (.inl none), .inr (.inl none), h, hx => exact hx
  | .inr (.inl (some a)), .inr (.inl (some b)), h, hx =>
    have e := Nat.eq_of_beq_eq_true (show Nat.beq a b = true from h)
    subst e
    exact hx
  | .inr (.inr a), .inr (.inr b), h, ⟨x, hx, hy⟩ => exact ⟨x, hx, eLeG_ok (show eLeG a b = true from h) hy⟩
theorem eLeL_ok (hs : eSg sr σ) (h0 : τ 0 = 0) (hR : ∀ q ∈ R, σ q.1 = τ q.2.1 + q.2.2) : ∀ {vs ws : List eV} {xs : List Value}, eLeL sr R vs ws = true → eAll (eOk ad σ) vs xs → eAll (eOk ad τ) ws xs
  | [], [], xs, _, hx => by rw [eAll_nil hx]; trivial
  | v :: vs, w :: ws, xs, h, hx => by
    obtain ⟨x, xs, rfl, h1, h2⟩ := eAll_cons hx
    unfold eLeL at h
    rw [Bool.and_eq_true] at h
    exact ⟨eLeV_ok hs h0 hR h.1 h1, eLeL_ok hs h0 hR h.2 h2⟩
  | [], _ :: _, _, h, _ => by cases h
  | _ :: _, [], _, h, _ => by cases h
theorem eLeL_get (hs : eSg sr σ) (h0 : τ 0 = 0) (hR : ∀ q ∈ R, σ q.1 = τ q.2.1 + q.2.2) : ∀ {vs ws : List eV}, eLeL sr R vs ws = true → ∀ {j : Nat} {v : eV} {x : Value}, vs[j]? = some v → eOk ad σ v x → ∃ w, ws[j]? = some w ∧ eOk ad τ w x
  | [], [], _, j, v, x, hj, _ => by simp at hj
  | v :: vs, w :: ws, h, j, v', x, hj, hx => by
    unfold eLeL at h
    rw [Bool.and_eq_true] at h
    cases j with
    | zero =>
      simp at hj
      subst hj
      exact ⟨w, by simp, eLeV_ok hs h0 hR h.1 hx⟩
    | succ j =>
      obtain ⟨w', g1, g2⟩ := eLeL_get hs h0 hR h.2 (j := j) (by simpa using hj) hx
      exact ⟨w', by simpa using g1, g2⟩
  | [], _ :: _, h, _, _, _, _, _ => by cases h
  | _ :: _, [], h, _, _, _, _, _ => by cases h
theorem eLeC_ok (hs : eSg sr σ) (h0 : τ 0 = 0) (hR : ∀ q ∈ R, σ q.1 = τ q.2.1 + q.2.2) {c d : eC} {q : Nat × va_E} (h : eLeC sr R c d = true) (hc : eCk ad σ tys c q) : eCk ad τ tys d q := by
  match c, d, h, hc with
  | .inl o, .inl o', h, ⟨vs, h1, h2⟩ =>
    unfold eLeC at h
    rw [Bool.and_eq_true] at h
    have e := Nat.eq_of_beq_eq_true h.1
    exact ⟨vs, by rw [h1, e], eLeL_ok hs h0 hR h.2 h2⟩
  | .inr (t, n, .inl es), .inr (t', n', .inl es'), h, ⟨cA, t0, h1, h2, h3⟩ =>
    unfold eLeC at h
    simp only [Bool.and_eq_true] at h
    obtain ⟨⟨e1, e2⟩, h4⟩ := h
    have e1 := Nat.eq_of_beq_eq_true e1
    have e2 := Nat.eq_of_beq_eq_true e2
    subst e1
    subst e2
    refine ⟨cA, t0, h1, h2, ?_⟩
    have h3 : eAr ad σ t n (.inl es) cA q.2 := h3
    show eAr ad τ t n (.inl es') cA q.2
    unfold eAr at h3 ⊢
    split at h3
    · obtain ⟨f, g1, g2⟩ := h3
      exact ⟨f, g1, fun j hj => by obtain ⟨v, k1, k2⟩ := g2 j hj; exact eLeL_get hs h0 hR h4 k1 k2⟩
    · obtain ⟨f, g1, g2⟩ := h3
      exact ⟨f, g1, fun j hj => by obtain ⟨v, k1, k2⟩ := g2 j hj; exact eLeL_get hs h0 hR h4 k1 k2⟩
    · obtain ⟨f, g1, g2⟩ := h3
      exact ⟨f, g1, fun j hj => by obtain ⟨v, k1, k2⟩ := g2 j hj; exact eLeL_get hs h0 hR h4 k1 k2⟩
  | .inr (t, n, .inr r), .inr (t', n', .inr r'), h, ⟨cA, t0, h1, h2, h3⟩ =>
    unfold eLeC at h
    simp only [Bool.and_eq_true] at h
    obtain ⟨⟨⟨e1, e2⟩, h4⟩, h5⟩ := h
    have e1 := Nat.eq_of_beq_eq_true e1
    have e2 := Nat.eq_of_beq_eq_true e2
    have h4 := eLe_ok h4
    have h5 := eLe_ok h5
    subst e1
    subst e2
    refine ⟨cA, t0, h1, h2, ?_⟩
    have h3 : eAr ad σ t n (.inr r) cA q.2 := h3
    show eAr ad τ t n (.inr r') cA q.2
    unfold eAr at h3 ⊢
    split at h3
    · obtain ⟨f, g1, g2⟩ := h3
      exact ⟨f, g1, trivial⟩
    · obtain ⟨f, g1, g2⟩ := h3
      exact ⟨f, g1, trivial⟩
    · obtain ⟨f, g1, g2⟩ := h3
      exact ⟨f, g1, fun j hj => by have := g2 j hj; exact ⟨by omega, by omega⟩⟩
theorem eLeH_ok (hs : eSg sr σ) (h0 : τ 0 = 0) (hR : ∀ q ∈ R, σ q.1 = τ q.2.1 + q.2.2) : ∀ {g h : eH} {ws : va_W}, eLeH sr R g h = true → eAll (eCk ad σ tys) g ws → eAll (eCk ad τ tys) h ws
  | [], [], ws, _, hx => by rw [eAll_nil hx]; trivial
  | v :: vs, w :: ws, xs, h, hx => by
    obtain ⟨x, xs, rfl, h1, h2⟩ := eAll_cons hx
    unfold eLeH at h
    rw [Bool.and_eq_true] at h
    exact ⟨eLeC_ok hs h0 hR h.1 h1, eLeH_ok hs h0 hR h.2 h2⟩
  | [], _ :: _, _, h, _ => by cases h
  | _ :: _, [], _, h, _ => by cases h
theorem eLeO_ok (hs : eSg sr σ) (h0 : τ 0 = 0) (hR : ∀ q ∈ R, σ q.1 = τ q.2.1 + q.2.2) {l : eL} {lv : List (Nat × Value)} (hl : eAll (eLo ad σ) l lv) : ∀ {l' : eL}, eLeO sr R l l' = true → ∃ lv', eAll (eLo ad τ) l' lv' ∧ ∀ q ∈ lv', q ∈ lv
  | [], _ => ⟨[], trivial, fun q hq => absurd hq List.not_mem_nil⟩
  | q :: l', h => by
    unfold eLeO at h
    rw [Bool.and_eq_true] at h
    obtain ⟨h1, h2⟩ := h
    obtain ⟨lv', g1, g2⟩ := eLeO_ok hs h0 hR hl h2
    split at h1
    · rename_i v hv
      obtain ⟨w, w1, w2⟩ := eGet_ok hl hv
      refine ⟨(q.1, w) :: lv', ⟨⟨rfl, eLeV_ok hs h0 hR h1 w2⟩, g1⟩, fun z hz => ?_⟩
      rcases List.mem_cons.mp hz with rfl | hz
      · exact w1
      · exact g2 z hz
    · cases h1
theorem eLeS_ok (hs : eSg sr σ) (h0 : τ 0 = 0) (hR : ∀ q ∈ R, σ q.1 = τ q.2.1 + q.2.2) {D : va_G} {cl : List vw_C} {A : Nat → Prop} {H0 : Heap} {s : State} {nL : Nat} {ad0 : List Nat} {S T : eS} (h : eLeS sr R S T = true) {H : Heap} {locs : List Loc} {ws : va_W} {ls : Array Slot} {lv : List (Nat × Value)} {stk : List Value} (hc : eCn D cl A H0 s σ nL ad0 S H locs ws tys ls lv stk) : S.1 = T.1 ∧ S.2.2.2.2.1 = T.2.2.2.2.1 ∧ S.2.2.2.2.2 = T.2.2.2.2.2 ∧ ∃ lv', eCn D cl A H0 s τ nL ad0 T H locs ws tys ls lv' stk := by
  unfold eLeS at h
  simp only [Bool.and_eq_true] at h
  obtain ⟨⟨⟨⟨⟨h1, h2⟩, h3⟩, h4⟩, h5⟩, h6⟩ := h
  obtain ⟨hK, hP, hD, hS, hpre, hh, hl, hlv, hsk⟩ := hc
  obtain ⟨lv', g1, g2⟩ := eLeO_ok hs h0 hR hlv h2
  exact ⟨Nat.eq_of_beq_eq_true h1, Nat.eq_of_beq_eq_true h5, Nat.eq_of_beq_eq_true h6, lv', hK, hP, hD, hS, hpre, eLeH_ok hs h0 hR h4 hh, ⟨hl.1, hl.2.1, fun q hq => hl.2.2 q (g2 q hq)⟩, g1, eLeL_ok hs h0 hR h3 hsk⟩
end ELE
section ELP
variable {Fz : (Nat → Prop) → State → Heap → Prop} {l0 : Launch} {cl : List vw_C} {Ts : List Cond} {nst : List (String × Nat × MethodName × String)} {sr : List (Int × Int)} {ms : List eM} {yt : List eY}
theorem eGl_trans {d y : Nat} {S : eS} {mid fins : List eS} (h : eGl Fz l0 cl Ts nst sr ms yt d y S mid) (h2 : ∀ T ∈ mid, eGl Fz l0 cl Ts nst sr ms yt d y T fins) : eGl Fz l0 cl Ts nst sr ms yt d y S fins := by
  intro M Y hM hY p e R s m args below meth c hcx D A H0 σ ad0 hs hA hFs Q K
  exact h M Y hM hY p e R s m args below meth c hcx D A H0 σ ad0 hs hA hFs Q (fun f hf => h2 f hf M Y hM hY p e R s m args below meth c hcx D A H0 σ ad0 hs hA hFs Q K)
/-- the old symbols stay -/
def eId (n : Nat) : List (Nat × Nat × Int) := (List.range n).map (fun j => (j, j, 0))
def eUp (σ : Nat → Int) (n : Nat) (v : Int) : Nat → Int := fun j => if j = n then v else σ j
theorem eUp_at (σ : Nat → Int) (n : Nat) (v : Int) : eUp σ n v n = v := if_pos rfl
theorem eUp_ne {σ : Nat → Int} {n j : Nat} {v : Int} (h : j ≠ n) : eUp σ n v j = σ j := if_neg h
theorem eSg_up {σ : Nat → Int} {v lo hi : Int} (hs : eSg sr σ) (hn : 0 < sr.length) (h1 : lo ≤ v) (h2 : v ≤ hi) : eSg (sr ++ [(lo, hi)]) (eUp σ sr.length v) := by
  refine ⟨by rw [eUp_ne (by omega)]; exact hs.1, fun j q hq => ?_⟩
  by_cases hj : j < sr.length
  · rw [List.getElem?_append_left hj] at hq
    rw [eUp_ne (by omega)]
    exact hs.2 j q hq
  · have hlt := (List.getElem?_eq_some_iff.mp hq).1
    rw [List.length_append] at hlt
    have e : j = sr.length := by simp at hlt; omega
    subst e
    rw [List.getElem?_append_right (Nat.le_refl _), Nat.sub_self] at hq
    cases hq
    rw [eUp_at]
    exact ⟨h1, h2⟩
theorem eId_ok {σ τ : Nat → Int} {n : Nat} (h : ∀ j, j < n → σ j = τ j) : ∀ q ∈ eId n, σ q.1 = τ q.2.1 + q.2.2 := by
  intro q hq
  obtain ⟨j, hj, rfl⟩ := List.mem_map.mp hq
  have := h j (List.mem_range.mp hj)
  show σ j = τ j + 0
  omega
/-- A LOOP that counts: at its head (S1) the new symbol; at 'cp' it is compared with a bound; Sb behind it, Sx at its end -/
theorem eFor {d y b cp xp : Nat} {k : Jvm.ClassFile.Cond} {st bd lo hi : Int} {S0 S1 Sx So : eS} {l : eL} {h : eH} {cs sl : Nat} {fins : List eS} (hn : 0 < sr.length) (hb : b < sr.length)
    (hT : eAll (eMok cl Ts nst ms yt) ms yt) (hent : ∀ M, ms[y]? = some M → ∃ off len a2 a3 a4, eAt M.1 cp = some (cp, .if_icmp k off, len, xp, a2, a3, a4))
    (hk : (k = .ge ∧ bd = lo) ∨ (k = .gt ∧ bd = lo + 1))
    (hin : eLeS sr ((0, sr.length, -st) :: eId sr.length) S0 S1 = true)
    (hhead : eGl Fz l0 cl Ts nst (sr ++ [(st, hi)]) ms yt d y S1 [(cp, l, [.inl (b, lo, lo), .inl (sr.length, 0, 0)], h, cs, sl)])
    (hbody : eGl Fz l0 cl Ts nst (sr ++ [(st, hi - 1)]) ms yt d y (cp + 3, l, [], h, cs, sl) fins) (hback : fins.all (fun f => eLeS (sr ++ [(st, hi - 1)]) ((sr.length, sr.length, -1) :: eId sr.length) f S1) = true)
    (hxs : Sx = (xp, l, [], h, cs, sl)) (hout : eLeS (sr ++ [(st, hi)]) ((sr.length, b, bd) :: eId sr.length) Sx So = true)
    (hbnd : ∀ σ, eSg sr σ → st ≤ σ b + bd ∧ σ b + bd ≤ hi) : eGl Fz l0 cl Ts nst sr ms yt d y S0 [So] := by
  intro M Y hM hY p e R s m args below meth c hcx D A H0 σ ad0 hs hA hFs Q K
  obtain ⟨hx, hbb, hown, hts, hml, hini, hXt, hR1, hR2, hRc, hRs⟩ := id hcx
  obtain ⟨Y', hY', hok⟩ := eAll_get hT hM
  have eY := Option.some.inj (hY'.symm.trans hY)
  subst eY
  obtain ⟨off, len, a2, a3, a4, hen⟩ := hent M hM
  obtain ⟨-, hmem⟩ := eAt_ok hen
  obtain ⟨hd, -, hlk, -⟩ := hok.1 _ hmem
  have hd : decode Y'.2.1 cp = .ok (.if_icmp k off, 3) := hd (by simp [eLen])
  have hlk : (cp : Int) + off = (xp : Int) := hlk
  obtain ⟨hB1, hB2⟩ := hbnd σ hs
  have idok : ∀ v w : Int, ∀ j, j < sr.length → eUp σ sr.length v j = eUp σ sr.length w j := fun v w j hj => by rw [eUp_ne (by omega), eUp_ne (by omega)]
  have idok0 : ∀ v : Int, ∀ j, j < sr.length → σ j = eUp σ sr.length v j := fun v j hj => by rw [eUp_ne (by omega)]
  have loop : ∀ (n : Nat) (v : Int), st ≤ v → v ≤ σ b + bd → (σ b + bd - v).toNat < n → ∀ (H : Heap) (locs : List Loc) (ws : va_W) (tys : List (ClassId × FieldType)) (ls : Array Slot) (lv : List (Nat × Value)) (stk : List Value), eCn D cl A H0 s (eUp σ sr.length v) M.2.1 ad0 S1 H locs ws tys ls lv stk → W p l0 e R s m args below meth c H locs S1.2.2.2.2.1 S1.2.2.2.2.2 Q (F0 m S1.1 ls stk) := by
    intro n
    induction n with
    | zero => intro v h1 h2 h3; omega
    | succ n ih =>
      intro v h1 h2 h3
      have hs1 : eSg (sr ++ [(st, hi)]) (eUp σ sr.length v) := eSg_up hs hn h1 (by omega)
      refine hhead M Y' hM hY p e R s m args below meth c hcx D A H0 (eUp σ sr.length v) ad0 hs1 hA hFs Q (fun f hf => ?_)
      rw [List.mem_singleton] at hf
      subst hf
      intro H locs ws tys ls lv stk hc
      obtain ⟨hK, hP, hD, hS, hpre, hh, hl, hlv, hsk⟩ := hc
      obtain ⟨w1, stk1, rfl, ⟨z, rfl, hz⟩, hsk1⟩ := eAll_cons hsk
      obtain ⟨w2, stk2, rfl, ⟨x, rfl, hxv⟩, hsk2⟩ := eAll_cons hsk1
      have e2 := eAll_nil hsk2
      subst e2
      have ez : z.toInt = σ b + lo := by
        obtain ⟨q1, q2⟩ := hz
        have e : eUp σ sr.length v b = σ b := eUp_ne (by omega)
        have q1 : eUp σ sr.length v b + lo ≤ z.toInt := q1
        have q2 : z.toInt ≤ eUp σ sr.length v b + lo := q2
        omega
      have ex : x.toInt = v := by
        obtain ⟨q1, q2⟩ := hxv
        have q1 : eUp σ sr.length v sr.length + 0 ≤ x.toInt := q1
        have q2 : x.toInt ≤ eUp σ sr.length v sr.length + 0 := q2
        rw [eUp_at] at q1 q2
        omega
      have yes : v = σ b + bd → W p l0 e R s m args below meth c H locs cs sl Q (F0 m xp ls []) := by
        intro hv
        have hfact : ∀ q ∈ ((sr.length, b, bd) :: eId sr.length : List (Nat × Nat × Int)), eUp σ sr.length v q.1 = σ q.2.1 + q.2.2 := by
          intro q hq
          rcases List.mem_cons.mp hq with rfl | hq
          · show eUp σ sr.length v sr.length = σ b + bd
            rw [eUp_at]
            exact hv
          · exact eId_ok (fun j hj => (idok0 v j hj).symm) q hq
        obtain ⟨g1, g2, g3, lv', g4⟩ := eLeS_ok (T := So) hs1 hs.1 hfact hout (hxs ▸ (⟨hK, hP, hD, hS, hpre, hh, hl, hlv, trivial⟩ : eCn D cl A H0 s (eUp σ sr.length v) M.2.1 ad0 (xp, l, [], h, cs, sl) H locs ws tys ls lv []))
        have := K So List.mem_cons_self H locs ws tys ls lv' [] g4
        rw [← g1, ← g2, ← g3, hxs] at this
        exact this
      have no : v < σ b + bd → W p l0 e R s m args below meth c H locs cs sl Q (F0 m (cp + 3) ls []) := by
        intro hv
        have hs2 : eSg (sr ++ [(st, hi - 1)]) (eUp σ sr.length v) := eSg_up hs hn h1 (by omega)
        refine hbody M Y' hM hY p e R s m args below meth c hcx D A H0 (eUp σ sr.length v) ad0 hs2 hA hFs Q (fun f hf => ?_) H locs ws tys ls lv [] ⟨hK, hP, hD, hS, hpre, hh, hl, hlv, trivial⟩
        intro H' locs' ws' tys' ls' lv' stk' hc'
        have hfact : ∀ q ∈ ((sr.length, sr.length, -1) :: eId sr.length : List (Nat × Nat × Int)), eUp σ sr.length v q.1 = eUp σ sr.length (v + 1) q.2.1 + q.2.2 := by
          intro q hq
          rcases List.mem_cons.mp hq with rfl | hq
          · show eUp σ sr.length v sr.length = eUp σ sr.length (v + 1) sr.length + -1
            rw [eUp_at, eUp_at]
            omega
          · exact eId_ok (idok v (v + 1)) q hq
        obtain ⟨g1, g2, g3, lv'', g4⟩ := eLeS_ok hs2 (by rw [eUp_ne (by omega)]; exact hs.1) hfact (List.all_eq_true.mp hback f hf) hc'
        rw [g1, g2, g3]
        exact ih (v + 1) (by omega) (by omega) (by omega) H' locs' ws' tys' ls' lv'' stk' g4
      rcases hk with ⟨rfl, hbd⟩ | ⟨rfl, hbd⟩
      · exact lv_icmp_ge hx hbb hd hlk (fun q => yes (by have := Int32.le_iff_toInt_le.mp q; omega)) (fun q => no (by have := Int32.lt_iff_toInt_lt.mp (Int32.not_le.mp q); omega))
      · exact lv_icmp_gt hx hbb hd hlk (fun q => yes (by have := Int32.lt_iff_toInt_lt.mp q; omega)) (fun q => no (by have := Int32.le_iff_toInt_le.mp (Int32.not_lt.mp q); omega))
  intro H locs ws tys ls lv stk hc
  have hfact : ∀ q ∈ ((0, sr.length, -st) :: eId sr.length : List (Nat × Nat × Int)), σ q.1 = eUp σ sr.length st q.2.1 + q.2.2 := by
    intro q hq
    rcases List.mem_cons.mp hq with rfl | hq
    · show σ 0 = eUp σ sr.length st sr.length + -st
      rw [eUp_at, hs.1]
      omega
    · exact eId_ok (idok0 st) q hq
  obtain ⟨g1, g2, g3, lv', g4⟩ := eLeS_ok hs (by rw [eUp_ne (by omega)]; exact hs.1) hfact hin hc
  rw [g1, g2, g3]
  exact loop _ st (Int.le_refl _) hB1 (Nat.lt_succ_self _) H locs ws tys ls lv' stk g4
end ELP
end
section
/-! THE CLEAR MACHINE, 1: values (an int; a long; null or a cell's place), cells (an object; a row of ints (kind 0), bytes (1), booleans (2); of longs; of rows), one step. All is known, nothing is made. -/
abbrev cV : Type := Int32 ⊕ (Int64 ⊕ Option Nat)
abbrev cC : Type := (Nat × List cV) ⊕ ((Nat × Nat × (Nat → Int32)) ⊕ ((Nat × (Nat → Int64)) ⊕ (Nat × (Nat → Option Nat))))
abbrev cH : Type := List cC
abbrev cL : Type := List (Nat × cV)
/-- where, locals, stack, cells -/
abbrev cS : Type := Nat × cL × List cV × cH
def cOk (ad : List Nat) (v : cV) (w : Value) : Prop := match v with
  | .inl x => w = .int x
  | .inr (.inl x) => w = .long x
  | .inr (.inr none) => w = .null
  | .inr (.inr (some k)) => ∃ a : Nat, ad[k]? = some a ∧ w = .ref a
def cCat (v : cV) : Nat := match v with
  | .inr (.inl _) => 2
  | _ => 1
theorem cOk_cat {ad : List Nat} {v : cV} {w : Value} (h : cOk ad v w) : w.category = cCat v := by
  match v, h with
  | .inl q, h => rw [show w = .int q from h]; rfl
  | .inr (.inl q), h => rw [show w = .long q from h]; rfl
  | .inr (.inr none), h => rw [show w = .null from h]; rfl
  | .inr (.inr (some k)), ⟨a, _, hw⟩ => rw [hw]; rfl
def cCk (ad : List Nat) (tys : List (ClassId × FieldType)) (c : cC) (q : Nat × va_E) : Prop := match c with
  | .inl o => ∃ vs : List Value, q.2 = .inr (o.1, vs) ∧ eAll (cOk ad) o.2 vs
  | .inr (.inl a) => ∃ (cA : ClassId) (t0 : Nat), tys[t0]? = some (cA, eTy a.1) ∧ a.1 < 3 ∧ a.2.1 < 2 ^ 31 ∧ q.2 = .inl (cA, a.2.1, .inl a.2.2)
  | .inr (.inr (.inl g)) => ∃ (cA : ClassId) (t0 : Nat), tys[t0]? = some (cA, .long) ∧ g.1 < 2 ^ 31 ∧ q.2 = .inl (cA, g.1, .inr (.inl g.2))
  | .inr (.inr (.inr w)) => ∃ (cA : ClassId) (t0 : Nat) (f : Nat → Option Nat), tys[t0]? = some (cA, .array .int) ∧ w.1 < 2 ^ 31 ∧ q.2 = .inl (cA, w.1, .inr (.inr (.inr (.inr f)))) ∧ ∀ j, j < w.1 → cOk ad (.inr (.inr (w.2 j))) (va_rf (f j))
def cLo (ad : List Nat) (q : Nat × cV) (w : Nat × Value) : Prop := q.1 = w.1 ∧ cOk ad q.2 w.2
def cGet (l : cL) (i : Nat) : Option cV := match l with
  | [] => none
  | q :: l => cond (Nat.beq q.1 i) (some q.2) (cGet l i)
theorem cGet_ok {ad : List Nat} : ∀ {l : cL} {lv : List (Nat × Value)} {i : Nat} {v : cV}, eAll (cLo ad) l lv → cGet l i = some v → ∃ w, (i, w) ∈ lv ∧ cOk ad v w
  | [], _, i, v, h, hg => by simp [cGet] at hg
  | q :: l, lv, i, v, h, hg => by
    obtain ⟨b, bs, rfl, h1, h2⟩ := eAll_cons h
    unfold cGet at hg
    cases hb : Nat.beq q.1 i with
    | true =>
      rw [hb] at hg
      have e := Nat.eq_of_beq_eq_true hb
      simp only [cond_true, Option.some.injEq] at hg
      subst hg
      refine ⟨b.2, ?_, h1.2⟩
      rw [← e, h1.1]
      exact List.mem_cons_self
    | false =>
      rw [hb] at hg
      obtain ⟨w, g1, g2⟩ := cGet_ok h2 hg
      exact ⟨w, List.mem_cons_of_mem _ g1, g2⟩
def cPut (l : cL) (i : Nat) (v : cV) : cL := (i, v) :: l.filter (fun q => !(q.1 == i) && !(q.1 + 1 == i && cCat q.2 == 2))
def cPut2 (l : cL) (i : Nat) (v : cV) : cL := (i, v) :: l.filter (fun q => !(q.1 == i) && (!(q.1 == i + 1) && !(q.1 + 1 == i && cCat q.2 == 2)))
theorem cPut_ok {ad : List Nat} {l : cL} {lv : List (Nat × Value)} (h : eAll (cLo ad) l lv) {i : Nat} {v : cV} {w : Value} (hv : cOk ad v w) : eAll (cLo ad) (cPut l i v) ((i, w) :: lv.filter (fun q => !(q.1 == i) && !(q.1 + 1 == i && q.2.category == 2))) :=
  ⟨⟨rfl, hv⟩, eAll_filter (fun a b hab => by rw [hab.1, cOk_cat hab.2]) h⟩
theorem cPut2_ok {ad : List Nat} {l : cL} {lv : List (Nat × Value)} (h : eAll (cLo ad) l lv) {i : Nat} {v : cV} {w : Value} (hv : cOk ad v w) : eAll (cLo ad) (cPut2 l i v) ((i, w) :: lv.filter (fun q => !(q.1 == i) && (!(q.1 == i + 1) && !(q.1 + 1 == i && q.2.category == 2)))) :=
  ⟨⟨rfl, hv⟩, eAll_filter (fun a b hab => by rw [hab.1, cOk_cat hab.2]) h⟩
def cHd (k : Jvm.ClassFile.Cond) (x y : Int32) : Bool := match k with
  | .eq => decide (x.toInt = y.toInt)
  | .ne => decide (x.toInt ≠ y.toInt)
  | .lt => decide (x.toInt < y.toInt)
  | .ge => decide (y.toInt ≤ x.toInt)
  | .gt => decide (y.toInt < x.toInt)
  | .le => decide (x.toInt ≤ y.toInt)
theorem cHd_ok {k : Jvm.ClassFile.Cond} {x y : Int32} : cHd k x y = true ↔ eHolds k x y := by
  cases k
  · show decide _ = true ↔ x = y
    rw [decide_eq_true_eq, Int32.toInt_inj]
  · show decide _ = true ↔ ¬ x = y
    rw [decide_eq_true_eq, ne_eq, Int32.toInt_inj]
  · show decide _ = true ↔ x < y
    rw [decide_eq_true_eq, Int32.lt_iff_toInt_lt]
  · show decide _ = true ↔ y ≤ x
    rw [decide_eq_true_eq, Int32.le_iff_toInt_le]
  · show decide _ = true ↔ y < x
    rw [decide_eq_true_eq, Int32.lt_iff_toInt_lt]
  · show decide _ = true ↔ x ≤ y
    rw [decide_eq_true_eq, Int32.le_iff_toInt_le]
def cIx (x : Int32) (n : Nat) : Bool := decide (0 ≤ x.toInt ∧ x.toInt < n)
theorem cIx_ok {x : Int32} {n : Nat} (h : cIx x n = true) : vp_in x n ∧ x.toNatClampNeg < n := by
  have h := of_decide_eq_true h
  have h4 : vp_in x n := vp_in_iff.mpr h
  exact ⟨h4, Nat.not_le.mp fun q => h4 (Or.inr q)⟩
def cB1 (x : Int32) : Bool := decide (x = 0 ∨ x = 1)
/-- two ints to one -/
def cBin (i : Instr) (x y : Int32) : Option Int32 := match i with
  | .iadd => some (x + y)
  | .isub => some (x - y)
  | .imul => some (x * y)
  | .iand => some (x &&& y)
  | .ior => some (x ||| y)
  | .ixor => some (x ^^^ y)
  | .ishl => some (x <<< (y &&& 31))
  | .ishr => some (x >>> (y &&& 31))
  | .iushr => some (x.toUInt32 >>> (y.toUInt32 &&& Int32.toUInt32 31)).toInt32
  | .irem => cond (decide (y = 0)) none (some (x - x / y * y))
  | .idiv => cond (decide (y = 0)) none (some (x / y))
  | _ => none
def cUn (i : Instr) (v : cV) : Option cV := match i, v with
  | .i2b, .inl x => some (.inl x.toInt8.toInt32)
  | .i2l, .inl x => some (.inr (.inl x.toInt64))
  | .l2i, .inr (.inl x) => some (.inl x.toInt32)
  | _, _ => none
def cLn (i : Instr) (x y : Int64) : Option cV := match i with
  | .ladd => some (.inr (.inl (x + y)))
  | .lmul => some (.inr (.inl (x * y)))
  | .lcmp => some (.inl (lg_cmp x y))
  | _ => none
def cStep (nL : Nat) (i : Instr) (a b d pc : Nat) (l : cL) (st : List cV) (h : cH) : Option cS := match i with
  | .iconst n => some (pc + 1, l, .inl (Int32.ofInt n) :: st, h)
  | .bipush n => some (pc + 2, l, .inl (Int8.ofInt n).toInt32 :: st, h)
  | .sipush n => some (pc + 3, l, .inl (Int16.ofInt n).toInt32 :: st, h)
  | .lconst n => some (pc + 1, l, .inr (.inl (Int64.ofNat (n : Nat))) :: st, h)
  | .ldc _ => some (pc + 2, l, .inl (Int32.ofNat a) :: st, h)
  | .ldc_w _ => some (pc + 3, l, .inl (Int32.ofNat a) :: st, h)
  | .ldc2_w _ => some (pc + 3, l, .inr (.inl (Int64.ofNat a)) :: st, h)
  | .iload_n k => match cGet l k with
    | some (.inl q) => some (pc + 1, l, .inl q :: st, h)
    | _ => none
  | .iload k => match cGet l k with
    | some (.inl q) => some (pc + 2, l, .inl q :: st, h)
    | _ => none
  | .lload_n k => match cGet l k with
    | some (.inr (.inl q)) => some (pc + 1, l, .inr (.inl q) :: st, h)
    | _ => none
  | .lload k => match cGet l k with
    | some (.inr (.inl q)) => some (pc + 2, l, .inr (.inl q) :: st, h)
    | _ => none
  | .aload_n k => match cGet l k with
    | some (.inr (.inr (some v))) => some (pc + 1, l, .inr (.inr (some v)) :: st, h)
    | _ => none
  | .aload k => match cGet l k with
    | some (.inr (.inr (some v))) => some (pc + 2, l, .inr (.inr (some v)) :: st, h)
    | _ => none
  | .istore_n k => match st with
    | .inl q :: r => cond (Nat.blt k nL) (some (pc + 1, cPut l k (.inl q), r, h)) none
    | _ => none
  | .istore k => match st with
    | .inl q :: r => cond (Nat.blt k nL) (some (pc + 2, cPut l k (.inl q), r, h)) none
    | _ => none
  | .lstore_n k => match st with
    | .inr (.inl q) :: r => cond (Nat.blt (k + 1) nL) (some (pc + 1, cPut2 l k (.inr (.inl q)), r, h)) none
    | _ => none
  | .lstore k => match st with
    | .inr (.inl q) :: r => cond (Nat.blt (k + 1) nL) (some (pc + 2, cPut2 l k (.inr (.inl q)), r, h)) none
    | _ => none
  | .astore_n k => match st with
    | .inr (.inr (some v)) :: r => cond (Nat.blt k nL) (some (pc + 1, cPut l k (.inr (.inr (some v))), r, h)) none
    | _ => none
  | .astore k => match st with
    | .inr (.inr (some v)) :: r => cond (Nat.blt k nL) (some (pc + 2, cPut l k (.inr (.inr (some v))), r, h)) none
    | _ => none
  | .iinc k n => match cGet l k with
    | some (.inl q) => cond (Nat.blt k nL) (some (pc + 3, cPut l k (.inl (q + Int32.ofInt n)), st, h)) none
    | _ => none
  | .dup => match st with
    | v :: r => cond (Nat.beq (cCat v) 1) (some (pc + 1, l, v :: v :: r, h)) none
    | _ => none
  | .dup2 => match st with
    | v :: w :: r => cond (Nat.beq (cCat v) 1 && Nat.beq (cCat w) 1) (some (pc + 1, l, v :: w :: v :: w :: r, h)) none
    | _ => none
  | .pop => match st with
    | v :: r => cond (Nat.beq (cCat v) 1) (some (pc + 1, l, r, h)) none
    | _ => none
  | .getfield _ => match st with
    | .inr (.inr (some k)) :: r => match h[k]? with
      | some (.inl o) => cond (Nat.beq o.1 a) (match o.2[b]? with
        | some v => some (pc + 3, l, v :: r, h)
        | none => none) none
      | _ => none
    | _ => none
  | .putfield _ => match st with
    | v :: .inr (.inr (some k)) :: r => match h[k]? with
      | some (.inl o) => cond (Nat.beq o.1 a && Nat.blt b o.2.length && (match v with
        | .inl x => Nat.beq d 0 || (Nat.beq d 2 && cB1 x)
        | .inr (.inr (some _)) => Nat.beq d 5
        | _ => false)) (some (pc + 3, l, r, h.set k (.inl (o.1, o.2.set b v)))) none
      | _ => none
    | _ => none
  | .iaload => match st with
    | .inl x :: .inr (.inr (some k)) :: r => match h[k]? with
      | some (.inr (.inl q)) => cond (Nat.beq q.1 0 && cIx x q.2.1) (some (pc + 1, l, .inl (q.2.2 x.toNatClampNeg) :: r, h)) none
      | _ => none
    | _ => none
  | .baload => match st with
    | .inl x :: .inr (.inr (some k)) :: r => match h[k]? with
      | some (.inr (.inl q)) => cond ((Nat.beq q.1 1 || Nat.beq q.1 2) && cIx x q.2.1) (some (pc + 1, l, .inl (q.2.2 x.toNatClampNeg) :: r, h)) none
      | _ => none
    | _ => none
  | .laload => match st with
    | .inl x :: .inr (.inr (some k)) :: r => match h[k]? with
      | some (.inr (.inr (.inl q))) => cond (cIx x q.1) (some (pc + 1, l, .inr (.inl (q.2 x.toNatClampNeg)) :: r, h)) none
      | _ => none
    | _ => none
  | .aaload => match st with
    | .inl x :: .inr (.inr (some k)) :: r => match h[k]? with
      | some (.inr (.inr (.inr q))) => cond (cIx x q.1) (some (pc + 1, l, .inr (.inr (q.2 x.toNatClampNeg)) :: r, h)) none
      | _ => none
    | _ => none
  | .iastore => match st with
    | .inl z :: .inl x :: .inr (.inr (some k)) :: r => match h[k]? with
      | some (.inr (.inl q)) => cond (Nat.beq q.1 0 && cIx x q.2.1) (some (pc + 1, l, r, h.set k (.inr (.inl (q.1, q.2.1, upd q.2.2 x.toNatClampNeg z))))) none
      | _ => none
    | _ => none
  | .bastore => match st with
    | .inl z :: .inl x :: .inr (.inr (some k)) :: r => match h[k]? with
      | some (.inr (.inl q)) => cond (((Nat.beq q.1 1) || (Nat.beq q.1 2 && cB1 z)) && cIx x q.2.1) (some (pc + 1, l, r, h.set k (.inr (.inl (q.1, q.2.1, upd q.2.2 x.toNatClampNeg (cond (Nat.beq q.1 1) z.toInt8.toInt32 z)))))) none
      | _ => none
    | _ => none
  | .lastore => match st with
    | .inr (.inl z) :: .inl x :: .inr (.inr (some k)) :: r => match h[k]? with
      | some (.inr (.inr (.inl q))) => cond (cIx x q.1) (some (pc + 1, l, r, h.set k (.inr (.inr (.inl (q.1, vp_updL q.2 x.toNatClampNeg z)))))) none
      | _ => none
    | _ => none
  | .arraylength => match st with
    | .inr (.inr (some k)) :: r => match h[k]? with
      | some (.inr (.inl q)) => some (pc + 1, l, .inl (Int32.ofNat q.2.1) :: r, h)
      | some (.inr (.inr (.inl q))) => some (pc + 1, l, .inl (Int32.ofNat q.1) :: r, h)
      | some (.inr (.inr (.inr q))) => some (pc + 1, l, .inl (Int32.ofNat q.1) :: r, h)
      | _ => none
    | _ => none
  | .goto _ => some (a, l, st, h)
  | .ifCond k _ => match st with
    | .inl x :: r => some (cond (cHd k x 0) a (pc + 3), l, r, h)
    | _ => none
  | .if_icmp k _ => match st with
    | .inl y :: .inl x :: r => some (cond (cHd k x y) a (pc + 3), l, r, h)
    | _ => none
  | .ifnull _ => match st with
    | .inr (.inr (some _)) :: r => some (pc + 3, l, r, h)
    | .inr (.inr none) :: r => some (a, l, r, h)
    | _ => none
  | .ifnonnull _ => match st with
    | .inr (.inr (some _)) :: r => some (a, l, r, h)
    | .inr (.inr none) :: r => some (pc + 3, l, r, h)
    | _ => none
  | .tableswitch dflt lo hi offs => match st with
    | .inl x :: r => cond (decide (lo ≤ x.toInt) && decide (x.toInt ≤ hi)) (match offs[(x.toInt - lo).toNat]? with
      | some off => cond (decide (0 ≤ (pc : Int) + off)) (some (((pc : Int) + off).toNat, l, r, h)) none
      | none => none) (cond (decide (0 ≤ (pc : Int) + dflt)) (some (((pc : Int) + dflt).toNat, l, r, h)) none)
    | _ => none
  | i => match st with
    | .inl y :: .inl x :: r => match cBin i x y with
      | some z => some (pc + 1, l, .inl z :: r, h)
      | none => match cUn i (.inl y) with
        | some z => some (pc + 1, l, z :: .inl x :: r, h)
        | none => none
    | .inr (.inl y) :: .inr (.inl x) :: r => match cLn i x y with
      | some z => some (pc + 1, l, z :: r, h)
      | none => match cUn i (.inr (.inl y)) with
        | some z => some (pc + 1, l, z :: .inr (.inl x) :: r, h)
        | none => none
    | v :: r => match cUn i v with
      | some z => some (pc + 1, l, z :: r, h)
      | none => none
    | _ => none
end
section
/-! THE CLEAR MACHINE, 2: one step is right. -/
def cCn (D : va_G) (cl : List vw_C) (A : Nat → Prop) (H0 : Heap) (s : State) (nL : Nat) (ad : List Nat) (S : cS) (H : Heap) (locs : List Loc) (ws : va_W) (tys : List (ClassId × FieldType)) (ls : Array Slot) (lv : List (Nat × Value)) (stk : List Value) : Prop :=
  va_K D cl tys s ∧ va_P D cl ws H ∧ va_D A ws ∧ va_S A H0 H locs ∧ ws.map Prod.fst = ad ∧ eAll (cCk ad tys) S.2.2.2 ws ∧ lv_has ls nL lv ∧ eAll (cLo ad) S.2.1 lv ∧ eAll (cOk ad) S.2.2.1 stk
section CSO
variable {p : Program} {l0 : Launch} {e : Env} {R : Room} {s : State} {m : MethodId} {args : Array Value} {below : List Frame} {meth : Method} {c : Code} {Q : State → Prop}
variable {cc : ByteArray} {own : String} {Ts : List Cond} {cl : List vw_C} {dfs : List (List eV)} {init : Bool} {D : va_G} {A : Nat → Prop} {H0 : Heap} {ad : List Nat} {nL : Nat}
theorem cGet_at {l : cL} {lv : List (Nat × Value)} {ls : Array Slot} {i : Nat} {v : cV} (hl : lv_has ls nL lv) (h : eAll (cLo ad) l lv) (hg : cGet l i = some v) : ∃ w, ls[i]? = some (.val w) ∧ cOk ad v w ∧ ∃ k : Nat, lv[k]? = some (i, w) := by
  obtain ⟨w, h1, h2⟩ := cGet_ok h hg
  exact ⟨w, hl.2.2 _ h1, h2, List.getElem?_of_mem h1⟩
theorem cCn_set {k q pc : Nat} {e0 e1 : va_E} {H1 : Heap} {locs1 : List Loc} {ws : va_W} {tys : List (ClassId × FieldType)} {ls : Array Slot} {lv : List (Nat × Value)} {stk : List Value} {l : cL} {st : List cV} {h' : cH} (hK : va_K D cl tys s) (he : ws[k]? = some (q, e0)) (hP : va_P D cl (ws.set k (q, e1)) H1) (hD : va_D A (ws.set k (q, e1))) (hS : va_S A H0 H1 locs1) (hpre : ws.map Prod.fst = ad) (hh : eAll (cCk ad tys) h' (ws.set k (q, e1))) (hl : lv_has ls nL lv) (hlv : eAll (cLo ad) l lv) (hsk : eAll (cOk ad) st stk) : cCn D cl A H0 s nL ad (pc, l, st, h') H1 locs1 (ws.set k (q, e1)) tys ls lv stk := by
  have e := eAd_set (e1 := e1) he
  exact ⟨hK, hP, hD, hS, by rw [e]; exact hpre, hh, hl, hlv, hsk⟩
theorem cAd {k q a : Nat} {e0 : va_E} {ws : va_W} (hpre : ws.map Prod.fst = ad) (hk : ws[k]? = some (q, e0)) (ha : ad[k]? = some a) : a = q := by
  rw [← hpre] at ha
  exact eAd_at hk ha
theorem cB1_ok {x : Int32} (h : cB1 x = true) : x = 0 ∨ x = 1 := of_decide_eq_true h
set_option maxHeartbeats 4000000 in
theorem cStep_ok (hx : p.tables.exec = Jvm.exec) (hb : c.code = cc) (hown : s.vm.findClass own = some m.cls) (hts : ∀ w ∈ Ts, w.before args s = true) (hcl : eKl cl Ts dfs) (hin : init = true → meth.name = "<init>")
    {i : Instr} {pc a b d cs sl : Nat} {l : cL} {st : List cV} {h : cH} {S' : cS} (hd : eLen i ≠ 0 → decode cc pc = .ok (i, eLen i)) (hd0 : ∃ len, decode cc pc = .ok (i, len)) (hlk : eLk cl Ts own init i pc a b d)
    (hst : cStep nL i a b d pc l st h = some S')
    (K : ∀ (H : Heap) (locs : List Loc) (ws : va_W) (tys : List (ClassId × FieldType)) (ls : Array Slot) (lv : List (Nat × Value)) (stk : List Value), cCn D cl A H0 s nL ad S' H locs ws tys ls lv stk → W p l0 e R s m args below meth c H locs cs sl Q (F0 m S'.1 ls stk)) :
    ∀ (H : Heap) (locs : List Loc) (ws : va_W) (tys : List (ClassId × FieldType)) (ls : Array Slot) (lv : List (Nat × Value)) (stk : List Value), cCn D cl A H0 s nL ad (pc, l, st, h) H locs ws tys ls lv stk → W p l0 e R s m args below meth c H locs cs sl Q (F0 m pc ls stk) := by
  intro H locs ws tys ls lv stk hc
  obtain ⟨hK, hP, hD, hS, hpre, hh, hl, hlv, hsk⟩ := hc
  unfold cStep at hst
  split at hst
  · cases hst
    exact lv_iconst hx hb (hd (by simp [eLen])) rfl (K _ _ _ _ _ _ _ ⟨hK, hP, hD, hS, hpre, hh, hl, hlv, rfl, hsk⟩)
  · cases hst
    exact lv_bipush hx hb (hd (by simp [eLen])) rfl (K _ _ _ _ _ _ _ ⟨hK, hP, hD, hS, hpre, hh, hl, hlv, rfl, hsk⟩)
  · cases hst
    exact lv_sipush hx hb (hd (by simp [eLen])) rfl (K _ _ _ _ _ _ _ ⟨hK, hP, hD, hS, hpre, hh, hl, hlv, rfl, hsk⟩)
  · cases hst
    exact lv_lconst hx hb (hd (by simp [eLen])) rfl (K _ _ _ _ _ _ _ ⟨hK, hP, hD, hS, hpre, hh, hl, hlv, rfl, hsk⟩)
  · cases hst
    exact lv_ldc hx hb hown (hts _ hlk) (hd (by simp [eLen])) (K _ _ _ _ _ _ _ ⟨hK, hP, hD, hS, hpre, hh, hl, hlv, rfl, hsk⟩)
  · cases hst
    exact lv_ldcw hx hb hown (hts _ hlk) (hd (by simp [eLen])) (K _ _ _ _ _ _ _ ⟨hK, hP, hD, hS, hpre, hh, hl, hlv, rfl, hsk⟩)
  · cases hst
    exact lv_ldc2 hx hb hown (hts _ hlk) (hd (by simp [eLen])) (K _ _ _ _ _ _ _ ⟨hK, hP, hD, hS, hpre, hh, hl, hlv, rfl, hsk⟩)
  · split at hst
    · rename_i q hg
      obtain ⟨w, h1, h2, -⟩ := cGet_at hl hlv hg
      cases h2
      cases hst
      exact lv_iload_n hx hb (hd (by simp [eLen])) rfl h1 (K _ _ _ _ _ _ _ ⟨hK, hP, hD, hS, hpre, hh, hl, hlv, rfl, hsk⟩)
    · cases hst
  · split at hst
    · rename_i q hg
      obtain ⟨w, h1, h2, -⟩ := cGet_at hl hlv hg
      cases h2
      cases hst
      exact lv_iload hx hb (hd (by simp [eLen])) h1 (K _ _ _ _ _ _ _ ⟨hK, hP, hD, hS, hpre, hh, hl, hlv, rfl, hsk⟩)
    · cases hst
  · split at hst
    · rename_i q hg
      obtain ⟨w, h1, h2, -⟩ := cGet_at hl hlv hg
      cases h2
      cases hst
      exact lv_lload_n hx hb (hd (by simp [eLen])) rfl h1 (K _ _ _ _ _ _ _ ⟨hK, hP, hD, hS, hpre, hh, hl, hlv, rfl, hsk⟩)
    · cases hst
  · split at hst
    · rename_i q hg
      obtain ⟨w, h1, h2, -⟩ := cGet_at hl hlv hg
      cases h2
      cases hst
      exact lv_lload hx hb (hd (by simp [eLen])) h1 (K _ _ _ _ _ _ _ ⟨hK, hP, hD, hS, hpre, hh, hl, hlv, rfl, hsk⟩)
    · cases hst
  · split at hst
    · rename_i q hg
      obtain ⟨w, h1, h2, -⟩ := cGet_at hl hlv hg
      obtain ⟨x, hxa, rfl⟩ := h2
      cases hst
      exact lv_aload_n hx hb (hd (by simp [eLen])) rfl h1 (K _ _ _ _ _ _ _ ⟨hK, hP, hD, hS, hpre, hh, hl, hlv, ⟨_, hxa, rfl⟩, hsk⟩)
    · cases hst
  · split at hst
    · rename_i q hg
      obtain ⟨w, h1, h2, -⟩ := cGet_at hl hlv hg
      obtain ⟨x, hxa, rfl⟩ := h2
      cases hst
      exact lv_aload hx hb (hd (by simp [eLen])) h1 (K _ _ _ _ _ _ _ ⟨hK, hP, hD, hS, hpre, hh, hl, hlv, ⟨_, hxa, rfl⟩, hsk⟩)
    · cases hst
  · split at hst
    · obtain ⟨hn, hg⟩ := eCond hst
      cases hg
      obtain ⟨w, stk, rfl, hw, hsk1⟩ := eAll_cons hsk
      cases hw
      exact lv_istore_n hx hb (hd (by simp [eLen])) rfl hl (Nat.le_of_ble_eq_true hn) rfl (fun ls hl => K _ _ _ _ _ _ _ ⟨hK, hP, hD, hS, hpre, hh, hl, cPut_ok hlv rfl, hsk1⟩)
    · cases hst
  · split at hst
    · obtain ⟨hn, hg⟩ := eCond hst
      cases hg
      obtain ⟨w, stk, rfl, hw, hsk1⟩ := eAll_cons hsk
      cases hw
      exact lv_istore hx hb (hd (by simp [eLen])) hl (Nat.le_of_ble_eq_true hn) rfl (fun ls hl => K _ _ _ _ _ _ _ ⟨hK, hP, hD, hS, hpre, hh, hl, cPut_ok hlv rfl, hsk1⟩)
    · cases hst
  · split at hst
    · obtain ⟨hn, hg⟩ := eCond hst
      cases hg
      obtain ⟨w, stk, rfl, hw, hsk1⟩ := eAll_cons hsk
      cases hw
      exact lv_lstore_n hx hb (hd (by simp [eLen])) rfl hl (Nat.le_of_ble_eq_true hn) rfl (fun ls hl => K _ _ _ _ _ _ _ ⟨hK, hP, hD, hS, hpre, hh, hl, cPut2_ok hlv rfl, hsk1⟩)
    · cases hst
  · split at hst
    · obtain ⟨hn, hg⟩ := eCond hst
      cases hg
      obtain ⟨w, stk, rfl, hw, hsk1⟩ := eAll_cons hsk
      cases hw
      exact lv_lstore hx hb (hd (by simp [eLen])) hl (Nat.le_of_ble_eq_true hn) rfl (fun ls hl => K _ _ _ _ _ _ _ ⟨hK, hP, hD, hS, hpre, hh, hl, cPut2_ok hlv rfl, hsk1⟩)
    · cases hst
  · split at hst
    · obtain ⟨hn, hg⟩ := eCond hst
      cases hg
      obtain ⟨w, stk, rfl, ⟨x, hxa, rfl⟩, hsk1⟩ := eAll_cons hsk
      exact lv_astore_n hx hb (hd (by simp [eLen])) rfl hl (Nat.le_of_ble_eq_true hn) rfl (fun ls hl => K _ _ _ _ _ _ _ ⟨hK, hP, hD, hS, hpre, hh, hl, cPut_ok hlv ⟨x, hxa, rfl⟩, hsk1⟩)
    · cases hst
  · split at hst
    · obtain ⟨hn, hg⟩ := eCond hst
      cases hg
      obtain ⟨w, stk, rfl, ⟨x, hxa, rfl⟩, hsk1⟩ := eAll_cons hsk
      exact lv_astore hx hb (hd (by simp [eLen])) hl (Nat.le_of_ble_eq_true hn) rfl (fun ls hl => K _ _ _ _ _ _ _ ⟨hK, hP, hD, hS, hpre, hh, hl, cPut_ok hlv ⟨x, hxa, rfl⟩, hsk1⟩)
    · cases hst
  · split at hst
    · rename_i q hg
      obtain ⟨hn, hg2⟩ := eCond hst
      cases hg2
      obtain ⟨w, -, hw, kk, hkk⟩ := cGet_at hl hlv hg
      cases hw
      exact lv_iinc hx hb (hd (by simp [eLen])) hl hkk rfl (Nat.le_of_ble_eq_true hn) rfl (fun ls hl => K _ _ _ _ _ _ _ ⟨hK, hP, hD, hS, hpre, hh, hl, cPut_ok hlv rfl, hsk⟩)
    · cases hst
  · split at hst
    · obtain ⟨hn, hg⟩ := eCond hst
      cases hg
      have hn := Nat.eq_of_beq_eq_true hn
      obtain ⟨w, stk, rfl, hw, hsk1⟩ := eAll_cons hsk
      exact lv_dup hx hb (hd (by simp [eLen])) (by rw [cOk_cat hw, hn]) (K _ _ _ _ _ _ _ ⟨hK, hP, hD, hS, hpre, hh, hl, hlv, hw, hw, hsk1⟩)
    · cases hst
  · split at hst
    · obtain ⟨hn, hg⟩ := eCond hst
      cases hg
      rw [Bool.and_eq_true] at hn
      have hn1 := Nat.eq_of_beq_eq_true hn.1
      have hn2 := Nat.eq_of_beq_eq_true hn.2
      obtain ⟨w, stk, rfl, hw, hsk1⟩ := eAll_cons hsk
      obtain ⟨w2, stk, rfl, hw2, hsk2⟩ := eAll_cons hsk1
      exact lv_dup2_11 hx hb (hd (by simp [eLen])) (by rw [cOk_cat hw, hn1]) (by rw [cOk_cat hw2, hn2]) (K _ _ _ _ _ _ _ ⟨hK, hP, hD, hS, hpre, hh, hl, hlv, hw, hw2, hw, hw2, hsk2⟩)
    · cases hst
  · split at hst
    · obtain ⟨hn, hg⟩ := eCond hst
      cases hg
      have hn := Nat.eq_of_beq_eq_true hn
      obtain ⟨w, stk, rfl, hw, hsk1⟩ := eAll_cons hsk
      exact lv_pop hx hb (hd (by simp [eLen])) (by rw [cOk_cat hw, hn]) (K _ _ _ _ _ _ _ ⟨hK, hP, hD, hS, hpre, hh, hl, hlv, hsk1⟩)
    · cases hst
  · split at hst
    · split at hst
      · rename_i o ho
        obtain ⟨hn, hg⟩ := eCond hst
        clear hst
        split at hg
        · rename_i v hv
          cases hg
          have hn := Nat.eq_of_beq_eq_true hn
          obtain ⟨w, stk, rfl, ⟨x, hxa, rfl⟩, hsk1⟩ := eAll_cons hsk
          obtain ⟨⟨q, e9⟩, he, vs, hf, hvs⟩ := eAll_get hh ho
          have hf : e9 = .inr (o.1, vs) := hf
          subst hf
          rw [hn] at he
          obtain ⟨w, hw1, hw2⟩ := eAll_get hvs hv
          have e1 := cAd hpre he hxa
          subst e1
          obtain ⟨C, T, N, hc, hbN, hlink⟩ := hlk
          exact va_get hx hb hts (hcl _ C T N hc).1 hown hK hP _ he hc _ hbN (hts _ hlink) (fun _ z => z) hw1 (hd (by simp [eLen])) (K _ _ _ _ _ _ _ ⟨hK, hP, hD, hS, hpre, hh, hl, hlv, hw2, hsk1⟩)
        · cases hg
      · cases hst
    · cases hst
  · obtain ⟨C, T, N, hc, hbN, hlink, hfin, t0, t2, t5⟩ := hlk
    split at hst
    · rename_i v k r
      split at hst
      · rename_i o ho
        obtain ⟨hn, hg⟩ := eCond hst
        cases hg
        simp only [Bool.and_eq_true] at hn
        obtain ⟨⟨hn1, hn2⟩, hn3⟩ := hn
        have hn1 := Nat.eq_of_beq_eq_true hn1
        have hn2 : b < o.2.length := Nat.le_of_ble_eq_true hn2
        obtain ⟨w, stk, rfl, hw, hsk1⟩ := eAll_cons hsk
        obtain ⟨w2, stk, rfl, ⟨y, hya, rfl⟩, hsk2⟩ := eAll_cons hsk1
        obtain ⟨⟨q, e9⟩, he, vs, hf, hvs⟩ := eAll_get hh ho
        have hf : e9 = .inr (o.1, vs) := hf
        subst hf
        have e1 := cAd hpre he hya
        subst e1
        rw [eAll_len hvs] at hn2
        have hh2 : eAll (cCk ad tys) (h.set k (.inl (o.1, o.2.set b v))) (ws.set k (y, .inr (o.1, vs.set b w))) := eAll_set hh k ⟨_, rfl, eAll_set hvs b hw⟩
        rw [hn1] at he hh2
        rw [hn1] at K
        have hk : ∃ ty, parseFieldDescriptor (T b).2.2.1 = some ty ∧ narrow ty w = w ∧ fits ty w = true := by
          match v, hw, hn3 with
          | .inl x, hw, hn3 =>
            cases hw
            rw [Bool.or_eq_true] at hn3
            rcases hn3 with hn3 | hn3
            · exact ⟨_, t0 (Nat.eq_of_beq_eq_true hn3), rfl, rfl⟩
            · rw [Bool.and_eq_true] at hn3
              refine ⟨_, t2 (Nat.eq_of_beq_eq_true hn3.1), ?_⟩
              rcases cB1_ok hn3.2 with rfl | rfl <;> exact ⟨by decide, by decide⟩
          | .inr (.inl x), hw, hn3 => cases hn3
          | .inr (.inr none), hw, hn3 => cases hn3
          | .inr (.inr (some z)), ⟨x, hxa, hw⟩, hn3 =>
            cases hw
            obtain ⟨ty, k1, k2⟩ := t5 (Nat.eq_of_beq_eq_true hn3)
            exact ⟨ty, k1, by rcases k2 with ⟨n, rfl⟩ | ⟨n, rfl⟩ <;> exact ⟨rfl, rfl⟩⟩
        obtain ⟨ty, k1, k2, k3⟩ := hk
        exact eStF hx hb hown hts hcl hin hK hP hD hS he hn2 hc hbN hlink hfin k1 k2 k3 (hd (by simp [eLen])) (fun H1 locs1 hP hD hS => K _ _ _ _ _ _ _ (cCn_set hK he hP hD hS hpre hh2 hl hlv hsk2))
      · cases hst
    · cases hst
  · split at hst
    · split at hst
      · rename_i q ho
        obtain ⟨hn, hg⟩ := eCond hst
        cases hg
        obtain ⟨w, stk, rfl, hw, hsk1⟩ := eAll_cons hsk
        cases hw
        obtain ⟨w, stk, rfl, ⟨y, hya, rfl⟩, hsk2⟩ := eAll_cons hsk1
        rw [Bool.and_eq_true] at hn
        have hk := Nat.eq_of_beq_eq_true hn.1
        obtain ⟨hxi, -⟩ := cIx_ok hn.2
        obtain ⟨⟨z, e9⟩, he, cA, t0, ht, -, -, hf⟩ := eAll_get hh ho
        have hf : e9 = .inl (cA, q.2.1, .inl q.2.2) := hf
        subst hf
        have e1 := cAd hpre he hya
        subst e1
        rw [hk] at ht
        exact va_iald hx hb hK hP _ t0 he ht hxi (hd (by simp [eLen])) (K _ _ _ _ _ _ _ ⟨hK, hP, hD, hS, hpre, hh, hl, hlv, rfl, hsk2⟩)
      · cases hst
    · cases hst
  · split at hst
    · split at hst
      · rename_i q ho
        obtain ⟨hn, hg⟩ := eCond hst
        cases hg
        obtain ⟨w, stk, rfl, hw, hsk1⟩ := eAll_cons hsk
        cases hw
        obtain ⟨w, stk, rfl, ⟨y, hya, rfl⟩, hsk2⟩ := eAll_cons hsk1
        rw [Bool.and_eq_true, Bool.or_eq_true] at hn
        obtain ⟨hxi, -⟩ := cIx_ok hn.2
        obtain ⟨⟨z, e9⟩, he, cA, t0, ht, -, -, hf⟩ := eAll_get hh ho
        have hf : e9 = .inl (cA, q.2.1, .inl q.2.2) := hf
        subst hf
        have e1 := cAd hpre he hya
        subst e1
        rcases hn.1 with hk | hk
        · have hk := Nat.eq_of_beq_eq_true hk
          rw [hk] at ht
          exact va_bald hx hb hK hP _ t0 he ht hxi (hd (by simp [eLen])) (K _ _ _ _ _ _ _ ⟨hK, hP, hD, hS, hpre, hh, hl, hlv, rfl, hsk2⟩)
        · have hk := Nat.eq_of_beq_eq_true hk
          rw [hk] at ht
          exact va_zald hx hb hK hP _ t0 he ht hxi (hd (by simp [eLen])) (K _ _ _ _ _ _ _ ⟨hK, hP, hD, hS, hpre, hh, hl, hlv, rfl, hsk2⟩)
      · cases hst
    · cases hst
  · split at hst
    · split at hst
      · rename_i q ho
        obtain ⟨hn, hg⟩ := eCond hst
        cases hg
        obtain ⟨w, stk, rfl, hw, hsk1⟩ := eAll_cons hsk
        cases hw
        obtain ⟨w, stk, rfl, ⟨y, hya, rfl⟩, hsk2⟩ := eAll_cons hsk1
        obtain ⟨hxi, -⟩ := cIx_ok hn
        obtain ⟨⟨z, e9⟩, he, cA, t0, ht, -, hf⟩ := eAll_get hh ho
        have hf : e9 = .inl (cA, q.1, .inr (.inl q.2)) := hf
        subst hf
        have e1 := cAd hpre he hya
        subst e1
        exact va_lald hx hb hK hP _ t0 he ht hxi (hd (by simp [eLen])) (K _ _ _ _ _ _ _ ⟨hK, hP, hD, hS, hpre, hh, hl, hlv, rfl, hsk2⟩)
      · cases hst
    · cases hst
  · split at hst
    · split at hst
      · rename_i q ho
        obtain ⟨hn, hg⟩ := eCond hst
        cases hg
        obtain ⟨w, stk, rfl, hw, hsk1⟩ := eAll_cons hsk
        cases hw
        obtain ⟨w, stk, rfl, ⟨y, hya, rfl⟩, hsk2⟩ := eAll_cons hsk1
        obtain ⟨hxi, hlt⟩ := cIx_ok hn
        obtain ⟨⟨z, e9⟩, he, cA, t0, f, ht, -, hf, hq⟩ := eAll_get hh ho
        have hf : e9 = .inl (cA, q.1, .inr (.inr (.inr (.inr f)))) := hf
        subst hf
        have e1 := cAd hpre he hya
        subst e1
        exact va_aldA hx hb hK hP _ t0 he ht hxi (hd (by simp [eLen])) (K _ _ _ _ _ _ _ ⟨hK, hP, hD, hS, hpre, hh, hl, hlv, hq _ hlt, hsk2⟩)
      · cases hst
    · cases hst
  · split at hst
    · split at hst
      · rename_i q ho
        obtain ⟨hn, hg⟩ := eCond hst
        cases hg
        obtain ⟨w, stk, rfl, hw, hsk1⟩ := eAll_cons hsk
        cases hw
        obtain ⟨w, stk, rfl, hw, hsk2⟩ := eAll_cons hsk1
        cases hw
        obtain ⟨w, stk, rfl, ⟨y, hya, rfl⟩, hsk3⟩ := eAll_cons hsk2
        rw [Bool.and_eq_true] at hn
        have hk := Nat.eq_of_beq_eq_true hn.1
        obtain ⟨hxi, -⟩ := cIx_ok hn.2
        obtain ⟨⟨z, e9⟩, he, cA, t0, ht, h3, h4, hf⟩ := eAll_get hh ho
        have hf : e9 = .inl (cA, q.2.1, .inl q.2.2) := hf
        subst hf
        have e1 := cAd hpre he hya
        subst e1
        have ht0 := ht
        rw [hk] at ht0
        exact va_iast hx hb hK hP hD hS _ t0 he ht0 hxi (hd (by simp [eLen])) (fun H1 locs1 hP hD hS => K _ _ _ _ _ _ _ (cCn_set hK he hP hD hS hpre (eAll_set hh _ ⟨cA, t0, ht, h3, h4, rfl⟩) hl hlv hsk3))
      · cases hst
    · cases hst
  · split at hst
    · split at hst
      · rename_i q ho
        obtain ⟨hn, hg⟩ := eCond hst
        cases hg
        obtain ⟨w, stk, rfl, hw, hsk1⟩ := eAll_cons hsk
        cases hw
        obtain ⟨w, stk, rfl, hw, hsk2⟩ := eAll_cons hsk1
        cases hw
        obtain ⟨w, stk, rfl, ⟨y, hya, rfl⟩, hsk3⟩ := eAll_cons hsk2
        rw [Bool.and_eq_true, Bool.or_eq_true] at hn
        obtain ⟨hxi, -⟩ := cIx_ok hn.2
        obtain ⟨⟨z, e9⟩, he, cA, t0, ht, h3, h4, hf⟩ := eAll_get hh ho
        have hf : e9 = .inl (cA, q.2.1, .inl q.2.2) := hf
        subst hf
        have e1 := cAd hpre he hya
        subst e1
        have ht0 := ht
        rcases hn.1 with hk | hk
        · have hk1 := Nat.eq_of_beq_eq_true hk
          rw [hk1] at ht0
          rw [hk] at K
          exact va_bast hx hb hK hP hD hS _ t0 he ht0 hxi (hd (by simp [eLen])) (fun H1 locs1 hP hD hS => K _ _ _ _ _ _ _ (cCn_set hK he hP hD hS hpre (eAll_set hh _ ⟨cA, t0, ht, h3, h4, rfl⟩) hl hlv hsk3))
        · rw [Bool.and_eq_true] at hk
          have hk1 := Nat.eq_of_beq_eq_true hk.1
          rw [hk1] at ht0
          have hk2 : Nat.beq q.1 1 = false := by rw [hk1]; rfl
          rw [hk2] at K
          exact va_zast hx hb hK hP hD hS _ t0 he ht0 hxi (hd (by simp [eLen])) (fun H1 locs1 hP hD hS => K _ _ _ _ _ _ _ (cCn_set hK he hP hD hS hpre (eAll_set hh _ ⟨cA, t0, ht, h3, h4, by rcases cB1_ok hk.2 with z | z <;> rw [z] <;> rfl⟩) hl hlv hsk3))
      · cases hst
    · cases hst
  · split at hst
    · split at hst
      · rename_i q ho
        obtain ⟨hn, hg⟩ := eCond hst
        cases hg
        obtain ⟨w, stk, rfl, hw, hsk1⟩ := eAll_cons hsk
        cases hw
        obtain ⟨w, stk, rfl, hw, hsk2⟩ := eAll_cons hsk1
        cases hw
        obtain ⟨w, stk, rfl, ⟨y, hya, rfl⟩, hsk3⟩ := eAll_cons hsk2
        obtain ⟨hxi, -⟩ := cIx_ok hn
        obtain ⟨⟨z, e9⟩, he, cA, t0, ht, h3, hf⟩ := eAll_get hh ho
        have hf : e9 = .inl (cA, q.1, .inr (.inl q.2)) := hf
        subst hf
        have e1 := cAd hpre he hya
        subst e1
        exact va_last hx hb hK hP hD hS _ t0 he ht hxi (hd (by simp [eLen])) (fun H1 locs1 hP hD hS => K _ _ _ _ _ _ _ (cCn_set hK he hP hD hS hpre (eAll_set hh _ ⟨cA, t0, ht, h3, rfl⟩) hl hlv hsk3))
      · cases hst
    · cases hst
  · split at hst
    · split at hst
      · rename_i q ho
        cases hst
        obtain ⟨w, stk, rfl, ⟨y, hya, rfl⟩, hsk1⟩ := eAll_cons hsk
        obtain ⟨⟨z, e9⟩, he, cA, t0, ht, -, -, hf⟩ := eAll_get hh ho
        have hf : e9 = .inl (cA, q.2.1, .inl q.2.2) := hf
        subst hf
        have e1 := cAd hpre he hya
        subst e1
        exact va_alen hx hb hK hP _ t0 he ht rfl (hd (by simp [eLen])) (K _ _ _ _ _ _ _ ⟨hK, hP, hD, hS, hpre, hh, hl, hlv, rfl, hsk1⟩)
      · rename_i q ho
        cases hst
        obtain ⟨w, stk, rfl, ⟨y, hya, rfl⟩, hsk1⟩ := eAll_cons hsk
        obtain ⟨⟨z, e9⟩, he, cA, t0, ht, -, hf⟩ := eAll_get hh ho
        have hf : e9 = .inl (cA, q.1, .inr (.inl q.2)) := hf
        subst hf
        have e1 := cAd hpre he hya
        subst e1
        exact va_alen hx hb hK hP _ t0 he ht rfl (hd (by simp [eLen])) (K _ _ _ _ _ _ _ ⟨hK, hP, hD, hS, hpre, hh, hl, hlv, rfl, hsk1⟩)
      · rename_i q ho
        cases hst
        obtain ⟨w, stk, rfl, ⟨y, hya, rfl⟩, hsk1⟩ := eAll_cons hsk
        obtain ⟨⟨z, e9⟩, he, cA, t0, f, ht, -, hf, -⟩ := eAll_get hh ho
        have hf : e9 = .inl (cA, q.1, .inr (.inr (.inr (.inr f)))) := hf
        subst hf
        have e1 := cAd hpre he hya
        subst e1
        exact va_alen hx hb hK hP _ t0 he ht rfl (hd (by simp [eLen])) (K _ _ _ _ _ _ _ ⟨hK, hP, hD, hS, hpre, hh, hl, hlv, rfl, hsk1⟩)
      · cases hst
    · cases hst
  · cases hst
    exact lv_goto hx hb (hd (by simp [eLen])) hlk (K _ _ _ _ _ _ _ ⟨hK, hP, hD, hS, hpre, hh, hl, hlv, hsk⟩)
  · rename_i kc off
    split at hst
    · rename_i x r
      cases hst
      obtain ⟨w, stk, rfl, hw, hsk1⟩ := eAll_cons hsk
      cases hw
      have yes : eHolds kc x 0 → W p l0 e R s m args below meth c H locs cs sl Q (F0 m a ls stk) := fun hq => by
        rw [cHd_ok.mpr hq] at K
        exact (K _ _ _ _ _ _ _ ⟨hK, hP, hD, hS, hpre, hh, hl, hlv, hsk1⟩)
      have no : ¬ eHolds kc x 0 → W p l0 e R s m args below meth c H locs cs sl Q (F0 m (pc + 3) ls stk) := fun hq => by
        rw [Bool.eq_false_iff.mpr (fun z => hq (cHd_ok.mp z))] at K
        exact (K _ _ _ _ _ _ _ ⟨hK, hP, hD, hS, hpre, hh, hl, hlv, hsk1⟩)
      cases kc
      · exact lv_if_eq hx hb (hd (by simp [eLen])) hlk (fun hq => yes hq) (fun hq => no hq)
      · exact lv_if_ne hx hb (hd (by simp [eLen])) hlk (fun hq => yes hq) (fun hq => no (fun z => z hq))
      · exact lv_if_lt hx hb (hd (by simp [eLen])) hlk (fun hq => yes hq) (fun hq => no hq)
      · exact lv_if_ge hx hb (hd (by simp [eLen])) hlk (fun hq => yes hq) (fun hq => no hq)
      · exact lv_if_gt hx hb (hd (by simp [eLen])) hlk (fun hq => yes hq) (fun hq => no hq)
      · exact lv_if_le hx hb (hd (by simp [eLen])) hlk (fun hq => yes hq) (fun hq => no hq)
    · cases hst
  · rename_i kc off
    split at hst
    · rename_i y x r
      cases hst
      obtain ⟨w, stk, rfl, hw, hsk1⟩ := eAll_cons hsk
      cases hw
      obtain ⟨w, stk, rfl, hw, hsk2⟩ := eAll_cons hsk1
      cases hw
      have yes : eHolds kc x y → W p l0 e R s m args below meth c H locs cs sl Q (F0 m a ls stk) := fun hq => by
        rw [cHd_ok.mpr hq] at K
        exact (K _ _ _ _ _ _ _ ⟨hK, hP, hD, hS, hpre, hh, hl, hlv, hsk2⟩)
      have no : ¬ eHolds kc x y → W p l0 e R s m args below meth c H locs cs sl Q (F0 m (pc + 3) ls stk) := fun hq => by
        rw [Bool.eq_false_iff.mpr (fun z => hq (cHd_ok.mp z))] at K
        exact (K _ _ _ _ _ _ _ ⟨hK, hP, hD, hS, hpre, hh, hl, hlv, hsk2⟩)
      cases kc
      · exact lv_icmp_eq hx hb (hd (by simp [eLen])) hlk (fun hq => yes hq) (fun hq => no hq)
      · exact lv_icmp_ne hx hb (hd (by simp [eLen])) hlk (fun hq => yes hq) (fun hq => no (fun z => z hq))
      · exact lv_icmp_lt hx hb (hd (by simp [eLen])) hlk (fun hq => yes hq) (fun hq => no hq)
      · exact lv_icmp_ge hx hb (hd (by simp [eLen])) hlk (fun hq => yes hq) (fun hq => no hq)
      · exact lv_icmp_gt hx hb (hd (by simp [eLen])) hlk (fun hq => yes hq) (fun hq => no hq)
      · exact lv_icmp_le hx hb (hd (by simp [eLen])) hlk (fun hq => yes hq) (fun hq => no hq)
    · cases hst
  · split at hst
    · cases hst
      obtain ⟨w, stk, rfl, ⟨y, hya, rfl⟩, hsk1⟩ := eAll_cons hsk
      exact lv_ifnull hx hb (hd (by simp [eLen])) (K _ _ _ _ _ _ _ ⟨hK, hP, hD, hS, hpre, hh, hl, hlv, hsk1⟩)
    · cases hst
      obtain ⟨w, stk, rfl, hw, hsk1⟩ := eAll_cons hsk
      have hw : w = .null := hw
      subst hw
      exact lv_ifnullN hx hb (hd (by simp [eLen])) hlk (K _ _ _ _ _ _ _ ⟨hK, hP, hD, hS, hpre, hh, hl, hlv, hsk1⟩)
    · cases hst
  · split at hst
    · cases hst
      obtain ⟨w, stk, rfl, ⟨y, hya, rfl⟩, hsk1⟩ := eAll_cons hsk
      exact lv_ifnonnull hx hb (hd (by simp [eLen])) hlk (K _ _ _ _ _ _ _ ⟨hK, hP, hD, hS, hpre, hh, hl, hlv, hsk1⟩)
    · cases hst
      obtain ⟨w, stk, rfl, hw, hsk1⟩ := eAll_cons hsk
      have hw : w = .null := hw
      subst hw
      exact lv_ifnonnullN hx hb (hd (by simp [eLen])) (K _ _ _ _ _ _ _ ⟨hK, hP, hD, hS, hpre, hh, hl, hlv, hsk1⟩)
    · cases hst
  · rename_i dflt lo hi offs
    obtain ⟨len, hd0⟩ := hd0
    split at hst
    · rename_i x r
      obtain ⟨w, stk, rfl, hw, hsk1⟩ := eAll_cons hsk
      cases hw
      cases hc : (decide (lo ≤ x.toInt) && decide (x.toInt ≤ hi)) with
      | true =>
        rw [hc] at hst
        rw [Bool.and_eq_true, decide_eq_true_eq, decide_eq_true_eq] at hc
        simp only [cond_true] at hst
        split at hst
        · rename_i off hoff
          obtain ⟨hn, hg⟩ := eCond hst
          cases hg
          have hn := of_decide_eq_true hn
          exact lv_tableIn hx hb hd0 (by omega) (by omega) hoff (by omega) (K _ _ _ _ _ _ _ ⟨hK, hP, hD, hS, hpre, hh, hl, hlv, hsk1⟩)
        · cases hst
      | false =>
        rw [hc] at hst
        obtain ⟨hn, hg⟩ := eCond (show cond _ _ none = some S' from hst)
        cases hg
        have hn := of_decide_eq_true hn
        rw [Bool.and_eq_false_iff, decide_eq_false_iff_not, decide_eq_false_iff_not] at hc
        exact lv_tableOut hx hb hd0 (by omega) (by omega) (K _ _ _ _ _ _ _ ⟨hK, hP, hD, hS, hpre, hh, hl, hlv, hsk1⟩)
    · cases hst
  · rename_i i0 n1 n2 n3 n4 n5 n6 n7 n8 n9 n10 n11 n12 n13 n14 n15 n16 n17 n18 n19 n20 n21 n22 n23 n24 n25 n26 n27 n28 n29 n30 n31 n32 n33 n34 n35 n36 n37 n38
    have un : ∀ {v z : cV} {r : List cV}, cUn i v = some z → st = v :: r → S' = (pc + 1, l, z :: r, h) → W p l0 e R s m args below meth c H locs cs sl Q (F0 m pc ls stk) := by
      intro v z r hu hs0 hS'
      subst hs0
      subst hS'
      unfold cUn at hu
      split at hu
      · cases hu
        obtain ⟨w, stk, rfl, hw, hsk1⟩ := eAll_cons hsk
        cases hw
        exact lv_i2b hx hb (hd (by simp [eLen])) rfl (K _ _ _ _ _ _ _ ⟨hK, hP, hD, hS, hpre, hh, hl, hlv, rfl, hsk1⟩)
      · cases hu
        obtain ⟨w, stk, rfl, hw, hsk1⟩ := eAll_cons hsk
        cases hw
        exact lv_i2l hx hb (hd (by simp [eLen])) rfl (K _ _ _ _ _ _ _ ⟨hK, hP, hD, hS, hpre, hh, hl, hlv, rfl, hsk1⟩)
      · cases hu
        obtain ⟨w, stk, rfl, hw, hsk1⟩ := eAll_cons hsk
        cases hw
        exact lv_l2i hx hb (hd (by simp [eLen])) rfl (K _ _ _ _ _ _ _ ⟨hK, hP, hD, hS, hpre, hh, hl, hlv, rfl, hsk1⟩)
      · cases hu
    split at hst
    · rename_i y x r
      split at hst
      · rename_i z hz
        cases hst
        obtain ⟨w, stk, rfl, hw, hsk1⟩ := eAll_cons hsk
        cases hw
        obtain ⟨w, stk, rfl, hw, hsk2⟩ := eAll_cons hsk1
        cases hw
        unfold cBin at hz
        split at hz
        · cases hz
          exact lv_iadd hx hb (hd (by simp [eLen])) (K _ _ _ _ _ _ _ ⟨hK, hP, hD, hS, hpre, hh, hl, hlv, rfl, hsk2⟩)
        · cases hz
          exact lv_isub hx hb (hd (by simp [eLen])) (K _ _ _ _ _ _ _ ⟨hK, hP, hD, hS, hpre, hh, hl, hlv, rfl, hsk2⟩)
        · cases hz
          exact lv_imul hx hb (hd (by simp [eLen])) (K _ _ _ _ _ _ _ ⟨hK, hP, hD, hS, hpre, hh, hl, hlv, rfl, hsk2⟩)
        · cases hz
          exact lv_iand hx hb (hd (by simp [eLen])) (K _ _ _ _ _ _ _ ⟨hK, hP, hD, hS, hpre, hh, hl, hlv, rfl, hsk2⟩)
        · cases hz
          exact lv_ior hx hb (hd (by simp [eLen])) (K _ _ _ _ _ _ _ ⟨hK, hP, hD, hS, hpre, hh, hl, hlv, rfl, hsk2⟩)
        · cases hz
          exact lv_ixor hx hb (hd (by simp [eLen])) (K _ _ _ _ _ _ _ ⟨hK, hP, hD, hS, hpre, hh, hl, hlv, rfl, hsk2⟩)
        · cases hz
          exact lv_ishl hx hb (hd (by simp [eLen])) (K _ _ _ _ _ _ _ ⟨hK, hP, hD, hS, hpre, hh, hl, hlv, rfl, hsk2⟩)
        · cases hz
          exact lv_ishr hx hb (hd (by simp [eLen])) (K _ _ _ _ _ _ _ ⟨hK, hP, hD, hS, hpre, hh, hl, hlv, rfl, hsk2⟩)
        · cases hz
          exact lv_iushr hx hb (hd (by simp [eLen])) rfl (K _ _ _ _ _ _ _ ⟨hK, hP, hD, hS, hpre, hh, hl, hlv, rfl, hsk2⟩)
        · by_cases hy : y = 0
          · rw [decide_eq_true hy] at hz
            cases hz
          · rw [decide_eq_false hy] at hz
            cases hz
            exact lv_irem hx hb (hd (by simp [eLen])) hy (K _ _ _ _ _ _ _ ⟨hK, hP, hD, hS, hpre, hh, hl, hlv, rfl, hsk2⟩)
        · by_cases hy : y = 0
          · rw [decide_eq_true hy] at hz
            cases hz
          · rw [decide_eq_false hy] at hz
            cases hz
            exact lv_idiv hx hb (hd (by simp [eLen])) hy (K _ _ _ _ _ _ _ ⟨hK, hP, hD, hS, hpre, hh, hl, hlv, rfl, hsk2⟩)
        · cases hz
      · split at hst
        · rename_i z hz
          cases hst
          exact un hz rfl rfl
        · cases hst
    · rename_i y x r
      split at hst
      · rename_i z hz
        cases hst
        obtain ⟨w, stk, rfl, hw, hsk1⟩ := eAll_cons hsk
        cases hw
        obtain ⟨w, stk, rfl, hw, hsk2⟩ := eAll_cons hsk1
        cases hw
        unfold cLn at hz
        split at hz
        · cases hz
          exact lv_ladd hx hb (hd (by simp [eLen])) (K _ _ _ _ _ _ _ ⟨hK, hP, hD, hS, hpre, hh, hl, hlv, rfl, hsk2⟩)
        · cases hz
          exact lv_lmul hx hb (hd (by simp [eLen])) (K _ _ _ _ _ _ _ ⟨hK, hP, hD, hS, hpre, hh, hl, hlv, rfl, hsk2⟩)
        · cases hz
          exact W.lcmp hx hb (hd (by simp [eLen])) (K _ _ _ _ _ _ _ ⟨hK, hP, hD, hS, hpre, hh, hl, hlv, rfl, hsk2⟩)
        · cases hz
      · split at hst
        · rename_i z hz
          cases hst
          exact un hz rfl rfl
        · cases hst
    · split at hst
      · rename_i z hz
        cases hst
        exact un hz rfl rfl
      · cases hst
    · cases hst
end CSO
end
