/-! THE TEXT CUT UP, as plain functions of its bytes: B at each place, 0 beyond the end n -/
theorem d_cn {x : Int32} {i : Nat} (h : x.toInt = i) : x.toNatClampNeg = i := by rw [Int32.toNatClampNeg, h]; rfl
theorem d_ce {x y : Int32} (h : x.toInt = y.toInt) : x = y := Int32.toInt_inj.mp h
theorem d_add {x : Int32} {i : Nat} {k : Int32} {K : Nat} (h : x.toInt = i) (hk : k.toInt = K) (hb : i + K ≤ 2147483647) : (x + k).toInt = ((i + K : Nat) : Int) := by
  have := dAddE (X := (i : Int)) (Y := (K : Int)) (x := x) (y := k) h hk (by omega) (by omega)
  rw [this]
  omega
theorem d_inc {x : Int32} {i : Nat} (h : x.toInt = i) (hb : i < 2147483647) : (x + 1).toInt = ((i + 1 : Nat) : Int) := d_add h (by decide) (by omega)
/-- how many places on end from p on have P -/
def rn (P : Nat → Bool) : Nat → Nat → Nat
  | 0, _ => 0
  | f + 1, p => cond (P p) (rn P f (p + 1) + 1) 0
def rnn (P : Nat → Bool) (n p : Nat) : Nat := rn P (n - p) p
theorem rnn_ge {P : Nat → Bool} {n p : Nat} (h : n ≤ p) : rnn P n p = 0 := by
  unfold rnn
  rw [show n - p = 0 by omega]
  rfl
theorem rnn_no {P : Nat → Bool} {n p : Nat} (h : P p = false) : rnn P n p = 0 := by
  unfold rnn
  cases n - p with
  | zero => rfl
  | succ f => simp [rn, h]
theorem rnn_yes {P : Nat → Bool} {n p : Nat} (hp : p < n) (h : P p = true) : rnn P n p = rnn P n (p + 1) + 1 := by
  unfold rnn
  rw [show n - p = (n - (p + 1)) + 1 by omega]
  simp [rn, h]
theorem rnn_le {P : Nat → Bool} {n : Nat} : ∀ (f p : Nat), n - p = f → rnn P n p ≤ n - p := by
  intro f
  induction f with
  | zero => intro p h; rw [rnn_ge (by omega)]; omega
  | succ f ih =>
    intro p h
    cases hP : P p with
    | false => rw [rnn_no hP]; omega
    | true =>
      rw [rnn_yes (by omega) hP]
      have := ih (p + 1) (by omega)
      omega
theorem rnn_in {P : Nat → Bool} {n : Nat} : ∀ (f p j : Nat), n - p = f → j < rnn P n p → P (p + j) = true ∧ p + j < n := by
  intro f
  induction f with
  | zero => intro p j h hj; rw [rnn_ge (by omega)] at hj; omega
  | succ f ih =>
    intro p j h hj
    cases hP : P p with
    | false => rw [rnn_no hP] at hj; omega
    | true =>
      rw [rnn_yes (by omega) hP] at hj
      match j, hj with
      | 0, _ => exact ⟨hP, by omega⟩
      | j + 1, hj =>
        have := ih (p + 1) j (by omega) (by omega)
        rw [show p + (j + 1) = p + 1 + j by omega]
        exact this
theorem rnn_end {P : Nat → Bool} {n : Nat} : ∀ (f p : Nat), n - p = f → p ≤ n → p + rnn P n p = n ∨ P (p + rnn P n p) = false := by
  intro f
  induction f with
  | zero => intro p h h2; rw [rnn_ge (by omega)]; omega
  | succ f ih =>
    intro p h h2
    cases hP : P p with
    | false => rw [rnn_no hP]; right; exact hP
    | true =>
      rw [rnn_yes (by omega) hP]
      have := ih (p + 1) (by omega) (by omega)
      rw [show p + (rnn P n (p + 1) + 1) = p + 1 + rnn P n (p + 1) by omega]
      exact this
theorem rnn_stop {P : Nat → Bool} {n p k : Nat} (h : k ≤ rnn P n p) (hs : n ≤ p + k ∨ P (p + k) = false) : rnn P n p = k := by
  by_cases e : k < rnn P n p
  · have := rnn_in _ p k rfl e
    rcases hs with q | q
    · omega
    · rw [q] at this; cases this.1
  · omega
theorem rnn_go {P : Nat → Bool} {n p k : Nat} (hp : p ≤ n) (h : k ≤ rnn P n p) (h1 : P (p + k) = true) (h2 : p + k < n) : k + 1 ≤ rnn P n p := by
  by_cases e : k = rnn P n p
  · have := rnn_end (P := P) _ p rfl hp
    rw [← e] at this
    rcases this with q | q
    · omega
    · rw [h1] at q; cases q
  · omega
/-- which word; 22: none -/
def wkF (y : Int64) : Nat → Nat → Nat
  | 0, k => k
  | f + 1, k => if tKv k = y then k else wkF y f (k + 1)
def wk (y : Int64) : Nat := wkF y 22 0
theorem wkF_le (y : Int64) : ∀ (f k : Nat), k ≤ wkF y f k ∧ wkF y f k ≤ k + f
  | 0, k => by simp [wkF]
  | f + 1, k => by
    unfold wkF
    split
    · omega
    · have := wkF_le y f (k + 1); omega
theorem wkF_hit (y : Int64) : ∀ (f k : Nat), wkF y f k < k + f → tKv (wkF y f k) = y
  | 0, k, h => by simp [wkF] at h
  | f + 1, k, h => by
    unfold wkF at h ⊢
    split
    · assumption
    · rename_i hn
      rw [if_neg hn] at h
      exact wkF_hit y f (k + 1) (by omega)
theorem wk_le (y : Int64) : wk y ≤ 22 := by have := wkF_le y 22 0; unfold wk; omega
theorem wk_hit {y : Int64} (h : wk y < 22) : tKv (wk y) = y := wkF_hit y 22 0 (by unfold wk at h; omega)
theorem wk_own : ∀ k : Nat, k < 22 → wk (tKv k) = k := by decide +kernel
section CUT
variable (B : Nat → Int32) (n : Nat)
def bL (i : Nat) : Bool := decide (97 ≤ (B i).toInt ∧ (B i).toInt ≤ 122)
def bD (i : Nat) : Bool := decide (48 ≤ (B i).toInt ∧ (B i).toInt ≤ 57)
def bW (i : Nat) : Bool := decide ((B i).toInt = 9 ∨ (B i).toInt = 10 ∨ (B i).toInt = 13 ∨ (B i).toInt = 32)
def nm (p : Nat) : Nat → Int64
  | 0 => 0
  | k + 1 => nm p k * 27 + ((B (p + k) - 97) + 1).toInt64
def dv (p : Nat) : Nat → Int64
  | 0 => 0
  | k + 1 => dv p k * 10 + (B (p + k) - 48).toInt64
def sg (c : Int) : Int := if c = 40 ∨ c = 41 ∨ c = 42 ∨ c = 43 ∨ c = 45 ∨ c = 47 ∨ c = 59 ∨ c = 60 ∨ c = 61 then c else 25
def kd (p : Nat) : Int := if n ≤ p then 24 else cond (bL B p) (if rnn (bL B) n p ≤ 8 then (wk (nm B p (rnn (bL B) n p)) : Int) else 25) (cond (bD B p) (if rnn (bD B) n p ≤ 4 then 23 else 25) (sg (B p).toInt))
def en (p : Nat) : Nat := if n ≤ p then p else cond (bL B p) (p + rnn (bL B) n p) (cond (bD B p) (p + rnn (bD B) n p) (p + 1))
def sk (p : Nat) : Nat := p + rnn (bW B) n p
def ps : Nat → Nat
  | 0 => 0
  | i + 1 => en B n (sk B n (ps i))
/-- the place, the kind, the value of each token -/
def tP (i : Nat) : Nat := sk B n (ps B n i)
def tK (i : Nat) : Int := kd B n (tP B n i)
def tV (i : Nat) : Int64 := cond (bL B (tP B n i)) (nm B (tP B n i) (rnn (bL B) n (tP B n i))) (dv B (tP B n i) (rnn (bD B) n (tP B n i)))
/-- no end, nothing that is no token ahead of it -/
def lv (i : Nat) : Prop := ∀ j, j < i → tK B n j ≠ 24 ∧ tK B n j ≠ 25
end CUT
section CUL
variable {B : Nat → Int32} {n : Nat}
theorem lv.dn {i j : Nat} (h : lv B n i) (hj : j ≤ i) : lv B n j := fun k hk => h k (by omega)
theorem lv.up {i : Nat} (h : lv B n i) (h1 : tK B n i ≠ 24) (h2 : tK B n i ≠ 25) : lv B n (i + 1) := fun k hk => by
  by_cases e : k = i
  · subst e; exact ⟨h1, h2⟩
  · exact h k (by omega)
theorem sk_le {p : Nat} (hp : p ≤ n) : p ≤ sk B n p ∧ sk B n p ≤ n := by
  unfold sk
  have := rnn_le (P := bW B) (n := n) _ p rfl
  omega
theorem en_le {p : Nat} (hp : p ≤ n) : p ≤ en B n p ∧ en B n p ≤ n ∧ (p < n → p < en B n p) := by
  unfold en
  by_cases h : n ≤ p
  · rw [if_pos h]; omega
  · rw [if_neg h]
    cases hL : bL B p with
    | true =>
      have := rnn_le (P := bL B) (n := n) _ p rfl
      have e := rnn_yes (P := bL B) (n := n) (p := p) (by omega) hL
      simp only [cond_true]
      omega
    | false =>
      cases hD : bD B p with
      | true =>
        have := rnn_le (P := bD B) (n := n) _ p rfl
        have e := rnn_yes (P := bD B) (n := n) (p := p) (by omega) hD
        simp only [cond_true, cond_false]
        omega
      | false => simp only [cond_false]; omega
theorem ps_le : ∀ i : Nat, ps B n i ≤ n
  | 0 => Nat.zero_le _
  | i + 1 => (en_le (sk_le (ps_le i)).2).2.1
theorem tP_le (i : Nat) : tP B n i ≤ n := (sk_le (ps_le i)).2
theorem kd_end {p : Nat} (h : n ≤ p) : kd B n p = 24 := by unfold kd; rw [if_pos h]
theorem tK_end {i : Nat} (h : tK B n i ≠ 24) : tP B n i < n := by
  by_cases e : n ≤ tP B n i
  · exact absurd (kd_end e) h
  · omega
/-- places go up -/
theorem tP_up {i : Nat} (h : tK B n i ≠ 24) : tP B n i < tP B n (i + 1) := by
  have h1 := tK_end h
  have h2 := (en_le (B := B) (tP_le i)).2.2 h1
  have h3 := (sk_le (B := B) (n := n) (ps_le (B := B) (n := n) (i + 1))).1
  exact Nat.lt_of_lt_of_le h2 h3
theorem tP_lt {i : Nat} : ∀ (k : Nat), lv B n (i + k + 1) → tP B n i < tP B n (i + k + 1)
  | 0, h => tP_up (h i (by omega)).1
  | k + 1, h => Nat.lt_trans (tP_lt k (h.dn (by omega))) (tP_up (h (i + k + 1) (by omega)).1)
theorem tP_mono {i j : Nat} (hij : i < j) (h : lv B n j) : tP B n i < tP B n j := by
  have := tP_lt (B := B) (n := n) (i := i) (j - i - 1) (by rw [show i + (j - i - 1) + 1 = j by omega]; exact h)
  rw [show i + (j - i - 1) + 1 = j by omega] at this
  exact this
theorem sg_r (c : Int) : (sg c = 25 ∨ (40 ≤ sg c ∧ sg c ≤ 61)) := by
  unfold sg
  split
  · right; omega
  · left; rfl
theorem tK_r (i : Nat) : 0 ≤ tK B n i ∧ tK B n i ≤ 61 := by
  unfold tK kd
  split
  · omega
  · cases bL B (tP B n i) with
    | true =>
      simp only [cond_true]
      split
      · have := wk_le (nm B (tP B n i) (rnn (bL B) n (tP B n i))); omega
      · omega
    | false =>
      cases bD B (tP B n i) with
      | true => simp only [cond_true, cond_false]; split <;> omega
      | false =>
        simp only [cond_false]
        have := sg_r (B (tP B n i)).toInt
        omega
end CUL
