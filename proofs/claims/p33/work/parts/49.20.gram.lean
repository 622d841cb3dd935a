/-! THE GRAMMAR, as a function of the kinds K: a fault's number (0: none) and the token at which it stands -/
abbrev gR : Type := Nat × Nat
def rb (r : gR) (k : Nat → gR) : gR := if r.1 = 0 then k r.2 else r
theorem rb_0 {n : Nat} {k : Nat → gR} : rb (0, n) k = k n := rfl
theorem rb_f {r : gR} {k : Nat → gR} (h : r.1 ≠ 0) : rb r k = r := by unfold rb; rw [if_neg h]
theorem rb_k {r : gR} {k : Nat → gR} (h : r.1 = 0) : rb r k = k r.2 := by unfold rb; rw [if_pos h]
theorem rb_1 {n : Nat} {k : Nat → gR} : rb (1, n) k = (1, n) := rfl
theorem rb_2 {n : Nat} {k : Nat → gR} : rb (2, n) k = (2, n) := rfl
def gst (n : Nat) : gR := if 400 ≤ n then (2, n) else (0, n + 1)
def lvK (K : Nat → Int) (i : Nat) : Prop := ∀ j, j < i → K j ≠ 24 ∧ K j ≠ 25
section GRA
variable (K : Nat → Int)
def gnd (k : Int) (n : Nat) : gR := if K n = k then gst n else (1, n)
/-- a sum from one of its tokens on, at d open (, until b are open and nothing goes on; ph: behind a unit -/
def gA (b : Nat) : Nat → Nat → Bool → Nat → gR
  | 0, _, _, n => (2, n)
  | f + 1, d, false, n => if K n = 23 ∨ (13 ≤ K n ∧ K n ≤ 21) then (if 400 ≤ n then (2, n) else gA b f d true (n + 1)) else if K n = 40 then (if 6 ≤ d then (2, n) else if 400 ≤ n then (2, n) else gA b f (d + 1) false (n + 1)) else (1, n)
  | f + 1, d, true, n => if K n = 43 ∨ K n = 45 ∨ K n = 42 ∨ K n = 47 then (if 400 ≤ n then (2, n) else gA b f d false (n + 1)) else if b < d then (if K n = 41 then (if 400 ≤ n then (2, n) else gA b f (d - 1) true (n + 1)) else (1, n)) else (0, n)
def gX (b d : Nat) (ph : Bool) (n : Nat) : gR := gA K b (401 - n) d ph n
def gE (n : Nat) : gR := gX K 0 0 false n
def gIf : Nat → Nat → gR
  | 0, n => if K n = 10 then (2, n) else rb (gE K n) (gnd K 59)
  | r + 1, n => if K n = 10 then rb (gst n) (fun n => rb (gE K n) (fun n => rb (gnd K 60 n) (fun n => rb (gE K n) (fun n => rb (gnd K 11 n) (fun n => rb (gE K n) (fun n => rb (gnd K 12 n) (gIf r))))))) else rb (gE K n) (gnd K 59)
def gLaw (n : Nat) : gR := rb (gst n) (fun n => rb (gnd K 61 n) (gIf K 4))
def gsq : List Int → Nat → gR
  | [], n => (0, n)
  | k :: ks, n => rb (gnd K k n) (gsq ks)
def gTell (cf cw cu n : Nat) : gR :=
  if K n = 0 then (if 7 ≤ cf then (2, n) else rb (gst n) (gsq K [22, 23, 59]))
  else if K n = 1 then (if 10 ≤ cw then (2, n) else rb (gst n) (gsq K [22, 22, 23, 59]))
  else if K n = 2 then (if 8 ≤ cu then (2, n) else rb (gst n) (gsq K [22, 22, 23, 23, 23, 59]))
  else if 3 ≤ K n ∧ K n ≤ 6 then gLaw K n
  else if K n = 7 then rb (gst n) (gsq K [23, 23, 59])
  else if K n = 8 ∨ K n = 9 then rb (gst n) (gsq K [23, 59])
  else (1, n)
def ct (a b : Int) : Nat := if a = b then 1 else 0
def gAll : Nat → Nat → Nat → Nat → Nat → gR
  | 0, _, _, _, n => (0, n)
  | f + 1, cf, cw, cu, n => if K n = 24 then (0, n) else rb (gTell K cf cw cu n) (fun n' => gAll f (cf + ct (K n) 0) (cw + ct (K n) 1) (cu + ct (K n) 2) n')
end GRA
section GRL
variable {K : Nat → Int}
theorem lvK.dn {i j : Nat} (h : lvK K i) (hj : j ≤ i) : lvK K j := fun k hk => h k (by omega)
theorem lvK.up {i : Nat} (h : lvK K i) (h1 : K i ≠ 24 ∧ K i ≠ 25) : lvK K (i + 1) := fun k hk => by
  by_cases e : k = i
  · subst e; exact h1
  · exact h k (by omega)
theorem gX_U {b d n : Nat} (hn : n ≤ 400) : gX K b d false n = if K n = 23 ∨ (13 ≤ K n ∧ K n ≤ 21) then (if 400 ≤ n then (2, n) else gX K b d true (n + 1)) else if K n = 40 then (if 6 ≤ d then (2, n) else if 400 ≤ n then (2, n) else gX K b (d + 1) false (n + 1)) else (1, n) := by
  unfold gX
  rw [show 401 - n = (401 - (n + 1)) + 1 by omega]
  rfl
theorem gX_O {b d n : Nat} (hn : n ≤ 400) : gX K b d true n = if K n = 43 ∨ K n = 45 ∨ K n = 42 ∨ K n = 47 then (if 400 ≤ n then (2, n) else gX K b d false (n + 1)) else if b < d then (if K n = 41 then (if 400 ≤ n then (2, n) else gX K b (d - 1) true (n + 1)) else (1, n)) else (0, n) := by
  unfold gX
  rw [show 401 - n = (401 - (n + 1)) + 1 by omega]
  rfl
/-- what is open within is closed first -/
theorem gX_seg {b b' : Nat} (hb : b ≤ b') : ∀ (f d : Nat) (ph : Bool) (n : Nat), 401 - n = f → n ≤ 400 → b' ≤ d → gX K b d ph n = rb (gX K b' d ph n) (fun n' => gX K b b' true n') := by
  intro f
  induction f with
  | zero => intro d ph n hf hn; omega
  | succ f ih =>
    intro d ph n hf hn hd
    cases ph with
    | false =>
      rw [gX_U hn, gX_U hn]
      by_cases h1 : K n = 23 ∨ (13 ≤ K n ∧ K n ≤ 21)
      · rw [if_pos h1, if_pos h1]
        by_cases h4 : 400 ≤ n
        · rw [if_pos h4, if_pos h4, rb_2]
        · rw [if_neg h4, if_neg h4]
          exact ih d true (n + 1) (by omega) (by omega) hd
      · rw [if_neg h1, if_neg h1]
        by_cases h2 : K n = 40
        · rw [if_pos h2, if_pos h2]
          by_cases h6 : 6 ≤ d
          · rw [if_pos h6, if_pos h6, rb_2]
          · rw [if_neg h6, if_neg h6]
            by_cases h4 : 400 ≤ n
            · rw [if_pos h4, if_pos h4, rb_2]
            · rw [if_neg h4, if_neg h4]
              exact ih (d + 1) false (n + 1) (by omega) (by omega) (by omega)
        · rw [if_neg h2, if_neg h2, rb_1]
    | true =>
      rw [gX_O (b := b') hn]
      by_cases h1 : K n = 43 ∨ K n = 45 ∨ K n = 42 ∨ K n = 47
      · rw [gX_O hn, if_pos h1, if_pos h1]
        by_cases h4 : 400 ≤ n
        · rw [if_pos h4, if_pos h4, rb_2]
        · rw [if_neg h4, if_neg h4]
          exact ih d false (n + 1) (by omega) (by omega) hd
      · rw [if_neg h1]
        by_cases h2 : b' < d
        · rw [gX_O hn, if_neg h1, if_pos h2, if_pos (show b < d by omega)]
          by_cases h3 : K n = 41
          · rw [if_pos h3, if_pos h3]
            by_cases h4 : 400 ≤ n
            · rw [if_pos h4, if_pos h4, rb_2]
            · rw [if_neg h4, if_neg h4]
              exact ih (d - 1) true (n + 1) (by omega) (by omega) (by omega)
          · rw [if_neg h3, if_neg h3, rb_1]
        · rw [if_neg h2, rb_0, show d = b' by omega]
/-- where it ends: not earlier, all passed is token, no sign of end passed -/
def gOk (K : Nat → Int) (n : Nat) (r : gR) : Prop := (n ≤ r.2 ∧ r.2 ≤ 400) ∧ ∀ j : Nat, n ≤ j → j < r.2 → K j ≠ 24 ∧ K j ≠ 25 ∧ K j ≠ 59
theorem gOk.rf {n c : Nat} (h : n ≤ 400) : gOk K n (c, n) := ⟨⟨Nat.le_refl _, h⟩, fun j h1 h2 => by exfalso; have h2 : j < n := h2; omega⟩
theorem gOk.cons {n : Nat} {r : gR} (h : gOk K (n + 1) r) (hk : K n ≠ 24 ∧ K n ≠ 25 ∧ K n ≠ 59) : gOk K n r := ⟨⟨by have := h.1.1; omega, h.1.2⟩, fun j h1 h2 => by
  by_cases e : j = n
  · subst e; exact hk
  · exact h.2 j (by omega) h2⟩
theorem gOk.tr {n n' : Nat} {r : gR} (h : gOk K n (0, n')) (h' : gOk K n' r) : gOk K n r := ⟨⟨Nat.le_trans h.1.1 h'.1.1, h'.1.2⟩, fun j h1 h2 => by
  by_cases e : j < n'
  · exact h.2 j h1 e
  · exact h'.2 j (by omega) h2⟩
theorem gOk.lv {n : Nat} {r : gR} (h : gOk K n r) (hl : lvK K n) : lvK K r.2 := fun j hj => by
  by_cases e : j < n
  · exact hl j e
  · have := h.2 j (by omega) hj
    exact ⟨this.1, this.2.1⟩
theorem gX_ok {b : Nat} : ∀ (f d : Nat) (ph : Bool) (n : Nat), 401 - n = f → n ≤ 400 → gOk K n (gX K b d ph n) := by
  intro f
  induction f with
  | zero => intro d ph n hf hn; omega
  | succ f ih =>
    intro d ph n hf hn
    cases ph with
    | false =>
      rw [gX_U hn]
      by_cases h1 : K n = 23 ∨ (13 ≤ K n ∧ K n ≤ 21)
      · rw [if_pos h1]
        by_cases h4 : 400 ≤ n
        · rw [if_pos h4]; exact gOk.rf hn
        · rw [if_neg h4]; exact (ih d true (n + 1) (by omega) (by omega)).cons (by omega)
      · rw [if_neg h1]
        by_cases h2 : K n = 40
        · rw [if_pos h2]
          by_cases h6 : 6 ≤ d
          · rw [if_pos h6]; exact gOk.rf hn
          · rw [if_neg h6]
            by_cases h4 : 400 ≤ n
            · rw [if_pos h4]; exact gOk.rf hn
            · rw [if_neg h4]; exact (ih (d + 1) false (n + 1) (by omega) (by omega)).cons (by omega)
        · rw [if_neg h2]; exact gOk.rf hn
    | true =>
      rw [gX_O hn]
      by_cases h1 : K n = 43 ∨ K n = 45 ∨ K n = 42 ∨ K n = 47
      · rw [if_pos h1]
        by_cases h4 : 400 ≤ n
        · rw [if_pos h4]; exact gOk.rf hn
        · rw [if_neg h4]; exact (ih d false (n + 1) (by omega) (by omega)).cons (by omega)
      · rw [if_neg h1]
        by_cases h2 : b < d
        · rw [if_pos h2]
          by_cases h3 : K n = 41
          · rw [if_pos h3]
            by_cases h4 : 400 ≤ n
            · rw [if_pos h4]; exact gOk.rf hn
            · rw [if_neg h4]; exact (ih (d - 1) true (n + 1) (by omega) (by omega)).cons (by omega)
          · rw [if_neg h3]; exact gOk.rf hn
        · rw [if_neg h2]; exact gOk.rf hn
/-- a sum that is right is right at its end: nothing goes on there -/
theorem gX_nop {b : Nat} : ∀ (f d : Nat) (ph : Bool) (n : Nat), 401 - n = f → n ≤ 400 → (gX K b d ph n).1 = 0 → K (gX K b d ph n).2 ≠ 43 ∧ K (gX K b d ph n).2 ≠ 45 ∧ K (gX K b d ph n).2 ≠ 42 ∧ K (gX K b d ph n).2 ≠ 47 := by
  intro f
  induction f with
  | zero => intro d ph n hf hn; omega
  | succ f ih =>
    intro d ph n hf hn
    cases ph with
    | false =>
      rw [gX_U hn]
      by_cases h1 : K n = 23 ∨ (13 ≤ K n ∧ K n ≤ 21)
      · rw [if_pos h1]
        by_cases h4 : 400 ≤ n
        · rw [if_pos h4]; intro h; cases h
        · rw [if_neg h4]; exact ih d true (n + 1) (by omega) (by omega)
      · rw [if_neg h1]
        by_cases h2 : K n = 40
        · rw [if_pos h2]
          by_cases h6 : 6 ≤ d
          · rw [if_pos h6]; intro h; cases h
          · rw [if_neg h6]
            by_cases h4 : 400 ≤ n
            · rw [if_pos h4]; intro h; cases h
            · rw [if_neg h4]; exact ih (d + 1) false (n + 1) (by omega) (by omega)
        · rw [if_neg h2]; intro h; cases h
    | true =>
      rw [gX_O hn]
      by_cases h1 : K n = 43 ∨ K n = 45 ∨ K n = 42 ∨ K n = 47
      · rw [if_pos h1]
        by_cases h4 : 400 ≤ n
        · rw [if_pos h4]; intro h; cases h
        · rw [if_neg h4]; exact ih d false (n + 1) (by omega) (by omega)
      · rw [if_neg h1]
        by_cases h2 : b < d
        · rw [if_pos h2]
          by_cases h3 : K n = 41
          · rw [if_pos h3]
            by_cases h4 : 400 ≤ n
            · rw [if_pos h4]; intro h; cases h
            · rw [if_neg h4]; exact ih (d - 1) true (n + 1) (by omega) (by omega)
          · rw [if_neg h3]; intro h; cases h
        · rw [if_neg h2]; intro _; show K n ≠ 43 ∧ K n ≠ 45 ∧ K n ≠ 42 ∧ K n ≠ 47; omega
end GRL
