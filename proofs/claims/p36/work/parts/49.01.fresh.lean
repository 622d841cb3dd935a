section
/-! the bounds, all -/
def zI (t : Option (Int × Int)) (b : Int × Int) : Bool := match t with
  | none => true
  | some a => decide (a.1 ≤ b.1) && decide (b.2 ≤ a.2)
def zBn (k : Nat) (c : eC) : Nat → Bool
  | 0 => true
  | n + 1 => (match zAb c n with
    | some b => zI (wT k n) b && zI (sT k n) b
    | none => false) && zBn k c n
def zLn (c : eC) : Nat := match c with
  | .inl o => o.2.length
  | .inr a => cond (Nat.beq a.1 3 || Nat.beq a.1 4) 0 a.2.1
def zBh : Nat → eH → Bool
  | _, [] => true
  | k, c :: h => zBn k c (zLn c) && zBh (k + 1) h
theorem z_bn {k : Nat} {c : eC} : ∀ {n j : Nat}, zBn k c n = true → j < n → ∃ b, zAb c j = some b ∧ zI (wT k j) b = true ∧ zI (sT k j) b = true
  | 0, j, _, h => by omega
  | n + 1, j, hz, h => by
    have hz : ((match zAb c n with
      | some b => zI (wT k n) b && zI (sT k n) b
      | none => false) && zBn k c n) = true := hz
    simp only [Bool.and_eq_true] at hz
    by_cases e : j = n
    · subst e
      cases hb : zAb c j with
      | none => rw [hb] at hz; cases hz.1
      | some b =>
        rw [hb] at hz
        simp only [Bool.and_eq_true] at hz
        exact ⟨b, rfl, hz.1.1, hz.1.2⟩
    · exact z_bn hz.2 (by omega)
theorem z_bh : ∀ {h : eH} {k0 k : Nat} {c : eC}, zBh k0 h = true → h[k]? = some c → zBn (k0 + k) c (zLn c) = true
  | [], k0, k, c, _, hc => by simp at hc
  | d :: h, k0, k, c, hz, hc => by
    have hz : (zBn k0 d (zLn d) && zBh (k0 + 1) h) = true := hz
    simp only [Bool.and_eq_true] at hz
    match k, hc with
    | 0, hc => cases hc; exact hz.1
    | k + 1, hc =>
      have := z_bh (k := k) hz.2 hc
      rw [show k0 + (k + 1) = k0 + 1 + k by omega]
      exact this
theorem z0w {k j : Nat} {b : Int × Int} (h : wT k j = some b) : b.1 ≤ 0 ∧ 0 ≤ b.2 := by
  unfold wT at h
  split at h
  all_goals first
    | (cases h; done)
    | (cases h; constructor <;> decide)
    | (split at h <;> first | (cases h; done) | (cases h; constructor <;> decide))
theorem z0s {k j : Nat} {b : Int × Int} (h : sT k j = some b) : b.1 ≤ 0 ∧ 0 ≤ b.2 := by
  unfold sT at h
  split at h
  all_goals first
    | (cases h; done)
    | (cases h; constructor <;> decide)
    | (split at h <;> first | (cases h; done) | (cases h; constructor <;> decide))
set_option maxRecDepth 1000000 in
theorem zB_fresh : zBh 0 hFresh = true := by decide +kernel
set_option maxRecDepth 1000000 in
theorem zS_fresh : zS tSh hFresh = true := by decide +kernel
set_option maxRecDepth 1000000 in
theorem zV_fresh : ([(0, 1), (2, 2), (70, 2), (70, 18), (82, 0), (86, 0), (95, 0), (95, 1), (95, 2), (95, 3), (96, 0), (96, 1), (96, 2), (96, 3)] : List (Nat × Nat)).all (fun q => match hFresh[q.1]? with
  | some c => decide (zAb c q.2 = some (0, 0))
  | none => false) = true := by decide +kernel
section ZFR
variable {ad : List Nat} {σ : Nat → Int} {tys : List (ClassId × FieldType)} {ws : va_W}
theorem z_out {c : eC} {q : Nat × va_E} {j : Nat} (h : eCk ad σ tys c q) (hj : zLn c ≤ j) : zOe q.2 j = 0 := by
  match c, h, hj with
  | .inl o, h, hj =>
    obtain ⟨vs, e, ha⟩ := h
    have hl := eAll_len ha
    have hj : o.2.length ≤ j := hj
    rw [e]
    show (match vs[j]? with
        | some (.int x) => x
        | _ => 0) = 0
    rw [List.getElem?_eq_none (by omega)]
  | .inr (kd, n, c), h, hj =>
    obtain ⟨cA, t0, g1, g2, g3⟩ := h
    have hj : cond (Nat.beq kd 3 || Nat.beq kd 4) 0 n ≤ j := hj
    unfold eAr at g3
    split at g3
    · obtain ⟨f, g3, -⟩ := g3; rw [g3]; rfl
    · obtain ⟨f, g3, -⟩ := g3; rw [g3]; rfl
    · rename_i n3 n4
      obtain ⟨f, g3, -⟩ := g3
      rw [g3]
      show (if j < n then f j else 0) = 0
      cases hb : (Nat.beq kd 3 || Nat.beq kd 4) with
      | false =>
        rw [hb] at hj
        have hj : n ≤ j := hj
        rw [if_neg (by omega)]
      | true =>
        rw [Bool.or_eq_true] at hb
        rcases hb with hb | hb
        · exact absurd (Nat.eq_of_beq_eq_true hb) n3
        · exact absurd (Nat.eq_of_beq_eq_true hb) n4
theorem z_ok (hs : σ 0 = 0) (h : eAll (eCk ad σ tys) hFresh ws) : eAll (cCk ad tys) (dHp (zM ws)) (zW ws) ∧ Ok (zM ws) ∧ ((zM ws).1 0 1).toInt = 0 ∧ ((zM ws).1 70 2).toInt = 0 := by
  have at1 : ∀ (k : Nat) (q : Nat × va_E), ws[k]? = some q → (zM ws).1 k = zOe q.2 := fun k q hq => by
    funext j
    show (match ws[k]? with
      | some q => zOe q.2 j
      | none => 0) = _
    rw [hq]
  have kw : ∀ (k : Nat) (q : Nat × va_E), k = 42 ∨ k = 77 → ws[k]? = some q → tKv = zLe q.2 := fun k q hk hq => by
    obtain ⟨c, hc, hck⟩ := eAll_getR h hq
    have ec : c = .inr (3, 22, .inl (tWd.map (fun x => .inr (.inr (some x))))) := by
      rcases hk with rfl | rfl
      · have : hFresh[42]? = some (.inr (3, 22, .inl (tWd.map (fun x => .inr (.inr (some x)))))) := rfl
        rw [this] at hc
        exact (Option.some.inj hc).symm
      · have : hFresh[77]? = some (.inr (3, 22, .inl (tWd.map (fun x => .inr (.inr (some x)))))) := rfl
        rw [this] at hc
        exact (Option.some.inj hc).symm
    rw [ec] at hck
    funext j
    by_cases hj : j < 22
    · have e : (tWd.map (fun x => (.inr (.inr (some x)) : eV)))[j]? = some (.inr (.inr (some (tKv j)))) := by
        rw [List.getElem?_map]
        have hl : j < tWd.length := hj
        rw [List.getElem?_eq_getElem hl]
        unfold tKv
        rw [List.getD_eq_getElem?_getD, List.getElem?_eq_getElem hl]
        rfl
      exact (z_lg hck hj e).symm
    · rw [z_lg0 hck hj]
      unfold tKv
      rw [List.getD_eq_getElem?_getD, List.getElem?_eq_none (by show 22 ≤ j; omega)]
      rfl
  have at2 : ∀ (k : Nat) (q : Nat × va_E), ws[k]? = some q → dLg (zM ws) k = zLe q.2 := fun k q hq => by
    unfold dLg
    cases hk : (Nat.beq k 42 || Nat.beq k 77) with
    | true =>
      rw [Bool.or_eq_true] at hk
      exact kw k q (by
        rcases hk with hk | hk
        · exact Or.inl (Nat.eq_of_beq_eq_true hk)
        · exact Or.inr (Nat.eq_of_beq_eq_true hk)) hq
    | false =>
    funext j
    show (match ws[k]? with
      | some q => zLe q.2 j
      | none => 0) = _
    rw [hq]
  have val : ∀ k j : Nat, (match hFresh[k]? with
      | some c => decide (zAb c j = some (0, 0))
      | none => false) = true → ((zM ws).1 k j).toInt = 0 := fun k j hd => by
    cases hc : hFresh[k]? with
    | none => rw [hc] at hd; cases hd
    | some c =>
      rw [hc] at hd
      obtain ⟨q, hq, hk⟩ := eAll_get h hc
      rw [at1 k q hq]
      have := z_ab hs hk (of_decide_eq_true hd)
      have e : (0 : Int) ≤ (zOe q.2 j).toInt ∧ (zOe q.2 j).toInt ≤ 0 := this
      omega
  have vv := List.all_eq_true.mp zV_fresh
  have v : ∀ k j : Nat, (k, j) ∈ ([(0, 1), (2, 2), (70, 2), (70, 18), (82, 0), (86, 0), (95, 0), (95, 1), (95, 2), (95, 3), (96, 0), (96, 1), (96, 2), (96, 3)] : List (Nat × Nat)) → ((zM ws).1 k j).toInt = 0 := fun k j hm => val k j (vv (k, j) hm)
  have B : OkB (zM ws) := by
    intro k j lo hi hb
    have z : lo ≤ 0 ∧ 0 ≤ hi := by
      rcases hb with hb | hb
      · exact z0w hb
      · exact z0s hb
    cases hq : ws[k]? with
    | none =>
      have e : (zM ws).1 k j = 0 := by
        show (match ws[k]? with
          | some q => zOe q.2 j
          | none => 0) = _
        rw [hq]
      rw [e]
      exact z
    | some q =>
      obtain ⟨c, hc, hk⟩ := eAll_getR h hq
      rw [at1 k q hq]
      by_cases hj : j < zLn c
      · have hz := z_bh zB_fresh hc
        rw [Nat.zero_add] at hz
        obtain ⟨b, b1, b2, b3⟩ := z_bn hz hj
        have g := z_ab hs hk b1
        have w : lo ≤ b.1 ∧ b.2 ≤ hi := by
          rcases hb with hb | hb
          · rw [hb] at b2
            have b2 : (decide (lo ≤ b.1) && decide (b.2 ≤ hi)) = true := b2
            simp only [Bool.and_eq_true, decide_eq_true_eq] at b2
            exact b2
          · rw [hb] at b3
            have b3 : (decide (lo ≤ b.1) && decide (b.2 ≤ hi)) = true := b3
            simp only [Bool.and_eq_true, decide_eq_true_eq] at b3
            exact b3
        omega
      · rw [z_out hk (by omega)]
        exact z
  refine ⟨z_all rfl tSh hFresh ws 0 zS_fresh h (fun i q hi => by rw [Nat.zero_add]; exact ⟨at1 i q hi, at2 i q hi⟩), Ok.mk B ?_, v 0 1 (by decide), v 70 2 (by decide)⟩
  have eL : gL (zM ws).1 = 0 := by unfold gL; rw [v 70 18 (by decide)]; rfl
  have v22 := v 2 2 (by decide)
  have v82 := v 82 0 (by decide)
  have v86 := v 86 0 (by decide)
  unfold Gx
  rw [eL]
  refine ⟨fun u hu => by exfalso; omega, fun u hu => by exfalso; omega, fun u hu => by exfalso; omega, fun k hk => Or.inl ?_⟩
  have hk : k = 0 ∨ k = 1 ∨ k = 2 ∨ k = 3 := by omega
  rcases hk with rfl | rfl | rfl | rfl
  · rw [v 95 (4 * 0 + 0) (by decide), v 96 (4 * 0 + 0) (by decide)]
  · rw [v 95 (4 * 0 + 1) (by decide), v 96 (4 * 0 + 1) (by decide)]
  · rw [v 95 (4 * 0 + 2) (by decide), v 96 (4 * 0 + 2) (by decide)]
  · rw [v 95 (4 * 0 + 3) (by decide), v 96 (4 * 0 + 3) (by decide)]
theorem z_val (hs : σ 0 = 0) (h : eAll (eCk ad σ tys) hFresh ws) {k j : Nat} {b : Int} (hd : (match hFresh[k]? with
    | some c => decide (zAb c j = some (b, b))
    | none => false) = true) : ((zM ws).1 k j).toInt = b := by
  cases hc : hFresh[k]? with
  | none => rw [hc] at hd; cases hd
  | some c =>
    rw [hc] at hd
    obtain ⟨q, hq, hk⟩ := eAll_get h hc
    have e1 : (zM ws).1 k j = zOe q.2 j := by
      show (match ws[k]? with
        | some q => zOe q.2 j
        | none => 0) = _
      rw [hq]
    rw [e1]
    have := z_ab hs hk (of_decide_eq_true hd)
    have e : b ≤ (zOe q.2 j).toInt ∧ (zOe q.2 j).toInt ≤ b := this
    omega
end ZFR
end
section
/-! THE TEXT CUT UP, as plain functions of its bytes: B at each place, 0 beyond the end n -/
theorem d_cn {x : Int32} {i : Nat} (h : x.toInt = i) : x.toNatClampNeg = i := by rw [Int32.toNatClampNeg, h]; rfl
theorem d_ce {x y : Int32} (h : x.toInt = y.toInt) : x = y := Int32.toInt_inj.mp h
theorem d_add {x : Int32} {i : Nat} {k : Int32} {K : Nat} (h : x.toInt = i) (hk : k.toInt = K) (hb : i + K ≤ 2147483647) : (x + k).toInt = ((i + K : Nat) : Int) := by
  have := dAddE (X := (i : Int)) (Y := (K : Int)) (x := x) (y := k) h hk (by omega) (by omega)
  rw [this]
  omega
theorem d_inc {x : Int32} {i : Nat} (h : x.toInt = i) (hb : i < 2147483647) : (x + 1).toInt = ((i + 1 : Nat) : Int) := d_add h (by decide) (by omega)
/-- how many places on end from p on have P -/
def rn (P : Nat → Bool) : Nat → Nat → Nat
  | 0, _ => 0
  | f + 1, p => cond (P p) (rn P f (p + 1) + 1) 0
def rnn (P : Nat → Bool) (n p : Nat) : Nat := rn P (n - p) p
theorem rnn_ge {P : Nat → Bool} {n p : Nat} (h : n ≤ p) : rnn P n p = 0 := by
  unfold rnn
  rw [show n - p = 0 by omega]
  rfl
theorem rnn_no {P : Nat → Bool} {n p : Nat} (h : P p = false) : rnn P n p = 0 := by
  unfold rnn
  cases n - p with
  | zero => rfl
  | succ f => simp [rn, h]
theorem rnn_yes {P : Nat → Bool} {n p : Nat} (hp : p < n) (h : P p = true) : rnn P n p = rnn P n (p + 1) + 1 := by
  unfold rnn
  rw [show n - p = (n - (p + 1)) + 1 by omega]
  simp [rn, h]
theorem rnn_le {P : Nat → Bool} {n : Nat} : ∀ (f p : Nat), n - p = f → rnn P n p ≤ n - p := by
  intro f
  induction f with
  | zero => intro p h; rw [rnn_ge (by omega)]; omega
  | succ f ih =>
    intro p h
    cases hP : P p with
    | false => rw [rnn_no hP]; omega
    | true =>
      rw [rnn_yes (by omega) hP]
      have := ih (p + 1) (by omega)
      omega
theorem rnn_in {P : Nat → Bool} {n : Nat} : ∀ (f p j : Nat), n - p = f → j < rnn P n p → P (p + j) = true ∧ p + j < n := by
  intro f
  induction f with
  | zero => intro p j h hj; rw [rnn_ge (by omega)] at hj; omega
  | succ f ih =>
    intro p j h hj
    cases hP : P p with
    | false => rw [rnn_no hP] at hj; omega
    | true =>
      rw [rnn_yes (by omega) hP] at hj
      match j, hj with
      | 0, _ => exact ⟨hP, by omega⟩
      | j + 1, hj =>
        have := ih (p + 1) j (by omega) (by omega)
        rw [show p + (j + 1) = p + 1 + j by omega]
        exact this
theorem rnn_end {P : Nat → Bool} {n : Nat} : ∀ (f p : Nat), n - p = f → p ≤ n → p + rnn P n p = n ∨ P (p + rnn P n p) = false := by
  intro f
  induction f with
  | zero => intro p h h2; rw [rnn_ge (by omega)]; omega
  | succ f ih =>
    intro p h h2
    cases hP : P p with
    | false => rw [rnn_no hP]; right; exact hP
    | true =>
      rw [rnn_yes (by omega) hP]
      have := ih (p + 1) (by omega) (by omega)
      rw [show p + (rnn P n (p + 1) + 1) = p + 1 + rnn P n (p + 1) by omega]
      exact this
theorem rnn_stop {P : Nat → Bool} {n p k : Nat} (h : k ≤ rnn P n p) (hs : n ≤ p + k ∨ P (p + k) = false) : rnn P n p = k := by
  by_cases e : k < rnn P n p
  · have := rnn_in _ p k rfl e
    rcases hs with q | q
    · omega
    · rw [q] at this; cases this.1
  · omega
theorem rnn_go {P : Nat → Bool} {n p k : Nat} (hp : p ≤ n) (h : k ≤ rnn P n p) (h1 : P (p + k) = true) (h2 : p + k < n) : k + 1 ≤ rnn P n p := by
  by_cases e : k = rnn P n p
  · have := rnn_end (P := P) _ p rfl hp
    rw [← e] at this
    rcases this with q | q
    · omega
    · rw [h1] at q; cases q
  · omega
/-- which word; 22: none -/
def wkF (y : Int64) : Nat → Nat → Nat
  | 0, k => k
  | f + 1, k => if tKv k = y then k else wkF y f (k + 1)
def wk (y : Int64) : Nat := wkF y 22 0
theorem wkF_le (y : Int64) : ∀ (f k : Nat), k ≤ wkF y f k ∧ wkF y f k ≤ k + f
  | 0, k => by simp [wkF]
  | f + 1, k => by
    unfold wkF
    split
    · omega
    · have := wkF_le y f (k + 1); omega
theorem wkF_hit (y : Int64) : ∀ (f k : Nat), wkF y f k < k + f → tKv (wkF y f k) = y
  | 0, k, h => by simp [wkF] at h
  | f + 1, k, h => by
    unfold wkF at h ⊢
    split
    · assumption
    · rename_i hn
      rw [if_neg hn] at h
      exact wkF_hit y f (k + 1) (by omega)
theorem wk_le (y : Int64) : wk y ≤ 22 := by have := wkF_le y 22 0; unfold wk; omega
theorem wk_hit {y : Int64} (h : wk y < 22) : tKv (wk y) = y := wkF_hit y 22 0 (by unfold wk at h; omega)
theorem wk_own : ∀ k : Nat, k < 22 → wk (tKv k) = k := by decide +kernel
section CUT
variable (B : Nat → Int32) (n : Nat)
def bL (i : Nat) : Bool := decide (97 ≤ (B i).toInt ∧ (B i).toInt ≤ 122)
def bD (i : Nat) : Bool := decide (48 ≤ (B i).toInt ∧ (B i).toInt ≤ 57)
def bW (i : Nat) : Bool := decide ((B i).toInt = 9 ∨ (B i).toInt = 10 ∨ (B i).toInt = 13 ∨ (B i).toInt = 32)
def nm (p : Nat) : Nat → Int64
  | 0 => 0
  | k + 1 => nm p k * 27 + ((B (p + k) - 97) + 1).toInt64
def dv (p : Nat) : Nat → Int64
  | 0 => 0
  | k + 1 => dv p k * 10 + (B (p + k) - 48).toInt64
def sg (c : Int) : Int := if c = 40 ∨ c = 41 ∨ c = 42 ∨ c = 43 ∨ c = 45 ∨ c = 47 ∨ c = 59 ∨ c = 60 ∨ c = 61 then c else 25
def kd (p : Nat) : Int := if n ≤ p then 24 else cond (bL B p) (if rnn (bL B) n p ≤ 8 then (wk (nm B p (rnn (bL B) n p)) : Int) else 25) (cond (bD B p) (if rnn (bD B) n p ≤ 4 then 23 else 25) (sg (B p).toInt))
def en (p : Nat) : Nat := if n ≤ p then p else cond (bL B p) (p + rnn (bL B) n p) (cond (bD B p) (p + rnn (bD B) n p) (p + 1))
def sk (p : Nat) : Nat := p + rnn (bW B) n p
def ps : Nat → Nat
  | 0 => 0
  | i + 1 => en B n (sk B n (ps i))
/-- the place, the kind, the value of each token -/
def tP (i : Nat) : Nat := sk B n (ps B n i)
def tK (i : Nat) : Int := kd B n (tP B n i)
def tV (i : Nat) : Int64 := cond (bL B (tP B n i)) (nm B (tP B n i) (rnn (bL B) n (tP B n i))) (dv B (tP B n i) (rnn (bD B) n (tP B n i)))
/-- no end, nothing that is no token ahead of it -/
def lv (i : Nat) : Prop := ∀ j, j < i → tK B n j ≠ 24 ∧ tK B n j ≠ 25
end CUT
section CUL
variable {B : Nat → Int32} {n : Nat}
theorem lv.dn {i j : Nat} (h : lv B n i) (hj : j ≤ i) : lv B n j := fun k hk => h k (by omega)
theorem lv.up {i : Nat} (h : lv B n i) (h1 : tK B n i ≠ 24) (h2 : tK B n i ≠ 25) : lv B n (i + 1) := fun k hk => by
  by_cases e : k = i
  · subst e; exact ⟨h1, h2⟩
  · exact h k (by omega)
theorem sk_le {p : Nat} (hp : p ≤ n) : p ≤ sk B n p ∧ sk B n p ≤ n := by
  unfold sk
  have := rnn_le (P := bW B) (n := n) _ p rfl
  omega
theorem en_le {p : Nat} (hp : p ≤ n) : p ≤ en B n p ∧ en B n p ≤ n ∧ (p < n → p < en B n p) := by
  unfold en
  by_cases h : n ≤ p
  · rw [if_pos h]; omega
  · rw [if_neg h]
    cases hL : bL B p with
    | true =>
      have := rnn_le (P := bL B) (n := n) _ p rfl
      have e := rnn_yes (P := bL B) (n := n) (p := p) (by omega) hL
      simp only [cond_true]
      omega
    | false =>
      cases hD : bD B p with
      | true =>
        have := rnn_le (P := bD B) (n := n) _ p rfl
        have e := rnn_yes (P := bD B) (n := n) (p := p) (by omega) hD
        simp only [cond_true, cond_false]
        omega
      | false => simp only [cond_false]; omega
theorem ps_le : ∀ i : Nat, ps B n i ≤ n
  | 0 => Nat.zero_le _
  | i + 1 => (en_le (sk_le (ps_le i)).2).2.1
theorem tP_le (i : Nat) : tP B n i ≤ n := (sk_le (ps_le i)).2
theorem kd_end {p : Nat} (h : n ≤ p) : kd B n p = 24 := by unfold kd; rw [if_pos h]
theorem tK_end {i : Nat} (h : tK B n i ≠ 24) : tP B n i < n := by
  by_cases e : n ≤ tP B n i
  · exact absurd (kd_end e) h
  · omega
/-- places go up -/
theorem tP_up {i : Nat} (h : tK B n i ≠ 24) : tP B n i < tP B n (i + 1) := by
  have h1 := tK_end h
  have h2 := (en_le (B := B) (tP_le i)).2.2 h1
  have h3 := (sk_le (B := B) (n := n) (ps_le (B := B) (n := n) (i + 1))).1
  exact Nat.lt_of_lt_of_le h2 h3
theorem tP_lt {i : Nat} : ∀ (k : Nat), lv B n (i + k + 1) → tP B n i < tP B n (i + k + 1)
  | 0, h => tP_up (h i (by omega)).1
  | k + 1, h => Nat.lt_trans (tP_lt k (h.dn (by omega))) (tP_up (h (i + k + 1) (by omega)).1)
theorem tP_mono {i j : Nat} (hij : i < j) (h : lv B n j) : tP B n i < tP B n j := by
  have := tP_lt (B := B) (n := n) (i := i) (j - i - 1) (by rw [show i + (j - i - 1) + 1 = j by omega]; exact h)
  rw [show i + (j - i - 1) + 1 = j by omega] at this
  exact this
theorem sg_r (c : Int) : (sg c = 25 ∨ (40 ≤ sg c ∧ sg c ≤ 61)) := by
  unfold sg
  split
  · right; omega
  · left; rfl
theorem tK_r (i : Nat) : 0 ≤ tK B n i ∧ tK B n i ≤ 61 := by
  unfold tK kd
  split
  · omega
  · cases bL B (tP B n i) with
    | true =>
      simp only [cond_true]
      split
      · have := wk_le (nm B (tP B n i) (rnn (bL B) n (tP B n i))); omega
      · omega
    | false =>
      cases bD B (tP B n i) with
      | true => simp only [cond_true, cond_false]; split <;> omega
      | false =>
        simp only [cond_false]
        have := sg_r (B (tP B n i)).toInt
        omega
end CUL
end
section
/-! THE CLASS's scan, exactly -/
def TX (B : Nat → Int32) (n : Nat) (m : dM) : Prop := m.2.2 = true ∧ (m.1 38 5).toInt = n ∧ n ≤ 2000 ∧ ∀ i : Nat, B i = if i < n then (m.1 1 i) &&& 255 else 0
section SCAN
variable {B : Nat → Int32} {n : Nat}
theorem TX.r {m : dM} (hT : TX B n m) (i : Nat) : 0 ≤ (B i).toInt ∧ (B i).toInt ≤ 255 := by
  rw [hT.2.2.2]
  split
  · exact dAndE (x := m.1 1 i) (y := 255) (by decide)
  · decide
theorem TX.of {m m' : dM} (hT : TX B n m) (h1 : m'.1 1 = m.1 1) (h2 : m'.1 38 5 = m.1 38 5) (h3 : m'.2.2 = m.2.2) : TX B n m' := by
  unfold TX
  rw [h1, h2, h3]
  exact hT
theorem f_byteAt {x1 : Int32} {i : Nat} {m : dM} {Q : Int32 → dM → Prop} (hT : TX B n m) (hx : x1.toInt = i) (hQ : Q (B i) m) : c_X8_byteAt_38 1 x1 m Q := by
  obtain ⟨h1, h2, h3, h4⟩ := hT
  have e := h4 i
  refine v_X8_byteAt_38 ⟨fun q => (by rw [h1] at q; cases q), fun _ => ⟨fun q => (by exfalso; omega), fun _ => ⟨fun q => ?_, fun q => ⟨fun q2 => by exfalso; omega, fun q2 => ⟨by omega, ?_⟩⟩⟩⟩⟩
  · rw [if_neg (by omega)] at e
    rw [e] at hQ
    exact v_X8_byteAt_38_41 hQ
  · rw [if_pos (by omega)] at e
    rw [d_cn hx, ← e]
    exact hQ
theorem f_isLetterAt {x1 : Int32} {i : Nat} {m : dM} {Q : Int32 → dM → Prop} (hT : TX B n m) (hx : x1.toInt = i) (h1 : bL B i = true → Q 1 m) (h0 : bL B i = false → Q 0 m) : c_X8_isLetterAt_38 2 x1 m Q := by
  refine v_X8_isLetterAt_38 (f_byteAt hT hx ?_)
  unfold bL at h1 h0
  exact ⟨fun q => v_X8_isLetterAt_38_22 (h0 (decide_eq_false (by omega))), fun q => ⟨fun q2 => v_X8_isLetterAt_38_22 (h0 (decide_eq_false (by omega))), fun q2 => h1 (decide_eq_true ⟨q, q2⟩)⟩⟩
theorem f_isDigitAt {x1 : Int32} {i : Nat} {m : dM} {Q : Int32 → dM → Prop} (hT : TX B n m) (hx : x1.toInt = i) (h1 : bD B i = true → Q 1 m) (h0 : bD B i = false → Q 0 m) : c_X8_isDigitAt_38 2 x1 m Q := by
  refine v_X8_isDigitAt_38 (f_byteAt hT hx ?_)
  unfold bD at h1 h0
  exact ⟨fun q => v_X8_isDigitAt_38_22 (h0 (decide_eq_false (by omega))), fun q => ⟨fun q2 => v_X8_isDigitAt_38_22 (h0 (decide_eq_false (by omega))), fun q2 => h1 (decide_eq_true ⟨q, q2⟩)⟩⟩
theorem f_pastBlanks_2 {m : dM} {Q : Int32 → dM → Prop} (hT : TX B n m) : ∀ (f p : Nat) (x2 : Int32), n - p = f → p ≤ n → x2.toInt = p → (∀ r : Int32, r.toInt = (sk B n p : Nat) → Q r m) → j_X8_pastBlanks_38_2 2 x2 m Q := by
  have h38 := hT.2.1
  have h2000 := hT.2.2.1
  intro f
  induction f with
  | zero =>
    intro p x2 hf hp hx hQ
    refine v_X8_pastBlanks_38_2 ⟨fun _ => hQ _ ?_, fun q => by exfalso; omega⟩
    unfold sk
    rw [rnn_ge (by omega)]
    omega
  | succ f ih =>
    intro p x2 hf hp hx hQ
    refine v_X8_pastBlanks_38_2 ⟨fun q => by exfalso; omega, fun _ => f_byteAt hT hx ?_⟩
    have go : bW B p = true → j_X8_pastBlanks_38_42 2 x2 m Q := fun hb => by
      refine v_X8_pastBlanks_38_42 (ih (p + 1) _ (by omega) (by omega) (d_add hx (by decide) (by omega)) (fun r hr => hQ r ?_))
      rw [hr]
      unfold sk
      rw [rnn_yes (by omega) hb]
      omega
    unfold bW at go
    refine ⟨fun q => go (decide_eq_true (by omega)), fun q1 => ⟨fun q => go (decide_eq_true (by omega)), fun q2 => ⟨fun q => go (decide_eq_true (by omega)), fun q3 => ⟨fun q => go (decide_eq_true (by omega)), fun q4 => hQ _ ?_⟩⟩⟩⟩
    unfold sk
    rw [rnn_no (by unfold bW; exact decide_eq_false (by omega))]
    omega
theorem f_pastBlanks {m : dM} {Q : Int32 → dM → Prop} {p : Nat} {x1 : Int32} (hT : TX B n m) (hp : p ≤ n) (hx : x1.toInt = p) (hQ : ∀ r : Int32, r.toInt = (sk B n p : Nat) → Q r m) : c_X8_pastBlanks_38 2 x1 m Q :=
  v_X8_pastBlanks_38 (f_pastBlanks_2 hT _ p x1 rfl hp hx hQ)
theorem f_wordOrName_2 {y1 : Int64} {m : dM} {Q : Int32 → dM → Prop} (hQ : ∀ r : Int32, r.toInt = (wk y1 : Nat) → Q r m) : ∀ (f k : Nat) (x3 : Int32), k + f = 22 → x3.toInt = k → wk y1 = wkF y1 f k → j_X8_wordOrName_38_2 1 y1 x3 m Q := by
  intro f
  induction f with
  | zero =>
    intro k x3 hk hx hw
    refine v_X8_wordOrName_38_2 ⟨fun _ => hQ _ ?_, fun q => by exfalso; omega⟩
    rw [hw]
    show (22 : Int) = (k : Nat)
    omega
  | succ f ih =>
    intro k x3 hk hx hw
    refine v_X8_wordOrName_38_2 ⟨fun q => by exfalso; omega, fun q => ⟨by omega, ?_⟩⟩
    rw [d_cn hx]
    have hc := dCmpE (tKv k) y1
    unfold wkF at hw
    refine ⟨fun q1 => ih (k + 1) _ (by omega) (d_add hx (by decide) (by omega)) ?_, fun q1 => hQ _ ?_⟩
    · rw [if_neg (fun e => q1 (hc.2.2.mpr e))] at hw
      exact hw
    · rw [if_pos (hc.2.2.mp q1)] at hw
      rw [hx, hw]
theorem f_wordOrName {y1 : Int64} {m : dM} {Q : Int32 → dM → Prop} (hQ : ∀ r : Int32, r.toInt = (wk y1 : Nat) → Q r m) : c_X8_wordOrName_38 1 y1 m Q :=
  v_X8_wordOrName_38 (f_wordOrName_2 hQ 22 0 _ rfl (by decide) rfl)
theorem f_scanDigits_5 {x1 x2 : Int32} {p : Nat} {m : dM} {Q : Int32 → dM → Prop} (hT : TX B n m) (hi : 0 ≤ x1.toInt ∧ x1.toInt < 401) (hp : p < n) (h2 : x2.toInt = p)
    (hQ : ∀ (r : Int32) (y : Int64) (v : Int32), (v.toInt = if rnn (bD B) n p ≤ 4 then 23 else 25) → (rnn (bD B) n p ≤ 4 → r.toInt = (p + rnn (bD B) n p : Nat) ∧ y = dv B p (rnn (bD B) n p)) → Q r (dSet (dSetL m 41 x1.toNatClampNeg y) 39 x1.toNatClampNeg v)) :
    ∀ (f k : Nat) (x5 : Int32), k + f = 5 → k ≤ rnn (bD B) n p → x5.toInt = (p + k : Nat) → j_X8_scanDigits_38_5 3 x1 x2 (dv B p k) x5 m Q := by
  have h38 := hT.2.1
  have h2000 := hT.2.2.1
  have fin : ∀ (k : Nat) (x5 : Int32), k ≤ 5 → (rnn (bD B) n p = k ∨ k = 5 ∧ 5 ≤ rnn (bD B) n p) → x5.toInt = (p + k : Nat) → j_X8_scanDigits_38_54 3 x1 x2 (dv B p k) x5 m Q := by
    intro k x5 hk hr h5
    have fs := dSubE (X := ((p + k : Nat) : Int)) (Y := (p : Int)) (x := x5) (y := x2) h5 h2 (by omega) (by omega)
    refine v_X8_scanDigits_38_54 ⟨hi, fun q => ⟨hi, hQ _ _ _ ?_ (fun q2 => ?_)⟩, fun q => ⟨hi, hQ _ _ _ ?_ (fun q2 => ?_)⟩⟩
    · rw [if_pos (by omega)]; decide
    · have e : rnn (bD B) n p = k := by omega
      rw [e]
      exact ⟨h5, rfl⟩
    · rw [if_neg (by omega)]; decide
    · exfalso; omega
  intro f
  induction f with
  | zero =>
    intro k x5 hk hr h5
    have fs := dSubE (X := ((p + k : Nat) : Int)) (Y := (p : Int)) (x := x5) (y := x2) h5 h2 (by omega) (by omega)
    exact v_X8_scanDigits_38_5 ⟨fun q => fin k x5 (by omega) (by omega) h5, fun q => ⟨fun q2 => fin k x5 (by omega) (by omega) h5, fun q2 => by exfalso; omega⟩⟩
  | succ f ih =>
    intro k x5 hk hr h5
    have fs := dSubE (X := ((p + k : Nat) : Int)) (Y := (p : Int)) (x := x5) (y := x2) h5 h2 (by omega) (by omega)
    refine v_X8_scanDigits_38_5 ⟨fun q => fin k x5 (by omega) (Or.inl (rnn_stop hr (Or.inl (by omega)))) h5, fun q => ⟨fun q2 => by exfalso; omega, fun q2 => f_isDigitAt hT h5 (fun hb => ?_) (fun hb => ?_)⟩⟩
    · refine ⟨fun z => absurd z (by decide), fun _ => Wp.deep (f_byteAt hT h5 ?_) (Nat.le_of_ble_eq_true rfl)⟩
      exact ih (k + 1) _ (by omega) (rnn_go (by omega) hr hb (by omega)) (d_inc (i := p + k) h5 (by omega))
    · exact ⟨fun _ => fin k x5 (by omega) (Or.inl (rnn_stop hr (Or.inr hb))) h5, fun z => absurd (by decide) z⟩
theorem f_scanLetters_5 {x1 x2 : Int32} {p : Nat} {m : dM} {Q : Int32 → dM → Prop} (hT : TX B n m) (hi : 0 ≤ x1.toInt ∧ x1.toInt < 401) (hp : p < n) (h2 : x2.toInt = p)
    (hQ : ∀ (r : Int32) (y : Int64) (v : Int32), (v.toInt = if rnn (bL B) n p ≤ 8 then (wk (nm B p (rnn (bL B) n p)) : Int) else 25) → (rnn (bL B) n p ≤ 8 → r.toInt = (p + rnn (bL B) n p : Nat) ∧ y = nm B p (rnn (bL B) n p)) → Q r (dSet (dSetL m 41 x1.toNatClampNeg y) 39 x1.toNatClampNeg v)) :
    ∀ (f k : Nat) (x5 : Int32), k + f = 9 → k ≤ rnn (bL B) n p → x5.toInt = (p + k : Nat) → j_X8_scanLetters_38_5 3 x1 x2 (nm B p k) x5 m Q := by
  have h38 := hT.2.1
  have h2000 := hT.2.2.1
  have fin : ∀ (k : Nat) (x5 : Int32), k ≤ 9 → (rnn (bL B) n p = k ∨ k = 9 ∧ 9 ≤ rnn (bL B) n p) → x5.toInt = (p + k : Nat) → j_X8_scanLetters_38_49 3 x1 x2 (nm B p k) x5 m Q := by
    intro k x5 hk hr h5
    have fs := dSubE (X := ((p + k : Nat) : Int)) (Y := (p : Int)) (x := x5) (y := x2) h5 h2 (by omega) (by omega)
    refine v_X8_scanLetters_38_49 ⟨hi, fun q => Wp.deep (f_wordOrName (fun r hr2 => ⟨hi, hQ _ _ _ ?_ (fun q2 => ?_)⟩)) (Nat.le_of_ble_eq_true rfl), fun q => ⟨hi, hQ _ _ _ ?_ (fun q2 => ?_)⟩⟩
    · have e : rnn (bL B) n p = k := by omega
      rw [if_pos (by omega), e, hr2]
    · have e : rnn (bL B) n p = k := by omega
      rw [e]
      exact ⟨h5, rfl⟩
    · rw [if_neg (by omega)]; decide
    · exfalso; omega
  intro f
  induction f with
  | zero =>
    intro k x5 hk hr h5
    have fs := dSubE (X := ((p + k : Nat) : Int)) (Y := (p : Int)) (x := x5) (y := x2) h5 h2 (by omega) (by omega)
    exact v_X8_scanLetters_38_5 ⟨fun q => fin k x5 (by omega) (by omega) h5, fun q => ⟨fun q2 => fin k x5 (by omega) (by omega) h5, fun q2 => by exfalso; omega⟩⟩
  | succ f ih =>
    intro k x5 hk hr h5
    have fs := dSubE (X := ((p + k : Nat) : Int)) (Y := (p : Int)) (x := x5) (y := x2) h5 h2 (by omega) (by omega)
    refine v_X8_scanLetters_38_5 ⟨fun q => fin k x5 (by omega) (Or.inl (rnn_stop hr (Or.inl (by omega)))) h5, fun q => ⟨fun q2 => by exfalso; omega, fun q2 => f_isLetterAt hT h5 (fun hb => ?_) (fun hb => ?_)⟩⟩
    · refine ⟨fun z => absurd z (by decide), fun _ => Wp.deep (f_byteAt hT h5 (v_X8_withLetter (d := 1) ?_)) (Nat.le_of_ble_eq_true rfl)⟩
      exact ih (k + 1) _ (by omega) (rnn_go (by omega) hr hb (by omega)) (d_inc (i := p + k) h5 (by omega))
    · exact ⟨fun _ => fin k x5 (by omega) (Or.inl (rnn_stop hr (Or.inr hb))) h5, fun z => absurd (by decide) z⟩
theorem f_signOf {x0 : Int32} {m : dM} {Q : Int32 → dM → Prop} (hQ : ∀ r : Int32, r.toInt = sg x0.toInt → Q r m) : c_X8_signOf 1 x0 m Q := by
  have yes : (x0.toInt = 40 ∨ x0.toInt = 41 ∨ x0.toInt = 42 ∨ x0.toInt = 43 ∨ x0.toInt = 45 ∨ x0.toInt = 47 ∨ x0.toInt = 59 ∨ x0.toInt = 60 ∨ x0.toInt = 61) → Q x0 m := fun h => hQ x0 (by unfold sg; rw [if_pos h])
  have bad : ¬ (x0.toInt = 40 ∨ x0.toInt = 41 ∨ x0.toInt = 42 ∨ x0.toInt = 43 ∨ x0.toInt = 45 ∨ x0.toInt = 47 ∨ x0.toInt = 59 ∨ x0.toInt = 60 ∨ x0.toInt = 61) → Q 25 m := fun h => hQ 25 (by unfold sg; rw [if_neg h]; decide)
  refine v_X8_signOf ?_
  repeat' apply And.intro
  all_goals first
    | exact (fun q => yes (by omega))
    | exact (fun q => bad (by omega))
/-- the value of a token that begins at p -/
def vl (B : Nat → Int32) (n p : Nat) : Int64 := cond (bL B p) (nm B p (rnn (bL B) n p)) (dv B p (rnn (bD B) n p))
/-- one token told: its kind, its value, no other place -/
def S1 (B : Nat → Int32) (n p i : Nat) (m m' : dM) : Prop := (∀ k j : Nat, ¬ (k = 39 ∧ j = i) → m'.1 k j = m.1 k j) ∧ (m'.1 39 i).toInt = kd B n p ∧ (∀ k j : Nat, ¬ (k = 41 ∧ j = i) → m'.2.1 k j = m.2.1 k j) ∧ (kd B n p ≤ 23 → m'.2.1 41 i = vl B n p) ∧ m'.2.2 = m.2.2
theorem f_scanOne {x1 x2 : Int32} {i p : Nat} {m : dM} {Q : Int32 → dM → Prop} (hT : TX B n m) (h1 : x1.toInt = i) (hi : i ≤ 400) (h2 : x2.toInt = p) (hp : p ≤ n) (hQ : ∀ (r : Int32) (m' : dM), S1 B n p i m m' → (kd B n p ≠ 25 → r.toInt = (en B n p : Nat)) → Q r m') : c_X8_scanOne_38 4 x1 x2 m Q := by
  have h38 := hT.2.1
  have h2000 := hT.2.2.1
  have hb : 0 ≤ x1.toInt ∧ x1.toInt < 401 := by omega
  have ei := d_cn h1
  have one : ∀ (v : Int32), v.toInt = kd B n p → ¬ kd B n p ≤ 23 → S1 B n p i m (dSet m 39 i v) := fun v hv h => by
    refine ⟨fun k j q => ?_, ?_, fun _ _ _ => rfl, fun q => absurd q h, rfl⟩
    · rw [dSet_e, if_neg q]
    · rw [dSet_s, hv]
  have two : ∀ (v : Int32) (y : Int64), v.toInt = kd B n p → (kd B n p ≤ 23 → y = vl B n p) → S1 B n p i m (dSet (dSetL m 41 i y) 39 i v) := fun v y hv hy => by
    refine ⟨fun k j q => ?_, ?_, fun k j q => ?_, fun q => ?_, rfl⟩
    · rw [dSet_e, if_neg q]
      rfl
    · rw [dSet_s, hv]
    · show (dSetL m 41 i y).2.1 k j = _
      rw [dSetL_e, if_neg q]
    · show (dSetL m 41 i y).2.1 41 i = _
      rw [dSetL_e, if_pos ⟨rfl, rfl⟩]
      exact hy q
  refine v_X8_scanOne_38 ⟨fun hlt => ?_, fun hge => ⟨hb, ?_⟩⟩
  · have hpn : p < n := by omega
    have hng : ¬ n ≤ p := by omega
    refine Wp.deep (f_isLetterAt hT h2 (fun hL => ⟨fun q => absurd q (by decide), fun _ => ?_⟩) (fun hL => ⟨fun _ => ?_, fun q => absurd (by decide) q⟩)) (Nat.le_of_ble_eq_true rfl)
    · refine v_X8_scanLetters_38 (f_scanLetters_5 hT hb hpn h2 (fun r y v hv hr => ?_) 9 0 _ rfl (Nat.zero_le _) (by rw [h2]; omega))
      rw [ei]
      have ek : kd B n p = if rnn (bL B) n p ≤ 8 then (wk (nm B p (rnn (bL B) n p)) : Int) else 25 := by
        unfold kd
        rw [if_neg hng, hL]
        rfl
      refine hQ _ _ (two v y (by rw [ek, hv]) (fun q => ?_)) (fun q => ?_)
      · by_cases h8 : rnn (bL B) n p ≤ 8
        · rw [(hr h8).2]
          unfold vl
          rw [hL]
          rfl
        · rw [ek, if_neg h8] at q
          exfalso; omega
      · by_cases h8 : rnn (bL B) n p ≤ 8
        · rw [(hr h8).1]
          unfold en
          rw [if_neg hng, hL]
          rfl
        · rw [ek, if_neg h8] at q
          exact absurd rfl q
    · refine Wp.deep (f_isDigitAt hT h2 (fun hD => ⟨fun q => absurd q (by decide), fun _ => ?_⟩) (fun hD => ⟨fun _ => ?_, fun q => absurd (by decide) q⟩)) (Nat.le_of_ble_eq_true rfl)
      · refine v_X8_scanDigits_38 (f_scanDigits_5 hT hb hpn h2 (fun r y v hv hr => ?_) 5 0 _ rfl (Nat.zero_le _) (by rw [h2]; omega))
        rw [ei]
        have ek : kd B n p = if rnn (bD B) n p ≤ 4 then 23 else 25 := by
          unfold kd
          rw [if_neg hng, hL, hD]
          rfl
        refine hQ _ _ (two v y (by rw [ek, hv]) (fun q => ?_)) (fun q => ?_)
        · by_cases h8 : rnn (bD B) n p ≤ 4
          · rw [(hr h8).2]
            unfold vl
            rw [hL]
            rfl
          · rw [ek, if_neg h8] at q
            exfalso; omega
        · by_cases h8 : rnn (bD B) n p ≤ 4
          · rw [(hr h8).1]
            unfold en
            rw [if_neg hng, hL, hD]
            rfl
          · rw [ek, if_neg h8] at q
            exact absurd rfl q
      · refine Wp.deep (f_byteAt hT h2 (Wp.deep (f_signOf (fun r hr => ⟨hb, ?_⟩)) (Nat.le_of_ble_eq_true rfl))) (Nat.le_of_ble_eq_true rfl)
        rw [ei]
        have ek : kd B n p = sg (B p).toInt := by
          unfold kd
          rw [if_neg hng, hL, hD]
          rfl
        refine hQ _ _ (one r (by rw [ek, hr]) ?_) (fun q => ?_)
        · rw [ek]
          have := sg_r (B p).toInt
          omega
        · rw [d_inc h2 (by omega)]
          unfold en
          rw [if_neg hng, hL, hD]
          rfl
  · rw [ei]
    have ek : kd B n p = 24 := kd_end (by omega)
    refine hQ _ _ (one 24 (by rw [ek]; decide) (by rw [ek]; decide)) (fun q => ?_)
    unfold en
    rw [if_pos (by omega)]
    exact h2
/-- what stands in the rows of tokens -/
def TK (B : Nat → Int32) (n i : Nat) (m : dM) : Prop := (m.1 39 i).toInt = tK B n i ∧ (m.1 40 i).toInt = (tP B n i : Nat) ∧ (tK B n i ≤ 23 → m.2.1 41 i = tV B n i)
def SF (m m' : dM) : Prop := (∀ k : Nat, k ≠ 39 → k ≠ 40 → m'.1 k = m.1 k) ∧ (∀ k : Nat, k ≠ 41 → m'.2.1 k = m.2.1 k) ∧ m'.2.2 = m.2.2
theorem f_scan_20 {mb : dM} {Q : dM → Prop} (hT : TX B n mb) (hQ : ∀ m', SF mb m' → (∀ i : Nat, i ≤ 400 → lv B n i → TK B n i m') → Q m') : ∀ (f i : Nat) (x3 x4 : Int32) (m : dM), i + f = 401 → x3.toInt = (ps B n i : Nat) → x4.toInt = i → lv B n i → SF mb m → (∀ j : Nat, j < i → TK B n j m) → j_X8_scan_38_1_20 5 x3 x4 m Q := by
  have h2000 := hT.2.2.1
  intro f
  induction f with
  | zero =>
    intro i x3 x4 m hf h3 h4 hl hS hd
    exact v_X8_scan_38_1_20 ⟨fun _ => hQ m hS (fun j hj _ => hd j (by omega)), fun q => by exfalso; omega⟩
  | succ f ih =>
    intro i x3 x4 m hf h3 h4 hl hS hd
    have hTm : TX B n m := hT.of (hS.1 1 (by decide) (by decide)) (by rw [hS.1 38 (by decide) (by decide)]) hS.2.2
    have hpn := ps_le (B := B) (n := n) i
    have hpi := tP_le (B := B) (n := n) i
    refine v_X8_scan_38_1_20 ⟨fun q => by exfalso; omega, fun _ => Wp.deep (f_pastBlanks hTm hpn h3 (fun r hr => ⟨by omega, ?_⟩)) (Nat.le_of_ble_eq_true rfl)⟩
    have hr : r.toInt = (tP B n i : Nat) := hr
    rw [d_cn h4]
    refine f_scanOne (m := dSet m 40 i r) (hTm.of (dSet_k (by decide)) (by rw [dSet_k (by decide)]) rfl) h4 (by omega) hr hpi (fun r2 m2 hs he => ?_)
    obtain ⟨s1, s2, s3, s4, s5⟩ := hs
    have s2 : (m2.1 39 i).toInt = tK B n i := s2
    have hS2 : SF mb m2 := by
      refine ⟨fun k h39 h40 => ?_, fun k h41 => ?_, s5.trans hS.2.2⟩
      · rw [← hS.1 k h39 h40]
        funext j
        rw [s1 k j (fun q => h39 q.1), dSet_k h40]
      · rw [← hS.2.1 k h41]
        funext j
        rw [s3 k j (fun q => h41 q.1)]
        rfl
    have hd2 : ∀ j : Nat, j < i + 1 → TK B n j m2 := by
      intro j hj
      by_cases e : j = i
      · subst e
        refine ⟨s2, ?_, s4⟩
        rw [s1 40 j (fun q => absurd q.1 (by decide)), dSet_s, hr]
      · obtain ⟨a, b, c⟩ := hd j (by omega)
        refine ⟨?_, ?_, fun q => ?_⟩
        · rw [s1 39 j (fun q => e q.2), dSet_k (by decide)]; exact a
        · rw [s1 40 j (fun q => absurd q.1 (by decide)), dSet_j e]; exact b
        · rw [s3 41 j (fun q => e q.2)]; exact c q
    have stop : tK B n i = 24 ∨ tK B n i = 25 → j_X8_scan_38_1_74 5 m2 Q := fun hk => by
      refine v_X8_scan_38_1_74 (hQ m2 hS2 (fun j hj hlj => ?_))
      by_cases e : j ≤ i
      · exact hd2 j (by omega)
      · have := hlj i (by omega)
        rcases hk with hk | hk
        · exact absurd hk this.1
        · exact absurd hk this.2
    refine ⟨by omega, fun q => stop (Or.inl (by omega)), fun q => ⟨by omega, fun q2 => ?_, fun q2 => stop (Or.inr (by omega))⟩⟩
    refine ih (i + 1) _ _ m2 (by omega) ?_ (d_add h4 (by decide) (by omega)) (hl.up (by omega) (by omega)) hS2 hd2
    exact he (by show tK B n i ≠ 25; omega)
theorem f_scan {x2 : Int32} {m : dM} {Q : dM → Prop} (hx : x2.toInt = n) (hn : n ≤ 2000) (hB : ∀ i : Nat, B i = if i < n then (m.1 1 i) &&& 255 else 0) (hQ : ∀ m', (∀ k : Nat, k ≠ 38 → k ≠ 39 → k ≠ 40 → m'.1 k = m.1 k) → (∀ k : Nat, k ≠ 41 → m'.2.1 k = m.2.1 k) → (m'.1 38 5).toInt = (n : Int) → (∀ i : Nat, i ≤ 400 → lv B n i → TK B n i m') → Q m') : c_X8_scan_38_1 5 x2 m Q := by
  have e : (if (2000 : Int32) < x2 then (2000 : Int32) else x2) = x2 := by
    rw [if_neg]
    intro q
    have := Int32.lt_iff_toInt_lt.mp q
    have e2 : (2000 : Int32).toInt = 2000 := by decide
    omega
  refine v_X8_scan_38_1 ?_
  rw [e]
  have hT : TX B n (dSet (dTx m) 38 5 x2) := by
    refine ⟨rfl, by rw [dSet_s]; exact hx, hn, fun i => ?_⟩
    rw [dSet_k (by decide)]
    exact hB i
  refine f_scan_20 hT (fun m' hS hd => hQ m' (fun k h1 h2 h3 => ?_) (fun k h1 => ?_) ?_ hd) 401 0 _ _ _ rfl (show (0 : Int32).toInt = ((0 : Nat) : Int) by decide) (by decide) (fun j hj => by omega) ⟨fun _ _ _ => rfl, fun _ _ => rfl, rfl⟩ (fun j hj => by omega)
  · rw [hS.1 k h2 h3, dSet_k h1]
    rfl
  · rw [hS.2.1 k h1]
    rfl
  · rw [hS.1 38 (by decide) (by decide), dSet_s]
    exact hx
end SCAN
end
section
/-! THE REFERENCE's cutsUp, exactly -/
/-- a kind as the reference numbers it -/
def rk (c : Int) : Int := if c < 22 then 20 + c else if c = 22 then 1 else if c = 23 then 2 else if c = 24 then 0 else if c = 25 then 3 else if c = 59 then 4 else if c = 61 then 5 else if c = 40 then 6 else if c = 41 then 7 else if c = 43 then 8 else if c = 45 then 9 else if c = 42 then 10 else if c = 60 then 13 else 15
theorem rk_sg (c : Int) : (c = 59 → rk (sg c) = 4) ∧ (c = 61 → rk (sg c) = 5) ∧ (c = 40 → rk (sg c) = 6) ∧ (c = 41 → rk (sg c) = 7) ∧ (c = 43 → rk (sg c) = 8) ∧ (c = 45 → rk (sg c) = 9) ∧ (c = 42 → rk (sg c) = 10) ∧ (c = 60 → rk (sg c) = 13) ∧ (c = 47 → rk (sg c) = 15) ∧ (¬ (c = 40 ∨ c = 41 ∨ c = 42 ∨ c = 43 ∨ c = 45 ∨ c = 47 ∨ c = 59 ∨ c = 60 ∨ c = 61) → rk (sg c) = 3) := by
  refine ⟨fun h => by subst h; decide, fun h => by subst h; decide, fun h => by subst h; decide, fun h => by subst h; decide, fun h => by subst h; decide, fun h => by subst h; decide, fun h => by subst h; decide, fun h => by subst h; decide, fun h => by subst h; decide, fun h => ?_⟩
  unfold sg
  rw [if_neg h]
  decide
def RX (B : Nat → Int32) (n : Nat) (m : dM) : Prop := (m.1 70 4).toInt = n ∧ n ≤ 2000 ∧ ∀ i : Nat, B i = if i < n then (m.1 72 i) &&& 255 else 0
/-- one token of the reference's -/
def RK (B : Nat → Int32) (n i : Nat) (m : dM) : Prop := (m.1 73 i).toInt = rk (tK B n i) ∧ (m.1 74 i).toInt = (tP B n i : Nat) ∧ (tK B n i ≤ 22 → m.2.1 76 i = tV B n i) ∧ (tK B n i = 23 → m.1 75 i = (tV B n i).toInt32)
def RF (m m' : dM) : Prop := (∀ k : Nat, k ≠ 70 → k ≠ 73 → k ≠ 74 → k ≠ 75 → m'.1 k = m.1 k) ∧ (∀ j : Nat, j ≠ 10 → m'.1 70 j = m.1 70 j) ∧ (∀ k : Nat, k ≠ 76 → m'.2.1 k = m.2.1 k)
section CUTS
variable {B : Nat → Int32} {n : Nat}
theorem RX.of {m m' : dM} (hT : RX B n m) (h1 : m'.1 72 = m.1 72) (h2 : m'.1 70 4 = m.1 70 4) : RX B n m' := by
  unfold RX
  rw [h1, h2]
  exact hT
theorem RX.r {m : dM} (hT : RX B n m) (i : Nat) : 0 ≤ (B i).toInt ∧ (B i).toInt ≤ 255 := by
  rw [hT.2.2]
  split
  · exact dAndE (x := m.1 72 i) (y := 255) (by decide)
  · decide
theorem RX.z {m : dM} (hT : RX B n m) {i : Nat} (h : n ≤ i) : B i = 0 := by rw [hT.2.2, if_neg (by omega)]
theorem g_byteAt {x1 : Int32} {i : Nat} {m : dM} {Q : Int32 → dM → Prop} (hT : RX B n m) (hx : x1.toInt = i) (hQ : Q (B i) m) : c_X12_byteAt_70 1 x1 m Q := by
  obtain ⟨h2, h3, h4⟩ := hT
  have e := h4 i
  refine v_X12_byteAt_70 ⟨fun q => ?_, fun q => ⟨by omega, ?_⟩⟩
  · rw [if_neg (by omega)] at e
    rw [e] at hQ
    exact hQ
  · rw [if_pos (by omega)] at e
    rw [d_cn hx, ← e]
    exact hQ
theorem g_isLetter {i : Nat} {m : dM} {Q : Int32 → dM → Prop} (h1 : bL B i = true → Q 1 m) (h0 : bL B i = false → Q 0 m) : c_X12_isLetter 1 (B i) m Q := by
  unfold bL at h1 h0
  exact u_isLetter (fun h => h1 (decide_eq_true h)) (fun h => h0 (decide_eq_false h))
theorem g_isDigit {i : Nat} {m : dM} {Q : Int32 → dM → Prop} (h1 : bD B i = true → Q 1 m) (h0 : bD B i = false → Q 0 m) : c_X12_isDigit 1 (B i) m Q := by
  unfold bD at h1 h0
  exact u_isDigit (fun h => h1 (decide_eq_true h)) (fun h => h0 (decide_eq_false h))
/-- a token is put -/
theorem g_token {x1 x2 x3 : Int32} {y4 : Int64} {i : Nat} {mb m : dM} {Q : dM → Prop} (hF : RF mb m) (ht : (m.1 70 10).toInt = i) (hi : i ≤ 400) (h1 : x1.toInt = rk (tK B n i)) (h2 : x2.toInt = (tP B n i : Nat)) (h3 : tK B n i = 23 → x3 = (tV B n i).toInt32) (h4 : tK B n i ≤ 22 → y4 = tV B n i) (hd : ∀ j : Nat, j < i → RK B n j m) (hQ : ∀ m', RF mb m' → (m'.1 70 10).toInt = ((i + 1 : Nat) : Int) → (∀ j : Nat, j < i + 1 → RK B n j m') → Q m') : c_X12_token_70 1 x1 x2 x3 y4 m Q := by
  have hb : 0 ≤ (m.1 70 10).toInt ∧ (m.1 70 10).toInt < 403 := by omega
  refine v_X12_token_70 ⟨hb, hb, hb, hb, ?_⟩
  rw [d_cn ht]
  refine hQ _ ⟨fun k a b c d => ?_, fun j a => ?_, fun k a => ?_⟩ ?_ (fun j hj => ?_)
  · rw [dSet_k a]
    show (dSet (dSet (dSet m 73 i x1) 74 i x2) 75 i x3).1 k = _
    rw [dSet_k d, dSet_k c, dSet_k b]
    exact hF.1 k a b c d
  · rw [dSet_j a]
    show (dSet (dSet (dSet m 73 i x1) 74 i x2) 75 i x3).1 70 j = _
    rw [dSet_k (by decide), dSet_k (by decide), dSet_k (by decide)]
    exact hF.2.1 j a
  · show (dSetL m 76 i y4).2.1 k = _
    funext j
    rw [dSetL_e, if_neg (fun q => a q.1), hF.2.2 k a]
  · rw [dSet_s]
    exact d_add ht (by decide) (by omega)
  · have r73 : (dSet (dSetL (dSet (dSet (dSet m 73 i x1) 74 i x2) 75 i x3) 76 i y4) 70 10 (m.1 70 10 + 1)).1 73 j = if j = i then x1 else m.1 73 j := by
      rw [dSet_k (by decide)]
      show (dSet (dSet (dSet m 73 i x1) 74 i x2) 75 i x3).1 73 j = _
      rw [dSet_k (by decide), dSet_k (by decide), dSet_e]
      by_cases e : j = i
      · rw [if_pos ⟨rfl, e⟩, if_pos e]
      · rw [if_neg (fun q => e q.2), if_neg e]
    have r74 : (dSet (dSetL (dSet (dSet (dSet m 73 i x1) 74 i x2) 75 i x3) 76 i y4) 70 10 (m.1 70 10 + 1)).1 74 j = if j = i then x2 else m.1 74 j := by
      rw [dSet_k (by decide)]
      show (dSet (dSet (dSet m 73 i x1) 74 i x2) 75 i x3).1 74 j = _
      rw [dSet_k (by decide), dSet_e, dSet_k (by decide)]
      by_cases e : j = i
      · rw [if_pos ⟨rfl, e⟩, if_pos e]
      · rw [if_neg (fun q => e q.2), if_neg e]
    have r75 : (dSet (dSetL (dSet (dSet (dSet m 73 i x1) 74 i x2) 75 i x3) 76 i y4) 70 10 (m.1 70 10 + 1)).1 75 j = if j = i then x3 else m.1 75 j := by
      rw [dSet_k (by decide)]
      show (dSet (dSet (dSet m 73 i x1) 74 i x2) 75 i x3).1 75 j = _
      rw [dSet_e, dSet_k (by decide), dSet_k (by decide)]
      by_cases e : j = i
      · rw [if_pos ⟨rfl, e⟩, if_pos e]
      · rw [if_neg (fun q => e q.2), if_neg e]
    have r76 : (dSet (dSetL (dSet (dSet (dSet m 73 i x1) 74 i x2) 75 i x3) 76 i y4) 70 10 (m.1 70 10 + 1)).2.1 76 j = if j = i then y4 else m.2.1 76 j := by
      show (dSetL m 76 i y4).2.1 76 j = _
      rw [dSetL_e]
      by_cases e : j = i
      · rw [if_pos ⟨rfl, e⟩, if_pos e]
      · rw [if_neg (fun q => e q.2), if_neg e]
    unfold RK
    rw [r73, r74, r75, r76]
    by_cases e : j = i
    · subst e
      simp only [if_true]
      exact ⟨h1, h2, h4, h3⟩
    · simp only [if_neg e]
      exact hd j (by omega)
theorem g_sign {x1 x2 x3 : Int32} {i : Nat} {mb m : dM} {Q : Int32 → dM → Prop} (hF : RF mb m) (ht : (m.1 70 10).toInt = i) (hi : i ≤ 400) (hk : tK B n i = sg x2.toInt) (h2 : x1.toInt = (tP B n i : Nat)) (hd : ∀ j : Nat, j < i → RK B n j m) (hQ : ∀ m', RF mb m' → (m'.1 70 10).toInt = ((i + 1 : Nat) : Int) → (∀ j : Nat, j < i + 1 → RK B n j m') → Q 1 m') : c_X12_sign_70 2 x1 x2 x3 m Q := by
  have hK := rk_sg x2.toInt
  have hr := sg_r x2.toInt
  have t3 := ti_3
  have t4 := ti_4
  have t5 := ti_5
  have t7 := ti_7
  have t8 := ti_8
  have t9 := ti_9
  have t10 := ti_10
  have t13 := ti_13
  have t6 : (6 : Int32).toInt = 6 := by decide
  have t15 : (15 : Int32).toInt = 15 := by decide
  generalize hc : x2.toInt = c at hK hr hk
  have h95 : ∀ x4 : Int32, x4.toInt = rk (sg c) → j_X12_sign_70_95 2 x1 x4 m Q := fun x4 h => v_X12_sign_70_95 (g_token hF ht hi (by rw [hk]; exact h) h2 (fun q => by rw [hk] at q; exfalso; omega) (fun q => by rw [hk] at q; exfalso; omega) hd hQ)
  have h85 : ∀ x4 : Int32, (c ≠ 60 → x4.toInt = rk (sg c)) → j_X12_sign_70_85 2 x1 x2 x4 m Q := fun x4 h => v_X12_sign_70_85 ⟨fun q => h95 _ (h (by omega)), fun q => h95 _ (by omega)⟩
  have h75 : ∀ x4 : Int32, (c ≠ 60 → c ≠ 47 → x4.toInt = rk (sg c)) → j_X12_sign_70_75 2 x1 x2 x4 m Q := fun x4 h => v_X12_sign_70_75 ⟨fun q => h85 _ (fun a => h a (by omega)), fun q => h85 _ (fun a => by omega)⟩
  have h65 : ∀ x4 : Int32, (c ≠ 60 → c ≠ 47 → c ≠ 42 → x4.toInt = rk (sg c)) → j_X12_sign_70_65 2 x1 x2 x4 m Q := fun x4 h => v_X12_sign_70_65 ⟨fun q => h75 _ (fun a b => h a b (by omega)), fun q => h75 _ (fun a b => by omega)⟩
  have h55 : ∀ x4 : Int32, (c ≠ 60 → c ≠ 47 → c ≠ 42 → c ≠ 45 → x4.toInt = rk (sg c)) → j_X12_sign_70_55 2 x1 x2 x4 m Q := fun x4 h => v_X12_sign_70_55 ⟨fun q => h65 _ (fun a b d => h a b d (by omega)), fun q => h65 _ (fun a b d => by omega)⟩
  refine v_X12_sign_70 ⟨fun q1 => ⟨fun q2 => ⟨fun q3 => ⟨fun q4 => ⟨fun q5 => h55 _ (fun a b d e => ?_), fun q5 => h55 _ (fun a b d e => ?_)⟩, fun q4 => ⟨fun q5 => h55 _ (fun a b d e => ?_), fun q5 => h55 _ (fun a b d e => ?_)⟩⟩, fun q3 => ⟨fun q5 => h55 _ (fun a b d e => ?_), fun q5 => h55 _ (fun a b d e => ?_)⟩⟩, fun q2 => ⟨fun q5 => h55 _ (fun a b d e => ?_), fun q5 => h55 _ (fun a b d e => ?_)⟩⟩, fun q1 => ⟨fun q5 => h55 _ (fun a b d e => ?_), fun q5 => h55 _ (fun a b d e => ?_)⟩⟩
  all_goals omega
/-- a name's word: the last that fits is the first -/
theorem g_146 {x1 x3 : Int32} {y4 : Int64} {m : dM} {Q : dM → Prop} (hQ : ∀ x6 : Int32, x6.toInt = rk (wk y4) → j_X12_cutsUp_70_179 3 x1 x3 y4 x6 m Q) : ∀ (f k : Nat) (x6 x7 : Int32), k + f = 22 → x7.toInt = k → x6.toInt = (if wk y4 < k then 20 + (wk y4 : Int) else 1) → j_X12_cutsUp_70_146 3 x1 x3 y4 x6 x7 m Q := by
  intro f
  induction f with
  | zero =>
    intro k x6 x7 hk h7 h6
    refine v_X12_cutsUp_70_146 ⟨fun _ => hQ _ ?_, fun q => by exfalso; omega⟩
    rw [h6]
    have := wk_le y4
    unfold rk
    by_cases e : wk y4 < k
    · rw [if_pos e, if_pos (by omega)]
    · rw [if_neg e, if_neg (by omega), if_pos (by omega)]
  | succ f ih =>
    intro k x6 x7 hk h7 h6
    refine v_X12_cutsUp_70_146 ⟨fun q => by exfalso; omega, fun q => ⟨by omega, ?_⟩⟩
    rw [d_cn h7]
    have hc := dCmpE (tKv k) y4
    refine ⟨fun q1 => v_X12_cutsUp_70_173 (ih (k + 1) _ _ (by omega) (d_add h7 (by decide) (by omega)) ?_), fun q1 => v_X12_cutsUp_70_173 (ih (k + 1) _ _ (by omega) (d_add h7 (by decide) (by omega)) ?_)⟩
    · have ne : wk y4 ≠ k := fun e => q1 (hc.2.2.mpr (by rw [← e]; exact wk_hit (by omega)))
      rw [h6]
      by_cases e : wk y4 < k
      · rw [if_pos e, if_pos (by omega)]
      · rw [if_neg e, if_neg (by omega)]
    · have e : wk y4 = k := by
        rw [← hc.2.2.mp q1]
        exact wk_own k (by omega)
      rw [if_pos (by omega), e]
      have := dAddE (X := 20) (Y := (k : Int)) (x := (20 : Int32)) (y := x7) (by decide) h7 (by omega) (by omega)
      exact this
theorem nm_comm (a : Int64) (b : Int64) : (27 : Int64) * a + b = a * 27 + b := by rw [Int64.mul_comm]
/-- the number as an int -/
def dw (B : Nat → Int32) (p : Nat) : Nat → Int32
  | 0 => 0
  | k + 1 => (10 * dw B p k + B (p + k)) - 48
theorem dw_eq (p : Nat) : ∀ k : Nat, (dv B p k).toInt32 = dw B p k
  | 0 => rfl
  | k + 1 => by
    unfold dv dw
    rw [Int64.toInt32_add, Int64.toInt32_mul, dw_eq p k, Int32.toInt32_toInt64]
    rw [Int32.mul_comm, Int32.sub_eq_add_neg, Int32.sub_eq_add_neg, Int32.add_assoc]
    rfl
theorem bL_out {m : dM} (hT : RX B n m) {p : Nat} (h : n ≤ p) : bL B p = false := by
  unfold bL
  rw [hT.z h]
  decide
theorem bD_out {m : dM} (hT : RX B n m) {p : Nat} (h : n ≤ p) : bD B p = false := by
  unfold bD
  rw [hT.z h]
  decide
theorem rk_22 {c : Int} (h0 : 0 ≤ c) (h : c ≤ 22) : rk c = if c < 22 then 20 + c else 1 := by
  unfold rk
  by_cases e : c < 22
  · rw [if_pos e, if_pos e]
  · rw [if_neg e, if_neg e, if_pos (by omega)]
/-- the letters of a name -/
theorem g_85 {x1 : Int32} {p : Nat} {m : dM} {Q : dM → Prop} (hT : RX B n m) (hp : p < n) (hx : x1.toInt = p) (hL : bL B p = true) (hQ : ∀ (x3 : Int32) (y4 : Int64) (x6 : Int32), x3.toInt = (rnn (bL B) n p : Nat) → x6.toInt = rk (kd B n p) → (kd B n p ≤ 22 → y4 = nm B p (rnn (bL B) n p)) → j_X12_cutsUp_70_179 3 x1 x3 y4 x6 m Q) : ∀ (f k : Nat) (x3 : Int32) (y4 : Int64), k + f = rnn (bL B) n p → x3.toInt = k → y4 = nm B p (min k 8) → j_X12_cutsUp_70_85 3 x1 x3 y4 m Q := by
  have h2000 := hT.2.1
  have hr := rnn_le (P := bL B) (n := n) _ p rfl
  have hng : ¬ n ≤ p := by omega
  have ek : kd B n p = if rnn (bL B) n p ≤ 8 then (wk (nm B p (rnn (bL B) n p)) : Int) else 25 := by
    unfold kd
    rw [if_neg hng, hL]
    rfl
  intro f
  induction f with
  | zero =>
    intro k x3 y4 hk h3 hy
    have hk : rnn (bL B) n p = k := by omega
    have ea := d_add (k := x3) (K := k) hx h3 (by omega)
    have hb : bL B (p + k) = false := by
      have := rnn_end (P := bL B) (n := n) _ p rfl (by omega)
      rw [hk] at this
      rcases this with q | q
      · exact bL_out hT (by omega)
      · exact q
    refine v_X12_cutsUp_70_85 (Wp.deep (g_byteAt hT ea (Wp.deep (g_isLetter (fun q => by rw [hb] at q; cases q) (fun _ => ⟨fun _ => ⟨fun q8 => ⟨fun z => by exfalso; omega, fun _ => ?_⟩, fun q8 => ⟨fun _ => ?_, fun z => by exfalso; omega⟩⟩, fun z => absurd (by decide) z⟩)) (Nat.le_of_ble_eq_true rfl))) (Nat.le_of_ble_eq_true rfl))
    · have ey : y4 = nm B p (rnn (bL B) n p) := by rw [hy, hk, Nat.min_eq_left (by omega)]
      refine g_146 (fun x6 h6 => hQ x3 y4 x6 (by omega) ?_ (fun _ => ey)) 22 0 _ _ rfl (by decide) (by rw [if_neg (by omega)]; decide)
      rw [h6, ek, if_pos (by omega), ey]
    · refine hQ x3 y4 _ (by omega) ?_ (fun q => ?_)
      · rw [ek, if_neg (by omega)]; decide
      · rw [ek, if_neg (by omega)] at q; exfalso; omega
  | succ f ih =>
    intro k x3 y4 hk h3 hy
    have ea := d_add (k := x3) (K := k) hx h3 (by omega)
    have hb := rnn_in (P := bL B) (n := n) _ p k rfl (by omega)
    have hb2 : 97 ≤ (B (p + k)).toInt ∧ (B (p + k)).toInt ≤ 122 := of_decide_eq_true hb.1
    refine v_X12_cutsUp_70_85 (Wp.deep (g_byteAt hT ea (Wp.deep (g_isLetter (fun _ => ⟨fun z => absurd z (by decide), fun _ => ⟨fun q8 => ?_, fun q8 => ?_⟩⟩) (fun q => by rw [hb.1] at q; cases q)) (Nat.le_of_ble_eq_true rfl))) (Nat.le_of_ble_eq_true rfl))
    · refine v_X12_cutsUp_70_118 (ih (k + 1) _ _ (by omega) (d_add h3 (by decide) (by omega)) ?_)
      rw [hy, Nat.min_eq_right (by omega), Nat.min_eq_right (by omega)]
    · refine Wp.deep (g_byteAt hT ea (v_X12_appends (d := 1) ⟨fun _ => ?_, fun z => by exfalso; omega⟩)) (Nat.le_of_ble_eq_true rfl)
      refine v_X12_cutsUp_70_118 (ih (k + 1) _ _ (by omega) (d_add h3 (by decide) (by omega)) ?_)
      rw [hy, Nat.min_eq_left (by omega), Nat.min_eq_left (by omega), nm_comm]
      rfl
/-- the digits of a number -/
theorem g_208 {x1 : Int32} {p : Nat} {m : dM} {Q : dM → Prop} (hT : RX B n m) (hp : p < n) (hx : x1.toInt = p) (hL : bL B p = false) (hD : bD B p = true) (hQ : ∀ (x3 x4 x6 : Int32), x3.toInt = (rnn (bD B) n p : Nat) → x6.toInt = rk (kd B n p) → (kd B n p = 23 → x4 = dw B p (rnn (bD B) n p)) → c_X12_token_70 2 x6 x1 x4 (0 : Int64) m (fun m3 => j_X12_cutsUp_70_291 3 (x1 + x3) m3 Q)) : ∀ (f k : Nat) (x3 x4 : Int32), k + f = rnn (bD B) n p → x3.toInt = k → x4 = dw B p (min k 4) → j_X12_cutsUp_70_208 3 x1 x3 x4 m Q := by
  have h2000 := hT.2.1
  have hr := rnn_le (P := bD B) (n := n) _ p rfl
  have hng : ¬ n ≤ p := by omega
  have ek : kd B n p = if rnn (bD B) n p ≤ 4 then 23 else 25 := by
    unfold kd
    rw [if_neg hng, hL, hD]
    rfl
  intro f
  induction f with
  | zero =>
    intro k x3 x4 hk h3 hy
    have hk : rnn (bD B) n p = k := by omega
    have ea := d_add (k := x3) (K := k) hx h3 (by omega)
    have hb : bD B (p + k) = false := by
      have := rnn_end (P := bD B) (n := n) _ p rfl (by omega)
      rw [hk] at this
      rcases this with q | q
      · exact bD_out hT (by omega)
      · exact q
    refine v_X12_cutsUp_70_208 (Wp.deep (g_byteAt hT ea (Wp.deep (g_isDigit (fun q => by rw [hb] at q; cases q) (fun _ => ⟨fun _ => ⟨fun q4 => hQ _ _ _ (by omega) ?_ (fun _ => ?_), fun q4 => hQ _ _ _ (by omega) ?_ (fun q => ?_)⟩, fun z => absurd (by decide) z⟩)) (Nat.le_of_ble_eq_true rfl))) (Nat.le_of_ble_eq_true rfl))
    · rw [ek, if_pos (by omega)]; decide
    · rw [hy, hk, Nat.min_eq_left (by omega)]
    · rw [ek, if_neg (by omega)]; decide
    · rw [ek, if_neg (by omega)] at q; exfalso; omega
  | succ f ih =>
    intro k x3 x4 hk h3 hy
    have ea := d_add (k := x3) (K := k) hx h3 (by omega)
    have hb := rnn_in (P := bD B) (n := n) _ p k rfl (by omega)
    refine v_X12_cutsUp_70_208 (Wp.deep (g_byteAt hT ea (Wp.deep (g_isDigit (fun _ => ⟨fun z => absurd z (by decide), fun _ => ⟨fun q4 => ?_, fun q4 => ?_⟩⟩) (fun q => by rw [hb.1] at q; cases q)) (Nat.le_of_ble_eq_true rfl))) (Nat.le_of_ble_eq_true rfl))
    · refine v_X12_cutsUp_70_244 (ih (k + 1) _ _ (by omega) (d_add h3 (by decide) (by omega)) ?_)
      rw [hy, Nat.min_eq_right (by omega), Nat.min_eq_right (by omega)]
    · refine Wp.deep (g_byteAt hT ea ?_) (Nat.le_of_ble_eq_true rfl)
      refine v_X12_cutsUp_70_244 (ih (k + 1) _ _ (by omega) (d_add h3 (by decide) (by omega)) ?_)
      rw [hy, Nat.min_eq_left (by omega), Nat.min_eq_left (by omega)]
      rfl
theorem sk_stay {q : Nat} (h : bW B q = false) : sk B n q = q := by
  unfold sk
  rw [rnn_no h]
  rfl
theorem g_main {mb : dM} {Q : dM → Prop} (hT : RX B n mb) (hQ : ∀ m', RF mb m' → (∀ i : Nat, i ≤ 400 → lv B n i → RK B n i m') → Q m') : ∀ (f i q : Nat) (x1 : Int32) (m : dM), n - q < f → q ≤ n → x1.toInt = q → (m.1 70 10).toInt = i → i ≤ 401 → sk B n q = tP B n i → RF mb m → (∀ j : Nat, j < i → RK B n j m) → j_X12_cutsUp_70_7 3 x1 m Q := by
  have h2000 := hT.2.1
  intro f
  induction f with
  | zero => intro i q x1 m hf; omega
  | succ f ih =>
    intro i q x1 m hf hq hx hi hi2 hsk hF hd
    have hTm : RX B n m := hT.of (hF.1 72 (by decide) (by decide) (by decide) (by decide)) (hF.2.1 4 (by decide))
    have h4 := hTm.1
    refine v_X12_cutsUp_70_7 ⟨fun _ => hQ m hF (fun j hj _ => hd j (by omega)), fun h400 => Wp.deep (g_byteAt hTm hx ⟨fun hlt => ?_, fun hge => ?_⟩) (Nat.le_of_ble_eq_true rfl)⟩
    · have hqn : q < n := by omega
      have blank : bW B q = true → j_X12_cutsUp_70_67 3 x1 m Q := fun hb => by
        refine v_X12_cutsUp_70_67 (v_X12_cutsUp_70_291 (ih i (q + 1) _ m (by omega) (by omega) (d_add hx (by decide) (by omega)) hi hi2 ?_ hF hd))
        rw [← hsk]
        unfold sk
        rw [rnn_yes hqn hb]
        omega
      unfold bW at blank
      refine ⟨fun z => blank (decide_eq_true (by omega)), fun z1 => ⟨fun z => blank (decide_eq_true (by omega)), fun z2 => ⟨fun z => blank (decide_eq_true (by omega)), fun z3 => ⟨fun z4 => ?_, fun z => blank (decide_eq_true (by omega))⟩⟩⟩⟩
      have hnb : bW B q = false := by unfold bW; exact decide_eq_false (by omega)
      have ep : tP B n i = q := by rw [← hsk]; exact sk_stay hnb
      have hng : ¬ n ≤ q := by omega
      have next : ∀ (q' : Nat) (x' : Int32) (m' : dM), en B n q = q' → x'.toInt = q' → RF mb m' → (m'.1 70 10).toInt = ((i + 1 : Nat) : Int) → (∀ j : Nat, j < i + 1 → RK B n j m') → j_X12_cutsUp_70_291 3 x' m' Q := fun q' x' m' he hx' hF' hi' hd' => by
        have hen := en_le (B := B) (n := n) (p := q) (by omega)
        refine v_X12_cutsUp_70_291 (ih (i + 1) q' x' m' (by omega) (by omega) hx' hi' (by omega) ?_ hF' hd')
        show sk B n q' = sk B n (en B n (tP B n i))
        rw [ep, he]
      refine Wp.deep (g_isLetter (fun hL => ⟨fun z => absurd z (by decide), fun _ => ?_⟩) (fun hL => ⟨fun _ => ?_, fun z => absurd (by decide) z⟩)) (Nat.le_of_ble_eq_true rfl)
      · refine g_85 hTm hqn hx hL (fun x3 y4 x6 h3 h6 hy => ?_) _ 0 _ _ (Nat.zero_add _) (by decide) rfl
        have hr := rnn_le (P := bL B) (n := n) _ q rfl
        have eV : tV B n i = nm B q (rnn (bL B) n q) := by
          unfold tV
          rw [ep, hL]
          rfl
        refine v_X12_cutsUp_70_179 (Wp.deep (g_token hF hi (by omega) (by unfold tK; rw [ep]; exact h6) (by rw [ep]; exact hx) (fun z => ?_) (fun z => ?_) hd (fun m' hF' hi' hd' => ?_)) (Nat.le_of_ble_eq_true rfl))
        · exfalso
          unfold tK kd at z
          rw [ep, if_neg hng, hL] at z
          have := wk_le (nm B q (rnn (bL B) n q))
          simp only [cond_true] at z
          split at z <;> omega
        · rw [eV]
          exact hy (by unfold tK at z; rw [ep] at z; exact z)
        · refine next (q + rnn (bL B) n q) _ m' ?_ (d_add hx h3 (by omega)) hF' hi' hd'
          unfold en
          rw [if_neg hng, hL]
          rfl
      · refine Wp.deep (g_isDigit (fun hD => ⟨fun z => absurd z (by decide), fun _ => ?_⟩) (fun hD => ⟨fun _ => ?_, fun z => absurd (by decide) z⟩)) (Nat.le_of_ble_eq_true rfl)
        · refine g_208 hTm hqn hx hL hD (fun x3 x4 x6 h3 h6 hy => ?_) _ 0 _ _ (Nat.zero_add _) (by decide) rfl
          have hr := rnn_le (P := bD B) (n := n) _ q rfl
          have eV : tV B n i = dv B q (rnn (bD B) n q) := by
            unfold tV
            rw [ep, hL]
            rfl
          refine Wp.deep (g_token hF hi (by omega) (by unfold tK; rw [ep]; exact h6) (by rw [ep]; exact hx) (fun z => ?_) (fun z => ?_) hd (fun m' hF' hi' hd' => ?_)) (Nat.le_of_ble_eq_true rfl)
          · rw [eV, dw_eq]
            exact hy (by unfold tK at z; rw [ep] at z; exact z)
          · exfalso
            unfold tK kd at z
            rw [ep, if_neg hng, hL, hD] at z
            simp only [cond_true, cond_false] at z
            split at z <;> omega
          · refine next (q + rnn (bD B) n q) _ m' ?_ (d_add hx h3 (by omega)) hF' hi' hd'
            unfold en
            rw [if_neg hng, hL, hD]
            rfl
        · refine Wp.deep (g_byteAt hTm (d_add hx (k := 1) (K := 1) (by decide) (by omega)) ?_) (Nat.le_of_ble_eq_true rfl)
          refine g_sign hF hi (by omega) ?_ (by rw [ep]; exact hx) hd (fun m' hF' hi' hd' => ?_)
          · unfold tK kd
            rw [ep, if_neg hng, hL, hD]
            rfl
          · refine next (q + 1) _ m' ?_ (d_add hx (by decide) (by omega)) hF' hi' hd'
            unfold en
            rw [if_neg hng, hL, hD]
            rfl
    · have eq : q = n := by omega
      have ep : tP B n i = n := by
        rw [← hsk]
        unfold sk
        rw [rnn_ge (by omega)]
        omega
      have eK : tK B n i = 24 := kd_end (by omega)
      refine Wp.deep (g_token hF hi (by omega) (by rw [eK]; decide) (by rw [ep]; exact h4) (fun z => ?_) (fun z => ?_) hd (fun m' hF' hi' hd' => hQ m' hF' (fun j hj hlj => ?_))) (Nat.le_of_ble_eq_true rfl)
      · rw [eK] at z; exfalso; omega
      · rw [eK] at z; exfalso; omega
      · by_cases e : j ≤ i
        · exact hd' j (by omega)
        · exact absurd eK (hlj i (by omega)).1
theorem g_cutsUp {m : dM} {Q : dM → Prop} (hT : RX B n m) (hQ : ∀ m', RF m m' → (∀ i : Nat, i ≤ 400 → lv B n i → RK B n i m') → Q m') : c_X12_cutsUp_70 3 m Q := by
  have hF : RF m (dSet m 70 10 (0 : Int32)) := ⟨fun k a _ _ _ => dSet_k a, fun j a => dSet_j a, fun _ _ => rfl⟩
  exact v_X12_cutsUp_70 (g_main hT hQ (n + 1) 0 0 _ _ (by omega) (Nat.zero_le _) (by decide) (by rw [dSet_s]; decide) (by omega) rfl hF (fun j hj => by omega))
end CUTS
end
section
/-! THE GRAMMAR, as a function of the kinds K: a fault's number (0: none) and the token at which it stands -/
abbrev gR : Type := Nat × Nat
def rb (r : gR) (k : Nat → gR) : gR := if r.1 = 0 then k r.2 else r
theorem rb_0 {n : Nat} {k : Nat → gR} : rb (0, n) k = k n := rfl
theorem rb_f {r : gR} {k : Nat → gR} (h : r.1 ≠ 0) : rb r k = r := by unfold rb; rw [if_neg h]
theorem rb_k {r : gR} {k : Nat → gR} (h : r.1 = 0) : rb r k = k r.2 := by unfold rb; rw [if_pos h]
theorem rb_1 {n : Nat} {k : Nat → gR} : rb (1, n) k = (1, n) := rfl
theorem rb_2 {n : Nat} {k : Nat → gR} : rb (2, n) k = (2, n) := rfl
def gst (n : Nat) : gR := if 400 ≤ n then (2, n) else (0, n + 1)
def lvK (K : Nat → Int) (i : Nat) : Prop := ∀ j, j < i → K j ≠ 24 ∧ K j ≠ 25
section GRA
variable (K : Nat → Int)
def gnd (k : Int) (n : Nat) : gR := if K n = k then gst n else (1, n)
/-- a sum from one of its tokens on, at d open (, until b are open and nothing goes on; ph: behind a unit -/
def gA (b : Nat) : Nat → Nat → Bool → Nat → gR
  | 0, _, _, n => (2, n)
  | f + 1, d, false, n => if K n = 23 ∨ (13 ≤ K n ∧ K n ≤ 21) then (if 400 ≤ n then (2, n) else gA b f d true (n + 1)) else if K n = 40 then (if 6 ≤ d then (2, n) else if 400 ≤ n then (2, n) else gA b f (d + 1) false (n + 1)) else (1, n)
  | f + 1, d, true, n => if K n = 43 ∨ K n = 45 ∨ K n = 42 ∨ K n = 47 then (if 400 ≤ n then (2, n) else gA b f d false (n + 1)) else if b < d then (if K n = 41 then (if 400 ≤ n then (2, n) else gA b f (d - 1) true (n + 1)) else (1, n)) else (0, n)
def gX (b d : Nat) (ph : Bool) (n : Nat) : gR := gA K b (401 - n) d ph n
def gE (n : Nat) : gR := gX K 0 0 false n
def gIf : Nat → Nat → gR
  | 0, n => if K n = 10 then (2, n) else rb (gE K n) (gnd K 59)
  | r + 1, n => if K n = 10 then rb (gst n) (fun n => rb (gE K n) (fun n => rb (gnd K 60 n) (fun n => rb (gE K n) (fun n => rb (gnd K 11 n) (fun n => rb (gE K n) (fun n => rb (gnd K 12 n) (gIf r))))))) else rb (gE K n) (gnd K 59)
def gLaw (n : Nat) : gR := rb (gst n) (fun n => rb (gnd K 61 n) (gIf K 4))
def gsq : List Int → Nat → gR
  | [], n => (0, n)
  | k :: ks, n => rb (gnd K k n) (gsq ks)
def gTell (cf cw cu n : Nat) : gR :=
  if K n = 0 then (if 7 ≤ cf then (2, n) else rb (gst n) (gsq K [22, 23, 59]))
  else if K n = 1 then (if 10 ≤ cw then (2, n) else rb (gst n) (gsq K [22, 22, 23, 59]))
  else if K n = 2 then (if 8 ≤ cu then (2, n) else rb (gst n) (gsq K [22, 22, 23, 23, 23, 59]))
  else if 3 ≤ K n ∧ K n ≤ 6 then gLaw K n
  else if K n = 7 then rb (gst n) (gsq K [23, 23, 59])
  else if K n = 8 ∨ K n = 9 then rb (gst n) (gsq K [23, 59])
  else (1, n)
def ct (a b : Int) : Nat := if a = b then 1 else 0
def gAll : Nat → Nat → Nat → Nat → Nat → gR
  | 0, _, _, _, n => (0, n)
  | f + 1, cf, cw, cu, n => if K n = 24 then (0, n) else rb (gTell K cf cw cu n) (fun n' => gAll f (cf + ct (K n) 0) (cw + ct (K n) 1) (cu + ct (K n) 2) n')
end GRA
section GRL
variable {K : Nat → Int}
theorem lvK.dn {i j : Nat} (h : lvK K i) (hj : j ≤ i) : lvK K j := fun k hk => h k (by omega)
theorem lvK.up {i : Nat} (h : lvK K i) (h1 : K i ≠ 24 ∧ K i ≠ 25) : lvK K (i + 1) := fun k hk => by
  by_cases e : k = i
  · subst e; exact h1
  · exact h k (by omega)
theorem gX_U {b d n : Nat} (hn : n ≤ 400) : gX K b d false n = if K n = 23 ∨ (13 ≤ K n ∧ K n ≤ 21) then (if 400 ≤ n then (2, n) else gX K b d true (n + 1)) else if K n = 40 then (if 6 ≤ d then (2, n) else if 400 ≤ n then (2, n) else gX K b (d + 1) false (n + 1)) else (1, n) := by
  unfold gX
  rw [show 401 - n = (401 - (n + 1)) + 1 by omega]
  rfl
theorem gX_O {b d n : Nat} (hn : n ≤ 400) : gX K b d true n = if K n = 43 ∨ K n = 45 ∨ K n = 42 ∨ K n = 47 then (if 400 ≤ n then (2, n) else gX K b d false (n + 1)) else if b < d then (if K n = 41 then (if 400 ≤ n then (2, n) else gX K b (d - 1) true (n + 1)) else (1, n)) else (0, n) := by
  unfold gX
  rw [show 401 - n = (401 - (n + 1)) + 1 by omega]
  rfl
/-- what is open within is closed first -/
theorem gX_seg {b b' : Nat} (hb : b ≤ b') : ∀ (f d : Nat) (ph : Bool) (n : Nat), 401 - n = f → n ≤ 400 → b' ≤ d → gX K b d ph n = rb (gX K b' d ph n) (fun n' => gX K b b' true n') := by
  intro f
  induction f with
  | zero => intro d ph n hf hn; omega
  | succ f ih =>
    intro d ph n hf hn hd
    cases ph with
    | false =>
      rw [gX_U hn, gX_U hn]
      by_cases h1 : K n = 23 ∨ (13 ≤ K n ∧ K n ≤ 21)
      · rw [if_pos h1, if_pos h1]
        by_cases h4 : 400 ≤ n
        · rw [if_pos h4, if_pos h4, rb_2]
        · rw [if_neg h4, if_neg h4]
          exact ih d true (n + 1) (by omega) (by omega) hd
      · rw [if_neg h1, if_neg h1]
        by_cases h2 : K n = 40
        · rw [if_pos h2, if_pos h2]
          by_cases h6 : 6 ≤ d
          · rw [if_pos h6, if_pos h6, rb_2]
          · rw [if_neg h6, if_neg h6]
            by_cases h4 : 400 ≤ n
            · rw [if_pos h4, if_pos h4, rb_2]
            · rw [if_neg h4, if_neg h4]
              exact ih (d + 1) false (n + 1) (by omega) (by omega) (by omega)
        · rw [if_neg h2, if_neg h2, rb_1]
    | true =>
      rw [gX_O (b := b') hn]
      by_cases h1 : K n = 43 ∨ K n = 45 ∨ K n = 42 ∨ K n = 47
      · rw [gX_O hn, if_pos h1, if_pos h1]
        by_cases h4 : 400 ≤ n
        · rw [if_pos h4, if_pos h4, rb_2]
        · rw [if_neg h4, if_neg h4]
          exact ih d false (n + 1) (by omega) (by omega) hd
      · rw [if_neg h1]
        by_cases h2 : b' < d
        · rw [gX_O hn, if_neg h1, if_pos h2, if_pos (show b < d by omega)]
          by_cases h3 : K n = 41
          · rw [if_pos h3, if_pos h3]
            by_cases h4 : 400 ≤ n
            · rw [if_pos h4, if_pos h4, rb_2]
            · rw [if_neg h4, if_neg h4]
              exact ih (d - 1) true (n + 1) (by omega) (by omega) (by omega)
          · rw [if_neg h3, if_neg h3, rb_1]
        · rw [if_neg h2, rb_0, show d = b' by omega]
/-- where it ends: not earlier, all passed is token, no sign of end passed -/
def gOk (K : Nat → Int) (n : Nat) (r : gR) : Prop := (n ≤ r.2 ∧ r.2 ≤ 400) ∧ ∀ j : Nat, n ≤ j → j < r.2 → K j ≠ 24 ∧ K j ≠ 25 ∧ K j ≠ 59
theorem gOk.rf {n c : Nat} (h : n ≤ 400) : gOk K n (c, n) := ⟨⟨Nat.le_refl _, h⟩, fun j h1 h2 => by exfalso; have h2 : j < n := h2; omega⟩
theorem gOk.cons {n : Nat} {r : gR} (h : gOk K (n + 1) r) (hk : K n ≠ 24 ∧ K n ≠ 25 ∧ K n ≠ 59) : gOk K n r := ⟨⟨by have := h.1.1; omega, h.1.2⟩, fun j h1 h2 => by
  by_cases e : j = n
  · subst e; exact hk
  · exact h.2 j (by omega) h2⟩
theorem gOk.tr {n n' : Nat} {r : gR} (h : gOk K n (0, n')) (h' : gOk K n' r) : gOk K n r := ⟨⟨Nat.le_trans h.1.1 h'.1.1, h'.1.2⟩, fun j h1 h2 => by
  by_cases e : j < n'
  · exact h.2 j h1 e
  · exact h'.2 j (by omega) h2⟩
theorem gOk.lv {n : Nat} {r : gR} (h : gOk K n r) (hl : lvK K n) : lvK K r.2 := fun j hj => by
  by_cases e : j < n
  · exact hl j e
  · have := h.2 j (by omega) hj
    exact ⟨this.1, this.2.1⟩
theorem gX_ok {b : Nat} : ∀ (f d : Nat) (ph : Bool) (n : Nat), 401 - n = f → n ≤ 400 → gOk K n (gX K b d ph n) := by
  intro f
  induction f with
  | zero => intro d ph n hf hn; omega
  | succ f ih =>
    intro d ph n hf hn
    cases ph with
    | false =>
      rw [gX_U hn]
      by_cases h1 : K n = 23 ∨ (13 ≤ K n ∧ K n ≤ 21)
      · rw [if_pos h1]
        by_cases h4 : 400 ≤ n
        · rw [if_pos h4]; exact gOk.rf hn
        · rw [if_neg h4]; exact (ih d true (n + 1) (by omega) (by omega)).cons (by omega)
      · rw [if_neg h1]
        by_cases h2 : K n = 40
        · rw [if_pos h2]
          by_cases h6 : 6 ≤ d
          · rw [if_pos h6]; exact gOk.rf hn
          · rw [if_neg h6]
            by_cases h4 : 400 ≤ n
            · rw [if_pos h4]; exact gOk.rf hn
            · rw [if_neg h4]; exact (ih (d + 1) false (n + 1) (by omega) (by omega)).cons (by omega)
        · rw [if_neg h2]; exact gOk.rf hn
    | true =>
      rw [gX_O hn]
      by_cases h1 : K n = 43 ∨ K n = 45 ∨ K n = 42 ∨ K n = 47
      · rw [if_pos h1]
        by_cases h4 : 400 ≤ n
        · rw [if_pos h4]; exact gOk.rf hn
        · rw [if_neg h4]; exact (ih d false (n + 1) (by omega) (by omega)).cons (by omega)
      · rw [if_neg h1]
        by_cases h2 : b < d
        · rw [if_pos h2]
          by_cases h3 : K n = 41
          · rw [if_pos h3]
            by_cases h4 : 400 ≤ n
            · rw [if_pos h4]; exact gOk.rf hn
            · rw [if_neg h4]; exact (ih (d - 1) true (n + 1) (by omega) (by omega)).cons (by omega)
          · rw [if_neg h3]; exact gOk.rf hn
        · rw [if_neg h2]; exact gOk.rf hn
/-- a sum that is right is right at its end: nothing goes on there -/
theorem gX_nop {b : Nat} : ∀ (f d : Nat) (ph : Bool) (n : Nat), 401 - n = f → n ≤ 400 → (gX K b d ph n).1 = 0 → K (gX K b d ph n).2 ≠ 43 ∧ K (gX K b d ph n).2 ≠ 45 ∧ K (gX K b d ph n).2 ≠ 42 ∧ K (gX K b d ph n).2 ≠ 47 := by
  intro f
  induction f with
  | zero => intro d ph n hf hn; omega
  | succ f ih =>
    intro d ph n hf hn
    cases ph with
    | false =>
      rw [gX_U hn]
      by_cases h1 : K n = 23 ∨ (13 ≤ K n ∧ K n ≤ 21)
      · rw [if_pos h1]
        by_cases h4 : 400 ≤ n
        · rw [if_pos h4]; intro h; cases h
        · rw [if_neg h4]; exact ih d true (n + 1) (by omega) (by omega)
      · rw [if_neg h1]
        by_cases h2 : K n = 40
        · rw [if_pos h2]
          by_cases h6 : 6 ≤ d
          · rw [if_pos h6]; intro h; cases h
          · rw [if_neg h6]
            by_cases h4 : 400 ≤ n
            · rw [if_pos h4]; intro h; cases h
            · rw [if_neg h4]; exact ih (d + 1) false (n + 1) (by omega) (by omega)
        · rw [if_neg h2]; intro h; cases h
    | true =>
      rw [gX_O hn]
      by_cases h1 : K n = 43 ∨ K n = 45 ∨ K n = 42 ∨ K n = 47
      · rw [if_pos h1]
        by_cases h4 : 400 ≤ n
        · rw [if_pos h4]; intro h; cases h
        · rw [if_neg h4]; exact ih d false (n + 1) (by omega) (by omega)
      · rw [if_neg h1]
        by_cases h2 : b < d
        · rw [if_pos h2]
          by_cases h3 : K n = 41
          · rw [if_pos h3]
            by_cases h4 : 400 ≤ n
            · rw [if_pos h4]; intro h; cases h
            · rw [if_neg h4]; exact ih (d - 1) true (n + 1) (by omega) (by omega)
          · rw [if_neg h3]; intro h; cases h
        · rw [if_neg h2]; intro _; show K n ≠ 43 ∧ K n ≠ 45 ∧ K n ≠ 42 ∧ K n ≠ 47; omega
end GRL
end
section
/-! THE CLASS's grammar, exactly -/
def GF (mb m : dM) : Prop := (∀ k : Nat, (k < 29 ∨ k = 31 ∨ (36 < k ∧ k ≠ 43)) → m.1 k = mb.1 k) ∧ (∀ j : Nat, j ≠ 2 → j ≠ 3 → m.1 43 j = mb.1 43 j) ∧ m.2.1 = mb.2.1 ∧ m.2.2 = mb.2.2
def GL (m : dM) : Prop := (0 ≤ (m.1 29 1).toInt ∧ (m.1 29 1).toInt ≤ 406) ∧ ∀ j : Nat, 0 ≤ (m.1 36 j).toInt ∧ (m.1 36 j).toInt ≤ 13
def GO (K : Nat → Int) (mb m : dM) (r : gR) : Prop := GF mb m ∧ GL m ∧ ((m.1 43 2).toInt = (r.2 : Int) ∧ (m.1 43 3).toInt = (r.1 : Int)) ∧ r.2 ≤ 400 ∧ lvK K r.2
def RT (r : Int32) (g : gR) : Prop := (g.1 = 0 → r = 1) ∧ (g.1 ≠ 0 → r = 0)
theorem RT.b {r : Int32} {g : gR} (h : RT r g) : r = 0 ∨ r = 1 := by
  by_cases e : g.1 = 0
  · exact Or.inr (h.1 e)
  · exact Or.inl (h.2 e)
theorem RT.z {r : Int32} {g : gR} (h : RT r g) (hr : r.toInt = 0) : g.1 ≠ 0 := fun e => by
  rw [h.1 e] at hr
  exact absurd hr (by decide)
theorem RT.nz {r : Int32} {g : gR} (h : RT r g) (hr : r.toInt ≠ 0) : g.1 = 0 := by
  by_cases e : g.1 = 0
  · exact e
  · rw [h.2 e] at hr
    exact absurd rfl hr
/-- what the tokens' rows say -/
def KM (K : Nat → Int) (m : dM) : Prop := ∀ i : Nat, i ≤ 400 → lvK K i → (m.1 39 i).toInt = K i
section CGR
variable {K : Nat → Int} {mb m : dM} {n : Nat}
theorem GO.at (h : GO K mb m (0, n)) : (m.1 43 2).toInt = (n : Int) ∧ (m.1 43 3).toInt = 0 ∧ n ≤ 400 ∧ lvK K n := ⟨h.2.2.1.1, h.2.2.1.2, h.2.2.2.1, h.2.2.2.2⟩
theorem GF.set43 {j : Nat} {v : Int32} (h : GF mb m) (hj : j = 2 ∨ j = 3) : GF mb (dSet m 43 j v) := ⟨fun k hk => by rw [dSet_k (by omega)]; exact h.1 k hk, fun i h2 h3 => by rw [dSet_j (by omega)]; exact h.2.1 i h2 h3, h.2.2.1, h.2.2.2⟩
theorem GL.set43 {j : Nat} {v : Int32} (h : GL m) : GL (dSet m 43 j v) := by
  unfold GL
  rw [dSet_k (by decide), dSet_k (by decide)]
  exact h
theorem GO.set2 (h : GO K mb m (0, n)) (hn : n < 400) (hk : K n ≠ 24 ∧ K n ≠ 25) : GO K mb (dSet m 43 2 (m.1 43 2 + 1)) (0, n + 1) := by
  obtain ⟨h1, h2, ⟨h3, h4⟩, h5, h6⟩ := h
  refine ⟨h1.set43 (Or.inl rfl), h2.set43, ⟨?_, h4⟩, by show n + 1 ≤ 400; omega, h6.up hk⟩
  rw [dSet_s]
  exact d_add h3 (by decide) (by show n + 1 ≤ _; omega)
theorem GO.set3 {c : Nat} {v : Int32} (h : GO K mb m (0, n)) (hv : v.toInt = c) : GO K mb (dSet m 43 3 v) (c, n) := by
  obtain ⟨h1, h2, ⟨h3, h4⟩, h5, h6⟩ := h
  exact ⟨h1.set43 (Or.inr rfl), h2.set43, ⟨h3, hv⟩, h5, h6⟩
/-- a store into the laws -/
theorem GO.law {g : gR} {k j : Nat} {v : Int32} (h : GO K mb m g) (hk : k = 29 ∨ k = 30 ∨ (32 ≤ k ∧ k ≤ 36)) (hL : GL (dSet m k j v)) : GO K mb (dSet m k j v) g := by
  obtain ⟨h1, h2, h3, h5, h6⟩ := h
  refine ⟨⟨fun a ha => by rw [dSet_k (by omega)]; exact h1.1 a ha, fun i a b => by rw [dSet_k (by omega)]; exact h1.2.1 i a b, h1.2.2.1, h1.2.2.2⟩, hL, ?_, h5, h6⟩
  rw [dSet_k (show 43 ≠ k by omega)]
  exact h3
theorem k_kind {Q : Int32 → dM → Prop} (hK : KM K mb) (h : GO K mb m (0, n)) (hQ : ∀ r : Int32, r.toInt = K n → Q r m) : c_X2_kind_43 1 m Q := by
  obtain ⟨e2, e3, h4, h5⟩ := h.at
  refine v_X2_kind_43 ⟨fun q => by exfalso; omega, fun q => ⟨fun q => by exfalso; omega, fun q => ⟨by omega, hQ _ ?_⟩⟩⟩
  rw [d_cn e2, h.1.1 39 (by omega)]
  exact hK n h4 h5
theorem k_step {Q : Int32 → dM → Prop} (h : GO K mb m (0, n)) (hk : K n ≠ 24 ∧ K n ≠ 25) (hQ : ∀ (r : Int32) (m' : dM), GO K mb m' (gst n) → RT r (gst n) → Q r m') : c_X2_step_43 1 m Q := by
  obtain ⟨e2, e3, h4, h5⟩ := h.at
  refine v_X2_step_43 ⟨fun q => hQ _ _ ?_ ?_, fun q => hQ _ _ ?_ ?_⟩
  · unfold gst
    rw [if_neg (by omega)]
    exact h.set2 (by omega) hk
  · unfold gst
    rw [if_neg (by omega)]
    exact ⟨fun _ => rfl, fun z => absurd rfl z⟩
  · unfold gst
    rw [if_pos (by omega)]
    exact h.set3 (by decide)
  · unfold gst
    rw [if_pos (by omega)]
    exact ⟨fun z => absurd z (by first | decide | exact Nat.succ_ne_zero _), fun _ => rfl⟩
theorem k_fail {x1 : Int32} {c : Nat} {Q : Int32 → dM → Prop} (h : GO K mb m (0, n)) (hx : x1.toInt = c) (hQ : ∀ m' : dM, GO K mb m' (c, n) → Q 0 m') : c_X2_fail_43 1 x1 m Q := v_X2_fail_43 (hQ _ (h.set3 hx))
theorem k_need {x1 : Int32} {k : Int} {Q : Int32 → dM → Prop} (hK : KM K mb) (h : GO K mb m (0, n)) (hx : x1.toInt = k) (hk : k ≠ 24 ∧ k ≠ 25) (hQ : ∀ (r : Int32) (m' : dM), GO K mb m' (gnd K k n) → RT r (gnd K k n) → Q r m') : c_X2_need_43 2 x1 m Q := by
  refine v_X2_need_43 (k_kind hK h (fun r hr => ⟨fun q => k_fail h (c := 1) (by decide) (fun m' h' => ⟨Or.inl rfl, hQ _ _ ?_ ?_⟩), fun q => k_step h (by rw [← hr, q, hx]; exact hk) (fun r' m' h' hr' => ⟨hr'.b, hQ _ _ ?_ ?_⟩)⟩))
  · unfold gnd
    rw [if_neg (by omega)]
    exact h'
  · unfold gnd
    rw [if_neg (by omega)]
    exact ⟨fun z => absurd z (by first | decide | exact Nat.succ_ne_zero _), fun _ => rfl⟩
  · unfold gnd
    rw [if_pos (by omega)]
    exact h'
  · unfold gnd
    rw [if_pos (by omega)]
    exact hr'
theorem k_put {x1 : Int32} {g : gR} {Q : dM → Prop} (h : GO K mb m g) (hQ : ∀ m' : dM, GO K mb m' g → Q m') : c_X4_put_29 1 x1 m Q := by
  have hL := h.2.1
  refine v_X4_put_29 ⟨fun q => v_X4_put_29_32 (hQ _ h), fun q => ⟨by have := hL.1; omega, v_X4_put_29_32 (hQ _ ?_)⟩⟩
  have h30 : GO K mb (dSet m 30 (m.1 29 1).toNatClampNeg x1) g := h.law (by decide) (by
    unfold GL
    rw [dSet_k (by decide), dSet_k (by decide)]
    exact hL)
  refine h30.law (by decide) ⟨?_, fun j => ?_⟩
  · rw [dSet_s]
    have hb := hL.1
    have := dAddE (X := (m.1 29 1).toInt) (Y := 1) (x := m.1 29 1) (y := (1 : Int32)) rfl (by decide) (by omega) (by omega)
    omega
  · rw [dSet_k (by decide), dSet_k (by decide)]
    exact hL.2 j
theorem k_begin {x1 : Int32} {g : gR} {Q : dM → Prop} (h : GO K mb m g) (hx : 0 ≤ x1.toInt ∧ x1.toInt < 4) (hQ : ∀ m' : dM, GO K mb m' g → Q m') : c_X4_begin_29 1 x1 m Q := by
  have hL := h.2.1
  have h36 : GO K mb (dSet m 36 x1.toNatClampNeg (0 : Int32)) g := h.law (by decide) ⟨by rw [dSet_k (by decide)]; exact hL.1, fun j => by
    rw [dSet_e]
    split
    · decide
    · exact hL.2 j⟩
  have go : ∀ k : Nat, 32 ≤ k → k ≤ 35 → GO K mb (dSet (dSet m 36 x1.toNatClampNeg (0 : Int32)) k 0 (m.1 29 1)) g := fun k h1 h2 => h36.law (by omega) (by
    have := h36.2.1
    unfold GL
    rw [dSet_k (show 29 ≠ k by omega), dSet_k (show 36 ≠ k by omega)]
    exact this)
  exact v_X4_begin_29 ⟨hx, hx, fun _ => hQ _ (go 32 (by decide) (by decide)), fun _ => hQ _ (go 33 (by decide) (by decide)), fun _ => hQ _ (go 34 (by decide) (by decide)), fun _ => hQ _ (go 35 (by decide) (by decide))⟩
theorem k_piece {x1 : Int32} {g : gR} {Q : dM → Prop} (h : GO K mb m g) (hx : 0 ≤ x1.toInt ∧ x1.toInt < 4) (hQ : ∀ m' : dM, GO K mb m' g → Q m') : c_X4_endPiece_29 1 x1 m Q := by
  have hL := h.2.1
  have hj := hL.2 x1.toNatClampNeg
  refine v_X4_endPiece_29 ⟨hx, fun q => v_X4_endPiece_29_38 (hQ _ h), fun q => ?_⟩
  have f1 := dAddE (X := (m.1 36 x1.toNatClampNeg).toInt) (Y := 1) (x := m.1 36 x1.toNatClampNeg) (y := (1 : Int32)) rfl (by decide) (by omega) (by omega)
  have h36 : GO K mb (dSet m 36 x1.toNatClampNeg (m.1 36 x1.toNatClampNeg + 1)) g := h.law (by decide) ⟨by rw [dSet_k (by decide)]; exact hL.1, fun j => by
    rw [dSet_e]
    split
    · omega
    · exact hL.2 j⟩
  have go : ∀ k j : Nat, 32 ≤ k → k ≤ 35 → GO K mb (dSet (dSet m 36 x1.toNatClampNeg (m.1 36 x1.toNatClampNeg + 1)) k j (m.1 29 1)) g := fun k j h1 h2 => h36.law (by omega) (by
    have := h36.2.1
    unfold GL
    rw [dSet_k (show 29 ≠ k by omega), dSet_k (show 36 ≠ k by omega)]
    exact this)
  have b14 : 0 ≤ (m.1 36 x1.toNatClampNeg + 1).toInt ∧ (m.1 36 x1.toNatClampNeg + 1).toInt < 14 := by omega
  exact ⟨hx, hx, hx, fun _ => ⟨hx, b14, v_X4_endPiece_29_38 (hQ _ (go 32 _ (by decide) (by decide)))⟩, fun _ => ⟨hx, b14, v_X4_endPiece_29_38 (hQ _ (go 33 _ (by decide) (by decide)))⟩, fun _ => ⟨hx, b14, v_X4_endPiece_29_38 (hQ _ (go 34 _ (by decide) (by decide)))⟩, fun _ => ⟨hx, b14, v_X4_endPiece_29_38 (hQ _ (go 35 _ (by decide) (by decide)))⟩⟩
theorem k_endPiece {x1 x2 : Int32} {k : Int} {Q : Int32 → dM → Prop} (hK : KM K mb) (h : GO K mb m (0, n)) (hx : 0 ≤ x1.toInt ∧ x1.toInt < 4) (h2 : x2.toInt = k) (hk : k ≠ 24 ∧ k ≠ 25) (hQ : ∀ (r : Int32) (m' : dM), GO K mb m' (gnd K k n) → RT r (gnd K k n) → Q r m') : c_X2_endPiece_43 3 x1 x2 m Q :=
  v_X2_endPiece_43 (Wp.deep (k_piece h hx (fun m1 h1 => k_need hK h1 h2 hk (fun r m' h' hr => ⟨hr.b, hQ r m' h' hr⟩))) (Nat.le_of_ble_eq_true rfl))
theorem k_numberAt {x1 : Int32} {Q : Int32 → dM → Prop} (hx : x1.toInt = n) (hn : n ≤ 400) (hQ : Q (m.2.1 41 n).toInt32 m) : c_X8_numberAt_38 2 x1 m Q := by
  refine v_X8_numberAt_38 (v_X8_nameAt_38 ⟨fun q => by exfalso; omega, fun q => ⟨fun q => by exfalso; omega, fun q => ⟨by omega, ?_⟩⟩⟩)
  rw [d_cn hx]
  exact hQ
end CGR
/-! sums -/
def cU (K : Nat → Int) (mb : dM) (o d : Nat) : Prop := ∀ (n : Nat) (m : dM) (x1 : Int32) (Q : Int32 → dM → Prop), GO K mb m (0, n) → x1.toInt = o → (∀ (r : Int32) (m' : dM) (g : gR), GO K mb m' g → RT r g → (g.1 = 0 → gX K o o false n = gX K o o true g.2 ∧ n < g.2) → (g.1 ≠ 0 → gX K o o false n = g) → Q r m') → c_X2_unit_43 d x1 m Q
def cP (K : Nat → Int) (mb : dM) (o d : Nat) : Prop := ∀ (n : Nat) (m : dM) (x1 : Int32) (Q : Int32 → dM → Prop), GO K mb m (0, n) → x1.toInt = o → (∀ (r : Int32) (m' : dM) (g : gR), GO K mb m' g → RT r g → (g.1 = 0 → gX K o o false n = gX K o o true g.2 ∧ n < g.2 ∧ K g.2 ≠ 42 ∧ K g.2 ≠ 47) → (g.1 ≠ 0 → gX K o o false n = g) → Q r m') → c_X2_product_43 d x1 m Q
def cSm (K : Nat → Int) (mb : dM) (o d : Nat) : Prop := ∀ (n : Nat) (m : dM) (x1 : Int32) (Q : Int32 → dM → Prop), GO K mb m (0, n) → x1.toInt = o → (∀ (r : Int32) (m' : dM), GO K mb m' (gX K o o false n) → RT r (gX K o o false n) → Q r m') → c_X2_sum_43 d x1 m Q
section CSU
variable {K : Nat → Int} {mb : dM}
theorem k_unit {o d : Nat} (hK : KM K mb) (ho : o ≤ 6) (hd : 2 ≤ d) (hS : o < 6 → cSm K mb (o + 1) d) : cU K mb o (d + 1) := by
  intro n m x1 Q h hx hQ
  obtain ⟨e2, e3, h4, h5⟩ := h.at
  have eU := gX_U (K := K) (b := o) (d := o) h4
  have bad : ∀ (m' : dM) (c : Nat), GO K mb m' (c, n) → c ≠ 0 → gX K o o false n = (c, n) → Q 0 m' := fun m' c h' hc e => hQ 0 m' (c, n) h' ⟨fun z => absurd z hc, fun _ => rfl⟩ (fun z => absurd z hc) (fun _ => e)
  have st : ∀ (r : Int32) (m' : dM), GO K mb m' (gst n) → RT r (gst n) → (K n = 23 ∨ (13 ≤ K n ∧ K n ≤ 21)) → Q r m' := fun r m' h' hr hu => by
    rw [if_pos hu] at eU
    refine hQ r m' (gst n) h' hr (fun z => ?_) (fun z => ?_)
    · unfold gst at z ⊢
      by_cases q : 400 ≤ n
      · rw [if_pos q] at z; exact absurd z (by first | decide | exact Nat.succ_ne_zero _)
      · rw [if_neg q] at eU ⊢
        exact ⟨eU, Nat.lt_succ_self n⟩
    · unfold gst at z ⊢
      by_cases q : 400 ≤ n
      · rw [if_pos q] at eU ⊢
        exact eU
      · rw [if_neg q] at z; exact absurd rfl z
  refine v_X2_unit_43 (Wp.deep (k_kind hK h (fun r hr => ?_)) (by omega))
  have h67 : ¬ (K n = 23 ∨ (13 ≤ K n ∧ K n ≤ 21)) → j_X2_unit_43_67 (d + 1) x1 r m Q := fun hu => by
    rw [if_neg hu] at eU
    refine v_X2_unit_43_67 ⟨fun q40 => ⟨fun q6 => ?_, fun q6 => ?_⟩, fun q40 => ?_⟩
    · rw [if_pos (by omega), if_neg (by omega)] at eU
      refine Wp.deep (k_step h (by omega) (fun r1 m1 h1 hr1 => ⟨fun z => ?_, fun z => ?_⟩)) (by omega)
      · have z := hr1.z z
        unfold gst at z h1
        by_cases q : 400 ≤ n
        · rw [if_pos q] at eU h1
          exact v_X2_unit_43_123 (bad _ 2 h1 (by first | decide | exact Nat.succ_ne_zero _) eU)
        · rw [if_neg q] at z; exact absurd rfl z
      · have z := hr1.nz z
        unfold gst at z h1
        by_cases q : 400 ≤ n
        · rw [if_pos q] at z; exact absurd z (by first | decide | exact Nat.succ_ne_zero _)
        · rw [if_neg q] at eU h1
          have eS := gX_seg (K := K) (b := o) (b' := o + 1) (by omega) _ (o + 1) false (n + 1) rfl (by omega) (by omega)
          rw [← eU] at eS
          have hok := gX_ok (K := K) (b := o + 1) _ (o + 1) false (n + 1) rfl (by omega)
          have hnp := gX_nop (K := K) (b := o + 1) _ (o + 1) false (n + 1) rfl (by omega)
          refine hS (by omega) (n + 1) m1 _ _ h1 (d_add hx (by decide) (by omega)) (fun r2 m2 h2 hr2 => ⟨fun z2 => ?_, fun z2 => ?_⟩)
          · have z2 := hr2.z z2
            rw [rb_f z2] at eS
            generalize gX K (o + 1) (o + 1) false (n + 1) = g at *
            exact v_X2_unit_43_123 (hQ 0 m2 g h2 ⟨fun q => absurd q z2, fun _ => rfl⟩ (fun q => absurd q z2) (fun _ => eS))
          · have z2 := hr2.nz z2
            rw [rb_k z2] at eS
            have hnp := hnp z2
            generalize gX K (o + 1) (o + 1) false (n + 1) = g at *
            obtain ⟨g1, g2⟩ := g
            have z2 : g1 = 0 := z2
            subst z2
            have hok1 : n + 1 ≤ g2 ∧ g2 ≤ 400 := hok.1
            have hnp : K g2 ≠ 43 ∧ K g2 ≠ 45 ∧ K g2 ≠ 42 ∧ K g2 ≠ 47 := hnp
            have eO := gX_O (K := K) (b := o) (d := o + 1) hok1.2
            rw [if_neg (by omega), if_pos (by omega)] at eO
            have eS : gX K o o false n = gX K o (o + 1) true g2 := eS
            rw [eO] at eS
            refine Wp.deep (k_need hK h2 (k := 41) (by decide) (by decide) (fun r3 m3 h3 hr3 => ⟨fun z3 => ?_, fun z3 => ?_⟩)) hd
            · have z3 := hr3.z z3
              have e : gnd K 41 g2 = gX K o o false n := by
                rw [eS]
                unfold gnd gst at z3 ⊢
                by_cases q4 : K g2 = 41
                · rw [if_pos q4] at z3 ⊢
                  rw [if_pos q4]
                  by_cases q5 : 400 ≤ g2
                  · rw [if_pos q5, if_pos q5]
                  · rw [if_neg q5] at z3; exact absurd rfl z3
                · rw [if_neg q4, if_neg q4]
              exact v_X2_unit_43_123 (hQ 0 m3 _ h3 ⟨fun q => absurd q z3, fun _ => rfl⟩ (fun q => absurd q z3) (fun _ => e.symm))
            · have z3 := hr3.nz z3
              have e : gX K o o false n = gX K o o true (gnd K 41 g2).2 ∧ n < (gnd K 41 g2).2 := by
                rw [eS]
                unfold gnd gst at z3 ⊢
                by_cases q4 : K g2 = 41
                · rw [if_pos q4] at z3 ⊢
                  rw [if_pos q4]
                  by_cases q5 : 400 ≤ g2
                  · rw [if_pos q5] at z3; exact absurd z3 (by first | decide | exact Nat.succ_ne_zero _)
                  · rw [if_neg q5, if_neg q5]
                    exact ⟨rfl, by show n < g2 + 1; omega⟩
                · rw [if_neg q4] at z3; exact absurd z3 (by first | decide | exact Nat.succ_ne_zero _)
              exact hQ 1 m3 _ h3 ⟨fun _ => rfl, fun q => absurd z3 q⟩ (fun _ => e) (fun q => absurd z3 q)
    · rw [if_pos (by omega), if_pos (by omega)] at eU
      exact Wp.deep (k_fail h (c := 2) (by decide) (fun m' h' => ⟨Or.inl rfl, bad m' 2 h' (by first | decide | exact Nat.succ_ne_zero _) eU⟩)) (by omega)
    · rw [if_neg (by omega)] at eU
      exact Wp.deep (k_fail h (c := 1) (by decide) (fun m' h' => ⟨Or.inl rfl, bad m' 1 h' (by first | decide | exact Nat.succ_ne_zero _) eU⟩)) (by omega)
  refine ⟨fun q23 => ⟨fun q => h67 (by omega), fun q => ⟨fun q => h67 (by omega), fun q => ?_⟩⟩, fun q23 => ?_⟩
  · exact Wp.deep (k_put h (fun m2 h2 => Wp.deep (k_step h2 (by omega) (fun r3 m3 h3 hr3 => ⟨hr3.b, st r3 m3 h3 hr3 (by omega)⟩)) (by omega))) (by omega)
  · refine Wp.deep (k_numberAt (n := n) e2 h4 ?_) hd
    exact Wp.deep (k_put h (fun m2 h2 => Wp.deep (k_step h2 (by omega) (fun r3 m3 h3 hr3 => ⟨hr3.b, st r3 m3 h3 hr3 (by omega)⟩)) (by omega))) (by omega)
theorem k_product {o d : Nat} (hK : KM K mb) (hd : 1 ≤ d) (hU : cU K mb o d) : cP K mb o (d + 1) := by
  intro n m x1 Q h hx hQ
  have bad : ∀ (m' : dM) (g : gR), GO K mb m' g → g.1 ≠ 0 → gX K o o false n = g → Q 0 m' := fun m' g h' hc e => hQ 0 m' g h' ⟨fun z => absurd z hc, fun _ => rfl⟩ (fun z => absurd z hc) (fun _ => e)
  have loop : ∀ (f i n1 : Nat) (x2 : Int32) (m1 : dM), 401 - n1 ≤ f → x2.toInt = i → 2 * i ≤ n1 → n < n1 → GO K mb m1 (0, n1) → gX K o o false n = gX K o o true n1 → j_X2_product_43_12 (d + 1) x1 x2 m1 Q := by
    intro f
    induction f with
    | zero => intro i n1 x2 m1 hf h2 hi hn h1 e; have := h1.at.2.2.1; omega
    | succ f ih =>
      intro i n1 x2 m1 hf h2 hi hn h1 e
      obtain ⟨a2, a3, a4, a5⟩ := h1.at
      have eO := gX_O (K := K) (b := o) (d := o) a4
      have fin : K n1 ≠ 42 → K n1 ≠ 47 → j_X2_product_43_83 (d + 1) m1 Q := fun q1 q2 => v_X2_product_43_83 (hQ 1 m1 (0, n1) h1 ⟨fun _ => rfl, fun z => absurd rfl z⟩ (fun _ => ⟨e, hn, q1, q2⟩) (fun z => absurd rfl z))
      have body : (K n1 = 42 ∨ K n1 = 47) → ∀ v : Int32, c_X2_step_43 d m1 (fun r2 m2 => ((r2.toInt = 0 → j_X2_product_43_67 (d + 1) m2 Q) ∧ (r2.toInt ≠ 0 → c_X2_unit_43 d x1 m2 (fun r3 m3 => ((r3.toInt ≠ 0 → c_X4_put_29 d v m3 (fun m4 => j_X2_product_43_12 (d + 1) x1 (x2 + (1 : Int32)) m4 Q)) ∧ (r3.toInt = 0 → j_X2_product_43_67 (d + 1) m3 Q)))))) := fun hk v => by
        rw [if_pos (by omega)] at eO
        refine Wp.deep (k_step h1 (by omega) (fun r2 m2 h2' hr2 => ⟨fun z => ?_, fun z => ?_⟩)) hd
        · have z := hr2.z z
          unfold gst at z h2'
          by_cases q : 400 ≤ n1
          · rw [if_pos q] at eO h2'
            exact v_X2_product_43_67 (bad _ (2, n1) h2' (by first | decide | exact Nat.succ_ne_zero _) (e.trans eO))
          · rw [if_neg q] at z; exact absurd rfl z
        · have z := hr2.nz z
          unfold gst at z h2'
          by_cases q : 400 ≤ n1
          · rw [if_pos q] at z; exact absurd z (by first | decide | exact Nat.succ_ne_zero _)
          · rw [if_neg q] at eO h2'
            refine hU (n1 + 1) m2 x1 _ h2' hx (fun r3 m3 g h3 hr3 ok3 no3 => ⟨fun z3 => ?_, fun z3 => ?_⟩)
            · have z3 := hr3.nz z3
              obtain ⟨g1, g2⟩ := g
              have z3 : g1 = 0 := z3
              subst z3
              obtain ⟨p1, p2⟩ := ok3 rfl
              have p2 : n1 + 1 < g2 := p2
              refine Wp.deep (k_put h3 (fun m4 h4 => ih (i + 1) g2 _ m4 ?_ (d_add h2 (by decide) (by omega)) (by omega) (by omega) h4 ((e.trans eO).trans p1))) hd
              have := h3.at.2.2.1
              omega
            · exact v_X2_product_43_67 (bad _ g h3 (hr3.z z3) ((e.trans eO).trans (no3 (hr3.z z3))))
      have h37 : (K n1 = 42 ∨ K n1 = 47) → j_X2_product_43_37 (d + 1) x1 x2 m1 Q := fun q => v_X2_product_43_37 (Wp.deep (k_kind hK h1 (fun r hr => ⟨fun _ => body q 3, fun _ => body q 2⟩)) hd)
      exact v_X2_product_43_12 ⟨fun q => by exfalso; omega, fun _ => Wp.deep (k_kind hK h1 (fun r hr => ⟨fun q => h37 (by omega), fun q => Wp.deep (k_kind hK h1 (fun r' hr' => ⟨fun q' => fin (by omega) (by omega), fun q' => h37 (by omega)⟩)) hd⟩)) hd⟩
  refine v_X2_product_43 (hU n m x1 _ h hx (fun r m1 g h1 hr ok no => ⟨fun z => ?_, fun z => bad _ g h1 (hr.z z) (no (hr.z z))⟩))
  have z := hr.nz z
  obtain ⟨g1, g2⟩ := g
  have z : g1 = 0 := z
  subst z
  obtain ⟨p1, p2⟩ := ok rfl
  have p2 : n < g2 := p2
  exact loop 401 0 g2 _ m1 (by omega) (by decide) (by omega) p2 h1 p1
theorem k_sum {o d : Nat} (hK : KM K mb) (hd : 1 ≤ d) (hU : cP K mb o d) : cSm K mb o (d + 1) := by
  intro n m x1 Q h hx hQ
  have bad : ∀ (m' : dM) (g : gR), GO K mb m' g → g.1 ≠ 0 → gX K o o false n = g → Q 0 m' := fun m' g h' hc e => hQ 0 m' (by rw [e]; exact h') (by rw [e]; exact ⟨fun z => absurd z hc, fun _ => rfl⟩)
  have loop : ∀ (f i n1 : Nat) (x2 : Int32) (m1 : dM), 401 - n1 ≤ f → x2.toInt = i → 2 * i ≤ n1 → (K n1 ≠ 42 ∧ K n1 ≠ 47) → GO K mb m1 (0, n1) → gX K o o false n = gX K o o true n1 → j_X2_sum_43_12 (d + 1) x1 x2 m1 Q := by
    intro f
    induction f with
    | zero => intro i n1 x2 m1 hf h2 hi hn h1 e; have := h1.at.2.2.1; omega
    | succ f ih =>
      intro i n1 x2 m1 hf h2 hi hn h1 e
      obtain ⟨a2, a3, a4, a5⟩ := h1.at
      have eO := gX_O (K := K) (b := o) (d := o) a4
      have fin : K n1 ≠ 43 → K n1 ≠ 45 → j_X2_sum_43_83 (d + 1) m1 Q := fun q1 q2 => by
        rw [if_neg (by omega), if_neg (Nat.lt_irrefl o)] at eO
        have e2 := e.trans eO
        exact v_X2_sum_43_83 (hQ 1 m1 (by rw [e2]; exact h1) (by rw [e2]; exact ⟨fun _ => rfl, fun z => absurd rfl z⟩))
      have body : (K n1 = 43 ∨ K n1 = 45) → ∀ v : Int32, c_X2_step_43 d m1 (fun r2 m2 => ((r2.toInt = 0 → j_X2_sum_43_67 (d + 1) m2 Q) ∧ (r2.toInt ≠ 0 → c_X2_product_43 d x1 m2 (fun r3 m3 => ((r3.toInt ≠ 0 → c_X4_put_29 d v m3 (fun m4 => j_X2_sum_43_12 (d + 1) x1 (x2 + (1 : Int32)) m4 Q)) ∧ (r3.toInt = 0 → j_X2_sum_43_67 (d + 1) m3 Q)))))) := fun hk v => by
        rw [if_pos (by omega)] at eO
        refine Wp.deep (k_step h1 (by omega) (fun r2 m2 h2' hr2 => ⟨fun z => ?_, fun z => ?_⟩)) hd
        · have z := hr2.z z
          unfold gst at z h2'
          by_cases q : 400 ≤ n1
          · rw [if_pos q] at eO h2'
            exact v_X2_sum_43_67 (bad _ (2, n1) h2' (by first | decide | exact Nat.succ_ne_zero _) (e.trans eO))
          · rw [if_neg q] at z; exact absurd rfl z
        · have z := hr2.nz z
          unfold gst at z h2'
          by_cases q : 400 ≤ n1
          · rw [if_pos q] at z; exact absurd z (by first | decide | exact Nat.succ_ne_zero _)
          · rw [if_neg q] at eO h2'
            refine hU (n1 + 1) m2 x1 _ h2' hx (fun r3 m3 g h3 hr3 ok3 no3 => ⟨fun z3 => ?_, fun z3 => ?_⟩)
            · have z3 := hr3.nz z3
              obtain ⟨g1, g2⟩ := g
              have z3 : g1 = 0 := z3
              subst z3
              obtain ⟨p1, p2, p3⟩ := ok3 rfl
              have p2 : n1 + 1 < g2 := p2
              refine Wp.deep (k_put h3 (fun m4 h4 => ih (i + 1) g2 _ m4 ?_ (d_add h2 (by decide) (by omega)) (by omega) p3 h4 ((e.trans eO).trans p1))) hd
              have := h3.at.2.2.1
              omega
            · exact v_X2_sum_43_67 (bad _ g h3 (hr3.z z3) ((e.trans eO).trans (no3 (hr3.z z3))))
      have h37 : (K n1 = 43 ∨ K n1 = 45) → j_X2_sum_43_37 (d + 1) x1 x2 m1 Q := fun q => v_X2_sum_43_37 (Wp.deep (k_kind hK h1 (fun r hr => ⟨fun _ => body q 1, fun _ => body q 0⟩)) hd)
      exact v_X2_sum_43_12 ⟨fun q => by exfalso; omega, fun _ => Wp.deep (k_kind hK h1 (fun r hr => ⟨fun q => h37 (by omega), fun q => Wp.deep (k_kind hK h1 (fun r' hr' => ⟨fun q' => fin (by omega) (by omega), fun q' => h37 (by omega)⟩)) hd⟩)) hd⟩
  refine v_X2_sum_43 (hU n m x1 _ h hx (fun r m1 g h1 hr ok no => ⟨fun z => ?_, fun z => bad _ g h1 (hr.z z) (no (hr.z z))⟩))
  have z := hr.nz z
  obtain ⟨g1, g2⟩ := g
  have z : g1 = 0 := z
  subst z
  obtain ⟨p1, p2, p3⟩ := ok rfl
  have p2 : n < g2 := p2
  exact loop 401 0 g2 _ m1 (by omega) (by decide) (by omega) p3 h1 p1
theorem k_sums (hK : KM K mb) : ∀ (e o : Nat), o + e = 6 → cSm K mb o (3 * e + 8) := by
  intro e
  induction e with
  | zero => intro o ho; exact k_sum hK (by omega) (k_product hK (by omega) (k_unit (d := 5) hK (by omega) (by omega) (fun q => by exfalso; omega)))
  | succ e ih =>
    intro o ho
    have hS := ih (o + 1) (by omega)
    have := k_sum hK (by omega) (k_product hK (by omega) (k_unit (o := o) (d := 3 * e + 8) hK (by omega) (by omega) (fun _ => hS)))
    rw [show 3 * (e + 1) + 8 = 3 * e + 8 + 1 + 1 + 1 by omega]
    exact this
theorem k_expr {n : Nat} {m : dM} {Q : Int32 → dM → Prop} (hK : KM K mb) (h : GO K mb m (0, n)) (hQ : ∀ (r : Int32) (m' : dM), GO K mb m' (gE K n) → RT r (gE K n) → Q r m') : c_X2_sum_43 26 (0 : Int32) m Q := k_sums hK 6 0 rfl n m _ Q h (by decide) hQ
end CSU
section CRO
variable {K : Nat → Int} {mb : dM}
theorem RT.of {r : Int32} {g : gR} (h0 : g.1 = 0 → r = 1) (h1 : g.1 ≠ 0 → r = 0) : RT r g := ⟨h0, h1⟩
/-- names, then numbers, then its end -/
theorem k_row {a b : Nat} {x1 x2 : Int32} {n : Nat} {m : dM} {Q : dM → Prop} (hK : KM K mb) (h : GO K mb m (0, n)) (hk : K n ≠ 24 ∧ K n ≠ 25) (h1 : x1.toInt = a) (h2 : x2.toInt = b) (ha : a ≤ 3) (hb : b ≤ 3) (hQ : ∀ m' : dM, GO K mb m' (rb (gst n) (gsq K (List.replicate a 22 ++ (List.replicate b 23 ++ [59])))) → Q m') : c_X2_checkRow_43 3 x1 x2 m Q := by
  generalize hR : rb (gst n) (gsq K (List.replicate a 22 ++ (List.replicate b 23 ++ [59]))) = R at hQ
  have l57 : ∀ (x3 : Int32) (m' : dM) (g : gR), GO K mb m' g → RT x3 g → rb g (gsq K [59]) = R → j_X2_checkRow_43_57 3 x3 m' Q := by
    intro x3 m' g h' hr e
    refine v_X2_checkRow_43_57 ⟨fun z => v_X2_checkRow_43_68 (hQ _ ?_), fun z => ?_⟩
    · rw [rb_f (hr.z z)] at e
      rw [← e]; exact h'
    · have z := hr.nz z
      rw [rb_k z] at e
      obtain ⟨g1, g2⟩ := g
      have z : g1 = 0 := z
      subst z
      refine k_need hK h' (k := 59) (by decide) (by decide) (fun r m2 h2 hr2 => v_X2_checkRow_43_68 (hQ _ ?_))
      have e : rb (gnd K 59 g2) (fun n => (0, n)) = R := e
      by_cases q : (gnd K 59 g2).1 = 0
      · rw [rb_k q] at e
        rw [← e, ← q]; exact h2
      · rw [rb_f q] at e
        rw [← e]; exact h2
  have l34 : ∀ (f i : Nat) (x3 x4 : Int32) (m' : dM) (g : gR), i + f = b → x4.toInt = i → GO K mb m' g → RT x3 g → rb g (gsq K (List.replicate f 23 ++ [59])) = R → j_X2_checkRow_43_34 3 x2 x3 x4 m' Q := by
    intro f
    induction f with
    | zero =>
      intro i x3 x4 m' g hi h4 h' hr e
      exact v_X2_checkRow_43_34 ⟨fun _ => l57 x3 m' g h' hr e, fun q => by exfalso; omega⟩
    | succ f ih =>
      intro i x3 x4 m' g hi h4 h' hr e
      refine v_X2_checkRow_43_34 ⟨fun q => by exfalso; omega, fun _ => ⟨fun z => l57 x3 m' g h' hr ?_, fun z => ?_⟩⟩
      · rw [rb_f (hr.z z)] at e ⊢
        exact e
      · have z := hr.nz z
        rw [rb_k z] at e
        obtain ⟨g1, g2⟩ := g
        have z : g1 = 0 := z
        subst z
        exact k_need hK h' (k := 23) (by decide) (by decide) (fun r m2 h2 hr2 => ih (i + 1) r _ m2 (gnd K 23 g2) (by omega) (d_add h4 (by decide) (by omega)) h2 hr2 e)
  have l8 : ∀ (f i : Nat) (x3 x4 : Int32) (m' : dM) (g : gR), i + f = a → x4.toInt = i → GO K mb m' g → RT x3 g → rb g (gsq K (List.replicate f 22 ++ (List.replicate b 23 ++ [59]))) = R → j_X2_checkRow_43_8 3 x1 x2 x3 x4 m' Q := by
    intro f
    induction f with
    | zero =>
      intro i x3 x4 m' g hi h4 h' hr e
      exact v_X2_checkRow_43_8 ⟨fun _ => v_X2_checkRow_43_31 (l34 b 0 x3 _ m' g (by omega) (by decide) h' hr e), fun q => by exfalso; omega⟩
    | succ f ih =>
      intro i x3 x4 m' g hi h4 h' hr e
      refine v_X2_checkRow_43_8 ⟨fun q => by exfalso; omega, fun _ => ⟨fun z => v_X2_checkRow_43_31 (l34 b 0 x3 _ m' g (by omega) (by decide) h' hr ?_), fun z => ?_⟩⟩
      · rw [rb_f (hr.z z)] at e ⊢
        exact e
      · have z := hr.nz z
        rw [rb_k z] at e
        obtain ⟨g1, g2⟩ := g
        have z : g1 = 0 := z
        subst z
        exact k_need hK h' (k := 22) (by decide) (by decide) (fun r m2 h2 hr2 => ih (i + 1) r _ m2 (gnd K 22 g2) (by omega) (d_add h4 (by decide) (by omega)) h2 hr2 e)
  exact v_X2_checkRow_43 (Wp.deep (k_step h hk (fun r m1 h1' hr => l8 a 0 r _ m1 (gst n) (by omega) (by decide) h1' hr hR)) (Nat.le_of_ble_eq_true rfl))
theorem k_counted {a b c most : Nat} {x1 x2 x3 x4 : Int32} {n : Nat} {m : dM} {Q : dM → Prop} (hK : KM K mb) (h : GO K mb m (0, n)) (hk : K n ≠ 24 ∧ K n ≠ 25) (h1 : x1.toInt = ((c + 1 : Nat) : Int)) (h2 : x2.toInt = most) (h3 : x3.toInt = a) (h4 : x4.toInt = b) (ha : a ≤ 3) (hb : b ≤ 3) (hQ : ∀ m' : dM, GO K mb m' (if most ≤ c then (2, n) else rb (gst n) (gsq K (List.replicate a 22 ++ (List.replicate b 23 ++ [59])))) → Q m') : c_X2_checkCounted_43 4 x1 x2 x3 x4 m Q := by
  refine v_X2_checkCounted_43 ⟨fun q => k_row hK h hk h3 h4 ha hb (fun m' h' => v_X2_checkCounted_43_20 (hQ _ ?_)), fun q => v_X2_checkCounted_43_20 (hQ _ ?_)⟩
  · rw [if_neg (by omega)]; exact h'
  · rw [if_pos (by omega)]; exact h.set3 (by decide)
end CRO
section CLA
variable {K : Nat → Int} {mb : dM}
theorem gnd_z {k : Int} {n : Nat} {g : gR} (h : g = gnd K k n) (hz : g.1 = 0) : g = (0, n + 1) ∧ K n = k ∧ n < 400 := by
  unfold gnd gst at h
  by_cases q : K n = k
  · rw [if_pos q] at h
    by_cases q2 : 400 ≤ n
    · rw [if_pos q2] at h; rw [h] at hz; exact absurd hz (by first | decide | exact Nat.succ_ne_zero _)
    · rw [if_neg q2] at h; exact ⟨h, q, by omega⟩
  · rw [if_neg q] at h; rw [h] at hz; exact absurd hz (by first | decide | exact Nat.succ_ne_zero _)
/-- a law, from behind its sign of setting -/
theorem k_ifs {x1 : Int32} {Q : Int32 → dM → Prop} (hK : KM K mb) (hx : 0 ≤ x1.toInt ∧ x1.toInt < 4) : ∀ (r i n : Nat) (x2 : Int32) (m : dM), i + r = 4 → x2.toInt = i → GO K mb m (0, n) → (∀ (v : Int32) (m' : dM), GO K mb m' (gIf K r n) → Q v m') → j_X2_checkLaw_43_28 27 x1 x2 m Q := by
  have l122 : ∀ (n : Nat) (m : dM), GO K mb m (0, n) → (∀ (v : Int32) (m' : dM), GO K mb m' (rb (gE K n) (gnd K 59)) → Q v m') → j_X2_checkLaw_43_122 27 x1 m Q := by
    intro n m h hQ
    refine v_X2_checkLaw_43_122 (k_expr hK h (fun r1 m1 h1 hr1 => ⟨fun z => v_X2_checkLaw_43_144 (hQ _ _ ?_), fun z => ?_⟩))
    · rw [rb_f (hr1.z z)]; exact h1
    · have z := hr1.nz z
      rw [rb_k z] at hQ
      generalize gE K n = g at *
      obtain ⟨g1, g2⟩ := g
      have z : g1 = 0 := z
      subst z
      exact Wp.deep (k_endPiece hK h1 hx (k := 59) (by decide) (by decide) (fun r2 m2 h2 hr2 => ⟨fun _ => v_X2_checkLaw_43_144 (hQ _ _ h2), fun _ => hQ _ _ h2⟩)) (Nat.le_of_ble_eq_true rfl)
  have l114 : ∀ (m : dM) (g : gR), GO K mb m g → (∀ (v : Int32) (m' : dM), GO K mb m' g → Q v m') → j_X2_checkLaw_43_114 27 m Q := fun m g h hQ => v_X2_checkLaw_43_114 (hQ _ _ h)
  intro r
  induction r with
  | zero =>
    intro i n x2 m hi h2 h hQ
    refine v_X2_checkLaw_43_28 ⟨fun q => by exfalso; omega, fun _ => Wp.deep (k_kind hK h (fun v hv => ⟨fun q => l122 n m h (fun v m' h' => hQ v m' ?_), fun q => ⟨fun q4 => by exfalso; omega, fun q4 => Wp.deep (k_fail h (c := 2) (by decide) (fun m' h' => ⟨Or.inl rfl, hQ _ _ ?_⟩)) (Nat.le_of_ble_eq_true rfl)⟩⟩)) (Nat.le_of_ble_eq_true rfl)⟩
    · unfold gIf
      rw [if_neg (by omega)]; exact h'
    · unfold gIf
      rw [if_pos (by omega)]; exact h'
  | succ r ih =>
    intro i n x2 m hi h2 h hQ
    refine v_X2_checkLaw_43_28 ⟨fun q => by exfalso; omega, fun _ => Wp.deep (k_kind hK h (fun v hv => ⟨fun q => l122 n m h (fun v m' h' => hQ v m' ?_), fun q => ⟨fun q4 => ?_, fun q4 => by exfalso; omega⟩⟩)) (Nat.le_of_ble_eq_true rfl)⟩
    · unfold gIf
      rw [if_neg (by omega)]; exact h'
    · unfold gIf at hQ
      rw [if_pos (by omega)] at hQ
      refine Wp.deep (k_step h (by omega) (fun r2 m2 h2' hr2 => ⟨fun z => ?_, fun z => ?_⟩)) (Nat.le_of_ble_eq_true rfl)
      · rw [rb_f (hr2.z z)] at hQ
        exact l114 _ _ h2' hQ
      · have z := hr2.nz z
        rw [rb_k z] at hQ
        generalize gst n = g at *
        obtain ⟨g1, n2⟩ := g
        have z : g1 = 0 := z
        subst z
        have hQ : ∀ (v : Int32) (m' : dM), GO K mb m' (rb (gE K n2) (fun n => rb (gnd K 60 n) (fun n => rb (gE K n) (fun n => rb (gnd K 11 n) (fun n => rb (gE K n) (fun n => rb (gnd K 12 n) (gIf K r))))))) → Q v m' := hQ
        refine k_expr hK h2' (fun r3 m3 h3 hr3 => ⟨fun z => ?_, fun z => ?_⟩)
        · rw [rb_f (hr3.z z)] at hQ
          exact l114 _ _ h3 hQ
        · have z := hr3.nz z
          rw [rb_k z] at hQ
          generalize gE K n2 = g at *
          obtain ⟨g1, n3⟩ := g
          have z : g1 = 0 := z
          subst z
          have hQ : ∀ (v : Int32) (m' : dM), GO K mb m' (rb (gnd K 60 n3) (fun n => rb (gE K n) (fun n => rb (gnd K 11 n) (fun n => rb (gE K n) (fun n => rb (gnd K 12 n) (gIf K r)))))) → Q v m' := hQ
          refine Wp.deep (k_endPiece hK h3 hx (k := 60) (by decide) (by decide) (fun r4 m4 h4 hr4 => ⟨fun z => ?_, fun z => ?_⟩)) (Nat.le_of_ble_eq_true rfl)
          · rw [rb_f (hr4.z z)] at hQ
            exact l114 _ _ h4 hQ
          · have z := hr4.nz z
            rw [rb_k z] at hQ
            generalize gnd K 60 n3 = g at *
            obtain ⟨g1, n4⟩ := g
            have z : g1 = 0 := z
            subst z
            have hQ : ∀ (v : Int32) (m' : dM), GO K mb m' (rb (gE K n4) (fun n => rb (gnd K 11 n) (fun n => rb (gE K n) (fun n => rb (gnd K 12 n) (gIf K r))))) → Q v m' := hQ
            refine k_expr hK h4 (fun r5 m5 h5 hr5 => ⟨fun z => ?_, fun z => ?_⟩)
            · rw [rb_f (hr5.z z)] at hQ
              exact l114 _ _ h5 hQ
            · have z := hr5.nz z
              rw [rb_k z] at hQ
              generalize gE K n4 = g at *
              obtain ⟨g1, n5⟩ := g
              have z : g1 = 0 := z
              subst z
              have hQ : ∀ (v : Int32) (m' : dM), GO K mb m' (rb (gnd K 11 n5) (fun n => rb (gE K n) (fun n => rb (gnd K 12 n) (gIf K r)))) → Q v m' := hQ
              refine Wp.deep (k_endPiece hK h5 hx (k := 11) (by decide) (by decide) (fun r6 m6 h6 hr6 => ⟨fun z => ?_, fun z => ?_⟩)) (Nat.le_of_ble_eq_true rfl)
              · rw [rb_f (hr6.z z)] at hQ
                exact l114 _ _ h6 hQ
              · have z := hr6.nz z
                rw [rb_k z] at hQ
                generalize gnd K 11 n5 = g at *
                obtain ⟨g1, n6⟩ := g
                have z : g1 = 0 := z
                subst z
                have hQ : ∀ (v : Int32) (m' : dM), GO K mb m' (rb (gE K n6) (fun n => rb (gnd K 12 n) (gIf K r))) → Q v m' := hQ
                refine k_expr hK h6 (fun r7 m7 h7 hr7 => ⟨fun z => ?_, fun z => ?_⟩)
                · rw [rb_f (hr7.z z)] at hQ
                  exact l114 _ _ h7 hQ
                · have z := hr7.nz z
                  rw [rb_k z] at hQ
                  generalize gE K n6 = g at *
                  obtain ⟨g1, n7⟩ := g
                  have z : g1 = 0 := z
                  subst z
                  have hQ : ∀ (v : Int32) (m' : dM), GO K mb m' (rb (gnd K 12 n7) (gIf K r)) → Q v m' := hQ
                  refine Wp.deep (k_endPiece hK h7 hx (k := 12) (by decide) (by decide) (fun r8 m8 h8 hr8 => ⟨fun z => ?_, fun z => ?_⟩)) (Nat.le_of_ble_eq_true rfl)
                  · have z := hr8.nz z
                    rw [rb_k z] at hQ
                    generalize gnd K 12 n7 = g at *
                    obtain ⟨g1, n8⟩ := g
                    have z : g1 = 0 := z
                    subst z
                    exact ih (i + 1) n8 _ m8 (by omega) (d_add h2 (by decide) (by omega)) h8 hQ
                  · rw [rb_f (hr8.z z)] at hQ
                    exact l114 _ _ h8 hQ
theorem k_law {x1 : Int32} {n : Nat} {m : dM} {Q : Int32 → dM → Prop} (hK : KM K mb) (hx : 0 ≤ x1.toInt ∧ x1.toInt < 4) (h : GO K mb m (0, n)) (hk : K n ≠ 24 ∧ K n ≠ 25) (hQ : ∀ (v : Int32) (m' : dM), GO K mb m' (gLaw K n) → Q v m') : c_X2_checkLaw_43 27 x1 m Q := by
  unfold gLaw at hQ
  refine v_X2_checkLaw_43 (Wp.deep (k_begin h hx (fun m1 h1 => Wp.deep (k_step h1 hk (fun r2 m2 h2 hr2 => ⟨fun z => ?_, fun z => ?_⟩)) (Nat.le_of_ble_eq_true rfl))) (Nat.le_of_ble_eq_true rfl))
  · rw [rb_f (hr2.z z)] at hQ
    exact v_X2_checkLaw_43_24 (hQ _ _ h2)
  · have z := hr2.nz z
    rw [rb_k z] at hQ
    generalize gst n = g at *
    obtain ⟨g1, n2⟩ := g
    have z : g1 = 0 := z
    subst z
    have hQ : ∀ (v : Int32) (m' : dM), GO K mb m' (rb (gnd K 61 n2) (gIf K 4)) → Q v m' := hQ
    refine Wp.deep (k_need hK h2 (k := 61) (by decide) (by decide) (fun r3 m3 h3 hr3 => ⟨fun z => ?_, fun z => ?_⟩)) (Nat.le_of_ble_eq_true rfl)
    · have z := hr3.nz z
      rw [rb_k z] at hQ
      generalize gnd K 61 n2 = g at *
      obtain ⟨g1, n3⟩ := g
      have z : g1 = 0 := z
      subst z
      exact k_ifs hK hx 4 0 n3 _ m3 rfl (by decide) h3 hQ
    · rw [rb_f (hr3.z z)] at hQ
      exact v_X2_checkLaw_43_24 (hQ _ _ h3)
end CLA
end
section
/-! THE CLASS's grammar: all of a text -/
section GLE
variable {K : Nat → Int}
theorem gst_le (n : Nat) : n ≤ (gst n).2 ∧ ((gst n).1 = 0 → n < (gst n).2) := by
  unfold gst
  by_cases q : 400 ≤ n
  · rw [if_pos q]; exact ⟨Nat.le_refl _, fun z => absurd z (by first | decide | exact Nat.succ_ne_zero _)⟩
  · rw [if_neg q]; exact ⟨Nat.le_succ _, fun _ => Nat.lt_succ_self _⟩
theorem gnd_le (k : Int) (n : Nat) : n ≤ (gnd K k n).2 := by
  unfold gnd
  by_cases q : K n = k
  · rw [if_pos q]; exact (gst_le n).1
  · rw [if_neg q]; exact Nat.le_refl _
theorem gE_le (n : Nat) : n ≤ (gE K n).2 := by
  by_cases q : n ≤ 400
  · exact (gX_ok (K := K) (b := 0) _ 0 false n rfl q).1.1
  · unfold gE gX
    rw [show 401 - n = 0 by omega]
    exact Nat.le_refl _
theorem rb_le {n : Nat} {r : gR} {k : Nat → gR} (h : n ≤ r.2) (hk : ∀ n', n ≤ n' → n ≤ (k n').2) : n ≤ (rb r k).2 := by
  by_cases q : r.1 = 0
  · rw [rb_k q]; exact hk _ h
  · rw [rb_f q]; exact h
theorem gsq_le : ∀ (ks : List Int) (n : Nat), n ≤ (gsq K ks n).2
  | [], n => Nat.le_refl _
  | k :: ks, n => rb_le (gnd_le k n) (fun n' h => Nat.le_trans h (gsq_le ks n'))
theorem gIf_le : ∀ (r n : Nat), n ≤ (gIf K r n).2
  | 0, n => by
    unfold gIf
    by_cases q : K n = 10
    · rw [if_pos q]; exact Nat.le_refl _
    · rw [if_neg q]; exact rb_le (gE_le n) (fun n' h => Nat.le_trans h (gnd_le 59 n'))
  | r + 1, n => by
    unfold gIf
    by_cases q : K n = 10
    · rw [if_pos q]
      exact rb_le (gst_le n).1 (fun a ha => rb_le (Nat.le_trans ha (gE_le a)) (fun b hb => rb_le (Nat.le_trans hb (gnd_le 60 b)) (fun c hc => rb_le (Nat.le_trans hc (gE_le c)) (fun d hd => rb_le (Nat.le_trans hd (gnd_le 11 d)) (fun e he => rb_le (Nat.le_trans he (gE_le e)) (fun f hf => rb_le (Nat.le_trans hf (gnd_le 12 f)) (fun g hg => Nat.le_trans hg (gIf_le r g))))))))
    · rw [if_neg q]; exact rb_le (gE_le n) (fun n' h => Nat.le_trans h (gnd_le 59 n'))
theorem rb_lt {n : Nat} {k : Nat → gR} (hk : ∀ n', n' ≤ (k n').2) (h : (rb (gst n) k).1 = 0) : n < (rb (gst n) k).2 := by
  by_cases q : (gst n).1 = 0
  · rw [rb_k q]
    exact Nat.lt_of_lt_of_le ((gst_le n).2 q) (hk _)
  · rw [rb_f q] at h; exact absurd h q
theorem gLaw_lt {n : Nat} (h : (gLaw K n).1 = 0) : n < (gLaw K n).2 := by
  unfold gLaw at h ⊢
  exact rb_lt (fun a => rb_le (gnd_le 61 a) (fun b hb => Nat.le_trans hb (gIf_le 4 b))) h
/-- a TELL that is right goes on -/
theorem gTell_lt {cf cw cu n : Nat} (h : (gTell K cf cw cu n).1 = 0) : n < (gTell K cf cw cu n).2 := by
  generalize hg : gTell K cf cw cu n = g at h ⊢
  unfold gTell at hg
  split at hg
  · split at hg
    · subst hg; exact absurd h (Nat.succ_ne_zero _)
    · subst hg; exact rb_lt (gsq_le _) h
  · split at hg
    · split at hg
      · subst hg; exact absurd h (Nat.succ_ne_zero _)
      · subst hg; exact rb_lt (gsq_le _) h
    · split at hg
      · split at hg
        · subst hg; exact absurd h (Nat.succ_ne_zero _)
        · subst hg; exact rb_lt (gsq_le _) h
      · split at hg
        · subst hg; exact gLaw_lt h
        · split at hg
          · subst hg; exact rb_lt (gsq_le _) h
          · split at hg
            · subst hg; exact rb_lt (gsq_le _) h
            · subst hg; exact absurd h (Nat.succ_ne_zero _)
end GLE
def OF (mb m : dM) : Prop := (∀ k : Nat, (k < 29 ∨ k = 31 ∨ (36 < k ∧ k ≠ 43)) → m.1 k = mb.1 k) ∧ m.2.1 = mb.2.1 ∧ m.2.2 = mb.2.2
def GT (K : Nat → Int) (mb m : dM) (cf cw cu : Nat) (r : gR) : Prop := OF mb m ∧ GL m ∧ ((m.1 43 2).toInt = (r.2 : Int) ∧ (m.1 43 3).toInt = (r.1 : Int)) ∧ (r.2 ≤ 400 ∧ lvK K r.2) ∧ (m.1 43 4).toInt = (cf : Int) ∧ (m.1 43 5).toInt = (cw : Int) ∧ (m.1 43 6).toInt = (cu : Int)
section CCH
variable {K : Nat → Int} {mb : dM}
theorem GT.km {m : dM} {cf cw cu : Nat} {r : gR} (h : GT K mb m cf cw cu r) (hK : KM K mb) : KM K m := fun i h1 h2 => by
  rw [h.1.1 39 (by omega)]
  exact hK i h1 h2
theorem GT.go {m : dM} {cf cw cu : Nat} {r : gR} (h : GT K mb m cf cw cu r) : GO K m m r := ⟨⟨fun _ _ => rfl, fun _ _ _ => rfl, rfl, rfl⟩, h.2.1, h.2.2.1, h.2.2.2.1.1, h.2.2.2.1.2⟩
/-- a count up, and what is checked then -/
theorem GT.up {m m' : dM} {cf cw cu cf' cw' cu' : Nat} {r r' : gR} (h : GT K mb m cf cw cu r) {M : dM} (hM : ∀ k : Nat, k ≠ 43 → M.1 k = m.1 k) (hM2 : M.2 = m.2) (h' : GO K M m' r') (e4 : (M.1 43 4).toInt = (cf' : Int)) (e5 : (M.1 43 5).toInt = (cw' : Int)) (e6 : (M.1 43 6).toInt = (cu' : Int)) : GT K mb m' cf' cw' cu' r' := by
  obtain ⟨⟨a1, a2, a3⟩, b, c, d, e⟩ := h
  obtain ⟨⟨f1, f2, f3, f4⟩, g1, g2, g3, g4⟩ := h'
  refine ⟨⟨fun k hk => ?_, ?_, ?_⟩, g1, g2, ⟨g3, g4⟩, ?_, ?_, ?_⟩
  · rw [f1 k hk, hM k (by omega)]; exact a1 k hk
  · rw [f3, hM2]; exact a2
  · rw [f4, hM2]; exact a3
  · rw [f2 4 (by decide) (by decide)]; exact e4
  · rw [f2 5 (by decide) (by decide)]; exact e5
  · rw [f2 6 (by decide) (by decide)]; exact e6
theorem k_told {x1 : Int32} {n cf cw cu : Nat} {m : dM} {Q : dM → Prop} (hK : KM K mb) (h : GT K mb m cf cw cu (0, n)) (hx : x1.toInt = K n) (hk : K n ≠ 24) (hc : cf ≤ 400 ∧ cw ≤ 400 ∧ cu ≤ 400) (hQ : ∀ m' : dM, GT K mb m' (cf + ct (K n) 0) (cw + ct (K n) 1) (cu + ct (K n) 2) (gTell K cf cw cu n) → Q m') : c_X2_checkTold_43 28 x1 m Q := by
  have hKm := h.km hK
  have hg := h.go
  obtain ⟨e4, e5, e6⟩ := h.2.2.2.2
  have cnt : ∀ (j : Nat) (v : Int32), j = 4 ∨ j = 5 ∨ j = 6 → GO K (dSet m 43 j v) (dSet m 43 j v) (0, n) ∧ KM K (dSet m 43 j v) := fun j v hj => by
    refine ⟨⟨⟨fun _ _ => rfl, fun _ _ _ => rfl, rfl, rfl⟩, h.2.1.set43, ?_, hg.2.2.2.1, hg.2.2.2.2⟩, fun i a b => ?_⟩
    · rw [dSet_j (by omega), dSet_j (by omega)]; exact hg.2.2.1
    · rw [dSet_k (by decide)]; exact hKm i a b
  have fin : ∀ (m' : dM), GT K mb m' (cf + ct (K n) 0) (cw + ct (K n) 1) (cu + ct (K n) 2) (gTell K cf cw cu n) → j_X2_checkTold_43_165 28 m' Q := fun m' h' => v_X2_checkTold_43_165 (hQ m' h')
  have laws : 3 ≤ K n ∧ K n ≤ 6 → c_X2_checkLaw_43 27 (x1 - (3 : Int32)) m (fun r4 m4 => j_X2_checkTold_43_165 28 m4 Q) := fun q => by
    have f3 := dSubE (X := x1.toInt) (Y := 3) (x := x1) (y := (3 : Int32)) rfl (by decide) (by omega) (by omega)
    refine k_law hKm (by omega) hg (by omega) (fun v m' h' => fin m' ?_)
    have eT : gTell K cf cw cu n = gLaw K n := by
      unfold gTell
      rw [if_neg (by omega), if_neg (by omega), if_neg (by omega), if_pos q]
    rw [eT]
    unfold ct
    rw [if_neg (by omega), if_neg (by omega), if_neg (by omega)]
    exact h.up (fun _ _ => rfl) rfl h' e4 e5 e6
  have rows : ∀ (b : Nat) (x2 : Int32), x2.toInt = b → b ≤ 3 → 3 ≤ K n → K n ≠ 25 → gTell K cf cw cu n = rb (gst n) (gsq K (List.replicate 0 22 ++ (List.replicate b 23 ++ [59]))) → c_X2_checkRow_43 27 (0 : Int32) x2 m (fun m8 => j_X2_checkTold_43_165 28 m8 Q) := fun b x2 h2 hb hk3 hk25 eT => by
    refine Wp.deep (k_row hKm hg ⟨hk, hk25⟩ (a := 0) (b := b) (by decide) h2 (by decide) hb (fun m' h' => fin m' ?_)) (Nat.le_of_ble_eq_true rfl)
    rw [eT]
    unfold ct
    rw [if_neg (by omega), if_neg (by omega), if_neg (by omega)]
    exact h.up (fun _ _ => rfl) rfl h' e4 e5 e6
  refine v_X2_checkTold_43 ⟨fun q => ?_, fun q => ?_, fun q => ?_, fun q => laws (by omega), fun q => laws (by omega), fun q => laws (by omega), fun q => laws (by omega), fun q => ?_, fun q => ?_, fun q => ?_, fun q => ?_⟩
  · have f := d_add (k := 1) (K := 1) e4 (by decide) (by omega)
    have g := cnt 4 (m.1 43 4 + 1) (Or.inl rfl)
    refine Wp.deep (k_counted g.2 g.1 (by omega) (c := cf) (most := 7) (a := 1) (b := 1) f (by decide) (by decide) (by decide) (by decide) (by decide) (fun m' h' => fin m' ?_)) (Nat.le_of_ble_eq_true rfl)
    have eT : gTell K cf cw cu n = if 7 ≤ cf then (2, n) else rb (gst n) (gsq K [22, 23, 59]) := by
      unfold gTell
      rw [if_pos (by omega)]
    rw [eT]
    unfold ct
    rw [if_pos (by omega), if_neg (by omega), if_neg (by omega)]
    exact h.up (fun k a => dSet_k a) rfl h' (by rw [dSet_s]; exact f) (by rw [dSet_j (by decide)]; exact e5) (by rw [dSet_j (by decide)]; exact e6)
  · have f := d_add (k := 1) (K := 1) e5 (by decide) (by omega)
    have g := cnt 5 (m.1 43 5 + 1) (Or.inr (Or.inl rfl))
    refine Wp.deep (k_counted g.2 g.1 (by omega) (c := cw) (most := 10) (a := 2) (b := 1) f (by decide) (by decide) (by decide) (by decide) (by decide) (fun m' h' => fin m' ?_)) (Nat.le_of_ble_eq_true rfl)
    have eT : gTell K cf cw cu n = if 10 ≤ cw then (2, n) else rb (gst n) (gsq K [22, 22, 23, 59]) := by
      unfold gTell
      rw [if_neg (by omega), if_pos (by omega)]
    rw [eT]
    unfold ct
    rw [if_neg (by omega), if_pos (by omega), if_neg (by omega)]
    exact h.up (fun k a => dSet_k a) rfl h' (by rw [dSet_j (by decide)]; exact e4) (by rw [dSet_s]; exact f) (by rw [dSet_j (by decide)]; exact e6)
  · have f := d_add (k := 1) (K := 1) e6 (by decide) (by omega)
    have g := cnt 6 (m.1 43 6 + 1) (Or.inr (Or.inr rfl))
    refine Wp.deep (k_counted g.2 g.1 (by omega) (c := cu) (most := 8) (a := 2) (b := 3) f (by decide) (by decide) (by decide) (by decide) (by decide) (fun m' h' => fin m' ?_)) (Nat.le_of_ble_eq_true rfl)
    have eT : gTell K cf cw cu n = if 8 ≤ cu then (2, n) else rb (gst n) (gsq K [22, 22, 23, 23, 23, 59]) := by
      unfold gTell
      rw [if_neg (by omega), if_neg (by omega), if_pos (by omega)]
    rw [eT]
    unfold ct
    rw [if_neg (by omega), if_neg (by omega), if_pos (by omega)]
    exact h.up (fun k a => dSet_k a) rfl h' (by rw [dSet_j (by decide)]; exact e4) (by rw [dSet_j (by decide)]; exact e5) (by rw [dSet_s]; exact f)
  · refine rows 2 _ (by decide) (by decide) (by omega) (by omega) ?_
    unfold gTell
    rw [if_neg (by omega), if_neg (by omega), if_neg (by omega), if_neg (by omega), if_pos (by omega)]
    rfl
  · refine rows 1 _ (by decide) (by decide) (by omega) (by omega) ?_
    unfold gTell
    rw [if_neg (by omega), if_neg (by omega), if_neg (by omega), if_neg (by omega), if_neg (by omega), if_pos (by omega)]
    rfl
  · refine rows 1 _ (by decide) (by decide) (by omega) (by omega) ?_
    unfold gTell
    rw [if_neg (by omega), if_neg (by omega), if_neg (by omega), if_neg (by omega), if_neg (by omega), if_pos (by omega)]
    rfl
  · refine fin _ ?_
    have eT : gTell K cf cw cu n = (1, n) := by
      unfold gTell
      rw [if_neg (by omega), if_neg (by omega), if_neg (by omega), if_neg (by omega), if_neg (by omega), if_neg (by omega)]
    rw [eT]
    unfold ct
    rw [if_neg (by omega), if_neg (by omega), if_neg (by omega)]
    exact h.up (M := m) (fun _ _ => rfl) rfl (hg.set3 (by decide)) e4 e5 e6
theorem k_check {m : dM} {Q : Int32 → dM → Prop} (hK : KM K m) (hL : GL m) (hQ : ∀ (r : Int32) (m' : dM), OF m m' → GL m' → r.toInt = ((gAll K 401 0 0 0 0).1 : Int) → (m'.1 43 2).toInt = ((gAll K 401 0 0 0 0).2 : Int) → (m'.1 43 3).toInt = ((gAll K 401 0 0 0 0).1 : Int) → ((gAll K 401 0 0 0 0).2 ≤ 400 ∧ lvK K (gAll K 401 0 0 0 0).2) → Q r m') : c_X2_check_43 29 m Q := by
  generalize hR : gAll K 401 0 0 0 0 = R at hQ
  have fin : ∀ (m' : dM) (cf cw cu : Nat), GT K m m' cf cw cu R → j_X2_check_43_64 29 m' Q := fun m' cf cw cu h => v_X2_check_43_64 (hQ _ _ h.1 h.2.1 h.2.2.1.2 h.2.2.1.1 h.2.2.1.2 h.2.2.2.1)
  have loop : ∀ (f i cf cw cu : Nat) (g : gR) (x1 : Int32) (m' : dM), i + f = 401 → x1.toInt = i → (g.1 = 0 → i ≤ g.2) → (cf ≤ i ∧ cw ≤ i ∧ cu ≤ i) → GT K m m' cf cw cu g → rb g (fun n => gAll K f cf cw cu n) = R → j_X2_check_43_27 29 x1 m' Q := by
    intro f
    induction f with
    | zero =>
      intro i cf cw cu g x1 m' hi hx hg hc h e
      refine v_X2_check_43_27 ⟨fun _ => fin m' cf cw cu ?_, fun q => by exfalso; omega⟩
      by_cases z : g.1 = 0
      · have := hg z
        have := h.2.2.2.1.1
        exfalso; omega
      · rw [rb_f z] at e
        rw [← e]; exact h
    | succ f ih =>
      intro i cf cw cu g x1 m' hi hx hg hc h e
      refine v_X2_check_43_27 ⟨fun q => by exfalso; omega, fun _ => ⟨fun z => fin m' cf cw cu ?_, fun z => ?_⟩⟩
      · have e3 := h.2.2.1.2
        rw [rb_f (by omega)] at e
        rw [← e]; exact h
      · have e3 := h.2.2.1.2
        have z : g.1 = 0 := by omega
        have hgi := hg z
        rw [rb_k z] at e
        obtain ⟨g1, n⟩ := g
        have z : g1 = 0 := z
        subst z
        have hgi : i ≤ n := hgi
        have hn : n ≤ 400 := h.2.2.2.1.1
        have hKm := h.km hK
        have e : gAll K (f + 1) cf cw cu n = R := e
        unfold gAll at e
        refine Wp.deep (k_kind hKm h.go (fun r hr => ⟨fun q => fin m' cf cw cu ?_, fun q => Wp.deep (k_kind hKm h.go (fun r2 hr2 => ?_)) (Nat.le_of_ble_eq_true rfl)⟩)) (Nat.le_of_ble_eq_true rfl)
        · rw [if_pos (by omega)] at e
          rw [← e]; exact h
        · rw [if_neg (by omega)] at e
          refine k_told hK h hr2 (by omega) (by omega) (fun m2 h2 => ih (i + 1) _ _ _ _ _ m2 (by omega) (d_add hx (by decide) (by omega)) (fun z => ?_) ?_ h2 e)
          · have := gTell_lt z
            omega
          · unfold ct
            split <;> split <;> split <;> omega
  refine v_X2_check_43 (loop 401 0 0 0 0 (0, 0) _ _ rfl (by decide) (fun _ => Nat.le_refl _) (by decide) ?_ hR)
  refine ⟨⟨fun k hk => ?_, rfl, rfl⟩, GL.set43 (GL.set43 (GL.set43 (GL.set43 (GL.set43 hL)))), ⟨rfl, rfl⟩, ⟨by decide, fun j hj => by exact absurd hj (Nat.not_lt_zero j)⟩, rfl, rfl, rfl⟩
  rw [dSet_k (by omega), dSet_k (by omega), dSet_k (by omega), dSet_k (by omega), dSet_k (by omega)]
end CCH
end
section
/-! THE MEANING, as a function of kinds K and values V of the tokens of a text whose grammar is right -/
/-- flats: where told; wires: where, from, to; uses: where, its flat; where surge, coins, seed were told last -/
abbrev mSt : Type := List Nat × List (Nat × Nat × Nat) × List (Nat × Nat) × (Option Nat × Option Nat × Option Nat)
/-- the first of f from i on that has the name -/
def ix (N : Nat → Int64) (y : Int64) : Nat → Nat → Option Nat
  | 0, _ => none
  | f + 1, i => if N i = y then some i else ix N y f (i + 1)
theorem ix_s {N : Nat → Int64} {y : Int64} {f i : Nat} : ix N y (f + 1) i = if N i = y then some i else ix N y f (i + 1) := rfl
def oi (o : Option Nat) : Int := match o with
  | none => -1
  | some i => i
def wx (W : Nat → Nat × Nat) (a b : Nat) : Nat → Nat → Bool
  | 0, _ => false
  | f + 1, i => if W i = (a, b) ∨ W i = (b, a) then true else wx W a b f (i + 1)
theorem wx_s {W : Nat → Nat × Nat} {a b f i : Nat} : wx W a b (f + 1) i = if W i = (a, b) ∨ W i = (b, a) then true else wx W a b f (i + 1) := rfl
section MEA
variable (K : Nat → Int) (V : Nat → Int64)
def iV (i : Nat) : Int := (V i).toInt32.toInt
def fN (s : mSt) (i : Nat) : Int64 := V (s.1.getD i 0 + 1)
def uN (s : mSt) (u : Nat) : Int64 := V ((s.2.2.1.getD u (0, 0)).1 + 1)
def wE (s : mSt) (w : Nat) : Nat × Nat := (s.2.1.getD w (0, 0, 0)).2
def fF (s : mSt) (y : Int64) : Option Nat := ix (fN V s) y s.1.length 0
def uF (s : mSt) (y : Int64) : Option Nat := ix (uN V s) y s.2.2.1.length 0
def knw (s : mSt) (y : Int64) : Bool := (fF V s y).isSome || (uF V s y).isSome
/-- a number between: else the fault at it -/
def bnd (i : Nat) (lo hi : Int) (r : gR × mSt) (s : mSt) : gR × mSt := if lo ≤ iV V i ∧ iV V i ≤ hi then r else ((5, i), s)
def mFlat (n : Nat) (s : mSt) : gR × mSt := cond (knw V s (V (n + 1))) ((3, n + 1), s) (bnd V (n + 2) 0 9 ((0, 0), (s.1 ++ [n], s.2)) s)
def mWire (n : Nat) (s : mSt) : gR × mSt := match fF V s (V (n + 1)) with
  | none => ((4, n + 1), s)
  | some a => match fF V s (V (n + 2)) with
    | none => ((4, n + 2), s)
    | some b => if a = b ∨ wx (wE s) a b s.2.1.length 0 = true then ((3, n + 2), s) else bnd V (n + 3) 1 99 ((0, 0), (s.1, s.2.1 ++ [(n, a, b)], s.2.2)) s
def mUse (n : Nat) (s : mSt) : gR × mSt := cond (knw V s (V (n + 1))) ((3, n + 1), s) (match fF V s (V (n + 2)) with
  | none => ((4, n + 2), s)
  | some h => bnd V (n + 3) 1 19 (bnd V (n + 4) 0 23 (bnd V (n + 5) (iV V (n + 4)) 23 ((0, 0), (s.1, s.2.1, s.2.2.1 ++ [(n, h)], s.2.2.2)) s) s) s)
def mTell (n : Nat) (s : mSt) : gR × mSt :=
  if K n = 0 then mFlat V n s
  else if K n = 1 then mWire V n s
  else if K n = 2 then mUse V n s
  else if K n = 7 then bnd V (n + 1) 0 100 (bnd V (n + 2) 0 19 ((0, 0), (s.1, s.2.1, s.2.2.1, (some n, s.2.2.2.2))) s) s
  else if K n = 8 then bnd V (n + 1) 0 999 ((0, 0), (s.1, s.2.1, s.2.2.1, (s.2.2.2.1, some n, s.2.2.2.2.2))) s
  else if K n = 9 then bnd V (n + 1) 0 9999 ((0, 0), (s.1, s.2.1, s.2.2.1, (s.2.2.2.1, s.2.2.2.2.1, some n))) s
  else ((0, 0), s)
def mGo (r : gR × mSt) (k : mSt → gR × mSt) : gR × mSt := if r.1.1 = 0 then k r.2 else r
def mAll : Nat → Nat → mSt → gR × mSt
  | 0, _, s => ((0, 0), s)
  | f + 1, n, s => if K n = 24 then ((0, 0), s) else mGo (mTell K V n s) (fun s' => mAll f (gTell K s.1.length s.2.1.length s.2.2.1.length n).2 s')
end MEA
def mS0 : mSt := ([], [], [], (none, none, none))
theorem mGo_k {r : gR × mSt} {k : mSt → gR × mSt} (h : r.1.1 = 0) : mGo r k = k r.2 := by unfold mGo; rw [if_pos h]
theorem mGo_f {r : gR × mSt} {k : mSt → gR × mSt} (h : r.1.1 ≠ 0) : mGo r k = r := by unfold mGo; rw [if_neg h]
section GRZ
variable {K : Nat → Int}
theorem gst_z {n : Nat} (h : (gst n).1 = 0) : gst n = (0, n + 1) ∧ n < 400 := by
  unfold gst at h ⊢
  by_cases q : 400 ≤ n
  · rw [if_pos q] at h; exact absurd h (by first | decide | exact Nat.succ_ne_zero _)
  · rw [if_neg q]; exact ⟨rfl, by omega⟩
theorem gnd_0 {k : Int} {n : Nat} (h : (gnd K k n).1 = 0) : gnd K k n = (0, n + 1) ∧ K n = k ∧ n < 400 := by
  unfold gnd at h ⊢
  by_cases q : K n = k
  · rw [if_pos q] at h ⊢
    exact ⟨(gst_z h).1, q, (gst_z h).2⟩
  · rw [if_neg q] at h; exact absurd h (by first | decide | exact Nat.succ_ne_zero _)
theorem rb_z {r : gR} {k : Nat → gR} (h : (rb r k).1 = 0) : r.1 = 0 ∧ rb r k = k r.2 := by
  by_cases q : r.1 = 0
  · exact ⟨q, rb_k q⟩
  · rw [rb_f q] at h; exact absurd h q
/-- a row that is right: each token as it must be -/
theorem gsq_z : ∀ (ks : List Int) (n : Nat), (gsq K ks n).1 = 0 → gsq K ks n = (0, n + ks.length) ∧ ∀ (i : Nat) (k : Int), ks[i]? = some k → K (n + i) = k ∧ n + i < 400
  | [], n, _ => ⟨rfl, fun i k h => by simp at h⟩
  | k :: ks, n, h => by
    have h : (rb (gnd K k n) (gsq K ks)).1 = 0 := h
    obtain ⟨h1, h2⟩ := rb_z h
    obtain ⟨e1, e2, e3⟩ := gnd_0 h1
    rw [h2, e1] at h
    obtain ⟨a, b⟩ := gsq_z ks (n + 1) h
    refine ⟨?_, fun i k' hi => ?_⟩
    · show rb (gnd K k n) (gsq K ks) = _
      rw [h2, e1]
      show gsq K ks (n + 1) = _
      rw [a, List.length_cons]
      congr 1
      omega
    · match i, hi with
      | 0, hi =>
        simp at hi
        subst hi
        exact ⟨e2, e3⟩
      | i + 1, hi =>
        have := b i k' (by simpa using hi)
        rw [show n + (i + 1) = n + 1 + i by omega]
        exact this
theorem grow_z {ks : List Int} {n : Nat} (h : (rb (gst n) (gsq K ks)).1 = 0) : rb (gst n) (gsq K ks) = (0, n + 1 + ks.length) ∧ ∀ (i : Nat) (k : Int), ks[i]? = some k → K (n + 1 + i) = k ∧ n + 1 + i < 400 := by
  obtain ⟨h1, h2⟩ := rb_z h
  obtain ⟨e1, e2⟩ := gst_z h1
  rw [h2, e1] at h
  rw [h2, e1]
  exact gsq_z ks (n + 1) h
/-- no sign of end from n on, ahead of n' -/
def sc (K : Nat → Int) (n n' : Nat) : Prop := n ≤ n' ∧ ∀ j : Nat, n ≤ j → j < n' → K j ≠ 59
theorem sc.tr {a b c : Nat} (h : sc K a b) (h' : sc K b c) : sc K a c := ⟨Nat.le_trans h.1 h'.1, fun j h1 h2 => by
  by_cases e : j < b
  · exact h.2 j h1 e
  · exact h'.2 j (by omega) h2⟩
theorem sc_nd {k : Int} {n : Nat} (h : (gnd K k n).1 = 0) (hk : k ≠ 59) : sc K n (gnd K k n).2 := by
  obtain ⟨e1, e2, e3⟩ := gnd_0 h
  rw [e1]
  exact ⟨Nat.le_succ n, fun j h1 h2 => by
    have h2 : j < n + 1 := h2
    have : j = n := by omega
    rw [this, e2]; exact hk⟩
theorem sc_E {n : Nat} (h : (gE K n).1 = 0) : sc K n (gE K n).2 := by
  by_cases q : n ≤ 400
  · have := gX_ok (K := K) (b := 0) _ 0 false n rfl q
    exact ⟨this.1.1, fun j h1 h2 => (this.2 j h1 h2).2.2⟩
  · unfold gE gX at h
    rw [show 401 - n = 0 by omega] at h
    exact absurd h (by first | decide | exact Nat.succ_ne_zero _)
/-- a law's end is the first sign of end behind its word -/
theorem gend_z {n : Nat} (h : (rb (gE K n) (gnd K 59)).1 = 0) : ∃ e : Nat, rb (gE K n) (gnd K 59) = (0, e + 1) ∧ e < 400 ∧ K e = 59 ∧ sc K n e := by
  obtain ⟨h1, h2⟩ := rb_z h
  rw [h2] at h ⊢
  obtain ⟨e1, e2, e3⟩ := gnd_0 h
  exact ⟨(gE K n).2, e1, e3, e2, sc_E h1⟩
theorem gIf_z : ∀ (r n : Nat), (gIf K r n).1 = 0 → ∃ e : Nat, gIf K r n = (0, e + 1) ∧ e < 400 ∧ K e = 59 ∧ sc K n e
  | 0, n, h => by
    unfold gIf at h ⊢
    by_cases q : K n = 10
    · rw [if_pos q] at h; exact absurd h (by first | decide | exact Nat.succ_ne_zero _)
    · rw [if_neg q] at h ⊢; exact gend_z h
  | r + 1, n, h => by
    unfold gIf at h ⊢
    by_cases q : K n = 10
    · rw [if_pos q] at h ⊢
      obtain ⟨a1, a2⟩ := rb_z h
      rw [a2] at h ⊢
      obtain ⟨g1, g2⟩ := gst_z a1
      obtain ⟨b1, b2⟩ := rb_z h
      rw [b2] at h ⊢
      obtain ⟨c1, c2⟩ := rb_z h
      rw [c2] at h ⊢
      obtain ⟨d1, d2⟩ := rb_z h
      rw [d2] at h ⊢
      obtain ⟨e1, e2⟩ := rb_z h
      rw [e2] at h ⊢
      obtain ⟨f1, f2⟩ := rb_z h
      rw [f2] at h ⊢
      obtain ⟨i1, i2⟩ := rb_z h
      rw [i2] at h ⊢
      obtain ⟨e, x1, x2, x3, x4⟩ := gIf_z r _ h
      refine ⟨e, x1, x2, x3, ?_⟩
      have s0 : sc K n (gst n).2 := by
        rw [g1]
        exact ⟨Nat.le_succ n, fun j h1 h2 => by
          have h2 : j < n + 1 := h2
          have : j = n := by omega
          rw [this, q]; decide⟩
      exact (((((((s0.tr (sc_E b1)).tr (sc_nd c1 (by decide))).tr (sc_E d1)).tr (sc_nd e1 (by decide))).tr (sc_E f1)).tr (sc_nd i1 (by decide))).tr x4)
    · rw [if_neg q] at h ⊢; exact gend_z h
theorem gLaw_z {n : Nat} (h : (gLaw K n).1 = 0) : ∃ e : Nat, gLaw K n = (0, e + 1) ∧ e < 400 ∧ K e = 59 ∧ sc K (n + 1) e := by
  unfold gLaw at h ⊢
  obtain ⟨a1, a2⟩ := rb_z h
  rw [a2] at h ⊢
  obtain ⟨g1, g2⟩ := gst_z a1
  rw [g1] at h ⊢
  obtain ⟨b1, b2⟩ := rb_z h
  rw [b2] at h ⊢
  obtain ⟨e, x1, x2, x3, x4⟩ := gIf_z 4 _ h
  exact ⟨e, x1, x2, x3, (sc_nd b1 (by decide)).tr x4⟩
theorem gAll_le : ∀ (f cf cw cu n : Nat), n ≤ (gAll K f cf cw cu n).2
  | 0, _, _, _, n => Nat.le_refl _
  | f + 1, cf, cw, cu, n => by
    unfold gAll
    by_cases q : K n = 24
    · rw [if_pos q]; exact Nat.le_refl _
    · rw [if_neg q]
      refine rb_le ?_ (fun n' h => Nat.le_trans h (gAll_le f _ _ _ n'))
      unfold gTell gLaw
      split
      · split
        · exact Nat.le_refl _
        · exact rb_le (gst_le n).1 (fun n' h => Nat.le_trans h (gsq_le _ n'))
      · split
        · split
          · exact Nat.le_refl _
          · exact rb_le (gst_le n).1 (fun n' h => Nat.le_trans h (gsq_le _ n'))
        · split
          · split
            · exact Nat.le_refl _
            · exact rb_le (gst_le n).1 (fun n' h => Nat.le_trans h (gsq_le _ n'))
          · split
            · exact rb_le (gst_le n).1 (fun a ha => rb_le (Nat.le_trans ha (gnd_le 61 a)) (fun b hb => Nat.le_trans hb (gIf_le 4 b)))
            · split
              · exact rb_le (gst_le n).1 (fun n' h => Nat.le_trans h (gsq_le _ n'))
              · split
                · exact rb_le (gst_le n).1 (fun n' h => Nat.le_trans h (gsq_le _ n'))
                · exact Nat.le_refl _
end GRZ
section IXS
theorem ix_none {N : Nat → Int64} {y : Int64} : ∀ (f i : Nat), ix N y f i = none ↔ ∀ j : Nat, i ≤ j → j < i + f → N j ≠ y
  | 0, i => ⟨fun _ j h1 h2 => by omega, fun _ => rfl⟩
  | f + 1, i => by
    unfold ix
    by_cases q : N i = y
    · rw [if_pos q]
      exact ⟨fun h => (by cases h), fun h => absurd q (h i (Nat.le_refl _) (by omega))⟩
    · rw [if_neg q, ix_none f (i + 1)]
      exact ⟨fun h j h1 h2 => by
        by_cases e : j = i
        · rw [e]; exact q
        · exact h j (by omega) (by omega), fun h j h1 h2 => h j (by omega) (by omega)⟩
theorem ix_some {N : Nat → Int64} {y : Int64} {k : Nat} : ∀ (f i : Nat), ix N y f i = some k → i ≤ k ∧ k < i + f ∧ N k = y
  | 0, i, h => by cases h
  | f + 1, i, h => by
    unfold ix at h
    by_cases q : N i = y
    · rw [if_pos q] at h
      cases h
      exact ⟨Nat.le_refl _, by omega, q⟩
    · rw [if_neg q] at h
      have := ix_some f (i + 1) h
      exact ⟨by omega, by omega, this.2.2⟩
theorem fF_lt {V : Nat → Int64} {s : mSt} {y : Int64} {a : Nat} (h : fF V s y = some a) : a < s.1.length := by
  have := ix_some _ _ h
  omega
theorem oi_ne {o : Option Nat} : oi o ≠ -1 ↔ ∃ a, o = some a := by
  cases o with
  | none => exact ⟨fun h => absurd rfl h, fun ⟨a, h⟩ => by cases h⟩
  | some a => exact ⟨fun _ => ⟨a, rfl⟩, fun _ => by show ((a : Nat) : Int) ≠ -1; omega⟩
end IXS
end
section
/-! THE CLASS's meaning, exactly -/
def VM (K : Nat → Int) (V : Nat → Int64) (m : dM) : Prop := ∀ i : Nat, i ≤ 400 → lvK K i → (m.1 39 i).toInt = K i ∧ (K i ≤ 23 → m.2.1 41 i = V i)
def MF (mb m : dM) : Prop := (∀ k : Nat, (k < 20 ∨ (28 < k ∧ k ≠ 44)) → m.1 k = mb.1 k) ∧ (∀ k : Nat, k ≠ 45 → k ≠ 46 → m.2.1 k = mb.2.1 k) ∧ m.2.2 = mb.2.2
def oV (V : Nat → Int64) (o : Option Nat) (k : Nat) (d : Int32) : Int32 := match o with
  | none => d
  | some t => (V (t + k)).toInt32
/-- the draft, as told -/
def MS (V : Nat → Int64) (s : mSt) (m : dM) : Prop :=
  ((m.1 20 0).toInt = (s.1.length : Int) ∧ s.1.length ≤ 7) ∧ ((m.1 20 1).toInt = (s.2.1.length : Int) ∧ s.2.1.length ≤ 10) ∧ ((m.1 20 2).toInt = (s.2.2.1.length : Int) ∧ s.2.2.1.length ≤ 8) ∧
  (∀ i : Nat, i < s.1.length → m.2.1 45 i = fN V s i ∧ m.1 21 i = (V (s.1.getD i 0 + 2)).toInt32) ∧
  (∀ w : Nat, w < s.2.1.length → ((m.1 22 w).toInt = ((wE s w).1 : Int) ∧ (m.1 23 w).toInt = ((wE s w).2 : Int) ∧ m.1 24 w = (V ((s.2.1.getD w (0, 0, 0)).1 + 3)).toInt32) ∧ ((wE s w).1 < 7 ∧ (wE s w).2 < 7 ∧ (wE s w).1 ≠ (wE s w).2)) ∧
  (∀ u : Nat, u < s.2.2.1.length → m.2.1 46 u = uN V s u ∧ (m.1 25 u).toInt = ((s.2.2.1.getD u (0, 0)).2 : Int) ∧ m.1 26 u = (V ((s.2.2.1.getD u (0, 0)).1 + 3)).toInt32 ∧ m.1 27 u = (V ((s.2.2.1.getD u (0, 0)).1 + 4)).toInt32 ∧ m.1 28 u = (V ((s.2.2.1.getD u (0, 0)).1 + 5)).toInt32) ∧
  (m.1 20 3 = oV V s.2.2.2.1 1 0 ∧ m.1 20 4 = oV V s.2.2.2.1 2 0 ∧ m.1 20 5 = oV V s.2.2.2.2.1 1 100 ∧ m.1 20 6 = oV V s.2.2.2.2.2 1 0)
/-- how a TELL came out -/
def TO (K : Nat → Int) (V : Nat → Int64) (R : gR × mSt) (e : Nat) (mb : dM) (r : Int32) (m' : dM) : Prop := MF mb m' ∧ (R.1.1 = 0 → r = 1 ∧ (m'.1 44 4).toInt = (e : Int) ∧ (m'.1 44 5).toInt = 0 ∧ MS V R.2 m') ∧ (R.1.1 ≠ 0 → r = 0 ∧ (m'.1 44 4).toInt = (R.1.2 : Int) ∧ (m'.1 44 5).toInt = (R.1.1 : Int) ∧ R.1.2 ≤ 400 ∧ lvK K R.1.2)
section CME
variable {K : Nat → Int} {V : Nat → Int64}
theorem VM.of {m m' : dM} (h : VM K V m) (h1 : m'.1 39 = m.1 39) (h2 : m'.2.1 41 = m.2.1 41) : VM K V m' := fun i a b => by rw [h1, h2]; exact h i a b
theorem VM.mf {m m' : dM} (h : VM K V m) (hF : MF m m') : VM K V m' := h.of (hF.1 39 (by omega)) (hF.2.1 41 (by decide) (by decide))
theorem MF.rf (m : dM) : MF m m := ⟨fun _ _ => rfl, fun _ _ _ => rfl, rfl⟩
theorem MF.tr {a b c : dM} (h : MF a b) (h' : MF b c) : MF a c := ⟨fun k q => (h'.1 k q).trans (h.1 k q), fun k q1 q2 => (h'.2.1 k q1 q2).trans (h.2.1 k q1 q2), h'.2.2.trans h.2.2⟩
theorem MF.set {a b : dM} {k j : Nat} {v : Int32} (h : MF a b) (hk : (20 ≤ k ∧ k ≤ 28) ∨ k = 44) : MF a (dSet b k j v) := ⟨fun c q => by rw [dSet_k (by omega)]; exact h.1 c q, h.2.1, h.2.2⟩
theorem MF.setL {a b : dM} {k j : Nat} {v : Int64} (h : MF a b) (hk : k = 45 ∨ k = 46) : MF a (dSetL b k j v) := ⟨h.1, fun c q1 q2 => by
  rw [← h.2.1 c q1 q2]
  funext x
  rw [dSetL_e, if_neg (fun z => by omega)], h.2.2⟩
theorem h_kindAt {x1 : Int32} {i : Nat} {m : dM} {Q : Int32 → dM → Prop} (hV : VM K V m) (hx : x1.toInt = i) (hi : i ≤ 400) (hl : lvK K i) (hQ : ∀ r : Int32, r.toInt = K i → Q r m) : c_X8_kindAt_38 1 x1 m Q := by
  refine v_X8_kindAt_38 ⟨fun q => by exfalso; omega, fun q => ⟨fun q => by exfalso; omega, fun q => ⟨by omega, hQ _ ?_⟩⟩⟩
  rw [d_cn hx]
  exact (hV i hi hl).1
theorem h_nameAt {x1 : Int32} {i : Nat} {m : dM} {Q : Int64 → dM → Prop} (hV : VM K V m) (hx : x1.toInt = i) (hi : i ≤ 400) (hl : lvK K i) (hk : K i ≤ 23) (hQ : Q (V i) m) : c_X8_nameAt_38 1 x1 m Q := by
  refine v_X8_nameAt_38 ⟨fun q => by exfalso; omega, fun q => ⟨fun q => by exfalso; omega, fun q => ⟨by omega, ?_⟩⟩⟩
  rw [d_cn hx, (hV i hi hl).2 hk]
  exact hQ
theorem h_numberAt {x1 : Int32} {i : Nat} {m : dM} {Q : Int32 → dM → Prop} (hV : VM K V m) (hx : x1.toInt = i) (hi : i ≤ 400) (hl : lvK K i) (hk : K i ≤ 23) (hQ : Q (V i).toInt32 m) : c_X8_numberAt_38 2 x1 m Q := v_X8_numberAt_38 (h_nameAt hV hx hi hl hk hQ)
theorem h_placeAt {x1 : Int32} {i : Nat} {m : dM} {Q : Int32 → dM → Prop} (hx : x1.toInt = i) (hi : i ≤ 400) (hQ : Q (m.1 40 i) m) : c_X8_placeAt_38 1 x1 m Q := by
  refine v_X8_placeAt_38 ⟨fun q => by exfalso; omega, fun q => ⟨fun q => by exfalso; omega, fun q => ⟨by omega, ?_⟩⟩⟩
  rw [d_cn hx]
  exact hQ
theorem h_fail {x1 : Int32} {m : dM} {Q : Int32 → dM → Prop} (hQ : Q 0 (dSet m 44 5 x1)) : c_X5_fail_44 1 x1 m Q := v_X5_fail_44 hQ
theorem h_isWithin {x1 x2 : Int32} {i : Nat} {m : dM} {Q : Int32 → dM → Prop} (hV : VM K V m) (hx : (m.1 44 4).toInt = (i : Int)) (hi : i ≤ 400) (hl : lvK K i) (hk : K i ≤ 23) (h1 : x1.toInt ≤ iV V i ∧ iV V i ≤ x2.toInt → Q 1 (dSet m 44 4 (m.1 44 4 + 1))) (h0 : ¬ (x1.toInt ≤ iV V i ∧ iV V i ≤ x2.toInt) → Q 0 (dSet m 44 5 (5 : Int32))) : c_X5_isWithin_44 3 x1 x2 m Q := by
  unfold iV at h1 h0
  have no : ¬ (x1.toInt ≤ (V i).toInt32.toInt ∧ (V i).toInt32.toInt ≤ x2.toInt) → j_X5_isWithin_44_22 3 m Q := fun q => v_X5_isWithin_44_22 (Wp.deep (h_fail ⟨Or.inl rfl, h0 q⟩) (Nat.le_of_ble_eq_true rfl))
  exact v_X5_isWithin_44 (h_numberAt hV hx hi hl hk ⟨fun q => no (by omega), fun q => ⟨fun q2 => h1 ⟨q, q2⟩, fun q2 => no (by omega)⟩⟩)
theorem h_ix45 {N : Nat → Int64} {c : Nat} {x1 : Int32} {y : Int64} {m : dM} {Q : Int32 → dM → Prop} (hN : ∀ i : Nat, i < c → m.2.1 45 i = N i) (hc : c ≤ 7) (hx : x1.toInt = c) (hQ : ∀ r : Int32, r.toInt = oi (ix N y c 0) → Q r m) : c_X5_indexOf_45 1 x1 y m Q := by
  have loop : ∀ (f i : Nat) (x4 : Int32), i + f = c → x4.toInt = i → ix N y f i = ix N y c 0 → j_X5_indexOf_45_3 1 x1 y x4 m Q := by
    intro f
    induction f with
    | zero =>
      intro i x4 hi h4 e
      refine v_X5_indexOf_45_3 ⟨fun _ => v_X5_indexOf_45_34 (hQ _ ?_), fun q => by exfalso; omega⟩
      rw [← e]
      show (-1 : Int) = -1
      rfl
    | succ f ih =>
      intro i x4 hi h4 e
      refine v_X5_indexOf_45_3 ⟨fun q => by exfalso; omega, fun _ => ⟨fun q => by exfalso; omega, fun _ => ⟨by omega, ?_⟩⟩⟩
      rw [d_cn h4, hN i (by omega)]
      have hcm := dCmpE (N i) y
      rw [ix_s] at e
      refine ⟨fun q => ih (i + 1) _ (by omega) (d_add h4 (by decide) (by omega)) ?_, fun q => hQ _ ?_⟩
      · rw [if_neg (fun z => q (hcm.2.2.mpr z))] at e
        exact e
      · rw [if_pos (hcm.2.2.mp q)] at e
        rw [← e]
        exact h4
  exact v_X5_indexOf_45 (loop c 0 _ (by omega) (by decide) rfl)
theorem h_ix46 {N : Nat → Int64} {c : Nat} {x1 : Int32} {y : Int64} {m : dM} {Q : Int32 → dM → Prop} (hN : ∀ i : Nat, i < c → m.2.1 46 i = N i) (hc : c ≤ 8) (hx : x1.toInt = c) (hQ : ∀ r : Int32, r.toInt = oi (ix N y c 0) → Q r m) : c_X5_indexOf_46 1 x1 y m Q := by
  have loop : ∀ (f i : Nat) (x4 : Int32), i + f = c → x4.toInt = i → ix N y f i = ix N y c 0 → j_X5_indexOf_46_3 1 x1 y x4 m Q := by
    intro f
    induction f with
    | zero =>
      intro i x4 hi h4 e
      refine v_X5_indexOf_46_3 ⟨fun _ => v_X5_indexOf_46_34 (hQ _ ?_), fun q => by exfalso; omega⟩
      rw [← e]
      show (-1 : Int) = -1
      rfl
    | succ f ih =>
      intro i x4 hi h4 e
      refine v_X5_indexOf_46_3 ⟨fun q => by exfalso; omega, fun _ => ⟨fun q => by exfalso; omega, fun _ => ⟨by omega, ?_⟩⟩⟩
      rw [d_cn h4, hN i (by omega)]
      have hcm := dCmpE (N i) y
      rw [ix_s] at e
      refine ⟨fun q => ih (i + 1) _ (by omega) (d_add h4 (by decide) (by omega)) ?_, fun q => hQ _ ?_⟩
      · rw [if_neg (fun z => q (hcm.2.2.mpr z))] at e
        exact e
      · rw [if_pos (hcm.2.2.mp q)] at e
        rw [← e]
        exact h4
  exact v_X5_indexOf_46 (loop c 0 _ (by omega) (by decide) rfl)
theorem oi_n {o : Option Nat} (h : oi o = -1) : o = none := by
  cases o with
  | none => rfl
  | some a => have h : ((a : Nat) : Int) = -1 := h; exfalso; omega
theorem oi_s {o : Option Nat} (h : oi o ≠ -1) : ∃ a, o = some a := oi_ne.mp h
/-- what is needed of a draft to look names up -/
def NB (V : Nat → Int64) (s : mSt) (m : dM) : Prop := ((m.1 20 0).toInt = (s.1.length : Int) ∧ s.1.length ≤ 7) ∧ ((m.1 20 2).toInt = (s.2.2.1.length : Int) ∧ s.2.2.1.length ≤ 8) ∧ (∀ i : Nat, i < s.1.length → m.2.1 45 i = fN V s i) ∧ (∀ u : Nat, u < s.2.2.1.length → m.2.1 46 u = uN V s u)
theorem MS.nb {s : mSt} {m : dM} (h : MS V s m) : NB V s m := ⟨h.1, h.2.2.1, fun i hi => (h.2.2.2.1 i hi).1, fun u hu => (h.2.2.2.2.2.1 u hu).1⟩
theorem h_isNewName {s : mSt} {i : Nat} {m : dM} {Q : Int32 → dM → Prop} (hV : VM K V m) (hN : NB V s m) (hx : (m.1 44 4).toInt = (i : Int)) (hi : i ≤ 400) (hl : lvK K i) (hk : K i ≤ 23) (h1 : knw V s (V i) = false → Q 1 m) (h0 : knw V s (V i) = true → Q 0 (dSet m 44 5 (3 : Int32))) : c_X5_isNewName_44 2 m Q := by
  have no : knw V s (V i) = true → j_X5_isNewName_44_50 2 m Q := fun q => v_X5_isNewName_44_50 (h_fail ⟨Or.inl rfl, h0 q⟩)
  refine v_X5_isNewName_44 (h_nameAt hV hx hi hl hk (h_ix45 (N := fN V s) hN.2.2.1 hN.1.2 hN.1.1 (fun r hr => ⟨fun q => no ?_, fun q => h_ix46 (N := uN V s) hN.2.2.2 hN.2.1.2 hN.2.1.1 (fun r2 hr2 => ⟨fun q2 => h1 ?_, fun q2 => no ?_⟩)⟩)))
  · rw [hr] at q
    obtain ⟨a, ha⟩ := oi_s q
    unfold knw fF
    rw [ha]
    rfl
  · rw [hr] at q
    rw [hr2] at q2
    unfold knw fF uF
    rw [oi_n q, oi_n q2]
    rfl
  · rw [hr2] at q2
    obtain ⟨a, ha⟩ := oi_s q2
    unfold knw uF
    rw [ha]
    simp
theorem h_flatNamed {s : mSt} {i : Nat} {m : dM} {Q : Int32 → dM → Prop} (hV : VM K V m) (hN : (m.1 20 0).toInt = (s.1.length : Int) ∧ s.1.length ≤ 7) (hN2 : ∀ i : Nat, i < s.1.length → m.2.1 45 i = fN V s i) (hx : (m.1 44 4).toInt = (i : Int)) (hi : i ≤ 400) (hl : lvK K i) (hk : K i ≤ 23) (h1 : ∀ (a : Nat) (r : Int32), fF V s (V i) = some a → r.toInt = (a : Int) → Q r m) (h0 : ∀ r : Int32, fF V s (V i) = none → r.toInt = -1 → Q r (dSet m 44 5 (4 : Int32))) : c_X5_flatNamed_44 2 m Q := by
  refine v_X5_flatNamed_44 (h_nameAt hV hx hi hl hk (h_ix45 (N := fN V s) hN2 hN.2 hN.1 (fun r hr => ⟨fun q => v_X5_flatNamed_44_36 ?_, fun q => v_X5_flatNamed_44_36 (h0 r (oi_n ?_) q)⟩)))
  · rw [hr] at q
    obtain ⟨a, ha⟩ := oi_s q
    rw [ha] at hr
    exact h1 a r ha hr
  · rw [← q, hr]
    rfl
theorem getD_app {α : Type} {l : List α} {x d : α} {i : Nat} (h : i < l.length) : (l ++ [x]).getD i d = l.getD i d := by
  rw [List.getD_eq_getElem?_getD, List.getD_eq_getElem?_getD, List.getElem?_append_left h]
theorem getD_last {α : Type} {l : List α} {x d : α} : (l ++ [x]).getD l.length d = x := by
  rw [List.getD_eq_getElem?_getD, List.getElem?_append_right (Nat.le_refl _), Nat.sub_self]
  rfl
theorem h_takeFlat {s : mSt} {n : Nat} {m : dM} {Q : Int32 → dM → Prop} (hV : VM K V m) (hM : MS V s m) (hx : (m.1 44 4).toInt = ((n + 1 : Nat) : Int)) (h0 : (m.1 44 5).toInt = 0) (hn : n + 3 < 400) (hl : lvK K (n + 4)) (hk1 : K (n + 1) = 22) (hk2 : K (n + 2) = 23) (hc : s.1.length < 7) (hQ : ∀ (r : Int32) (m' : dM), TO K V (mFlat V n s) (n + 3) m r m' → Q r m') : c_X5_takeFlat_44 4 m Q := by
  have hf := hM.1.1
  refine v_X5_takeFlat_44 ⟨fun _ => ?_, fun q => by exfalso; omega⟩
  rw [d_cn hf]
  refine Wp.deep (h_isNewName hV hM.nb hx (by omega) (hl.dn (by omega)) (by omega) (fun hkn => ⟨fun _ => ?_, fun q => absurd q (by first | decide | exact Nat.succ_ne_zero _)⟩) (fun hkn => ⟨fun q => absurd rfl q, fun _ => hQ _ _ ?_⟩)) (Nat.le_of_ble_eq_true rfl)
  · refine Wp.deep (h_nameAt hV hx (by omega) (hl.dn (by omega)) (by omega) ⟨by omega, ?_⟩) (Nat.le_of_ble_eq_true rfl)
    have e2 := d_add (k := 1) (K := 1) hx (by decide) (by omega)
    have hV1 : VM K V (dSet (dSetL m 45 s.1.length (V (n + 1))) 44 4 (m.1 44 4 + 1)) := hV.of (by rw [dSet_k (by decide)]; rfl) rfl
    refine Wp.deep (h_numberAt (i := n + 2) hV1 e2 (by omega) (hl.dn (by omega)) (by omega) ⟨by omega, ?_⟩) (Nat.le_of_ble_eq_true rfl)
    have F : MF m (dSet (dSet (dSet (dSetL m 45 s.1.length (V (n + 1))) 44 4 (m.1 44 4 + 1)) 21 s.1.length (V (n + 2)).toInt32) 20 0 (m.1 20 0 + 1)) := ((((MF.rf m).setL (Or.inl rfl)).set (Or.inr rfl)).set (Or.inl (by decide))).set (Or.inl (by decide))
    have hV2 := hV.mf F
    have ex : (((dSet (dSet (dSet (dSetL m 45 s.1.length (V (n + 1))) 44 4 (m.1 44 4 + 1)) 21 s.1.length (V (n + 2)).toInt32) 20 0 (m.1 20 0 + 1)).1 44 4).toInt = ((n + 2 : Nat) : Int)) := e2
    have e0 := ti_0
    have e9 := ti_9
    refine h_isWithin hV2 ex (by omega) (hl.dn (by omega)) (by omega) (fun hb => ⟨Or.inr rfl, hQ _ _ ?_⟩) (fun hb => ⟨Or.inl rfl, hQ _ _ ?_⟩)
    · have eR : mFlat V n s = ((0, 0), (s.1 ++ [n], s.2)) := by
        unfold mFlat bnd
        rw [hkn, cond_false, if_pos (by omega)]
      rw [eR]
      refine ⟨F.set (Or.inr rfl), fun _ => ⟨rfl, ?_, h0, ?_⟩, fun q => absurd rfl q⟩
      · exact d_add (k := 1) (K := 1) ex (by decide) (by omega)
      · obtain ⟨a1, a2, a3, a4, a5, a6, a7⟩ := hM
        have ef := d_add (k := 1) (K := 1) hf (by decide) (by omega)
        refine ⟨⟨?_, ?_⟩, a2, a3, fun i hi => ?_, a5, a6, a7⟩
        · rw [List.length_append]; exact ef
        · rw [List.length_append]; show s.1.length + 1 ≤ 7; omega
        · rw [List.length_append] at hi
          have hi : i < s.1.length + 1 := hi
          by_cases q : i = s.1.length
          · subst q
            refine ⟨?_, ?_⟩
            · show (dSetL m 45 s.1.length (V (n + 1))).2.1 45 s.1.length = V ((s.1 ++ [n]).getD s.1.length 0 + 1)
              rw [dSetL_e, if_pos ⟨rfl, rfl⟩, getD_last]
            · show (dSet (dSet (dSetL m 45 s.1.length (V (n + 1))) 44 4 (m.1 44 4 + 1)) 21 s.1.length (V (n + 2)).toInt32).1 21 s.1.length = _
              rw [dSet_s, getD_last]
          · have := a4 i (by omega)
            refine ⟨?_, ?_⟩
            · show (dSetL m 45 s.1.length (V (n + 1))).2.1 45 i = V ((s.1 ++ [n]).getD i 0 + 1)
              rw [dSetL_e, if_neg (fun z => q z.2), getD_app (by omega)]
              exact this.1
            · show (dSet (dSet (dSetL m 45 s.1.length (V (n + 1))) 44 4 (m.1 44 4 + 1)) 21 s.1.length (V (n + 2)).toInt32).1 21 i = _
              rw [dSet_j q, getD_app (by omega)]
              exact this.2
    · have eR : mFlat V n s = ((5, n + 2), s) := by
        unfold mFlat bnd
        rw [hkn, cond_false, if_neg (by omega)]
      rw [eR]
      exact ⟨F.set (Or.inr rfl), fun q => absurd q (by first | decide | exact Nat.succ_ne_zero _), fun _ => ⟨rfl, ex, rfl, by show n + 2 ≤ 400; omega, hl.dn (show n + 2 ≤ n + 4 by omega)⟩⟩
  · have eR : mFlat V n s = ((3, n + 1), s) := by
      unfold mFlat
      rw [hkn]
      rfl
    rw [eR]
    exact ⟨(MF.rf m).set (Or.inr rfl), fun q => absurd q (by first | decide | exact Nat.succ_ne_zero _), fun _ => ⟨rfl, hx, rfl, by show n + 1 ≤ 400; omega, hl.dn (show n + 1 ≤ n + 4 by omega)⟩⟩
end CME
end
section
/-! THE CLASS's meaning, 2: wires, uses, the rest -/
theorem d_of {x : Int32} {k : Nat} (h : x.toInt = k) : x = Int32.ofNat k := by
  have := d_nat (x := x) (by omega)
  rw [h, Int.toNat_natCast] at this
  exact this
set_option maxRecDepth 100000 in
theorem mask_eq : ∀ a b c d : Fin 7, a ≠ b → c ≠ d → ((((1 : Int32) <<< (Int32.ofNat c &&& 31)) ||| ((1 : Int32) <<< (Int32.ofNat d &&& 31))).toInt = (((1 : Int32) <<< (Int32.ofNat a &&& 31)) ||| ((1 : Int32) <<< (Int32.ofNat b &&& 31))).toInt ↔ (c = a ∧ d = b) ∨ (c = b ∧ d = a)) := by decide +kernel
section CMW
variable {K : Nat → Int} {V : Nat → Int64}
/-- what is needed of a draft to look wires up -/
def WB (s : mSt) (m : dM) : Prop := ((m.1 20 1).toInt = (s.2.1.length : Int) ∧ s.2.1.length ≤ 10) ∧ ∀ w : Nat, w < s.2.1.length → ((m.1 22 w).toInt = ((wE s w).1 : Int) ∧ (m.1 23 w).toInt = ((wE s w).2 : Int)) ∧ ((wE s w).1 < 7 ∧ (wE s w).2 < 7 ∧ (wE s w).1 ≠ (wE s w).2)
theorem h_isWired {s : mSt} {x1 x2 : Int32} {a b : Nat} {m : dM} {Q : Int32 → dM → Prop} (hW : WB s m) (h1 : x1.toInt = a) (h2 : x2.toInt = b) (ha : a < 7) (hb : b < 7) (hab : a ≠ b) (hy : wx (wE s) a b s.2.1.length 0 = true → Q 1 m) (hn : wx (wE s) a b s.2.1.length 0 = false → Q 0 m) : c_X3_isWired_20 2 x1 x2 m Q := by
  have loop : ∀ (f i : Nat) (x4 : Int32), i + f = s.2.1.length → x4.toInt = i → wx (wE s) a b f i = wx (wE s) a b s.2.1.length 0 → j_X3_isWired_20_11 2 (((1 : Int32) <<< (x1 &&& 31)) ||| ((1 : Int32) <<< (x2 &&& 31))) x4 m Q := by
    have hc := hW.1.1
    intro f
    induction f with
    | zero =>
      intro i x4 hi h4 e
      exact v_X3_isWired_20_11 ⟨fun _ => hn e.symm, fun q => by exfalso; omega⟩
    | succ f ih =>
      intro i x4 hi h4 e
      obtain ⟨⟨w1, w2⟩, w3, w4, w5⟩ := hW.2 i (by omega)
      have hl := hW.1.2
      refine v_X3_isWired_20_11 ⟨fun q => by exfalso; omega, fun _ => v_X3_endsOf_20 ⟨by omega, by omega, ?_⟩⟩
      rw [d_cn h4, d_of w1, d_of w2, d_of h1, d_of h2]
      have hm := mask_eq ⟨a, ha⟩ ⟨b, hb⟩ ⟨(wE s i).1, w3⟩ ⟨(wE s i).2, w4⟩ (fun z => hab (Fin.mk.inj z)) (fun z => w5 (Fin.mk.inj z))
      have hm2 : ((⟨(wE s i).1, w3⟩ : Fin 7) = ⟨a, ha⟩ ∧ (⟨(wE s i).2, w4⟩ : Fin 7) = ⟨b, hb⟩ ∨ (⟨(wE s i).1, w3⟩ : Fin 7) = ⟨b, hb⟩ ∧ (⟨(wE s i).2, w4⟩ : Fin 7) = ⟨a, ha⟩) ↔ (wE s i = (a, b) ∨ wE s i = (b, a)) := by
        constructor
        · intro h
          rcases h with ⟨q1, q2⟩ | ⟨q1, q2⟩
          · exact Or.inl (Prod.ext (Fin.mk.inj q1) (Fin.mk.inj q2))
          · exact Or.inr (Prod.ext (Fin.mk.inj q1) (Fin.mk.inj q2))
        · intro h
          rcases h with h | h
          · exact Or.inl ⟨Fin.ext (congrArg Prod.fst h), Fin.ext (congrArg Prod.snd h)⟩
          · exact Or.inr ⟨Fin.ext (congrArg Prod.fst h), Fin.ext (congrArg Prod.snd h)⟩
      have hm3 := hm.trans hm2
      rw [wx_s] at e
      refine ⟨fun q => ?_, fun q => hy ?_⟩
      · rw [if_neg (fun z => q (hm3.mpr z))] at e
        have := ih (i + 1) (x4 + 1) (by omega) (d_add h4 (by decide) (by omega)) e
        rw [d_of h1, d_of h2] at this
        exact this
      · rw [if_pos (hm3.mp q)] at e
        exact e.symm
  exact v_X3_isWired_20 (loop _ 0 _ (Nat.zero_add _) (by decide) rfl)
theorem MS.wb {s : mSt} {m : dM} (h : MS V s m) : WB s m := ⟨h.2.1, fun w hw => ⟨⟨(h.2.2.2.2.1 w hw).1.1, (h.2.2.2.2.1 w hw).1.2.1⟩, (h.2.2.2.2.1 w hw).2⟩⟩
theorem h_takeWire {s : mSt} {n : Nat} {m : dM} {Q : Int32 → dM → Prop} (hV : VM K V m) (hM : MS V s m) (hx : (m.1 44 4).toInt = ((n + 1 : Nat) : Int)) (h0 : (m.1 44 5).toInt = 0) (hn : n + 4 < 400) (hl : lvK K (n + 5)) (hk1 : K (n + 1) = 22) (hk2 : K (n + 2) = 22) (hk3 : K (n + 3) = 23) (hc : s.2.1.length < 10) (hQ : ∀ (r : Int32) (m' : dM), TO K V (mWire V n s) (n + 4) m r m' → Q r m') : c_X5_takeWire_44 4 m Q := by
  have hw := hM.2.1.1
  have hfl := hM.1.2
  refine v_X5_takeWire_44 ⟨fun _ => ?_, fun q => by exfalso; omega⟩
  rw [d_cn hw]
  refine Wp.deep (h_flatNamed hV hM.1 hM.nb.2.2.1 hx (by omega) (hl.dn (by omega)) (by omega) (fun a r1 ha hr1 => ⟨fun _ => ?_, fun q => by exfalso; omega⟩) (fun r1 ha hr1 => ⟨fun q => absurd hr1 q, fun _ => hQ _ _ ?_⟩)) (Nat.le_of_ble_eq_true rfl)
  · have e2 := d_add (k := 1) (K := 1) hx (by decide) (by omega)
    have F1 : MF m (dSet m 44 4 (m.1 44 4 + 1)) := (MF.rf m).set (Or.inr rfl)
    have fail3 : ∀ b : Nat, fF V s (V (n + 2)) = some b → (a = b ∨ wx (wE s) a b s.2.1.length 0 = true) → j_X5_takeWire_44_71 4 (dSet m 44 4 (m.1 44 4 + 1)) Q := fun b hb hw => by
      refine v_X5_takeWire_44_71 (Wp.deep (h_fail ⟨Or.inl rfl, hQ _ _ ?_⟩) (Nat.le_of_ble_eq_true rfl))
      have eR : mWire V n s = ((3, n + 2), s) := by
        unfold mWire
        rw [ha]
        simp only
        rw [hb]
        simp only
        rw [if_pos hw]
      rw [eR]
      exact ⟨F1.set (Or.inr rfl), fun q => absurd q (by first | decide | exact Nat.succ_ne_zero _), fun _ => ⟨rfl, e2, rfl, by show n + 2 ≤ 400; omega, hl.dn (show n + 2 ≤ n + 5 by omega)⟩⟩
    refine Wp.deep (h_flatNamed (s := s) (i := n + 2) (hV.mf F1) hM.1 hM.nb.2.2.1 e2 (by omega) (hl.dn (by omega)) (by omega) (fun b r2 hb hr2 => ⟨fun _ => ⟨fun q => fail3 b hb (Or.inl (by omega)), fun q => ?_⟩, fun q => by exfalso; omega⟩) (fun r2 hb hr2 => ⟨fun q => absurd hr2 q, fun _ => hQ _ _ ?_⟩)) (Nat.le_of_ble_eq_true rfl)
    · have la := fF_lt ha
      have lb := fF_lt hb
      have W1 : WB s (dSet m 44 4 (m.1 44 4 + 1)) := hM.wb
      refine Wp.deep (h_isWired W1 hr1 hr2 (by omega) (by omega) (by omega) (fun hwd => ⟨fun q => absurd q (by first | decide | exact Nat.succ_ne_zero _), fun _ => fail3 b hb (Or.inr hwd)⟩) (fun hwd => ⟨fun _ => ⟨by omega, by omega, ?_⟩, fun q => absurd (by decide) q⟩)) (Nat.le_of_ble_eq_true rfl)
      have hnw : ¬ (a = b ∨ wx (wE s) a b s.2.1.length 0 = true) := by
        rw [hwd]
        exact fun z => z.elim (fun q => by omega) (fun q => by cases q)
      have e3 := d_add (k := 1) (K := 1) (x := (dSet m 44 4 (m.1 44 4 + 1)).1 44 4) e2 (by decide) (by omega)
      have F3 : MF m (dSet (dSet (dSet (dSet m 44 4 (m.1 44 4 + 1)) 44 4 ((dSet m 44 4 (m.1 44 4 + 1)).1 44 4 + 1)) 22 s.2.1.length r1) 23 s.2.1.length r2) := (((F1.set (Or.inr rfl)).set (Or.inl (by decide))).set (Or.inl (by decide)))
      refine Wp.deep (h_numberAt (i := n + 3) (hV.mf F3) e3 (by omega) (hl.dn (by omega)) (by omega) ⟨by omega, ?_⟩) (Nat.le_of_ble_eq_true rfl)
      generalize hMM : dSet (dSet (dSet (dSet m 44 4 (m.1 44 4 + 1)) 44 4 ((dSet m 44 4 (m.1 44 4 + 1)).1 44 4 + 1)) 22 s.2.1.length r1) 23 s.2.1.length r2 = M3 at F3 ⊢
      have g44 : (M3.1 44 4).toInt = ((n + 3 : Nat) : Int) := by rw [← hMM]; exact e3
      have g445 : (M3.1 44 5).toInt = 0 := by rw [← hMM]; exact h0
      have g20 : M3.1 20 = m.1 20 := by rw [← hMM]; rw [dSet_k (by decide), dSet_k (by decide), dSet_k (by decide), dSet_k (by decide)]
      have gk : ∀ k : Nat, k ≠ 22 → k ≠ 23 → k ≠ 44 → M3.1 k = m.1 k := fun k a b c => by rw [← hMM, dSet_k b, dSet_k a, dSet_k c, dSet_k c]
      have gL : M3.2.1 = m.2.1 := by rw [← hMM]; rfl
      have g22 : ∀ j : Nat, M3.1 22 j = if j = s.2.1.length then r1 else m.1 22 j := fun j => by
        rw [← hMM, dSet_k (by decide), dSet_e, dSet_k (by decide), dSet_k (by decide)]
        by_cases q : j = s.2.1.length
        · rw [if_pos ⟨rfl, q⟩, if_pos q]
        · rw [if_neg (fun z => q z.2), if_neg q]
      have g23 : ∀ j : Nat, M3.1 23 j = if j = s.2.1.length then r2 else m.1 23 j := fun j => by
        rw [← hMM, dSet_e, dSet_k (by decide), dSet_k (by decide), dSet_k (by decide)]
        by_cases q : j = s.2.1.length
        · rw [if_pos ⟨rfl, q⟩, if_pos q]
        · rw [if_neg (fun z => q z.2), if_neg q]
      have F4 : MF m (dSet (dSet M3 24 s.2.1.length (V (n + 3)).toInt32) 20 1 (M3.1 20 1 + 1)) := (F3.set (Or.inl (by decide))).set (Or.inl (by decide))
      have e1 := ti_1
      have e99 := ti_99
      refine h_isWithin (i := n + 3) (hV.mf F4) g44 (by omega) (hl.dn (by omega)) (by omega) (fun hbd => ⟨Or.inr rfl, hQ _ _ ?_⟩) (fun hbd => ⟨Or.inl rfl, hQ _ _ ?_⟩)
      · have eR : mWire V n s = ((0, 0), (s.1, s.2.1 ++ [(n, a, b)], s.2.2)) := by
          unfold mWire bnd
          rw [ha]
          simp only
          rw [hb]
          simp only
          rw [if_neg hnw, if_pos (by omega)]
        rw [eR]
        refine ⟨F4.set (Or.inr rfl), fun _ => ⟨rfl, ?_, g445, ?_⟩, fun q => absurd rfl q⟩
        · exact d_add (k := 1) (K := 1) g44 (by decide) (by omega)
        · obtain ⟨a1, a2, a3, a4, a5, a6, a7⟩ := hM
          have ef := d_add (k := 1) (K := 1) (x := M3.1 20 1) (by rw [g20]; exact hw) (by decide) (by omega)
          refine ⟨?_, ⟨?_, ?_⟩, ?_, fun i hi => ?_, fun w hw => ?_, fun u hu => ?_, ?_⟩
          · show (M3.1 20 0).toInt = _ ∧ _
            rw [g20]; exact a1
          · rw [List.length_append]; exact ef
          · rw [List.length_append]; show s.2.1.length + 1 ≤ 10; omega
          · show (M3.1 20 2).toInt = _ ∧ _
            rw [g20]; exact a3
          · show M3.2.1 45 i = _ ∧ M3.1 21 i = _
            rw [gL, gk 21 (by decide) (by decide) (by decide)]
            exact a4 i hi
          · rw [List.length_append] at hw
            have hw : w < s.2.1.length + 1 := hw
            by_cases q : w = s.2.1.length
            · subst q
              have ew : wE (s.1, s.2.1 ++ [(n, a, b)], s.2.2) s.2.1.length = (a, b) := by
                show ((s.2.1 ++ [(n, a, b)]).getD s.2.1.length (0, 0, 0)).2 = _
                rw [getD_last]
              rw [ew]
              refine ⟨⟨?_, ?_, ?_⟩, ?_⟩
              · show (M3.1 22 s.2.1.length).toInt = _
                rw [g22, if_pos rfl]; exact hr1
              · show (M3.1 23 s.2.1.length).toInt = _
                rw [g23, if_pos rfl]; exact hr2
              · show (dSet M3 24 s.2.1.length (V (n + 3)).toInt32).1 24 s.2.1.length = (V (((s.2.1 ++ [(n, a, b)]).getD s.2.1.length (0, 0, 0)).1 + 3)).toInt32
                rw [dSet_s, getD_last]
              · show a < 7 ∧ b < 7 ∧ a ≠ b
                omega
            · have ew : wE (s.1, s.2.1 ++ [(n, a, b)], s.2.2) w = wE s w := by
                show ((s.2.1 ++ [(n, a, b)]).getD w (0, 0, 0)).2 = _
                rw [getD_app (by omega)]
                rfl
              rw [ew]
              obtain ⟨⟨b1, b2, b3⟩, b4⟩ := a5 w (by omega)
              refine ⟨⟨?_, ?_, ?_⟩, b4⟩
              · show (M3.1 22 w).toInt = _
                rw [g22, if_neg q]; exact b1
              · show (M3.1 23 w).toInt = _
                rw [g23, if_neg q]; exact b2
              · show (dSet M3 24 s.2.1.length (V (n + 3)).toInt32).1 24 w = (V (((s.2.1 ++ [(n, a, b)]).getD w (0, 0, 0)).1 + 3)).toInt32
                rw [dSet_j q, getD_app (by omega), gk 24 (by decide) (by decide) (by decide)]
                exact b3
          · show M3.2.1 46 u = _ ∧ (M3.1 25 u).toInt = _ ∧ M3.1 26 u = _ ∧ M3.1 27 u = _ ∧ M3.1 28 u = _
            rw [gL, gk 25 (by decide) (by decide) (by decide), gk 26 (by decide) (by decide) (by decide), gk 27 (by decide) (by decide) (by decide), gk 28 (by decide) (by decide) (by decide)]
            exact a6 u hu
          · show M3.1 20 3 = _ ∧ M3.1 20 4 = _ ∧ M3.1 20 5 = _ ∧ M3.1 20 6 = _
            rw [g20]; exact a7
      · have eR : mWire V n s = ((5, n + 3), s) := by
          unfold mWire bnd
          rw [ha]
          simp only
          rw [hb]
          simp only
          rw [if_neg hnw, if_neg (by omega)]
        rw [eR]
        exact ⟨F4.set (Or.inr rfl), fun q => absurd q (by first | decide | exact Nat.succ_ne_zero _), fun _ => ⟨rfl, g44, rfl, by show n + 3 ≤ 400; omega, hl.dn (show n + 3 ≤ n + 5 by omega)⟩⟩
    · have eR : mWire V n s = ((4, n + 2), s) := by
        unfold mWire
        rw [ha]
        simp only
        rw [hb]
      rw [eR]
      exact ⟨F1.set (Or.inr rfl), fun q => absurd q (by first | decide | exact Nat.succ_ne_zero _), fun _ => ⟨rfl, e2, rfl, by show n + 2 ≤ 400; omega, hl.dn (show n + 2 ≤ n + 5 by omega)⟩⟩
  · have eR : mWire V n s = ((4, n + 1), s) := by
      unfold mWire
      rw [ha]
    rw [eR]
    exact ⟨(MF.rf m).set (Or.inr rfl), fun q => absurd q (by first | decide | exact Nat.succ_ne_zero _), fun _ => ⟨rfl, hx, rfl, by show n + 1 ≤ 400; omega, hl.dn (show n + 1 ≤ n + 5 by omega)⟩⟩
end CMW
end
section
/-! THE CLASS's meaning, 3: a use; surge, coins, seed; all of a text -/
/-- only the cell of the reader of meaning has changed -/
def S44 (m m' : dM) : Prop := (∀ k : Nat, k ≠ 44 → m'.1 k = m.1 k) ∧ m'.2 = m.2
theorem S44.tr {a b c : dM} (h : S44 a b) (h' : S44 b c) : S44 a c := ⟨fun k q => (h'.1 k q).trans (h.1 k q), h'.2.trans h.2⟩
theorem S44.mf {a b c : dM} (h : MF a b) (h' : S44 b c) : MF a c := ⟨fun k q => (h'.1 k (by omega)).trans (h.1 k q), fun k q1 q2 => by rw [h'.2]; exact h.2.1 k q1 q2, by rw [h'.2]; exact h.2.2⟩
section CMU
variable {K : Nat → Int} {V : Nat → Int64}
theorem VM.s44 {m m' : dM} (h : VM K V m) (hF : S44 m m') : VM K V m' := h.of (hF.1 39 (by decide)) (by rw [hF.2])
theorem MS.s44 {s : mSt} {m m' : dM} (h : MS V s m) (hF : S44 m m') : MS V s m' := by
  unfold MS
  rw [hF.2, hF.1 20 (by decide), hF.1 21 (by decide), hF.1 22 (by decide), hF.1 23 (by decide), hF.1 24 (by decide), hF.1 25 (by decide), hF.1 26 (by decide), hF.1 27 (by decide), hF.1 28 (by decide)]
  exact h
theorem h_within {x1 x2 : Int32} {i : Nat} {m : dM} {Q : Int32 → dM → Prop} (hV : VM K V m) (hx : (m.1 44 4).toInt = (i : Int)) (hi : i ≤ 400) (hl : lvK K i) (hk : K i ≤ 23) (h1 : x1.toInt ≤ iV V i ∧ iV V i ≤ x2.toInt → ∀ m' : dM, S44 m m' → (m'.1 44 4).toInt = ((i + 1 : Nat) : Int) → m'.1 44 5 = m.1 44 5 → Q 1 m') (h0 : ¬ (x1.toInt ≤ iV V i ∧ iV V i ≤ x2.toInt) → ∀ m' : dM, S44 m m' → (m'.1 44 4).toInt = (i : Int) → (m'.1 44 5).toInt = 5 → Q 0 m') : c_X5_isWithin_44 3 x1 x2 m Q :=
  h_isWithin hV hx hi hl hk (fun q => h1 q _ ⟨fun k a => dSet_k a, rfl⟩ (by rw [dSet_s]; exact d_inc hx (by omega)) (by rw [dSet_j (by decide)])) (fun q => h0 q _ ⟨fun k a => dSet_k a, rfl⟩ (by rw [dSet_j (by decide)]; exact hx) (by rw [dSet_s]; decide))

theorem h_takeUse {s : mSt} {n : Nat} {m : dM} {Q : Int32 → dM → Prop} (hV : VM K V m) (hM : MS V s m) (hx : (m.1 44 4).toInt = ((n + 1 : Nat) : Int)) (h0 : (m.1 44 5).toInt = 0) (hn : n + 6 < 400) (hl : lvK K (n + 7)) (hk1 : K (n + 1) = 22) (hk2 : K (n + 2) = 22) (hk3 : K (n + 3) = 23) (hk4 : K (n + 4) = 23) (hk5 : K (n + 5) = 23) (hc : s.2.2.1.length < 8) (hQ : ∀ (r : Int32) (m' : dM), TO K V (mUse V n s) (n + 6) m r m' → Q r m') : c_X5_takeUse_44 4 m Q := by
  have hu := hM.2.2.1.1
  have hfl := hM.1.2
  refine v_X5_takeUse_44 ⟨fun _ => ?_, fun q => by exfalso; omega⟩
  rw [d_cn hu]
  generalize hU : s.2.2.1.length = U at *
  have bu : 0 ≤ (m.1 20 2).toInt ∧ (m.1 20 2).toInt < 8 := by omega
  refine Wp.deep (h_isNewName hV hM.nb hx (by omega) (hl.dn (by omega)) (by omega) (fun hkn => ⟨fun _ => ?_, fun q => absurd q (by decide)⟩) (fun hkn => ⟨fun q => absurd rfl q, fun _ => hQ _ _ ?_⟩)) (Nat.le_of_ble_eq_true rfl)
  · refine Wp.deep (h_nameAt hV hx (by omega) (hl.dn (by omega)) (by omega) ⟨bu, ?_⟩) (Nat.le_of_ble_eq_true rfl)
    have e2 := d_add (k := 1) (K := 1) hx (by decide) (by omega)
    have F1 : MF m (dSet (dSet (dSetL m 46 U (V (n + 1))) 20 2 (m.1 20 2 + 1)) 44 4 (m.1 44 4 + 1)) := (((MF.rf m).setL (Or.inr rfl)).set (Or.inl (by decide))).set (Or.inr rfl)
    generalize hM1 : dSet (dSet (dSetL m 46 U (V (n + 1))) 20 2 (m.1 20 2 + 1)) 44 4 (m.1 44 4 + 1) = M1 at F1 ⊢
    have g44 : (M1.1 44 4).toInt = ((n + 2 : Nat) : Int) := by rw [← hM1]; exact e2
    have g445 : (M1.1 44 5).toInt = 0 := by rw [← hM1]; exact h0
    have g20 : ∀ j : Nat, j ≠ 2 → M1.1 20 j = m.1 20 j := fun j hj => by rw [← hM1, dSet_k (by decide), dSet_j hj]; rfl
    have g202 : (M1.1 20 2).toInt = ((U + 1 : Nat) : Int) := by rw [← hM1]; exact d_inc hu (by omega)
    have gk : ∀ k : Nat, k ≠ 20 → k ≠ 44 → M1.1 k = m.1 k := fun k a b => by rw [← hM1, dSet_k b, dSet_k a]; rfl
    have gL45 : M1.2.1 45 = m.2.1 45 := by rw [← hM1]; rfl
    have gL46 : ∀ u : Nat, M1.2.1 46 u = if u = U then V (n + 1) else m.2.1 46 u := fun u => by
      rw [← hM1]
      show (dSetL m 46 U (V (n + 1))).2.1 46 u = _
      rw [dSetL_e]
      by_cases q : u = U
      · rw [if_pos ⟨rfl, q⟩, if_pos q]
      · rw [if_neg (fun z => q z.2), if_neg q]
    refine Wp.deep (h_flatNamed (s := s) (i := n + 2) (hV.mf F1) (by rw [g20 0 (by decide)]; exact hM.1) (by rw [gL45]; exact hM.nb.2.2.1) g44 (by omega) (hl.dn (by omega)) (by omega) (fun a r3 ha hr3 => ⟨bu, bu, fun _ => ?_, fun q => by exfalso; omega⟩) (fun r3 ha hr3 => ⟨bu, bu, fun q => absurd hr3 q, fun _ => hQ _ _ ?_⟩)) (Nat.le_of_ble_eq_true rfl)
    · have la := fF_lt ha
      have e3 := d_add (k := 1) (K := 1) g44 (by decide) (by omega)
      have e4 := d_add (k := 1) (K := 1) e3 (by decide) (by omega)
      have e5 := d_add (k := 2) (K := 2) e3 (by decide) (by omega)
      have F2 : MF m (dSet (dSet M1 25 U r3) 44 4 (M1.1 44 4 + 1)) := (F1.set (Or.inl (by decide))).set (Or.inr rfl)
      refine Wp.deep (h_numberAt (i := n + 3) (hV.mf F2) e3 (by omega) (hl.dn (by omega)) (by omega) ⟨bu, ?_⟩) (Nat.le_of_ble_eq_true rfl)
      have F3 : MF m (dSet (dSet (dSet M1 25 U r3) 44 4 (M1.1 44 4 + 1)) 26 U (V (n + 3)).toInt32) := F2.set (Or.inl (by decide))
      refine Wp.deep (h_numberAt (i := n + 4) (hV.mf F3) e4 (by omega) (hl.dn (by omega)) (by omega) ⟨bu, ?_⟩) (Nat.le_of_ble_eq_true rfl)
      have F4 : MF m (dSet (dSet (dSet (dSet M1 25 U r3) 44 4 (M1.1 44 4 + 1)) 26 U (V (n + 3)).toInt32) 27 U (V (n + 4)).toInt32) := F3.set (Or.inl (by decide))
      refine Wp.deep (h_numberAt (i := n + 5) (hV.mf F4) e5 (by omega) (hl.dn (by omega)) (by omega) ⟨bu, ?_⟩) (Nat.le_of_ble_eq_true rfl)
      have F5 : MF m (dSet (dSet (dSet (dSet (dSet M1 25 U r3) 44 4 (M1.1 44 4 + 1)) 26 U (V (n + 3)).toInt32) 27 U (V (n + 4)).toInt32) 28 U (V (n + 5)).toInt32) := F4.set (Or.inl (by decide))
      generalize hM5 : dSet (dSet (dSet (dSet (dSet M1 25 U r3) 44 4 (M1.1 44 4 + 1)) 26 U (V (n + 3)).toInt32) 27 U (V (n + 4)).toInt32) 28 U (V (n + 5)).toInt32 = M5 at F5 ⊢
      have p44 : (M5.1 44 4).toInt = ((n + 3 : Nat) : Int) := by rw [← hM5]; exact e3
      have p445 : (M5.1 44 5).toInt = 0 := by rw [← hM5]; exact g445
      have pk : ∀ k : Nat, k ≠ 25 → k ≠ 26 → k ≠ 27 → k ≠ 28 → k ≠ 44 → M5.1 k = M1.1 k := fun k a b c d e => by rw [← hM5, dSet_k d, dSet_k c, dSet_k b, dSet_k e, dSet_k a]
      have pL : M5.2.1 = M1.2.1 := by rw [← hM5]; rfl
      have p25 : ∀ u : Nat, M5.1 25 u = if u = U then r3 else m.1 25 u := fun u => by
        rw [← hM5, dSet_k (by decide), dSet_k (by decide), dSet_k (by decide), dSet_k (by decide), dSet_e, gk 25 (by decide) (by decide)]
        by_cases q : u = U
        · rw [if_pos ⟨rfl, q⟩, if_pos q]
        · rw [if_neg (fun z => q z.2), if_neg q]
      have p26 : ∀ u : Nat, M5.1 26 u = if u = U then (V (n + 3)).toInt32 else m.1 26 u := fun u => by
        rw [← hM5, dSet_k (by decide), dSet_k (by decide), dSet_e, dSet_k (by decide), dSet_k (by decide), gk 26 (by decide) (by decide)]
        by_cases q : u = U
        · rw [if_pos ⟨rfl, q⟩, if_pos q]
        · rw [if_neg (fun z => q z.2), if_neg q]
      have p27 : ∀ u : Nat, M5.1 27 u = if u = U then (V (n + 4)).toInt32 else m.1 27 u := fun u => by
        rw [← hM5, dSet_k (by decide), dSet_e, dSet_k (by decide), dSet_k (by decide), dSet_k (by decide), gk 27 (by decide) (by decide)]
        by_cases q : u = U
        · rw [if_pos ⟨rfl, q⟩, if_pos q]
        · rw [if_neg (fun z => q z.2), if_neg q]
      have p28 : ∀ u : Nat, M5.1 28 u = if u = U then (V (n + 5)).toInt32 else m.1 28 u := fun u => by
        rw [← hM5, dSet_e, dSet_k (by decide), dSet_k (by decide), dSet_k (by decide), dSet_k (by decide), gk 28 (by decide) (by decide)]
        by_cases q : u = U
        · rw [if_pos ⟨rfl, q⟩, if_pos q]
        · rw [if_neg (fun z => q z.2), if_neg q]
      have eR0 : mUse V n s = bnd V (n + 3) 1 19 (bnd V (n + 4) 0 23 (bnd V (n + 5) (iV V (n + 4)) 23 ((0, 0), (s.1, s.2.1, s.2.2.1 ++ [(n, a)], s.2.2.2)) s) s) s := by
        unfold mUse
        rw [hkn, cond_false, ha]
      have t0 := ti_0
      have t1 := ti_1
      have t19 := ti_19
      have t23 := ti_23
      have hV5 := hV.mf F5
      have ok : iV V (n + 3) ≥ 1 ∧ iV V (n + 3) ≤ 19 → iV V (n + 4) ≥ 0 ∧ iV V (n + 4) ≤ 23 → iV V (n + 4) ≤ iV V (n + 5) ∧ iV V (n + 5) ≤ 23 → MS V (s.1, s.2.1, s.2.2.1 ++ [(n, a)], s.2.2.2) M5 := fun _ _ _ => by
        obtain ⟨a1, a2, a3, a4, a5, a6, a7⟩ := hM
        refine ⟨?_, ?_, ⟨?_, ?_⟩, fun i hi => ?_, fun w hw => ?_, fun u hu => ?_, ?_⟩
        · show (M5.1 20 0).toInt = _ ∧ _
          rw [pk 20 (by decide) (by decide) (by decide) (by decide) (by decide), g20 0 (by decide)]; exact a1
        · show (M5.1 20 1).toInt = _ ∧ _
          rw [pk 20 (by decide) (by decide) (by decide) (by decide) (by decide), g20 1 (by decide)]; exact a2
        · show (M5.1 20 2).toInt = _
          rw [pk 20 (by decide) (by decide) (by decide) (by decide) (by decide), List.length_append, hU]; exact g202
        · show (s.2.2.1 ++ [(n, a)]).length ≤ 8
          rw [List.length_append, hU]; show U + 1 ≤ 8; omega
        · show M5.2.1 45 i = _ ∧ M5.1 21 i = _
          rw [pL, gL45, pk 21 (by decide) (by decide) (by decide) (by decide) (by decide), gk 21 (by decide) (by decide)]
          exact a4 i hi
        · show ((M5.1 22 w).toInt = _ ∧ (M5.1 23 w).toInt = _ ∧ M5.1 24 w = _) ∧ _
          rw [pk 22 (by decide) (by decide) (by decide) (by decide) (by decide), gk 22 (by decide) (by decide), pk 23 (by decide) (by decide) (by decide) (by decide) (by decide), gk 23 (by decide) (by decide), pk 24 (by decide) (by decide) (by decide) (by decide) (by decide), gk 24 (by decide) (by decide)]
          exact a5 w hw
        · show M5.2.1 46 u = uN V (s.1, s.2.1, s.2.2.1 ++ [(n, a)], s.2.2.2) u ∧ (M5.1 25 u).toInt = (((s.2.2.1 ++ [(n, a)]).getD u (0, 0)).2 : Int) ∧ M5.1 26 u = (V (((s.2.2.1 ++ [(n, a)]).getD u (0, 0)).1 + 3)).toInt32 ∧ M5.1 27 u = (V (((s.2.2.1 ++ [(n, a)]).getD u (0, 0)).1 + 4)).toInt32 ∧ M5.1 28 u = (V (((s.2.2.1 ++ [(n, a)]).getD u (0, 0)).1 + 5)).toInt32
          have hu : u < (s.2.2.1 ++ [(n, a)]).length := hu
          rw [List.length_append, hU] at hu
          have hu : u < U + 1 := hu
          have eN : uN V (s.1, s.2.1, s.2.2.1 ++ [(n, a)], s.2.2.2) u = V (((s.2.2.1 ++ [(n, a)]).getD u (0, 0)).1 + 1) := rfl
          rw [eN, pL, gL46, p25, p26, p27, p28]
          by_cases q : u = U
          · subst q
            rw [if_pos rfl, if_pos rfl, if_pos rfl, if_pos rfl, if_pos rfl, ← hU, getD_last]
            exact ⟨rfl, hr3, rfl, rfl, rfl⟩
          · rw [if_neg q, if_neg q, if_neg q, if_neg q, if_neg q, getD_app (by omega)]
            exact a6 u (by omega)
        · show M5.1 20 3 = _ ∧ M5.1 20 4 = _ ∧ M5.1 20 5 = _ ∧ M5.1 20 6 = _
          rw [pk 20 (by decide) (by decide) (by decide) (by decide) (by decide), g20 3 (by decide), g20 4 (by decide), g20 5 (by decide), g20 6 (by decide)]; exact a7
      clear p25 p26 p28 pk pL g20 g202 gk gL45 gL46 hM5 hM1
      refine h_within (i := n + 3) hV5 p44 (by omega) (hl.dn (by omega)) (by omega) (fun hb3 M6 s6 q44 q445 => ⟨fun q => absurd q (by decide), fun _ => ?_⟩) (fun hb3 M6 s6 q44 q445 => ⟨fun _ => v_X5_takeUse_44_213 (hQ _ _ ?_), fun q => absurd (by decide) q⟩)
      · refine h_within (i := n + 4) (hV5.s44 s6) q44 (by omega) (hl.dn (by omega)) (by omega) (fun hb4 M7 s7 r44 r445 => ⟨fun q => absurd q (by decide), fun _ => ⟨bu, ?_⟩⟩) (fun hb4 M7 s7 r44 r445 => ⟨fun _ => v_X5_takeUse_44_213 (hQ _ _ ?_), fun q => absurd (by decide) q⟩)
        · have e27 : (M7.1 27 U).toInt = iV V (n + 4) := by
            rw [s7.1 27 (by decide), s6.1 27 (by decide), p27, if_pos rfl]
            rfl
          refine h_within (i := n + 5) ((hV5.s44 s6).s44 s7) r44 (by omega) (hl.dn (by omega)) (by omega) (fun hb5 M8 s8 w44 w445 => ⟨fun q => absurd q (by decide), fun _ => hQ _ _ ?_⟩) (fun hb5 M8 s8 w44 w445 => ⟨fun _ => v_X5_takeUse_44_213 (hQ _ _ ?_), fun q => absurd (by decide) q⟩)
          · rw [e27] at hb5
            have eR : mUse V n s = ((0, 0), (s.1, s.2.1, s.2.2.1 ++ [(n, a)], s.2.2.2)) := by
              rw [eR0]
              unfold bnd
              rw [if_pos (by omega), if_pos (by omega), if_pos (by omega)]
            rw [eR]
            refine ⟨S44.mf F5 ((s6.tr s7).tr s8), fun _ => ⟨rfl, w44, by rw [w445, r445, q445]; exact p445, MS.s44 (ok (by omega) (by omega) (by omega)) ((s6.tr s7).tr s8)⟩, fun q => absurd rfl q⟩
          · rw [e27] at hb5
            have eR : mUse V n s = ((5, n + 5), s) := by
              rw [eR0]
              unfold bnd
              rw [if_pos (by omega), if_pos (by omega), if_neg (by omega)]
            rw [eR]
            exact ⟨S44.mf F5 ((s6.tr s7).tr s8), fun q => absurd q (Nat.succ_ne_zero _), fun _ => ⟨rfl, w44, w445, by show n + 5 ≤ 400; omega, hl.dn (show n + 5 ≤ n + 7 by omega)⟩⟩
        · have eR : mUse V n s = ((5, n + 4), s) := by
            rw [eR0]
            unfold bnd
            rw [if_pos (by omega), if_neg (by omega)]
          rw [eR]
          exact ⟨S44.mf F5 (s6.tr s7), fun q => absurd q (Nat.succ_ne_zero _), fun _ => ⟨rfl, r44, r445, by show n + 4 ≤ 400; omega, hl.dn (show n + 4 ≤ n + 7 by omega)⟩⟩
      · have eR : mUse V n s = ((5, n + 3), s) := by
          rw [eR0]
          unfold bnd
          rw [if_neg (by omega)]
        rw [eR]
        exact ⟨S44.mf F5 s6, fun q => absurd q (Nat.succ_ne_zero _), fun _ => ⟨rfl, q44, q445, by show n + 3 ≤ 400; omega, hl.dn (show n + 3 ≤ n + 7 by omega)⟩⟩
    · have eR : mUse V n s = ((4, n + 2), s) := by
        unfold mUse
        rw [hkn, cond_false, ha]
      rw [eR]
      exact ⟨(F1.set (Or.inr rfl)).set (Or.inl (by decide)), fun q => absurd q (Nat.succ_ne_zero _), fun _ => ⟨rfl, g44, rfl, by show n + 2 ≤ 400; omega, hl.dn (show n + 2 ≤ n + 7 by omega)⟩⟩
  · have eR : mUse V n s = ((3, n + 1), s) := by
      unfold mUse
      rw [hkn]
      rfl
    rw [eR]
    exact ⟨(MF.rf m).set (Or.inr rfl), fun q => absurd q (Nat.succ_ne_zero _), fun _ => ⟨rfl, hx, rfl, by show n + 1 ≤ 400; omega, hl.dn (show n + 1 ≤ n + 7 by omega)⟩⟩
end CMU
end
section
/-! THE CLASS's meaning, 4: surge, coins, seed; all of a text -/
section CMA
variable {K : Nat → Int} {V : Nat → Int64}
theorem MS.sg {s : mSt} {m : dM} {n : Nat} (h : MS V s m) : MS V (s.1, s.2.1, s.2.2.1, (some n, s.2.2.2.2)) (dSet (dSet m 20 3 (V (n + 1)).toInt32) 20 4 (V (n + 2)).toInt32) := by
  obtain ⟨a1, a2, a3, a4, a5, a6, a7, a8, a9, a10⟩ := h
  exact ⟨a1, a2, a3, a4, a5, a6, rfl, rfl, a9, a10⟩
theorem MS.co {s : mSt} {m : dM} {n : Nat} (h : MS V s m) : MS V (s.1, s.2.1, s.2.2.1, (s.2.2.2.1, some n, s.2.2.2.2.2)) (dSet m 20 5 (V (n + 1)).toInt32) := by
  obtain ⟨a1, a2, a3, a4, a5, a6, a7, a8, a9, a10⟩ := h
  exact ⟨a1, a2, a3, a4, a5, a6, a7, a8, rfl, a10⟩
theorem MS.se {s : mSt} {m : dM} {n : Nat} (h : MS V s m) : MS V (s.1, s.2.1, s.2.2.1, (s.2.2.2.1, s.2.2.2.2.1, some n)) (dSet m 20 6 (V (n + 1)).toInt32) := by
  obtain ⟨a1, a2, a3, a4, a5, a6, a7, a8, a9, a10⟩ := h
  exact ⟨a1, a2, a3, a4, a5, a6, a7, a8, a9, rfl⟩
theorem h_takeSurge {s : mSt} {n : Nat} {m : dM} {Q : Int32 → dM → Prop} (hV : VM K V m) (hM : MS V s m) (hx : (m.1 44 4).toInt = ((n + 1 : Nat) : Int)) (h0 : (m.1 44 5).toInt = 0) (hn : n + 3 < 400) (hl : lvK K (n + 4)) (hk1 : K (n + 1) = 23) (hk2 : K (n + 2) = 23) (hQ : ∀ (r : Int32) (m' : dM), TO K V (bnd V (n + 1) 0 100 (bnd V (n + 2) 0 19 ((0, 0), (s.1, s.2.1, s.2.2.1, (some n, s.2.2.2.2))) s) s) (n + 3) m r m' → Q r m') : c_X5_takeSurge_44 4 m Q := by
  have e2 := d_inc hx (by omega)
  refine v_X5_takeSurge_44 (Wp.deep (h_numberAt hV hx (by omega) (hl.dn (by omega)) (by omega) ?_) (Nat.le_of_ble_eq_true rfl))
  have F1 : MF m (dSet m 20 3 (V (n + 1)).toInt32) := (MF.rf m).set (Or.inl (by decide))
  refine Wp.deep (h_numberAt (i := n + 2) (hV.mf F1) e2 (by omega) (hl.dn (by omega)) (by omega) ?_) (Nat.le_of_ble_eq_true rfl)
  have F2 : MF m (dSet (dSet m 20 3 (V (n + 1)).toInt32) 20 4 (V (n + 2)).toInt32) := F1.set (Or.inl (by decide))
  have hM2 := hM.sg (n := n)
  have p44 : ((dSet (dSet m 20 3 (V (n + 1)).toInt32) 20 4 (V (n + 2)).toInt32).1 44 4).toInt = ((n + 1 : Nat) : Int) := hx
  have p445 : ((dSet (dSet m 20 3 (V (n + 1)).toInt32) 20 4 (V (n + 2)).toInt32).1 44 5).toInt = 0 := h0
  generalize dSet (dSet m 20 3 (V (n + 1)).toInt32) 20 4 (V (n + 2)).toInt32 = M at F2 hM2 p44 p445 ⊢
  have hVM := hV.mf F2
  have t0 := ti_0
  have t19 := ti_19
  have t100 := ti_100
  refine h_within (i := n + 1) hVM p44 (by omega) (hl.dn (by omega)) (by omega) (fun hb1 M6 s6 q44 q445 => ⟨fun q => absurd q (by decide), fun _ => ?_⟩) (fun hb1 M6 s6 q44 q445 => ⟨fun _ => v_X5_takeSurge_44_62 (hQ _ _ ?_), fun q => absurd (by decide) q⟩)
  · refine h_within (i := n + 2) (hVM.s44 s6) q44 (by omega) (hl.dn (by omega)) (by omega) (fun hb2 M7 s7 r44 r445 => ⟨fun q => absurd q (by decide), fun _ => hQ _ _ ?_⟩) (fun hb2 M7 s7 r44 r445 => ⟨fun _ => v_X5_takeSurge_44_62 (hQ _ _ ?_), fun q => absurd (by decide) q⟩)
    · unfold bnd
      rw [if_pos (by omega), if_pos (by omega)]
      exact ⟨S44.mf F2 (s6.tr s7), fun _ => ⟨rfl, r44, by rw [r445, q445]; exact p445, MS.s44 hM2 (s6.tr s7)⟩, fun q => absurd rfl q⟩
    · unfold bnd
      rw [if_pos (by omega), if_neg (by omega)]
      exact ⟨S44.mf F2 (s6.tr s7), fun q => absurd q (Nat.succ_ne_zero _), fun _ => ⟨rfl, r44, r445, by show n + 2 ≤ 400; omega, hl.dn (show n + 2 ≤ n + 4 by omega)⟩⟩
  · unfold bnd
    rw [if_neg (by omega)]
    exact ⟨S44.mf F2 s6, fun q => absurd q (Nat.succ_ne_zero _), fun _ => ⟨rfl, q44, q445, by show n + 1 ≤ 400; omega, hl.dn (show n + 1 ≤ n + 4 by omega)⟩⟩
theorem h_takeCoins {s : mSt} {n : Nat} {m : dM} {Q : Int32 → dM → Prop} (hV : VM K V m) (hM : MS V s m) (hx : (m.1 44 4).toInt = ((n + 1 : Nat) : Int)) (h0 : (m.1 44 5).toInt = 0) (hn : n + 2 < 400) (hl : lvK K (n + 3)) (hk1 : K (n + 1) = 23) (hQ : ∀ (r : Int32) (m' : dM), TO K V (bnd V (n + 1) 0 999 ((0, 0), (s.1, s.2.1, s.2.2.1, (s.2.2.2.1, some n, s.2.2.2.2.2))) s) (n + 2) m r m' → Q r m') : c_X5_takeCoins_44 4 m Q := by
  refine v_X5_takeCoins_44 (Wp.deep (h_numberAt hV hx (by omega) (hl.dn (by omega)) (by omega) ?_) (Nat.le_of_ble_eq_true rfl))
  have F2 : MF m (dSet m 20 5 (V (n + 1)).toInt32) := (MF.rf m).set (Or.inl (by decide))
  have hM2 := hM.co (n := n)
  have p44 : ((dSet m 20 5 (V (n + 1)).toInt32).1 44 4).toInt = ((n + 1 : Nat) : Int) := hx
  have p445 : ((dSet m 20 5 (V (n + 1)).toInt32).1 44 5).toInt = 0 := h0
  generalize dSet m 20 5 (V (n + 1)).toInt32 = M at F2 hM2 p44 p445 ⊢
  have hVM := hV.mf F2
  have t0 := ti_0
  have t999 := ti_999
  refine h_within (i := n + 1) hVM p44 (by omega) (hl.dn (by omega)) (by omega) (fun hb1 M6 s6 q44 q445 => ⟨Or.inr rfl, hQ _ _ ?_⟩) (fun hb1 M6 s6 q44 q445 => ⟨Or.inl rfl, hQ _ _ ?_⟩)
  · unfold bnd
    rw [if_pos (by omega)]
    exact ⟨S44.mf F2 s6, fun _ => ⟨rfl, q44, by rw [q445]; exact p445, MS.s44 hM2 s6⟩, fun q => absurd rfl q⟩
  · unfold bnd
    rw [if_neg (by omega)]
    exact ⟨S44.mf F2 s6, fun q => absurd q (Nat.succ_ne_zero _), fun _ => ⟨rfl, q44, q445, by show n + 1 ≤ 400; omega, hl.dn (show n + 1 ≤ n + 3 by omega)⟩⟩
theorem h_takeSeed {s : mSt} {n : Nat} {m : dM} {Q : Int32 → dM → Prop} (hV : VM K V m) (hM : MS V s m) (hx : (m.1 44 4).toInt = ((n + 1 : Nat) : Int)) (h0 : (m.1 44 5).toInt = 0) (hn : n + 2 < 400) (hl : lvK K (n + 3)) (hk1 : K (n + 1) = 23) (hQ : ∀ (r : Int32) (m' : dM), TO K V (bnd V (n + 1) 0 9999 ((0, 0), (s.1, s.2.1, s.2.2.1, (s.2.2.2.1, s.2.2.2.2.1, some n))) s) (n + 2) m r m' → Q r m') : c_X5_takeSeed_44 4 m Q := by
  refine v_X5_takeSeed_44 (Wp.deep (h_numberAt hV hx (by omega) (hl.dn (by omega)) (by omega) ?_) (Nat.le_of_ble_eq_true rfl))
  have F2 : MF m (dSet m 20 6 (V (n + 1)).toInt32) := (MF.rf m).set (Or.inl (by decide))
  have hM2 := hM.se (n := n)
  have p44 : ((dSet m 20 6 (V (n + 1)).toInt32).1 44 4).toInt = ((n + 1 : Nat) : Int) := hx
  have p445 : ((dSet m 20 6 (V (n + 1)).toInt32).1 44 5).toInt = 0 := h0
  generalize dSet m 20 6 (V (n + 1)).toInt32 = M at F2 hM2 p44 p445 ⊢
  have hVM := hV.mf F2
  have t0 := ti_0
  have t9999 := ti_9999
  refine h_within (i := n + 1) hVM p44 (by omega) (hl.dn (by omega)) (by omega) (fun hb1 M6 s6 q44 q445 => ⟨Or.inr rfl, hQ _ _ ?_⟩) (fun hb1 M6 s6 q44 q445 => ⟨Or.inl rfl, hQ _ _ ?_⟩)
  · unfold bnd
    rw [if_pos (by omega)]
    exact ⟨S44.mf F2 s6, fun _ => ⟨rfl, q44, by rw [q445]; exact p445, MS.s44 hM2 s6⟩, fun q => absurd rfl q⟩
  · unfold bnd
    rw [if_neg (by omega)]
    exact ⟨S44.mf F2 s6, fun q => absurd q (Nat.succ_ne_zero _), fun _ => ⟨rfl, q44, q445, by show n + 1 ≤ 400; omega, hl.dn (show n + 1 ≤ n + 3 by omega)⟩⟩
/-- on to behind the next sign of end -/
theorem h_skip_0 {e : Nat} {Q : dM → Prop} (he : e < 400) (hke : K e = 59) (hl : lvK K e) : ∀ (f i : Nat) (m : dM), i + f = e → VM K V m → (m.1 44 4).toInt = (i : Int) → (∀ j : Nat, i ≤ j → j < e → K j ≠ 59) → (∀ m' : dM, S44 m m' → (m'.1 44 4).toInt = ((e + 1 : Nat) : Int) → m'.1 44 5 = m.1 44 5 → Q m') → j_X5_skipEnd_44_0 2 m Q := by
  intro f
  induction f with
  | zero =>
    intro i m hi hV hx hj hQ
    have hi : i = e := by omega
    subst hi
    refine v_X5_skipEnd_44_0 ⟨fun q => by exfalso; omega, fun _ => h_kindAt hV hx (by omega) hl (fun r hr => ⟨fun _ => v_X5_skipEnd_44_39 (hQ _ ⟨fun k a => dSet_k a, rfl⟩ ?_ ?_), fun q => by exfalso; omega⟩)⟩
    · rw [dSet_s]; exact d_inc hx (by omega)
    · rw [dSet_j (by decide)]
  | succ f ih =>
    intro i m hi hV hx hj hQ
    have hne := hj i (Nat.le_refl _) (by omega)
    refine v_X5_skipEnd_44_0 ⟨fun q => by exfalso; omega, fun _ => h_kindAt hV hx (by omega) (hl.dn (by omega)) (fun r hr => ⟨fun q => by exfalso; omega, fun _ => ?_⟩)⟩
    have s1 : S44 m (dSet m 44 4 (m.1 44 4 + 1)) := ⟨fun k a => dSet_k a, rfl⟩
    have e1 : ((dSet m 44 4 (m.1 44 4 + 1)).1 44 4).toInt = ((i + 1 : Nat) : Int) := by rw [dSet_s]; exact d_inc hx (by omega)
    have e5 : (dSet m 44 4 (m.1 44 4 + 1)).1 44 5 = m.1 44 5 := by rw [dSet_j (by decide)]
    generalize dSet m 44 4 (m.1 44 4 + 1) = M at s1 e1 e5 ⊢
    exact ih (i + 1) M (by omega) (hV.s44 s1) e1 (fun j a b => hj j (by omega) b) (fun m' a b c => hQ m' (s1.tr a) b (c.trans e5))
theorem h_skip {e i : Nat} {m : dM} {Q : dM → Prop} (he : e < 400) (hke : K e = 59) (hl : lvK K e) (hie : i ≤ e) (hV : VM K V m) (hx : (m.1 44 4).toInt = (i : Int)) (hj : ∀ j : Nat, i ≤ j → j < e → K j ≠ 59) (hQ : ∀ m' : dM, S44 m m' → (m'.1 44 4).toInt = ((e + 1 : Nat) : Int) → m'.1 44 5 = m.1 44 5 → Q m') : c_X5_skipEnd_44 2 m Q :=
  h_skip_0 he hke hl (e - i) i m (by omega) hV hx hj hQ
/-- one TELL, to behind its end -/
theorem h_one {s : mSt} {n n' : Nat} {m : dM} {x : Int32} {A B : dM → Prop} (hV : VM K V m) (hM : MS V s m) (hx : (m.1 44 4).toInt = (n : Int)) (h0 : (m.1 44 5).toInt = 0) (hr : x.toInt = K n) (hk : K n ≠ 24) (hg : gTell K s.1.length s.2.1.length s.2.2.1.length n = (0, n')) (hn' : n' ≤ 400) (hl : lvK K n') (hA : (mTell K V n s).1.1 ≠ 0 → ∀ m' : dM, MF m m' → (m'.1 44 4).toInt = ((mTell K V n s).1.2 : Int) → (m'.1 44 5).toInt = ((mTell K V n s).1.1 : Int) → (mTell K V n s).1.2 ≤ 400 ∧ lvK K (mTell K V n s).1.2 → A m') (hB : (mTell K V n s).1.1 = 0 → ∀ m' : dM, MF m m' → (m'.1 44 4).toInt = (n' : Int) → (m'.1 44 5).toInt = 0 → MS V (mTell K V n s).2 m' → B m') :
    c_X5_takeTold_44 5 x (dSet m 44 4 (m.1 44 4 + 1)) (fun r3 m3 => ((r3.toInt = 0 → A m3) ∧ (r3.toInt ≠ 0 → c_X5_skipEnd_44 5 m3 B))) := by
  have hlt : n < n' := by
    have := gTell_lt (K := K) (cf := s.1.length) (cw := s.2.1.length) (cu := s.2.2.1.length) (n := n) (by rw [hg])
    rw [hg] at this
    exact this
  have s1 : S44 m (dSet m 44 4 (m.1 44 4 + 1)) := ⟨fun k a => dSet_k a, rfl⟩
  have e1 : ((dSet m 44 4 (m.1 44 4 + 1)).1 44 4).toInt = ((n + 1 : Nat) : Int) := by rw [dSet_s]; exact d_inc hx (by omega)
  have e5 : ((dSet m 44 4 (m.1 44 4 + 1)).1 44 5).toInt = 0 := by rw [dSet_j (by decide)]; exact h0
  generalize dSet m 44 4 (m.1 44 4 + 1) = M at s1 e1 e5 ⊢
  have hVM := hV.s44 s1
  have hMM := hM.s44 s1
  have FM : MF m M := S44.mf (MF.rf m) s1
  generalize hR : mTell K V n s = R at hA hB
  have fin : ∀ (e e' : Nat) (r : Int32) (m' : dM), TO K V R e M r m' → e' + 1 = n' → K e' = 59 → e ≤ e' → (∀ j : Nat, e ≤ j → j < e' → K j ≠ 59) → (r = 0 ∨ r = 1) ∧ ((r.toInt = 0 → A m') ∧ (r.toInt ≠ 0 → c_X5_skipEnd_44 5 m' B)) := by
    intro e e' r m' ⟨t1, t2, t3⟩ he hke hee hj
    by_cases z : R.1.1 = 0
    · obtain ⟨u1, u2, u3, u4⟩ := t2 z
      refine ⟨Or.inr u1, fun q => by rw [u1] at q; exact absurd q (by decide), fun _ => ?_⟩
      refine Wp.deep (h_skip (e := e') (by omega) hke (hl.dn (by omega)) hee (hVM.mf t1) u2 hj (fun m2 a b c => hB z m2 (S44.mf (FM.tr t1) a) ?_ (by rw [c]; exact u3) (MS.s44 u4 a))) (Nat.le_of_ble_eq_true rfl)
      rw [b, he]
    · obtain ⟨u1, u2, u3, u4⟩ := t3 z
      exact ⟨Or.inl u1, fun _ => hA z m' (FM.tr t1) u2 u3 u4, fun q => by rw [u1] at q; exact absurd (by decide) q⟩
  have law : 3 ≤ K n ∧ K n ≤ 6 → ((((1 : Int32).toInt = 0 → A M) ∧ ((1 : Int32).toInt ≠ 0 → c_X5_skipEnd_44 5 M B))) := fun q => by
    have eT : gTell K s.1.length s.2.1.length s.2.2.1.length n = gLaw K n := by
      unfold gTell
      rw [if_neg (by omega), if_neg (by omega), if_neg (by omega), if_pos q]
    rw [eT] at hg
    obtain ⟨e, x1, x2, x3, x4⟩ := gLaw_z (K := K) (n := n) (by rw [hg])
    have en : e + 1 = n' := by rw [hg] at x1; exact (Prod.mk.inj x1).2.symm
    have eR : R = ((0, 0), s) := by
      rw [← hR]
      unfold mTell
      rw [if_neg (by omega), if_neg (by omega), if_neg (by omega), if_neg (by omega), if_neg (by omega), if_neg (by omega)]
    have := fin (n + 1) e 1 M ⟨MF.rf M, fun _ => ⟨rfl, e1, e5, by rw [eR]; exact hMM⟩, fun z => by rw [eR] at z; exact absurd rfl z⟩ en x3 x4.1 x4.2
    exact this.2
  have row : ∀ (ks : List Int), gTell K s.1.length s.2.1.length s.2.2.1.length n = rb (gst n) (gsq K ks) → n' = n + 1 + ks.length ∧ ∀ (i : Nat) (k : Int), ks[i]? = some k → K (n + 1 + i) = k ∧ n + 1 + i < 400 := fun ks eT => by
    rw [eT] at hg
    obtain ⟨a, b⟩ := grow_z (K := K) (ks := ks) (n := n) (by rw [hg])
    rw [hg] at a
    exact ⟨(Prod.mk.inj a).2, b⟩
  refine v_X5_takeTold_44 ⟨fun q => ?_, fun q => ?_, fun q => ?_, fun q => law (by omega), fun q => law (by omega), fun q => law (by omega), fun q => law (by omega), fun q => ?_, fun q => ?_, fun q => ?_, fun q => ?_⟩
  · have eT : gTell K s.1.length s.2.1.length s.2.2.1.length n = if 7 ≤ s.1.length then (2, n) else rb (gst n) (gsq K [22, 23, 59]) := by
      unfold gTell
      rw [if_pos (by omega)]
    have hc : ¬ 7 ≤ s.1.length := fun z => by
      rw [if_pos z, hg] at eT
      exact absurd (Prod.mk.inj eT).1 (by decide)
    rw [if_neg hc] at eT
    obtain ⟨a, b⟩ := row _ eT
    have a : n' = n + 4 := a
    have eR : R = mFlat V n s := by
      rw [← hR]
      unfold mTell
      rw [if_pos (by omega)]
    exact h_takeFlat hVM hMM e1 e5 (by omega) (by rw [← a]; exact hl) (b 0 22 rfl).1 (b 1 23 rfl).1 (by omega) (fun r m' ht => fin (n + 3) (n + 3) r m' (by rw [eR]; exact ht) (by omega) (b 2 59 rfl).1 (Nat.le_refl _) (fun j h1 h2 => by omega))
  · have eT : gTell K s.1.length s.2.1.length s.2.2.1.length n = if 10 ≤ s.2.1.length then (2, n) else rb (gst n) (gsq K [22, 22, 23, 59]) := by
      unfold gTell
      rw [if_neg (by omega), if_pos (by omega)]
    have hc : ¬ 10 ≤ s.2.1.length := fun z => by
      rw [if_pos z, hg] at eT
      exact absurd (Prod.mk.inj eT).1 (by decide)
    rw [if_neg hc] at eT
    obtain ⟨a, b⟩ := row _ eT
    have a : n' = n + 5 := a
    have eR : R = mWire V n s := by
      rw [← hR]
      unfold mTell
      rw [if_neg (by omega), if_pos (by omega)]
    exact h_takeWire hVM hMM e1 e5 (by omega) (by rw [← a]; exact hl) (b 0 22 rfl).1 (b 1 22 rfl).1 (b 2 23 rfl).1 (by omega) (fun r m' ht => fin (n + 4) (n + 4) r m' (by rw [eR]; exact ht) (by omega) (b 3 59 rfl).1 (Nat.le_refl _) (fun j h1 h2 => by omega))
  · have eT : gTell K s.1.length s.2.1.length s.2.2.1.length n = if 8 ≤ s.2.2.1.length then (2, n) else rb (gst n) (gsq K [22, 22, 23, 23, 23, 59]) := by
      unfold gTell
      rw [if_neg (by omega), if_neg (by omega), if_pos (by omega)]
    have hc : ¬ 8 ≤ s.2.2.1.length := fun z => by
      rw [if_pos z, hg] at eT
      exact absurd (Prod.mk.inj eT).1 (by decide)
    rw [if_neg hc] at eT
    obtain ⟨a, b⟩ := row _ eT
    have a : n' = n + 7 := a
    have eR : R = mUse V n s := by
      rw [← hR]
      unfold mTell
      rw [if_neg (by omega), if_neg (by omega), if_pos (by omega)]
    exact h_takeUse hVM hMM e1 e5 (by omega) (by rw [← a]; exact hl) (b 0 22 rfl).1 (b 1 22 rfl).1 (b 2 23 rfl).1 (b 3 23 rfl).1 (b 4 23 rfl).1 (by omega) (fun r m' ht => fin (n + 6) (n + 6) r m' (by rw [eR]; exact ht) (by omega) (b 5 59 rfl).1 (Nat.le_refl _) (fun j h1 h2 => by omega))
  · have eT : gTell K s.1.length s.2.1.length s.2.2.1.length n = rb (gst n) (gsq K [23, 23, 59]) := by
      unfold gTell
      rw [if_neg (by omega), if_neg (by omega), if_neg (by omega), if_neg (by omega), if_pos (by omega)]
    obtain ⟨a, b⟩ := row _ eT
    have a : n' = n + 4 := a
    have eR : R = bnd V (n + 1) 0 100 (bnd V (n + 2) 0 19 ((0, 0), (s.1, s.2.1, s.2.2.1, (some n, s.2.2.2.2))) s) s := by
      rw [← hR]
      unfold mTell
      rw [if_neg (by omega), if_neg (by omega), if_neg (by omega), if_pos (by omega)]
    exact h_takeSurge hVM hMM e1 e5 (by omega) (by rw [← a]; exact hl) (b 0 23 rfl).1 (b 1 23 rfl).1 (fun r m' ht => fin (n + 3) (n + 3) r m' (by rw [eR]; exact ht) (by omega) (b 2 59 rfl).1 (Nat.le_refl _) (fun j h1 h2 => by omega))
  · have eT : gTell K s.1.length s.2.1.length s.2.2.1.length n = rb (gst n) (gsq K [23, 59]) := by
      unfold gTell
      rw [if_neg (by omega), if_neg (by omega), if_neg (by omega), if_neg (by omega), if_neg (by omega), if_pos (by omega)]
    obtain ⟨a, b⟩ := row _ eT
    have a : n' = n + 3 := a
    have eR : R = bnd V (n + 1) 0 999 ((0, 0), (s.1, s.2.1, s.2.2.1, (s.2.2.2.1, some n, s.2.2.2.2.2))) s := by
      rw [← hR]
      unfold mTell
      rw [if_neg (by omega), if_neg (by omega), if_neg (by omega), if_neg (by omega), if_pos (by omega)]
    exact h_takeCoins hVM hMM e1 e5 (by omega) (by rw [← a]; exact hl) (b 0 23 rfl).1 (fun r m' ht => fin (n + 2) (n + 2) r m' (by rw [eR]; exact ht) (by omega) (b 1 59 rfl).1 (Nat.le_refl _) (fun j h1 h2 => by omega))
  · have eT : gTell K s.1.length s.2.1.length s.2.2.1.length n = rb (gst n) (gsq K [23, 59]) := by
      unfold gTell
      rw [if_neg (by omega), if_neg (by omega), if_neg (by omega), if_neg (by omega), if_neg (by omega), if_pos (by omega)]
    obtain ⟨a, b⟩ := row _ eT
    have a : n' = n + 3 := a
    have eR : R = bnd V (n + 1) 0 9999 ((0, 0), (s.1, s.2.1, s.2.2.1, (s.2.2.2.1, s.2.2.2.2.1, some n))) s := by
      rw [← hR]
      unfold mTell
      rw [if_neg (by omega), if_neg (by omega), if_neg (by omega), if_neg (by omega), if_neg (by omega), if_pos (by omega)]
    exact h_takeSeed hVM hMM e1 e5 (by omega) (by rw [← a]; exact hl) (b 0 23 rfl).1 (fun r m' ht => fin (n + 2) (n + 2) r m' (by rw [eR]; exact ht) (by omega) (b 1 59 rfl).1 (Nat.le_refl _) (fun j h1 h2 => by omega))
  · exfalso
    have eT : gTell K s.1.length s.2.1.length s.2.2.1.length n = (1, n) := by
      unfold gTell
      rw [if_neg (by omega), if_neg (by omega), if_neg (by omega), if_neg (by omega), if_neg (by omega), if_neg (by omega)]
    rw [eT] at hg
    exact absurd (Prod.mk.inj hg).1 (by decide)
/-- the lists grow as the counts of the grammar do -/
theorem mTell_len {s : mSt} {n : Nat} (h : (mTell K V n s).1.1 = 0) : (mTell K V n s).2.1.length = s.1.length + ct (K n) 0 ∧ (mTell K V n s).2.2.1.length = s.2.1.length + ct (K n) 1 ∧ (mTell K V n s).2.2.2.1.length = s.2.2.1.length + ct (K n) 2 := by
  have bz : ∀ (i : Nat) (lo hi : Int) (r : gR × mSt), (bnd V i lo hi r s).1.1 = 0 → bnd V i lo hi r s = r := fun i lo hi r h => by
    unfold bnd at h ⊢
    split at h
    · rw [if_pos (by assumption)]
    · exact absurd h (Nat.succ_ne_zero _)
  generalize hR : mTell K V n s = R at h ⊢
  unfold mTell at hR
  unfold ct
  by_cases k0 : K n = 0
  · rw [if_pos k0] at hR
    rw [if_pos k0, if_neg (by omega), if_neg (by omega)]
    unfold mFlat at hR
    cases hkn : knw V s (V (n + 1)) with
    | true => rw [hkn] at hR; rw [← hR] at h; exact absurd h (Nat.succ_ne_zero _)
    | false =>
      rw [hkn] at hR
      have hR : bnd V (n + 2) 0 9 ((0, 0), (s.1 ++ [n], s.2)) s = R := hR
      rw [← hR] at h
      rw [bz _ _ _ _ h] at hR
      rw [← hR]
      exact ⟨List.length_append, rfl, rfl⟩
  · rw [if_neg k0] at hR
    by_cases k1 : K n = 1
    · rw [if_pos k1] at hR
      rw [if_neg k0, if_pos k1, if_neg (by omega)]
      unfold mWire at hR
      split at hR
      · rw [← hR] at h; exact absurd h (Nat.succ_ne_zero _)
      · split at hR
        · rw [← hR] at h; exact absurd h (Nat.succ_ne_zero _)
        · split at hR
          · rw [← hR] at h; exact absurd h (Nat.succ_ne_zero _)
          · rw [← hR] at h
            rw [bz _ _ _ _ h] at hR
            rw [← hR]
            exact ⟨rfl, List.length_append, rfl⟩
    · rw [if_neg k1] at hR
      by_cases k2 : K n = 2
      · rw [if_pos k2] at hR
        rw [if_neg k0, if_neg k1, if_pos k2]
        unfold mUse at hR
        cases hkn : knw V s (V (n + 1)) with
        | true => rw [hkn] at hR; rw [← hR] at h; exact absurd h (Nat.succ_ne_zero _)
        | false =>
          rw [hkn, cond_false] at hR
          split at hR
          · rw [← hR] at h; exact absurd h (Nat.succ_ne_zero _)
          · rw [← hR] at h
            have h1 := bz _ _ _ _ h
            rw [h1] at h hR
            have h2 := bz _ _ _ _ h
            rw [h2] at h hR
            have h3 := bz _ _ _ _ h
            rw [h3] at hR
            rw [← hR]
            exact ⟨rfl, rfl, List.length_append⟩
      · rw [if_neg k2] at hR
        rw [if_neg k0, if_neg k1, if_neg k2]
        by_cases k7 : K n = 7
        · rw [if_pos k7] at hR
          rw [← hR] at h
          have h1 := bz _ _ _ _ h
          rw [h1] at h hR
          have h2 := bz _ _ _ _ h
          rw [h2] at hR
          rw [← hR]
          exact ⟨rfl, rfl, rfl⟩
        · rw [if_neg k7] at hR
          by_cases k8 : K n = 8
          · rw [if_pos k8] at hR
            rw [← hR] at h
            rw [bz _ _ _ _ h] at hR
            rw [← hR]
            exact ⟨rfl, rfl, rfl⟩
          · rw [if_neg k8] at hR
            by_cases k9 : K n = 9
            · rw [if_pos k9] at hR
              rw [← hR] at h
              rw [bz _ _ _ _ h] at hR
              rw [← hR]
              exact ⟨rfl, rfl, rfl⟩
            · rw [if_neg k9] at hR
              rw [← hR]
              exact ⟨rfl, rfl, rfl⟩
theorem h_check {m : dM} {Q : Int32 → dM → Prop} (hV : VM K V m) (hM : MS V mS0 m) {R : gR} (hG : gAll K 401 0 0 0 0 = R) (hR0 : R.1 = 0) (hR : R.2 ≤ 400) (hl : lvK K R.2) (hQ : ∀ (r : Int32) (m' : dM), MF m m' → r.toInt = ((mAll K V 401 0 mS0).1.1 : Int) → (m'.1 44 5).toInt = ((mAll K V 401 0 mS0).1.1 : Int) → ((mAll K V 401 0 mS0).1.1 ≠ 0 → (m'.1 44 4).toInt = ((mAll K V 401 0 mS0).1.2 : Int) ∧ (mAll K V 401 0 mS0).1.2 ≤ 400 ∧ lvK K (mAll K V 401 0 mS0).1.2) → ((mAll K V 401 0 mS0).1.1 = 0 → MS V (mAll K V 401 0 mS0).2 m') → Q r m') : c_X5_check_44 6 m Q := by
  generalize hA : mAll K V 401 0 mS0 = M at hQ
  have bad : ∀ (m' : dM), MF m m' → M.1.1 ≠ 0 → (m'.1 44 4).toInt = (M.1.2 : Int) → (m'.1 44 5).toInt = (M.1.1 : Int) → M.1.2 ≤ 400 ∧ lvK K M.1.2 → j_X5_check_44_82 6 m' Q := fun m' hF h a b c => v_X5_check_44_82 (hQ _ _ hF b b (fun _ => ⟨a, c⟩) (fun z => absurd z h))
  have badL : ∀ (i : Nat) (x1 : Int32) (m' : dM), x1.toInt = i → MF m m' → M.1.1 ≠ 0 → (m'.1 44 4).toInt = (M.1.2 : Int) → (m'.1 44 5).toInt = (M.1.1 : Int) → M.1.2 ≤ 400 ∧ lvK K M.1.2 → j_X5_check_44_12 6 x1 m' Q := fun i x1 m' hx hF h a b c => v_X5_check_44_12 ⟨fun _ => bad m' hF h a b c, fun _ => ⟨fun _ => bad m' hF h a b c, fun q => by exfalso; omega⟩⟩
  have loop : ∀ (f i n : Nat) (s : mSt) (x1 : Int32) (m' : dM), i + f = 401 → x1.toInt = i → i ≤ n → MF m m' → (m'.1 44 4).toInt = (n : Int) → (m'.1 44 5).toInt = 0 → MS V s m' → gAll K f s.1.length s.2.1.length s.2.2.1.length n = R → mAll K V f n s = M → j_X5_check_44_12 6 x1 m' Q := by
    intro f
    induction f with
    | zero =>
      intro i n s x1 m' hi hx hin hF h4 h5 hS hg hm
      have := gAll_le (K := K) 0 s.1.length s.2.1.length s.2.2.1.length n
      rw [hg] at this
      exfalso; omega
    | succ f ih =>
      intro i n s x1 m' hi hx hin hF h4 h5 hS hg hm
      have hle := gAll_le (K := K) (f + 1) s.1.length s.2.1.length s.2.2.1.length n
      rw [hg] at hle
      have hVm := hV.mf hF
      have hln := hl.dn hle
      refine v_X5_check_44_12 ⟨fun q => by exfalso; omega, fun _ => ⟨fun q => absurd h5 q, fun _ => Wp.deep (h_kindAt hVm h4 (by omega) hln (fun r hr => ⟨fun q => ?_, fun q => Wp.deep (h_kindAt hVm h4 (by omega) hln (fun r2 hr2 => ?_)) (Nat.le_of_ble_eq_true rfl)⟩)) (Nat.le_of_ble_eq_true rfl)⟩⟩
      · unfold mAll at hm
        rw [if_pos (by omega)] at hm
        rw [← hm] at hQ
        exact v_X5_check_44_82 (hQ _ _ hF h5 h5 (fun z => absurd rfl z) (fun _ => hS))
      · have hk : K n ≠ 24 := by omega
        unfold gAll at hg
        rw [if_neg hk] at hg
        unfold mAll at hm
        rw [if_neg hk] at hm
        have hz := rb_z (r := gTell K s.1.length s.2.1.length s.2.2.1.length n) (by rw [hg]; exact hR0)
        rw [hz.2] at hg
        generalize hgt : gTell K s.1.length s.2.1.length s.2.2.1.length n = g at hz hg hm
        obtain ⟨g1, n'⟩ := g
        have z1 : g1 = 0 := hz.1
        subst z1
        have hg : gAll K f (s.1.length + ct (K n) 0) (s.2.1.length + ct (K n) 1) (s.2.2.1.length + ct (K n) 2) n' = R := hg
        have hle2 := gAll_le (K := K) f (s.1.length + ct (K n) 0) (s.2.1.length + ct (K n) 1) (s.2.2.1.length + ct (K n) 2) n'
        rw [hg] at hle2
        have hlt : n < n' := by
          have := gTell_lt (K := K) (cf := s.1.length) (cw := s.2.1.length) (cu := s.2.2.1.length) (n := n) (by rw [hgt])
          rw [hgt] at this
          exact this
        refine h_one hVm hS h4 h5 hr2 hk hgt (by omega) (hl.dn hle2) (fun z m2 F2 a b c => ?_) (fun z m2 F2 a b c => ?_)
        · rw [mGo_f z] at hm
          rw [hm] at a b c z
          exact v_X5_check_44_76 (badL (i + 1) _ m2 (d_inc hx (by omega)) (hF.tr F2) z a b c)
        · rw [mGo_k z] at hm
          obtain ⟨l1, l2, l3⟩ := mTell_len z
          refine v_X5_check_44_76 (ih (i + 1) n' (mTell K V n s).2 _ m2 (by omega) (d_inc hx (by omega)) (by omega) (hF.tr F2) a b c ?_ hm)
          rw [l1, l2, l3]
          exact hg
  have s1 : S44 m (dSet (dSet m 44 4 (0 : Int32)) 44 5 (0 : Int32)) := ⟨fun k a => by rw [dSet_k a, dSet_k a], rfl⟩
  exact v_X5_check_44 (loop 401 0 0 mS0 _ _ rfl (by decide) (Nat.le_refl _) (S44.mf (MF.rf m) s1) (by rw [dSet_j (by decide), dSet_s]; decide) (by rw [dSet_s]; decide) (MS.s44 hM s1) hG hA)
end CMA
end
section
/-! THE CLASS's read, exactly: its fault and where -/
/-- laws alone have changed -/
def GG (mb m : dM) : Prop := (∀ k : Nat, (k < 29 ∨ k = 31 ∨ 36 < k) → m.1 k = mb.1 k) ∧ m.2 = mb.2 ∧ GL m
section CRE
variable {mb m : dM}
theorem GG.law {k j : Nat} {v : Int32} (h : GG mb m) (hk : k = 29 ∨ k = 30 ∨ (32 ≤ k ∧ k ≤ 36)) (hL : GL (dSet m k j v)) : GG mb (dSet m k j v) := ⟨fun a ha => by rw [dSet_k (by omega)]; exact h.1 a ha, h.2.1, hL⟩
theorem l_put {x1 : Int32} {Q : dM → Prop} (h : GG mb m) (hQ : ∀ m' : dM, GG mb m' → Q m') : c_X4_put_29 1 x1 m Q := by
  have hL := h.2.2
  have hb := hL.1
  refine v_X4_put_29 ⟨fun q => v_X4_put_29_32 (hQ _ h), fun q => ⟨by omega, v_X4_put_29_32 (hQ _ ?_)⟩⟩
  have h30 : GG mb (dSet m 30 (m.1 29 1).toNatClampNeg x1) := h.law (by decide) (by
    unfold GL
    rw [dSet_k (by decide), dSet_k (by decide)]
    exact hL)
  refine h30.law (by decide) ⟨?_, fun j => ?_⟩
  · rw [dSet_s]
    have := dAddE (X := (m.1 29 1).toInt) (Y := 1) (x := m.1 29 1) (y := (1 : Int32)) rfl (by decide) (by omega) (by omega)
    omega
  · rw [dSet_k (by decide), dSet_k (by decide)]
    exact hL.2 j
theorem l_begin {x1 : Int32} {Q : dM → Prop} (h : GG mb m) (hx : 0 ≤ x1.toInt ∧ x1.toInt < 4) (hQ : ∀ m' : dM, GG mb m' → Q m') : c_X4_begin_29 1 x1 m Q := by
  have hL := h.2.2
  have h36 : GG mb (dSet m 36 x1.toNatClampNeg (0 : Int32)) := h.law (by decide) ⟨by rw [dSet_k (by decide)]; exact hL.1, fun j => by
    rw [dSet_e]
    split
    · decide
    · exact hL.2 j⟩
  have go : ∀ k : Nat, 32 ≤ k → k ≤ 35 → GG mb (dSet (dSet m 36 x1.toNatClampNeg (0 : Int32)) k 0 (m.1 29 1)) := fun k h1 h2 => h36.law (by omega) (by
    have := h36.2.2
    unfold GL
    rw [dSet_k (show 29 ≠ k by omega), dSet_k (show 36 ≠ k by omega)]
    exact this)
  exact v_X4_begin_29 ⟨hx, hx, fun _ => hQ _ (go 32 (by decide) (by decide)), fun _ => hQ _ (go 33 (by decide) (by decide)), fun _ => hQ _ (go 34 (by decide) (by decide)), fun _ => hQ _ (go 35 (by decide) (by decide))⟩
theorem l_piece {x1 : Int32} {Q : dM → Prop} (h : GG mb m) (hx : 0 ≤ x1.toInt ∧ x1.toInt < 4) (hQ : ∀ m' : dM, GG mb m' → Q m') : c_X4_endPiece_29 1 x1 m Q := by
  have hL := h.2.2
  have hj := hL.2 x1.toNatClampNeg
  refine v_X4_endPiece_29 ⟨hx, fun q => v_X4_endPiece_29_38 (hQ _ h), fun q => ?_⟩
  have f1 := dAddE (X := (m.1 36 x1.toNatClampNeg).toInt) (Y := 1) (x := m.1 36 x1.toNatClampNeg) (y := (1 : Int32)) rfl (by decide) (by omega) (by omega)
  have h36 : GG mb (dSet m 36 x1.toNatClampNeg (m.1 36 x1.toNatClampNeg + 1)) := h.law (by decide) ⟨by rw [dSet_k (by decide)]; exact hL.1, fun j => by
    rw [dSet_e]
    split
    · omega
    · exact hL.2 j⟩
  have go : ∀ k j : Nat, 32 ≤ k → k ≤ 35 → GG mb (dSet (dSet m 36 x1.toNatClampNeg (m.1 36 x1.toNatClampNeg + 1)) k j (m.1 29 1)) := fun k j h1 h2 => h36.law (by omega) (by
    have := h36.2.2
    unfold GL
    rw [dSet_k (show 29 ≠ k by omega), dSet_k (show 36 ≠ k by omega)]
    exact this)
  have b14 : 0 ≤ (m.1 36 x1.toNatClampNeg + 1).toInt ∧ (m.1 36 x1.toNatClampNeg + 1).toInt < 14 := by omega
  exact ⟨hx, hx, hx, fun _ => ⟨hx, b14, v_X4_endPiece_29_38 (hQ _ (go 32 _ (by decide) (by decide)))⟩, fun _ => ⟨hx, b14, v_X4_endPiece_29_38 (hQ _ (go 33 _ (by decide) (by decide)))⟩, fun _ => ⟨hx, b14, v_X4_endPiece_29_38 (hQ _ (go 34 _ (by decide) (by decide)))⟩, fun _ => ⟨hx, b14, v_X4_endPiece_29_38 (hQ _ (go 35 _ (by decide) (by decide)))⟩⟩
theorem l_clear {Q : dM → Prop} (h : GL m) (hQ : ∀ m' : dM, GG m m' → Q m') : c_X4_clear_29 2 m Q := by
  have h0 : GG m (dSet m 29 1 (0 : Int32)) := GG.law ⟨fun _ _ => rfl, rfl, h⟩ (by decide) ⟨by rw [dSet_s]; decide, fun j => by rw [dSet_k (by decide)]; exact h.2 j⟩
  exact v_X4_clear_29 (l_begin h0 (by decide) (fun m1 h1 => l_put h1 (fun m2 h2 => l_put h2 (fun m3 h3 => l_put h3 (fun m4 h4 => l_piece h4 (by decide) (fun m5 h5 => l_begin h5 (by decide) (fun m6 h6 => l_put h6 (fun m7 h7 => l_piece h7 (by decide) (fun m8 h8 => l_begin h8 (by decide) (fun m9 h9 => l_put h9 (fun m10 h10 => l_piece h10 (by decide) (fun m11 h11 => l_begin h11 (by decide) (fun m12 h12 => l_put h12 (fun m13 h13 => l_piece h13 (by decide) (fun m14 h14 => hQ m14 h14)))))))))))))))
/-- an empty draft -/
theorem l_draft {Q : dM → Prop} (h : GL m) (hQ : ∀ m' : dM, (∀ k : Nat, (k < 20 ∨ (20 < k ∧ k < 29) ∨ k = 31 ∨ 36 < k) → m'.1 k = m.1 k) → m'.2 = m.2 → GL m' → (∀ V : Nat → Int64, MS V mS0 m') → Q m') : c_X3_clear_20 3 m Q := by
  refine v_X3_clear_20 (l_clear (m := dSet (dSet (dSet (dSet (dSet (dSet (dSet m 20 0 (0 : Int32)) 20 1 (0 : Int32)) 20 2 (0 : Int32)) 20 3 (0 : Int32)) 20 4 (0 : Int32)) 20 5 (100 : Int32)) 20 6 (0 : Int32)) ?_ (fun m' h' => hQ m' (fun k hk => ?_) h'.2.1 h'.2.2 (fun V => ?_)))
  · unfold GL
    rw [dSet_k (by decide), dSet_k (by decide), dSet_k (by decide), dSet_k (by decide), dSet_k (by decide), dSet_k (by decide), dSet_k (by decide), dSet_k (by decide), dSet_k (by decide), dSet_k (by decide), dSet_k (by decide), dSet_k (by decide), dSet_k (by decide), dSet_k (by decide)]
    exact h
  · rw [h'.1 k (by omega), dSet_k (by omega), dSet_k (by omega), dSet_k (by omega), dSet_k (by omega), dSet_k (by omega), dSet_k (by omega), dSet_k (by omega)]
  · have e20 := h'.1 20 (by omega)
    unfold MS
    rw [e20]
    exact ⟨⟨rfl, by decide⟩, ⟨rfl, by decide⟩, ⟨rfl, by decide⟩, fun i hi => absurd hi (Nat.not_lt_zero i), fun i hi => absurd hi (Nat.not_lt_zero i), fun i hi => absurd hi (Nat.not_lt_zero i), rfl, rfl, rfl, rfl⟩
theorem n_lcopy_27 {m0 : dM} {Q : dM → Prop} (hQ : ∀ m' : dM, (∀ k : Nat, (k < 11 ∨ 18 < k) → m'.1 k = m0.1 k) → m'.2 = m0.2 → Q m') : ∀ (f : Nat) (x2 : Int32) (m : dM), (∀ k : Nat, (k < 11 ∨ 18 < k) → m.1 k = m0.1 k) → m.2 = m0.2 → 0 ≤ x2.toInt ∧ x2.toInt ≤ 4 → 4 - x2.toInt < (f : Int) → j_X4_copy_11_29_27 1 x2 m Q := by
  intro f
  induction f with
  | zero => intro x2 m hF h2 hx hμ; exfalso; omega
  | succ f ih =>
    intro x2 m hF h2 hx hμ
    refine v_X4_copy_11_29_27 ?_
    refine ⟨fun hc => hQ _ hF h2, fun hc => ?_⟩
    have f1 := dAddE (X := x2.toInt) (Y := 1) (x := x2) (y := (1 : Int32)) rfl (by decide) (by omega) (by omega)
    have go : ∀ a b : Nat, (b = 14 ∨ b = 15 ∨ b = 16 ∨ b = 17) → j_X4_copy_11_29_27 1 (x2 + 1) (dCpy (dSet m 18 x2.toNatClampNeg (m.1 36 x2.toNatClampNeg)) a (0 : Int).toNat b (0 : Int).toNat (14 : Int).toNat) Q := fun a b hb => ih _ _ (fun k hk => by rw [dCpy_k (by omega), dSet_k (by omega)]; exact hF k hk) h2 (by omega) (by omega)
    refine ⟨by omega, ⟨by omega, ⟨by omega, ?_⟩⟩⟩
    refine ⟨fun _ => ⟨by omega, fun _ => ?_, fun _ => ?_, fun _ => ?_, fun _ => ?_⟩, fun _ => ⟨by omega, fun _ => ?_, fun _ => ?_, fun _ => ?_, fun _ => ?_⟩, fun _ => ⟨by omega, fun _ => ?_, fun _ => ?_, fun _ => ?_, fun _ => ?_⟩, fun _ => ⟨by omega, fun _ => ?_, fun _ => ?_, fun _ => ?_, fun _ => ?_⟩⟩
    all_goals exact go _ _ (by decide)
theorem n_copy {Q : dM → Prop} (hL : GL m) (hQ : ∀ m' : dM, (∀ k : Nat, (k < 2 ∨ 18 < k) → m'.1 k = m.1 k) → m'.2 = m.2 → (∀ j : Nat, j < 7 → m'.1 2 j = m.1 20 j) → Q m') : c_X3_copy_2_20 2 m Q := by
  refine v_X3_copy_2_20 ?_
  have e2 : ∀ j : Nat, j < 7 → (dSet (dSet (dSet (dSet (dSet (dSet (dSet m 2 0 (m.1 20 0)) 2 1 (m.1 20 1)) 2 2 (m.1 20 2)) 2 3 (m.1 20 3)) 2 4 (m.1 20 4)) 2 5 (m.1 20 5)) 2 6 (m.1 20 6)).1 2 j = m.1 20 j := fun j hj => by
    match j, hj with
    | 0, _ | 1, _ | 2, _ | 3, _ | 4, _ | 5, _ | 6, _ => rfl
    | j + 7, hj => omega
  have ek : ∀ k : Nat, k ≠ 2 → (dSet (dSet (dSet (dSet (dSet (dSet (dSet m 2 0 (m.1 20 0)) 2 1 (m.1 20 1)) 2 2 (m.1 20 2)) 2 3 (m.1 20 3)) 2 4 (m.1 20 4)) 2 5 (m.1 20 5)) 2 6 (m.1 20 6)).1 k = m.1 k := fun k hk => by rw [dSet_k hk, dSet_k hk, dSet_k hk, dSet_k hk, dSet_k hk, dSet_k hk, dSet_k hk]
  have e2' : (dSet (dSet (dSet (dSet (dSet (dSet (dSet m 2 0 (m.1 20 0)) 2 1 (m.1 20 1)) 2 2 (m.1 20 2)) 2 3 (m.1 20 3)) 2 4 (m.1 20 4)) 2 5 (m.1 20 5)) 2 6 (m.1 20 6)).2 = m.2 := rfl
  generalize dSet (dSet (dSet (dSet (dSet (dSet (dSet m 2 0 (m.1 20 0)) 2 1 (m.1 20 1)) 2 2 (m.1 20 2)) 2 3 (m.1 20 3)) 2 4 (m.1 20 4)) 2 5 (m.1 20 5)) 2 6 (m.1 20 6) = M at e2 ek e2' ⊢
  have ck : ∀ k : Nat, (k < 3 ∨ 10 < k) → (dCpy (dCpy (dCpy (dCpy (dCpy (dCpy (dCpy (dCpy M 21 (0 : Int).toNat 3 (0 : Int).toNat (7 : Int).toNat) 22 (0 : Int).toNat 4 (0 : Int).toNat (10 : Int).toNat) 23 (0 : Int).toNat 5 (0 : Int).toNat (10 : Int).toNat) 24 (0 : Int).toNat 6 (0 : Int).toNat (10 : Int).toNat) 25 (0 : Int).toNat 7 (0 : Int).toNat (8 : Int).toNat) 26 (0 : Int).toNat 8 (0 : Int).toNat (8 : Int).toNat) 27 (0 : Int).toNat 9 (0 : Int).toNat (8 : Int).toNat) 28 (0 : Int).toNat 10 (0 : Int).toNat (8 : Int).toNat).1 k = M.1 k := fun k hk => by rw [dCpy_k (by omega), dCpy_k (by omega), dCpy_k (by omega), dCpy_k (by omega), dCpy_k (by omega), dCpy_k (by omega), dCpy_k (by omega), dCpy_k (by omega)]
  have c2 : (dCpy (dCpy (dCpy (dCpy (dCpy (dCpy (dCpy (dCpy M 21 (0 : Int).toNat 3 (0 : Int).toNat (7 : Int).toNat) 22 (0 : Int).toNat 4 (0 : Int).toNat (10 : Int).toNat) 23 (0 : Int).toNat 5 (0 : Int).toNat (10 : Int).toNat) 24 (0 : Int).toNat 6 (0 : Int).toNat (10 : Int).toNat) 25 (0 : Int).toNat 7 (0 : Int).toNat (8 : Int).toNat) 26 (0 : Int).toNat 8 (0 : Int).toNat (8 : Int).toNat) 27 (0 : Int).toNat 9 (0 : Int).toNat (8 : Int).toNat) 28 (0 : Int).toNat 10 (0 : Int).toNat (8 : Int).toNat).2 = M.2 := rfl
  generalize dCpy (dCpy (dCpy (dCpy (dCpy (dCpy (dCpy (dCpy M 21 (0 : Int).toNat 3 (0 : Int).toNat (7 : Int).toNat) 22 (0 : Int).toNat 4 (0 : Int).toNat (10 : Int).toNat) 23 (0 : Int).toNat 5 (0 : Int).toNat (10 : Int).toNat) 24 (0 : Int).toNat 6 (0 : Int).toNat (10 : Int).toNat) 25 (0 : Int).toNat 7 (0 : Int).toNat (8 : Int).toNat) 26 (0 : Int).toNat 8 (0 : Int).toNat (8 : Int).toNat) 27 (0 : Int).toNat 9 (0 : Int).toNat (8 : Int).toNat) 28 (0 : Int).toNat 10 (0 : Int).toNat (8 : Int).toNat = N at ck c2 ⊢
  have b := hL.1
  have e29 : N.1 29 1 = m.1 29 1 := by rw [ck 29 (by omega), ek 29 (by decide)]
  refine v_X4_copy_11_29 ⟨by rw [e29]; omega, ?_⟩
  refine n_lcopy_27 (m0 := N) (fun m' hF h2 => hQ m' (fun k hk => ?_) (by rw [h2, c2, e2']) (fun j hj => ?_)) 6 _ _ (fun k hk => ?_) rfl (by decide) (by decide)
  · rw [hF k (by omega), ck k (by omega), ek k (by omega)]
  · rw [hF 2 (by omega), ck 2 (by omega)]; exact e2 j hj
  · rw [dSet_k (by omega), dCpy_k (by omega)]
theorem n_fill49 {x1 : Int32} {Q : dM → Prop} (hQ : ∀ m' : dM, (∀ k : Nat, k ≠ 49 → m'.1 k = m.1 k) → m'.2 = m.2 → Q m') : c_J7_fill_49 1 x1 m Q := by
  have loop : ∀ (f i : Nat) (x3 : Int32) (M : dM), i + f = 10 → x3.toInt = i → (∀ k : Nat, k ≠ 49 → M.1 k = m.1 k) → M.2 = m.2 → j_J7_fill_49_5 1 x1 x3 (10 : Int32) M Q := by
    intro f
    induction f with
    | zero => intro i x3 M hi h3 hF h2; exact v_J7_fill_49_5 ⟨fun _ => hQ M hF h2, fun q => by
      have e : (10 : Int32).toInt = 10 := by decide
      exfalso; omega⟩
    | succ f ih =>
      intro i x3 M hi h3 hF h2
      have e : (10 : Int32).toInt = 10 := by decide
      exact v_J7_fill_49_5 ⟨fun q => by exfalso; omega, fun _ => ⟨by omega, ih (i + 1) _ _ (by omega) (d_inc h3 (by omega)) (fun k hk => by rw [dSet_k hk]; exact hF k hk) h2⟩⟩
  exact v_J7_fill_49 (loop 10 0 _ m rfl (by decide) (fun _ _ => rfl) rfl)
theorem n_fill50 {x1 : Int32} {Q : dM → Prop} (hQ : ∀ m' : dM, (∀ k : Nat, k ≠ 50 → m'.1 k = m.1 k) → m'.2 = m.2 → Q m') : c_J7_fill_50 1 x1 m Q := by
  have loop : ∀ (f i : Nat) (x3 : Int32) (M : dM), i + f = 7 → x3.toInt = i → (∀ k : Nat, k ≠ 50 → M.1 k = m.1 k) → M.2 = m.2 → j_J7_fill_50_5 1 x1 x3 (7 : Int32) M Q := by
    intro f
    induction f with
    | zero => intro i x3 M hi h3 hF h2; exact v_J7_fill_50_5 ⟨fun _ => hQ M hF h2, fun q => by
      have e : (7 : Int32).toInt = 7 := by decide
      exfalso; omega⟩
    | succ f ih =>
      intro i x3 M hi h3 hF h2
      have e : (7 : Int32).toInt = 7 := by decide
      exact v_J7_fill_50_5 ⟨fun q => by exfalso; omega, fun _ => ⟨by omega, ih (i + 1) _ _ (by omega) (d_inc h3 (by omega)) (fun k hk => by rw [dSet_k hk]; exact hF k hk) h2⟩⟩
  exact v_J7_fill_50 (loop 7 0 _ m rfl (by decide) (fun _ _ => rfl) rfl)
theorem n_begin {Q : dM → Prop} (hQ : ∀ m' : dM, (∀ k : Nat, (k < 47 ∨ 50 < k) → m'.1 k = m.1 k) → m'.2 = m.2 → Q m') : c_X7_begin_47_2 2 m Q := by
  refine v_X7_begin_47_2 (n_fill49 (fun m1 h1 e1 => n_fill50 (fun m2 h2 e2 => hQ m2 (fun k hk => ?_) (by rw [e2, e1]; rfl))))
  rw [h2 k (by omega), h1 k (by omega), dCpy_k (by omega), dSet_k (by omega), dSet_k (by omega), dSet_k (by omega), dSet_k (by omega), dSet_k (by omega), dSet_k (by omega)]
end CRE
end
