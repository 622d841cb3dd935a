/-! THE MEANING, as a function of kinds K and values V of the tokens of a text whose grammar is right -/
/-- flats: where told; wires: where, from, to; uses: where, its flat; where surge, coins, seed were told last -/
abbrev mSt : Type := List Nat × List (Nat × Nat × Nat) × List (Nat × Nat) × (Option Nat × Option Nat × Option Nat)
/-- the first of f from i on that has the name -/
def ix (N : Nat → Int64) (y : Int64) : Nat → Nat → Option Nat
  | 0, _ => none
  | f + 1, i => if N i = y then some i else ix N y f (i + 1)
theorem ix_s {N : Nat → Int64} {y : Int64} {f i : Nat} : ix N y (f + 1) i = if N i = y then some i else ix N y f (i + 1) := rfl
def oi (o : Option Nat) : Int := match o with
  | none => -1
  | some i => i
def wx (W : Nat → Nat × Nat) (a b : Nat) : Nat → Nat → Bool
  | 0, _ => false
  | f + 1, i => if W i = (a, b) ∨ W i = (b, a) then true else wx W a b f (i + 1)
theorem wx_s {W : Nat → Nat × Nat} {a b f i : Nat} : wx W a b (f + 1) i = if W i = (a, b) ∨ W i = (b, a) then true else wx W a b f (i + 1) := rfl
section MEA
variable (K : Nat → Int) (V : Nat → Int64)
def iV (i : Nat) : Int := (V i).toInt32.toInt
def fN (s : mSt) (i : Nat) : Int64 := V (s.1.getD i 0 + 1)
def uN (s : mSt) (u : Nat) : Int64 := V ((s.2.2.1.getD u (0, 0)).1 + 1)
def wE (s : mSt) (w : Nat) : Nat × Nat := (s.2.1.getD w (0, 0, 0)).2
def fF (s : mSt) (y : Int64) : Option Nat := ix (fN V s) y s.1.length 0
def uF (s : mSt) (y : Int64) : Option Nat := ix (uN V s) y s.2.2.1.length 0
def knw (s : mSt) (y : Int64) : Bool := (fF V s y).isSome || (uF V s y).isSome
/-- a number between: else the fault at it -/
def bnd (i : Nat) (lo hi : Int) (r : gR × mSt) (s : mSt) : gR × mSt := if lo ≤ iV V i ∧ iV V i ≤ hi then r else ((5, i), s)
def mFlat (n : Nat) (s : mSt) : gR × mSt := cond (knw V s (V (n + 1))) ((3, n + 1), s) (bnd V (n + 2) 0 9 ((0, 0), (s.1 ++ [n], s.2)) s)
def mWire (n : Nat) (s : mSt) : gR × mSt := match fF V s (V (n + 1)) with
  | none => ((4, n + 1), s)
  | some a => match fF V s (V (n + 2)) with
    | none => ((4, n + 2), s)
    | some b => if a = b ∨ wx (wE s) a b s.2.1.length 0 = true then ((3, n + 2), s) else bnd V (n + 3) 1 99 ((0, 0), (s.1, s.2.1 ++ [(n, a, b)], s.2.2)) s
def mUse (n : Nat) (s : mSt) : gR × mSt := cond (knw V s (V (n + 1))) ((3, n + 1), s) (match fF V s (V (n + 2)) with
  | none => ((4, n + 2), s)
  | some h => bnd V (n + 3) 1 19 (bnd V (n + 4) 0 23 (bnd V (n + 5) (iV V (n + 4)) 23 ((0, 0), (s.1, s.2.1, s.2.2.1 ++ [(n, h)], s.2.2.2)) s) s) s)
def mTell (n : Nat) (s : mSt) : gR × mSt :=
  if K n = 0 then mFlat V n s
  else if K n = 1 then mWire V n s
  else if K n = 2 then mUse V n s
  else if K n = 7 then bnd V (n + 1) 0 100 (bnd V (n + 2) 0 19 ((0, 0), (s.1, s.2.1, s.2.2.1, (some n, s.2.2.2.2))) s) s
  else if K n = 8 then bnd V (n + 1) 0 999 ((0, 0), (s.1, s.2.1, s.2.2.1, (s.2.2.2.1, some n, s.2.2.2.2.2))) s
  else if K n = 9 then bnd V (n + 1) 0 9999 ((0, 0), (s.1, s.2.1, s.2.2.1, (s.2.2.2.1, s.2.2.2.2.1, some n))) s
  else ((0, 0), s)
def mGo (r : gR × mSt) (k : mSt → gR × mSt) : gR × mSt := if r.1.1 = 0 then k r.2 else r
def mAll : Nat → Nat → mSt → gR × mSt
  | 0, _, s => ((0, 0), s)
  | f + 1, n, s => if K n = 24 then ((0, 0), s) else mGo (mTell K V n s) (fun s' => mAll f (gTell K s.1.length s.2.1.length s.2.2.1.length n).2 s')
end MEA
def mS0 : mSt := ([], [], [], (none, none, none))
theorem mGo_k {r : gR × mSt} {k : mSt → gR × mSt} (h : r.1.1 = 0) : mGo r k = k r.2 := by unfold mGo; rw [if_pos h]
theorem mGo_f {r : gR × mSt} {k : mSt → gR × mSt} (h : r.1.1 ≠ 0) : mGo r k = r := by unfold mGo; rw [if_neg h]
section GRZ
variable {K : Nat → Int}
theorem gst_z {n : Nat} (h : (gst n).1 = 0) : gst n = (0, n + 1) ∧ n < 400 := by
  unfold gst at h ⊢
  by_cases q : 400 ≤ n
  · rw [if_pos q] at h; exact absurd h (by first | decide | exact Nat.succ_ne_zero _)
  · rw [if_neg q]; exact ⟨rfl, by omega⟩
theorem gnd_0 {k : Int} {n : Nat} (h : (gnd K k n).1 = 0) : gnd K k n = (0, n + 1) ∧ K n = k ∧ n < 400 := by
  unfold gnd at h ⊢
  by_cases q : K n = k
  · rw [if_pos q] at h ⊢
    exact ⟨(gst_z h).1, q, (gst_z h).2⟩
  · rw [if_neg q] at h; exact absurd h (by first | decide | exact Nat.succ_ne_zero _)
theorem rb_z {r : gR} {k : Nat → gR} (h : (rb r k).1 = 0) : r.1 = 0 ∧ rb r k = k r.2 := by
  by_cases q : r.1 = 0
  · exact ⟨q, rb_k q⟩
  · rw [rb_f q] at h; exact absurd h q
/-- a row that is right: each token as it must be -/
theorem gsq_z : ∀ (ks : List Int) (n : Nat), (gsq K ks n).1 = 0 → gsq K ks n = (0, n + ks.length) ∧ ∀ (i : Nat) (k : Int), ks[i]? = some k → K (n + i) = k ∧ n + i < 400
  | [], n, _ => ⟨rfl, fun i k h => by simp at h⟩
  | k :: ks, n, h => by
    have h : (rb (gnd K k n) (gsq K ks)).1 = 0 := h
    obtain ⟨h1, h2⟩ := rb_z h
    obtain ⟨e1, e2, e3⟩ := gnd_0 h1
    rw [h2, e1] at h
    obtain ⟨a, b⟩ := gsq_z ks (n + 1) h
    refine ⟨?_, fun i k' hi => ?_⟩
    · show rb (gnd K k n) (gsq K ks) = _
      rw [h2, e1]
      show gsq K ks (n + 1) = _
      rw [a, List.length_cons]
      congr 1
      omega
    · match i, hi with
      | 0, hi =>
        simp at hi
        subst hi
        exact ⟨e2, e3⟩
      | i + 1, hi =>
        have := b i k' (by simpa using hi)
        rw [show n + (i + 1) = n + 1 + i by omega]
        exact this
theorem grow_z {ks : List Int} {n : Nat} (h : (rb (gst n) (gsq K ks)).1 = 0) : rb (gst n) (gsq K ks) = (0, n + 1 + ks.length) ∧ ∀ (i : Nat) (k : Int), ks[i]? = some k → K (n + 1 + i) = k ∧ n + 1 + i < 400 := by
  obtain ⟨h1, h2⟩ := rb_z h
  obtain ⟨e1, e2⟩ := gst_z h1
  rw [h2, e1] at h
  rw [h2, e1]
  exact gsq_z ks (n + 1) h
/-- no sign of end from n on, ahead of n' -/
def sc (K : Nat → Int) (n n' : Nat) : Prop := n ≤ n' ∧ ∀ j : Nat, n ≤ j → j < n' → K j ≠ 59
theorem sc.tr {a b c : Nat} (h : sc K a b) (h' : sc K b c) : sc K a c := ⟨Nat.le_trans h.1 h'.1, fun j h1 h2 => by
  by_cases e : j < b
  · exact h.2 j h1 e
  · exact h'.2 j (by omega) h2⟩
theorem sc_nd {k : Int} {n : Nat} (h : (gnd K k n).1 = 0) (hk : k ≠ 59) : sc K n (gnd K k n).2 := by
  obtain ⟨e1, e2, e3⟩ := gnd_0 h
  rw [e1]
  exact ⟨Nat.le_succ n, fun j h1 h2 => by
    have h2 : j < n + 1 := h2
    have : j = n := by omega
    rw [this, e2]; exact hk⟩
theorem sc_E {n : Nat} (h : (gE K n).1 = 0) : sc K n (gE K n).2 := by
  by_cases q : n ≤ 400
  · have := gX_ok (K := K) (b := 0) _ 0 false n rfl q
    exact ⟨this.1.1, fun j h1 h2 => (this.2 j h1 h2).2.2⟩
  · unfold gE gX at h
    rw [show 401 - n = 0 by omega] at h
    exact absurd h (by first | decide | exact Nat.succ_ne_zero _)
/-- a law's end is the first sign of end behind its word -/
theorem gend_z {n : Nat} (h : (rb (gE K n) (gnd K 59)).1 = 0) : ∃ e : Nat, rb (gE K n) (gnd K 59) = (0, e + 1) ∧ e < 400 ∧ K e = 59 ∧ sc K n e := by
  obtain ⟨h1, h2⟩ := rb_z h
  rw [h2] at h ⊢
  obtain ⟨e1, e2, e3⟩ := gnd_0 h
  exact ⟨(gE K n).2, e1, e3, e2, sc_E h1⟩
theorem gIf_z : ∀ (r n : Nat), (gIf K r n).1 = 0 → ∃ e : Nat, gIf K r n = (0, e + 1) ∧ e < 400 ∧ K e = 59 ∧ sc K n e
  | 0, n, h => by
    unfold gIf at h ⊢
    by_cases q : K n = 10
    · rw [if_pos q] at h; exact absurd h (by first | decide | exact Nat.succ_ne_zero _)
    · rw [if_neg q] at h ⊢; exact gend_z h
  | r + 1, n, h => by
    unfold gIf at h ⊢
    by_cases q : K n = 10
    · rw [if_pos q] at h ⊢
      obtain ⟨a1, a2⟩ := rb_z h
      rw [a2] at h ⊢
      obtain ⟨g1, g2⟩ := gst_z a1
      obtain ⟨b1, b2⟩ := rb_z h
      rw [b2] at h ⊢
      obtain ⟨c1, c2⟩ := rb_z h
      rw [c2] at h ⊢
      obtain ⟨d1, d2⟩ := rb_z h
      rw [d2] at h ⊢
      obtain ⟨e1, e2⟩ := rb_z h
      rw [e2] at h ⊢
      obtain ⟨f1, f2⟩ := rb_z h
      rw [f2] at h ⊢
      obtain ⟨i1, i2⟩ := rb_z h
      rw [i2] at h ⊢
      obtain ⟨e, x1, x2, x3, x4⟩ := gIf_z r _ h
      refine ⟨e, x1, x2, x3, ?_⟩
      have s0 : sc K n (gst n).2 := by
        rw [g1]
        exact ⟨Nat.le_succ n, fun j h1 h2 => by
          have h2 : j < n + 1 := h2
          have : j = n := by omega
          rw [this, q]; decide⟩
      exact (((((((s0.tr (sc_E b1)).tr (sc_nd c1 (by decide))).tr (sc_E d1)).tr (sc_nd e1 (by decide))).tr (sc_E f1)).tr (sc_nd i1 (by decide))).tr x4)
    · rw [if_neg q] at h ⊢; exact gend_z h
theorem gLaw_z {n : Nat} (h : (gLaw K n).1 = 0) : ∃ e : Nat, gLaw K n = (0, e + 1) ∧ e < 400 ∧ K e = 59 ∧ sc K (n + 1) e := by
  unfold gLaw at h ⊢
  obtain ⟨a1, a2⟩ := rb_z h
  rw [a2] at h ⊢
  obtain ⟨g1, g2⟩ := gst_z a1
  rw [g1] at h ⊢
  obtain ⟨b1, b2⟩ := rb_z h
  rw [b2] at h ⊢
  obtain ⟨e, x1, x2, x3, x4⟩ := gIf_z 4 _ h
  exact ⟨e, x1, x2, x3, (sc_nd b1 (by decide)).tr x4⟩
theorem gAll_le : ∀ (f cf cw cu n : Nat), n ≤ (gAll K f cf cw cu n).2
  | 0, _, _, _, n => Nat.le_refl _
  | f + 1, cf, cw, cu, n => by
    unfold gAll
    by_cases q : K n = 24
    · rw [if_pos q]; exact Nat.le_refl _
    · rw [if_neg q]
      refine rb_le ?_ (fun n' h => Nat.le_trans h (gAll_le f _ _ _ n'))
      unfold gTell gLaw
      split
      · split
        · exact Nat.le_refl _
        · exact rb_le (gst_le n).1 (fun n' h => Nat.le_trans h (gsq_le _ n'))
      · split
        · split
          · exact Nat.le_refl _
          · exact rb_le (gst_le n).1 (fun n' h => Nat.le_trans h (gsq_le _ n'))
        · split
          · split
            · exact Nat.le_refl _
            · exact rb_le (gst_le n).1 (fun n' h => Nat.le_trans h (gsq_le _ n'))
          · split
            · exact rb_le (gst_le n).1 (fun a ha => rb_le (Nat.le_trans ha (gnd_le 61 a)) (fun b hb => Nat.le_trans hb (gIf_le 4 b)))
            · split
              · exact rb_le (gst_le n).1 (fun n' h => Nat.le_trans h (gsq_le _ n'))
              · split
                · exact rb_le (gst_le n).1 (fun n' h => Nat.le_trans h (gsq_le _ n'))
                · exact Nat.le_refl _
end GRZ
section IXS
theorem ix_none {N : Nat → Int64} {y : Int64} : ∀ (f i : Nat), ix N y f i = none ↔ ∀ j : Nat, i ≤ j → j < i + f → N j ≠ y
  | 0, i => ⟨fun _ j h1 h2 => by omega, fun _ => rfl⟩
  | f + 1, i => by
    unfold ix
    by_cases q : N i = y
    · rw [if_pos q]
      exact ⟨fun h => (by cases h), fun h => absurd q (h i (Nat.le_refl _) (by omega))⟩
    · rw [if_neg q, ix_none f (i + 1)]
      exact ⟨fun h j h1 h2 => by
        by_cases e : j = i
        · rw [e]; exact q
        · exact h j (by omega) (by omega), fun h j h1 h2 => h j (by omega) (by omega)⟩
theorem ix_some {N : Nat → Int64} {y : Int64} {k : Nat} : ∀ (f i : Nat), ix N y f i = some k → i ≤ k ∧ k < i + f ∧ N k = y
  | 0, i, h => by cases h
  | f + 1, i, h => by
    unfold ix at h
    by_cases q : N i = y
    · rw [if_pos q] at h
      cases h
      exact ⟨Nat.le_refl _, by omega, q⟩
    · rw [if_neg q] at h
      have := ix_some f (i + 1) h
      exact ⟨by omega, by omega, this.2.2⟩
theorem fF_lt {V : Nat → Int64} {s : mSt} {y : Int64} {a : Nat} (h : fF V s y = some a) : a < s.1.length := by
  have := ix_some _ _ h
  omega
theorem oi_ne {o : Option Nat} : oi o ≠ -1 ↔ ∃ a, o = some a := by
  cases o with
  | none => exact ⟨fun h => absurd rfl h, fun ⟨a, h⟩ => by cases h⟩
  | some a => exact ⟨fun _ => ⟨a, rfl⟩, fun _ => by show ((a : Nat) : Int) ≠ -1; omega⟩
end IXS
