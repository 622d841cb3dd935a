section
/-! THE WAYS, as a function of the wires' ends and of those that are gone -/
/-- one below n is so; the first that is so -/
def an (p : Nat → Bool) : Nat → Bool
  | 0 => false
  | n + 1 => an p n || p n
def fw (p : Nat → Bool) : Nat → Nat
  | 0 => 0
  | n + 1 => cond (an p n) (fw p n) n
theorem an_iff {p : Nat → Bool} : ∀ (n : Nat), an p n = true ↔ ∃ i : Nat, i < n ∧ p i = true
  | 0 => ⟨fun h => (by cases h), fun ⟨i, h, _⟩ => (by omega)⟩
  | n + 1 => by
    have ih := an_iff (p := p) n
    show (an p n || p n) = true ↔ _
    rw [Bool.or_eq_true, ih]
    constructor
    · rintro (⟨i, h1, h2⟩ | h)
      · exact ⟨i, by omega, h2⟩
      · exact ⟨n, by omega, h⟩
    · rintro ⟨i, h1, h2⟩
      by_cases e : i = n
      · subst e; exact Or.inr h2
      · exact Or.inl ⟨i, by omega, h2⟩
theorem an_no {p : Nat → Bool} {n : Nat} : an p n = false ↔ ∀ i : Nat, i < n → p i = false := by
  constructor
  · intro h i hi
    cases e : p i with
    | false => rfl
    | true =>
      have := (an_iff n).mpr ⟨i, hi, e⟩
      rw [h] at this
      cases this
  · intro h
    cases e : an p n with
    | false => rfl
    | true =>
      obtain ⟨i, h1, h2⟩ := (an_iff n).mp e
      rw [h i h1] at h2
      cases h2
theorem fw_eq {p : Nat → Bool} {i : Nat} (hp : p i = true) (hj : ∀ j : Nat, j < i → p j = false) : ∀ (n : Nat), i < n → fw p n = i
  | 0, h => by omega
  | n + 1, h => by
    show cond (an p n) (fw p n) n = i
    by_cases e : i = n
    · subst e
      rw [an_no.mpr hj, cond_false]
    · rw [(an_iff n).mpr ⟨i, by omega, hp⟩, cond_true]
      exact fw_eq hp hj n (by omega)
theorem fw_ok {p : Nat → Bool} : ∀ (n : Nat), an p n = true → fw p n < n ∧ p (fw p n) = true ∧ ∀ j : Nat, j < fw p n → p j = false
  | 0, h => by cases h
  | n + 1, h => by
    show cond (an p n) (fw p n) n < n + 1 ∧ p (cond (an p n) (fw p n) n) = true ∧ ∀ j : Nat, j < cond (an p n) (fw p n) n → p j = false
    cases e : an p n with
    | true =>
      have := fw_ok n e
      rw [cond_true]
      exact ⟨by omega, this.2⟩
    | false =>
      have h : (an p n || p n) = true := h
      rw [e, Bool.false_or] at h
      rw [cond_false]
      exact ⟨by omega, h, an_no.mp e⟩
section WAY
variable (nf nw : Nat) (e1 e2 : Nat → Nat) (G : Nat → Bool)
def ot (w f : Nat) : Nat := if e1 w = f then e2 w else e1 w
def tch (w f : Nat) : Bool := !G w && (decide (e1 w = f) || decide (e2 w = f))
/-- a wire brings f from those that are n away -/
def br (d : Nat → Nat) (n f w : Nat) : Bool := tch e1 e2 G w f && decide (d (ot e1 e2 w f) = n)
/-- how far a flat is, as far as n rounds tell; 99: away -/
def dst : Nat → Nat → Nat
  | 0, f => if f = 0 ∧ 0 < nf then 0 else 99
  | n + 1, f => if dst n f = 99 ∧ an (br e1 e2 G (dst n) n f) nw = true then n + 1 else dst n f
/-- within round n + 1, behind k wires -/
def dsk (n k f : Nat) : Nat := if dst nf nw e1 e2 G n f = 99 ∧ an (br e1 e2 G (dst nf nw e1 e2 G n) n f) k = true then n + 1 else dst nf nw e1 e2 G n f
/-- how far; the wire of its way; the wires of its way -/
def dD (f : Nat) : Nat := dst nf nw e1 e2 G 6 f
def nxp (f w : Nat) : Bool := tch e1 e2 G w f && decide (dD nf nw e1 e2 G (ot e1 e2 w f) + 1 = dD nf nw e1 e2 G f)
def nx (f : Nat) : Nat := fw (nxp nf nw e1 e2 G f) nw
def vN : Nat → Nat → Int32
  | 0, _ => 0
  | k + 1, f => b1 (nx nf nw e1 e2 G f) ||| vN k (ot e1 e2 (nx nf nw e1 e2 G f) f)
def via (f : Nat) : Int32 := if dD nf nw e1 e2 G f = 99 then 0 else vN nf nw e1 e2 G (dD nf nw e1 e2 G f) f
end WAY
section WAL
variable {nf nw : Nat} {e1 e2 : Nat → Nat} {G : Nat → Bool}
theorem dst_s {n f : Nat} : dst nf nw e1 e2 G (n + 1) f = if dst nf nw e1 e2 G n f = 99 ∧ an (br e1 e2 G (dst nf nw e1 e2 G n) n f) nw = true then n + 1 else dst nf nw e1 e2 G n f := rfl
theorem dsk_0 {n f : Nat} : dsk nf nw e1 e2 G n 0 f = dst nf nw e1 e2 G n f := by
  unfold dsk
  rw [if_neg (fun h => by cases h.2)]
theorem dsk_w {n f : Nat} : dsk nf nw e1 e2 G n nw f = dst nf nw e1 e2 G (n + 1) f := rfl
theorem dst_le : ∀ (n f : Nat), dst nf nw e1 e2 G n f ≤ n ∨ dst nf nw e1 e2 G n f = 99
  | 0, f => by unfold dst; split <;> omega
  | n + 1, f => by
    have := dst_le n f
    rw [dst_s]
    split <;> omega
theorem dst_keep {n f : Nat} (h : dst nf nw e1 e2 G n f ≠ 99) : ∀ (k : Nat), dst nf nw e1 e2 G (n + k) f = dst nf nw e1 e2 G n f
  | 0 => rfl
  | k + 1 => by
    show dst nf nw e1 e2 G ((n + k) + 1) f = _
    rw [dst_s, dst_keep h k, if_neg (fun q => h q.1)]
/-- a level is known when its round is done -/
theorem dst_lvl {l f : Nat} (hl : l < 99) : ∀ (k : Nat), dst nf nw e1 e2 G (l + k) f = l ↔ dst nf nw e1 e2 G l f = l
  | 0 => Iff.rfl
  | k + 1 => by
    have ih := dst_lvl (f := f) hl k
    show dst nf nw e1 e2 G ((l + k) + 1) f = l ↔ _
    rw [dst_s]
    constructor
    · intro h
      split at h
      · omega
      · exact ih.mp h
    · intro h
      rw [if_neg (fun q => by have := ih.mpr h; omega)]
      exact ih.mpr h
theorem dD_lvl {l f : Nat} (hl : l ≤ 6) : dD nf nw e1 e2 G f = l ↔ dst nf nw e1 e2 G l f = l := by
  have := dst_lvl (nf := nf) (nw := nw) (e1 := e1) (e2 := e2) (G := G) (l := l) (f := f) (by omega) (6 - l)
  rw [show l + (6 - l) = 6 by omega] at this
  exact this
theorem dst_far (hE : ∀ w : Nat, w < nw → e1 w < nf ∧ e2 w < nf) {f : Nat} (hf : nf ≤ f) : ∀ (n : Nat), dst nf nw e1 e2 G n f = 99
  | 0 => by unfold dst; rw [if_neg (by omega)]
  | n + 1 => by
    rw [dst_s, if_neg, dst_far hE hf n]
    rintro ⟨_, h⟩
    obtain ⟨w, hw, hb⟩ := (an_iff nw).mp h
    unfold br tch at hb
    have := hE w hw
    simp at hb
    omega
/-- nothing new: nothing new later -/
theorem dst_stop {n : Nat} (h : ∀ f : Nat, dst nf nw e1 e2 G (n + 1) f = dst nf nw e1 e2 G n f) : ∀ (k : Nat), n + k < 99 → ∀ f : Nat, dst nf nw e1 e2 G (n + k) f = dst nf nw e1 e2 G n f
  | 0, _, f => rfl
  | 1, _, f => h f
  | k + 2, hk, f => by
    have ih := dst_stop h (k + 1) (by omega)
    show dst nf nw e1 e2 G ((n + (k + 1)) + 1) f = _
    rw [dst_s, ih f, if_neg]
    rintro ⟨_, hb⟩
    obtain ⟨w, hw, hb⟩ := (an_iff nw).mp hb
    unfold br at hb
    rw [Bool.and_eq_true, decide_eq_true_eq, ih] at hb
    have := dst_le (nf := nf) (nw := nw) (e1 := e1) (e2 := e2) (G := G) n (ot e1 e2 w f)
    have := hb.2
    omega
/-- how many of n are so -/
def cn (p : Nat → Bool) : Nat → Nat
  | 0 => 0
  | n + 1 => cn p n + cond (p n) 1 0
theorem cn_le {p : Nat → Bool} : ∀ (n : Nat), cn p n ≤ n
  | 0 => Nat.le_refl _
  | n + 1 => by
    have := cn_le (p := p) n
    show cn p n + cond (p n) 1 0 ≤ n + 1
    cases p n <;> simp <;> omega
theorem cn_all {p : Nat → Bool} : ∀ (n : Nat), cn p n = n → ∀ i : Nat, i < n → p i = true
  | 0, _, i, hi => by omega
  | n + 1, h, i, hi => by
    have h : cn p n + cond (p n) 1 0 = n + 1 := h
    have := cn_le (p := p) n
    cases e : p n with
    | false => rw [e] at h; simp at h; omega
    | true =>
      rw [e] at h
      by_cases q : i = n
      · subst q; exact e
      · exact cn_all n (by simp at h; omega) i (by omega)
theorem cn_mono {p q : Nat → Bool} (h : ∀ i : Nat, p i = true → q i = true) : ∀ (n : Nat), cn p n ≤ cn q n
  | 0 => Nat.le_refl _
  | n + 1 => by
    have := cn_mono h n
    show cn p n + cond (p n) 1 0 ≤ cn q n + cond (q n) 1 0
    have := h n
    cases e : p n with
    | false => simp; omega
    | true => rw [this e]; simp; omega
theorem cn_more {p q : Nat → Bool} (h : ∀ i : Nat, p i = true → q i = true) {j : Nat} (h1 : p j = false) (h2 : q j = true) : ∀ (n : Nat), j < n → cn p n + 1 ≤ cn q n
  | 0, hj => by omega
  | n + 1, hj => by
    show cn p n + cond (p n) 1 0 + 1 ≤ cn q n + cond (q n) 1 0
    by_cases e : j = n
    · subst e
      have := cn_mono h j
      rw [h1, h2]
      simp
      omega
    · have := cn_more h h1 h2 n (by omega)
      have := h n
      cases e2 : p n with
      | false => simp; omega
      | true => rw [this e2]; simp; omega
/-- the flats that are reached -/
def rcd (d : Nat → Nat) (f : Nat) : Bool := decide (d f ≠ 99)
/-- all are reached: nothing new -/
theorem dst_full (hE : ∀ w : Nat, w < nw → e1 w < nf ∧ e2 w < nf) {n : Nat} (h : ∀ f : Nat, f < nf → dst nf nw e1 e2 G n f ≠ 99) (f : Nat) : dst nf nw e1 e2 G (n + 1) f = dst nf nw e1 e2 G n f := by
  by_cases q : f < nf
  · exact dst_keep (h f q) 1
  · rw [dst_far hE (by omega), dst_far hE (by omega)]
theorem rcd_mono {n : Nat} (f : Nat) (h : rcd (dst nf nw e1 e2 G n) f = true) : rcd (dst nf nw e1 e2 G (n + 1)) f = true := by
  unfold rcd at *
  rw [decide_eq_true_eq] at *
  rw [show n + 1 = n + 1 from rfl, dst_keep h 1]
  exact h
/-- the last round that the one does tells all -/
theorem dst_end (hE : ∀ w : Nat, w < nw → e1 w < nf ∧ e2 w < nf) {n : Nat} (hn : n ≤ 6) (hc : n + 1 ≤ cn (rcd (dst nf nw e1 e2 G n)) nf) (h : nf ≤ n + 1) (f : Nat) : dst nf nw e1 e2 G n f = dD nf nw e1 e2 G f := by
  have h1 := cn_le (p := rcd (dst nf nw e1 e2 G n)) nf
  have h2 := cn_all nf (by omega : cn (rcd (dst nf nw e1 e2 G n)) nf = nf)
  have h3 := dst_stop (dst_full hE (n := n) (G := G) (fun f hf => by
    have := h2 f hf
    unfold rcd at this
    exact of_decide_eq_true this)) (6 - n) (by omega) f
  rw [show n + (6 - n) = 6 by omega] at h3
  exact h3.symm
theorem dst_end0 {n : Nat} (hn : n ≤ 6) (h : ∀ f : Nat, dst nf nw e1 e2 G (n + 1) f = dst nf nw e1 e2 G n f) (f : Nat) : dst nf nw e1 e2 G (n + 1) f = dD nf nw e1 e2 G f := by
  have h3 := dst_stop h (6 - n) (by omega) f
  rw [show n + (6 - n) = 6 by omega] at h3
  rw [h f]
  exact h3.symm
/-- one more: the count grows -/
theorem dst_grow (hE : ∀ w : Nat, w < nw → e1 w < nf ∧ e2 w < nf) {n j : Nat} (hc : n + 1 ≤ cn (rcd (dst nf nw e1 e2 G n)) nf) (hj : dst nf nw e1 e2 G (n + 1) j ≠ dst nf nw e1 e2 G n j) : n + 2 ≤ cn (rcd (dst nf nw e1 e2 G (n + 1))) nf := by
  have h1 : dst nf nw e1 e2 G n j = 99 := by
    by_cases q : dst nf nw e1 e2 G n j = 99
    · exact q
    · exact absurd (dst_keep q 1) hj
  have hl : j < nf := by
    by_cases q : j < nf
    · exact q
    · exact absurd (by rw [dst_far hE (by omega), dst_far hE (by omega)]) hj
  have := cn_more (p := rcd (dst nf nw e1 e2 G n)) (q := rcd (dst nf nw e1 e2 G (n + 1))) rcd_mono (j := j) (by unfold rcd; simp [h1]) (by unfold rcd; rw [decide_eq_true_eq, ← h1]; exact hj) nf hl
  omega
/-- a wire more within a round -/
theorem dsk_s {n k f : Nat} (hn : n < 98) : dsk nf nw e1 e2 G n (k + 1) f = if dsk nf nw e1 e2 G n k f = 99 ∧ br e1 e2 G (dst nf nw e1 e2 G n) n f k = true then n + 1 else dsk nf nw e1 e2 G n k f := by
  unfold dsk
  have ea : an (br e1 e2 G (dst nf nw e1 e2 G n) n f) (k + 1) = (an (br e1 e2 G (dst nf nw e1 e2 G n) n f) k || br e1 e2 G (dst nf nw e1 e2 G n) n f k) := rfl
  rw [ea]
  generalize dst nf nw e1 e2 G n f = A
  generalize an (br e1 e2 G (dst nf nw e1 e2 G n) n f) k = X
  generalize br e1 e2 G (dst nf nw e1 e2 G n) n f k = B
  by_cases h1 : A = 99
  · cases X <;> cases B <;> simp [h1] <;> omega
  · simp [h1]
theorem dsk_lvl {n k f : Nat} (hn : n < 98) : dsk nf nw e1 e2 G n k f = n ↔ dst nf nw e1 e2 G n f = n := by
  unfold dsk
  split
  · rename_i h
    have := dst_le (nf := nf) (nw := nw) (e1 := e1) (e2 := e2) (G := G) n f
    constructor
    · intro q; omega
    · intro q; exfalso; have := h.1; omega
  · exact Iff.rfl
/-- its way: the first wire to one that is nearer -/
theorem nx_ok {n f : Nat} (hn : n < 6) (h : dD nf nw e1 e2 G f = n + 1) : nx nf nw e1 e2 G f < nw ∧ tch e1 e2 G (nx nf nw e1 e2 G f) f = true ∧ dD nf nw e1 e2 G (ot e1 e2 (nx nf nw e1 e2 G f) f) = n := by
  have h1 := (dD_lvl (f := f) (by omega : n + 1 ≤ 6)).mp h
  rw [dst_s] at h1
  have ex : an (nxp nf nw e1 e2 G f) nw = true := by
    split at h1
    · rename_i q
      obtain ⟨w, hw, hb⟩ := (an_iff nw).mp q.2
      refine (an_iff nw).mpr ⟨w, hw, ?_⟩
      unfold br at hb
      unfold nxp
      rw [Bool.and_eq_true, decide_eq_true_eq] at hb ⊢
      exact ⟨hb.1, by rw [h, (dD_lvl (by omega : n ≤ 6)).mpr hb.2]⟩
    · have := dst_le (nf := nf) (nw := nw) (e1 := e1) (e2 := e2) (G := G) n f
      omega
  obtain ⟨a, b, c⟩ := fw_ok nw ex
  unfold nxp at b
  rw [Bool.and_eq_true, decide_eq_true_eq] at b
  exact ⟨a, b.1, by unfold nx nxp; have := b.2; unfold nxp at *; omega⟩
theorem via_s {n f : Nat} (hn : n < 6) (h : dD nf nw e1 e2 G f = n + 1) : via nf nw e1 e2 G f = b1 (nx nf nw e1 e2 G f) ||| via nf nw e1 e2 G (ot e1 e2 (nx nf nw e1 e2 G f) f) := by
  have h2 := (nx_ok hn h).2.2
  unfold via
  rw [if_neg (by omega), if_neg (by omega), h, h2]
  rfl
theorem via_0 {f : Nat} (h : dD nf nw e1 e2 G f = 0) : via nf nw e1 e2 G f = 0 := by
  unfold via
  rw [if_neg (by omega), h]
  rfl
theorem via_99 {f : Nat} (h : dD nf nw e1 e2 G f = 99) : via nf nw e1 e2 G f = 0 := by
  unfold via
  rw [if_pos h]
theorem dD_le {f : Nat} : dD nf nw e1 e2 G f ≤ 6 ∨ dD nf nw e1 e2 G f = 99 := dst_le 6 f
/-- a way goes by whole wires alone -/
theorem via_whole (hw : nw ≤ 32) : ∀ (n f w : Nat), dD nf nw e1 e2 G f = n → bt (via nf nw e1 e2 G f) w = true → w < nw ∧ G w = false
  | 0, f, w, h, hb' => by rw [via_0 h, bt_0] at hb'; cases hb'
  | n + 1, f, w, h, hb' => by
    rcases dD_le (nf := nf) (nw := nw) (e1 := e1) (e2 := e2) (G := G) (f := f) with q | q
    · have hn : n < 6 := by omega
      obtain ⟨a, b, c⟩ := nx_ok hn h
      rw [via_s hn h, bt_or, bt_1 (by omega)] at hb'
      by_cases e : w = nx nf nw e1 e2 G f
      · subst e
        unfold tch at b
        rw [Bool.and_eq_true] at b
        exact ⟨a, by simpa using b.1⟩
      · rw [decide_eq_false e, Bool.false_or] at hb'
        exact via_whole hw n _ w c hb'
    · rw [via_99 q, bt_0] at hb'; cases hb'
theorem cn_pos {p : Nat → Bool} {j : Nat} (h : p j = true) : ∀ (n : Nat), j < n → 1 ≤ cn p n
  | 0, hj => by omega
  | n + 1, hj => by
    show 1 ≤ cn p n + cond (p n) 1 0
    by_cases e : j = n
    · subst e; rw [h]; simp
    · have := cn_pos h n (by omega); omega
/-- a flat that is reached anew: how far it is, and by which wire -/
theorem dsk_new {n k f : Nat} (hn : n < 6) (hk : k < nw) (h99 : dsk nf nw e1 e2 G n k f = 99) (hb : br e1 e2 G (dst nf nw e1 e2 G n) n f k = true) : dD nf nw e1 e2 G f = n + 1 ∧ nx nf nw e1 e2 G f = k := by
  have h9 : dst nf nw e1 e2 G n f = 99 ∧ an (br e1 e2 G (dst nf nw e1 e2 G n) n f) k = false := by
    unfold dsk at h99
    split at h99
    · omega
    · rename_i q
      refine ⟨h99, ?_⟩
      cases e : an (br e1 e2 G (dst nf nw e1 e2 G n) n f) k with
      | false => rfl
      | true => exact absurd ⟨h99, e⟩ q
  have h1 : dst nf nw e1 e2 G (n + 1) f = n + 1 := by
    rw [dst_s, if_pos ⟨h9.1, (an_iff nw).mpr ⟨k, hk, hb⟩⟩]
  have hD := (dD_lvl (f := f) (by omega : n + 1 ≤ 6)).mpr h1
  refine ⟨hD, fw_eq ?_ (fun j hj => ?_) nw hk⟩
  · unfold br at hb
    unfold nxp
    rw [Bool.and_eq_true, decide_eq_true_eq] at hb ⊢
    exact ⟨hb.1, by rw [hD, (dD_lvl (by omega : n ≤ 6)).mpr hb.2]⟩
  · have := an_no.mp h9.2 j hj
    cases e : nxp nf nw e1 e2 G f j with
    | false => rfl
    | true =>
      exfalso
      unfold nxp at e
      rw [Bool.and_eq_true, decide_eq_true_eq, hD] at e
      have z : br e1 e2 G (dst nf nw e1 e2 G n) n f j = true := by
        unfold br
        rw [Bool.and_eq_true, decide_eq_true_eq]
        exact ⟨e.1, (dD_lvl (by omega : n ≤ 6)).mp (by omega)⟩
      rw [z] at this
      cases this
/-- a wire brings one, or none -/
theorem br_ends {d : Nat → Nat} {n k f : Nat} (b : br e1 e2 G d n f k = true) : G k = false ∧ ((f = e1 k ∧ d (e2 k) = n) ∨ (f = e2 k ∧ d (e1 k) = n)) := by
  unfold br tch ot at b
  rw [Bool.and_eq_true, decide_eq_true_eq, Bool.and_eq_true, Bool.or_eq_true, decide_eq_true_eq, decide_eq_true_eq] at b
  obtain ⟨⟨b0, b1'⟩, b2'⟩ := b
  refine ⟨by simpa using b0, ?_⟩
  by_cases e : e1 k = f
  · rw [if_pos e] at b2'; exact Or.inl ⟨e.symm, b2'⟩
  · rw [if_neg e] at b2'; exact Or.inr ⟨by omega, b2'⟩
theorem dsk_set {n k f0 g0 : Nat} (hn : n < 98) (hG : G k = false) (hE : (e1 k = f0 ∧ e2 k = g0) ∨ (e2 k = f0 ∧ e1 k = g0)) (hne : f0 ≠ g0) (hf : dsk nf nw e1 e2 G n k f0 = 99) (hg : dst nf nw e1 e2 G n g0 = n) (f : Nat) : dsk nf nw e1 e2 G n (k + 1) f = if f = f0 then n + 1 else dsk nf nw e1 e2 G n k f := by
  have hot : ot e1 e2 k f0 = g0 := by unfold ot; split <;> omega
  have hbr : br e1 e2 G (dst nf nw e1 e2 G n) n f0 k = true := by
    unfold br tch
    rw [hG, hot, hg]
    rcases hE with q | q <;> simp [q.1]
  rw [dsk_s hn]
  by_cases e : f = f0
  · subst e
    rw [if_pos ⟨hf, hbr⟩, if_pos rfl]
  · rw [if_neg e, if_neg]
    rintro ⟨a, b⟩
    have hfg : f = g0 := by have := (br_ends b).2; omega
    rw [hfg] at a
    have := (dsk_lvl (k := k) (f := g0) (nf := nf) (nw := nw) (e1 := e1) (e2 := e2) (G := G) hn).mpr hg
    omega
theorem dsk_gone {n k : Nat} (hn : n < 98) (hG : G k = true) (f : Nat) : dsk nf nw e1 e2 G n (k + 1) f = dsk nf nw e1 e2 G n k f := by
  rw [dsk_s hn, if_neg]
  rintro ⟨_, b⟩
  have := (br_ends b).1
  rw [hG] at this
  cases this
theorem dsk_same {n k : Nat} (hn : n < 98) (h1 : ¬ (dsk nf nw e1 e2 G n k (e1 k) = 99 ∧ dsk nf nw e1 e2 G n k (e2 k) = n)) (h2 : ¬ (dsk nf nw e1 e2 G n k (e2 k) = 99 ∧ dsk nf nw e1 e2 G n k (e1 k) = n)) (f : Nat) : dsk nf nw e1 e2 G n (k + 1) f = dsk nf nw e1 e2 G n k f := by
  rw [dsk_s hn, if_neg]
  rintro ⟨a, b⟩
  rcases (br_ends b).2 with ⟨c, d⟩ | ⟨c, d⟩
  · subst c; exact h1 ⟨a, (dsk_lvl hn).mpr d⟩
  · subst c; exact h2 ⟨a, (dsk_lvl hn).mpr d⟩
end WAL
end
section
/-! rows filled with one value -/
theorem y_fill49 {x1 : Int32} {m : dM} {Q : dM → Prop} (hQ : ∀ m' : dM, (∀ k : Nat, k ≠ 49 → m'.1 k = m.1 k) → m'.2 = m.2 → (∀ j : Nat, j < 10 → m'.1 49 j = x1) → Q m') : c_J7_fill_49 1 x1 m Q := by
  have e : (10 : Int32).toInt = 10 := by decide
  have loop : ∀ (f i : Nat) (x3 : Int32) (M : dM), i + f = 10 → x3.toInt = i → (∀ k : Nat, k ≠ 49 → M.1 k = m.1 k) → M.2 = m.2 → (∀ j : Nat, j < i → M.1 49 j = x1) → j_J7_fill_49_5 1 x1 x3 (10 : Int32) M Q := by
    intro f
    induction f with
    | zero => intro i x3 M hi h3 hF h2 hv; exact v_J7_fill_49_5 ⟨fun _ => hQ M hF h2 (fun j hj => hv j (by omega)), fun q => by exfalso; omega⟩
    | succ f ih =>
      intro i x3 M hi h3 hF h2 hv
      refine v_J7_fill_49_5 ⟨fun q => by exfalso; omega, fun _ => ⟨by omega, ?_⟩⟩
      rw [d_cn h3]
      refine ih (i + 1) _ _ (by omega) (d_inc h3 (by omega)) (fun k hk => by rw [dSet_k hk]; exact hF k hk) h2 (fun j hj => ?_)
      by_cases q : j = i
      · subst q; rw [dSet_s]
      · rw [dSet_j q]; exact hv j (by omega)
  exact v_J7_fill_49 (loop 10 0 _ m (by omega) (by decide) (fun _ _ => rfl) rfl (fun j hj => absurd hj (Nat.not_lt_zero j)))
theorem y_fill50 {x1 : Int32} {m : dM} {Q : dM → Prop} (hQ : ∀ m' : dM, (∀ k : Nat, k ≠ 50 → m'.1 k = m.1 k) → m'.2 = m.2 → (∀ j : Nat, j < 7 → m'.1 50 j = x1) → Q m') : c_J7_fill_50 1 x1 m Q := by
  have e : (7 : Int32).toInt = 7 := by decide
  have loop : ∀ (f i : Nat) (x3 : Int32) (M : dM), i + f = 7 → x3.toInt = i → (∀ k : Nat, k ≠ 50 → M.1 k = m.1 k) → M.2 = m.2 → (∀ j : Nat, j < i → M.1 50 j = x1) → j_J7_fill_50_5 1 x1 x3 (7 : Int32) M Q := by
    intro f
    induction f with
    | zero => intro i x3 M hi h3 hF h2 hv; exact v_J7_fill_50_5 ⟨fun _ => hQ M hF h2 (fun j hj => hv j (by omega)), fun q => by exfalso; omega⟩
    | succ f ih =>
      intro i x3 M hi h3 hF h2 hv
      refine v_J7_fill_50_5 ⟨fun q => by exfalso; omega, fun _ => ⟨by omega, ?_⟩⟩
      rw [d_cn h3]
      refine ih (i + 1) _ _ (by omega) (d_inc h3 (by omega)) (fun k hk => by rw [dSet_k hk]; exact hF k hk) h2 (fun j hj => ?_)
      by_cases q : j = i
      · subst q; rw [dSet_s]
      · rw [dSet_j q]; exact hv j (by omega)
  exact v_J7_fill_50 (loop 7 0 _ m (by omega) (by decide) (fun _ _ => rfl) rfl (fun j hj => absurd hj (Nat.not_lt_zero j)))
theorem y_fill55 {x1 : Int32} {m : dM} {Q : dM → Prop} (hQ : ∀ m' : dM, (∀ k : Nat, k ≠ 55 → m'.1 k = m.1 k) → m'.2 = m.2 → (∀ j : Nat, j < 9 → m'.1 55 j = x1) → Q m') : c_J7_fill_55 1 x1 m Q := by
  have e : (9 : Int32).toInt = 9 := by decide
  have loop : ∀ (f i : Nat) (x3 : Int32) (M : dM), i + f = 9 → x3.toInt = i → (∀ k : Nat, k ≠ 55 → M.1 k = m.1 k) → M.2 = m.2 → (∀ j : Nat, j < i → M.1 55 j = x1) → j_J7_fill_55_5 1 x1 x3 (9 : Int32) M Q := by
    intro f
    induction f with
    | zero => intro i x3 M hi h3 hF h2 hv; exact v_J7_fill_55_5 ⟨fun _ => hQ M hF h2 (fun j hj => hv j (by omega)), fun q => by exfalso; omega⟩
    | succ f ih =>
      intro i x3 M hi h3 hF h2 hv
      refine v_J7_fill_55_5 ⟨fun q => by exfalso; omega, fun _ => ⟨by omega, ?_⟩⟩
      rw [d_cn h3]
      refine ih (i + 1) _ _ (by omega) (d_inc h3 (by omega)) (fun k hk => by rw [dSet_k hk]; exact hF k hk) h2 (fun j hj => ?_)
      by_cases q : j = i
      · subst q; rw [dSet_s]
      · rw [dSet_j q]; exact hv j (by omega)
  exact v_J7_fill_55 (loop 9 0 _ m (by omega) (by decide) (fun _ _ => rfl) rfl (fun j hj => absurd hj (Nat.not_lt_zero j)))
theorem y_fill56 {x1 : Int32} {m : dM} {Q : dM → Prop} (hQ : ∀ m' : dM, (∀ k : Nat, k ≠ 56 → m'.1 k = m.1 k) → m'.2 = m.2 → (∀ j : Nat, j < 10 → m'.1 56 j = x1) → Q m') : c_J7_fill_56 1 x1 m Q := by
  have e : (10 : Int32).toInt = 10 := by decide
  have loop : ∀ (f i : Nat) (x3 : Int32) (M : dM), i + f = 10 → x3.toInt = i → (∀ k : Nat, k ≠ 56 → M.1 k = m.1 k) → M.2 = m.2 → (∀ j : Nat, j < i → M.1 56 j = x1) → j_J7_fill_56_5 1 x1 x3 (10 : Int32) M Q := by
    intro f
    induction f with
    | zero => intro i x3 M hi h3 hF h2 hv; exact v_J7_fill_56_5 ⟨fun _ => hQ M hF h2 (fun j hj => hv j (by omega)), fun q => by exfalso; omega⟩
    | succ f ih =>
      intro i x3 M hi h3 hF h2 hv
      refine v_J7_fill_56_5 ⟨fun q => by exfalso; omega, fun _ => ⟨by omega, ?_⟩⟩
      rw [d_cn h3]
      refine ih (i + 1) _ _ (by omega) (d_inc h3 (by omega)) (fun k hk => by rw [dSet_k hk]; exact hF k hk) h2 (fun j hj => ?_)
      by_cases q : j = i
      · subst q; rw [dSet_s]
      · rw [dSet_j q]; exact hv j (by omega)
  exact v_J7_fill_56 (loop 10 0 _ m (by omega) (by decide) (fun _ _ => rfl) rfl (fun j hj => absurd hj (Nat.not_lt_zero j)))
theorem y_fill59 {x1 : Int32} {m : dM} {Q : dM → Prop} (hQ : ∀ m' : dM, (∀ k : Nat, k ≠ 59 → m'.1 k = m.1 k) → m'.2 = m.2 → (∀ j : Nat, j < 7 → m'.1 59 j = x1) → Q m') : c_J7_fill_59 1 x1 m Q := by
  have e : (7 : Int32).toInt = 7 := by decide
  have loop : ∀ (f i : Nat) (x3 : Int32) (M : dM), i + f = 7 → x3.toInt = i → (∀ k : Nat, k ≠ 59 → M.1 k = m.1 k) → M.2 = m.2 → (∀ j : Nat, j < i → M.1 59 j = x1) → j_J7_fill_59_5 1 x1 x3 (7 : Int32) M Q := by
    intro f
    induction f with
    | zero => intro i x3 M hi h3 hF h2 hv; exact v_J7_fill_59_5 ⟨fun _ => hQ M hF h2 (fun j hj => hv j (by omega)), fun q => by exfalso; omega⟩
    | succ f ih =>
      intro i x3 M hi h3 hF h2 hv
      refine v_J7_fill_59_5 ⟨fun q => by exfalso; omega, fun _ => ⟨by omega, ?_⟩⟩
      rw [d_cn h3]
      refine ih (i + 1) _ _ (by omega) (d_inc h3 (by omega)) (fun k hk => by rw [dSet_k hk]; exact hF k hk) h2 (fun j hj => ?_)
      by_cases q : j = i
      · subst q; rw [dSet_s]
      · rw [dSet_j q]; exact hv j (by omega)
  exact v_J7_fill_59 (loop 7 0 _ m (by omega) (by decide) (fun _ _ => rfl) rfl (fun j hj => absurd hj (Nat.not_lt_zero j)))
theorem y_fill60 {x1 : Int32} {m : dM} {Q : dM → Prop} (hQ : ∀ m' : dM, (∀ k : Nat, k ≠ 60 → m'.1 k = m.1 k) → m'.2 = m.2 → (∀ j : Nat, j < 7 → m'.1 60 j = x1) → Q m') : c_J7_fill_60 1 x1 m Q := by
  have e : (7 : Int32).toInt = 7 := by decide
  have loop : ∀ (f i : Nat) (x3 : Int32) (M : dM), i + f = 7 → x3.toInt = i → (∀ k : Nat, k ≠ 60 → M.1 k = m.1 k) → M.2 = m.2 → (∀ j : Nat, j < i → M.1 60 j = x1) → j_J7_fill_60_5 1 x1 x3 (7 : Int32) M Q := by
    intro f
    induction f with
    | zero => intro i x3 M hi h3 hF h2 hv; exact v_J7_fill_60_5 ⟨fun _ => hQ M hF h2 (fun j hj => hv j (by omega)), fun q => by exfalso; omega⟩
    | succ f ih =>
      intro i x3 M hi h3 hF h2 hv
      refine v_J7_fill_60_5 ⟨fun q => by exfalso; omega, fun _ => ⟨by omega, ?_⟩⟩
      rw [d_cn h3]
      refine ih (i + 1) _ _ (by omega) (d_inc h3 (by omega)) (fun k hk => by rw [dSet_k hk]; exact hF k hk) h2 (fun j hj => ?_)
      by_cases q : j = i
      · subst q; rw [dSet_s]
      · rw [dSet_j q]; exact hv j (by omega)
  exact v_J7_fill_60 (loop 7 0 _ m (by omega) (by decide) (fun _ _ => rfl) rfl (fun j hj => absurd hj (Nat.not_lt_zero j)))
end
section
/-! THE CLASS's ways, exactly -/
theorem y_has {x0 x1 : Int32} {k : Nat} {m : dM} {Q : Int32 → dM → Prop} (h1 : x1.toInt = (k : Int)) (hk : k < 32) (hT : bt x0 k = true → Q 1 m) (hF : bt x0 k = false → Q 0 m) : c_X11_has 1 x0 x1 m Q := by
  have e := bt_u (x := x0) h1 hk
  cases q : bt x0 k with
  | true =>
    rw [q, if_pos rfl] at e
    exact v_X11_has ⟨fun z => by exfalso; omega, fun _ => hT q⟩
  | false =>
    rw [q, if_neg (by decide)] at e
    exact v_X11_has ⟨fun _ => hF q, fun z => by exfalso; omega⟩
/-- how far, as the one writes it -/
def ewy (x : Nat) : Int := if x = 99 then -1 else x
theorem ewy_99 {x : Nat} : ewy x = -1 ↔ x = 99 := by unfold ewy; split <;> omega
theorem ewy_n {x n : Nat} (hn : n < 99) : ewy x = n ↔ x = n := by unfold ewy; split <;> omega
/-- the house, as far as ways know of it -/
def HW (nf nw : Nat) (e1 e2 : Nat → Nat) (m : dM) : Prop := ((m.1 2 0).toInt = (nf : Int) ∧ nf ≤ 7) ∧ ((m.1 2 1).toInt = (nw : Int) ∧ nw ≤ 10) ∧ ∀ w : Nat, w < nw → ((m.1 4 w).toInt = (e1 w : Int) ∧ (m.1 5 w).toInt = (e2 w : Int)) ∧ e1 w < nf ∧ e2 w < nf ∧ e1 w ≠ e2 w
/-- ways laid as far as d tells -/
def WyR (nf nw : Nat) (e1 e2 : Nat → Nat) (G : Nat → Bool) (d : Nat → Nat) (m : dM) : Prop :=
  (∀ f : Nat, f < nf → (m.1 59 f).toInt = ewy (d f)) ∧
  (∀ f : Nat, f < nf → m.1 60 f = if d f = 99 then 0 else via nf nw e1 e2 G f) ∧
  (∀ f : Nat, f < nf → d f ≠ 99 → d f ≠ 0 → (m.1 58 f).toInt = (nx nf nw e1 e2 G f : Int)) ∧
  (∀ i : Nat, i < 32 → bt (m.1 57 5) i = (decide (i < nf) && decide (d i ≠ 99)))
def LyF (m0 m : dM) : Prop := (∀ k : Nat, (k < 57 ∨ 60 < k) → m.1 k = m0.1 k) ∧ (∀ j : Nat, j ≠ 1 → j ≠ 5 → m.1 57 j = m0.1 57 j) ∧ m.2 = m0.2
theorem LyF.rf (m : dM) : LyF m m := ⟨fun _ _ => rfl, fun _ _ _ => rfl, rfl⟩
theorem LyF.tr {a b c : dM} (h : LyF a b) (h' : LyF b c) : LyF a c := ⟨fun k q => (h'.1 k q).trans (h.1 k q), fun j q1 q2 => (h'.2.1 j q1 q2).trans (h.2.1 j q1 q2), h'.2.2.trans h.2.2⟩
theorem LyF.set {a b : dM} {k j : Nat} {v : Int32} (h : LyF a b) (hk : 58 ≤ k ∧ k ≤ 60) : LyF a (dSet b k j v) := ⟨fun c q => by rw [dSet_k (by omega)]; exact h.1 c q, fun i q1 q2 => by rw [dSet_k (by omega)]; exact h.2.1 i q1 q2, h.2.2⟩
theorem LyF.set57 {a b : dM} {j : Nat} {v : Int32} (h : LyF a b) (hj : j = 1 ∨ j = 5) : LyF a (dSet b 57 j v) := ⟨fun c q => by rw [dSet_k (by omega)]; exact h.1 c q, fun i q1 q2 => by rw [dSet_j (by omega)]; exact h.2.1 i q1 q2, h.2.2⟩
section CLY
variable {nf nw : Nat} {e1 e2 : Nat → Nat} {G : Nat → Bool}
theorem HW.lf {m m' : dM} (h : HW nf nw e1 e2 m) (hF : LyF m m') : HW nf nw e1 e2 m' := by
  unfold HW
  rw [hF.1 2 (by omega), hF.1 4 (by omega), hF.1 5 (by omega)]
  exact h
theorem HW.ends {m : dM} (h : HW nf nw e1 e2 m) : ∀ w : Nat, w < nw → e1 w < nf ∧ e2 w < nf := fun w hw => ⟨(h.2.2 w hw).2.1, (h.2.2 w hw).2.2.1⟩
theorem WyR.congr {d d' : Nat → Nat} {m : dM} (h : WyR nf nw e1 e2 G d m) (e : ∀ f : Nat, d' f = d f) : WyR nf nw e1 e2 G d' m := by
  have : d' = d := funext e
  rw [this]
  exact h
/-- f0 is reached by wire k, from g0 -/
theorem WyR.new {n k f0 g0 : Nat} {x1 x2 : Int32} {m : dM} (hH : HW nf nw e1 e2 m) (h : WyR nf nw e1 e2 G (dsk nf nw e1 e2 G n k) m) (hn : n < 6) (hk : k < nw) (hx1 : x1.toInt = (k : Int)) (hx2 : x2.toInt = ((n + 1 : Nat) : Int)) (hG : G k = false) (hE : (e1 k = f0 ∧ e2 k = g0) ∨ (e2 k = f0 ∧ e1 k = g0)) (hf : dsk nf nw e1 e2 G n k f0 = 99) (hg : dst nf nw e1 e2 G n g0 = n) (v : Int32) (hv : v.toInt = (f0 : Int)) :
    WyR nf nw e1 e2 G (dsk nf nw e1 e2 G n (k + 1)) (dSet (dSet (dSet (dSet m 59 f0 x2) 58 f0 x1) 60 f0 ((m.1 60 g0) ||| ((1 : Int32) <<< (x1 &&& 31)))) 57 5 ((m.1 57 5) ||| ((1 : Int32) <<< (v &&& 31)))) := by
  obtain ⟨hnf, hnw, hwe⟩ := hH
  obtain ⟨_, q1, q2, q3⟩ := hwe k hk
  have hf0 : f0 < nf := by omega
  have hg0 : g0 < nf := by omega
  have hot : ot e1 e2 k f0 = g0 := by unfold ot; split <;> omega
  have hbr : br e1 e2 G (dst nf nw e1 e2 G n) n f0 k = true := by
    unfold br tch
    rw [hG, hot, hg]
    rcases hE with q | q <;> simp [q.1]
  obtain ⟨nD, nX⟩ := dsk_new hn hk hf hbr
  have hd0 : dsk nf nw e1 e2 G n (k + 1) f0 = n + 1 := by rw [dsk_s (by omega), if_pos ⟨hf, hbr⟩]
  have hd : ∀ f : Nat, f ≠ f0 → dsk nf nw e1 e2 G n (k + 1) f = dsk nf nw e1 e2 G n k f := fun f hne => by
    rw [dsk_s (by omega), if_neg]
    rintro ⟨a, b⟩
    unfold br tch at b
    rw [Bool.and_eq_true, decide_eq_true_eq, Bool.and_eq_true, Bool.or_eq_true, decide_eq_true_eq, decide_eq_true_eq] at b
    have hfg : f = g0 := by omega
    rw [hfg] at a
    have := (dsk_lvl (k := k) (f := g0) (nf := nf) (nw := nw) (e1 := e1) (e2 := e2) (G := G) (by omega : n < 98)).mpr hg
    omega
  have hgk := (dsk_lvl (k := k) (f := g0) (nf := nf) (nw := nw) (e1 := e1) (e2 := e2) (G := G) (by omega : n < 98)).mpr hg
  have hv60 : m.1 60 g0 = via nf nw e1 e2 G g0 := by rw [h.2.1 g0 hg0, if_neg (by omega)]
  have hvia : via nf nw e1 e2 G f0 = via nf nw e1 e2 G g0 ||| b1 k := by rw [via_s hn nD, nX, hot, Int32.or_comm]
  rw [b1_of hx1, b1_of hv, hv60]
  refine ⟨fun f hf' => ?_, fun f hf' => ?_, fun f hf' a b => ?_, fun i hi => ?_⟩
  · rw [dSet_k (by decide), dSet_k (by decide), dSet_k (by decide)]
    by_cases e : f = f0
    · subst e; rw [dSet_s, hx2, hd0, (ewy_n (by omega)).mpr rfl]
    · rw [dSet_j e, hd f e]; exact h.1 f hf'
  · rw [dSet_k (by decide)]
    by_cases e : f = f0
    · subst e; rw [dSet_s, hd0, if_neg (by omega), hvia]
    · rw [dSet_j e, dSet_k (by decide), dSet_k (by decide), hd f e]; exact h.2.1 f hf'
  · rw [dSet_k (by decide), dSet_k (by decide)]
    by_cases e : f = f0
    · subst e; rw [dSet_s, hx1, nX]
    · rw [dSet_j e, dSet_k (by decide)]
      rw [hd f e] at a b
      exact h.2.2.1 f hf' a b
  · rw [dSet_s, bt_or, h.2.2.2 i hi, bt_1 (by omega)]
    by_cases e : i = f0
    · subst e
      rw [hd0]
      have n99 : n + 1 ≠ 99 := by omega
      simp [hf0, n99]
    · rw [hd i e]
      simp [e]
theorem y_reachBy {n k : Nat} {x1 x2 : Int32} {m : dM} {Q : dM → Prop} (hH : HW nf nw e1 e2 m) (h : WyR nf nw e1 e2 G (dsk nf nw e1 e2 G n k) m) (hn : n < 6) (hk : k < nw) (hx1 : x1.toInt = (k : Int)) (hx2 : x2.toInt = ((n + 1 : Nat) : Int)) (hG : G k = false) (hQ : ∀ m' : dM, LyF m m' → (m'.1 57 1 = m.1 57 1) → WyR nf nw e1 e2 G (dsk nf nw e1 e2 G n (k + 1)) m' → Q m') : c_X10_reachBy_57 1 x1 x2 m Q := by
  have hnf := hH.1
  have hnw := hH.2.1
  obtain ⟨⟨w1, w2⟩, q1, q2, q3⟩ := hH.2.2 k hk
  have ec := d_cn hx1
  have f := dSubE (X := x2.toInt) (Y := 1) (x := x2) (y := (1 : Int32)) rfl (by decide) (by omega) (by omega)
  have a1 := h.1 (e1 k) q1
  have a2 := h.1 (e2 k) q2
  have l1 := dsk_lvl (k := k) (f := e1 k) (nf := nf) (nw := nw) (e1 := e1) (e2 := e2) (G := G) (by omega : n < 98)
  have l2 := dsk_lvl (k := k) (f := e2 k) (nf := nf) (nw := nw) (e1 := e1) (e2 := e2) (G := G) (by omega : n < 98)
  have n1 := ewy_n (x := dsk nf nw e1 e2 G n k (e1 k)) (n := n) (by omega)
  have n2 := ewy_n (x := dsk nf nw e1 e2 G n k (e2 k)) (n := n) (by omega)
  have z1 := ewy_99 (x := dsk nf nw e1 e2 G n k (e1 k))
  have z2 := ewy_99 (x := dsk nf nw e1 e2 G n k (e2 k))
  have same : (∀ f0 : Nat, ¬ (dsk nf nw e1 e2 G n k f0 = 99 ∧ br e1 e2 G (dst nf nw e1 e2 G n) n f0 k = true)) → j_X10_reachBy_57_151 1 m Q := fun no => v_X10_reachBy_57_151 (hQ m (LyF.rf m) rfl (h.congr (fun f0 => by rw [dsk_s (by omega), if_neg (no f0)])))
  have brE : ∀ f0 : Nat, br e1 e2 G (dst nf nw e1 e2 G n) n f0 k = true → (f0 = e1 k ∧ dst nf nw e1 e2 G n (e2 k) = n) ∨ (f0 = e2 k ∧ dst nf nw e1 e2 G n (e1 k) = n) := fun f0 b => by
    unfold br tch ot at b
    rw [Bool.and_eq_true, decide_eq_true_eq, Bool.and_eq_true, Bool.or_eq_true, decide_eq_true_eq, decide_eq_true_eq] at b
    obtain ⟨⟨_, b1'⟩, b2'⟩ := b
    by_cases e : e1 k = f0
    · rw [if_pos e] at b2'; exact Or.inl ⟨e.symm, b2'⟩
    · rw [if_neg e] at b2'; exact Or.inr ⟨by omega, b2'⟩
  have c1 := d_cn w1
  have c2 := d_cn w2
  refine v_X10_reachBy_57 ?_
  rw [ec, c1, c2]
  rw [a1, a2] at *
  refine ⟨by omega, by omega, fun ne => ⟨by omega, by omega, by omega, fun n9 => same ?_, fun e9 => ⟨by omega, fun ne2 => same ?_, fun ee2 => ⟨by omega, by omega, by omega, by omega, v_X10_reachBy_57_151 (hQ _ ?_ ?_ ?_)⟩⟩⟩, fun ee => ⟨by omega, by omega, by omega, fun n9 => same ?_, fun e9 => ⟨by omega, fun ne2 => by exfalso; omega, fun ee2 => ⟨by omega, by omega, by omega, by omega, v_X10_reachBy_57_151 (hQ _ ?_ ?_ ?_)⟩⟩⟩⟩
  · rintro f0 ⟨b, c⟩
    rcases brE f0 c with ⟨d, e⟩ | ⟨d, e⟩
    · subst d; exact n9 (z1.mpr b)
    · have := l1.mpr e
      have := n1.mpr this
      omega
  · rintro f0 ⟨b, c⟩
    rcases brE f0 c with ⟨d, e⟩ | ⟨d, e⟩
    · have := n2.mpr (l2.mpr e)
      omega
    · have := n1.mpr (l1.mpr e)
      omega
  · exact (((LyF.rf m).set (by decide)).set (by decide)).set (by decide) |>.set57 (Or.inr rfl)
  · rfl
  · exact h.new hH hn hk hx1 hx2 hG (Or.inl ⟨rfl, rfl⟩) (z1.mp e9) (l2.mp (n2.mp (by omega))) _ w1
  · rintro f0 ⟨b, c⟩
    rcases brE f0 c with ⟨d, e⟩ | ⟨d, e⟩
    · subst d
      have := n1.mp (by omega)
      omega
    · subst d; exact n9 (z2.mpr b)
  · exact (((LyF.rf m).set (by decide)).set (by decide)).set (by decide) |>.set57 (Or.inr rfl)
  · rfl
  · exact h.new hH hn hk hx1 hx2 hG (Or.inr ⟨rfl, rfl⟩) (z2.mp e9) (l1.mp (n1.mp (by omega))) _ w2
/-- what is laid is right for what it was laid for -/
def WI (nf nw : Nat) (e1 e2 : Nat → Nat) (m : dM) : Prop := (m.1 57 1).toInt ≠ -1 → WyR nf nw e1 e2 (bt (m.1 57 1)) (dD nf nw e1 e2 (bt (m.1 57 1))) m
theorem y_lay {x1 : Int32} {m : dM} {Q : dM → Prop} (hH : HW nf nw e1 e2 m) (hI : WI nf nw e1 e2 m) (hx : x1.toInt ≠ -1) (hQ : ∀ m' : dM, LyF m m' → m'.1 57 1 = x1 → WyR nf nw e1 e2 (bt x1) (dD nf nw e1 e2 (bt x1)) m' → Q m') : c_X10_lay_57 2 x1 m Q := by
  have hnf := hH.1
  have hnw := hH.2.1
  have hE := hH.ends
  generalize hG : bt x1 = G at hQ
  have fin : ∀ M : dM, LyF m M → M.1 57 1 = x1 → WyR nf nw e1 e2 G (dD nf nw e1 e2 G) M → j_X10_lay_57_128 2 M Q := fun M a b c => v_X10_lay_57_128 (hQ M a b c)
  have l58 : ∀ (r n : Nat) (x2 : Int32) (M : dM), n + r = 7 → x2.toInt = ((n + 1 : Nat) : Int) → LyF m M → M.1 57 1 = x1 → (0 < nf → n + 1 ≤ cn (rcd (dst nf nw e1 e2 G n)) nf) → WyR nf nw e1 e2 G (dst nf nw e1 e2 G n) M → j_X10_lay_57_58 2 x1 x2 M Q := by
    intro r
    induction r with
    | zero =>
      intro n x2 M hr h2 hF h1 hc hW
      have e20 : (M.1 2 0).toInt = (nf : Int) := by rw [hF.1 2 (by omega)]; exact hnf.1
      have := cn_le (p := rcd (dst nf nw e1 e2 G n)) nf
      refine v_X10_lay_57_58 ⟨fun q => ?_, fun q => by exfalso; have := hc (by omega); omega⟩
      by_cases z : nf = 0
      · exact fin M hF h1 ⟨fun f hf => by omega, fun f hf => by omega, fun f hf => by omega, fun i hi => by rw [hW.2.2.2 i hi]; simp [z]⟩
      · exfalso; have := hc (by omega); omega
    | succ r ih =>
      intro n x2 M hr h2 hF h1 hc hW
      have hHM := hH.lf hF
      have e20 : (M.1 2 0).toInt = (nf : Int) := hHM.1.1
      refine v_X10_lay_57_58 ⟨fun q => ?_, fun q => ?_⟩
      · by_cases z : nf = 0
        · exact fin M hF h1 ⟨fun f hf => by omega, fun f hf => by omega, fun f hf => by omega, fun i hi => by rw [hW.2.2.2 i hi]; simp [z]⟩
        · exact fin M hF h1 (hW.congr (fun f => (dst_end hE (by omega) (hc (by omega)) (by omega) f).symm))
      · have hc := hc (by omega)
        have l77 : ∀ (u k : Nat) (x4 : Int32) (M1 : dM), k + u = nw → x4.toInt = (k : Int) → LyF m M1 → M1.1 57 1 = x1 → WyR nf nw e1 e2 G (dsk nf nw e1 e2 G n k) M1 → j_X10_lay_57_77 2 x1 x2 (M.1 57 5) x4 M1 Q := by
          intro u
          induction u with
          | zero =>
            intro k x4 M1 hk h4 hF1 h11 hW1
            have ek : k = nw := by omega
            subst ek
            have e21 : (M1.1 2 1).toInt = (k : Int) := (hH.lf hF1).2.1.1
            have hW1 : WyR nf k e1 e2 G (dst nf k e1 e2 G (n + 1)) M1 := hW1.congr (fun f => dsk_w.symm)
            refine v_X10_lay_57_77 ⟨fun _ => ⟨fun ne => ?_, fun ee => ?_⟩, fun q => by exfalso; omega⟩
            · refine ih (n + 1) _ M1 (by omega) (d_inc h2 (by omega)) hF1 h11 (fun _ => ?_) hW1
              have ex : ∃ j : Nat, dst nf k e1 e2 G (n + 1) j ≠ dst nf k e1 e2 G n j := by
                refine Classical.byContradiction (fun no => ne ?_)
                have eq : M1.1 57 5 = M.1 57 5 := bt_ext (fun i hi => by
                  rw [hW1.2.2.2 i hi, hW.2.2.2 i hi]
                  have : dst nf k e1 e2 G (n + 1) i = dst nf k e1 e2 G n i := Classical.byContradiction (fun z => no ⟨i, z⟩)
                  rw [this])
                rw [eq]
              obtain ⟨j, hj⟩ := ex
              exact dst_grow hE hc hj
            · have all : ∀ f : Nat, dst nf k e1 e2 G (n + 1) f = dst nf k e1 e2 G n f := fun f => by
                by_cases z : f < nf
                · have b1' := hW1.2.2.2 f (by omega)
                  have b2' := hW.2.2.2 f (by omega)
                  have : M1.1 57 5 = M.1 57 5 := Int32.toInt_inj.mp ee
                  rw [this, b2'] at b1'
                  by_cases y : dst nf k e1 e2 G n f = 99
                  · rw [y] at b1' ⊢
                    by_cases y2 : dst nf k e1 e2 G (n + 1) f = 99
                    · exact y2
                    · exfalso; simp [z, y2] at b1'
                  · exact dst_keep y 1
                · rw [dst_far hE (by omega), dst_far hE (by omega)]
              exact fin M1 hF1 h11 (hW1.congr (fun f => (dst_end0 (by omega) all f).symm))
          | succ u ih2 =>
            intro k x4 M1 hk h4 hF1 h11 hW1
            have hH1 := hH.lf hF1
            have e21 : (M1.1 2 1).toInt = (nw : Int) := hH1.2.1.1
            have on : ∀ M2 : dM, LyF m M2 → M2.1 57 1 = x1 → WyR nf nw e1 e2 G (dsk nf nw e1 e2 G n (k + 1)) M2 → j_X10_lay_57_105 2 x1 x2 (M.1 57 5) x4 M2 Q := fun M2 a b c => v_X10_lay_57_105 (ih2 (k + 1) _ M2 (by omega) (d_inc h4 (by omega)) a b c)
            refine v_X10_lay_57_77 ⟨fun q => by exfalso; omega, fun _ => y_has h4 (by omega) (fun hg => ⟨fun _ => on M1 hF1 h11 (hW1.congr (fun f => ?_)), fun q => absurd q (by decide)⟩) (fun hg => ⟨fun q => absurd rfl q, fun _ => ?_⟩)⟩
            · rw [dsk_s (by omega), if_neg]
              rintro ⟨_, b⟩
              unfold br tch at b
              rw [← hG, hg] at b
              simp at b
            · exact y_reachBy hH1 hW1 (by omega) (by omega) h4 h2 (by rw [← hG]; exact hg) (fun M2 a b c => on M2 (hF1.tr a) (b.trans h11) c)
        exact l77 nw 0 _ M (by omega) (by decide) hF h1 (hW.congr (fun f => dsk_0))
  have start : ∀ (v : Int32) (M0 : dM), LyF m M0 → M0.1 57 1 = x1 → (∀ i : Nat, i < 32 → bt (M0.1 57 5) i = (decide (i < nf) && decide (dst nf nw e1 e2 G 0 i ≠ 99))) → c_J7_fill_59 1 (-1 : Int32) M0 (fun m1 => c_J7_fill_60 1 (0 : Int32) m1 (fun m2 => j_X10_lay_57_58 2 x1 (1 : Int32) (dSet m2 59 0 (0 : Int32)) Q)) := by
    intro v M0 hF h1 hl
    refine y_fill59 (fun m1 a1 a2 a3 => y_fill60 (fun m2 b1' b2' b3' => ?_))
    have F1 : LyF m m1 := ⟨fun k hk => by rw [a1 k (by omega)]; exact hF.1 k hk, fun j q1 q2 => by rw [a1 57 (by decide)]; exact hF.2.1 j q1 q2, a2.trans hF.2.2⟩
    have F2 : LyF m m2 := ⟨fun k hk => by rw [b1' k (by omega)]; exact F1.1 k hk, fun j q1 q2 => by rw [b1' 57 (by decide)]; exact F1.2.1 j q1 q2, b2'.trans F1.2.2⟩
    refine l58 7 0 _ _ rfl (by decide) (F2.set (by decide)) ?_ (fun hp => ?_) ⟨fun f hf => ?_, fun f hf => ?_, fun f hf p q => ?_, fun i hi => ?_⟩
    · rw [dSet_k (by decide), b1' 57 (by decide), a1 57 (by decide)]; exact h1
    · exact cn_pos (j := 0) (by unfold rcd dst; simp [hp]) nf hp
    · by_cases e : f = 0
      · subst e
        rw [dSet_s]
        unfold dst
        rw [if_pos ⟨rfl, hf⟩]
        decide
      · rw [dSet_j e, b1' 59 (by decide), a3 f (by omega)]
        unfold dst
        rw [if_neg (fun q => e q.1)]
        decide
    · rw [dSet_k (by decide), b3' f (by omega)]
      by_cases e : f = 0
      · subst e
        have d0 : dst nf nw e1 e2 G 0 0 = 0 := by unfold dst; rw [if_pos ⟨rfl, hf⟩]
        rw [d0, if_neg (by decide), via_0 ((dD_lvl (by omega)).mpr d0)]
      · have d9 : dst nf nw e1 e2 G 0 f = 99 := by unfold dst; rw [if_neg (fun q => e q.1)]
        rw [d9, if_pos rfl]
    · exfalso
      unfold dst at p q
      by_cases e : f = 0 ∧ 0 < nf
      · rw [if_pos e] at q; exact q rfl
      · rw [if_neg e] at p; exact p rfl
    · rw [dSet_k (by decide), b1' 57 (by decide), a1 57 (by decide)]
      exact hl i hi
  refine v_X10_lay_57 ⟨fun ne => ⟨fun q => start 0 _ (((LyF.rf m).set57 (Or.inl rfl)).set57 (Or.inr rfl)) rfl (fun i hi => ?_), fun q => start 1 _ (((LyF.rf m).set57 (Or.inl rfl)).set57 (Or.inr rfl)) rfl (fun i hi => ?_)⟩, fun ee => ?_⟩
  · rw [dSet_s, bt_0]
    have : ¬ i < nf := by omega
    simp [this]
  · rw [dSet_s]
    have e := bt_1 (u := 0) (i := i) (by decide)
    rw [show b1 0 = (1 : Int32) by decide] at e
    rw [e]
    unfold dst
    by_cases z : i = 0
    · subst z
      have : 0 < nf := by omega
      simp [this]
    · rw [if_neg (fun q => z q.1)]
      simp [z]
  · have e : x1 = m.1 57 1 := Int32.toInt_inj.mp ee
    have := hI (by rw [← e]; exact hx)
    rw [← e, hG] at this
    exact hQ m (LyF.rf m) e.symm this
end CLY
end
section
/-! THE REFERENCE's ways, exactly -/
theorem y_in {x0 x1 x2 : Int32} {m : dM} {Q : Int32 → dM → Prop} (hT : x1.toInt ≤ x0.toInt ∧ x0.toInt ≤ x2.toInt → Q 1 m) (hF : ¬ (x1.toInt ≤ x0.toInt ∧ x0.toInt ≤ x2.toInt) → Q 0 m) : c_X12_in 1 x0 x1 x2 m Q :=
  v_X12_in ⟨fun q => v_X12_in_14 (hF (by omega)), fun q => ⟨fun q2 => v_X12_in_14 (hF (by omega)), fun q2 => hT ⟨q, q2⟩⟩⟩
theorem y_idx {a x c : Int32} {C s w : Nat} (hc : c.toInt = (C : Int)) (ha : a.toInt = (s : Int)) (hs : s ≤ 1) (hx : x.toInt = (w : Int)) (hC : C ≤ 10) (hw : w ≤ 1000) : (c * a + x).toInt = ((C * s + w : Nat) : Int) := by
  have hm : (c * a).toInt = (C * s : Nat) := by
    have h0 : C * s ≤ 10 := by
      match s, hs with
      | 0, _ => simp
      | 1, _ => simpa using hC
    rw [Int.natCast_mul]
    exact dMulE hc ha (by rw [← Int.natCast_mul]; omega) (by rw [← Int.natCast_mul]; omega)
  have hm0 : C * s ≤ 10 := by
    match s, hs with
    | 0, _ => simp
    | 1, _ => simpa using hC
  have := dAddE (X := ((C * s : Nat) : Int)) (Y := (w : Int)) hm hx (by omega) (by omega)
  omega
/-- the house, as far as ways know of it -/
def HR (nf nw : Nat) (e1 e2 : Nat → Nat) (s : Nat) (m : dM) : Prop := ((m.1 70 18).toInt = (s : Int) ∧ s ≤ 1) ∧ ((m.1 80 s).toInt = (nf : Int) ∧ nf ≤ 7) ∧ ((m.1 82 s).toInt = (nw : Int) ∧ nw ≤ 10) ∧ ∀ w : Nat, w < nw → ((m.1 83 (10 * s + w)).toInt = (e1 w : Int) ∧ (m.1 84 (10 * s + w)).toInt = (e2 w : Int)) ∧ e1 w < nf ∧ e2 w < nf ∧ e1 w ≠ e2 w
def RG (nw : Nat) (G : Nat → Bool) (m : dM) : Prop := ∀ w : Nat, w < nw → (m.1 108 (10 + w)).toInt = if G w then 1 else 0
section RLY
variable {nf nw s : Nat} {e1 e2 : Nat → Nat} {G : Nat → Bool}
theorem y_isWire {x1 : Int32} {m : dM} {Q : Int32 → dM → Prop} (hH : HR nf nw e1 e2 s m) (hT : 0 ≤ x1.toInt ∧ x1.toInt < nw → Q 1 m) (hF : ¬ (0 ≤ x1.toInt ∧ x1.toInt < nw) → Q 0 m) : c_X12_isWire_70 2 x1 m Q := by
  have a := hH.1
  have b := hH.2.2.1
  have f := dSubE (X := (nw : Int)) (Y := 1) (x := m.1 82 s) (y := (1 : Int32)) b.1 (by decide) (by omega) (by omega)
  refine v_X12_isWire_70 ⟨by omega, ?_⟩
  rw [d_cn a.1]
  have z : (0 : Int32).toInt = 0 := by decide
  exact y_in (fun q => ⟨Or.inr rfl, hT (by omega)⟩) (fun q => ⟨Or.inl rfl, hF (by omega)⟩)
theorem y_isWhole {x1 : Int32} {w : Nat} {m : dM} {Q : Int32 → dM → Prop} (hH : HR nf nw e1 e2 s m) (hG : RG nw G m) (hx : x1.toInt = (w : Int)) (hw : w < nw) (hT : G w = false → Q 1 m) (hF : G w = true → Q 0 m) : c_X12_isWhole_70 3 x1 m Q := by
  have b := hH.2.2.1
  refine v_X12_isWhole_70 (y_isWire hH (fun _ => ⟨fun q => absurd q (by decide), fun _ => ?_⟩) (fun q => by exfalso; omega))
  have e := d_add (k := x1) (K := w) (x := (10 : Int32)) (i := 10) (by decide) hx (by omega)
  have g := hG w hw
  refine ⟨by omega, ?_⟩
  rw [d_cn e, g]
  cases q : G w with
  | true => exact ⟨fun _ => v_X12_isWhole_70_24 (hF q), fun z => absurd z (by decide)⟩
  | false => exact ⟨fun z => absurd rfl z, fun _ => hT q⟩
theorem y_otherEnd {x1 x2 : Int32} {w f : Nat} {m : dM} {Q : Int32 → dM → Prop} (hH : HR nf nw e1 e2 s m) (hx : x1.toInt = (w : Int)) (hw : w < nw) (hf : x2.toInt = (f : Int)) (hT : ∀ r : Int32, (e1 w = f ∨ e2 w = f) → r.toInt = (ot e1 e2 w f : Int) → Q r m) (hF : ¬ (e1 w = f ∨ e2 w = f) → Q (-1) m) : c_X12_otherEnd_70 1 x1 x2 m Q := by
  have a := hH.1
  have b := hH.2.2.1
  obtain ⟨⟨w1, w2⟩, q1, q2, q3⟩ := hH.2.2.2 w hw
  have e := y_idx (C := 10) (c := (10 : Int32)) (by decide) a.1 a.2 hx (by decide) (by omega)
  refine v_X12_otherEnd_70 ?_
  rw [d_cn e, w1, w2]
  refine ⟨by omega, fun n1 => ⟨by omega, fun n2 => hF (by omega), fun n2 => ⟨by omega, hT _ (by omega) ?_⟩⟩, fun n1 => ⟨by omega, hT _ (by omega) ?_⟩⟩
  · unfold ot
    rw [w1, if_neg (by omega)]
  · unfold ot
    rw [w2, if_pos (by omega)]
/-- how far all are, and their ways -/
def RyF (d : Nat → Nat) (m : dM) : Prop := ∀ f : Nat, f < 7 → (m.1 109 f).toInt = (d f : Int)
theorem y_wireFrom {x1 : Int32} {n f : Nat} {m : dM} {Q : Int32 → dM → Prop} (hH : HR nf nw e1 e2 s m) (hG : RG nw G m) (hD : RyF (dD nf nw e1 e2 G) m) (hx : x1.toInt = (f : Int)) (hf : f < 7) (hn : n < 6) (hf1 : dD nf nw e1 e2 G f = n + 1) (hQ : ∀ r : Int32, r.toInt = (nx nf nw e1 e2 G f : Int) → Q r m) : c_X12_wireFrom_70 4 x1 m Q := by
  have a := hH.1
  have b := hH.2.2.1
  have ok := nx_ok hn hf1
  have loop : ∀ (u k : Nat) (x2 : Int32), k + u = nw → x2.toInt = (k : Int) → (∀ j : Nat, j < k → nxp nf nw e1 e2 G f j = false) → j_X12_wireFrom_70_2 4 x1 x2 m Q := by
    intro u
    induction u with
    | zero =>
      intro k x2 hk h2 hno
      exfalso
      have := hno (nx nf nw e1 e2 G f) (by omega)
      have z : nxp nf nw e1 e2 G f (nx nf nw e1 e2 G f) = true := by
        unfold nxp
        rw [Bool.and_eq_true, decide_eq_true_eq]
        exact ⟨ok.2.1, by omega⟩
      rw [this] at z
      cases z
    | succ u ih =>
      intro k x2 hk h2 hno
      have on : nxp nf nw e1 e2 G f k = false → j_X12_wireFrom_70_56 4 x1 x2 m Q := fun q => v_X12_wireFrom_70_56 (ih (k + 1) _ (by omega) (d_inc h2 (by omega)) (fun j hj => by
        by_cases e : j = k
        · rw [e]; exact q
        · exact hno j (by omega)))
      refine v_X12_wireFrom_70_2 ?_
      rw [d_cn a.1, b.1, h2]
      refine ⟨by omega, fun q => by exfalso; omega, fun _ => y_isWhole hH hG h2 (by omega) (fun hg => ⟨fun _ => ?_, fun q => absurd q (by decide)⟩) (fun hg => ⟨fun q => absurd rfl q, fun _ => on ?_⟩)⟩
      · refine Wp.deep (y_otherEnd hH h2 (by omega) hx (fun r ht hr => ⟨fun q => by exfalso; omega, fun _ => ?_⟩) (fun no => ⟨fun _ => on ?_, fun q => absurd q (by decide)⟩)) (Nat.le_of_ble_eq_true rfl)
        · have hE := (hH.2.2.2 k (by omega)).2
          have ho : ot e1 e2 k f < 7 := by unfold ot; have := hH.2.1.2; split <;> omega
          have d1 := hD _ ho
          have d2 := hD f hf
          have fs := dSubE (X := ((n + 1 : Nat) : Int)) (Y := 1) (x := m.1 109 f) (y := (1 : Int32)) (by rw [d2, hf1]) (by decide) (by omega) (by omega)
          rw [d_cn hr, d_cn hx, d1, fs]
          have tc : tch e1 e2 G k f = true := by unfold tch; rw [hg]; rcases ht with q | q <;> simp [q]
          refine ⟨by omega, by omega, fun ne => on ?_, fun ee => hQ x2 ?_⟩
          · unfold nxp
            rw [tc, Bool.true_and]
            exact decide_eq_false (by omega)
          · rw [h2]
            have := fw_eq (p := nxp nf nw e1 e2 G f) (i := k) (by unfold nxp; rw [tc, Bool.true_and]; exact decide_eq_true (by omega)) hno nw (by omega)
            unfold nx
            rw [this]
        · unfold nxp tch
          simp only [not_or] at no
          simp [no.1, no.2]
      · unfold nxp tch
        rw [hg]
        simp
  exact v_X12_wireFrom_70 (loop nw 0 _ (by omega) (by decide) (fun j hj => absurd hj (Nat.not_lt_zero j)))
def RLF (m0 m : dM) : Prop := (∀ k : Nat, k ≠ 109 → k ≠ 110 → m.1 k = m0.1 k) ∧ m.2 = m0.2
theorem HR.rf {m m' : dM} (h : HR nf nw e1 e2 s m) (hF : RLF m m') : HR nf nw e1 e2 s m' := by
  unfold HR
  rw [hF.1 70 (by decide) (by decide), hF.1 80 (by decide) (by decide), hF.1 82 (by decide) (by decide), hF.1 83 (by decide) (by decide), hF.1 84 (by decide) (by decide)]
  exact h
theorem RG.rf {m m' : dM} (h : RG nw G m) (hF : RLF m m') : RG nw G m' := by
  unfold RG
  rw [hF.1 108 (by decide) (by decide)]
  exact h
theorem RLF.set {m0 m : dM} {k j : Nat} {v : Int32} (h : RLF m0 m) (hk : k = 109 ∨ k = 110) : RLF m0 (dSet m k j v) := ⟨fun a h1 h2 => by rw [dSet_k (by omega)]; exact h.1 a h1 h2, h.2⟩
theorem RyF.congr {d d' : Nat → Nat} {m : dM} (h : RyF d m) (e : ∀ f : Nat, d' f = d f) : RyF d' m := fun f hf => by rw [e f]; exact h f hf
theorem y_fillsWays {m : dM} {Q : dM → Prop} (hH : HR nf nw e1 e2 s m) (hG : RG nw G m) (hQ : ∀ m' : dM, RLF m m' → RyF (dD nf nw e1 e2 G) m' → (∀ f : Nat, f < 7 → m'.1 110 f = via nf nw e1 e2 G f) → Q m') : c_X12_fillsWays_70 5 m Q := by
  have a := hH.1
  have hnf := hH.2.1
  have hnw := hH.2.2.1
  have hE : ∀ w : Nat, w < nw → e1 w < nf ∧ e2 w < nf := fun w hw => ⟨(hH.2.2.2 w hw).2.1, (hH.2.2.2 w hw).2.2.1⟩
  -- the ways
  have l191 : ∀ (u n : Nat) (x1 : Int32) (M : dM), n + u = 7 → 1 ≤ n → x1.toInt = (n : Int) → RLF m M → RyF (dD nf nw e1 e2 G) M → (∀ g : Nat, g < 7 → M.1 110 g = if dD nf nw e1 e2 G g < n then via nf nw e1 e2 G g else 0) → j_X12_fillsWays_70_191 5 x1 M Q := by
    intro u
    induction u with
    | zero =>
      intro n x1 M hn h1n h1 hF hD hv
      refine v_X12_fillsWays_70_191 ⟨fun _ => hQ M hF hD (fun f hf => ?_), fun q => by exfalso; omega⟩
      rw [hv f hf]
      rcases dD_le (nf := nf) (nw := nw) (e1 := e1) (e2 := e2) (G := G) (f := f) with q | q
      · rw [if_pos (by omega)]
      · rw [if_neg (by omega), via_99 q]
    | succ u ih =>
      intro n x1 M hn h1n h1 hF hD hv
      refine v_X12_fillsWays_70_191 ⟨fun q => by exfalso; omega, fun _ => ?_⟩
      have l199 : ∀ (t f : Nat) (x2 : Int32) (M1 : dM), f + t = 7 → x2.toInt = (f : Int) → RLF m M1 → RyF (dD nf nw e1 e2 G) M1 → (∀ g : Nat, g < 7 → M1.1 110 g = if dD nf nw e1 e2 G g < n ∨ (dD nf nw e1 e2 G g = n ∧ g < f) then via nf nw e1 e2 G g else 0) → j_X12_fillsWays_70_199 5 x1 x2 M1 Q := by
        intro t
        induction t with
        | zero =>
          intro f x2 M1 hf h2 hF1 hD1 hv1
          refine v_X12_fillsWays_70_199 ⟨fun _ => ih (n + 1) _ M1 (by omega) (by omega) (d_inc h1 (by omega)) hF1 hD1 (fun g hg => ?_), fun q => by exfalso; omega⟩
          rw [hv1 g hg]
          by_cases z : dD nf nw e1 e2 G g < n + 1
          · rw [if_pos z, if_pos (by omega)]
          · rw [if_neg z, if_neg (by omega)]
        | succ t ih2 =>
          intro f x2 M1 hf h2 hF1 hD1 hv1
          have hH1 := hH.rf hF1
          have hG1 := hG.rf hF1
          refine v_X12_fillsWays_70_199 ⟨fun q => by exfalso; omega, fun _ => ?_⟩
          rw [d_cn h2, hD1 f (by omega), h1]
          have on : ∀ M2 : dM, RLF m M2 → RyF (dD nf nw e1 e2 G) M2 → (∀ g : Nat, g < 7 → M2.1 110 g = if dD nf nw e1 e2 G g < n ∨ (dD nf nw e1 e2 G g = n ∧ g < f + 1) then via nf nw e1 e2 G g else 0) → j_X12_fillsWays_70_245 5 x1 x2 M2 Q := fun M2 p q r => v_X12_fillsWays_70_245 (ih2 (f + 1) _ M2 (by omega) (d_inc h2 (by omega)) p q r)
          refine ⟨by omega, fun ee => ?_, fun ne => on M1 hF1 hD1 (fun g hg => ?_)⟩
          · have hdf : dD nf nw e1 e2 G f = (n - 1) + 1 := by omega
            obtain ⟨k1, k2, k3⟩ := nx_ok (by omega) hdf
            refine y_wireFrom hH1 hG1 hD1 h2 (by omega) (by omega : n - 1 < 6) hdf (fun r hr => Wp.deep (y_otherEnd hH1 hr k1 h2 (fun r2 ht hr2 => ?_) (fun no => ?_)) (Nat.le_of_ble_eq_true rfl))
            · have ho : ot e1 e2 (nx nf nw e1 e2 G f) f < 7 := by unfold ot; have := hE _ k1; split <;> omega
              rw [d_cn hr2, b1_of hr, hv1 _ ho, if_pos (Or.inl (by omega)), ← via_s (by omega) hdf]
              refine ⟨by omega, by omega, on _ (hF1.set (Or.inr rfl)) (fun g hg => by rw [dSet_k (by decide)]; exact hD1 g hg) (fun g hg => ?_)⟩
              by_cases e : g = f
              · subst e
                rw [dSet_s, if_pos (Or.inr ⟨by omega, by omega⟩)]
              · rw [dSet_j e, hv1 g hg]
                by_cases z : dD nf nw e1 e2 G g < n ∨ (dD nf nw e1 e2 G g = n ∧ g < f)
                · rw [if_pos z, if_pos (by omega)]
                · rw [if_neg z, if_neg (by omega)]
            · exfalso
              unfold tch at k2
              rw [Bool.and_eq_true, Bool.or_eq_true, decide_eq_true_eq, decide_eq_true_eq] at k2
              exact no k2.2
          · rw [hv1 g hg]
            by_cases z : dD nf nw e1 e2 G g < n ∨ (dD nf nw e1 e2 G g = n ∧ g < f)
            · rw [if_pos z, if_pos (by omega)]
            · rw [if_neg z, if_neg (fun q => by rcases q with q | q; exact z (Or.inl q); exact z (Or.inr ⟨q.1, by
              have hne : g ≠ f := fun e => by
                subst e
                omega
              omega⟩))]
      exact l199 7 0 _ M rfl (by decide) hF hD (fun g hg => by
        rw [hv g hg]
        by_cases z : dD nf nw e1 e2 G g < n
        · rw [if_pos z, if_pos (Or.inl z)]
        · rw [if_neg z, if_neg (by omega)])
  -- how far
  have l51 : ∀ (u n : Nat) (x1 : Int32) (M : dM), n + u = 6 → x1.toInt = ((n + 1 : Nat) : Int) → RLF m M → RyF (dst nf nw e1 e2 G n) M → (∀ g : Nat, g < 7 → M.1 110 g = 0) → j_X12_fillsWays_70_51 5 x1 M Q := by
    intro u
    induction u with
    | zero =>
      intro n x1 M hn h1 hF hD hv
      have e6 : n = 6 := by omega
      subst e6
      refine v_X12_fillsWays_70_51 ⟨fun _ => l191 6 1 _ M rfl (by omega) (by decide) hF hD (fun g hg => ?_), fun q => by exfalso; omega⟩
      rw [hv g hg]
      by_cases z : dD nf nw e1 e2 G g < 1
      · rw [if_pos z, via_0 (by omega)]
      · rw [if_neg z]
    | succ u ih =>
      intro n x1 M hn h1 hF hD hv
      refine v_X12_fillsWays_70_51 ⟨fun q => by exfalso; omega, fun _ => ?_⟩
      have l59 : ∀ (t k : Nat) (x2 : Int32) (M1 : dM), k + t = nw → x2.toInt = (k : Int) → RLF m M1 → RyF (dsk nf nw e1 e2 G n k) M1 → (∀ g : Nat, g < 7 → M1.1 110 g = 0) → j_X12_fillsWays_70_59 5 x1 x2 M1 Q := by
        intro t
        induction t with
        | zero =>
          intro k x2 M1 hk h2 hF1 hD1 hv1
          have ek : k = nw := by omega
          have hH1 := hH.rf hF1
          refine v_X12_fillsWays_70_59 ?_
          rw [d_cn hH1.1.1, hH1.2.2.1.1, hH1.1.1]
          refine ⟨by omega, fun _ => ih (n + 1) _ M1 (by omega) (d_inc h1 (by omega)) hF1 (hD1.congr (fun f => by rw [ek, dsk_w])) hv1, fun q => by exfalso; omega⟩
        | succ t ih2 =>
          intro k x2 M1 hk h2 hF1 hD1 hv1
          have hH1 := hH.rf hF1
          have hG1 := hG.rf hF1
          obtain ⟨⟨w1, w2⟩, q1, q2, q3⟩ := hH1.2.2.2 k (by omega)
          have d1 := hD1 (e1 k) (by omega)
          have d2 := hD1 (e2 k) (by omega)
          have on : ∀ M2 : dM, RLF m M2 → RyF (dsk nf nw e1 e2 G n (k + 1)) M2 → (∀ g : Nat, g < 7 → M2.1 110 g = 0) → j_X12_fillsWays_70_177 5 x1 x2 M2 Q := fun M2 p q r => v_X12_fillsWays_70_177 (ih2 (k + 1) _ M2 (by omega) (d_inc h2 (by omega)) p q r)
          have fs := dSubE (X := x1.toInt) (Y := 1) (x := x1) (y := (1 : Int32)) rfl (by decide) (by omega) (by omega)
          have fs' : (x1 - (1 : Int32)).toInt = (n : Int) := by omega
          have ei := y_idx (C := 10) (c := (10 : Int32)) (by decide) hH1.1.1 hH1.1.2 h2 (by decide) (by omega)
          refine v_X12_fillsWays_70_59 ?_
          rw [d_cn hH1.1.1, hH1.2.2.1.1, hH1.1.1]
          refine ⟨by omega, fun q => by exfalso; omega, fun _ => Wp.deep (y_isWhole hH1 hG1 h2 (by omega) (fun hg => ⟨fun _ => ?_, fun q => absurd q (by decide)⟩) (fun hg => ⟨fun q => absurd rfl q, fun _ => on M1 hF1 (hD1.congr (dsk_gone (by omega) hg)) hv1⟩)) (Nat.le_of_ble_eq_true rfl)⟩
          rw [d_cn ei, d_cn w1, d_cn w2, d1, d2, fs']
          -- the other way round
          have back : ∀ M2 : dM, RLF m M2 → RyF (dsk nf nw e1 e2 G n k) M2 → (∀ g : Nat, g < 7 → M2.1 110 g = 0) → ¬ (dsk nf nw e1 e2 G n k (e2 k) = 99 ∧ dsk nf nw e1 e2 G n k (e1 k) = n) → j_X12_fillsWays_70_146 5 x1 x2 (M1.1 83 (10 * s + k)) (M1.1 84 (10 * s + k)) M2 Q := fun M2 p q r no => by
            refine v_X12_fillsWays_70_146 ?_
            rw [d_cn w1, d_cn w2, q (e1 k) (by omega), q (e2 k) (by omega), fs']
            refine ⟨by omega, fun ne => on M2 p (q.congr (dsk_same (by omega) (fun z => by omega) no)) r, fun ee => ⟨by omega, fun ne => on M2 p (q.congr (dsk_same (by omega) (fun z => by omega) no)) r, fun e9 => ⟨by omega, on _ (p.set (Or.inl rfl)) (fun f hf => ?_) (fun g hg => by rw [dSet_k (by decide)]; exact r g hg)⟩⟩⟩
            have st := dsk_set (n := n) (k := k) (f0 := e1 k) (g0 := e2 k) (nf := nf) (nw := nw) (e1 := e1) (e2 := e2) (by omega) hg (Or.inl ⟨rfl, rfl⟩) q3 (by omega) ((dsk_lvl (k := k) (by omega)).mp (by omega)) f
            rw [st]
            by_cases e : f = e1 k
            · rw [if_pos e, e, dSet_s, h1]
            · rw [if_neg e, dSet_j e]; exact q f hf
          refine ⟨by omega, by omega, by omega, fun ne => back M1 hF1 hD1 hv1 (fun z => by omega), fun ee => ⟨by omega, fun ne => back M1 hF1 hD1 hv1 (fun z => by omega), fun e9 => ⟨by omega, ?_⟩⟩⟩
          have st := dsk_set (n := n) (k := k) (f0 := e2 k) (g0 := e1 k) (nf := nf) (nw := nw) (e1 := e1) (e2 := e2) (by omega) hg (Or.inr ⟨rfl, rfl⟩) (fun e => q3 e.symm) (by omega) ((dsk_lvl (k := k) (by omega)).mp (by omega))
          refine v_X12_fillsWays_70_146 ?_
          rw [d_cn w1, d_cn w2, dSet_s, h1, fs']
          refine ⟨by omega, fun _ => on _ (hF1.set (Or.inl rfl)) (fun f hf => ?_) (fun g hg => by rw [dSet_k (by decide)]; exact hv1 g hg), fun q => by exfalso; omega⟩
          rw [st f]
          by_cases e : f = e2 k
          · rw [if_pos e, e, dSet_s, h1]
          · rw [if_neg e, dSet_j e]; exact hD1 f hf
      exact l59 nw 0 _ M (by omega) (by decide) hF (hD.congr (fun f => dsk_0)) hv
  -- the start
  have l2 : ∀ (u f : Nat) (x1 : Int32) (M : dM), f + u = 7 → x1.toInt = (f : Int) → RLF m M → (∀ g : Nat, g < f → (M.1 109 g).toInt = (dst nf nw e1 e2 G 0 g : Int) ∧ M.1 110 g = 0) → j_X12_fillsWays_70_2 5 x1 M Q := by
    intro u
    induction u with
    | zero =>
      intro f x1 M hf h1 hF hv
      exact v_X12_fillsWays_70_2 ⟨fun _ => l51 6 0 _ M rfl (by decide) hF (fun g hg => (hv g (by omega)).1) (fun g hg => (hv g (by omega)).2), fun q => by exfalso; omega⟩
    | succ u ih =>
      intro f x1 M hf h1 hF hv
      have hHM := hH.rf hF
      have on : ∀ v : Int32, v.toInt = (dst nf nw e1 e2 G 0 f : Int) → j_X12_fillsWays_70_2 5 (x1 + (1 : Int32)) (dSet (dSet M 109 f v) 110 f (0 : Int32)) Q := fun v hv' => ih (f + 1) _ _ (by omega) (d_inc h1 (by omega)) ((hF.set (Or.inl rfl)).set (Or.inr rfl)) (fun g hg => by
        by_cases e : g = f
        · subst e
          rw [dSet_k (by decide), dSet_s, dSet_s]
          exact ⟨hv', rfl⟩
        · rw [dSet_j e, dSet_j e, dSet_j e, dSet_j e]
          exact hv g (by omega))
      refine v_X12_fillsWays_70_2 ⟨fun q => by exfalso; omega, fun _ => ⟨fun ne => ⟨by omega, by omega, ?_⟩, fun ee => ?_⟩⟩
      · rw [d_cn h1]
        refine on 99 ?_
        unfold dst
        rw [if_neg (by omega)]
        rfl
      · rw [d_cn h1, d_cn hHM.1.1, hHM.2.1.1, hHM.1.1]
        refine ⟨by omega, fun q => ⟨by omega, by omega, on 99 ?_⟩, fun q => ⟨by omega, by omega, on 0 ?_⟩⟩
        · unfold dst
          rw [if_neg (by omega)]
          rfl
        · unfold dst
          rw [if_pos (by omega)]
          rfl
  exact v_X12_fillsWays_70 (l2 7 0 _ m rfl (by decide) ⟨fun _ _ _ => rfl, rfl⟩ (fun g hg => absurd hg (Nat.not_lt_zero g)))
end RLY
end
