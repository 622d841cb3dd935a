section
/-! THE WAYS, as a function of the wires' ends and of those that are gone -/
/-- one below n is so; the first that is so -/
def an (p : Nat → Bool) : Nat → Bool
  | 0 => false
  | n + 1 => an p n || p n
def fw (p : Nat → Bool) : Nat → Nat
  | 0 => 0
  | n + 1 => cond (an p n) (fw p n) n
theorem an_iff {p : Nat → Bool} : ∀ (n : Nat), an p n = true ↔ ∃ i : Nat, i < n ∧ p i = true
  | 0 => ⟨fun h => (by cases h), fun ⟨i, h, _⟩ => (by omega)⟩
  | n + 1 => by
    have ih := an_iff (p := p) n
    show (an p n || p n) = true ↔ _
    rw [Bool.or_eq_true, ih]
    constructor
    · rintro (⟨i, h1, h2⟩ | h)
      · exact ⟨i, by omega, h2⟩
      · exact ⟨n, by omega, h⟩
    · rintro ⟨i, h1, h2⟩
      by_cases e : i = n
      · subst e; exact Or.inr h2
      · exact Or.inl ⟨i, by omega, h2⟩
theorem an_no {p : Nat → Bool} {n : Nat} : an p n = false ↔ ∀ i : Nat, i < n → p i = false := by
  constructor
  · intro h i hi
    cases e : p i with
    | false => rfl
    | true =>
      have := (an_iff n).mpr ⟨i, hi, e⟩
      rw [h] at this
      cases this
  · intro h
    cases e : an p n with
    | false => rfl
    | true =>
      obtain ⟨i, h1, h2⟩ := (an_iff n).mp e
      rw [h i h1] at h2
      cases h2
theorem fw_eq {p : Nat → Bool} {i : Nat} (hp : p i = true) (hj : ∀ j : Nat, j < i → p j = false) : ∀ (n : Nat), i < n → fw p n = i
  | 0, h => by omega
  | n + 1, h => by
    show cond (an p n) (fw p n) n = i
    by_cases e : i = n
    · subst e
      rw [an_no.mpr hj, cond_false]
    · rw [(an_iff n).mpr ⟨i, by omega, hp⟩, cond_true]
      exact fw_eq hp hj n (by omega)
theorem fw_ok {p : Nat → Bool} : ∀ (n : Nat), an p n = true → fw p n < n ∧ p (fw p n) = true ∧ ∀ j : Nat, j < fw p n → p j = false
  | 0, h => by cases h
  | n + 1, h => by
    show cond (an p n) (fw p n) n < n + 1 ∧ p (cond (an p n) (fw p n) n) = true ∧ ∀ j : Nat, j < cond (an p n) (fw p n) n → p j = false
    cases e : an p n with
    | true =>
      have := fw_ok n e
      rw [cond_true]
      exact ⟨by omega, this.2⟩
    | false =>
      have h : (an p n || p n) = true := h
      rw [e, Bool.false_or] at h
      rw [cond_false]
      exact ⟨by omega, h, an_no.mp e⟩
section WAY
variable (nf nw : Nat) (e1 e2 : Nat → Nat) (G : Nat → Bool)
def ot (w f : Nat) : Nat := if e1 w = f then e2 w else e1 w
def tch (w f : Nat) : Bool := !G w && (decide (e1 w = f) || decide (e2 w = f))
/-- a wire brings f from those that are n away -/
def br (d : Nat → Nat) (n f w : Nat) : Bool := tch e1 e2 G w f && decide (d (ot e1 e2 w f) = n)
/-- how far a flat is, as far as n rounds tell; 99: away -/
def dst : Nat → Nat → Nat
  | 0, f => if f = 0 ∧ 0 < nf then 0 else 99
  | n + 1, f => if dst n f = 99 ∧ an (br e1 e2 G (dst n) n f) nw = true then n + 1 else dst n f
/-- within round n + 1, behind k wires -/
def dsk (n k f : Nat) : Nat := if dst nf nw e1 e2 G n f = 99 ∧ an (br e1 e2 G (dst nf nw e1 e2 G n) n f) k = true then n + 1 else dst nf nw e1 e2 G n f
/-- how far; the wire of its way; the wires of its way -/
def dD (f : Nat) : Nat := dst nf nw e1 e2 G 6 f
def nxp (f w : Nat) : Bool := tch e1 e2 G w f && decide (dD nf nw e1 e2 G (ot e1 e2 w f) + 1 = dD nf nw e1 e2 G f)
def nx (f : Nat) : Nat := fw (nxp nf nw e1 e2 G f) nw
def vN : Nat → Nat → Int32
  | 0, _ => 0
  | k + 1, f => b1 (nx nf nw e1 e2 G f) ||| vN k (ot e1 e2 (nx nf nw e1 e2 G f) f)
def via (f : Nat) : Int32 := if dD nf nw e1 e2 G f = 99 then 0 else vN nf nw e1 e2 G (dD nf nw e1 e2 G f) f
end WAY
section WAL
variable {nf nw : Nat} {e1 e2 : Nat → Nat} {G : Nat → Bool}
theorem dst_s {n f : Nat} : dst nf nw e1 e2 G (n + 1) f = if dst nf nw e1 e2 G n f = 99 ∧ an (br e1 e2 G (dst nf nw e1 e2 G n) n f) nw = true then n + 1 else dst nf nw e1 e2 G n f := rfl
theorem dsk_0 {n f : Nat} : dsk nf nw e1 e2 G n 0 f = dst nf nw e1 e2 G n f := by
  unfold dsk
  rw [if_neg (fun h => by cases h.2)]
theorem dsk_w {n f : Nat} : dsk nf nw e1 e2 G n nw f = dst nf nw e1 e2 G (n + 1) f := rfl
theorem dst_le : ∀ (n f : Nat), dst nf nw e1 e2 G n f ≤ n ∨ dst nf nw e1 e2 G n f = 99
  | 0, f => by unfold dst; split <;> omega
  | n + 1, f => by
    have := dst_le n f
    rw [dst_s]
    split <;> omega
theorem dst_keep {n f : Nat} (h : dst nf nw e1 e2 G n f ≠ 99) : ∀ (k : Nat), dst nf nw e1 e2 G (n + k) f = dst nf nw e1 e2 G n f
  | 0 => rfl
  | k + 1 => by
    show dst nf nw e1 e2 G ((n + k) + 1) f = _
    rw [dst_s, dst_keep h k, if_neg (fun q => h q.1)]
/-- a level is known when its round is done -/
theorem dst_lvl {l f : Nat} (hl : l < 99) : ∀ (k : Nat), dst nf nw e1 e2 G (l + k) f = l ↔ dst nf nw e1 e2 G l f = l
  | 0 => Iff.rfl
  | k + 1 => by
    have ih := dst_lvl (f := f) hl k
    show dst nf nw e1 e2 G ((l + k) + 1) f = l ↔ _
    rw [dst_s]
    constructor
    · intro h
      split at h
      · omega
      · exact ih.mp h
    · intro h
      rw [if_neg (fun q => by have := ih.mpr h; omega)]
      exact ih.mpr h
theorem dD_lvl {l f : Nat} (hl : l ≤ 6) : dD nf nw e1 e2 G f = l ↔ dst nf nw e1 e2 G l f = l := by
  have := dst_lvl (nf := nf) (nw := nw) (e1 := e1) (e2 := e2) (G := G) (l := l) (f := f) (by omega) (6 - l)
  rw [show l + (6 - l) = 6 by omega] at this
  exact this
theorem dst_far (hE : ∀ w : Nat, w < nw → e1 w < nf ∧ e2 w < nf) {f : Nat} (hf : nf ≤ f) : ∀ (n : Nat), dst nf nw e1 e2 G n f = 99
  | 0 => by unfold dst; rw [if_neg (by omega)]
  | n + 1 => by
    rw [dst_s, if_neg, dst_far hE hf n]
    rintro ⟨_, h⟩
    obtain ⟨w, hw, hb⟩ := (an_iff nw).mp h
    unfold br tch at hb
    have := hE w hw
    simp at hb
    omega
/-- nothing new: nothing new later -/
theorem dst_stop {n : Nat} (h : ∀ f : Nat, dst nf nw e1 e2 G (n + 1) f = dst nf nw e1 e2 G n f) : ∀ (k : Nat), n + k < 99 → ∀ f : Nat, dst nf nw e1 e2 G (n + k) f = dst nf nw e1 e2 G n f
  | 0, _, f => rfl
  | 1, _, f => h f
  | k + 2, hk, f => by
    have ih := dst_stop h (k + 1) (by omega)
    show dst nf nw e1 e2 G ((n + (k + 1)) + 1) f = _
    rw [dst_s, ih f, if_neg]
    rintro ⟨_, hb⟩
    obtain ⟨w, hw, hb⟩ := (an_iff nw).mp hb
    unfold br at hb
    rw [Bool.and_eq_true, decide_eq_true_eq, ih] at hb
    have := dst_le (nf := nf) (nw := nw) (e1 := e1) (e2 := e2) (G := G) n (ot e1 e2 w f)
    have := hb.2
    omega
/-- how many of n are so -/
def cn (p : Nat → Bool) : Nat → Nat
  | 0 => 0
  | n + 1 => cn p n + cond (p n) 1 0
theorem cn_le {p : Nat → Bool} : ∀ (n : Nat), cn p n ≤ n
  | 0 => Nat.le_refl _
  | n + 1 => by
    have := cn_le (p := p) n
    show cn p n + cond (p n) 1 0 ≤ n + 1
    cases p n <;> simp <;> omega
theorem cn_all {p : Nat → Bool} : ∀ (n : Nat), cn p n = n → ∀ i : Nat, i < n → p i = true
  | 0, _, i, hi => by omega
  | n + 1, h, i, hi => by
    have h : cn p n + cond (p n) 1 0 = n + 1 := h
    have := cn_le (p := p) n
    cases e : p n with
    | false => rw [e] at h; simp at h; omega
    | true =>
      rw [e] at h
      by_cases q : i = n
      · subst q; exact e
      · exact cn_all n (by simp at h; omega) i (by omega)
theorem cn_mono {p q : Nat → Bool} (h : ∀ i : Nat, p i = true → q i = true) : ∀ (n : Nat), cn p n ≤ cn q n
  | 0 => Nat.le_refl _
  | n + 1 => by
    have := cn_mono h n
    show cn p n + cond (p n) 1 0 ≤ cn q n + cond (q n) 1 0
    have := h n
    cases e : p n with
    | false => simp; omega
    | true => rw [this e]; simp; omega
theorem cn_more {p q : Nat → Bool} (h : ∀ i : Nat, p i = true → q i = true) {j : Nat} (h1 : p j = false) (h2 : q j = true) : ∀ (n : Nat), j < n → cn p n + 1 ≤ cn q n
  | 0, hj => by omega
  | n + 1, hj => by
    show cn p n + cond (p n) 1 0 + 1 ≤ cn q n + cond (q n) 1 0
    by_cases e : j = n
    · subst e
      have := cn_mono h j
      rw [h1, h2]
      simp
      omega
    · have := cn_more h h1 h2 n (by omega)
      have := h n
      cases e2 : p n with
      | false => simp; omega
      | true => rw [this e2]; simp; omega
/-- the flats that are reached -/
def rcd (d : Nat → Nat) (f : Nat) : Bool := decide (d f ≠ 99)
/-- all are reached: nothing new -/
theorem dst_full (hE : ∀ w : Nat, w < nw → e1 w < nf ∧ e2 w < nf) {n : Nat} (h : ∀ f : Nat, f < nf → dst nf nw e1 e2 G n f ≠ 99) (f : Nat) : dst nf nw e1 e2 G (n + 1) f = dst nf nw e1 e2 G n f := by
  by_cases q : f < nf
  · exact dst_keep (h f q) 1
  · rw [dst_far hE (by omega), dst_far hE (by omega)]
theorem rcd_mono {n : Nat} (f : Nat) (h : rcd (dst nf nw e1 e2 G n) f = true) : rcd (dst nf nw e1 e2 G (n + 1)) f = true := by
  unfold rcd at *
  rw [decide_eq_true_eq] at *
  rw [show n + 1 = n + 1 from rfl, dst_keep h 1]
  exact h
/-- the last round that the one does tells all -/
theorem dst_end (hE : ∀ w : Nat, w < nw → e1 w < nf ∧ e2 w < nf) {n : Nat} (hn : n ≤ 6) (hc : n + 1 ≤ cn (rcd (dst nf nw e1 e2 G n)) nf) (h : nf ≤ n + 1) (f : Nat) : dst nf nw e1 e2 G n f = dD nf nw e1 e2 G f := by
  have h1 := cn_le (p := rcd (dst nf nw e1 e2 G n)) nf
  have h2 := cn_all nf (by omega : cn (rcd (dst nf nw e1 e2 G n)) nf = nf)
  have h3 := dst_stop (dst_full hE (n := n) (G := G) (fun f hf => by
    have := h2 f hf
    unfold rcd at this
    exact of_decide_eq_true this)) (6 - n) (by omega) f
  rw [show n + (6 - n) = 6 by omega] at h3
  exact h3.symm
theorem dst_end0 {n : Nat} (hn : n ≤ 6) (h : ∀ f : Nat, dst nf nw e1 e2 G (n + 1) f = dst nf nw e1 e2 G n f) (f : Nat) : dst nf nw e1 e2 G (n + 1) f = dD nf nw e1 e2 G f := by
  have h3 := dst_stop h (6 - n) (by omega) f
  rw [show n + (6 - n) = 6 by omega] at h3
  rw [h f]
  exact h3.symm
/-- one more: the count grows -/
theorem dst_grow (hE : ∀ w : Nat, w < nw → e1 w < nf ∧ e2 w < nf) {n j : Nat} (hc : n + 1 ≤ cn (rcd (dst nf nw e1 e2 G n)) nf) (hj : dst nf nw e1 e2 G (n + 1) j ≠ dst nf nw e1 e2 G n j) : n + 2 ≤ cn (rcd (dst nf nw e1 e2 G (n + 1))) nf := by
  have h1 : dst nf nw e1 e2 G n j = 99 := by
    by_cases q : dst nf nw e1 e2 G n j = 99
    · exact q
    · exact absurd (dst_keep q 1) hj
  have hl : j < nf := by
    by_cases q : j < nf
    · exact q
    · exact absurd (by rw [dst_far hE (by omega), dst_far hE (by omega)]) hj
  have := cn_more (p := rcd (dst nf nw e1 e2 G n)) (q := rcd (dst nf nw e1 e2 G (n + 1))) rcd_mono (j := j) (by unfold rcd; simp [h1]) (by unfold rcd; rw [decide_eq_true_eq, ← h1]; exact hj) nf hl
  omega
/-- a wire more within a round -/
theorem dsk_s {n k f : Nat} (hn : n < 98) : dsk nf nw e1 e2 G n (k + 1) f = if dsk nf nw e1 e2 G n k f = 99 ∧ br e1 e2 G (dst nf nw e1 e2 G n) n f k = true then n + 1 else dsk nf nw e1 e2 G n k f := by
  unfold dsk
  have ea : an (br e1 e2 G (dst nf nw e1 e2 G n) n f) (k + 1) = (an (br e1 e2 G (dst nf nw e1 e2 G n) n f) k || br e1 e2 G (dst nf nw e1 e2 G n) n f k) := rfl
  rw [ea]
  generalize dst nf nw e1 e2 G n f = A
  generalize an (br e1 e2 G (dst nf nw e1 e2 G n) n f) k = X
  generalize br e1 e2 G (dst nf nw e1 e2 G n) n f k = B
  by_cases h1 : A = 99
  · cases X <;> cases B <;> simp [h1] <;> omega
  · simp [h1]
theorem dsk_lvl {n k f : Nat} (hn : n < 98) : dsk nf nw e1 e2 G n k f = n ↔ dst nf nw e1 e2 G n f = n := by
  unfold dsk
  split
  · rename_i h
    have := dst_le (nf := nf) (nw := nw) (e1 := e1) (e2 := e2) (G := G) n f
    constructor
    · intro q; omega
    · intro q; exfalso; have := h.1; omega
  · exact Iff.rfl
/-- its way: the first wire to one that is nearer -/
theorem nx_ok {n f : Nat} (hn : n < 6) (h : dD nf nw e1 e2 G f = n + 1) : nx nf nw e1 e2 G f < nw ∧ tch e1 e2 G (nx nf nw e1 e2 G f) f = true ∧ dD nf nw e1 e2 G (ot e1 e2 (nx nf nw e1 e2 G f) f) = n := by
  have h1 := (dD_lvl (f := f) (by omega : n + 1 ≤ 6)).mp h
  rw [dst_s] at h1
  have ex : an (nxp nf nw e1 e2 G f) nw = true := by
    split at h1
    · rename_i q
      obtain ⟨w, hw, hb⟩ := (an_iff nw).mp q.2
      refine (an_iff nw).mpr ⟨w, hw, ?_⟩
      unfold br at hb
      unfold nxp
      rw [Bool.and_eq_true, decide_eq_true_eq] at hb ⊢
      exact ⟨hb.1, by rw [h, (dD_lvl (by omega : n ≤ 6)).mpr hb.2]⟩
    · have := dst_le (nf := nf) (nw := nw) (e1 := e1) (e2 := e2) (G := G) n f
      omega
  obtain ⟨a, b, c⟩ := fw_ok nw ex
  unfold nxp at b
  rw [Bool.and_eq_true, decide_eq_true_eq] at b
  exact ⟨a, b.1, by unfold nx nxp; have := b.2; unfold nxp at *; omega⟩
theorem via_s {n f : Nat} (hn : n < 6) (h : dD nf nw e1 e2 G f = n + 1) : via nf nw e1 e2 G f = b1 (nx nf nw e1 e2 G f) ||| via nf nw e1 e2 G (ot e1 e2 (nx nf nw e1 e2 G f) f) := by
  have h2 := (nx_ok hn h).2.2
  unfold via
  rw [if_neg (by omega), if_neg (by omega), h, h2]
  rfl
theorem via_0 {f : Nat} (h : dD nf nw e1 e2 G f = 0) : via nf nw e1 e2 G f = 0 := by
  unfold via
  rw [if_neg (by omega), h]
  rfl
theorem via_99 {f : Nat} (h : dD nf nw e1 e2 G f = 99) : via nf nw e1 e2 G f = 0 := by
  unfold via
  rw [if_pos h]
theorem dD_le {f : Nat} : dD nf nw e1 e2 G f ≤ 6 ∨ dD nf nw e1 e2 G f = 99 := dst_le 6 f
/-- a way goes by whole wires alone -/
theorem via_whole (hw : nw ≤ 32) : ∀ (n f w : Nat), dD nf nw e1 e2 G f = n → bt (via nf nw e1 e2 G f) w = true → w < nw ∧ G w = false
  | 0, f, w, h, hb' => by rw [via_0 h, bt_0] at hb'; cases hb'
  | n + 1, f, w, h, hb' => by
    rcases dD_le (nf := nf) (nw := nw) (e1 := e1) (e2 := e2) (G := G) (f := f) with q | q
    · have hn : n < 6 := by omega
      obtain ⟨a, b, c⟩ := nx_ok hn h
      rw [via_s hn h, bt_or, bt_1 (by omega)] at hb'
      by_cases e : w = nx nf nw e1 e2 G f
      · subst e
        unfold tch at b
        rw [Bool.and_eq_true] at b
        exact ⟨a, by simpa using b.1⟩
      · rw [decide_eq_false e, Bool.false_or] at hb'
        exact via_whole hw n _ w c hb'
    · rw [via_99 q, bt_0] at hb'; cases hb'
theorem cn_pos {p : Nat → Bool} {j : Nat} (h : p j = true) : ∀ (n : Nat), j < n → 1 ≤ cn p n
  | 0, hj => by omega
  | n + 1, hj => by
    show 1 ≤ cn p n + cond (p n) 1 0
    by_cases e : j = n
    · subst e; rw [h]; simp
    · have := cn_pos h n (by omega); omega
/-- a flat that is reached anew: how far it is, and by which wire -/
theorem dsk_new {n k f : Nat} (hn : n < 6) (hk : k < nw) (h99 : dsk nf nw e1 e2 G n k f = 99) (hb : br e1 e2 G (dst nf nw e1 e2 G n) n f k = true) : dD nf nw e1 e2 G f = n + 1 ∧ nx nf nw e1 e2 G f = k := by
  have h9 : dst nf nw e1 e2 G n f = 99 ∧ an (br e1 e2 G (dst nf nw e1 e2 G n) n f) k = false := by
    unfold dsk at h99
    split at h99
    · omega
    · rename_i q
      refine ⟨h99, ?_⟩
      cases e : an (br e1 e2 G (dst nf nw e1 e2 G n) n f) k with
      | false => rfl
      | true => exact absurd ⟨h99, e⟩ q
  have h1 : dst nf nw e1 e2 G (n + 1) f = n + 1 := by
    rw [dst_s, if_pos ⟨h9.1, (an_iff nw).mpr ⟨k, hk, hb⟩⟩]
  have hD := (dD_lvl (f := f) (by omega : n + 1 ≤ 6)).mpr h1
  refine ⟨hD, fw_eq ?_ (fun j hj => ?_) nw hk⟩
  · unfold br at hb
    unfold nxp
    rw [Bool.and_eq_true, decide_eq_true_eq] at hb ⊢
    exact ⟨hb.1, by rw [hD, (dD_lvl (by omega : n ≤ 6)).mpr hb.2]⟩
  · have := an_no.mp h9.2 j hj
    cases e : nxp nf nw e1 e2 G f j with
    | false => rfl
    | true =>
      exfalso
      unfold nxp at e
      rw [Bool.and_eq_true, decide_eq_true_eq, hD] at e
      have z : br e1 e2 G (dst nf nw e1 e2 G n) n f j = true := by
        unfold br
        rw [Bool.and_eq_true, decide_eq_true_eq]
        exact ⟨e.1, (dD_lvl (by omega : n ≤ 6)).mp (by omega)⟩
      rw [z] at this
      cases this
/-- a wire brings one, or none -/
theorem br_ends {d : Nat → Nat} {n k f : Nat} (b : br e1 e2 G d n f k = true) : G k = false ∧ ((f = e1 k ∧ d (e2 k) = n) ∨ (f = e2 k ∧ d (e1 k) = n)) := by
  unfold br tch ot at b
  rw [Bool.and_eq_true, decide_eq_true_eq, Bool.and_eq_true, Bool.or_eq_true, decide_eq_true_eq, decide_eq_true_eq] at b
  obtain ⟨⟨b0, b1'⟩, b2'⟩ := b
  refine ⟨by simpa using b0, ?_⟩
  by_cases e : e1 k = f
  · rw [if_pos e] at b2'; exact Or.inl ⟨e.symm, b2'⟩
  · rw [if_neg e] at b2'; exact Or.inr ⟨by omega, b2'⟩
theorem dsk_set {n k f0 g0 : Nat} (hn : n < 98) (hG : G k = false) (hE : (e1 k = f0 ∧ e2 k = g0) ∨ (e2 k = f0 ∧ e1 k = g0)) (hne : f0 ≠ g0) (hf : dsk nf nw e1 e2 G n k f0 = 99) (hg : dst nf nw e1 e2 G n g0 = n) (f : Nat) : dsk nf nw e1 e2 G n (k + 1) f = if f = f0 then n + 1 else dsk nf nw e1 e2 G n k f := by
  have hot : ot e1 e2 k f0 = g0 := by unfold ot; split <;> omega
  have hbr : br e1 e2 G (dst nf nw e1 e2 G n) n f0 k = true := by
    unfold br tch
    rw [hG, hot, hg]
    rcases hE with q | q <;> simp [q.1]
  rw [dsk_s hn]
  by_cases e : f = f0
  · subst e
    rw [if_pos ⟨hf, hbr⟩, if_pos rfl]
  · rw [if_neg e, if_neg]
    rintro ⟨a, b⟩
    have hfg : f = g0 := by have := (br_ends b).2; omega
    rw [hfg] at a
    have := (dsk_lvl (k := k) (f := g0) (nf := nf) (nw := nw) (e1 := e1) (e2 := e2) (G := G) hn).mpr hg
    omega
theorem dsk_gone {n k : Nat} (hn : n < 98) (hG : G k = true) (f : Nat) : dsk nf nw e1 e2 G n (k + 1) f = dsk nf nw e1 e2 G n k f := by
  rw [dsk_s hn, if_neg]
  rintro ⟨_, b⟩
  have := (br_ends b).1
  rw [hG] at this
  cases this
theorem dsk_same {n k : Nat} (hn : n < 98) (h1 : ¬ (dsk nf nw e1 e2 G n k (e1 k) = 99 ∧ dsk nf nw e1 e2 G n k (e2 k) = n)) (h2 : ¬ (dsk nf nw e1 e2 G n k (e2 k) = 99 ∧ dsk nf nw e1 e2 G n k (e1 k) = n)) (f : Nat) : dsk nf nw e1 e2 G n (k + 1) f = dsk nf nw e1 e2 G n k f := by
  rw [dsk_s hn, if_neg]
  rintro ⟨a, b⟩
  rcases (br_ends b).2 with ⟨c, d⟩ | ⟨c, d⟩
  · subst c; exact h1 ⟨a, (dsk_lvl hn).mpr d⟩
  · subst c; exact h2 ⟨a, (dsk_lvl hn).mpr d⟩
end WAL
end
section
/-! rows filled with one value -/
theorem y_fill49 {x1 : Int32} {m : dM} {Q : dM → Prop} (hQ : ∀ m' : dM, (∀ k : Nat, k ≠ 49 → m'.1 k = m.1 k) → m'.2 = m.2 → (∀ j : Nat, j < 10 → m'.1 49 j = x1) → Q m') : c_J7_fill_49 1 x1 m Q := by
  have e : (10 : Int32).toInt = 10 := by decide
  have loop : ∀ (f i : Nat) (x3 : Int32) (M : dM), i + f = 10 → x3.toInt = i → (∀ k : Nat, k ≠ 49 → M.1 k = m.1 k) → M.2 = m.2 → (∀ j : Nat, j < i → M.1 49 j = x1) → j_J7_fill_49_5 1 x1 x3 (10 : Int32) M Q := by
    intro f
    induction f with
    | zero => intro i x3 M hi h3 hF h2 hv; exact v_J7_fill_49_5 ⟨fun _ => hQ M hF h2 (fun j hj => hv j (by omega)), fun q => by exfalso; omega⟩
    | succ f ih =>
      intro i x3 M hi h3 hF h2 hv
      refine v_J7_fill_49_5 ⟨fun q => by exfalso; omega, fun _ => ⟨by omega, ?_⟩⟩
      rw [d_cn h3]
      refine ih (i + 1) _ _ (by omega) (d_inc h3 (by omega)) (fun k hk => by rw [dSet_k hk]; exact hF k hk) h2 (fun j hj => ?_)
      by_cases q : j = i
      · subst q; rw [dSet_s]
      · rw [dSet_j q]; exact hv j (by omega)
  exact v_J7_fill_49 (loop 10 0 _ m (by omega) (by decide) (fun _ _ => rfl) rfl (fun j hj => absurd hj (Nat.not_lt_zero j)))
theorem y_fill50 {x1 : Int32} {m : dM} {Q : dM → Prop} (hQ : ∀ m' : dM, (∀ k : Nat, k ≠ 50 → m'.1 k = m.1 k) → m'.2 = m.2 → (∀ j : Nat, j < 7 → m'.1 50 j = x1) → Q m') : c_J7_fill_50 1 x1 m Q := by
  have e : (7 : Int32).toInt = 7 := by decide
  have loop : ∀ (f i : Nat) (x3 : Int32) (M : dM), i + f = 7 → x3.toInt = i → (∀ k : Nat, k ≠ 50 → M.1 k = m.1 k) → M.2 = m.2 → (∀ j : Nat, j < i → M.1 50 j = x1) → j_J7_fill_50_5 1 x1 x3 (7 : Int32) M Q := by
    intro f
    induction f with
    | zero => intro i x3 M hi h3 hF h2 hv; exact v_J7_fill_50_5 ⟨fun _ => hQ M hF h2 (fun j hj => hv j (by omega)), fun q => by exfalso; omega⟩
    | succ f ih =>
      intro i x3 M hi h3 hF h2 hv
      refine v_J7_fill_50_5 ⟨fun q => by exfalso; omega, fun _ => ⟨by omega, ?_⟩⟩
      rw [d_cn h3]
      refine ih (i + 1) _ _ (by omega) (d_inc h3 (by omega)) (fun k hk => by rw [dSet_k hk]; exact hF k hk) h2 (fun j hj => ?_)
      by_cases q : j = i
      · subst q; rw [dSet_s]
      · rw [dSet_j q]; exact hv j (by omega)
  exact v_J7_fill_50 (loop 7 0 _ m (by omega) (by decide) (fun _ _ => rfl) rfl (fun j hj => absurd hj (Nat.not_lt_zero j)))
theorem y_fill55 {x1 : Int32} {m : dM} {Q : dM → Prop} (hQ : ∀ m' : dM, (∀ k : Nat, k ≠ 55 → m'.1 k = m.1 k) → m'.2 = m.2 → (∀ j : Nat, j < 9 → m'.1 55 j = x1) → Q m') : c_J7_fill_55 1 x1 m Q := by
  have e : (9 : Int32).toInt = 9 := by decide
  have loop : ∀ (f i : Nat) (x3 : Int32) (M : dM), i + f = 9 → x3.toInt = i → (∀ k : Nat, k ≠ 55 → M.1 k = m.1 k) → M.2 = m.2 → (∀ j : Nat, j < i → M.1 55 j = x1) → j_J7_fill_55_5 1 x1 x3 (9 : Int32) M Q := by
    intro f
    induction f with
    | zero => intro i x3 M hi h3 hF h2 hv; exact v_J7_fill_55_5 ⟨fun _ => hQ M hF h2 (fun j hj => hv j (by omega)), fun q => by exfalso; omega⟩
    | succ f ih =>
      intro i x3 M hi h3 hF h2 hv
      refine v_J7_fill_55_5 ⟨fun q => by exfalso; omega, fun _ => ⟨by omega, ?_⟩⟩
      rw [d_cn h3]
      refine ih (i + 1) _ _ (by omega) (d_inc h3 (by omega)) (fun k hk => by rw [dSet_k hk]; exact hF k hk) h2 (fun j hj => ?_)
      by_cases q : j = i
      · subst q; rw [dSet_s]
      · rw [dSet_j q]; exact hv j (by omega)
  exact v_J7_fill_55 (loop 9 0 _ m (by omega) (by decide) (fun _ _ => rfl) rfl (fun j hj => absurd hj (Nat.not_lt_zero j)))
theorem y_fill56 {x1 : Int32} {m : dM} {Q : dM → Prop} (hQ : ∀ m' : dM, (∀ k : Nat, k ≠ 56 → m'.1 k = m.1 k) → m'.2 = m.2 → (∀ j : Nat, j < 10 → m'.1 56 j = x1) → Q m') : c_J7_fill_56 1 x1 m Q := by
  have e : (10 : Int32).toInt = 10 := by decide
  have loop : ∀ (f i : Nat) (x3 : Int32) (M : dM), i + f = 10 → x3.toInt = i → (∀ k : Nat, k ≠ 56 → M.1 k = m.1 k) → M.2 = m.2 → (∀ j : Nat, j < i → M.1 56 j = x1) → j_J7_fill_56_5 1 x1 x3 (10 : Int32) M Q := by
    intro f
    induction f with
    | zero => intro i x3 M hi h3 hF h2 hv; exact v_J7_fill_56_5 ⟨fun _ => hQ M hF h2 (fun j hj => hv j (by omega)), fun q => by exfalso; omega⟩
    | succ f ih =>
      intro i x3 M hi h3 hF h2 hv
      refine v_J7_fill_56_5 ⟨fun q => by exfalso; omega, fun _ => ⟨by omega, ?_⟩⟩
      rw [d_cn h3]
      refine ih (i + 1) _ _ (by omega) (d_inc h3 (by omega)) (fun k hk => by rw [dSet_k hk]; exact hF k hk) h2 (fun j hj => ?_)
      by_cases q : j = i
      · subst q; rw [dSet_s]
      · rw [dSet_j q]; exact hv j (by omega)
  exact v_J7_fill_56 (loop 10 0 _ m (by omega) (by decide) (fun _ _ => rfl) rfl (fun j hj => absurd hj (Nat.not_lt_zero j)))
theorem y_fill59 {x1 : Int32} {m : dM} {Q : dM → Prop} (hQ : ∀ m' : dM, (∀ k : Nat, k ≠ 59 → m'.1 k = m.1 k) → m'.2 = m.2 → (∀ j : Nat, j < 7 → m'.1 59 j = x1) → Q m') : c_J7_fill_59 1 x1 m Q := by
  have e : (7 : Int32).toInt = 7 := by decide
  have loop : ∀ (f i : Nat) (x3 : Int32) (M : dM), i + f = 7 → x3.toInt = i → (∀ k : Nat, k ≠ 59 → M.1 k = m.1 k) → M.2 = m.2 → (∀ j : Nat, j < i → M.1 59 j = x1) → j_J7_fill_59_5 1 x1 x3 (7 : Int32) M Q := by
    intro f
    induction f with
    | zero => intro i x3 M hi h3 hF h2 hv; exact v_J7_fill_59_5 ⟨fun _ => hQ M hF h2 (fun j hj => hv j (by omega)), fun q => by exfalso; omega⟩
    | succ f ih =>
      intro i x3 M hi h3 hF h2 hv
      refine v_J7_fill_59_5 ⟨fun q => by exfalso; omega, fun _ => ⟨by omega, ?_⟩⟩
      rw [d_cn h3]
      refine ih (i + 1) _ _ (by omega) (d_inc h3 (by omega)) (fun k hk => by rw [dSet_k hk]; exact hF k hk) h2 (fun j hj => ?_)
      by_cases q : j = i
      · subst q; rw [dSet_s]
      · rw [dSet_j q]; exact hv j (by omega)
  exact v_J7_fill_59 (loop 7 0 _ m (by omega) (by decide) (fun _ _ => rfl) rfl (fun j hj => absurd hj (Nat.not_lt_zero j)))
theorem y_fill60 {x1 : Int32} {m : dM} {Q : dM → Prop} (hQ : ∀ m' : dM, (∀ k : Nat, k ≠ 60 → m'.1 k = m.1 k) → m'.2 = m.2 → (∀ j : Nat, j < 7 → m'.1 60 j = x1) → Q m') : c_J7_fill_60 1 x1 m Q := by
  have e : (7 : Int32).toInt = 7 := by decide
  have loop : ∀ (f i : Nat) (x3 : Int32) (M : dM), i + f = 7 → x3.toInt = i → (∀ k : Nat, k ≠ 60 → M.1 k = m.1 k) → M.2 = m.2 → (∀ j : Nat, j < i → M.1 60 j = x1) → j_J7_fill_60_5 1 x1 x3 (7 : Int32) M Q := by
    intro f
    induction f with
    | zero => intro i x3 M hi h3 hF h2 hv; exact v_J7_fill_60_5 ⟨fun _ => hQ M hF h2 (fun j hj => hv j (by omega)), fun q => by exfalso; omega⟩
    | succ f ih =>
      intro i x3 M hi h3 hF h2 hv
      refine v_J7_fill_60_5 ⟨fun q => by exfalso; omega, fun _ => ⟨by omega, ?_⟩⟩
      rw [d_cn h3]
      refine ih (i + 1) _ _ (by omega) (d_inc h3 (by omega)) (fun k hk => by rw [dSet_k hk]; exact hF k hk) h2 (fun j hj => ?_)
      by_cases q : j = i
      · subst q; rw [dSet_s]
      · rw [dSet_j q]; exact hv j (by omega)
  exact v_J7_fill_60 (loop 7 0 _ m (by omega) (by decide) (fun _ _ => rfl) rfl (fun j hj => absurd hj (Nat.not_lt_zero j)))
end
section
/-! THE CLASS's ways, exactly -/
theorem y_has {x0 x1 : Int32} {k : Nat} {m : dM} {Q : Int32 → dM → Prop} (h1 : x1.toInt = (k : Int)) (hk : k < 32) (hT : bt x0 k = true → Q 1 m) (hF : bt x0 k = false → Q 0 m) : c_X11_has 1 x0 x1 m Q := by
  have e := bt_u (x := x0) h1 hk
  cases q : bt x0 k with
  | true =>
    rw [q, if_pos rfl] at e
    exact v_X11_has ⟨fun z => by exfalso; omega, fun _ => hT q⟩
  | false =>
    rw [q, if_neg (by decide)] at e
    exact v_X11_has ⟨fun _ => hF q, fun z => by exfalso; omega⟩
/-- how far, as the one writes it -/
def ewy (x : Nat) : Int := if x = 99 then -1 else x
theorem ewy_99 {x : Nat} : ewy x = -1 ↔ x = 99 := by unfold ewy; split <;> omega
theorem ewy_n {x n : Nat} (hn : n < 99) : ewy x = n ↔ x = n := by unfold ewy; split <;> omega
/-- the house, as far as ways know of it -/
def HW (nf nw : Nat) (e1 e2 : Nat → Nat) (m : dM) : Prop := ((m.1 2 0).toInt = (nf : Int) ∧ nf ≤ 7) ∧ ((m.1 2 1).toInt = (nw : Int) ∧ nw ≤ 10) ∧ ∀ w : Nat, w < nw → ((m.1 4 w).toInt = (e1 w : Int) ∧ (m.1 5 w).toInt = (e2 w : Int)) ∧ e1 w < nf ∧ e2 w < nf ∧ e1 w ≠ e2 w
/-- ways laid as far as d tells -/
def WyR (nf nw : Nat) (e1 e2 : Nat → Nat) (G : Nat → Bool) (d : Nat → Nat) (m : dM) : Prop :=
  (∀ f : Nat, f < nf → (m.1 59 f).toInt = ewy (d f)) ∧
  (∀ f : Nat, f < nf → m.1 60 f = if d f = 99 then 0 else via nf nw e1 e2 G f) ∧
  (∀ f : Nat, f < nf → d f ≠ 99 → d f ≠ 0 → (m.1 58 f).toInt = (nx nf nw e1 e2 G f : Int)) ∧
  (∀ i : Nat, i < 32 → bt (m.1 57 5) i = (decide (i < nf) && decide (d i ≠ 99)))
def LyF (m0 m : dM) : Prop := (∀ k : Nat, (k < 57 ∨ 60 < k) → m.1 k = m0.1 k) ∧ (∀ j : Nat, j ≠ 1 → j ≠ 5 → m.1 57 j = m0.1 57 j) ∧ m.2 = m0.2
theorem LyF.rf (m : dM) : LyF m m := ⟨fun _ _ => rfl, fun _ _ _ => rfl, rfl⟩
theorem LyF.tr {a b c : dM} (h : LyF a b) (h' : LyF b c) : LyF a c := ⟨fun k q => (h'.1 k q).trans (h.1 k q), fun j q1 q2 => (h'.2.1 j q1 q2).trans (h.2.1 j q1 q2), h'.2.2.trans h.2.2⟩
theorem LyF.set {a b : dM} {k j : Nat} {v : Int32} (h : LyF a b) (hk : 58 ≤ k ∧ k ≤ 60) : LyF a (dSet b k j v) := ⟨fun c q => by rw [dSet_k (by omega)]; exact h.1 c q, fun i q1 q2 => by rw [dSet_k (by omega)]; exact h.2.1 i q1 q2, h.2.2⟩
theorem LyF.set57 {a b : dM} {j : Nat} {v : Int32} (h : LyF a b) (hj : j = 1 ∨ j = 5) : LyF a (dSet b 57 j v) := ⟨fun c q => by rw [dSet_k (by omega)]; exact h.1 c q, fun i q1 q2 => by rw [dSet_j (by omega)]; exact h.2.1 i q1 q2, h.2.2⟩
section CLY
variable {nf nw : Nat} {e1 e2 : Nat → Nat} {G : Nat → Bool}
theorem HW.lf {m m' : dM} (h : HW nf nw e1 e2 m) (hF : LyF m m') : HW nf nw e1 e2 m' := by
  unfold HW
  rw [hF.1 2 (by omega), hF.1 4 (by omega), hF.1 5 (by omega)]
  exact h
theorem HW.ends {m : dM} (h : HW nf nw e1 e2 m) : ∀ w : Nat, w < nw → e1 w < nf ∧ e2 w < nf := fun w hw => ⟨(h.2.2 w hw).2.1, (h.2.2 w hw).2.2.1⟩
theorem WyR.congr {d d' : Nat → Nat} {m : dM} (h : WyR nf nw e1 e2 G d m) (e : ∀ f : Nat, d' f = d f) : WyR nf nw e1 e2 G d' m := by
  have : d' = d := funext e
  rw [this]
  exact h
/-- f0 is reached by wire k, from g0 -/
theorem WyR.new {n k f0 g0 : Nat} {x1 x2 : Int32} {m : dM} (hH : HW nf nw e1 e2 m) (h : WyR nf nw e1 e2 G (dsk nf nw e1 e2 G n k) m) (hn : n < 6) (hk : k < nw) (hx1 : x1.toInt = (k : Int)) (hx2 : x2.toInt = ((n + 1 : Nat) : Int)) (hG : G k = false) (hE : (e1 k = f0 ∧ e2 k = g0) ∨ (e2 k = f0 ∧ e1 k = g0)) (hf : dsk nf nw e1 e2 G n k f0 = 99) (hg : dst nf nw e1 e2 G n g0 = n) (v : Int32) (hv : v.toInt = (f0 : Int)) :
    WyR nf nw e1 e2 G (dsk nf nw e1 e2 G n (k + 1)) (dSet (dSet (dSet (dSet m 59 f0 x2) 58 f0 x1) 60 f0 ((m.1 60 g0) ||| ((1 : Int32) <<< (x1 &&& 31)))) 57 5 ((m.1 57 5) ||| ((1 : Int32) <<< (v &&& 31)))) := by
  obtain ⟨hnf, hnw, hwe⟩ := hH
  obtain ⟨_, q1, q2, q3⟩ := hwe k hk
  have hf0 : f0 < nf := by omega
  have hg0 : g0 < nf := by omega
  have hot : ot e1 e2 k f0 = g0 := by unfold ot; split <;> omega
  have hbr : br e1 e2 G (dst nf nw e1 e2 G n) n f0 k = true := by
    unfold br tch
    rw [hG, hot, hg]
    rcases hE with q | q <;> simp [q.1]
  obtain ⟨nD, nX⟩ := dsk_new hn hk hf hbr
  have hd0 : dsk nf nw e1 e2 G n (k + 1) f0 = n + 1 := by rw [dsk_s (by omega), if_pos ⟨hf, hbr⟩]
  have hd : ∀ f : Nat, f ≠ f0 → dsk nf nw e1 e2 G n (k + 1) f = dsk nf nw e1 e2 G n k f := fun f hne => by
    rw [dsk_s (by omega), if_neg]
    rintro ⟨a, b⟩
    unfold br tch at b
    rw [Bool.and_eq_true, decide_eq_true_eq, Bool.and_eq_true, Bool.or_eq_true, decide_eq_true_eq, decide_eq_true_eq] at b
    have hfg : f = g0 := by omega
    rw [hfg] at a
    have := (dsk_lvl (k := k) (f := g0) (nf := nf) (nw := nw) (e1 := e1) (e2 := e2) (G := G) (by omega : n < 98)).mpr hg
    omega
  have hgk := (dsk_lvl (k := k) (f := g0) (nf := nf) (nw := nw) (e1 := e1) (e2 := e2) (G := G) (by omega : n < 98)).mpr hg
  have hv60 : m.1 60 g0 = via nf nw e1 e2 G g0 := by rw [h.2.1 g0 hg0, if_neg (by omega)]
  have hvia : via nf nw e1 e2 G f0 = via nf nw e1 e2 G g0 ||| b1 k := by rw [via_s hn nD, nX, hot, Int32.or_comm]
  rw [b1_of hx1, b1_of hv, hv60]
  refine ⟨fun f hf' => ?_, fun f hf' => ?_, fun f hf' a b => ?_, fun i hi => ?_⟩
  · rw [dSet_k (by decide), dSet_k (by decide), dSet_k (by decide)]
    by_cases e : f = f0
    · subst e; rw [dSet_s, hx2, hd0, (ewy_n (by omega)).mpr rfl]
    · rw [dSet_j e, hd f e]; exact h.1 f hf'
  · rw [dSet_k (by decide)]
    by_cases e : f = f0
    · subst e; rw [dSet_s, hd0, if_neg (by omega), hvia]
    · rw [dSet_j e, dSet_k (by decide), dSet_k (by decide), hd f e]; exact h.2.1 f hf'
  · rw [dSet_k (by decide), dSet_k (by decide)]
    by_cases e : f = f0
    · subst e; rw [dSet_s, hx1, nX]
    · rw [dSet_j e, dSet_k (by decide)]
      rw [hd f e] at a b
      exact h.2.2.1 f hf' a b
  · rw [dSet_s, bt_or, h.2.2.2 i hi, bt_1 (by omega)]
    by_cases e : i = f0
    · subst e
      rw [hd0]
      have n99 : n + 1 ≠ 99 := by omega
      simp [hf0, n99]
    · rw [hd i e]
      simp [e]
theorem y_reachBy {n k : Nat} {x1 x2 : Int32} {m : dM} {Q : dM → Prop} (hH : HW nf nw e1 e2 m) (h : WyR nf nw e1 e2 G (dsk nf nw e1 e2 G n k) m) (hn : n < 6) (hk : k < nw) (hx1 : x1.toInt = (k : Int)) (hx2 : x2.toInt = ((n + 1 : Nat) : Int)) (hG : G k = false) (hQ : ∀ m' : dM, LyF m m' → (m'.1 57 1 = m.1 57 1) → WyR nf nw e1 e2 G (dsk nf nw e1 e2 G n (k + 1)) m' → Q m') : c_X10_reachBy_57 1 x1 x2 m Q := by
  have hnf := hH.1
  have hnw := hH.2.1
  obtain ⟨⟨w1, w2⟩, q1, q2, q3⟩ := hH.2.2 k hk
  have ec := d_cn hx1
  have f := dSubE (X := x2.toInt) (Y := 1) (x := x2) (y := (1 : Int32)) rfl (by decide) (by omega) (by omega)
  have a1 := h.1 (e1 k) q1
  have a2 := h.1 (e2 k) q2
  have l1 := dsk_lvl (k := k) (f := e1 k) (nf := nf) (nw := nw) (e1 := e1) (e2 := e2) (G := G) (by omega : n < 98)
  have l2 := dsk_lvl (k := k) (f := e2 k) (nf := nf) (nw := nw) (e1 := e1) (e2 := e2) (G := G) (by omega : n < 98)
  have n1 := ewy_n (x := dsk nf nw e1 e2 G n k (e1 k)) (n := n) (by omega)
  have n2 := ewy_n (x := dsk nf nw e1 e2 G n k (e2 k)) (n := n) (by omega)
  have z1 := ewy_99 (x := dsk nf nw e1 e2 G n k (e1 k))
  have z2 := ewy_99 (x := dsk nf nw e1 e2 G n k (e2 k))
  have same : (∀ f0 : Nat, ¬ (dsk nf nw e1 e2 G n k f0 = 99 ∧ br e1 e2 G (dst nf nw e1 e2 G n) n f0 k = true)) → j_X10_reachBy_57_151 1 m Q := fun no => v_X10_reachBy_57_151 (hQ m (LyF.rf m) rfl (h.congr (fun f0 => by rw [dsk_s (by omega), if_neg (no f0)])))
  have brE : ∀ f0 : Nat, br e1 e2 G (dst nf nw e1 e2 G n) n f0 k = true → (f0 = e1 k ∧ dst nf nw e1 e2 G n (e2 k) = n) ∨ (f0 = e2 k ∧ dst nf nw e1 e2 G n (e1 k) = n) := fun f0 b => by
    unfold br tch ot at b
    rw [Bool.and_eq_true, decide_eq_true_eq, Bool.and_eq_true, Bool.or_eq_true, decide_eq_true_eq, decide_eq_true_eq] at b
    obtain ⟨⟨_, b1'⟩, b2'⟩ := b
    by_cases e : e1 k = f0
    · rw [if_pos e] at b2'; exact Or.inl ⟨e.symm, b2'⟩
    · rw [if_neg e] at b2'; exact Or.inr ⟨by omega, b2'⟩
  have c1 := d_cn w1
  have c2 := d_cn w2
  refine v_X10_reachBy_57 ?_
  rw [ec, c1, c2]
  rw [a1, a2] at *
  refine ⟨by omega, by omega, fun ne => ⟨by omega, by omega, by omega, fun n9 => same ?_, fun e9 => ⟨by omega, fun ne2 => same ?_, fun ee2 => ⟨by omega, by omega, by omega, by omega, v_X10_reachBy_57_151 (hQ _ ?_ ?_ ?_)⟩⟩⟩, fun ee => ⟨by omega, by omega, by omega, fun n9 => same ?_, fun e9 => ⟨by omega, fun ne2 => by exfalso; omega, fun ee2 => ⟨by omega, by omega, by omega, by omega, v_X10_reachBy_57_151 (hQ _ ?_ ?_ ?_)⟩⟩⟩⟩
  · rintro f0 ⟨b, c⟩
    rcases brE f0 c with ⟨d, e⟩ | ⟨d, e⟩
    · subst d; exact n9 (z1.mpr b)
    · have := l1.mpr e
      have := n1.mpr this
      omega
  · rintro f0 ⟨b, c⟩
    rcases brE f0 c with ⟨d, e⟩ | ⟨d, e⟩
    · have := n2.mpr (l2.mpr e)
      omega
    · have := n1.mpr (l1.mpr e)
      omega
  · exact (((LyF.rf m).set (by decide)).set (by decide)).set (by decide) |>.set57 (Or.inr rfl)
  · rfl
  · exact h.new hH hn hk hx1 hx2 hG (Or.inl ⟨rfl, rfl⟩) (z1.mp e9) (l2.mp (n2.mp (by omega))) _ w1
  · rintro f0 ⟨b, c⟩
    rcases brE f0 c with ⟨d, e⟩ | ⟨d, e⟩
    · subst d
      have := n1.mp (by omega)
      omega
    · subst d; exact n9 (z2.mpr b)
  · exact (((LyF.rf m).set (by decide)).set (by decide)).set (by decide) |>.set57 (Or.inr rfl)
  · rfl
  · exact h.new hH hn hk hx1 hx2 hG (Or.inr ⟨rfl, rfl⟩) (z2.mp e9) (l1.mp (n1.mp (by omega))) _ w2
/-- what is laid is right for what it was laid for -/
def WI (nf nw : Nat) (e1 e2 : Nat → Nat) (m : dM) : Prop := (m.1 57 1).toInt ≠ -1 → WyR nf nw e1 e2 (bt (m.1 57 1)) (dD nf nw e1 e2 (bt (m.1 57 1))) m
theorem y_lay {x1 : Int32} {m : dM} {Q : dM → Prop} (hH : HW nf nw e1 e2 m) (hI : WI nf nw e1 e2 m) (hx : x1.toInt ≠ -1) (hQ : ∀ m' : dM, LyF m m' → m'.1 57 1 = x1 → WyR nf nw e1 e2 (bt x1) (dD nf nw e1 e2 (bt x1)) m' → Q m') : c_X10_lay_57 2 x1 m Q := by
  have hnf := hH.1
  have hnw := hH.2.1
  have hE := hH.ends
  generalize hG : bt x1 = G at hQ
  have fin : ∀ M : dM, LyF m M → M.1 57 1 = x1 → WyR nf nw e1 e2 G (dD nf nw e1 e2 G) M → j_X10_lay_57_128 2 M Q := fun M a b c => v_X10_lay_57_128 (hQ M a b c)
  have l58 : ∀ (r n : Nat) (x2 : Int32) (M : dM), n + r = 7 → x2.toInt = ((n + 1 : Nat) : Int) → LyF m M → M.1 57 1 = x1 → (0 < nf → n + 1 ≤ cn (rcd (dst nf nw e1 e2 G n)) nf) → WyR nf nw e1 e2 G (dst nf nw e1 e2 G n) M → j_X10_lay_57_58 2 x1 x2 M Q := by
    intro r
    induction r with
    | zero =>
      intro n x2 M hr h2 hF h1 hc hW
      have e20 : (M.1 2 0).toInt = (nf : Int) := by rw [hF.1 2 (by omega)]; exact hnf.1
      have := cn_le (p := rcd (dst nf nw e1 e2 G n)) nf
      refine v_X10_lay_57_58 ⟨fun q => ?_, fun q => by exfalso; have := hc (by omega); omega⟩
      by_cases z : nf = 0
      · exact fin M hF h1 ⟨fun f hf => by omega, fun f hf => by omega, fun f hf => by omega, fun i hi => by rw [hW.2.2.2 i hi]; simp [z]⟩
      · exfalso; have := hc (by omega); omega
    | succ r ih =>
      intro n x2 M hr h2 hF h1 hc hW
      have hHM := hH.lf hF
      have e20 : (M.1 2 0).toInt = (nf : Int) := hHM.1.1
      refine v_X10_lay_57_58 ⟨fun q => ?_, fun q => ?_⟩
      · by_cases z : nf = 0
        · exact fin M hF h1 ⟨fun f hf => by omega, fun f hf => by omega, fun f hf => by omega, fun i hi => by rw [hW.2.2.2 i hi]; simp [z]⟩
        · exact fin M hF h1 (hW.congr (fun f => (dst_end hE (by omega) (hc (by omega)) (by omega) f).symm))
      · have hc := hc (by omega)
        have l77 : ∀ (u k : Nat) (x4 : Int32) (M1 : dM), k + u = nw → x4.toInt = (k : Int) → LyF m M1 → M1.1 57 1 = x1 → WyR nf nw e1 e2 G (dsk nf nw e1 e2 G n k) M1 → j_X10_lay_57_77 2 x1 x2 (M.1 57 5) x4 M1 Q := by
          intro u
          induction u with
          | zero =>
            intro k x4 M1 hk h4 hF1 h11 hW1
            have ek : k = nw := by omega
            subst ek
            have e21 : (M1.1 2 1).toInt = (k : Int) := (hH.lf hF1).2.1.1
            have hW1 : WyR nf k e1 e2 G (dst nf k e1 e2 G (n + 1)) M1 := hW1.congr (fun f => dsk_w.symm)
            refine v_X10_lay_57_77 ⟨fun _ => ⟨fun ne => ?_, fun ee => ?_⟩, fun q => by exfalso; omega⟩
            · refine ih (n + 1) _ M1 (by omega) (d_inc h2 (by omega)) hF1 h11 (fun _ => ?_) hW1
              have ex : ∃ j : Nat, dst nf k e1 e2 G (n + 1) j ≠ dst nf k e1 e2 G n j := by
                refine Classical.byContradiction (fun no => ne ?_)
                have eq : M1.1 57 5 = M.1 57 5 := bt_ext (fun i hi => by
                  rw [hW1.2.2.2 i hi, hW.2.2.2 i hi]
                  have : dst nf k e1 e2 G (n + 1) i = dst nf k e1 e2 G n i := Classical.byContradiction (fun z => no ⟨i, z⟩)
                  rw [this])
                rw [eq]
              obtain ⟨j, hj⟩ := ex
              exact dst_grow hE hc hj
            · have all : ∀ f : Nat, dst nf k e1 e2 G (n + 1) f = dst nf k e1 e2 G n f := fun f => by
                by_cases z : f < nf
                · have b1' := hW1.2.2.2 f (by omega)
                  have b2' := hW.2.2.2 f (by omega)
                  have : M1.1 57 5 = M.1 57 5 := Int32.toInt_inj.mp ee
                  rw [this, b2'] at b1'
                  by_cases y : dst nf k e1 e2 G n f = 99
                  · rw [y] at b1' ⊢
                    by_cases y2 : dst nf k e1 e2 G (n + 1) f = 99
                    · exact y2
                    · exfalso; simp [z, y2] at b1'
                  · exact dst_keep y 1
                · rw [dst_far hE (by omega), dst_far hE (by omega)]
              exact fin M1 hF1 h11 (hW1.congr (fun f => (dst_end0 (by omega) all f).symm))
          | succ u ih2 =>
            intro k x4 M1 hk h4 hF1 h11 hW1
            have hH1 := hH.lf hF1
            have e21 : (M1.1 2 1).toInt = (nw : Int) := hH1.2.1.1
            have on : ∀ M2 : dM, LyF m M2 → M2.1 57 1 = x1 → WyR nf nw e1 e2 G (dsk nf nw e1 e2 G n (k + 1)) M2 → j_X10_lay_57_105 2 x1 x2 (M.1 57 5) x4 M2 Q := fun M2 a b c => v_X10_lay_57_105 (ih2 (k + 1) _ M2 (by omega) (d_inc h4 (by omega)) a b c)
            refine v_X10_lay_57_77 ⟨fun q => by exfalso; omega, fun _ => y_has h4 (by omega) (fun hg => ⟨fun _ => on M1 hF1 h11 (hW1.congr (fun f => ?_)), fun q => absurd q (by decide)⟩) (fun hg => ⟨fun q => absurd rfl q, fun _ => ?_⟩)⟩
            · rw [dsk_s (by omega), if_neg]
              rintro ⟨_, b⟩
              unfold br tch at b
              rw [← hG, hg] at b
              simp at b
            · exact y_reachBy hH1 hW1 (by omega) (by omega) h4 h2 (by rw [← hG]; exact hg) (fun M2 a b c => on M2 (hF1.tr a) (b.trans h11) c)
        exact l77 nw 0 _ M (by omega) (by decide) hF h1 (hW.congr (fun f => dsk_0))
  have start : ∀ (v : Int32) (M0 : dM), LyF m M0 → M0.1 57 1 = x1 → (∀ i : Nat, i < 32 → bt (M0.1 57 5) i = (decide (i < nf) && decide (dst nf nw e1 e2 G 0 i ≠ 99))) → c_J7_fill_59 1 (-1 : Int32) M0 (fun m1 => c_J7_fill_60 1 (0 : Int32) m1 (fun m2 => j_X10_lay_57_58 2 x1 (1 : Int32) (dSet m2 59 0 (0 : Int32)) Q)) := by
    intro v M0 hF h1 hl
    refine y_fill59 (fun m1 a1 a2 a3 => y_fill60 (fun m2 b1' b2' b3' => ?_))
    have F1 : LyF m m1 := ⟨fun k hk => by rw [a1 k (by omega)]; exact hF.1 k hk, fun j q1 q2 => by rw [a1 57 (by decide)]; exact hF.2.1 j q1 q2, a2.trans hF.2.2⟩
    have F2 : LyF m m2 := ⟨fun k hk => by rw [b1' k (by omega)]; exact F1.1 k hk, fun j q1 q2 => by rw [b1' 57 (by decide)]; exact F1.2.1 j q1 q2, b2'.trans F1.2.2⟩
    refine l58 7 0 _ _ rfl (by decide) (F2.set (by decide)) ?_ (fun hp => ?_) ⟨fun f hf => ?_, fun f hf => ?_, fun f hf p q => ?_, fun i hi => ?_⟩
    · rw [dSet_k (by decide), b1' 57 (by decide), a1 57 (by decide)]; exact h1
    · exact cn_pos (j := 0) (by unfold rcd dst; simp [hp]) nf hp
    · by_cases e : f = 0
      · subst e
        rw [dSet_s]
        unfold dst
        rw [if_pos ⟨rfl, hf⟩]
        decide
      · rw [dSet_j e, b1' 59 (by decide), a3 f (by omega)]
        unfold dst
        rw [if_neg (fun q => e q.1)]
        decide
    · rw [dSet_k (by decide), b3' f (by omega)]
      by_cases e : f = 0
      · subst e
        have d0 : dst nf nw e1 e2 G 0 0 = 0 := by unfold dst; rw [if_pos ⟨rfl, hf⟩]
        rw [d0, if_neg (by decide), via_0 ((dD_lvl (by omega)).mpr d0)]
      · have d9 : dst nf nw e1 e2 G 0 f = 99 := by unfold dst; rw [if_neg (fun q => e q.1)]
        rw [d9, if_pos rfl]
    · exfalso
      unfold dst at p q
      by_cases e : f = 0 ∧ 0 < nf
      · rw [if_pos e] at q; exact q rfl
      · rw [if_neg e] at p; exact p rfl
    · rw [dSet_k (by decide), b1' 57 (by decide), a1 57 (by decide)]
      exact hl i hi
  refine v_X10_lay_57 ⟨fun ne => ⟨fun q => start 0 _ (((LyF.rf m).set57 (Or.inl rfl)).set57 (Or.inr rfl)) rfl (fun i hi => ?_), fun q => start 1 _ (((LyF.rf m).set57 (Or.inl rfl)).set57 (Or.inr rfl)) rfl (fun i hi => ?_)⟩, fun ee => ?_⟩
  · rw [dSet_s, bt_0]
    have : ¬ i < nf := by omega
    simp [this]
  · rw [dSet_s]
    have e := bt_1 (u := 0) (i := i) (by decide)
    rw [show b1 0 = (1 : Int32) by decide] at e
    rw [e]
    unfold dst
    by_cases z : i = 0
    · subst z
      have : 0 < nf := by omega
      simp [this]
    · rw [if_neg (fun q => z q.1)]
      simp [z]
  · have e : x1 = m.1 57 1 := Int32.toInt_inj.mp ee
    have := hI (by rw [← e]; exact hx)
    rw [← e, hG] at this
    exact hQ m (LyF.rf m) e.symm this
end CLY
end
section
/-! THE REFERENCE's ways, exactly -/
theorem y_in {x0 x1 x2 : Int32} {m : dM} {Q : Int32 → dM → Prop} (hT : x1.toInt ≤ x0.toInt ∧ x0.toInt ≤ x2.toInt → Q 1 m) (hF : ¬ (x1.toInt ≤ x0.toInt ∧ x0.toInt ≤ x2.toInt) → Q 0 m) : c_X12_in 1 x0 x1 x2 m Q :=
  v_X12_in ⟨fun q => v_X12_in_14 (hF (by omega)), fun q => ⟨fun q2 => v_X12_in_14 (hF (by omega)), fun q2 => hT ⟨q, q2⟩⟩⟩
theorem y_idx {a x c : Int32} {C s w : Nat} (hc : c.toInt = (C : Int)) (ha : a.toInt = (s : Int)) (hs : s ≤ 1) (hx : x.toInt = (w : Int)) (hC : C ≤ 10) (hw : w ≤ 1000) : (c * a + x).toInt = ((C * s + w : Nat) : Int) := by
  have hm : (c * a).toInt = (C * s : Nat) := by
    have h0 : C * s ≤ 10 := by
      match s, hs with
      | 0, _ => simp
      | 1, _ => simpa using hC
    rw [Int.natCast_mul]
    exact dMulE hc ha (by rw [← Int.natCast_mul]; omega) (by rw [← Int.natCast_mul]; omega)
  have hm0 : C * s ≤ 10 := by
    match s, hs with
    | 0, _ => simp
    | 1, _ => simpa using hC
  have := dAddE (X := ((C * s : Nat) : Int)) (Y := (w : Int)) hm hx (by omega) (by omega)
  omega
/-- the house, as far as ways know of it -/
def HR (nf nw : Nat) (e1 e2 : Nat → Nat) (s : Nat) (m : dM) : Prop := ((m.1 70 18).toInt = (s : Int) ∧ s ≤ 1) ∧ ((m.1 80 s).toInt = (nf : Int) ∧ nf ≤ 7) ∧ ((m.1 82 s).toInt = (nw : Int) ∧ nw ≤ 10) ∧ ∀ w : Nat, w < nw → ((m.1 83 (10 * s + w)).toInt = (e1 w : Int) ∧ (m.1 84 (10 * s + w)).toInt = (e2 w : Int)) ∧ e1 w < nf ∧ e2 w < nf ∧ e1 w ≠ e2 w
def RG (nw : Nat) (G : Nat → Bool) (m : dM) : Prop := ∀ w : Nat, w < nw → (m.1 108 (10 + w)).toInt = if G w then 1 else 0
section RLY
variable {nf nw s : Nat} {e1 e2 : Nat → Nat} {G : Nat → Bool}
theorem y_isWire {x1 : Int32} {m : dM} {Q : Int32 → dM → Prop} (hH : HR nf nw e1 e2 s m) (hT : 0 ≤ x1.toInt ∧ x1.toInt < nw → Q 1 m) (hF : ¬ (0 ≤ x1.toInt ∧ x1.toInt < nw) → Q 0 m) : c_X12_isWire_70 2 x1 m Q := by
  have a := hH.1
  have b := hH.2.2.1
  have f := dSubE (X := (nw : Int)) (Y := 1) (x := m.1 82 s) (y := (1 : Int32)) b.1 (by decide) (by omega) (by omega)
  refine v_X12_isWire_70 ⟨by omega, ?_⟩
  rw [d_cn a.1]
  have z : (0 : Int32).toInt = 0 := by decide
  exact y_in (fun q => ⟨Or.inr rfl, hT (by omega)⟩) (fun q => ⟨Or.inl rfl, hF (by omega)⟩)
theorem y_isWhole {x1 : Int32} {w : Nat} {m : dM} {Q : Int32 → dM → Prop} (hH : HR nf nw e1 e2 s m) (hG : RG nw G m) (hx : x1.toInt = (w : Int)) (hw : w < nw) (hT : G w = false → Q 1 m) (hF : G w = true → Q 0 m) : c_X12_isWhole_70 3 x1 m Q := by
  have b := hH.2.2.1
  refine v_X12_isWhole_70 (y_isWire hH (fun _ => ⟨fun q => absurd q (by decide), fun _ => ?_⟩) (fun q => by exfalso; omega))
  have e := d_add (k := x1) (K := w) (x := (10 : Int32)) (i := 10) (by decide) hx (by omega)
  have g := hG w hw
  refine ⟨by omega, ?_⟩
  rw [d_cn e, g]
  cases q : G w with
  | true => exact ⟨fun _ => v_X12_isWhole_70_24 (hF q), fun z => absurd z (by decide)⟩
  | false => exact ⟨fun z => absurd rfl z, fun _ => hT q⟩
theorem y_otherEnd {x1 x2 : Int32} {w f : Nat} {m : dM} {Q : Int32 → dM → Prop} (hH : HR nf nw e1 e2 s m) (hx : x1.toInt = (w : Int)) (hw : w < nw) (hf : x2.toInt = (f : Int)) (hT : ∀ r : Int32, (e1 w = f ∨ e2 w = f) → r.toInt = (ot e1 e2 w f : Int) → Q r m) (hF : ¬ (e1 w = f ∨ e2 w = f) → Q (-1) m) : c_X12_otherEnd_70 1 x1 x2 m Q := by
  have a := hH.1
  have b := hH.2.2.1
  obtain ⟨⟨w1, w2⟩, q1, q2, q3⟩ := hH.2.2.2 w hw
  have e := y_idx (C := 10) (c := (10 : Int32)) (by decide) a.1 a.2 hx (by decide) (by omega)
  refine v_X12_otherEnd_70 ?_
  rw [d_cn e, w1, w2]
  refine ⟨by omega, fun n1 => ⟨by omega, fun n2 => hF (by omega), fun n2 => ⟨by omega, hT _ (by omega) ?_⟩⟩, fun n1 => ⟨by omega, hT _ (by omega) ?_⟩⟩
  · unfold ot
    rw [w1, if_neg (by omega)]
  · unfold ot
    rw [w2, if_pos (by omega)]
/-- how far all are, and their ways -/
def RyF (d : Nat → Nat) (m : dM) : Prop := ∀ f : Nat, f < 7 → (m.1 109 f).toInt = (d f : Int)
theorem y_wireFrom {x1 : Int32} {n f : Nat} {m : dM} {Q : Int32 → dM → Prop} (hH : HR nf nw e1 e2 s m) (hG : RG nw G m) (hD : RyF (dD nf nw e1 e2 G) m) (hx : x1.toInt = (f : Int)) (hf : f < 7) (hn : n < 6) (hf1 : dD nf nw e1 e2 G f = n + 1) (hQ : ∀ r : Int32, r.toInt = (nx nf nw e1 e2 G f : Int) → Q r m) : c_X12_wireFrom_70 4 x1 m Q := by
  have a := hH.1
  have b := hH.2.2.1
  have ok := nx_ok hn hf1
  have loop : ∀ (u k : Nat) (x2 : Int32), k + u = nw → x2.toInt = (k : Int) → (∀ j : Nat, j < k → nxp nf nw e1 e2 G f j = false) → j_X12_wireFrom_70_2 4 x1 x2 m Q := by
    intro u
    induction u with
    | zero =>
      intro k x2 hk h2 hno
      exfalso
      have := hno (nx nf nw e1 e2 G f) (by omega)
      have z : nxp nf nw e1 e2 G f (nx nf nw e1 e2 G f) = true := by
        unfold nxp
        rw [Bool.and_eq_true, decide_eq_true_eq]
        exact ⟨ok.2.1, by omega⟩
      rw [this] at z
      cases z
    | succ u ih =>
      intro k x2 hk h2 hno
      have on : nxp nf nw e1 e2 G f k = false → j_X12_wireFrom_70_56 4 x1 x2 m Q := fun q => v_X12_wireFrom_70_56 (ih (k + 1) _ (by omega) (d_inc h2 (by omega)) (fun j hj => by
        by_cases e : j = k
        · rw [e]; exact q
        · exact hno j (by omega)))
      refine v_X12_wireFrom_70_2 ?_
      rw [d_cn a.1, b.1, h2]
      refine ⟨by omega, fun q => by exfalso; omega, fun _ => y_isWhole hH hG h2 (by omega) (fun hg => ⟨fun _ => ?_, fun q => absurd q (by decide)⟩) (fun hg => ⟨fun q => absurd rfl q, fun _ => on ?_⟩)⟩
      · refine Wp.deep (y_otherEnd hH h2 (by omega) hx (fun r ht hr => ⟨fun q => by exfalso; omega, fun _ => ?_⟩) (fun no => ⟨fun _ => on ?_, fun q => absurd q (by decide)⟩)) (Nat.le_of_ble_eq_true rfl)
        · have hE := (hH.2.2.2 k (by omega)).2
          have ho : ot e1 e2 k f < 7 := by unfold ot; have := hH.2.1.2; split <;> omega
          have d1 := hD _ ho
          have d2 := hD f hf
          have fs := dSubE (X := ((n + 1 : Nat) : Int)) (Y := 1) (x := m.1 109 f) (y := (1 : Int32)) (by rw [d2, hf1]) (by decide) (by omega) (by omega)
          rw [d_cn hr, d_cn hx, d1, fs]
          have tc : tch e1 e2 G k f = true := by unfold tch; rw [hg]; rcases ht with q | q <;> simp [q]
          refine ⟨by omega, by omega, fun ne => on ?_, fun ee => hQ x2 ?_⟩
          · unfold nxp
            rw [tc, Bool.true_and]
            exact decide_eq_false (by omega)
          · rw [h2]
            have := fw_eq (p := nxp nf nw e1 e2 G f) (i := k) (by unfold nxp; rw [tc, Bool.true_and]; exact decide_eq_true (by omega)) hno nw (by omega)
            unfold nx
            rw [this]
        · unfold nxp tch
          simp only [not_or] at no
          simp [no.1, no.2]
      · unfold nxp tch
        rw [hg]
        simp
  exact v_X12_wireFrom_70 (loop nw 0 _ (by omega) (by decide) (fun j hj => absurd hj (Nat.not_lt_zero j)))
def RLF (m0 m : dM) : Prop := (∀ k : Nat, k ≠ 109 → k ≠ 110 → m.1 k = m0.1 k) ∧ m.2 = m0.2
theorem HR.rf {m m' : dM} (h : HR nf nw e1 e2 s m) (hF : RLF m m') : HR nf nw e1 e2 s m' := by
  unfold HR
  rw [hF.1 70 (by decide) (by decide), hF.1 80 (by decide) (by decide), hF.1 82 (by decide) (by decide), hF.1 83 (by decide) (by decide), hF.1 84 (by decide) (by decide)]
  exact h
theorem RG.rf {m m' : dM} (h : RG nw G m) (hF : RLF m m') : RG nw G m' := by
  unfold RG
  rw [hF.1 108 (by decide) (by decide)]
  exact h
theorem RLF.set {m0 m : dM} {k j : Nat} {v : Int32} (h : RLF m0 m) (hk : k = 109 ∨ k = 110) : RLF m0 (dSet m k j v) := ⟨fun a h1 h2 => by rw [dSet_k (by omega)]; exact h.1 a h1 h2, h.2⟩
theorem RyF.congr {d d' : Nat → Nat} {m : dM} (h : RyF d m) (e : ∀ f : Nat, d' f = d f) : RyF d' m := fun f hf => by rw [e f]; exact h f hf
theorem y_fillsWays {m : dM} {Q : dM → Prop} (hH : HR nf nw e1 e2 s m) (hG : RG nw G m) (hQ : ∀ m' : dM, RLF m m' → RyF (dD nf nw e1 e2 G) m' → (∀ f : Nat, f < 7 → m'.1 110 f = via nf nw e1 e2 G f) → Q m') : c_X12_fillsWays_70 5 m Q := by
  have a := hH.1
  have hnf := hH.2.1
  have hnw := hH.2.2.1
  have hE : ∀ w : Nat, w < nw → e1 w < nf ∧ e2 w < nf := fun w hw => ⟨(hH.2.2.2 w hw).2.1, (hH.2.2.2 w hw).2.2.1⟩
  -- the ways
  have l191 : ∀ (u n : Nat) (x1 : Int32) (M : dM), n + u = 7 → 1 ≤ n → x1.toInt = (n : Int) → RLF m M → RyF (dD nf nw e1 e2 G) M → (∀ g : Nat, g < 7 → M.1 110 g = if dD nf nw e1 e2 G g < n then via nf nw e1 e2 G g else 0) → j_X12_fillsWays_70_191 5 x1 M Q := by
    intro u
    induction u with
    | zero =>
      intro n x1 M hn h1n h1 hF hD hv
      refine v_X12_fillsWays_70_191 ⟨fun _ => hQ M hF hD (fun f hf => ?_), fun q => by exfalso; omega⟩
      rw [hv f hf]
      rcases dD_le (nf := nf) (nw := nw) (e1 := e1) (e2 := e2) (G := G) (f := f) with q | q
      · rw [if_pos (by omega)]
      · rw [if_neg (by omega), via_99 q]
    | succ u ih =>
      intro n x1 M hn h1n h1 hF hD hv
      refine v_X12_fillsWays_70_191 ⟨fun q => by exfalso; omega, fun _ => ?_⟩
      have l199 : ∀ (t f : Nat) (x2 : Int32) (M1 : dM), f + t = 7 → x2.toInt = (f : Int) → RLF m M1 → RyF (dD nf nw e1 e2 G) M1 → (∀ g : Nat, g < 7 → M1.1 110 g = if dD nf nw e1 e2 G g < n ∨ (dD nf nw e1 e2 G g = n ∧ g < f) then via nf nw e1 e2 G g else 0) → j_X12_fillsWays_70_199 5 x1 x2 M1 Q := by
        intro t
        induction t with
        | zero =>
          intro f x2 M1 hf h2 hF1 hD1 hv1
          refine v_X12_fillsWays_70_199 ⟨fun _ => ih (n + 1) _ M1 (by omega) (by omega) (d_inc h1 (by omega)) hF1 hD1 (fun g hg => ?_), fun q => by exfalso; omega⟩
          rw [hv1 g hg]
          by_cases z : dD nf nw e1 e2 G g < n + 1
          · rw [if_pos z, if_pos (by omega)]
          · rw [if_neg z, if_neg (by omega)]
        | succ t ih2 =>
          intro f x2 M1 hf h2 hF1 hD1 hv1
          have hH1 := hH.rf hF1
          have hG1 := hG.rf hF1
          refine v_X12_fillsWays_70_199 ⟨fun q => by exfalso; omega, fun _ => ?_⟩
          rw [d_cn h2, hD1 f (by omega), h1]
          have on : ∀ M2 : dM, RLF m M2 → RyF (dD nf nw e1 e2 G) M2 → (∀ g : Nat, g < 7 → M2.1 110 g = if dD nf nw e1 e2 G g < n ∨ (dD nf nw e1 e2 G g = n ∧ g < f + 1) then via nf nw e1 e2 G g else 0) → j_X12_fillsWays_70_245 5 x1 x2 M2 Q := fun M2 p q r => v_X12_fillsWays_70_245 (ih2 (f + 1) _ M2 (by omega) (d_inc h2 (by omega)) p q r)
          refine ⟨by omega, fun ee => ?_, fun ne => on M1 hF1 hD1 (fun g hg => ?_)⟩
          · have hdf : dD nf nw e1 e2 G f = (n - 1) + 1 := by omega
            obtain ⟨k1, k2, k3⟩ := nx_ok (by omega) hdf
            refine y_wireFrom hH1 hG1 hD1 h2 (by omega) (by omega : n - 1 < 6) hdf (fun r hr => Wp.deep (y_otherEnd hH1 hr k1 h2 (fun r2 ht hr2 => ?_) (fun no => ?_)) (Nat.le_of_ble_eq_true rfl))
            · have ho : ot e1 e2 (nx nf nw e1 e2 G f) f < 7 := by unfold ot; have := hE _ k1; split <;> omega
              rw [d_cn hr2, b1_of hr, hv1 _ ho, if_pos (Or.inl (by omega)), ← via_s (by omega) hdf]
              refine ⟨by omega, by omega, on _ (hF1.set (Or.inr rfl)) (fun g hg => by rw [dSet_k (by decide)]; exact hD1 g hg) (fun g hg => ?_)⟩
              by_cases e : g = f
              · subst e
                rw [dSet_s, if_pos (Or.inr ⟨by omega, by omega⟩)]
              · rw [dSet_j e, hv1 g hg]
                by_cases z : dD nf nw e1 e2 G g < n ∨ (dD nf nw e1 e2 G g = n ∧ g < f)
                · rw [if_pos z, if_pos (by omega)]
                · rw [if_neg z, if_neg (by omega)]
            · exfalso
              unfold tch at k2
              rw [Bool.and_eq_true, Bool.or_eq_true, decide_eq_true_eq, decide_eq_true_eq] at k2
              exact no k2.2
          · rw [hv1 g hg]
            by_cases z : dD nf nw e1 e2 G g < n ∨ (dD nf nw e1 e2 G g = n ∧ g < f)
            · rw [if_pos z, if_pos (by omega)]
            · rw [if_neg z, if_neg (fun q => by rcases q with q | q; exact z (Or.inl q); exact z (Or.inr ⟨q.1, by
              have hne : g ≠ f := fun e => by
                subst e
                omega
              omega⟩))]
      exact l199 7 0 _ M rfl (by decide) hF hD (fun g hg => by
        rw [hv g hg]
        by_cases z : dD nf nw e1 e2 G g < n
        · rw [if_pos z, if_pos (Or.inl z)]
        · rw [if_neg z, if_neg (by omega)])
  -- how far
  have l51 : ∀ (u n : Nat) (x1 : Int32) (M : dM), n + u = 6 → x1.toInt = ((n + 1 : Nat) : Int) → RLF m M → RyF (dst nf nw e1 e2 G n) M → (∀ g : Nat, g < 7 → M.1 110 g = 0) → j_X12_fillsWays_70_51 5 x1 M Q := by
    intro u
    induction u with
    | zero =>
      intro n x1 M hn h1 hF hD hv
      have e6 : n = 6 := by omega
      subst e6
      refine v_X12_fillsWays_70_51 ⟨fun _ => l191 6 1 _ M rfl (by omega) (by decide) hF hD (fun g hg => ?_), fun q => by exfalso; omega⟩
      rw [hv g hg]
      by_cases z : dD nf nw e1 e2 G g < 1
      · rw [if_pos z, via_0 (by omega)]
      · rw [if_neg z]
    | succ u ih =>
      intro n x1 M hn h1 hF hD hv
      refine v_X12_fillsWays_70_51 ⟨fun q => by exfalso; omega, fun _ => ?_⟩
      have l59 : ∀ (t k : Nat) (x2 : Int32) (M1 : dM), k + t = nw → x2.toInt = (k : Int) → RLF m M1 → RyF (dsk nf nw e1 e2 G n k) M1 → (∀ g : Nat, g < 7 → M1.1 110 g = 0) → j_X12_fillsWays_70_59 5 x1 x2 M1 Q := by
        intro t
        induction t with
        | zero =>
          intro k x2 M1 hk h2 hF1 hD1 hv1
          have ek : k = nw := by omega
          have hH1 := hH.rf hF1
          refine v_X12_fillsWays_70_59 ?_
          rw [d_cn hH1.1.1, hH1.2.2.1.1, hH1.1.1]
          refine ⟨by omega, fun _ => ih (n + 1) _ M1 (by omega) (d_inc h1 (by omega)) hF1 (hD1.congr (fun f => by rw [ek, dsk_w])) hv1, fun q => by exfalso; omega⟩
        | succ t ih2 =>
          intro k x2 M1 hk h2 hF1 hD1 hv1
          have hH1 := hH.rf hF1
          have hG1 := hG.rf hF1
          obtain ⟨⟨w1, w2⟩, q1, q2, q3⟩ := hH1.2.2.2 k (by omega)
          have d1 := hD1 (e1 k) (by omega)
          have d2 := hD1 (e2 k) (by omega)
          have on : ∀ M2 : dM, RLF m M2 → RyF (dsk nf nw e1 e2 G n (k + 1)) M2 → (∀ g : Nat, g < 7 → M2.1 110 g = 0) → j_X12_fillsWays_70_177 5 x1 x2 M2 Q := fun M2 p q r => v_X12_fillsWays_70_177 (ih2 (k + 1) _ M2 (by omega) (d_inc h2 (by omega)) p q r)
          have fs := dSubE (X := x1.toInt) (Y := 1) (x := x1) (y := (1 : Int32)) rfl (by decide) (by omega) (by omega)
          have fs' : (x1 - (1 : Int32)).toInt = (n : Int) := by omega
          have ei := y_idx (C := 10) (c := (10 : Int32)) (by decide) hH1.1.1 hH1.1.2 h2 (by decide) (by omega)
          refine v_X12_fillsWays_70_59 ?_
          rw [d_cn hH1.1.1, hH1.2.2.1.1, hH1.1.1]
          refine ⟨by omega, fun q => by exfalso; omega, fun _ => Wp.deep (y_isWhole hH1 hG1 h2 (by omega) (fun hg => ⟨fun _ => ?_, fun q => absurd q (by decide)⟩) (fun hg => ⟨fun q => absurd rfl q, fun _ => on M1 hF1 (hD1.congr (dsk_gone (by omega) hg)) hv1⟩)) (Nat.le_of_ble_eq_true rfl)⟩
          rw [d_cn ei, d_cn w1, d_cn w2, d1, d2, fs']
          -- the other way round
          have back : ∀ M2 : dM, RLF m M2 → RyF (dsk nf nw e1 e2 G n k) M2 → (∀ g : Nat, g < 7 → M2.1 110 g = 0) → ¬ (dsk nf nw e1 e2 G n k (e2 k) = 99 ∧ dsk nf nw e1 e2 G n k (e1 k) = n) → j_X12_fillsWays_70_146 5 x1 x2 (M1.1 83 (10 * s + k)) (M1.1 84 (10 * s + k)) M2 Q := fun M2 p q r no => by
            refine v_X12_fillsWays_70_146 ?_
            rw [d_cn w1, d_cn w2, q (e1 k) (by omega), q (e2 k) (by omega), fs']
            refine ⟨by omega, fun ne => on M2 p (q.congr (dsk_same (by omega) (fun z => by omega) no)) r, fun ee => ⟨by omega, fun ne => on M2 p (q.congr (dsk_same (by omega) (fun z => by omega) no)) r, fun e9 => ⟨by omega, on _ (p.set (Or.inl rfl)) (fun f hf => ?_) (fun g hg => by rw [dSet_k (by decide)]; exact r g hg)⟩⟩⟩
            have st := dsk_set (n := n) (k := k) (f0 := e1 k) (g0 := e2 k) (nf := nf) (nw := nw) (e1 := e1) (e2 := e2) (by omega) hg (Or.inl ⟨rfl, rfl⟩) q3 (by omega) ((dsk_lvl (k := k) (by omega)).mp (by omega)) f
            rw [st]
            by_cases e : f = e1 k
            · rw [if_pos e, e, dSet_s, h1]
            · rw [if_neg e, dSet_j e]; exact q f hf
          refine ⟨by omega, by omega, by omega, fun ne => back M1 hF1 hD1 hv1 (fun z => by omega), fun ee => ⟨by omega, fun ne => back M1 hF1 hD1 hv1 (fun z => by omega), fun e9 => ⟨by omega, ?_⟩⟩⟩
          have st := dsk_set (n := n) (k := k) (f0 := e2 k) (g0 := e1 k) (nf := nf) (nw := nw) (e1 := e1) (e2 := e2) (by omega) hg (Or.inr ⟨rfl, rfl⟩) (fun e => q3 e.symm) (by omega) ((dsk_lvl (k := k) (by omega)).mp (by omega))
          refine v_X12_fillsWays_70_146 ?_
          rw [d_cn w1, d_cn w2, dSet_s, h1, fs']
          refine ⟨by omega, fun _ => on _ (hF1.set (Or.inl rfl)) (fun f hf => ?_) (fun g hg => by rw [dSet_k (by decide)]; exact hv1 g hg), fun q => by exfalso; omega⟩
          rw [st f]
          by_cases e : f = e2 k
          · rw [if_pos e, e, dSet_s, h1]
          · rw [if_neg e, dSet_j e]; exact hD1 f hf
      exact l59 nw 0 _ M (by omega) (by decide) hF (hD.congr (fun f => dsk_0)) hv
  -- the start
  have l2 : ∀ (u f : Nat) (x1 : Int32) (M : dM), f + u = 7 → x1.toInt = (f : Int) → RLF m M → (∀ g : Nat, g < f → (M.1 109 g).toInt = (dst nf nw e1 e2 G 0 g : Int) ∧ M.1 110 g = 0) → j_X12_fillsWays_70_2 5 x1 M Q := by
    intro u
    induction u with
    | zero =>
      intro f x1 M hf h1 hF hv
      exact v_X12_fillsWays_70_2 ⟨fun _ => l51 6 0 _ M rfl (by decide) hF (fun g hg => (hv g (by omega)).1) (fun g hg => (hv g (by omega)).2), fun q => by exfalso; omega⟩
    | succ u ih =>
      intro f x1 M hf h1 hF hv
      have hHM := hH.rf hF
      have on : ∀ v : Int32, v.toInt = (dst nf nw e1 e2 G 0 f : Int) → j_X12_fillsWays_70_2 5 (x1 + (1 : Int32)) (dSet (dSet M 109 f v) 110 f (0 : Int32)) Q := fun v hv' => ih (f + 1) _ _ (by omega) (d_inc h1 (by omega)) ((hF.set (Or.inl rfl)).set (Or.inr rfl)) (fun g hg => by
        by_cases e : g = f
        · subst e
          rw [dSet_k (by decide), dSet_s, dSet_s]
          exact ⟨hv', rfl⟩
        · rw [dSet_j e, dSet_j e, dSet_j e, dSet_j e]
          exact hv g (by omega))
      refine v_X12_fillsWays_70_2 ⟨fun q => by exfalso; omega, fun _ => ⟨fun ne => ⟨by omega, by omega, ?_⟩, fun ee => ?_⟩⟩
      · rw [d_cn h1]
        refine on 99 ?_
        unfold dst
        rw [if_neg (by omega)]
        rfl
      · rw [d_cn h1, d_cn hHM.1.1, hHM.2.1.1, hHM.1.1]
        refine ⟨by omega, fun q => ⟨by omega, by omega, on 99 ?_⟩, fun q => ⟨by omega, by omega, on 0 ?_⟩⟩
        · unfold dst
          rw [if_neg (by omega)]
          rfl
        · unfold dst
          rw [if_pos (by omega)]
          rfl
  exact v_X12_fillsWays_70 (l2 7 0 _ m rfl (by decide) ⟨fun _ _ _ => rfl, rfl⟩ (fun g hg => absurd hg (Nat.not_lt_zero g)))
end RLY
end
section
/-! A LAW's worth, as a function of its codes (operands ahead of what is done with them): below 4 what is done, below 13 a variable, else an int -/
abbrev lC : Type := List Int32
def wrk (c a b : Int32) : Int32 := if c.toInt = 0 then a + b else if c.toInt = 1 then a - b else if c.toInt = 2 then a * b else a / b
def evF (v : Nat → Int32) : lC → Nat → (Nat → Int32) → Option Int32
  | [], _, st => some (st 0)
  | c :: L, t, st => if 13 ≤ c.toInt then evF v L (t + 1) (upd st t (c - 13)) else if 4 ≤ c.toInt then evF v L (t + 1) (upd st t (v (c - 4).toNatClampNeg)) else if c.toInt = 3 ∧ (st (t - 1)).toInt = 0 then none else evF v L (t - 1) (upd st (t - 2) (wrk c (st (t - 2)) (st (t - 1))))
/-- right as it stands, from so many that wait -/
def wfL : lC → Nat → Prop
  | [], h => h = 1
  | c :: L, h => 0 ≤ c.toInt ∧ (4 ≤ c.toInt → h + 1 ≤ 31 ∧ wfL L (h + 1)) ∧ (c.toInt < 4 → 2 ≤ h ∧ wfL L (h - 1))
theorem evF_congr {v : Nat → Int32} : ∀ (L : lC) (t : Nat) (a b : Nat → Int32), wfL L t → (∀ j : Nat, j < t → a j = b j) → evF v L t a = evF v L t b
  | [], t, a, b, hw, h => by
    have hw : t = 1 := hw
    show some (a 0) = some (b 0)
    rw [h 0 (by omega)]
  | c :: L, t, a, b, hw, h => by
    obtain ⟨h0, h4, h3⟩ := hw
    have up : ∀ (x : Int32) (j : Nat), j < t + 1 → upd a t x j = upd b t x j := fun x j hj => by
      unfold upd
      by_cases e : j = t
      · rw [if_pos e, if_pos e]
      · rw [if_neg e, if_neg e]; exact h j (by omega)
    unfold evF
    by_cases q : 13 ≤ c.toInt
    · rw [if_pos q, if_pos q]
      exact evF_congr L (t + 1) _ _ (h4 (by omega)).2 (up _)
    · rw [if_neg q, if_neg q]
      by_cases q4 : 4 ≤ c.toInt
      · rw [if_pos q4, if_pos q4]
        exact evF_congr L (t + 1) _ _ (h4 q4).2 (up _)
      · rw [if_neg q4, if_neg q4]
        obtain ⟨g1, g2⟩ := h3 (by omega)
        rw [h (t - 1) (by omega), h (t - 2) (by omega)]
        split
        · rfl
        · refine evF_congr L (t - 1) _ _ g2 (fun j hj => ?_)
          unfold upd
          by_cases e : j = t - 2
          · rw [if_pos e, if_pos e]
          · rw [if_neg e, if_neg e]; exact h j (by omega)
def pv (L : lC) (v : Nat → Int32) : Option Int32 := evF v L 0 (fun _ => 0)
theorem evF_0 {v : Nat → Int32} {L : lC} {a : Nat → Int32} (hw : wfL L 0) : evF v L 0 a = pv L v := evF_congr L 0 _ _ hw (fun j hj => absurd hj (Nat.not_lt_zero j))
/-- a law: its pieces, three for each if, then one; what it tells from piece p on, with r ifs left -/
def lawv (pc : Nat → lC) (v : Nat → Int32) : Nat → Nat → Int32
  | 0, p => (pv (pc p) v).getD 0
  | r + 1, p => match pv (pc p) v, pv (pc (p + 1)) v with
    | some x, some y => if x.toInt < y.toInt then (pv (pc (p + 2)) v).getD 0 else lawv pc v r (p + 3)
    | _, _ => 0
/-- the laws that stand when none is told -/
def dfl (k : Nat) : lC := if k = 0 then [4, 5, 1] else if k = 1 then [13] else if k = 2 then [5] else [9]
abbrev lD : Type := Nat × (Nat → lC)
def lW (D : lD) (v : Nat → Int32) : Int32 := lawv D.2 v D.1 0
def lOk (D : lD) : Prop := D.1 ≤ 4 ∧ ∀ i : Nat, i ≤ 3 * D.1 → wfL (D.2 i) 0
theorem evF_cv {v v' : Nat → Int32} (hv : ∀ j : Nat, j < 9 → v j = v' j) : ∀ (L : lC) (t : Nat) (a : Nat → Int32), evF v L t a = evF v' L t a
  | [], t, a => rfl
  | c :: L, t, a => by
    unfold evF
    by_cases q : 13 ≤ c.toInt
    · rw [if_pos q, if_pos q]; exact evF_cv hv L _ _
    · rw [if_neg q, if_neg q]
      by_cases q4 : 4 ≤ c.toInt
      · have f := dSubE (X := c.toInt) (Y := 4) (x := c) (y := (4 : Int32)) rfl (by decide) (by omega) (by omega)
        have g := d_cl (x := c - 4) (by omega)
        rw [if_pos q4, if_pos q4, hv _ (by omega)]
        exact evF_cv hv L _ _
      · rw [if_neg q4, if_neg q4]
        split
        · rfl
        · exact evF_cv hv L _ _
theorem lW_cv {D : lD} {v v' : Nat → Int32} (hv : ∀ j : Nat, j < 9 → v j = v' j) : lW D v = lW D v' := by
  have e : ∀ L : lC, pv L v = pv L v' := fun L => evF_cv hv L _ _
  have : ∀ (r p : Nat), lawv D.2 v r p = lawv D.2 v' r p := by
    intro r
    induction r with
    | zero => intro p; show (pv (D.2 p) v).getD 0 = (pv (D.2 p) v').getD 0; rw [e]
    | succ r ih =>
      intro p
      unfold lawv
      rw [e, e, e, ih]
  exact this _ _
end
section
/-! THE CLASS's laws, told exactly -/
def PyF (m0 m : dM) : Prop := (∀ k : Nat, k ≠ 19 → k ≠ 11 → m.1 k = m0.1 k) ∧ (∀ j : Nat, j ≠ 5 → m.1 11 j = m0.1 11 j) ∧ m.2 = m0.2
theorem PyF.rf (m : dM) : PyF m m := ⟨fun _ _ _ => rfl, fun _ _ => rfl, rfl⟩
theorem PyF.tr {a b c : dM} (h : PyF a b) (h' : PyF b c) : PyF a c := ⟨fun k q1 q2 => (h'.1 k q1 q2).trans (h.1 k q1 q2), fun j q => (h'.2.1 j q).trans (h.2.1 j q), h'.2.2.trans h.2.2⟩
theorem PyF.set {a b : dM} {j : Nat} {v : Int32} (h : PyF a b) : PyF a (dSet b 19 j v) := ⟨fun k q1 q2 => by rw [dSet_k q1]; exact h.1 k q1 q2, fun i q => by rw [dSet_k (by decide)]; exact h.2.1 i q, h.2.2⟩
theorem PyF.br {a b : dM} {v : Int32} (h : PyF a b) : PyF a (dSet b 11 5 v) := ⟨fun k q1 q2 => by rw [dSet_k q2]; exact h.1 k q1 q2, fun i q => by rw [dSet_j q]; exact h.2.1 i q, h.2.2⟩
/-- codes from a on -/
def SG (m : dM) (a : Nat) (L : lC) : Prop := a + L.length ≤ 406 ∧ ∀ j : Nat, j < L.length → m.1 12 (a + j) = L.getD j 0
theorem SG.of {m m' : dM} {a : Nat} {L : lC} (h : SG m a L) (e : m'.1 12 = m.1 12) : SG m' a L := by
  unfold SG
  rw [e]
  exact h
theorem SG.hd {m : dM} {a : Nat} {c : Int32} {L : lC} (h : SG m a (c :: L)) : m.1 12 a = c ∧ a < 406 ∧ SG m (a + 1) L := by
  obtain ⟨h1, h2⟩ := h
  rw [List.length_cons] at h1 h2
  refine ⟨?_, by omega, by omega, fun j hj => ?_⟩
  · have := h2 0 (by omega)
    simpa using this
  · have := h2 (j + 1) (by omega)
    rw [show a + 1 + j = a + (j + 1) by omega, this]
    simp
/-- how a piece came out -/
def PO (T : Option Int32) (r : Int32) (m' : dM) : Prop := (T = some r ∧ (m'.1 11 5).toInt = 0) ∨ (T = none ∧ (m'.1 11 5).toInt = 1)
theorem y_worked {c a b : Int32} {m : dM} {Q : Int32 → dM → Prop} (hc : 0 ≤ c.toInt ∧ c.toInt < 4) (h1 : ¬ (c.toInt = 3 ∧ b.toInt = 0) → Q (wrk c a b) m) (h0 : c.toInt = 3 ∧ b.toInt = 0 → Q 0 (dSet m 11 5 (1 : Int32))) : c_X4_worked_11 1 c a b m Q := by
  have e0 : c.toInt = 0 → wrk c a b = a + b := fun q => by unfold wrk; rw [if_pos q]
  have e1 : c.toInt = 1 → wrk c a b = a - b := fun q => by unfold wrk; rw [if_neg (by omega), if_pos q]
  have e2 : c.toInt = 2 → wrk c a b = a * b := fun q => by unfold wrk; rw [if_neg (by omega), if_neg (by omega), if_pos q]
  have e3 : c.toInt = 3 → wrk c a b = a / b := fun q => by unfold wrk; rw [if_neg (by omega), if_neg (by omega), if_neg (by omega)]
  refine v_X4_worked_11 ⟨fun q => ?_, fun q => ?_, fun q => ?_, fun q => ⟨fun z => ⟨?_, ?_⟩, fun z => h0 (by omega)⟩⟩
  · rw [← e0 q]; exact h1 (by omega)
  · rw [← e1 q]; exact h1 (by omega)
  · rw [← e2 q]; exact h1 (by omega)
  · first
      | exact z
      | (intro e; exact z (by rw [e]; decide))
  · rw [← e3 (by omega)]; exact h1 (by omega)
theorem y_piece37 {m0 : dM} {Q : Int32 → dM → Prop} {T : Option Int32} (hQ : ∀ (r : Int32) (m' : dM), PyF m0 m' → PO T r m' → Q r m') : ∀ (L : lC) (i t : Nat) (x4 x5 x6 : Int32) (m : dM), wfL L t → t ≤ 31 → x4.toInt = (t : Int) → x6.toInt = (i : Int) → x5.toInt = ((i + L.length : Nat) : Int) → SG m i L → PyF m0 m → ((m.1 11 5).toInt = 0 ∧ evF (m0.1 55) L t (m.1 19) = T ∨ (m.1 11 5).toInt = 1 ∧ T = none) → j_X4_pieceTells_11_55_37 2 x4 x5 x6 m Q := by
  intro L
  induction L with
  | nil =>
    intro i t x4 x5 x6 m hw ht h4 h6 h5 hS hF hT
    have h5 : x5.toInt = (i : Int) := h5
    refine v_X4_pieceTells_11_55_37 ⟨fun _ => v_X4_pieceTells_11_55_156 (hQ _ m hF ?_), fun q => by exfalso; omega⟩
    rcases hT with ⟨a, b⟩ | ⟨a, b⟩
    · exact Or.inl ⟨b.symm, a⟩
    · exact Or.inr ⟨b, a⟩
  | cons c L ih =>
    intro i t x4 x5 x6 m hw ht h4 h6 h5 hS hF hT
    rw [List.length_cons] at h5
    obtain ⟨s1, s2, s3⟩ := hS.hd
    obtain ⟨w0, w4, w3⟩ := hw
    have h55 : m.1 55 = m0.1 55 := hF.1 55 (by decide) (by decide)
    have on : ∀ (t' : Nat) (x4' : Int32) (m' : dM), wfL L t' → t' ≤ 31 → x4'.toInt = (t' : Int) → m'.1 12 = m.1 12 → PyF m0 m' → ((m'.1 11 5).toInt = 0 ∧ evF (m0.1 55) L t' (m'.1 19) = T ∨ (m'.1 11 5).toInt = 1 ∧ T = none) → j_X4_pieceTells_11_55_150 2 x4' x5 x6 m' Q := fun t' x4' m' a1 a2 a3 a4 a5 a6 => v_X4_pieceTells_11_55_150 (ih (i + 1) t' _ _ _ m' a1 a2 a3 (d_inc h6 (by omega)) (by rw [h5]; omega) (s3.of a4) a5 a6)
    have push : ∀ x : Int32, 4 ≤ c.toInt → (evF (m0.1 55) (c :: L) t (m.1 19) = evF (m0.1 55) L (t + 1) (upd (m.1 19) t x)) → j_X4_pieceTells_11_55_150 2 (x4 + (1 : Int32)) x5 x6 (dSet m 19 t x) Q := fun x hc e => by
      obtain ⟨g1, g2⟩ := w4 hc
      refine on (t + 1) _ _ g2 g1 (d_inc h4 (by omega)) (dSet_k (by decide)) hF.set ?_
      rcases hT with ⟨a, b⟩ | ⟨a, b⟩
      · refine Or.inl ⟨by rw [dSet_k (by decide)]; exact a, ?_⟩
        rw [dSet_f, ← e]; exact b
      · exact Or.inr ⟨by rw [dSet_k (by decide)]; exact a, b⟩
    refine v_X4_pieceTells_11_55_37 ⟨fun q => by exfalso; omega, fun _ => ⟨fun q => by exfalso; omega, fun _ => ?_⟩⟩
    rw [d_cn h6, s1, d_cn h4]
    refine ⟨by omega, fun c13 => ⟨fun c4 => ⟨fun q => by exfalso; have := (w3 c4).1; omega, fun _ => ?_⟩, fun c4 => ?_⟩, fun c13 => ⟨by omega, push _ (by omega) (by rw [evF, if_pos c13])⟩⟩
    · obtain ⟨g1, g2⟩ := w3 c4
      have f1 := dAddE (X := (t : Int)) (Y := -1) (x := x4) (y := (-1 : Int32)) h4 (by decide) (by omega) (by omega)
      have f1' : (x4 + (-1 : Int32)).toInt = ((t - 1 : Nat) : Int) := by omega
      have f2 := dSubE (X := ((t - 1 : Nat) : Int)) (Y := 1) (x := x4 + (-1 : Int32)) (y := (1 : Int32)) f1' (by decide) (by omega) (by omega)
      have f2' : (x4 + (-1 : Int32) - (1 : Int32)).toInt = ((t - 2 : Nat) : Int) := by omega
      rw [d_cn f2', d_cn f1']
      have ev : evF (m0.1 55) (c :: L) t (m.1 19) = if c.toInt = 3 ∧ (m.1 19 (t - 1)).toInt = 0 then none else evF (m0.1 55) L (t - 1) (upd (m.1 19) (t - 2) (wrk c (m.1 19 (t - 2)) (m.1 19 (t - 1)))) := by rw [evF, if_neg (by omega), if_neg (by omega)]
      refine ⟨by omega, by omega, y_worked ⟨w0, c4⟩ (fun q => ⟨by omega, ?_⟩) (fun q => ⟨by omega, ?_⟩)⟩
      · refine on (t - 1) _ _ g2 (by omega) f1' (dSet_k (by decide)) hF.set ?_
        rcases hT with ⟨a, b⟩ | ⟨a, b⟩
        · refine Or.inl ⟨by rw [dSet_k (by decide)]; exact a, ?_⟩
          rw [dSet_f]
          rw [ev, if_neg q] at b
          exact b
        · exact Or.inr ⟨by rw [dSet_k (by decide)]; exact a, b⟩
      · refine on (t - 1) _ _ g2 (by omega) f1' (by rw [dSet_k (by decide), dSet_k (by decide)]) hF.br.set ?_
        refine Or.inr ⟨by rw [dSet_k (by decide), dSet_s]; decide, ?_⟩
        rcases hT with ⟨a, b⟩ | ⟨a, b⟩
        · rw [ev, if_pos q] at b; exact b.symm
        · exact b
    · have fv := dSubE (X := c.toInt) (Y := 4) (x := c) (y := (4 : Int32)) rfl (by decide) (by omega) (by omega)
      refine ⟨by omega, by omega, push _ c4 ?_⟩
      rw [evF, if_neg (by omega), if_pos c4, h55]
/-- a law, as it lies in the house -/
def LC (m : dM) (k : Nat) (D : lD) : Prop := (m.1 18 k).toInt = ((3 * D.1 + 1 : Nat) : Int) ∧ lOk D ∧ ∀ i : Nat, i ≤ 3 * D.1 → ∃ a : Nat, (m.1 (14 + k) i).toInt = (a : Int) ∧ (m.1 (14 + k) (i + 1)).toInt = ((a + (D.2 i).length : Nat) : Int) ∧ SG m a (D.2 i)
theorem LC.of {m m' : dM} {k : Nat} {D : lD} (h : LC m k D) (e : ∀ c : Nat, 12 ≤ c → c ≤ 18 → m'.1 c = m.1 c) (hk : k < 4) : LC m' k D := by
  unfold LC SG
  rw [e 18 (by omega) (by omega), e (14 + k) (by omega) (by omega), e 12 (by omega) (by omega)]
  exact h
theorem y_piece {m : dM} {Q : Int32 → dM → Prop} {k i : Nat} {D : lD} {x1 x2 : Int32} (hL : LC m k D) (hk : k < 4) (hx : x1.toInt = (k : Int)) (hi : i ≤ 3 * D.1) (h2 : x2.toInt = (i : Int)) (h0 : (m.1 11 5).toInt = 0) (hQ : ∀ (r : Int32) (m' : dM), PyF m m' → PO (pv (D.2 i) (m.1 55)) r m' → Q r m') : c_X4_pieceTells_11_55 2 x1 x2 m Q := by
  obtain ⟨l1, ⟨l2, l3⟩, l4⟩ := hL
  obtain ⟨a, a1, a2, a3⟩ := l4 i hi
  have hw := l3 i hi
  have e2 := d_cn h2
  have e3 := d_inc h2 (by omega)
  have e3' := d_cn e3
  have go : j_X4_pieceTells_11_55_37 2 (0 : Int32) (m.1 (14 + k) (i + 1)) (m.1 (14 + k) i) m Q := y_piece37 hQ (D.2 i) a 0 _ _ _ m hw (by omega) (by decide) a1 a2 a3 (PyF.rf m) (Or.inl ⟨h0, evF_0 hw⟩)
  refine v_X4_pieceTells_11_55 ⟨fun q => by exfalso; omega, fun _ => ⟨fun _ => ?_, fun q => by exfalso; omega⟩⟩
  rw [e2, e3']
  match k, hk with
  | 0, _ => exact ⟨by omega, fun _ => ⟨by omega, by omega, fun _ => ⟨by omega, go⟩, fun q => by exfalso; omega, fun q => by exfalso; omega, fun q => by exfalso; omega⟩, fun q => by exfalso; omega, fun q => by exfalso; omega, fun q => by exfalso; omega⟩
  | 1, _ => exact ⟨by omega, fun q => by exfalso; omega, fun _ => ⟨by omega, by omega, fun q => by exfalso; omega, fun _ => ⟨by omega, go⟩, fun q => by exfalso; omega, fun q => by exfalso; omega⟩, fun q => by exfalso; omega, fun q => by exfalso; omega⟩
  | 2, _ => exact ⟨by omega, fun q => by exfalso; omega, fun q => by exfalso; omega, fun _ => ⟨by omega, by omega, fun q => by exfalso; omega, fun q => by exfalso; omega, fun _ => ⟨by omega, go⟩, fun q => by exfalso; omega⟩, fun q => by exfalso; omega⟩
  | 3, _ => exact ⟨by omega, fun q => by exfalso; omega, fun q => by exfalso; omega, fun q => by exfalso; omega, fun _ => ⟨by omega, by omega, fun q => by exfalso; omega, fun q => by exfalso; omega, fun q => by exfalso; omega, fun _ => ⟨by omega, go⟩⟩⟩
theorem y_tells {m : dM} {Q : Int32 → dM → Prop} {k : Nat} {D : lD} {x1 : Int32} (hL : LC m k D) (hk : k < 4) (hx : x1.toInt = (k : Int)) (hQ : ∀ m' : dM, PyF m m' → Q (lW D (m.1 55)) m') : c_X4_tells_11_55 3 x1 m Q := by
  obtain ⟨l1, ⟨l2, l3⟩, l4⟩ := hL
  have ek := d_cn hx
  have fL : ∀ M : dM, PyF m M → LC M k D := fun M hF => LC.of ⟨l1, ⟨l2, l3⟩, l4⟩ (fun c a b => hF.1 c (by omega) (by omega)) hk
  have f55 : ∀ M : dM, PyF m M → M.1 55 = m.1 55 := fun M hF => hF.1 55 (by decide) (by decide)
  have l93 : ∀ (i : Nat) (x3 : Int32) (M : dM), i ≤ 3 * D.1 → x3.toInt = (i : Int) → PyF m M → (M.1 11 5).toInt = 0 → (pv (D.2 i) (m.1 55)).getD 0 = lW D (m.1 55) → j_X4_tells_11_55_93 3 x1 x3 M Q := fun i x3 M hi h3 hF h0 e => v_X4_tells_11_55_93 (y_piece (fL M hF) hk hx hi h3 h0 (fun r m' hF' hP => by
    rw [f55 M hF] at hP
    rcases hP with ⟨p1, p2⟩ | ⟨p1, p2⟩
    · refine ⟨fun _ => ?_, fun q => absurd p2 q⟩
      rw [p1] at e
      have e : r = lW D (m.1 55) := e
      rw [e]
      exact hQ m' (hF.tr hF')
    · refine ⟨fun q => by exfalso; omega, fun _ => ?_⟩
      rw [p1] at e
      have e : (0 : Int32) = lW D (m.1 55) := e
      rw [e]
      exact hQ m' (hF.tr hF')))
  have l17 : ∀ (r p : Nat) (x4 : Int32) (M : dM), p + 3 * r = 3 * D.1 → x4.toInt = (p : Int) → PyF m M → (M.1 11 5).toInt = 0 → lawv D.2 (m.1 55) r p = lW D (m.1 55) → j_X4_tells_11_55_17 3 x1 ((m.1 18 k) - (1 : Int32)) x4 M Q := by
    intro r
    induction r with
    | zero =>
      intro p x4 M hp h4 hF h0 e
      have f := d_add (k := 2) (K := 2) h4 (by decide) (by omega)
      have f3 := dSubE (X := ((3 * D.1 + 1 : Nat) : Int)) (Y := 1) (x := m.1 18 k) (y := (1 : Int32)) l1 (by decide) (by omega) (by omega)
      refine v_X4_tells_11_55_17 ?_
      rw [ek, hF.1 18 (by decide) (by decide), l1]
      exact ⟨by omega, fun _ => l93 p _ M (by omega) (by omega) hF h0 e, fun q => by exfalso; omega⟩
    | succ r ih =>
      intro p x4 M hp h4 hF h0 e
      have f := d_add (k := 2) (K := 2) h4 (by decide) (by omega)
      have g1 := d_inc h4 (by omega)
      have g3 := d_add (k := 3) (K := 3) h4 (by decide) (by omega)
      have e : (match pv (D.2 p) (m.1 55), pv (D.2 (p + 1)) (m.1 55) with
        | some x, some y => if x.toInt < y.toInt then (pv (D.2 (p + 2)) (m.1 55)).getD 0 else lawv D.2 (m.1 55) r (p + 3)
        | _, _ => 0) = lW D (m.1 55) := e
      refine v_X4_tells_11_55_17 ?_
      rw [ek, hF.1 18 (by decide) (by decide), l1]
      refine ⟨by omega, fun q => by exfalso; omega, fun _ => y_piece (fL M hF) hk hx (by omega) h4 h0 (fun r1 M1 hF1 hP1 => ?_)⟩
      rw [f55 M hF] at hP1
      have F1 := hF.tr hF1
      rcases hP1 with ⟨p1, p2⟩ | ⟨p1, p2⟩
      · refine ⟨fun _ => y_piece (fL M1 F1) hk hx (by omega) g1 p2 (fun r2 M2 hF2 hP2 => ?_), fun q => absurd p2 q⟩
        rw [f55 M1 F1] at hP2
        have F2 := F1.tr hF2
        rw [p1] at e
        rcases hP2 with ⟨s1, s2⟩ | ⟨s1, s2⟩
        · rw [s1] at e
          have e : (if r1.toInt < r2.toInt then (pv (D.2 (p + 2)) (m.1 55)).getD 0 else lawv D.2 (m.1 55) r (p + 3)) = lW D (m.1 55) := e
          refine ⟨fun _ => ⟨fun q => ih (p + 3) _ M2 (by omega) g3 F2 s2 ?_, fun q => l93 (p + 2) _ M2 (by omega) f F2 s2 ?_⟩, fun q => absurd s2 q⟩
          · rw [if_neg (by omega)] at e; exact e
          · rw [if_pos q] at e; exact e
        · rw [s1] at e
          have e : (0 : Int32) = lW D (m.1 55) := e
          refine ⟨fun q => by exfalso; omega, fun _ => ?_⟩
          rw [e]
          exact hQ M2 F2
      · rw [p1] at e
        have e : (0 : Int32) = lW D (m.1 55) := e
        refine ⟨fun q => by exfalso; omega, fun _ => ⟨fun q => by exfalso; omega, fun _ => ?_⟩⟩
        rw [e]
        exact hQ M1 F1
  refine v_X4_tells_11_55 ?_
  rw [ek]
  exact ⟨by omega, l17 D.1 0 _ _ (by omega) (by decide) (PyF.rf m).br (by rw [dSet_s]; decide) rfl⟩
end
section
/-! THE REFERENCE's laws, told exactly -/
def QF (m0 m : dM) : Prop := (∀ k : Nat, k ≠ 106 → k ≠ 70 → m.1 k = m0.1 k) ∧ (∀ j : Nat, j ≠ 53 → m.1 70 j = m0.1 70 j) ∧ m.2 = m0.2
theorem QF.rf (m : dM) : QF m m := ⟨fun _ _ _ => rfl, fun _ _ => rfl, rfl⟩
theorem QF.tr {a b c : dM} (h : QF a b) (h' : QF b c) : QF a c := ⟨fun k q1 q2 => (h'.1 k q1 q2).trans (h.1 k q1 q2), fun j q => (h'.2.1 j q).trans (h.2.1 j q), h'.2.2.trans h.2.2⟩
theorem QF.set {a b : dM} {j : Nat} {v : Int32} (h : QF a b) : QF a (dSet b 106 j v) := ⟨fun k q1 q2 => by rw [dSet_k q1]; exact h.1 k q1 q2, fun i q => by rw [dSet_k (by decide)]; exact h.2.1 i q, h.2.2⟩
theorem QF.br {a b : dM} {v : Int32} (h : QF a b) : QF a (dSet b 70 53 v) := ⟨fun k q1 q2 => by rw [dSet_k q2]; exact h.1 k q1 q2, fun i q => by rw [dSet_j q]; exact h.2.1 i q, h.2.2⟩
/-- a code, as this one writes it -/
def cR (k v c : Int32) : Prop := (k.toInt = 0 ∧ c = 13 + v ∧ 0 ≤ v.toInt ∧ v.toInt ≤ 9999) ∨ (k.toInt = 1 ∧ c = 4 + v ∧ 0 ≤ v.toInt ∧ v.toInt ≤ 8) ∨ (2 ≤ k.toInt ∧ k.toInt ≤ 5 ∧ c = k - 2)
def SR (m : dM) (a : Nat) (L : lC) : Prop := a + L.length ≤ 840 ∧ ∀ j : Nat, j < L.length → cR (m.1 102 (a + j)) (m.1 103 (a + j)) (L.getD j 0)
theorem SR.of {m m' : dM} {a : Nat} {L : lC} (h : SR m a L) (e : m'.1 102 = m.1 102) (e' : m'.1 103 = m.1 103) : SR m' a L := by
  unfold SR
  rw [e, e']
  exact h
theorem SR.hd {m : dM} {a : Nat} {c : Int32} {L : lC} (h : SR m a (c :: L)) : cR (m.1 102 a) (m.1 103 a) c ∧ a < 840 ∧ SR m (a + 1) L := by
  obtain ⟨h1, h2⟩ := h
  rw [List.length_cons] at h1 h2
  refine ⟨?_, by omega, by omega, fun j hj => ?_⟩
  · have := h2 0 (by omega)
    simpa using this
  · have := h2 (j + 1) (by omega)
    rw [show a + 1 + j = a + (j + 1) by omega]
    simpa using this
def PR (b : Int) (T : Option Int32) (r : Int32) (m' : dM) : Prop := (T = some r ∧ (m'.1 70 53).toInt = b) ∨ (T = none ∧ (m'.1 70 53).toInt = 1)
theorem tmq1 {x : Int32} {t : Nat} (h : x.toInt = (t : Int)) (ht : 2 ≤ t ∧ t ≤ 31) : (x + (-1 : Int32)).toInt = ((t - 1 : Nat) : Int) := by
  have := dAddE (X := (t : Int)) (Y := -1) (x := x) (y := (-1 : Int32)) h (by decide) (by omega) (by omega)
  omega
theorem tmq2 {x : Int32} {t : Nat} (h : x.toInt = ((t - 1 : Nat) : Int)) (ht : 2 ≤ t ∧ t ≤ 31) : (x - (1 : Int32)).toInt = ((t - 2 : Nat) : Int) := by
  have := dSubE (X := ((t - 1 : Nat) : Int)) (Y := 1) (x := x) (y := (1 : Int32)) h (by decide) (by omega) (by omega)
  omega
theorem tmq3 {x : Int32} {t u : Nat} (h : x.toInt = ((t - u : Nat) : Int)) (ht : t ≤ 31) : 0 ≤ x.toInt ∧ x.toInt < 400 := by omega
theorem tmq4 {c k : Int32} (hc : c.toInt = k.toInt - 2) : (k.toInt = 5 → c.toInt = 3) ∧ (k.toInt ≠ 5 → c.toInt ≠ 3) := by omega
theorem y_term104 {x2 x3 x4 k a b c : Int32} {t : Nat} {m : dM} {Q : Int32 → dM → Prop} (hk : 2 ≤ k.toInt ∧ k.toInt ≤ 5) (hc : c.toInt = k.toInt - 2) (h3 : x3.toInt = ((t - 1 : Nat) : Int)) (ht : 2 ≤ t ∧ t ≤ 31) (hnz : ¬ (c.toInt = 3 ∧ b.toInt = 0)) (on : j_X12_termOf_70_159 1 x2 x3 x4 (dSet m 106 (t - 2) (wrk c a b)) Q) : j_X12_termOf_70_104 1 x2 x3 x4 k a b m Q := by
  have f2' := tmq2 h3 ht
  have hb2 : 0 ≤ (x3 - (1 : Int32)).toInt ∧ (x3 - (1 : Int32)).toInt < 400 := by omega
  have e0 : c.toInt = 0 → wrk c a b = a + b := fun q => by unfold wrk; rw [if_pos q]
  have e1 : c.toInt = 1 → wrk c a b = a - b := fun q => by unfold wrk; rw [if_neg (by omega), if_pos q]
  have e2 : c.toInt = 2 → wrk c a b = a * b := fun q => by unfold wrk; rw [if_neg (by omega), if_neg (by omega), if_pos q]
  have e3 : c.toInt = 3 → wrk c a b = a / b := fun q => by unfold wrk; rw [if_neg (by omega), if_neg (by omega), if_neg (by omega)]
  have e' := d_cn f2'
  refine v_X12_termOf_70_104 ?_
  rw [e']
  refine ⟨fun n2 => ⟨fun n3 => ⟨fun n4 => ⟨?_, hb2, ?_⟩, fun n4 => ⟨hb2, ?_⟩⟩, fun n3 => ⟨hb2, ?_⟩⟩, fun n2 => ⟨hb2, ?_⟩⟩
  · have nz : b.toInt ≠ 0 := fun z => hnz ⟨by omega, z⟩
    first
      | exact nz
      | (intro e; exact nz (by rw [e]; decide))
  · rw [← e3 (by omega)]; exact on
  · rw [← e2 (by omega)]; exact on
  · rw [← e1 (by omega)]; exact on
  · rw [← e0 (by omega)]; exact on
theorem y_term5 {m0 : dM} {Q : Int32 → dM → Prop} {T : Option Int32} (hQ : ∀ (r : Int32) (m' : dM), QF m0 m' → PR (m0.1 70 53).toInt T r m' → Q r m') : ∀ (L : lC) (i t : Nat) (x2 x3 x4 : Int32) (m : dM), wfL L t → t ≤ 31 → x3.toInt = (t : Int) → x4.toInt = (i : Int) → x2.toInt = ((i + L.length : Nat) : Int) → SR m i L → QF m0 m → m.1 70 53 = m0.1 70 53 → evF (m0.1 105) L t (m.1 106) = T → j_X12_termOf_70_5 1 x2 x3 x4 m Q := by
  intro L
  induction L with
  | nil =>
    intro i t x2 x3 x4 m hw ht h3 h4 h2 hS hF hB hT
    have h2 : x2.toInt = (i : Int) := h2
    exact v_X12_termOf_70_5 ⟨fun _ => hQ _ m hF (Or.inl ⟨hT.symm, by rw [hB]⟩), fun q => by exfalso; omega⟩
  | cons c L ih =>
    intro i t x2 x3 x4 m hw ht h3 h4 h2 hS hF hB hT
    rw [List.length_cons] at h2
    obtain ⟨s1, s2, s3⟩ := hS.hd
    obtain ⟨w0, w4, w3⟩ := hw
    have h105 : m.1 105 = m0.1 105 := hF.1 105 (by decide) (by decide)
    have on : ∀ (t' : Nat) (x3' : Int32) (j : Nat) (v : Int32), wfL L t' → t' ≤ 31 → x3'.toInt = (t' : Int) → evF (m0.1 105) L t' (upd (m.1 106) j v) = T → j_X12_termOf_70_159 1 x2 x3' x4 (dSet m 106 j v) Q := fun t' x3' j v a1 a2 a3 a4 => v_X12_termOf_70_159 (ih (i + 1) t' _ _ _ _ a1 a2 a3 (d_inc h4 (by omega)) (by rw [h2]; omega) (s3.of (dSet_k (by decide)) (dSet_k (by decide))) hF.set (by rw [dSet_k (by decide)]; exact hB) (by rw [dSet_f]; exact a4))
    refine v_X12_termOf_70_5 ⟨fun q => by exfalso; omega, fun _ => ?_⟩
    rw [d_cn h4]
    refine ⟨by omega, fun k2 => ?_, fun k2 => ⟨fun k0 => ?_, fun k0 => ?_⟩⟩
    · rcases s1 with ⟨z, _⟩ | ⟨z, _⟩ | ⟨z1, z2, z3⟩
      · exfalso; omega
      · exfalso; omega
      · have hc := dSubE (X := (m.1 102 i).toInt) (Y := 2) (x := m.1 102 i) (y := (2 : Int32)) rfl (by decide) (by omega) (by omega)
        rw [← z3] at hc
        obtain ⟨g1, g2⟩ := w3 (by omega)
        have f1' := tmq1 h3 ⟨g1, ht⟩
        have f2' := tmq2 f1' ⟨g1, ht⟩
        rw [evF, if_neg (by omega), if_neg (by omega)] at hT
        rw [d_cn f2', d_cn f1']
        have q1 : 0 ≤ (x3 + (-1 : Int32) - (1 : Int32)).toInt ∧ (x3 + (-1 : Int32) - (1 : Int32)).toInt < 400 := tmq3 f2' ht
        have q2 : 0 ≤ (x3 + (-1 : Int32)).toInt ∧ (x3 + (-1 : Int32)).toInt < 400 := tmq3 f1' ht
        have t1 : t - 1 ≤ 31 := Nat.le_trans (Nat.sub_le t 1) ht
        have l104 : ¬ (c.toInt = 3 ∧ (m.1 106 (t - 1)).toInt = 0) → j_X12_termOf_70_104 1 x2 (x3 + (-1 : Int32)) x4 (m.1 102 i) (m.1 106 (t - 2)) (m.1 106 (t - 1)) m Q := fun q => y_term104 ⟨z1, z2⟩ hc f1' ⟨g1, ht⟩ q (on (t - 1) _ _ _ g2 t1 f1' (by rw [if_neg q] at hT; exact hT))
        have c5 := (tmq4 hc).1
        have c5' := (tmq4 hc).2
        refine ⟨q1, q2, fun n5 => l104 (fun z => c5' n5 z.1), fun n5 => ⟨fun nz => l104 (fun z => nz z.2), fun z0 => hQ _ _ hF.br (Or.inr ⟨?_, by rw [dSet_s]; decide⟩)⟩⟩
        rw [if_pos ⟨c5 n5, z0⟩] at hT
        exact hT.symm
    · rcases s1 with ⟨z, _⟩ | ⟨z1, z2, z3, z4⟩ | ⟨z1, _⟩
      · exfalso; omega
      · have hc := dAddE (X := 4) (Y := (m.1 103 i).toInt) (x := (4 : Int32)) (y := m.1 103 i) (by decide) rfl (by omega) (by omega)
        rw [← z2] at hc
        obtain ⟨g1, g2⟩ := w4 (by omega)
        rw [d_cn h3]
        refine ⟨by omega, by omega, by omega, on (t + 1) _ _ _ g2 g1 (d_inc h3 (by omega)) ?_⟩
        rw [evF, if_neg (by omega), if_pos (by omega)] at hT
        rw [← hT, h105]
        have e4 : c - 4 = m.1 103 i := by
          apply Int32.toInt_inj.mp
          have := dSubE (X := c.toInt) (Y := 4) (x := c) (y := (4 : Int32)) rfl (by decide) (by omega) (by omega)
          omega
        rw [e4]
      · exfalso; omega
    · rcases s1 with ⟨z1, z2, z3, z4⟩ | ⟨z, _⟩ | ⟨z1, _⟩
      · have hc := dAddE (X := 13) (Y := (m.1 103 i).toInt) (x := (13 : Int32)) (y := m.1 103 i) (by decide) rfl (by omega) (by omega)
        rw [← z2] at hc
        obtain ⟨g1, g2⟩ := w4 (by omega)
        rw [d_cn h3]
        refine ⟨by omega, by omega, on (t + 1) _ _ _ g2 g1 (d_inc h3 (by omega)) ?_⟩
        rw [evF, if_pos (by omega)] at hT
        rw [← hT]
        have e4 : c - 13 = m.1 103 i := by
          apply Int32.toInt_inj.mp
          have := dSubE (X := c.toInt) (Y := 13) (x := c) (y := (13 : Int32)) rfl (by decide) (by omega) (by omega)
          omega
        rw [e4]
      · exfalso; omega
      · exfalso; omega
theorem y_term {m : dM} {Q : Int32 → dM → Prop} {x1 x2 : Int32} {a : Nat} {L : lC} (hw : wfL L 0) (h1 : x1.toInt = (a : Int)) (h2 : x2.toInt = ((a + L.length : Nat) : Int)) (hS : SR m a L) (hQ : ∀ (r : Int32) (m' : dM), QF m m' → PR (m.1 70 53).toInt (pv L (m.1 105)) r m' → Q r m') : c_X12_termOf_70 1 x1 x2 m Q :=
  v_X12_termOf_70 (y_term5 hQ L a 0 _ _ _ m hw (by omega) (by decide) h1 h2 hS (QF.rf m) rfl (evF_0 hw))
/-- a piece between two marks -/
def SB (m : dM) (x y : Int32) (L : lC) : Prop := ∃ a : Nat, x.toInt = (a : Int) ∧ y.toInt = ((a + L.length : Nat) : Int) ∧ SR m a L
/-- a law, as it lies: none told, or its branches -/
def LR (m : dM) (s k : Nat) (D : lD) : Prop := lOk D ∧ (((m.1 95 (4 * s + k)).toInt = (m.1 96 (4 * s + k)).toInt ∧ D.1 = 0 ∧ D.2 0 = dfl k) ∨ ∃ b : Nat, (m.1 95 (4 * s + k)).toInt = (b : Int) ∧ (m.1 96 (4 * s + k)).toInt = ((b + D.1 + 1 : Nat) : Int) ∧ b + D.1 < 260 ∧ (∀ i : Nat, i < D.1 → (m.1 97 (b + i)).toInt ≠ 0 ∧ SB m (m.1 98 (b + i)) (m.1 99 (b + i)) (D.2 (3 * i)) ∧ SB m (m.1 99 (b + i)) (m.1 100 (b + i)) (D.2 (3 * i + 1)) ∧ SB m (m.1 100 (b + i)) (m.1 101 (b + i)) (D.2 (3 * i + 2))) ∧ (m.1 97 (b + D.1)).toInt = 0 ∧ SB m (m.1 100 (b + D.1)) (m.1 101 (b + D.1)) (D.2 (3 * D.1)))
theorem LR.of {m m' : dM} {s k : Nat} {D : lD} (h : LR m s k D) (e : ∀ c : Nat, 95 ≤ c → c ≤ 103 → m'.1 c = m.1 c) : LR m' s k D := by
  unfold LR SB SR
  rw [e 95 (by omega) (by omega), e 96 (by omega) (by omega), e 97 (by omega) (by omega), e 98 (by omega) (by omega), e 99 (by omega) (by omega), e 100 (by omega) (by omega), e 101 (by omega) (by omega), e 102 (by omega) (by omega), e 103 (by omega) (by omega)]
  exact h
theorem y_lawTells {m : dM} {Q : Int32 → dM → Prop} {s k : Nat} {D : lD} {x1 x2 : Int32} (hL : LR m s k D) (hs : (m.1 70 18).toInt = (s : Int) ∧ s ≤ 1) (hk : k < 4) (hx : x1.toInt = (k : Int)) (hp : x2 = (pv (dfl k) (m.1 105)).getD 0) (hQ : ∀ m' : dM, QF m m' → Q (lW D (m.1 105)) m') : c_X12_lawTells_70 2 x1 x2 m Q := by
  obtain ⟨⟨o1, o2⟩, hL⟩ := hL
  have ei := y_idx (C := 4) (c := (4 : Int32)) (by decide) hs.1 hs.2 hx (by decide) (by omega)
  have hb : 4 * s + k < 8 := by omega
  refine v_X12_lawTells_70 ?_
  rw [d_cn ei]
  refine ⟨by omega, by omega, fun ne => ⟨by omega, ?_⟩, fun ee => ?_⟩
  · rcases hL with ⟨z, _⟩ | ⟨b, b1, b2, b3, b4, b5, b6⟩
    · exact absurd z ne
    have fe : ∀ (M : dM), QF m M → ∀ c : Nat, 95 ≤ c → c ≤ 105 → M.1 c = m.1 c := fun M hF c h1 h2 => hF.1 c (by omega) (by omega)
    have fB : ∀ (M : dM) (x y : Int32) (L : lC), QF m M → SB m x y L → SB M x y L := fun M x y L hF ⟨a, a1, a2, a3⟩ => ⟨a, a1, a2, a3.of (fe M hF 102 (by omega) (by omega)) (fe M hF 103 (by omega) (by omega))⟩
    have l119 : ∀ (i p : Nat) (x4 : Int32) (M : dM), i ≤ D.1 → x4.toInt = ((b + i : Nat) : Int) → p ≤ 3 * D.1 → SB m (m.1 100 (b + i)) (m.1 101 (b + i)) (D.2 p) → QF m M → (M.1 70 53).toInt = 0 → (pv (D.2 p) (m.1 105)).getD 0 = lW D (m.1 105) → j_X12_lawTells_70_119 2 x4 M Q := fun i p x4 M hi h4 hp' hB hF h0 e => by
      obtain ⟨a, a1, a2, a3⟩ := fB M _ _ _ hF hB
      refine v_X12_lawTells_70_119 ?_
      rw [d_cn h4, fe M hF 100 (by omega) (by omega), fe M hF 101 (by omega) (by omega)]
      refine ⟨by omega, by omega, y_term (o2 p hp') a1 a2 a3 (fun r M1 hF1 hP => ?_)⟩
      rw [fe M hF 105 (by omega) (by omega), h0] at hP
      rcases hP with ⟨p1, p2⟩ | ⟨p1, p2⟩
      · rw [p1] at e
        have e : r = lW D (m.1 105) := e
        rw [e]
        exact ⟨fun _ => hQ M1 (hF.tr hF1), fun q => absurd p2 q⟩
      · rw [p1] at e
        have e : (0 : Int32) = lW D (m.1 105) := e
        rw [e]
        exact ⟨fun q => by exfalso; omega, fun _ => hQ M1 (hF.tr hF1)⟩
    have l39 : ∀ (r i : Nat) (x4 : Int32) (M : dM), i + r = D.1 → x4.toInt = ((b + i : Nat) : Int) → QF m M → (M.1 70 53).toInt = 0 → lawv D.2 (m.1 105) r (3 * i) = lW D (m.1 105) → j_X12_lawTells_70_39 2 (((4 : Int32) * (m.1 70 18)) + x1) x4 M Q := by
      intro r
      induction r with
      | zero =>
        intro i x4 M hi h4 hF h0 e
        have ei' : i = D.1 := by omega
        subst ei'
        refine v_X12_lawTells_70_39 ?_
        rw [d_cn ei, fe M hF 96 (by omega) (by omega), b2, d_cn h4, fe M hF 97 (by omega) (by omega), b5]
        exact ⟨by omega, fun q => by exfalso; omega, fun _ => ⟨by omega, fun _ => l119 D.1 (3 * D.1) x4 M (Nat.le_refl _) h4 (Nat.le_refl _) b6 hF h0 e, fun q => absurd rfl q⟩⟩
      | succ r ih =>
        intro i x4 M hi h4 hF h0 e
        obtain ⟨c1, c2, c3, c4⟩ := b4 i (by omega)
        have e : (match pv (D.2 (3 * i)) (m.1 105), pv (D.2 (3 * i + 1)) (m.1 105) with
          | some x, some y => if x.toInt < y.toInt then (pv (D.2 (3 * i + 2)) (m.1 105)).getD 0 else lawv D.2 (m.1 105) r (3 * i + 3)
          | _, _ => 0) = lW D (m.1 105) := e
        refine v_X12_lawTells_70_39 ?_
        rw [d_cn ei, fe M hF 96 (by omega) (by omega), b2, d_cn h4, fe M hF 97 (by omega) (by omega), fe M hF 98 (by omega) (by omega), fe M hF 99 (by omega) (by omega)]
        obtain ⟨a, a1, a2, a3⟩ := fB M _ _ _ hF c2
        refine ⟨by omega, fun q => by exfalso; omega, fun _ => ⟨by omega, fun q => absurd q c1, fun _ => ⟨by omega, by omega, y_term (o2 (3 * i) (by omega)) a1 a2 a3 (fun r1 M1 hF1 hP1 => ?_)⟩⟩⟩
        rw [fe M hF 105 (by omega) (by omega), h0] at hP1
        have F1 := hF.tr hF1
        obtain ⟨a', a1', a2', a3'⟩ := fB M1 _ _ _ F1 c3
        rw [fe M1 F1 99 (by omega) (by omega), fe M1 F1 100 (by omega) (by omega)]
        refine ⟨by omega, by omega, y_term (o2 (3 * i + 1) (by omega)) a1' a2' a3' (fun r2 M2 hF2 hP2 => ?_)⟩
        rw [fe M1 F1 105 (by omega) (by omega)] at hP2
        have F2 := F1.tr hF2
        rcases hP1 with ⟨p1, p2⟩ | ⟨p1, p2⟩
        · rw [p2] at hP2
          rw [p1] at e
          rcases hP2 with ⟨s1, s2⟩ | ⟨s1, s2⟩
          · rw [s1] at e
            have e : (if r1.toInt < r2.toInt then (pv (D.2 (3 * i + 2)) (m.1 105)).getD 0 else lawv D.2 (m.1 105) r (3 * i + 3)) = lW D (m.1 105) := e
            refine ⟨fun _ => ⟨fun q => l119 i (3 * i + 2) x4 M2 (by omega) h4 (by omega) c4 F2 s2 ?_, fun q => ih (i + 1) _ M2 (by omega) (by have := d_inc h4 (by omega); omega) F2 s2 ?_⟩, fun q => absurd s2 q⟩
            · rw [if_pos q] at e; exact e
            · rw [if_neg (by omega)] at e; exact e
          · rw [s1] at e
            have e : (0 : Int32) = lW D (m.1 105) := e
            rw [e]
            exact ⟨fun q => by exfalso; omega, fun _ => hQ M2 F2⟩
        · rw [p1] at e
          have e : (0 : Int32) = lW D (m.1 105) := e
          rw [e]
          refine ⟨fun q => ?_, fun _ => hQ M2 F2⟩
          exfalso
          rcases hP2 with ⟨s1, s2⟩ | ⟨s1, s2⟩ <;> omega
    exact l39 D.1 0 _ _ (by omega) b1 (QF.rf m).br (by rw [dSet_s]; decide) rfl
  · rcases hL with ⟨z, d1, d2⟩ | ⟨b, b1, b2, _⟩
    · have e : lW D (m.1 105) = x2 := by
        unfold lW
        rw [d1]
        show (pv (D.2 0) (m.1 105)).getD 0 = x2
        rw [d2, hp]
      rw [← e]
      exact hQ m (QF.rf m)
    · exfalso; omega
end
section
/-! THE HOUSE and HOW IT STANDS, as plain values; what an hour does -/
/-- flats, wires, uses; ends of wires, homes of uses; temper, rating, amps, from, till; surge's share and amps, coins, seed; the laws -/
abbrev Ho : Type := (Nat × Nat × Nat) × ((Nat → Nat) × (Nat → Nat) × (Nat → Nat)) × ((Nat → Int32) × (Nat → Int32) × (Nat → Int32) × (Nat → Int32) × (Nat → Int32)) × (Int32 × Int32 × Int32 × Int32) × (Nat → lD)
def hoF (H : Ho) : Nat := H.1.1
def hoW (H : Ho) : Nat := H.1.2.1
def hoU (H : Ho) : Nat := H.1.2.2
def hoA (H : Ho) : Nat → Nat := H.2.1.1
def hoB (H : Ho) : Nat → Nat := H.2.1.2.1
def hoH (H : Ho) : Nat → Nat := H.2.1.2.2
def hoT (H : Ho) : Nat → Int32 := H.2.2.1.1
def hoR (H : Ho) : Nat → Int32 := H.2.2.1.2.1
def hoM (H : Ho) : Nat → Int32 := H.2.2.1.2.2.1
def hoO (H : Ho) : Nat → Int32 := H.2.2.1.2.2.2.1
def hoI (H : Ho) : Nat → Int32 := H.2.2.1.2.2.2.2
def hoS (H : Ho) : Int32 := H.2.2.2.1.1
def hoP (H : Ho) : Int32 := H.2.2.2.1.2.1
def hoC (H : Ho) : Int32 := H.2.2.2.1.2.2.1
def hoE (H : Ho) : Int32 := H.2.2.2.1.2.2.2
def hoL (H : Ho) : Nat → lD := H.2.2.2.2
/-- hour, coins, quarrels, gone, pinned, agreed; rating, age, dark -/
abbrev Zt : Type := (Int32 × Int32 × Int32 × Int32 × Int32 × Int32) × (Nat → Int32) × (Nat → Int32) × (Nat → Int32)
def szH (S : Zt) : Int32 := S.1.1
def szC (S : Zt) : Int32 := S.1.2.1
def szQ (S : Zt) : Int32 := S.1.2.2.1
def szG (S : Zt) : Int32 := S.1.2.2.2.1
def szP (S : Zt) : Int32 := S.1.2.2.2.2.1
def szA (S : Zt) : Int32 := S.1.2.2.2.2.2
def szR (S : Zt) : Nat → Int32 := S.2.1
def szE (S : Zt) : Nat → Int32 := S.2.2.1
def szD (S : Zt) : Nat → Int32 := S.2.2.2
def hod (x : Int32) : Int32 := x - x / (24 : Int32) * (24 : Int32)
def dy (x : Int32) : Int32 := x / (24 : Int32)
def setC (S : Zt) (x : Int32) : Zt := ((szH S, x, szQ S, szG S, szP S, szA S), szR S, szE S, szD S)
def setQ (S : Zt) (x : Int32) (d : Nat → Int32) : Zt := ((szH S, szC S, x, szG S, szP S, szA S), szR S, szE S, d)
def setW (S : Zt) (g : Int32) (a : Nat → Int32) : Zt := ((szH S, szC S, szQ S, g, szP S, szA S), szR S, a, szD S)
section SPC
variable (H : Ho) (S : Zt)
def wyD (g : Int32) (f : Nat) : Nat := dD (hoF H) (hoW H) (hoA H) (hoB H) (bt g) f
def wyV (g : Int32) (f : Nat) : Int32 := via (hoF H) (hoW H) (hoA H) (hoB H) (bt g) f
def wyN (g : Int32) (f : Nat) : Nat := nx (hoF H) (hoW H) (hoA H) (hoB H) (bt g) f
def lt (g : Int32) (f : Nat) : Bool := decide (wyD H g f ≠ 99)
/-- uses that are on -/
def onp (h : Int32) (u : Nat) : Bool := decide ((hoO H u).toInt ≤ h.toInt ∧ h.toInt ≤ (hoI H u).toInt) && bt (szA S) u && lt H (szG S) (hoH H u)
def onA (h : Int32) : Int32 := bs (onp H S h) (hoU H)
/-- what is in a wire -/
def lds (g on : Int32) (w : Nat) : Nat → Int32
  | 0 => 0
  | u + 1 => lds g on w u + cond (bt on u && bt (wyV H g (hoH H u)) w) (hoM H u) 0
def lod (g on : Int32) (w : Nat) : Int32 := lds H g on w (hoU H)
def vz (h d w : Int32) : Nat → Int32 := fun j => if j = 3 then h else if j = 4 then d else if j = 8 then w else 0
def vGo (l h : Int32) (w : Nat) : Nat → Int32 := upd (upd (upd (vz h (dy (szH S)) (Int32.ofNat w)) 0 l) 1 (szR S w)) 2 (szE S w)
def gop (on h more : Int32) (w : Nat) : Bool := decide (0 < (lod H (szG S) on w).toInt) && !bt (szP S) w && decide (0 < (lW (hoL H 0) (vGo S (lod H (szG S) on w + more) h w)).toInt)
def gng (on h more : Int32) : Int32 := bs (gop H S on h more) (hoW H)
def hl (x : Int32) : Int32 := if x.toInt < 0 then 0 else if 99 < x.toInt then 99 else x
def qrl (f : Nat) : Int32 := hl (lW (hoL H 1) (upd (upd (vz (hod (szH S)) (dy (szH S)) (Int32.ofNat f)) 6 (hoT H f)) 7 (szD S f)))
def cst (w : Nat) : Int32 := hl (lW (hoL H 2) (upd (upd (vz (hod (szH S)) (dy (szH S)) (Int32.ofNat w)) 1 (szR S w)) 2 (szE S w)))
def pyu (u : Nat) : Int32 := hl (lW (hoL H 3) (upd (vz (hod (szH S)) (dy (szH S)) (Int32.ofNat u)) 5 (hoM H u)))
def mx (a b : Int32) : Int32 := (((a ^^^ b) * (1103515245 : Int32)) + (12345 : Int32)) ^^^ ((((a ^^^ b) * (1103515245 : Int32)) + (12345 : Int32)).toUInt32 >>> ((15 : Int32).toUInt32 &&& Int32.toUInt32 31)).toInt32
def lot (x : Int32) : Int32 := (x.toUInt32 >>> ((1 : Int32).toUInt32 &&& Int32.toUInt32 31)).toInt32 - (x.toUInt32 >>> ((1 : Int32).toUInt32 &&& Int32.toUInt32 31)).toInt32 / (100 : Int32) * (100 : Int32)
def sgp (e h : Int32) : Bool := decide ((lot (mx (mx e 129) ((4 : Int32) * h))).toInt < (hoS H).toInt)
def sgA (e h : Int32) : Int32 := cond (sgp H e h) (hoP H) 0
def cl (T x : Int32) : Int32 := if x.toInt < 0 then 0 else if T.toInt < x.toInt then T else x
def pyS (on : Int32) : Nat → Int32
  | 0 => 0
  | u + 1 => cond (bt on u) (pyS on u + pyu H S u) (pyS on u)
def quS : Nat → Int32
  | 0 => 0
  | f + 1 => cond (lt H (szG S) f) (quS f) (quS f + qrl H S f)
/-- an hour, as far as wires know of it -/
def wsz (more : Int32) : Zt := ((szH S + 1, szC S, szQ S, szG S ||| gng H S (onA H S (hod (szH S))) (hod (szH S)) more, szP S, szA S), szR S, (fun w => if w < hoW H ∧ bt (szG S ||| gng H S (onA H S (hod (szH S))) (hod (szH S)) more) w = false then (if (szE S w + 1) < (999 : Int32) then (szE S w + 1) else 999) else szE S w), szD S)
/-- what is paid, who quarrels -/
def pst : Zt := setQ (setC S (cl 99999 (szC S + pyS H S (onA H S (hod (szH S))) (hoU H)))) (cl 999999 (szQ S + quS H S (hoF H))) (fun f => if f < hoF H then cond (lt H (szG S) f) 0 (szD S f + 1) else szD S f)
def hst : Zt := wsz H (pst H S) (sgA H (hoE H) (szH S))
end SPC
/-- what a house and how it stands keep -/
def hOk (H : Ho) : Prop := hoF H ≤ 7 ∧ hoW H ≤ 10 ∧ hoU H ≤ 8 ∧ (∀ w : Nat, w < hoW H → hoA H w < hoF H ∧ hoB H w < hoF H ∧ hoA H w ≠ hoB H w) ∧ (∀ u : Nat, u < hoU H → hoH H u < hoF H ∧ 1 ≤ (hoM H u).toInt ∧ (hoM H u).toInt ≤ 19) ∧ ∀ k : Nat, k < 4 → lOk (hoL H k)
def zOk (H : Ho) (S : Zt) : Prop := (0 ≤ (szC S).toInt ∧ (szC S).toInt ≤ 99999) ∧ (0 ≤ (szQ S).toInt ∧ (szQ S).toInt ≤ 999999) ∧ (∀ i : Nat, bt (szG S) i = true → i < hoW H) ∧ (∀ i : Nat, bt (szP S) i = true → i < hoW H) ∧ (∀ i : Nat, bt (szA S) i = true → i < hoU H) ∧ (∀ w : Nat, w < hoW H → 0 ≤ (szR S w).toInt ∧ (szR S w).toInt ≤ 99) ∧ ∀ w : Nat, w < hoW H → 0 ≤ (szE S w).toInt ∧ (szE S w).toInt ≤ 999
section SPL
variable {H : Ho} {S : Zt}
theorem hl_b (x : Int32) : 0 ≤ (hl x).toInt ∧ (hl x).toInt ≤ 99 := by
  unfold hl
  have e0 : (0 : Int32).toInt = 0 := by decide
  have e9 : (99 : Int32).toInt = 99 := by decide
  by_cases q : x.toInt < 0
  · rw [if_pos q]; omega
  · rw [if_neg q]
    by_cases q2 : 99 < x.toInt
    · rw [if_pos q2]; omega
    · rw [if_neg q2]; omega
theorem cl_b {T x : Int32} (hT : 0 ≤ T.toInt) : 0 ≤ (cl T x).toInt ∧ (cl T x).toInt ≤ T.toInt := by
  unfold cl
  have e0 : (0 : Int32).toInt = 0 := by decide
  by_cases q : x.toInt < 0
  · rw [if_pos q]; omega
  · rw [if_neg q]
    by_cases q2 : T.toInt < x.toInt
    · rw [if_pos q2]; omega
    · rw [if_neg q2]; omega
theorem pyS_b {on : Int32} : ∀ (n : Nat), n ≤ 8 → 0 ≤ (pyS H S on n).toInt ∧ (pyS H S on n).toInt ≤ 99 * n
  | 0, _ => by show 0 ≤ (0 : Int32).toInt ∧ (0 : Int32).toInt ≤ _; decide
  | n + 1, h => by
    have ih := pyS_b (on := on) n (by omega)
    have b := hl_b (lW (hoL H 3) (upd (vz (hod (szH S)) (dy (szH S)) (Int32.ofNat n)) 5 (hoM H n)))
    have b : 0 ≤ (pyu H S n).toInt ∧ (pyu H S n).toInt ≤ 99 := b
    rw [show pyS H S on (n + 1) = cond (bt on n) (pyS H S on n + pyu H S n) (pyS H S on n) from rfl]
    cases bt on n with
    | true =>
      rw [cond_true]
      have := dAddE (X := (pyS H S on n).toInt) (Y := (pyu H S n).toInt) rfl rfl (by omega) (by omega)
      omega
    | false => rw [cond_false]; omega
theorem quS_b : ∀ (n : Nat), n ≤ 7 → 0 ≤ (quS H S n).toInt ∧ (quS H S n).toInt ≤ 99 * n
  | 0, _ => by show 0 ≤ (0 : Int32).toInt ∧ (0 : Int32).toInt ≤ _; decide
  | n + 1, h => by
    have ih := quS_b n (by omega)
    have b := hl_b (lW (hoL H 1) (upd (upd (vz (hod (szH S)) (dy (szH S)) (Int32.ofNat n)) 6 (hoT H n)) 7 (szD S n)))
    have b : 0 ≤ (qrl H S n).toInt ∧ (qrl H S n).toInt ≤ 99 := b
    rw [show quS H S (n + 1) = cond (lt H (szG S) n) (quS H S n) (quS H S n + qrl H S n) from rfl]
    cases lt H (szG S) n with
    | false =>
      rw [cond_false]
      have := dAddE (X := (quS H S n).toInt) (Y := (qrl H S n).toInt) rfl rfl (by omega) (by omega)
      omega
    | true => rw [cond_true]; omega
/-- held step by step, or once -/
theorem cl_step {T c s p : Int32} (hT : 0 ≤ T.toInt ∧ T.toInt ≤ 999999) (hc : 0 ≤ c.toInt ∧ c.toInt ≤ T.toInt) (hs : 0 ≤ s.toInt ∧ s.toInt ≤ 10000) (hp : 0 ≤ p.toInt ∧ p.toInt ≤ 99) : (if (cl T (c + s) + p) < T then cl T (c + s) + p else T) = cl T (c + (s + p)) := by
  have a := dAddE (X := c.toInt) (Y := s.toInt) rfl rfl (by omega) (by omega)
  have b := dAddE (X := s.toInt) (Y := p.toInt) rfl rfl (by omega) (by omega)
  have d := dAddE (X := c.toInt) (Y := s.toInt + p.toInt) (y := s + p) rfl b (by omega) (by omega)
  apply Int32.toInt_inj.mp
  have lti : ∀ x y : Int32, x < y ↔ x.toInt < y.toInt := fun x y => Int32.lt_iff_toInt_lt
  by_cases q : T.toInt < (c + s).toInt
  · have e : cl T (c + s) = T := by unfold cl; rw [if_neg (by omega), if_pos q]
    rw [e]
    have f := dAddE (X := T.toInt) (Y := p.toInt) rfl rfl (by omega) (by omega)
    have e2 : cl T (c + (s + p)) = T := by unfold cl; rw [if_neg (by omega), if_pos (by omega)]
    rw [e2]
    rw [if_neg (fun z => by have := (lti _ _).mp z; omega)]
  · have e : cl T (c + s) = c + s := by unfold cl; rw [if_neg (by omega), if_neg q]
    rw [e]
    have f := dAddE (X := c.toInt + s.toInt) (Y := p.toInt) (x := c + s) a rfl (by omega) (by omega)
    unfold cl
    rw [if_neg (show ¬ (c + (s + p)).toInt < 0 by omega)]
    by_cases z : c + s + p < T
    · have := (lti _ _).mp z
      rw [if_pos z, if_neg (by omega)]
      omega
    · have : ¬ (c + s + p).toInt < T.toInt := fun y => z ((lti _ _).mpr y)
      rw [if_neg z]
      by_cases y : T.toInt < (c + (s + p)).toInt
      · rw [if_pos y]
      · rw [if_neg y]; omega
theorem cl_id {T c : Int32} (hc : 0 ≤ c.toInt ∧ c.toInt ≤ T.toInt) : cl T (c + 0) = c := by
  rw [Int32.add_zero]
  unfold cl
  rw [if_neg (by omega), if_neg (by omega)]
/-- what is in wires is no more than this, and none is in a wire that is gone -/
theorem lds_b (h : hOk H) {g on : Int32} {w : Nat} : ∀ (n : Nat), n ≤ hoU H → 0 ≤ (lds H g on w n).toInt ∧ (lds H g on w n).toInt ≤ 19 * n
  | 0, _ => by show 0 ≤ (0 : Int32).toInt ∧ (0 : Int32).toInt ≤ _; decide
  | n + 1, hn => by
    have ih := lds_b h (g := g) (on := on) (w := w) n (by omega)
    have b := (h.2.2.2.2.1 n (by omega)).2
    have u8 := h.2.2.1
    rw [show lds H g on w (n + 1) = lds H g on w n + cond (bt on n && bt (wyV H g (hoH H n)) w) (hoM H n) 0 from rfl]
    cases (bt on n && bt (wyV H g (hoH H n)) w) with
    | true =>
      rw [cond_true]
      have := dAddE (X := (lds H g on w n).toInt) (Y := (hoM H n).toInt) rfl rfl (by omega) (by omega)
      omega
    | false => rw [cond_false, Int32.add_zero]; omega
theorem lod_gone (h : hOk H) {g on : Int32} {w : Nat} (hg : bt g w = true) : lod H g on w = 0 := by
  unfold lod
  have : ∀ n : Nat, lds H g on w n = 0 := by
    intro n
    induction n with
    | zero => rfl
    | succ n ih =>
      show lds H g on w n + cond (bt on n && bt (wyV H g (hoH H n)) w) (hoM H n) 0 = 0
      rw [ih]
      cases e : bt (wyV H g (hoH H n)) w with
      | false => rw [Bool.and_false, cond_false]; rfl
      | true =>
        have := (via_whole (by have := h.2.1; omega) _ _ _ rfl e).2
        rw [hg] at this
        cases this
  exact this _
end SPL
end
section
/-! THE CLASS: what is on, what is in the wires, what the laws tell, an hour -/
def CH (H : Ho) (m : dM) : Prop := HW (hoF H) (hoW H) (hoA H) (hoB H) m ∧ (m.1 2 2).toInt = (hoU H : Int) ∧ (∀ f : Nat, f < hoF H → m.1 3 f = hoT H f) ∧ (∀ w : Nat, w < hoW H → m.1 6 w = hoR H w) ∧ (∀ u : Nat, u < hoU H → (m.1 7 u).toInt = (hoH H u : Int) ∧ m.1 8 u = hoM H u ∧ m.1 9 u = hoO H u ∧ m.1 10 u = hoI H u) ∧ (m.1 2 3 = hoS H ∧ m.1 2 4 = hoP H ∧ m.1 2 5 = hoC H ∧ m.1 2 6 = hoE H) ∧ ∀ k : Nat, k < 4 → LC m k (hoL H k)
/-- a house with the ways that were laid last -/
def CW (H : Ho) (m : dM) : Prop := hOk H ∧ CH H m ∧ WI (hoF H) (hoW H) (hoA H) (hoB H) m
def CZ (c : Nat) (m : dM) (S : Zt) : Prop := (m.1 c 0 = szH S ∧ m.1 c 1 = szC S ∧ m.1 c 2 = szQ S ∧ m.1 c 3 = szG S ∧ m.1 c 4 = szP S ∧ m.1 c 5 = szA S) ∧ (∀ j : Nat, j < 10 → m.1 (c + 1) j = szR S j) ∧ (∀ j : Nat, j < 10 → m.1 (c + 2) j = szE S j) ∧ ∀ j : Nat, j < 7 → m.1 (c + 3) j = szD S j
/-- scratch alone has changed -/
def ScF (m0 m : dM) : Prop := (∀ k : Nat, k ≠ 11 → k ≠ 19 → (k < 55 ∨ 60 < k) → m.1 k = m0.1 k) ∧ (∀ j : Nat, j ≠ 5 → m.1 11 j = m0.1 11 j) ∧ m.2 = m0.2
theorem ScF.rf (m : dM) : ScF m m := ⟨fun _ _ _ _ => rfl, fun _ _ => rfl, rfl⟩
theorem ScF.tr {a b c : dM} (h : ScF a b) (h' : ScF b c) : ScF a c := ⟨fun k q1 q2 q3 => (h'.1 k q1 q2 q3).trans (h.1 k q1 q2 q3), fun j q => (h'.2.1 j q).trans (h.2.1 j q), h'.2.2.trans h.2.2⟩
/-- laws alone have been asked -/
def VaF (m0 m : dM) : Prop := (∀ k : Nat, k ≠ 11 → k ≠ 19 → k ≠ 55 → m.1 k = m0.1 k) ∧ (∀ j : Nat, j ≠ 5 → m.1 11 j = m0.1 11 j) ∧ m.2 = m0.2
theorem VaF.rf (m : dM) : VaF m m := ⟨fun _ _ _ _ => rfl, fun _ _ => rfl, rfl⟩
theorem VaF.tr {a b c : dM} (h : VaF a b) (h' : VaF b c) : VaF a c := ⟨fun k q1 q2 q3 => (h'.1 k q1 q2 q3).trans (h.1 k q1 q2 q3), fun j q => (h'.2.1 j q).trans (h.2.1 j q), h'.2.2.trans h.2.2⟩
theorem VaF.sf {a b : dM} (h : VaF a b) : ScF a b := ⟨fun k q1 q2 q3 => h.1 k q1 q2 (by omega), h.2⟩
theorem VaF.py {a b c : dM} (h : VaF a b) (h' : PyF b c) : VaF a c := ⟨fun k q1 q2 q3 => (h'.1 k q2 q1).trans (h.1 k q1 q2 q3), fun j q => (h'.2.1 j q).trans (h.2.1 j q), h'.2.2.trans h.2.2⟩
theorem VaF.set {a b : dM} {j : Nat} {v : Int32} (h : VaF a b) : VaF a (dSet b 55 j v) := ⟨fun k q1 q2 q3 => by rw [dSet_k q3]; exact h.1 k q1 q2 q3, fun i q => by rw [dSet_k (by decide)]; exact h.2.1 i q, h.2.2⟩
theorem LyF.sf {a b : dM} (h : LyF a b) : ScF a b := ⟨fun k _ _ q => h.1 k (by omega), fun j _ => by rw [h.1 11 (by omega)], h.2.2⟩
section CHO
variable {H : Ho} {S : Zt}
theorem CH.of {m m' : dM} (h : CH H m) (e : ∀ k : Nat, 2 ≤ k → k ≤ 18 → k ≠ 11 → m'.1 k = m.1 k) : CH H m' := by
  obtain ⟨a1, a2, a3, a4, a5, a6, a7⟩ := h
  refine ⟨?_, ?_, ?_, ?_, ?_, ?_, fun k hk => (a7 k hk).of (fun c p q => e c (by omega) (by omega) (by omega)) hk⟩
  · unfold HW
    rw [e 2 (by omega) (by omega) (by omega), e 4 (by omega) (by omega) (by omega), e 5 (by omega) (by omega) (by omega)]; exact a1
  · rw [e 2 (by omega) (by omega) (by omega)]; exact a2
  · rw [e 3 (by omega) (by omega) (by omega)]; exact a3
  · rw [e 6 (by omega) (by omega) (by omega)]; exact a4
  · rw [e 7 (by omega) (by omega) (by omega), e 8 (by omega) (by omega) (by omega), e 9 (by omega) (by omega) (by omega), e 10 (by omega) (by omega) (by omega)]; exact a5
  · rw [e 2 (by omega) (by omega) (by omega)]; exact a6
theorem CH.sf {m m' : dM} (h : CH H m) (hF : ScF m m') : CH H m' := h.of (fun k a b c => hF.1 k c (by omega) (by omega))
theorem WI.of {nf nw : Nat} {e1 e2 : Nat → Nat} {m m' : dM} (h : WI nf nw e1 e2 m) (e : ∀ k : Nat, 57 ≤ k → k ≤ 60 → m'.1 k = m.1 k) : WI nf nw e1 e2 m' := by
  unfold WI WyR
  rw [e 57 (by omega) (by omega), e 58 (by omega) (by omega), e 59 (by omega) (by omega), e 60 (by omega) (by omega)]
  exact h
theorem CW.vf {m m' : dM} (h : CW H m) (hF : VaF m m') : CW H m' := ⟨h.1, h.2.1.sf hF.sf, h.2.2.of (fun k a b => hF.1 k (by omega) (by omega) (by omega))⟩
theorem CZ.of {c : Nat} {m m' : dM} (h : CZ c m S) (e : ∀ k : Nat, c ≤ k → k ≤ c + 3 → m'.1 k = m.1 k) : CZ c m' S := by
  unfold CZ
  rw [e c (by omega) (by omega), e (c + 1) (by omega) (by omega), e (c + 2) (by omega) (by omega), e (c + 3) (by omega) (by omega)]
  exact h
theorem CZ.sf {c : Nat} {m m' : dM} (h : CZ c m S) (hF : ScF m m') (hc : c = 47 ∨ c = 62) : CZ c m' S := h.of (fun k a b => hF.1 k (by omega) (by omega) (by omega))
/-- ways are laid for these -/
def LA (H : Ho) (g : Int32) (m : dM) : Prop := m.1 57 1 = g ∧ WyR (hoF H) (hoW H) (hoA H) (hoB H) (bt g) (dD (hoF H) (hoW H) (hoA H) (hoB H) (bt g)) m
theorem LA.of {g : Int32} {m m' : dM} (h : LA H g m) (e : ∀ k : Nat, 57 ≤ k → k ≤ 60 → m'.1 k = m.1 k) : LA H g m' := by
  unfold LA WyR
  rw [e 57 (by omega) (by omega), e 58 (by omega) (by omega), e 59 (by omega) (by omega), e 60 (by omega) (by omega)]
  exact h
theorem LA.wi {g : Int32} {m : dM} (h : LA H g m) : WI (hoF H) (hoW H) (hoA H) (hoB H) m := fun _ => by
  rw [h.1]
  exact h.2
theorem LA.lit {g : Int32} {m : dM} (h : LA H g m) {f : Nat} (hf : f < hoF H) (h7 : hoF H ≤ 7) : bt (m.1 57 5) f = lt H g f := by
  rw [h.2.2.2.2 f (by omega), decide_eq_true hf, Bool.true_and]
  rfl
theorem y_lays {g : Int32} {m : dM} {Q : dM → Prop} (hW : CW H m) (hg : g.toInt ≠ -1) (hQ : ∀ m' : dM, LyF m m' → CW H m' → LA H g m' → Q m') : c_X10_lay_57 2 g m Q :=
  y_lay hW.2.1.1 hW.2.2 hg (fun m' a b c => hQ m' a ⟨hW.1, hW.2.1.sf a.sf, LA.wi (H := H) ⟨b, c⟩⟩ ⟨b, c⟩)
theorem zOk.g1 (hH : hOk H) (h : zOk H S) : (szG S).toInt ≠ -1 := fun e => by
  have e2 : szG S = -1 := Int32.toInt_inj.mp (by rw [e]; decide)
  have := h.2.2.1 31 (by rw [e2]; decide)
  have := hH.2.1
  omega
theorem y_vars {x1 x2 x3 : Int32} {m : dM} {Q : dM → Prop} (hQ : ∀ m' : dM, VaF m m' → (∀ j : Nat, j < 9 → m'.1 55 j = vz x1 x2 x3 j) → (∀ k : Nat, k ≠ 55 → m'.1 k = m.1 k) → Q m') : c_X0_setVars_54 2 x1 x2 x3 m Q := by
  refine v_X0_setVars_54 (y_fill55 (fun m1 a b c => hQ _ (VaF.set (VaF.set (VaF.set ⟨fun k _ _ q => a k q, fun j _ => by rw [a 11 (by decide)], b⟩))) (fun j hj => ?_) (fun k hk => by rw [dSet_k hk, dSet_k hk, dSet_k hk]; exact a k hk)))
  unfold vz
  by_cases q8 : j = 8
  · subst q8
    rw [dSet_s]
    rfl
  · rw [dSet_j q8]
    by_cases q4 : j = 4
    · subst q4
      rw [dSet_s]
      rfl
    · rw [dSet_j q4]
      by_cases q3 : j = 3
      · subst q3
        rw [dSet_s]
        rfl
      · rw [dSet_j q3, c j hj, if_neg q3, if_neg q4, if_neg q8]
theorem y_tellv {k : Nat} {v : Nat → Int32} {x1 : Int32} {m : dM} {Q : Int32 → dM → Prop} (hH : CH H m) (hk : k < 4) (hx : x1.toInt = (k : Int)) (hv : ∀ j : Nat, j < 9 → m.1 55 j = v j) (hQ : ∀ m' : dM, PyF m m' → Q (lW (hoL H k) v) m') : c_X4_tells_11_55 3 x1 m Q :=
  y_tells (hH.2.2.2.2.2.2 k hk) hk hx (fun m' hF => by rw [lW_cv hv]; exact hQ m' hF)
theorem y_held {x : Int32} {m : dM} {Q : Int32 → dM → Prop} (hQ : Q (hl x) m) : c_X0_held 1 x m Q := by
  have e : (if (0 : Int32) < (if x < (99 : Int32) then x else (99 : Int32)) then (if x < (99 : Int32) then x else (99 : Int32)) else (0 : Int32)) = hl x := by
    have lti : ∀ x y : Int32, x < y ↔ x.toInt < y.toInt := fun x y => Int32.lt_iff_toInt_lt
    have e0 : (0 : Int32).toInt = 0 := by decide
    have e9 : (99 : Int32).toInt = 99 := by decide
    apply Int32.toInt_inj.mp
    unfold hl
    by_cases q : x < (99 : Int32)
    · have q' := (lti _ _).mp q
      rw [if_pos q]
      by_cases z : (0 : Int32) < x
      · have z' := (lti _ _).mp z
        rw [if_pos z, if_neg (by omega), if_neg (by omega)]
      · have z' : ¬ (0 : Int32).toInt < x.toInt := fun y => z ((lti _ _).mpr y)
        rw [if_neg z]
        by_cases y : x.toInt < 0
        · rw [if_pos y]
        · rw [if_neg y, if_neg (by omega)]; omega
    · have q' : ¬ x.toInt < (99 : Int32).toInt := fun y => q ((lti _ _).mpr y)
      rw [if_neg q, if_pos (by decide), if_neg (by omega)]
      by_cases y : 99 < x.toInt
      · rw [if_pos y]
      · rw [if_neg y]; omega
  refine v_X0_held ?_
  rw [e]
  exact hQ
theorem upd_j {f : Nat → Int32} {a j : Nat} {x : Int32} : upd f a x j = if j = a then x else f j := rfl
/-- stores into the variables -/
theorem vset {m : dM} {v : Nat → Int32} {a : Nat} {x y : Int32} (h : ∀ j : Nat, j < 9 → m.1 55 j = v j) (e : x = y) : ∀ j : Nat, j < 9 → (dSet m 55 a x).1 55 j = upd v a y j := fun j hj => by
  rw [dSet_e, upd_j]
  by_cases q : j = a
  · rw [if_pos ⟨rfl, q⟩, if_pos q, e]
  · rw [if_neg (fun z => q z.2), if_neg q]; exact h j hj
theorem i32_of {a : Int32} {k : Nat} (h : a.toInt = (k : Int)) : Int32.ofNat k = a := (i32_nat h).symm
theorem y_stirred {a b : Int32} {m : dM} {Q : Int32 → dM → Prop} (hQ : Q (mx a b) m) : c_X0_stirred 1 a b m Q := v_X0_stirred hQ
theorem y_surgeOf {x1 x2 : Int32} {m : dM} {Q : Int32 → dM → Prop} (hH : CH H m) (hQ : Q (sgA H x1 x2) m) : c_X0_surgeOf_54 4 x1 x2 m Q := by
  have e2 := hH.2.2.2.2.2.1
  have hs : (lot (mx (mx x1 129) ((4 : Int32) * x2))).toInt < (hoS H).toInt → sgA H x1 x2 = hoP H := fun q => by unfold sgA sgp; rw [decide_eq_true q]; rfl
  have hn : ¬ (lot (mx (mx x1 129) ((4 : Int32) * x2))).toInt < (hoS H).toInt → sgA H x1 x2 = 0 := fun q => by unfold sgA sgp; rw [decide_eq_false q]; rfl
  refine v_X0_surgeOf_54 (v_X0_isSurge_54 (v_X0_lot (y_stirred (y_stirred ⟨fun q => absurd q (by decide), fun _ => ⟨by decide, ?_⟩⟩))))
  rw [e2.1]
  refine ⟨fun q => ⟨fun _ => ?_, fun z => absurd rfl z⟩, fun q => ⟨fun z => absurd z (by decide), fun _ => ?_⟩⟩
  · have q : (hoS H).toInt ≤ (lot (mx (mx x1 129) ((4 : Int32) * x2))).toInt := q
    rw [hn (by omega)] at hQ
    exact hQ
  · rw [e2.2.1, ← hs q]
    exact hQ
theorem ushr_z {x a : Int32} {k w : Nat} (h : a.toInt = (k : Int)) (hk : k < 32) (hz : (x.toUInt32 >>> (a.toUInt32 &&& Int32.toUInt32 31)).toInt32.toInt = 0) (hw : k ≤ w) : bt x w = false := by
  have l : (x.toUInt32 >>> (a.toUInt32 &&& Int32.toUInt32 31)).toInt32.toBitVec = x.toBitVec >>> k := by
    rw [i32_nat h]
    match k, hk with
    | 0, _ | 1, _ | 2, _ | 3, _ | 4, _ | 5, _ | 6, _ | 7, _ | 8, _ | 9, _ | 10, _ | 11, _ | 12, _ | 13, _ | 14, _ | 15, _ | 16, _ | 17, _ | 18, _ | 19, _ | 20, _ | 21, _ | 22, _ | 23, _ | 24, _ | 25, _ | 26, _ | 27, _ | 28, _ | 29, _ | 30, _ | 31, _ => rfl
    | k + 32, h => omega
  have z : (x.toUInt32 >>> (a.toUInt32 &&& Int32.toUInt32 31)).toInt32 = 0 := Int32.toInt_inj.mp (by rw [hz]; decide)
  rw [z] at l
  have e := congrArg (fun b : BitVec 32 => b.getLsbD (w - k)) l
  simp only [BitVec.getLsbD_ushiftRight] at e
  rw [show k + (w - k) = w by omega] at e
  unfold bt
  rw [← e]
  exact bt_0 (i := w - k)
theorem y_usesAt47 {h : Int32} {m : dM} {Q : Int32 → dM → Prop} (hW : CW H m) (hZ : CZ 47 m S) (hg : (szG S).toInt ≠ -1) (hQ : ∀ m' : dM, LyF m m' → CW H m' → LA H (szG S) m' → Q (onA H S h) m') : c_X0_usesAt_54_47 3 h m Q := by
  obtain ⟨o1, o2, o3, o4, o5, o6⟩ := hW.1
  refine v_X0_usesAt_54_47 ?_
  rw [hZ.1.2.2.2.1]
  refine y_lays hW hg (fun M hF hWM hA => ?_)
  have hZM := hZ.sf hF.sf (Or.inl rfl)
  obtain ⟨⟨a1, a2, _⟩, a3, a4, a5, a6, _⟩ := hWM.2.1
  have loop : ∀ (t u : Nat) (x3 x4 : Int32), u + t = hoU H → x4.toInt = (u : Int) → x3 = bs (onp H S h) u → j_X0_usesAt_54_47_16 3 h x3 x4 M Q := by
    intro t
    induction t with
    | zero =>
      intro u x3 x4 hu h4 h3
      refine v_X0_usesAt_54_47_16 ⟨fun _ => ?_, fun q => by exfalso; omega⟩
      rw [h3, show u = hoU H by omega]
      exact hQ M hF hWM hA
    | succ t ih =>
      intro u x3 x4 hu h4 h3
      obtain ⟨b1', b2', b3', b4'⟩ := a6 u (by omega)
      obtain ⟨c1, _⟩ := o5 u (by omega)
      have on : ∀ y : Int32, y = bs (onp H S h) (u + 1) → j_X0_usesAt_54_47_110 3 h y x4 M Q := fun y hy => v_X0_usesAt_54_47_110 (ih (u + 1) _ _ (by omega) (d_inc h4 (by omega)) hy)
      have no : onp H S h u = false → j_X0_usesAt_54_47_110 3 h x3 x4 M Q := fun q => on x3 (by
        show x3 = cond (onp H S h u) (bs (onp H S h) u ||| b1 u) (bs (onp H S h) u)
        rw [q, cond_false]; exact h3)
      have no2 : onp H S h u = false → j_X0_usesAt_54_47_60 3 h x3 x4 M Q := fun q => v_X0_usesAt_54_47_60 (no q)
      refine v_X0_usesAt_54_47_16 ⟨fun q => by exfalso; omega, fun _ => ?_⟩
      rw [d_cn h4, b3', b4', b1_of h4, hZM.1.2.2.2.2.2]
      refine ⟨by omega, fun q => no2 ?_, fun q1 => ⟨by omega, fun q => no2 ?_, fun q2 => ?_⟩⟩
      · unfold onp
        rw [decide_eq_false (by omega), Bool.false_and, Bool.false_and]
      · unfold onp
        rw [decide_eq_false (by omega), Bool.false_and, Bool.false_and]
      · refine Wp.deep (y_has h4 (by omega) (fun g1 => ⟨fun q => absurd q (by decide), fun _ => ⟨by omega, ?_⟩⟩) (fun g1 => ⟨fun _ => no ?_, fun q => absurd rfl q⟩)) (Nat.le_of_ble_eq_true rfl)
        · have hl' := hA.lit c1 o1
          refine Wp.deep (y_has b1' (by omega) (fun g2 => ⟨fun q => absurd q (by decide), fun _ => on _ ?_⟩) (fun g2 => ⟨fun _ => no ?_, fun q => absurd rfl q⟩)) (Nat.le_of_ble_eq_true rfl)
          · show x3 ||| b1 u = cond (onp H S h u) (bs (onp H S h) u ||| b1 u) (bs (onp H S h) u)
            have : onp H S h u = true := by
              unfold onp
              rw [decide_eq_true ⟨q1, q2⟩, g1, ← hl', g2]
              rfl
            rw [this, cond_true, h3]
          · unfold onp
            rw [← hl', g2, Bool.and_false]
        · unfold onp
          rw [g1, Bool.and_false, Bool.false_and]
  exact loop (hoU H) 0 _ _ (by omega) (by decide) rfl
theorem y_putOn47 {on : Int32} {m : dM} {Q : dM → Prop} (hW : CW H m) (hZ : CZ 47 m S) (hg : (szG S).toInt ≠ -1) (hQ : ∀ m' : dM, ScF m m' → CW H m' → LA H (szG S) m' → (∀ w : Nat, w < hoW H → m'.1 56 w = lod H (szG S) on w) → Q m') : c_X0_putOn_54_47 3 on m Q := by
  obtain ⟨o1, o2, o3, o4, o5, o6⟩ := hW.1
  refine v_X0_putOn_54_47 ?_
  rw [hZ.1.2.2.2.1]
  refine y_lays hW hg (fun M0 hF0 hW0 hA0 => Wp.deep (y_fill56 (fun M hk h2 hv => ?_)) (Nat.le_of_ble_eq_true rfl))
  have hF : ScF m M := hF0.sf.tr ⟨fun k _ _ q => hk k (by omega), fun j _ => by rw [hk 11 (by decide)], h2⟩
  have hWM : CW H M := ⟨hW0.1, hW0.2.1.of (fun k a b _ => hk k (by omega)), hW0.2.2.of (fun k a b => hk k (by omega))⟩
  have hA : LA H (szG S) M := hA0.of (fun k a b => hk k (by omega))
  have keep : ∀ M1 : dM, (∀ k : Nat, k ≠ 56 → M1.1 k = M.1 k) → M1.2 = M.2 → ScF m M1 ∧ CW H M1 ∧ LA H (szG S) M1 := fun M1 e e2 => ⟨hF.tr ⟨fun k _ _ q => e k (by omega), fun j _ => by rw [e 11 (by decide)], e2⟩, ⟨hWM.1, hWM.2.1.of (fun k a b _ => e k (by omega)), hWM.2.2.of (fun k a b => e k (by omega))⟩, hA.of (fun k a b => e k (by omega))⟩
  have loop : ∀ (t u : Nat) (x3 : Int32) (M1 : dM), u + t = hoU H → x3.toInt = (u : Int) → (∀ k : Nat, k ≠ 56 → M1.1 k = M.1 k) → M1.2 = M.2 → (∀ w : Nat, w < hoW H → M1.1 56 w = lds H (szG S) on w u) → j_X0_putOn_54_47_21 3 on x3 M1 Q := by
    intro t
    induction t with
    | zero =>
      intro u x3 M1 hu h3 e e2 hl'
      obtain ⟨k1, k2, k3⟩ := keep M1 e e2
      obtain ⟨_, a3, _⟩ := k2.2.1
      refine v_X0_putOn_54_47_21 ⟨fun _ => hQ M1 k1 k2 k3 (fun w hw => ?_), fun q => by exfalso; omega⟩
      rw [hl' w hw, show u = hoU H by omega]
      rfl
    | succ t ih =>
      intro u x3 M1 hu h3 e e2 hl'
      obtain ⟨k1, k2, k3⟩ := keep M1 e e2
      obtain ⟨⟨a1, a2, _⟩, a3, a4, a5, a6, _⟩ := k2.2.1
      obtain ⟨b1', b2', b3', b4'⟩ := a6 u (by omega)
      obtain ⟨c1, _⟩ := o5 u (by omega)
      have inner : ∀ (x4 : Int32), (∀ w : Nat, bt x4 w = (bt on u && bt (wyV H (szG S) (hoH H u)) w)) → ∀ (r k : Nat) (x5 : Int32) (M2 : dM), k + r = hoW H → x5.toInt = (k : Int) → (∀ k : Nat, k ≠ 56 → M2.1 k = M.1 k) → M2.2 = M.2 → (∀ w : Nat, w < hoW H → M2.1 56 w = if w < k then lds H (szG S) on w (u + 1) else lds H (szG S) on w u) → j_X0_putOn_54_47_66 3 on x3 x4 x5 M2 Q := by
        intro x4 h4 r
        have ext : ∀ (k : Nat) (M2 : dM), (∀ k : Nat, k ≠ 56 → M2.1 k = M.1 k) → M2.2 = M.2 → (∀ w : Nat, w < hoW H → k ≤ w → bt x4 w = false) → (∀ w : Nat, w < hoW H → M2.1 56 w = if w < k then lds H (szG S) on w (u + 1) else lds H (szG S) on w u) → j_X0_putOn_54_47_125 3 on x3 M2 Q := fun k M2 f f2 z hv2 => v_X0_putOn_54_47_125 (ih (u + 1) _ M2 (by omega) (d_inc h3 (by omega)) f f2 (fun w hw => by
          rw [hv2 w hw]
          by_cases q : w < k
          · rw [if_pos q]
          · rw [if_neg q]
            show _ = lds H (szG S) on w u + cond (bt on u && bt (wyV H (szG S) (hoH H u)) w) (hoM H u) 0
            rw [← h4 w, z w hw (by omega), cond_false, Int32.add_zero]))
        induction r with
        | zero =>
          intro k x5 M2 hk' h5 f f2 hv2
          have e21 : (M2.1 2 1).toInt = (hoW H : Int) := (keep M2 f f2).2.1.2.1.1.2.1.1
          have done := ext k M2 f f2 (fun w hw q => by exfalso; omega) hv2
          exact v_X0_putOn_54_47_66 ⟨fun _ => done, fun _ => ⟨fun _ => done, fun q => by exfalso; omega⟩⟩
        | succ r ih2 =>
          intro k x5 M2 hk' h5 f f2 hv2
          obtain ⟨⟨a1', a2', _⟩, a3', a4', a5', a6', _⟩ := (keep M2 f f2).2.1.2.1
          obtain ⟨b1'', b2'', _, _⟩ := a6' u (by omega)
          have on2 : ∀ v : Int32, v = lds H (szG S) on k (u + 1) → j_X0_putOn_54_47_66 3 on x3 x4 (x5 + (1 : Int32)) (dSet M2 56 k v) Q := fun v hv' => ih2 (k + 1) _ _ (by omega) (d_inc h5 (by omega)) (fun a ha => by rw [dSet_k ha]; exact f a ha) f2 (fun w hw => by
            by_cases q : w = k
            · subst q
              rw [dSet_s, if_pos (by omega)]; exact hv'
            · rw [dSet_j q, hv2 w hw]
              by_cases q2 : w < k
              · rw [if_pos q2, if_pos (by omega)]
              · rw [if_neg q2, if_neg (by omega)])
          have hv3 := hv2 k (by omega)
          rw [if_neg (by omega)] at hv3
          refine v_X0_putOn_54_47_66 ⟨fun z => ext k M2 f f2 (fun w hw q => ushr_z h5 (by omega) z q) hv2, fun _ => ⟨fun q => by exfalso; omega, fun _ => ⟨by omega, ?_⟩⟩⟩
          rw [d_cn h5, d_cn h3, hv3]
          refine Wp.deep (y_has h5 (by omega) (fun g => ⟨fun q => absurd q (by decide), fun _ => ⟨by omega, by omega, ?_⟩⟩) (fun g => ⟨fun _ => ⟨by omega, ?_⟩, fun q => absurd rfl q⟩)) (Nat.le_of_ble_eq_true rfl)
          · rw [b2'']
            refine on2 _ ?_
            show _ = lds H (szG S) on k u + cond (bt on u && bt (wyV H (szG S) (hoH H u)) k) (hoM H u) 0
            rw [← h4 k, g, cond_true]
          · refine on2 _ ?_
            show _ = lds H (szG S) on k u + cond (bt on u && bt (wyV H (szG S) (hoH H u)) k) (hoM H u) 0
            rw [← h4 k, g, cond_false]
      have lo : ∀ w : Nat, w < hoW H → M1.1 56 w = if w < 0 then lds H (szG S) on w (u + 1) else lds H (szG S) on w u := fun w hw => by rw [if_neg (by omega)]; exact hl' w hw
      refine v_X0_putOn_54_47_21 ⟨fun q => by exfalso; omega, fun _ => ?_⟩
      rw [d_cn h3]
      refine Wp.deep (y_has h3 (by omega) (fun g => ⟨fun q => absurd q (by decide), fun _ => ⟨by omega, by omega, ?_⟩⟩) (fun g => ⟨fun _ => inner 0 (fun w => by rw [bt_0, g, Bool.false_and]) (hoW H) 0 _ M1 (by omega) (by decide) e e2 lo, fun q => absurd rfl q⟩)) (Nat.le_of_ble_eq_true rfl)
      rw [d_cn b1']
      refine inner _ (fun w => ?_) (hoW H) 0 _ M1 (by omega) (by decide) e e2 lo
      rw [g, Bool.true_and, k3.2.2.1 (hoH H u) c1]
      by_cases q : dD (hoF H) (hoW H) (hoA H) (hoB H) (bt (szG S)) (hoH H u) = 99
      · rw [if_pos q]
        unfold wyV
        rw [via_99 q]
      · rw [if_neg q]
        rfl
  exact loop (hoU H) 0 _ M (by omega) (by decide) (fun _ _ => rfl) rfl (fun w hw => by rw [hv w (by omega)]; rfl)
theorem y_going47 {on h more : Int32} {m : dM} {Q : Int32 → dM → Prop} (hW : CW H m) (hZ : CZ 47 m S) (hLd : ∀ w : Nat, w < hoW H → m.1 56 w = lod H (szG S) on w) (hQ : ∀ m' : dM, VaF m m' → Q (gng H S on h more) m') : c_X0_going_54_47 4 h more m Q := by
  obtain ⟨o1, o2, o3, o4, o5, o6⟩ := hW.1
  have loop : ∀ (t w : Nat) (x4 x5 : Int32) (M : dM), w + t = hoW H → x5.toInt = (w : Int) → x4 = bs (gop H S on h more) w → VaF m M → j_X0_going_54_47_6 4 h more x4 x5 M Q := by
    intro t
    induction t with
    | zero =>
      intro w x4 x5 M hw h5 h4 hF
      have e21 : (M.1 2 1).toInt = (hoW H : Int) := (hW.vf hF).2.1.1.2.1.1
      refine v_X0_going_54_47_6 ⟨fun _ => ?_, fun q => by exfalso; omega⟩
      rw [h4, show w = hoW H by omega]
      exact hQ M hF
    | succ t ih =>
      intro w x4 x5 M hw h5 h4 hF
      have hWM := hW.vf hF
      have hZM := hZ.sf hF.sf (Or.inl rfl)
      have e21 : (M.1 2 1).toInt = (hoW H : Int) := hWM.2.1.1.2.1.1
      have e56 : M.1 56 w = lod H (szG S) on w := by rw [hF.1 56 (by decide) (by decide) (by decide)]; exact hLd w (by omega)
      have on2 : ∀ (y : Int32) (M1 : dM), VaF m M1 → y = bs (gop H S on h more) (w + 1) → j_X0_going_54_47_119 4 h more y x5 M1 Q := fun y M1 f hy => v_X0_going_54_47_119 (ih (w + 1) _ _ M1 (by omega) (d_inc h5 (by omega)) hy f)
      have no : ∀ M1 : dM, VaF m M1 → gop H S on h more w = false → j_X0_going_54_47_119 4 h more x4 x5 M1 Q := fun M1 f q => on2 x4 M1 f (by
        show x4 = cond (gop H S on h more w) (bs (gop H S on h more) w ||| b1 w) (bs (gop H S on h more) w)
        rw [q, cond_false]; exact h4)
      refine v_X0_going_54_47_6 ⟨fun q => by exfalso; omega, fun _ => ?_⟩
      rw [d_cn h5, e56, b1_of h5]
      refine ⟨by omega, fun q => no M hF ?_, fun q => ?_⟩
      · unfold gop
        rw [decide_eq_false (by omega), Bool.false_and, Bool.false_and]
      · rw [hZM.1.2.2.2.2.1]
        refine Wp.deep (y_has h5 (by omega) (fun g => ⟨fun _ => no M hF ?_, fun z => absurd z (by decide)⟩) (fun g => ⟨fun z => absurd rfl z, fun _ => ?_⟩)) (Nat.le_of_ble_eq_true rfl)
        · unfold gop
          rw [g]
          simp
        · refine v_X7_day_47 ?_
          rw [hZM.1.1]
          refine Wp.deep (y_vars (fun M3 f3 v3 k3 => ?_)) (Nat.le_of_ble_eq_true rfl)
          have F3 := hF.tr f3
          have h3Z := hZ.sf F3.sf (Or.inl rfl)
          refine ⟨by omega, by omega, by omega, ?_⟩
          have e56' : M3.1 56 w = lod H (szG S) on w := by rw [k3 56 (by decide)]; exact e56
          have v3' := vset (a := 2) (vset (a := 1) (vset (a := 0) (x := M3.1 56 w + more) (y := lod H (szG S) on w + more) v3 (by rw [e56'])) (h3Z.2.1 w (by omega))) (h3Z.2.2.1 w (by omega))
          have F4 : VaF m (dSet (dSet (dSet M3 55 0 (M3.1 56 w + more)) 55 1 (M3.1 48 w)) 55 2 (M3.1 49 w)) := F3.set.set.set
          refine y_tellv (k := 0) (v := vGo S (lod H (szG S) on w + more) h w) (hW.vf F4).2.1 (by decide) (by decide) (fun j hj => ?_) (fun M4 f4 => ?_)
          · rw [v3' j hj]
            unfold vGo
            rw [i32_of h5]
            rfl
          · have F5 := F4.py f4
            refine ⟨fun z => no M4 F5 ?_, fun z => on2 _ M4 F5 ?_⟩
            · unfold gop
              rw [decide_eq_false (show ¬ 0 < (lW (hoL H 0) (vGo S (lod H (szG S) on w + more) h w)).toInt by omega), Bool.and_false]
            · show x4 ||| b1 w = cond (gop H S on h more w) (bs (gop H S on h more) w ||| b1 w) (bs (gop H S on h more) w)
              have : gop H S on h more w = true := by
                unfold gop
                rw [decide_eq_true q, g, decide_eq_true z]
                rfl
              rw [this, cond_true, h4]
  exact v_X0_going_54_47 (loop (hoW H) 0 _ _ m (by omega) (by decide) rfl (VaF.rf m))
theorem y_usesAt62 {h : Int32} {m : dM} {Q : Int32 → dM → Prop} (hW : CW H m) (hZ : CZ 62 m S) (hg : (szG S).toInt ≠ -1) (hQ : ∀ m' : dM, LyF m m' → CW H m' → LA H (szG S) m' → Q (onA H S h) m') : c_X0_usesAt_54_62 3 h m Q := by
  obtain ⟨o1, o2, o3, o4, o5, o6⟩ := hW.1
  refine v_X0_usesAt_54_62 ?_
  rw [hZ.1.2.2.2.1]
  refine y_lays hW hg (fun M hF hWM hA => ?_)
  have hZM := hZ.sf hF.sf (Or.inr rfl)
  obtain ⟨⟨a1, a2, _⟩, a3, a4, a5, a6, _⟩ := hWM.2.1
  have loop : ∀ (t u : Nat) (x3 x4 : Int32), u + t = hoU H → x4.toInt = (u : Int) → x3 = bs (onp H S h) u → j_X0_usesAt_54_62_16 3 h x3 x4 M Q := by
    intro t
    induction t with
    | zero =>
      intro u x3 x4 hu h4 h3
      refine v_X0_usesAt_54_62_16 ⟨fun _ => ?_, fun q => by exfalso; omega⟩
      rw [h3, show u = hoU H by omega]
      exact hQ M hF hWM hA
    | succ t ih =>
      intro u x3 x4 hu h4 h3
      obtain ⟨b1', b2', b3', b4'⟩ := a6 u (by omega)
      obtain ⟨c1, _⟩ := o5 u (by omega)
      have on : ∀ y : Int32, y = bs (onp H S h) (u + 1) → j_X0_usesAt_54_62_110 3 h y x4 M Q := fun y hy => v_X0_usesAt_54_62_110 (ih (u + 1) _ _ (by omega) (d_inc h4 (by omega)) hy)
      have no : onp H S h u = false → j_X0_usesAt_54_62_110 3 h x3 x4 M Q := fun q => on x3 (by
        show x3 = cond (onp H S h u) (bs (onp H S h) u ||| b1 u) (bs (onp H S h) u)
        rw [q, cond_false]; exact h3)
      have no2 : onp H S h u = false → j_X0_usesAt_54_62_60 3 h x3 x4 M Q := fun q => v_X0_usesAt_54_62_60 (no q)
      refine v_X0_usesAt_54_62_16 ⟨fun q => by exfalso; omega, fun _ => ?_⟩
      rw [d_cn h4, b3', b4', b1_of h4, hZM.1.2.2.2.2.2]
      refine ⟨by omega, fun q => no2 ?_, fun q1 => ⟨by omega, fun q => no2 ?_, fun q2 => ?_⟩⟩
      · unfold onp
        rw [decide_eq_false (by omega), Bool.false_and, Bool.false_and]
      · unfold onp
        rw [decide_eq_false (by omega), Bool.false_and, Bool.false_and]
      · refine Wp.deep (y_has h4 (by omega) (fun g1 => ⟨fun q => absurd q (by decide), fun _ => ⟨by omega, ?_⟩⟩) (fun g1 => ⟨fun _ => no ?_, fun q => absurd rfl q⟩)) (Nat.le_of_ble_eq_true rfl)
        · have hl' := hA.lit c1 o1
          refine Wp.deep (y_has b1' (by omega) (fun g2 => ⟨fun q => absurd q (by decide), fun _ => on _ ?_⟩) (fun g2 => ⟨fun _ => no ?_, fun q => absurd rfl q⟩)) (Nat.le_of_ble_eq_true rfl)
          · show x3 ||| b1 u = cond (onp H S h u) (bs (onp H S h) u ||| b1 u) (bs (onp H S h) u)
            have : onp H S h u = true := by
              unfold onp
              rw [decide_eq_true ⟨q1, q2⟩, g1, ← hl', g2]
              rfl
            rw [this, cond_true, h3]
          · unfold onp
            rw [← hl', g2, Bool.and_false]
        · unfold onp
          rw [g1, Bool.and_false, Bool.false_and]
  exact loop (hoU H) 0 _ _ (by omega) (by decide) rfl
theorem y_putOn62 {on : Int32} {m : dM} {Q : dM → Prop} (hW : CW H m) (hZ : CZ 62 m S) (hg : (szG S).toInt ≠ -1) (hQ : ∀ m' : dM, ScF m m' → CW H m' → LA H (szG S) m' → (∀ w : Nat, w < hoW H → m'.1 56 w = lod H (szG S) on w) → Q m') : c_X0_putOn_54_62 3 on m Q := by
  obtain ⟨o1, o2, o3, o4, o5, o6⟩ := hW.1
  refine v_X0_putOn_54_62 ?_
  rw [hZ.1.2.2.2.1]
  refine y_lays hW hg (fun M0 hF0 hW0 hA0 => Wp.deep (y_fill56 (fun M hk h2 hv => ?_)) (Nat.le_of_ble_eq_true rfl))
  have hF : ScF m M := hF0.sf.tr ⟨fun k _ _ q => hk k (by omega), fun j _ => by rw [hk 11 (by decide)], h2⟩
  have hWM : CW H M := ⟨hW0.1, hW0.2.1.of (fun k a b _ => hk k (by omega)), hW0.2.2.of (fun k a b => hk k (by omega))⟩
  have hA : LA H (szG S) M := hA0.of (fun k a b => hk k (by omega))
  have keep : ∀ M1 : dM, (∀ k : Nat, k ≠ 56 → M1.1 k = M.1 k) → M1.2 = M.2 → ScF m M1 ∧ CW H M1 ∧ LA H (szG S) M1 := fun M1 e e2 => ⟨hF.tr ⟨fun k _ _ q => e k (by omega), fun j _ => by rw [e 11 (by decide)], e2⟩, ⟨hWM.1, hWM.2.1.of (fun k a b _ => e k (by omega)), hWM.2.2.of (fun k a b => e k (by omega))⟩, hA.of (fun k a b => e k (by omega))⟩
  have loop : ∀ (t u : Nat) (x3 : Int32) (M1 : dM), u + t = hoU H → x3.toInt = (u : Int) → (∀ k : Nat, k ≠ 56 → M1.1 k = M.1 k) → M1.2 = M.2 → (∀ w : Nat, w < hoW H → M1.1 56 w = lds H (szG S) on w u) → j_X0_putOn_54_62_21 3 on x3 M1 Q := by
    intro t
    induction t with
    | zero =>
      intro u x3 M1 hu h3 e e2 hl'
      obtain ⟨k1, k2, k3⟩ := keep M1 e e2
      obtain ⟨_, a3, _⟩ := k2.2.1
      refine v_X0_putOn_54_62_21 ⟨fun _ => hQ M1 k1 k2 k3 (fun w hw => ?_), fun q => by exfalso; omega⟩
      rw [hl' w hw, show u = hoU H by omega]
      rfl
    | succ t ih =>
      intro u x3 M1 hu h3 e e2 hl'
      obtain ⟨k1, k2, k3⟩ := keep M1 e e2
      obtain ⟨⟨a1, a2, _⟩, a3, a4, a5, a6, _⟩ := k2.2.1
      obtain ⟨b1', b2', b3', b4'⟩ := a6 u (by omega)
      obtain ⟨c1, _⟩ := o5 u (by omega)
      have inner : ∀ (x4 : Int32), (∀ w : Nat, bt x4 w = (bt on u && bt (wyV H (szG S) (hoH H u)) w)) → ∀ (r k : Nat) (x5 : Int32) (M2 : dM), k + r = hoW H → x5.toInt = (k : Int) → (∀ k : Nat, k ≠ 56 → M2.1 k = M.1 k) → M2.2 = M.2 → (∀ w : Nat, w < hoW H → M2.1 56 w = if w < k then lds H (szG S) on w (u + 1) else lds H (szG S) on w u) → j_X0_putOn_54_62_66 3 on x3 x4 x5 M2 Q := by
        intro x4 h4 r
        have ext : ∀ (k : Nat) (M2 : dM), (∀ k : Nat, k ≠ 56 → M2.1 k = M.1 k) → M2.2 = M.2 → (∀ w : Nat, w < hoW H → k ≤ w → bt x4 w = false) → (∀ w : Nat, w < hoW H → M2.1 56 w = if w < k then lds H (szG S) on w (u + 1) else lds H (szG S) on w u) → j_X0_putOn_54_62_125 3 on x3 M2 Q := fun k M2 f f2 z hv2 => v_X0_putOn_54_62_125 (ih (u + 1) _ M2 (by omega) (d_inc h3 (by omega)) f f2 (fun w hw => by
          rw [hv2 w hw]
          by_cases q : w < k
          · rw [if_pos q]
          · rw [if_neg q]
            show _ = lds H (szG S) on w u + cond (bt on u && bt (wyV H (szG S) (hoH H u)) w) (hoM H u) 0
            rw [← h4 w, z w hw (by omega), cond_false, Int32.add_zero]))
        induction r with
        | zero =>
          intro k x5 M2 hk' h5 f f2 hv2
          have e21 : (M2.1 2 1).toInt = (hoW H : Int) := (keep M2 f f2).2.1.2.1.1.2.1.1
          have done := ext k M2 f f2 (fun w hw q => by exfalso; omega) hv2
          exact v_X0_putOn_54_62_66 ⟨fun _ => done, fun _ => ⟨fun _ => done, fun q => by exfalso; omega⟩⟩
        | succ r ih2 =>
          intro k x5 M2 hk' h5 f f2 hv2
          obtain ⟨⟨a1', a2', _⟩, a3', a4', a5', a6', _⟩ := (keep M2 f f2).2.1.2.1
          obtain ⟨b1'', b2'', _, _⟩ := a6' u (by omega)
          have on2 : ∀ v : Int32, v = lds H (szG S) on k (u + 1) → j_X0_putOn_54_62_66 3 on x3 x4 (x5 + (1 : Int32)) (dSet M2 56 k v) Q := fun v hv' => ih2 (k + 1) _ _ (by omega) (d_inc h5 (by omega)) (fun a ha => by rw [dSet_k ha]; exact f a ha) f2 (fun w hw => by
            by_cases q : w = k
            · subst q
              rw [dSet_s, if_pos (by omega)]; exact hv'
            · rw [dSet_j q, hv2 w hw]
              by_cases q2 : w < k
              · rw [if_pos q2, if_pos (by omega)]
              · rw [if_neg q2, if_neg (by omega)])
          have hv3 := hv2 k (by omega)
          rw [if_neg (by omega)] at hv3
          refine v_X0_putOn_54_62_66 ⟨fun z => ext k M2 f f2 (fun w hw q => ushr_z h5 (by omega) z q) hv2, fun _ => ⟨fun q => by exfalso; omega, fun _ => ⟨by omega, ?_⟩⟩⟩
          rw [d_cn h5, d_cn h3, hv3]
          refine Wp.deep (y_has h5 (by omega) (fun g => ⟨fun q => absurd q (by decide), fun _ => ⟨by omega, by omega, ?_⟩⟩) (fun g => ⟨fun _ => ⟨by omega, ?_⟩, fun q => absurd rfl q⟩)) (Nat.le_of_ble_eq_true rfl)
          · rw [b2'']
            refine on2 _ ?_
            show _ = lds H (szG S) on k u + cond (bt on u && bt (wyV H (szG S) (hoH H u)) k) (hoM H u) 0
            rw [← h4 k, g, cond_true]
          · refine on2 _ ?_
            show _ = lds H (szG S) on k u + cond (bt on u && bt (wyV H (szG S) (hoH H u)) k) (hoM H u) 0
            rw [← h4 k, g, cond_false]
      have lo : ∀ w : Nat, w < hoW H → M1.1 56 w = if w < 0 then lds H (szG S) on w (u + 1) else lds H (szG S) on w u := fun w hw => by rw [if_neg (by omega)]; exact hl' w hw
      refine v_X0_putOn_54_62_21 ⟨fun q => by exfalso; omega, fun _ => ?_⟩
      rw [d_cn h3]
      refine Wp.deep (y_has h3 (by omega) (fun g => ⟨fun q => absurd q (by decide), fun _ => ⟨by omega, by omega, ?_⟩⟩) (fun g => ⟨fun _ => inner 0 (fun w => by rw [bt_0, g, Bool.false_and]) (hoW H) 0 _ M1 (by omega) (by decide) e e2 lo, fun q => absurd rfl q⟩)) (Nat.le_of_ble_eq_true rfl)
      rw [d_cn b1']
      refine inner _ (fun w => ?_) (hoW H) 0 _ M1 (by omega) (by decide) e e2 lo
      rw [g, Bool.true_and, k3.2.2.1 (hoH H u) c1]
      by_cases q : dD (hoF H) (hoW H) (hoA H) (hoB H) (bt (szG S)) (hoH H u) = 99
      · rw [if_pos q]
        unfold wyV
        rw [via_99 q]
      · rw [if_neg q]
        rfl
  exact loop (hoU H) 0 _ M (by omega) (by decide) (fun _ _ => rfl) rfl (fun w hw => by rw [hv w (by omega)]; rfl)
theorem y_going62 {on h more : Int32} {m : dM} {Q : Int32 → dM → Prop} (hW : CW H m) (hZ : CZ 62 m S) (hLd : ∀ w : Nat, w < hoW H → m.1 56 w = lod H (szG S) on w) (hQ : ∀ m' : dM, VaF m m' → Q (gng H S on h more) m') : c_X0_going_54_62 4 h more m Q := by
  obtain ⟨o1, o2, o3, o4, o5, o6⟩ := hW.1
  have loop : ∀ (t w : Nat) (x4 x5 : Int32) (M : dM), w + t = hoW H → x5.toInt = (w : Int) → x4 = bs (gop H S on h more) w → VaF m M → j_X0_going_54_62_6 4 h more x4 x5 M Q := by
    intro t
    induction t with
    | zero =>
      intro w x4 x5 M hw h5 h4 hF
      have e21 : (M.1 2 1).toInt = (hoW H : Int) := (hW.vf hF).2.1.1.2.1.1
      refine v_X0_going_54_62_6 ⟨fun _ => ?_, fun q => by exfalso; omega⟩
      rw [h4, show w = hoW H by omega]
      exact hQ M hF
    | succ t ih =>
      intro w x4 x5 M hw h5 h4 hF
      have hWM := hW.vf hF
      have hZM := hZ.sf hF.sf (Or.inr rfl)
      have e21 : (M.1 2 1).toInt = (hoW H : Int) := hWM.2.1.1.2.1.1
      have e56 : M.1 56 w = lod H (szG S) on w := by rw [hF.1 56 (by decide) (by decide) (by decide)]; exact hLd w (by omega)
      have on2 : ∀ (y : Int32) (M1 : dM), VaF m M1 → y = bs (gop H S on h more) (w + 1) → j_X0_going_54_62_119 4 h more y x5 M1 Q := fun y M1 f hy => v_X0_going_54_62_119 (ih (w + 1) _ _ M1 (by omega) (d_inc h5 (by omega)) hy f)
      have no : ∀ M1 : dM, VaF m M1 → gop H S on h more w = false → j_X0_going_54_62_119 4 h more x4 x5 M1 Q := fun M1 f q => on2 x4 M1 f (by
        show x4 = cond (gop H S on h more w) (bs (gop H S on h more) w ||| b1 w) (bs (gop H S on h more) w)
        rw [q, cond_false]; exact h4)
      refine v_X0_going_54_62_6 ⟨fun q => by exfalso; omega, fun _ => ?_⟩
      rw [d_cn h5, e56, b1_of h5]
      refine ⟨by omega, fun q => no M hF ?_, fun q => ?_⟩
      · unfold gop
        rw [decide_eq_false (by omega), Bool.false_and, Bool.false_and]
      · rw [hZM.1.2.2.2.2.1]
        refine Wp.deep (y_has h5 (by omega) (fun g => ⟨fun _ => no M hF ?_, fun z => absurd z (by decide)⟩) (fun g => ⟨fun z => absurd rfl z, fun _ => ?_⟩)) (Nat.le_of_ble_eq_true rfl)
        · unfold gop
          rw [g]
          simp
        · refine v_X7_day_62 ?_
          rw [hZM.1.1]
          refine Wp.deep (y_vars (fun M3 f3 v3 k3 => ?_)) (Nat.le_of_ble_eq_true rfl)
          have F3 := hF.tr f3
          have h3Z := hZ.sf F3.sf (Or.inr rfl)
          refine ⟨by omega, by omega, by omega, ?_⟩
          have e56' : M3.1 56 w = lod H (szG S) on w := by rw [k3 56 (by decide)]; exact e56
          have v3' := vset (a := 2) (vset (a := 1) (vset (a := 0) (x := M3.1 56 w + more) (y := lod H (szG S) on w + more) v3 (by rw [e56'])) (h3Z.2.1 w (by omega))) (h3Z.2.2.1 w (by omega))
          have F4 : VaF m (dSet (dSet (dSet M3 55 0 (M3.1 56 w + more)) 55 1 (M3.1 63 w)) 55 2 (M3.1 64 w)) := F3.set.set.set
          refine y_tellv (k := 0) (v := vGo S (lod H (szG S) on w + more) h w) (hW.vf F4).2.1 (by decide) (by decide) (fun j hj => ?_) (fun M4 f4 => ?_)
          · rw [v3' j hj]
            unfold vGo
            rw [i32_of h5]
            rfl
          · have F5 := F4.py f4
            refine ⟨fun z => no M4 F5 ?_, fun z => on2 _ M4 F5 ?_⟩
            · unfold gop
              rw [decide_eq_false (show ¬ 0 < (lW (hoL H 0) (vGo S (lod H (szG S) on w + more) h w)).toInt by omega), Bool.and_false]
            · show x4 ||| b1 w = cond (gop H S on h more w) (bs (gop H S on h more) w ||| b1 w) (bs (gop H S on h more) w)
              have : gop H S on h more w = true := by
                unfold gop
                rw [decide_eq_true q, g, decide_eq_true z]
                rfl
              rw [this, cond_true, h4]
  exact v_X0_going_54_62 (loop (hoW H) 0 _ _ m (by omega) (by decide) rfl (VaF.rf m))
end CHO
end
section
/-! THE CLASS: quarrels, costs, pay, an hour -/
/-- scratch and one state alone have changed -/
def TyF (c : Nat) (m0 m : dM) : Prop := (∀ k : Nat, k ≠ 11 → k ≠ 19 → (k < 55 ∨ 60 < k) → (k < c ∨ c + 3 < k) → m.1 k = m0.1 k) ∧ (∀ j : Nat, j ≠ 5 → m.1 11 j = m0.1 11 j) ∧ m.2 = m0.2
theorem TyF.rf (c : Nat) (m : dM) : TyF c m m := ⟨fun _ _ _ _ _ => rfl, fun _ _ => rfl, rfl⟩
theorem TyF.tr {n : Nat} {a b c : dM} (h : TyF n a b) (h' : TyF n b c) : TyF n a c := ⟨fun k q1 q2 q3 q4 => (h'.1 k q1 q2 q3 q4).trans (h.1 k q1 q2 q3 q4), fun j q => (h'.2.1 j q).trans (h.2.1 j q), h'.2.2.trans h.2.2⟩
theorem ScF.ty {n : Nat} {a b : dM} (h : ScF a b) : TyF n a b := ⟨fun k q1 q2 q3 _ => h.1 k q1 q2 q3, h.2⟩
theorem TyF.set {n k j : Nat} {a b : dM} {v : Int32} (h : TyF n a b) (hk : n ≤ k ∧ k ≤ n + 3) (hn : n = 47 ∨ n = 62) : TyF n a (dSet b k j v) := ⟨fun i q1 q2 q3 q4 => by rw [dSet_k (by omega)]; exact h.1 i q1 q2 q3 q4, fun i q => by rw [dSet_k (by omega)]; exact h.2.1 i q, h.2.2⟩
section CHP
variable {H : Ho} {S : Zt}
theorem CW.ty {n k j : Nat} {m : dM} {v : Int32} (h : CW H m) (hk : n ≤ k ∧ k ≤ n + 3) (hn : n = 47 ∨ n = 62) : CW H (dSet m k j v) := ⟨h.1, h.2.1.of (fun i a b c => dSet_k (by omega)), h.2.2.of (fun i a b => dSet_k (by omega))⟩
theorem LA.ty {n k j : Nat} {m : dM} {v g : Int32} (h : LA H g m) (hk : n ≤ k ∧ k ≤ n + 3) (hn : n = 47 ∨ n = 62) : LA H g (dSet m k j v) := h.of (fun i a b => dSet_k (by omega))
theorem CZ.c {n : Nat} {m : dM} {v : Int32} (h : CZ n m S) : CZ n (dSet m n 1 v) (setC S v) := by
  obtain ⟨⟨a0, a1, a2, a3, a4, a5⟩, b, c, d⟩ := h
  unfold CZ
  rw [dSet_k (show n + 1 ≠ n by omega), dSet_k (show n + 2 ≠ n by omega), dSet_k (show n + 3 ≠ n by omega), dSet_s, dSet_j (by decide), dSet_j (by decide), dSet_j (by decide), dSet_j (by decide), dSet_j (by decide)]
  exact ⟨⟨a0, rfl, a2, a3, a4, a5⟩, b, c, d⟩
/-- the flats' dark, behind n of them -/
def dkn (H : Ho) (S : Zt) (n g : Nat) : Int32 := if g < n then cond (lt H (szG S) g) 0 (szD S g + 1) else szD S g
theorem dkn_o {n g : Nat} (h : g ≠ n) : dkn H S (n + 1) g = dkn H S n g := by
  unfold dkn
  by_cases q : g < n
  · rw [if_pos q, if_pos (by omega)]
  · rw [if_neg q, if_neg (by omega)]
theorem CZ.lit {n f : Nat} {m : dM} {v : Int32} (h : CZ n m (setQ S v (dkn H S f))) (hl' : lt H (szG S) f = true) : CZ n (dSet m (n + 3) f (0 : Int32)) (setQ S v (dkn H S (f + 1))) := by
  obtain ⟨a, b, c, d⟩ := h
  unfold CZ
  rw [dSet_k (show n ≠ n + 3 by omega), dSet_k (show n + 1 ≠ n + 3 by omega), dSet_k (show n + 2 ≠ n + 3 by omega)]
  refine ⟨a, b, c, fun j hj => ?_⟩
  show _ = dkn H S (f + 1) j
  by_cases e : j = f
  · subst e
    rw [dSet_s]
    unfold dkn
    rw [if_pos (by omega), hl', cond_true]
  · rw [dSet_j e, dkn_o e]
    exact d j hj
theorem CZ.dark {n f : Nat} {m : dM} {v x : Int32} (h : CZ n m (setQ S v (dkn H S f))) (hl' : lt H (szG S) f = false) (hf : f < 7) : CZ n (dSet (dSet m n 2 x) (n + 3) f (m.1 (n + 3) f + 1)) (setQ S x (dkn H S (f + 1))) := by
  obtain ⟨⟨a0, a1, a2, a3, a4, a5⟩, b, c, d⟩ := h
  unfold CZ
  rw [dSet_k (show n ≠ n + 3 by omega), dSet_k (show n + 1 ≠ n + 3 by omega), dSet_k (show n + 2 ≠ n + 3 by omega), dSet_k (show n + 1 ≠ n by omega), dSet_k (show n + 2 ≠ n by omega), dSet_s, dSet_j (by decide), dSet_j (by decide), dSet_j (by decide), dSet_j (by decide), dSet_j (by decide)]
  refine ⟨⟨a0, a1, rfl, a3, a4, a5⟩, b, c, fun j hj => ?_⟩
  show _ = dkn H S (f + 1) j
  by_cases e : j = f
  · subst e
    have dj : m.1 (n + 3) j = dkn H S j j := d j hj
    unfold dkn at dj
    rw [if_neg (by omega)] at dj
    rw [dSet_s, dj]
    unfold dkn
    rw [if_pos (by omega), hl', cond_false]
  · rw [dSet_j e, dSet_k (show n + 3 ≠ n by omega), dkn_o e]
    exact d j hj
theorem pyS_cg {T : Zt} {on : Int32} (h : szH T = szH S) : ∀ n : Nat, pyS H T on n = pyS H S on n
  | 0 => rfl
  | n + 1 => by
    show cond (bt on n) (pyS H T on n + pyu H T n) (pyS H T on n) = cond (bt on n) (pyS H S on n + pyu H S n) (pyS H S on n)
    rw [pyS_cg h n]
    unfold pyu
    rw [h]
theorem quS_cg {T : Zt} (h : szH T = szH S) (h2 : szG T = szG S) (h3 : szD T = szD S) : ∀ n : Nat, quS H T n = quS H S n
  | 0 => rfl
  | n + 1 => by
    show cond (lt H (szG T) n) (quS H T n) (quS H T n + qrl H T n) = cond (lt H (szG S) n) (quS H S n) (quS H S n + qrl H S n)
    rw [quS_cg h h2 h3 n]
    unfold qrl
    rw [h, h2, h3]
theorem y_cost47 {x : Int32} {w : Nat} {m : dM} {Q : Int32 → dM → Prop} (hW : CW H m) (hZ : CZ 47 m S) (hx : x.toInt = (w : Int)) (hw : w < hoW H) (hQ : ∀ m' : dM, VaF m m' → Q (cst H S w) m') : c_X0_costOf_54_47 4 x m Q := by
  obtain ⟨o1, o2, o3, o4, o5, o6⟩ := hW.1
  refine v_X0_costOf_54_47 (v_X7_hourOfDay_47 (v_X7_day_47 ?_))
  rw [hZ.1.1]
  refine Wp.deep (y_vars (fun M3 f3 v3 k3 => ?_)) (Nat.le_of_ble_eq_true rfl)
  have h3Z := hZ.sf f3.sf (Or.inl rfl)
  rw [d_cn hx]
  refine ⟨by omega, by omega, ?_⟩
  have v3' := vset (a := 2) (vset (a := 1) v3 (h3Z.2.1 w (by omega))) (h3Z.2.2.1 w (by omega))
  have F4 : VaF m (dSet (dSet M3 55 1 (M3.1 48 w)) 55 2 (M3.1 49 w)) := f3.set.set
  refine y_tellv (k := 2) (v := upd (upd (vz (hod (szH S)) (dy (szH S)) (Int32.ofNat w)) 1 (szR S w)) 2 (szE S w)) (hW.vf F4).2.1 (by decide) (by decide) (fun j hj => ?_) (fun M4 f4 => Wp.deep (y_held (hQ M4 (F4.py f4))) (Nat.le_of_ble_eq_true rfl))
  rw [i32_of hx]
  exact v3' j hj
theorem y_quarrel47 {x : Int32} {f : Nat} {m : dM} {Q : Int32 → dM → Prop} (hW : CW H m) (hZ : CZ 47 m S) (hx : x.toInt = (f : Int)) (hf : f < hoF H) (hQ : ∀ m' : dM, VaF m m' → Q (qrl H S f) m') : c_X0_quarrelOf_54_47 4 x m Q := by
  obtain ⟨o1, o2, o3, o4, o5, o6⟩ := hW.1
  refine v_X0_quarrelOf_54_47 (v_X7_hourOfDay_47 (v_X7_day_47 ?_))
  rw [hZ.1.1]
  refine Wp.deep (y_vars (fun M3 f3 v3 k3 => ?_)) (Nat.le_of_ble_eq_true rfl)
  have h3Z := hZ.sf f3.sf (Or.inl rfl)
  rw [d_cn hx]
  refine ⟨by omega, by omega, ?_⟩
  have v3' := vset (a := 7) (vset (a := 6) v3 ((hW.vf f3).2.1.2.2.1 f hf)) (h3Z.2.2.2 f (by omega))
  have F4 : VaF m (dSet (dSet M3 55 6 (M3.1 3 f)) 55 7 (M3.1 50 f)) := f3.set.set
  refine y_tellv (k := 1) (v := upd (upd (vz (hod (szH S)) (dy (szH S)) (Int32.ofNat f)) 6 (hoT H f)) 7 (szD S f)) (hW.vf F4).2.1 (by decide) (by decide) (fun j hj => ?_) (fun M4 f4 => Wp.deep (y_held (hQ M4 (F4.py f4))) (Nat.le_of_ble_eq_true rfl))
  rw [i32_of hx]
  exact v3' j hj
theorem y_pay47 {x : Int32} {u : Nat} {m : dM} {Q : Int32 → dM → Prop} (hW : CW H m) (hZ : CZ 47 m S) (hx : x.toInt = (u : Int)) (hu : u < hoU H) (hQ : ∀ m' : dM, VaF m m' → Q (pyu H S u) m') : c_X0_payOf_54_47 4 x m Q := by
  obtain ⟨o1, o2, o3, o4, o5, o6⟩ := hW.1
  refine v_X0_payOf_54_47 (v_X7_hourOfDay_47 (v_X7_day_47 ?_))
  rw [hZ.1.1]
  refine Wp.deep (y_vars (fun M3 f3 v3 k3 => ?_)) (Nat.le_of_ble_eq_true rfl)
  rw [d_cn hx]
  refine ⟨by omega, ?_⟩
  have v3' := vset (a := 5) v3 ((hW.vf f3).2.1.2.2.2.2.1 u hu).2.1
  have F4 : VaF m (dSet M3 55 5 (M3.1 8 u)) := f3.set
  refine y_tellv (k := 3) (v := upd (vz (hod (szH S)) (dy (szH S)) (Int32.ofNat u)) 5 (hoM H u)) (hW.vf F4).2.1 (by decide) (by decide) (fun j hj => ?_) (fun M4 f4 => Wp.deep (y_held (hQ M4 (F4.py f4))) (Nat.le_of_ble_eq_true rfl))
  rw [i32_of hx]
  exact v3' j hj
theorem y_takePay47 {m : dM} {Q : dM → Prop} (hW : CW H m) (hZ : CZ 47 m S) (hO : zOk H S) (hQ : ∀ m' : dM, TyF 47 m m' → CW H m' → CZ 47 m' (setC S (cl 99999 (szC S + pyS H S (onA H S (hod (szH S))) (hoU H)))) → Q m') : c_X0_takePay_54_47 5 m Q := by
  obtain ⟨o1, o2, o3, o4, o5, o6⟩ := hW.1
  refine v_X0_takePay_54_47 (v_X7_hourOfDay_47 ?_)
  rw [hZ.1.1]
  refine Wp.deep (y_usesAt47 hW hZ (hO.g1 hW.1) (fun M hF hWM hA => ?_)) (Nat.le_of_ble_eq_true rfl)
  show j_X0_takePay_54_47_12 5 (onA H S (hod (szH S))) (0 : Int32) M Q
  generalize onA H S (hod (szH S)) = on at hQ ⊢
  have loop : ∀ (t u : Nat) (x3 : Int32) (M1 : dM), u + t = hoU H → x3.toInt = (u : Int) → TyF 47 m M1 → CW H M1 → CZ 47 M1 (setC S (cl 99999 (szC S + pyS H S on u))) → j_X0_takePay_54_47_12 5 on x3 M1 Q := by
    intro t
    induction t with
    | zero =>
      intro u x3 M1 hu h3 f1 w1 z1
      have e22 := w1.2.1.2.1
      refine v_X0_takePay_54_47_12 ⟨fun _ => hQ M1 f1 w1 ?_, fun q => by exfalso; omega⟩
      rw [show hoU H = u by omega]
      exact z1
    | succ t ih =>
      intro u x3 M1 hu h3 f1 w1 z1
      have e22 := w1.2.1.2.1
      have on2 : ∀ M2 : dM, TyF 47 m M2 → CW H M2 → CZ 47 M2 (setC S (cl 99999 (szC S + pyS H S on (u + 1)))) → j_X0_takePay_54_47_51 5 on x3 M2 Q := fun M2 a b d => v_X0_takePay_54_47_51 (ih (u + 1) _ M2 (by omega) (d_inc h3 (by omega)) a b d)
      refine v_X0_takePay_54_47_12 ⟨fun q => by exfalso; omega, fun _ => Wp.deep (y_has h3 (by omega) (fun g => ⟨fun q => absurd q (by decide), fun _ => ?_⟩) (fun g => ⟨fun _ => on2 M1 f1 w1 ?_, fun q => absurd rfl q⟩)) (Nat.le_of_ble_eq_true rfl)⟩
      · refine Wp.deep (y_pay47 w1 z1 h3 (by omega) (fun M2 f2 => on2 _ ((f1.tr f2.sf.ty).set (by decide) (Or.inl rfl)) ((w1.vf f2).ty (n := 47) (by decide) (Or.inl rfl)) ?_)) (Nat.le_of_ble_eq_true rfl)
        have z2 := z1.sf f2.sf (Or.inl rfl)
        have := z2.c (v := (if ((M1.1 47 1) + pyu H (setC S (cl 99999 (szC S + pyS H S on u))) u) < (99999 : Int32) then ((M1.1 47 1) + pyu H (setC S (cl 99999 (szC S + pyS H S on u))) u) else (99999 : Int32)))
        have e : (if ((M1.1 47 1) + pyu H (setC S (cl 99999 (szC S + pyS H S on u))) u) < (99999 : Int32) then ((M1.1 47 1) + pyu H (setC S (cl 99999 (szC S + pyS H S on u))) u) else (99999 : Int32)) = cl 99999 (szC S + pyS H S on (u + 1)) := by
          rw [z1.1.2.1]
          have pe : pyS H S on (u + 1) = pyS H S on u + pyu H S u := by
            show cond (bt on u) (pyS H S on u + pyu H S u) (pyS H S on u) = _
            rw [g, cond_true]
          rw [pe]
          have b := pyS_b (H := H) (S := S) (on := on) u (by omega)
          exact cl_step (by rw [ti_99999]; decide) (by rw [ti_99999]; exact hO.1) (by omega) (hl_b _)
        rw [e] at this ⊢
        exact this
      · have pe : pyS H S on (u + 1) = pyS H S on u := by
          show cond (bt on u) (pyS H S on u + pyu H S u) (pyS H S on u) = _
          rw [g, cond_false]
        rw [pe]
        exact z1
  refine loop (hoU H) 0 _ M (by omega) (by decide) hF.sf.ty hWM ?_
  have e : cl 99999 (szC S + pyS H S on 0) = szC S := cl_id (by rw [ti_99999]; exact hO.1)
  rw [e]
  exact hZ.sf hF.sf (Or.inl rfl)
theorem y_countQ47 {m : dM} {Q : dM → Prop} (hW : CW H m) (hZ : CZ 47 m S) (hO : zOk H S) (hQ : ∀ m' : dM, TyF 47 m m' → CW H m' → CZ 47 m' (setQ S (cl 999999 (szQ S + quS H S (hoF H))) (fun f => if f < hoF H then cond (lt H (szG S) f) 0 (szD S f + 1) else szD S f)) → Q m') : c_X0_countQuarrels_54_47 5 m Q := by
  obtain ⟨o1, o2, o3, o4, o5, o6⟩ := hW.1
  refine v_X0_countQuarrels_54_47 ?_
  rw [hZ.1.2.2.2.1]
  refine Wp.deep (y_lays hW (hO.g1 hW.1) (fun M hF hWM hA => ?_)) (Nat.le_of_ble_eq_true rfl)
  have loop : ∀ (t f : Nat) (x2 v : Int32) (M1 : dM), f + t = hoF H → x2.toInt = (f : Int) → TyF 47 m M1 → CW H M1 → LA H (szG S) M1 → v = cl 999999 (szQ S + quS H S f) → CZ 47 M1 (setQ S v (dkn H S f)) → j_X0_countQuarrels_54_47_13 5 x2 M1 Q := by
    intro t
    induction t with
    | zero =>
      intro f x2 v M1 hf h2 f1 w1 l1 hv z1
      have e20 := w1.2.1.1.1.1
      refine v_X0_countQuarrels_54_47_13 ⟨fun _ => hQ M1 f1 w1 ?_, fun q => by exfalso; omega⟩
      rw [show hoF H = f by omega, ← hv]
      exact z1
    | succ t ih =>
      intro f x2 v M1 hf h2 f1 w1 l1 hv z1
      have e20 := w1.2.1.1.1.1
      have on2 : ∀ (v : Int32) (M2 : dM), TyF 47 m M2 → CW H M2 → LA H (szG S) M2 → v = cl 999999 (szQ S + quS H S (f + 1)) → CZ 47 M2 (setQ S v (dkn H S (f + 1))) → j_X0_countQuarrels_54_47_78 5 x2 M2 Q := fun v M2 a b l e d => v_X0_countQuarrels_54_47_78 (ih (f + 1) _ v M2 (by omega) (d_inc h2 (by omega)) a b l e d)
      have hlit := l1.lit (f := f) (by omega) o1
      have qs : quS H S (f + 1) = cond (lt H (szG S) f) (quS H S f) (quS H S f + qrl H S f) := rfl
      refine v_X0_countQuarrels_54_47_13 ⟨fun q => by exfalso; omega, fun _ => Wp.deep (y_has h2 (by omega) (fun g => ⟨fun q => absurd q (by decide), fun _ => ⟨by omega, ?_⟩⟩) (fun g => ⟨fun _ => ?_, fun q => absurd rfl q⟩)) (Nat.le_of_ble_eq_true rfl)⟩
      · have gl : lt H (szG S) f = true := by rw [← hlit]; exact g
        rw [gl, cond_true] at qs
        rw [d_cn h2]
        exact on2 v _ (f1.set (by decide) (Or.inl rfl)) (w1.ty (n := 47) (by decide) (Or.inl rfl)) (l1.ty (n := 47) (by decide) (Or.inl rfl)) (by rw [qs]; exact hv) (z1.lit gl)
      · have gl : lt H (szG S) f = false := by rw [← hlit]; exact g
        rw [gl, cond_false] at qs
        refine Wp.deep (y_quarrel47 w1 z1 h2 (by omega) (fun M2 f2 => ⟨by omega, by omega, ?_⟩)) (Nat.le_of_ble_eq_true rfl)
        have qe : qrl H (setQ S v (dkn H S f)) f = qrl H S f := by
          unfold qrl
          show hl (lW (hoL H 1) (upd (upd (vz (hod (szH S)) (dy (szH S)) (Int32.ofNat f)) 6 (hoT H f)) 7 (dkn H S f f))) = _
          unfold dkn
          rw [if_neg (by omega)]
        have y2 : M1.1 47 2 = v := z1.1.2.2.1
        rw [qe, d_cn h2, y2]
        have b := quS_b (H := H) (S := S) f (by omega)
        have st := cl_step (T := 999999) (c := szQ S) (s := quS H S f) (p := qrl H S f) (by rw [ti_999999]; decide) (by rw [ti_999999]; exact hO.2.1) (by omega) (hl_b _)
        rw [← hv, ← qs] at st
        exact on2 _ _ (((f1.tr f2.sf.ty).set (by decide) (Or.inl rfl)).set (by decide) (Or.inl rfl)) (((w1.vf f2).ty (n := 47) (by decide) (Or.inl rfl)).ty (n := 47) (by decide) (Or.inl rfl)) (((l1.of (fun k a b => f2.1 k (by omega) (by omega) (by omega))).ty (n := 47) (by decide) (Or.inl rfl)).ty (n := 47) (by decide) (Or.inl rfl)) st ((z1.sf f2.sf (Or.inl rfl)).dark gl (by omega))
  refine loop (hoF H) 0 _ (szQ S) M (by omega) (by decide) hF.sf.ty hWM hA ?_ ?_
  · exact (cl_id (by rw [ti_999999]; exact hO.2.1)).symm
  · obtain ⟨⟨x0, x1, x2', x3, x4, x5⟩, xR, xE, xD⟩ := hZ.sf hF.sf (Or.inl rfl)
    exact ⟨⟨x0, x1, x2', x3, x4, x5⟩, xR, xE, fun j hj => xD j hj⟩
theorem y_passWires47 {more : Int32} {m : dM} {Q : Int32 → dM → Prop} (hW : CW H m) (hZ : CZ 47 m S) (hg : (szG S).toInt ≠ -1) (hQ : ∀ m' : dM, TyF 47 m m' → CW H m' → CZ 47 m' (wsz H S more) → (∀ w : Nat, w < hoW H → m'.1 56 w = lod H (szG S) (onA H S (hod (szH S))) w) → Q (gng H S (onA H S (hod (szH S))) (hod (szH S)) more) m') : c_X0_passWires_54_47 5 more m Q := by
  obtain ⟨o1, o2, o3, o4, o5, o6⟩ := hW.1
  refine v_X0_passWires_54_47 (v_X7_hourOfDay_47 ?_)
  rw [hZ.1.1]
  refine Wp.deep (y_usesAt47 hW hZ hg (fun M1 f1 w1 l1 => ?_)) (Nat.le_of_ble_eq_true rfl)
  have z1 := hZ.sf f1.sf (Or.inl rfl)
  refine Wp.deep (y_putOn47 w1 z1 hg (fun M2 f2 w2 l2 d2 => v_X7_hourOfDay_47 ?_)) (Nat.le_of_ble_eq_true rfl)
  have z2 := z1.sf f2 (Or.inl rfl)
  rw [z2.1.1]
  refine y_going47 w2 z2 d2 (fun M3 f3 => ?_)
  have z3 := z2.sf f3.sf (Or.inl rfl)
  have w3 := w2.vf f3
  have F3 : ScF m M3 := (f1.sf.tr f2).tr f3.sf
  have d3 : ∀ w : Nat, w < hoW H → M3.1 56 w = lod H (szG S) (onA H S (hod (szH S))) w := fun w hw => by rw [f3.1 56 (by decide) (by decide) (by decide)]; exact d2 w hw
  rw [z3.1.2.2.2.1]
  show j_X0_passWires_54_47_38 5 (gng H S (onA H S (hod (szH S))) (hod (szH S)) more) (0 : Int32) (dSet M3 47 3 (szG S ||| gng H S (onA H S (hod (szH S))) (hod (szH S)) more)) Q
  have hG : wsz H S more = ((szH S + 1, szC S, szQ S, szG S ||| gng H S (onA H S (hod (szH S))) (hod (szH S)) more, szP S, szA S), szR S, (fun w => if w < hoW H ∧ bt (szG S ||| gng H S (onA H S (hod (szH S))) (hod (szH S)) more) w = false then (if (szE S w + 1) < (999 : Int32) then (szE S w + 1) else 999) else szE S w), szD S) := rfl
  rw [hG] at hQ
  generalize onA H S (hod (szH S)) = on at hQ d3 ⊢
  generalize gng H S on (hod (szH S)) more = gn at hQ ⊢
  have loop : ∀ (t w : Nat) (x4 : Int32) (M : dM), w + t = hoW H → x4.toInt = (w : Int) → TyF 47 m M → CW H M → CZ 47 M (setW S (szG S ||| gn) (fun j => if j < w ∧ bt (szG S ||| gn) j = false then (if (szE S j + 1) < (999 : Int32) then (szE S j + 1) else 999) else szE S j)) → (∀ w : Nat, w < hoW H → M.1 56 w = lod H (szG S) on w) → j_X0_passWires_54_47_38 5 gn x4 M Q := by
    intro t
    induction t with
    | zero =>
      intro w x4 M hw h4 fM wM zM dM'
      have e21 := wM.2.1.1.2.1.1
      refine v_X0_passWires_54_47_38 ⟨fun _ => hQ _ (fM.set (by decide) (Or.inl rfl)) (wM.ty (n := 47) (by decide) (Or.inl rfl)) ?_ (fun w hw => by rw [dSet_k (by decide)]; exact dM' w hw), fun q => by exfalso; omega⟩
      obtain ⟨⟨x0, x1, x2, x3, x4', x5⟩, xR, xE, xD⟩ := zM
      unfold CZ
      rw [dSet_k (show 47 + 1 ≠ 47 by decide), dSet_k (show 47 + 2 ≠ 47 by decide), dSet_k (show 47 + 3 ≠ 47 by decide), dSet_s, dSet_j (by decide), dSet_j (by decide), dSet_j (by decide), dSet_j (by decide), dSet_j (by decide), x0]
      rw [show hoW H = w by omega]
      exact ⟨⟨rfl, x1, x2, x3, x4', x5⟩, xR, xE, xD⟩
    | succ t ih =>
      intro w x4 M hw h4 fM wM zM dM'
      have e21 := wM.2.1.1.2.1.1
      obtain ⟨⟨x0, x1, x2, x3, x4', x5⟩, xR, xE, xD⟩ := zM
      have on2 : ∀ M2 : dM, TyF 47 m M2 → CW H M2 → CZ 47 M2 (setW S (szG S ||| gn) (fun j => if j < w + 1 ∧ bt (szG S ||| gn) j = false then (if (szE S j + 1) < (999 : Int32) then (szE S j + 1) else 999) else szE S j)) → (∀ w : Nat, w < hoW H → M2.1 56 w = lod H (szG S) on w) → j_X0_passWires_54_47_84 5 gn x4 M2 Q := fun M2 a b d e => v_X0_passWires_54_47_84 (ih (w + 1) _ M2 (by omega) (d_inc h4 (by omega)) a b d e)
      refine v_X0_passWires_54_47_38 ⟨fun q => by exfalso; omega, fun _ => ?_⟩
      rw [x3, d_cn h4]
      refine Wp.deep (y_has (x0 := szG S ||| gn) h4 (by omega) (fun g => ⟨fun _ => on2 M fM wM ⟨⟨x0, x1, x2, x3, x4', x5⟩, xR, fun j hj => ?_, xD⟩ dM', fun q => absurd q (by decide)⟩) (fun g => ⟨fun q => absurd rfl q, fun _ => ⟨by omega, by omega, ?_⟩⟩)) (Nat.le_of_ble_eq_true rfl)
      · rw [xE j hj]
        show (if j < w ∧ bt (szG S ||| gn) j = false then (if (szE S j + 1) < (999 : Int32) then (szE S j + 1) else 999) else szE S j) = (if j < w + 1 ∧ bt (szG S ||| gn) j = false then (if (szE S j + 1) < (999 : Int32) then (szE S j + 1) else 999) else szE S j)
        by_cases e : j = w
        · subst e
          rw [if_neg (fun q => by omega), if_neg (fun q => by rw [g] at q; cases q.2)]
        · by_cases q : j < w ∧ bt (szG S ||| gn) j = false
          · rw [if_pos q, if_pos (show j < w + 1 ∧ bt (szG S ||| gn) j = false from ⟨by omega, q.2⟩)]
          · rw [if_neg q, if_neg (fun z => q ⟨by omega, z.2⟩)]
      · have xw : M.1 49 w = szE S w := by
          have xw : M.1 49 w = (if w < w ∧ bt (szG S ||| gn) w = false then (if (szE S w + 1) < (999 : Int32) then (szE S w + 1) else 999) else szE S w) := xE w (by omega)
          rw [if_neg (fun q => by omega)] at xw
          exact xw
        rw [xw]
        refine on2 _ (fM.set (by decide) (Or.inl rfl)) (wM.ty (n := 47) (by decide) (Or.inl rfl)) ?_ (fun w hw => by rw [dSet_k (by decide)]; exact dM' w hw)
        unfold CZ
        rw [dSet_k (show 47 ≠ 49 by decide), dSet_k (show 47 + 1 ≠ 49 by decide), dSet_k (show 47 + 3 ≠ 49 by decide)]
        refine ⟨⟨x0, x1, x2, x3, x4', x5⟩, xR, fun j hj => ?_, xD⟩
        show _ = (if j < w + 1 ∧ bt (szG S ||| gn) j = false then (if (szE S j + 1) < (999 : Int32) then (szE S j + 1) else 999) else szE S j)
        by_cases e : j = w
        · subst e
          rw [dSet_s, if_pos (show j < j + 1 ∧ bt (szG S ||| gn) j = false from ⟨by omega, g⟩)]
        · rw [dSet_j e, xE j hj]
          show (if j < w ∧ bt (szG S ||| gn) j = false then (if (szE S j + 1) < (999 : Int32) then (szE S j + 1) else 999) else szE S j) = _
          by_cases q : j < w ∧ bt (szG S ||| gn) j = false
          · rw [if_pos q, if_pos (show j < w + 1 ∧ bt (szG S ||| gn) j = false from ⟨by omega, q.2⟩)]
          · rw [if_neg q, if_neg (fun z => q ⟨by omega, z.2⟩)]
  refine loop (hoW H) 0 _ _ (by omega) (by decide) (F3.ty.set (by decide) (Or.inl rfl)) (w3.ty (n := 47) (by decide) (Or.inl rfl)) ?_ (fun w hw => by rw [dSet_k (by decide)]; exact d3 w hw)
  obtain ⟨⟨x0, x1, x2, x3, x4', x5⟩, xR, xE, xD⟩ := z3
  unfold CZ
  rw [dSet_k (show 47 + 1 ≠ 47 by decide), dSet_k (show 47 + 2 ≠ 47 by decide), dSet_k (show 47 + 3 ≠ 47 by decide), dSet_s, dSet_j (by decide), dSet_j (by decide), dSet_j (by decide), dSet_j (by decide), dSet_j (by decide)]
  exact ⟨⟨x0, x1, x2, rfl, x4', x5⟩, xR, fun j hj => xE j hj, xD⟩
theorem y_passHour47 {m : dM} {Q : dM → Prop} (hW : CW H m) (hZ : CZ 47 m S) (hO : zOk H S) (hQ : ∀ m' : dM, TyF 47 m m' → CW H m' → CZ 47 m' (hst H S) → Q m') : c_X0_passHour_54_47 6 m Q := by
  refine v_X0_passHour_54_47 (y_takePay47 hW hZ hO (fun M1 f1 w1 z1 => ?_))
  have b := cl_b (T := 99999) (x := szC S + pyS H S (onA H S (hod (szH S))) (hoU H)) (by decide)
  rw [ti_99999] at b
  have hO1 : zOk H (setC S (cl 99999 (szC S + pyS H S (onA H S (hod (szH S))) (hoU H)))) := ⟨b, hO.2⟩
  refine y_countQ47 w1 z1 hO1 (fun M2 f2 w2 z2 => ?_)
  rw [w2.2.1.2.2.2.2.2.1.2.2.2, z2.1.1]
  refine Wp.deep (y_surgeOf w2.2.1 ?_) (Nat.le_of_ble_eq_true rfl)
  have hg1 : (szG S).toInt ≠ -1 := hO.g1 hW.1
  refine y_passWires47 w2 z2 hg1 (fun M3 f3 w3 z3 _ => hQ M3 ((f1.tr f2).tr f3) w3 ?_)
  have e := quS_cg (H := H) (S := S) (T := setC S (cl 99999 (szC S + pyS H S (onA H S (hod (szH S))) (hoU H)))) rfl rfl rfl (hoF H)
  rw [e] at z3
  exact z3
theorem y_quarrel62 {x : Int32} {f : Nat} {m : dM} {Q : Int32 → dM → Prop} (hW : CW H m) (hZ : CZ 62 m S) (hx : x.toInt = (f : Int)) (hf : f < hoF H) (hQ : ∀ m' : dM, VaF m m' → Q (qrl H S f) m') : c_X0_quarrelOf_54_62 4 x m Q := by
  obtain ⟨o1, o2, o3, o4, o5, o6⟩ := hW.1
  refine v_X0_quarrelOf_54_62 (v_X7_hourOfDay_62 (v_X7_day_62 ?_))
  rw [hZ.1.1]
  refine Wp.deep (y_vars (fun M3 f3 v3 k3 => ?_)) (Nat.le_of_ble_eq_true rfl)
  have h3Z := hZ.sf f3.sf (Or.inr rfl)
  rw [d_cn hx]
  refine ⟨by omega, by omega, ?_⟩
  have v3' := vset (a := 7) (vset (a := 6) v3 ((hW.vf f3).2.1.2.2.1 f hf)) (h3Z.2.2.2 f (by omega))
  have F4 : VaF m (dSet (dSet M3 55 6 (M3.1 3 f)) 55 7 (M3.1 65 f)) := f3.set.set
  refine y_tellv (k := 1) (v := upd (upd (vz (hod (szH S)) (dy (szH S)) (Int32.ofNat f)) 6 (hoT H f)) 7 (szD S f)) (hW.vf F4).2.1 (by decide) (by decide) (fun j hj => ?_) (fun M4 f4 => Wp.deep (y_held (hQ M4 (F4.py f4))) (Nat.le_of_ble_eq_true rfl))
  rw [i32_of hx]
  exact v3' j hj
theorem y_pay62 {x : Int32} {u : Nat} {m : dM} {Q : Int32 → dM → Prop} (hW : CW H m) (hZ : CZ 62 m S) (hx : x.toInt = (u : Int)) (hu : u < hoU H) (hQ : ∀ m' : dM, VaF m m' → Q (pyu H S u) m') : c_X0_payOf_54_62 4 x m Q := by
  obtain ⟨o1, o2, o3, o4, o5, o6⟩ := hW.1
  refine v_X0_payOf_54_62 (v_X7_hourOfDay_62 (v_X7_day_62 ?_))
  rw [hZ.1.1]
  refine Wp.deep (y_vars (fun M3 f3 v3 k3 => ?_)) (Nat.le_of_ble_eq_true rfl)
  rw [d_cn hx]
  refine ⟨by omega, ?_⟩
  have v3' := vset (a := 5) v3 ((hW.vf f3).2.1.2.2.2.2.1 u hu).2.1
  have F4 : VaF m (dSet M3 55 5 (M3.1 8 u)) := f3.set
  refine y_tellv (k := 3) (v := upd (vz (hod (szH S)) (dy (szH S)) (Int32.ofNat u)) 5 (hoM H u)) (hW.vf F4).2.1 (by decide) (by decide) (fun j hj => ?_) (fun M4 f4 => Wp.deep (y_held (hQ M4 (F4.py f4))) (Nat.le_of_ble_eq_true rfl))
  rw [i32_of hx]
  exact v3' j hj
theorem y_takePay62 {m : dM} {Q : dM → Prop} (hW : CW H m) (hZ : CZ 62 m S) (hO : zOk H S) (hQ : ∀ m' : dM, TyF 62 m m' → CW H m' → CZ 62 m' (setC S (cl 99999 (szC S + pyS H S (onA H S (hod (szH S))) (hoU H)))) → Q m') : c_X0_takePay_54_62 5 m Q := by
  obtain ⟨o1, o2, o3, o4, o5, o6⟩ := hW.1
  refine v_X0_takePay_54_62 (v_X7_hourOfDay_62 ?_)
  rw [hZ.1.1]
  refine Wp.deep (y_usesAt62 hW hZ (hO.g1 hW.1) (fun M hF hWM hA => ?_)) (Nat.le_of_ble_eq_true rfl)
  show j_X0_takePay_54_62_12 5 (onA H S (hod (szH S))) (0 : Int32) M Q
  generalize onA H S (hod (szH S)) = on at hQ ⊢
  have loop : ∀ (t u : Nat) (x3 : Int32) (M1 : dM), u + t = hoU H → x3.toInt = (u : Int) → TyF 62 m M1 → CW H M1 → CZ 62 M1 (setC S (cl 99999 (szC S + pyS H S on u))) → j_X0_takePay_54_62_12 5 on x3 M1 Q := by
    intro t
    induction t with
    | zero =>
      intro u x3 M1 hu h3 f1 w1 z1
      have e22 := w1.2.1.2.1
      refine v_X0_takePay_54_62_12 ⟨fun _ => hQ M1 f1 w1 ?_, fun q => by exfalso; omega⟩
      rw [show hoU H = u by omega]
      exact z1
    | succ t ih =>
      intro u x3 M1 hu h3 f1 w1 z1
      have e22 := w1.2.1.2.1
      have on2 : ∀ M2 : dM, TyF 62 m M2 → CW H M2 → CZ 62 M2 (setC S (cl 99999 (szC S + pyS H S on (u + 1)))) → j_X0_takePay_54_62_51 5 on x3 M2 Q := fun M2 a b d => v_X0_takePay_54_62_51 (ih (u + 1) _ M2 (by omega) (d_inc h3 (by omega)) a b d)
      refine v_X0_takePay_54_62_12 ⟨fun q => by exfalso; omega, fun _ => Wp.deep (y_has h3 (by omega) (fun g => ⟨fun q => absurd q (by decide), fun _ => ?_⟩) (fun g => ⟨fun _ => on2 M1 f1 w1 ?_, fun q => absurd rfl q⟩)) (Nat.le_of_ble_eq_true rfl)⟩
      · refine Wp.deep (y_pay62 w1 z1 h3 (by omega) (fun M2 f2 => on2 _ ((f1.tr f2.sf.ty).set (by decide) (Or.inr rfl)) ((w1.vf f2).ty (n := 62) (by decide) (Or.inr rfl)) ?_)) (Nat.le_of_ble_eq_true rfl)
        have z2 := z1.sf f2.sf (Or.inr rfl)
        have := z2.c (v := (if ((M1.1 62 1) + pyu H (setC S (cl 99999 (szC S + pyS H S on u))) u) < (99999 : Int32) then ((M1.1 62 1) + pyu H (setC S (cl 99999 (szC S + pyS H S on u))) u) else (99999 : Int32)))
        have e : (if ((M1.1 62 1) + pyu H (setC S (cl 99999 (szC S + pyS H S on u))) u) < (99999 : Int32) then ((M1.1 62 1) + pyu H (setC S (cl 99999 (szC S + pyS H S on u))) u) else (99999 : Int32)) = cl 99999 (szC S + pyS H S on (u + 1)) := by
          rw [z1.1.2.1]
          have pe : pyS H S on (u + 1) = pyS H S on u + pyu H S u := by
            show cond (bt on u) (pyS H S on u + pyu H S u) (pyS H S on u) = _
            rw [g, cond_true]
          rw [pe]
          have b := pyS_b (H := H) (S := S) (on := on) u (by omega)
          exact cl_step (by rw [ti_99999]; decide) (by rw [ti_99999]; exact hO.1) (by omega) (hl_b _)
        rw [e] at this ⊢
        exact this
      · have pe : pyS H S on (u + 1) = pyS H S on u := by
          show cond (bt on u) (pyS H S on u + pyu H S u) (pyS H S on u) = _
          rw [g, cond_false]
        rw [pe]
        exact z1
  refine loop (hoU H) 0 _ M (by omega) (by decide) hF.sf.ty hWM ?_
  have e : cl 99999 (szC S + pyS H S on 0) = szC S := cl_id (by rw [ti_99999]; exact hO.1)
  rw [e]
  exact hZ.sf hF.sf (Or.inr rfl)
theorem y_countQ62 {m : dM} {Q : dM → Prop} (hW : CW H m) (hZ : CZ 62 m S) (hO : zOk H S) (hQ : ∀ m' : dM, TyF 62 m m' → CW H m' → CZ 62 m' (setQ S (cl 999999 (szQ S + quS H S (hoF H))) (fun f => if f < hoF H then cond (lt H (szG S) f) 0 (szD S f + 1) else szD S f)) → Q m') : c_X0_countQuarrels_54_62 5 m Q := by
  obtain ⟨o1, o2, o3, o4, o5, o6⟩ := hW.1
  refine v_X0_countQuarrels_54_62 ?_
  rw [hZ.1.2.2.2.1]
  refine Wp.deep (y_lays hW (hO.g1 hW.1) (fun M hF hWM hA => ?_)) (Nat.le_of_ble_eq_true rfl)
  have loop : ∀ (t f : Nat) (x2 v : Int32) (M1 : dM), f + t = hoF H → x2.toInt = (f : Int) → TyF 62 m M1 → CW H M1 → LA H (szG S) M1 → v = cl 999999 (szQ S + quS H S f) → CZ 62 M1 (setQ S v (dkn H S f)) → j_X0_countQuarrels_54_62_13 5 x2 M1 Q := by
    intro t
    induction t with
    | zero =>
      intro f x2 v M1 hf h2 f1 w1 l1 hv z1
      have e20 := w1.2.1.1.1.1
      refine v_X0_countQuarrels_54_62_13 ⟨fun _ => hQ M1 f1 w1 ?_, fun q => by exfalso; omega⟩
      rw [show hoF H = f by omega, ← hv]
      exact z1
    | succ t ih =>
      intro f x2 v M1 hf h2 f1 w1 l1 hv z1
      have e20 := w1.2.1.1.1.1
      have on2 : ∀ (v : Int32) (M2 : dM), TyF 62 m M2 → CW H M2 → LA H (szG S) M2 → v = cl 999999 (szQ S + quS H S (f + 1)) → CZ 62 M2 (setQ S v (dkn H S (f + 1))) → j_X0_countQuarrels_54_62_78 5 x2 M2 Q := fun v M2 a b l e d => v_X0_countQuarrels_54_62_78 (ih (f + 1) _ v M2 (by omega) (d_inc h2 (by omega)) a b l e d)
      have hlit := l1.lit (f := f) (by omega) o1
      have qs : quS H S (f + 1) = cond (lt H (szG S) f) (quS H S f) (quS H S f + qrl H S f) := rfl
      refine v_X0_countQuarrels_54_62_13 ⟨fun q => by exfalso; omega, fun _ => Wp.deep (y_has h2 (by omega) (fun g => ⟨fun q => absurd q (by decide), fun _ => ⟨by omega, ?_⟩⟩) (fun g => ⟨fun _ => ?_, fun q => absurd rfl q⟩)) (Nat.le_of_ble_eq_true rfl)⟩
      · have gl : lt H (szG S) f = true := by rw [← hlit]; exact g
        rw [gl, cond_true] at qs
        rw [d_cn h2]
        exact on2 v _ (f1.set (by decide) (Or.inr rfl)) (w1.ty (n := 62) (by decide) (Or.inr rfl)) (l1.ty (n := 62) (by decide) (Or.inr rfl)) (by rw [qs]; exact hv) (z1.lit gl)
      · have gl : lt H (szG S) f = false := by rw [← hlit]; exact g
        rw [gl, cond_false] at qs
        refine Wp.deep (y_quarrel62 w1 z1 h2 (by omega) (fun M2 f2 => ⟨by omega, by omega, ?_⟩)) (Nat.le_of_ble_eq_true rfl)
        have qe : qrl H (setQ S v (dkn H S f)) f = qrl H S f := by
          unfold qrl
          show hl (lW (hoL H 1) (upd (upd (vz (hod (szH S)) (dy (szH S)) (Int32.ofNat f)) 6 (hoT H f)) 7 (dkn H S f f))) = _
          unfold dkn
          rw [if_neg (by omega)]
        have y2 : M1.1 62 2 = v := z1.1.2.2.1
        rw [qe, d_cn h2, y2]
        have b := quS_b (H := H) (S := S) f (by omega)
        have st := cl_step (T := 999999) (c := szQ S) (s := quS H S f) (p := qrl H S f) (by rw [ti_999999]; decide) (by rw [ti_999999]; exact hO.2.1) (by omega) (hl_b _)
        rw [← hv, ← qs] at st
        exact on2 _ _ (((f1.tr f2.sf.ty).set (by decide) (Or.inr rfl)).set (by decide) (Or.inr rfl)) (((w1.vf f2).ty (n := 62) (by decide) (Or.inr rfl)).ty (n := 62) (by decide) (Or.inr rfl)) (((l1.of (fun k a b => f2.1 k (by omega) (by omega) (by omega))).ty (n := 62) (by decide) (Or.inr rfl)).ty (n := 62) (by decide) (Or.inr rfl)) st ((z1.sf f2.sf (Or.inr rfl)).dark gl (by omega))
  refine loop (hoF H) 0 _ (szQ S) M (by omega) (by decide) hF.sf.ty hWM hA ?_ ?_
  · exact (cl_id (by rw [ti_999999]; exact hO.2.1)).symm
  · obtain ⟨⟨x0, x1, x2', x3, x4, x5⟩, xR, xE, xD⟩ := hZ.sf hF.sf (Or.inr rfl)
    exact ⟨⟨x0, x1, x2', x3, x4, x5⟩, xR, xE, fun j hj => xD j hj⟩
theorem y_passWires62 {more : Int32} {m : dM} {Q : Int32 → dM → Prop} (hW : CW H m) (hZ : CZ 62 m S) (hg : (szG S).toInt ≠ -1) (hQ : ∀ m' : dM, TyF 62 m m' → CW H m' → CZ 62 m' (wsz H S more) → (∀ w : Nat, w < hoW H → m'.1 56 w = lod H (szG S) (onA H S (hod (szH S))) w) → Q (gng H S (onA H S (hod (szH S))) (hod (szH S)) more) m') : c_X0_passWires_54_62 5 more m Q := by
  obtain ⟨o1, o2, o3, o4, o5, o6⟩ := hW.1
  refine v_X0_passWires_54_62 (v_X7_hourOfDay_62 ?_)
  rw [hZ.1.1]
  refine Wp.deep (y_usesAt62 hW hZ hg (fun M1 f1 w1 l1 => ?_)) (Nat.le_of_ble_eq_true rfl)
  have z1 := hZ.sf f1.sf (Or.inr rfl)
  refine Wp.deep (y_putOn62 w1 z1 hg (fun M2 f2 w2 l2 d2 => v_X7_hourOfDay_62 ?_)) (Nat.le_of_ble_eq_true rfl)
  have z2 := z1.sf f2 (Or.inr rfl)
  rw [z2.1.1]
  refine y_going62 w2 z2 d2 (fun M3 f3 => ?_)
  have z3 := z2.sf f3.sf (Or.inr rfl)
  have w3 := w2.vf f3
  have F3 : ScF m M3 := (f1.sf.tr f2).tr f3.sf
  have d3 : ∀ w : Nat, w < hoW H → M3.1 56 w = lod H (szG S) (onA H S (hod (szH S))) w := fun w hw => by rw [f3.1 56 (by decide) (by decide) (by decide)]; exact d2 w hw
  rw [z3.1.2.2.2.1]
  show j_X0_passWires_54_62_38 5 (gng H S (onA H S (hod (szH S))) (hod (szH S)) more) (0 : Int32) (dSet M3 62 3 (szG S ||| gng H S (onA H S (hod (szH S))) (hod (szH S)) more)) Q
  have hG : wsz H S more = ((szH S + 1, szC S, szQ S, szG S ||| gng H S (onA H S (hod (szH S))) (hod (szH S)) more, szP S, szA S), szR S, (fun w => if w < hoW H ∧ bt (szG S ||| gng H S (onA H S (hod (szH S))) (hod (szH S)) more) w = false then (if (szE S w + 1) < (999 : Int32) then (szE S w + 1) else 999) else szE S w), szD S) := rfl
  rw [hG] at hQ
  generalize onA H S (hod (szH S)) = on at hQ d3 ⊢
  generalize gng H S on (hod (szH S)) more = gn at hQ ⊢
  have loop : ∀ (t w : Nat) (x4 : Int32) (M : dM), w + t = hoW H → x4.toInt = (w : Int) → TyF 62 m M → CW H M → CZ 62 M (setW S (szG S ||| gn) (fun j => if j < w ∧ bt (szG S ||| gn) j = false then (if (szE S j + 1) < (999 : Int32) then (szE S j + 1) else 999) else szE S j)) → (∀ w : Nat, w < hoW H → M.1 56 w = lod H (szG S) on w) → j_X0_passWires_54_62_38 5 gn x4 M Q := by
    intro t
    induction t with
    | zero =>
      intro w x4 M hw h4 fM wM zM dM'
      have e21 := wM.2.1.1.2.1.1
      refine v_X0_passWires_54_62_38 ⟨fun _ => hQ _ (fM.set (by decide) (Or.inr rfl)) (wM.ty (n := 62) (by decide) (Or.inr rfl)) ?_ (fun w hw => by rw [dSet_k (by decide)]; exact dM' w hw), fun q => by exfalso; omega⟩
      obtain ⟨⟨x0, x1, x2, x3, x4', x5⟩, xR, xE, xD⟩ := zM
      unfold CZ
      rw [dSet_k (show 62 + 1 ≠ 62 by decide), dSet_k (show 62 + 2 ≠ 62 by decide), dSet_k (show 62 + 3 ≠ 62 by decide), dSet_s, dSet_j (by decide), dSet_j (by decide), dSet_j (by decide), dSet_j (by decide), dSet_j (by decide), x0]
      rw [show hoW H = w by omega]
      exact ⟨⟨rfl, x1, x2, x3, x4', x5⟩, xR, xE, xD⟩
    | succ t ih =>
      intro w x4 M hw h4 fM wM zM dM'
      have e21 := wM.2.1.1.2.1.1
      obtain ⟨⟨x0, x1, x2, x3, x4', x5⟩, xR, xE, xD⟩ := zM
      have on2 : ∀ M2 : dM, TyF 62 m M2 → CW H M2 → CZ 62 M2 (setW S (szG S ||| gn) (fun j => if j < w + 1 ∧ bt (szG S ||| gn) j = false then (if (szE S j + 1) < (999 : Int32) then (szE S j + 1) else 999) else szE S j)) → (∀ w : Nat, w < hoW H → M2.1 56 w = lod H (szG S) on w) → j_X0_passWires_54_62_84 5 gn x4 M2 Q := fun M2 a b d e => v_X0_passWires_54_62_84 (ih (w + 1) _ M2 (by omega) (d_inc h4 (by omega)) a b d e)
      refine v_X0_passWires_54_62_38 ⟨fun q => by exfalso; omega, fun _ => ?_⟩
      rw [x3, d_cn h4]
      refine Wp.deep (y_has (x0 := szG S ||| gn) h4 (by omega) (fun g => ⟨fun _ => on2 M fM wM ⟨⟨x0, x1, x2, x3, x4', x5⟩, xR, fun j hj => ?_, xD⟩ dM', fun q => absurd q (by decide)⟩) (fun g => ⟨fun q => absurd rfl q, fun _ => ⟨by omega, by omega, ?_⟩⟩)) (Nat.le_of_ble_eq_true rfl)
      · rw [xE j hj]
        show (if j < w ∧ bt (szG S ||| gn) j = false then (if (szE S j + 1) < (999 : Int32) then (szE S j + 1) else 999) else szE S j) = (if j < w + 1 ∧ bt (szG S ||| gn) j = false then (if (szE S j + 1) < (999 : Int32) then (szE S j + 1) else 999) else szE S j)
        by_cases e : j = w
        · subst e
          rw [if_neg (fun q => by omega), if_neg (fun q => by rw [g] at q; cases q.2)]
        · by_cases q : j < w ∧ bt (szG S ||| gn) j = false
          · rw [if_pos q, if_pos (show j < w + 1 ∧ bt (szG S ||| gn) j = false from ⟨by omega, q.2⟩)]
          · rw [if_neg q, if_neg (fun z => q ⟨by omega, z.2⟩)]
      · have xw : M.1 64 w = szE S w := by
          have xw : M.1 64 w = (if w < w ∧ bt (szG S ||| gn) w = false then (if (szE S w + 1) < (999 : Int32) then (szE S w + 1) else 999) else szE S w) := xE w (by omega)
          rw [if_neg (fun q => by omega)] at xw
          exact xw
        rw [xw]
        refine on2 _ (fM.set (by decide) (Or.inr rfl)) (wM.ty (n := 62) (by decide) (Or.inr rfl)) ?_ (fun w hw => by rw [dSet_k (by decide)]; exact dM' w hw)
        unfold CZ
        rw [dSet_k (show 62 ≠ 64 by decide), dSet_k (show 62 + 1 ≠ 64 by decide), dSet_k (show 62 + 3 ≠ 64 by decide)]
        refine ⟨⟨x0, x1, x2, x3, x4', x5⟩, xR, fun j hj => ?_, xD⟩
        show _ = (if j < w + 1 ∧ bt (szG S ||| gn) j = false then (if (szE S j + 1) < (999 : Int32) then (szE S j + 1) else 999) else szE S j)
        by_cases e : j = w
        · subst e
          rw [dSet_s, if_pos (show j < j + 1 ∧ bt (szG S ||| gn) j = false from ⟨by omega, g⟩)]
        · rw [dSet_j e, xE j hj]
          show (if j < w ∧ bt (szG S ||| gn) j = false then (if (szE S j + 1) < (999 : Int32) then (szE S j + 1) else 999) else szE S j) = _
          by_cases q : j < w ∧ bt (szG S ||| gn) j = false
          · rw [if_pos q, if_pos (show j < w + 1 ∧ bt (szG S ||| gn) j = false from ⟨by omega, q.2⟩)]
          · rw [if_neg q, if_neg (fun z => q ⟨by omega, z.2⟩)]
  refine loop (hoW H) 0 _ _ (by omega) (by decide) (F3.ty.set (by decide) (Or.inr rfl)) (w3.ty (n := 62) (by decide) (Or.inr rfl)) ?_ (fun w hw => by rw [dSet_k (by decide)]; exact d3 w hw)
  obtain ⟨⟨x0, x1, x2, x3, x4', x5⟩, xR, xE, xD⟩ := z3
  unfold CZ
  rw [dSet_k (show 62 + 1 ≠ 62 by decide), dSet_k (show 62 + 2 ≠ 62 by decide), dSet_k (show 62 + 3 ≠ 62 by decide), dSet_s, dSet_j (by decide), dSet_j (by decide), dSet_j (by decide), dSet_j (by decide), dSet_j (by decide)]
  exact ⟨⟨x0, x1, x2, rfl, x4', x5⟩, xR, fun j hj => xE j hj, xD⟩
theorem y_passHour62 {m : dM} {Q : dM → Prop} (hW : CW H m) (hZ : CZ 62 m S) (hO : zOk H S) (hQ : ∀ m' : dM, TyF 62 m m' → CW H m' → CZ 62 m' (hst H S) → Q m') : c_X0_passHour_54_62 6 m Q := by
  refine v_X0_passHour_54_62 (y_takePay62 hW hZ hO (fun M1 f1 w1 z1 => ?_))
  have b := cl_b (T := 99999) (x := szC S + pyS H S (onA H S (hod (szH S))) (hoU H)) (by decide)
  rw [ti_99999] at b
  have hO1 : zOk H (setC S (cl 99999 (szC S + pyS H S (onA H S (hod (szH S))) (hoU H)))) := ⟨b, hO.2⟩
  refine y_countQ62 w1 z1 hO1 (fun M2 f2 w2 z2 => ?_)
  rw [w2.2.1.2.2.2.2.2.1.2.2.2, z2.1.1]
  refine Wp.deep (y_surgeOf w2.2.1 ?_) (Nat.le_of_ble_eq_true rfl)
  have hg1 : (szG S).toInt ≠ -1 := hO.g1 hW.1
  refine y_passWires62 w2 z2 hg1 (fun M3 f3 w3 z3 _ => hQ M3 ((f1.tr f2).tr f3) w3 ?_)
  have e := quS_cg (H := H) (S := S) (T := setC S (cl 99999 (szC S + pyS H S (onA H S (hod (szH S))) (hoU H)))) rfl rfl rfl (hoF H)
  rw [e] at z3
  exact z3
end CHP
end
section
/-! THE REFERENCE: what is on, what is in the wires, what the laws tell, an hour -/
def bi (b : Bool) : Int32 := cond b 1 0
theorem bi_t : (bi true).toInt = 1 := by decide
theorem bi_f : (bi false).toInt = 0 := by decide
theorem bi_if (b : Bool) : (bi b).toInt = if b then 1 else 0 := by cases b <;> decide
def RH (H : Ho) (s : Nat) (m : dM) : Prop := HR (hoF H) (hoW H) (hoA H) (hoB H) s m ∧ (m.1 86 s).toInt = (hoU H : Int) ∧ (∀ f : Nat, f < hoF H → m.1 81 (7 * s + f) = hoT H f) ∧ (∀ w : Nat, w < hoW H → m.1 85 (10 * s + w) = hoR H w) ∧ (∀ u : Nat, u < hoU H → (m.1 87 (8 * s + u)).toInt = (hoH H u : Int) ∧ m.1 88 (8 * s + u) = hoM H u ∧ m.1 89 (8 * s + u) = hoO H u ∧ m.1 90 (8 * s + u) = hoI H u) ∧ (m.1 91 s = hoS H ∧ m.1 92 s = hoP H ∧ m.1 93 s = hoC H ∧ m.1 94 s = hoE H) ∧ ∀ k : Nat, k < 4 → LR m s k (hoL H k)
def RW (H : Ho) (s : Nat) (m : dM) : Prop := hOk H ∧ RH H s m
/-- how it stands, in a row -/
def RZ (H : Ho) (r : Nat) (m : dM) (S : Zt) : Prop := (m.1 r 55 = szH S ∧ m.1 r 56 = szC S ∧ m.1 r 57 = szQ S) ∧ (∀ w : Nat, w < hoW H → m.1 r w = szR S w ∧ m.1 r (10 + w) = bi (bt (szG S) w) ∧ m.1 r (20 + w) = szE S w ∧ m.1 r (30 + w) = bi (bt (szP S) w)) ∧ (∀ f : Nat, f < hoF H → m.1 r (40 + f) = szD S f) ∧ ∀ u : Nat, u < hoU H → m.1 r (47 + u) = bi (bt (szA S) u)
/-- ways filled for these -/
def RL (H : Ho) (g : Int32) (m : dM) : Prop := RyF (wyD H g) m ∧ ∀ f : Nat, f < 7 → m.1 110 f = wyV H g f
/-- laws alone have been asked -/
def XaF (m0 m : dM) : Prop := (∀ k : Nat, k ≠ 70 → k ≠ 105 → k ≠ 106 → m.1 k = m0.1 k) ∧ (∀ j : Nat, j ≠ 53 → m.1 70 j = m0.1 70 j) ∧ m.2 = m0.2
theorem XaF.rf (m : dM) : XaF m m := ⟨fun _ _ _ _ => rfl, fun _ _ => rfl, rfl⟩
theorem XaF.tr {a b c : dM} (h : XaF a b) (h' : XaF b c) : XaF a c := ⟨fun k q1 q2 q3 => (h'.1 k q1 q2 q3).trans (h.1 k q1 q2 q3), fun j q => (h'.2.1 j q).trans (h.2.1 j q), h'.2.2.trans h.2.2⟩
theorem XaF.q {a b c : dM} (h : XaF a b) (h' : QF b c) : XaF a c := ⟨fun k q1 q2 q3 => (h'.1 k q3 q1).trans (h.1 k q1 q2 q3), fun j q => (h'.2.1 j q).trans (h.2.1 j q), h'.2.2.trans h.2.2⟩
theorem XaF.set {a b : dM} {j : Nat} {v : Int32} (h : XaF a b) : XaF a (dSet b 105 j v) := ⟨fun k q1 q2 q3 => by rw [dSet_k q2]; exact h.1 k q1 q2 q3, fun i q => by rw [dSet_k (by decide)]; exact h.2.1 i q, h.2.2⟩
section RHO
variable {H : Ho} {S : Zt} {s : Nat}
theorem RH.of {m m' : dM} (h : RH H s m) (e : ∀ k : Nat, 80 ≤ k → k ≤ 103 → m'.1 k = m.1 k) (e18 : m'.1 70 18 = m.1 70 18) : RH H s m' := by
  obtain ⟨a1, a2, a3, a4, a5, a6, a7⟩ := h
  refine ⟨?_, ?_, ?_, ?_, ?_, ?_, fun k hk => (a7 k hk).of (fun c p q => e c (by omega) (by omega))⟩
  · unfold HR
    rw [e18, e 80 (by omega) (by omega), e 82 (by omega) (by omega), e 83 (by omega) (by omega), e 84 (by omega) (by omega)]; exact a1
  · rw [e 86 (by omega) (by omega)]; exact a2
  · rw [e 81 (by omega) (by omega)]; exact a3
  · rw [e 85 (by omega) (by omega)]; exact a4
  · rw [e 87 (by omega) (by omega), e 88 (by omega) (by omega), e 89 (by omega) (by omega), e 90 (by omega) (by omega)]; exact a5
  · rw [e 91 (by omega) (by omega), e 92 (by omega) (by omega), e 93 (by omega) (by omega), e 94 (by omega) (by omega)]; exact a6
theorem RW.xa {m m' : dM} (h : RW H s m) (hF : XaF m m') : RW H s m' := ⟨h.1, h.2.of (fun k a b => hF.1 k (by omega) (by omega) (by omega)) (hF.2.1 18 (by decide))⟩
theorem RZ.of {r : Nat} {m m' : dM} (h : RZ H r m S) (e : m'.1 r = m.1 r) : RZ H r m' S := by
  unfold RZ
  rw [e]
  exact h
theorem RZ.xa {r : Nat} {m m' : dM} (h : RZ H r m S) (hF : XaF m m') (hr : r = 107 ∨ r = 108) : RZ H r m' S := h.of (hF.1 r (by omega) (by omega) (by omega))
theorem RL.of {g : Int32} {m m' : dM} (h : RL H g m) (e : m'.1 109 = m.1 109) (e' : m'.1 110 = m.1 110) : RL H g m' := by
  unfold RL RyF
  rw [e, e']
  exact h
theorem RL.xa {g : Int32} {m m' : dM} (h : RL H g m) (hF : XaF m m') : RL H g m' := h.of (hF.1 109 (by decide) (by decide) (by decide)) (hF.1 110 (by decide) (by decide) (by decide))
theorem y_isLit {x : Int32} {g : Int32} {f : Nat} {m : dM} {Q : Int32 → dM → Prop} (hL : RL H g m) (hx : x.toInt = (f : Int)) (hf : f < 7) (hT : lt H g f = true → Q 1 m) (hF : lt H g f = false → Q 0 m) : c_X12_isLit_70 1 x m Q := by
  have d := hL.1 f hf
  have b := dD_le (nf := hoF H) (nw := hoW H) (e1 := hoA H) (e2 := hoB H) (G := bt g) (f := f)
  have b : wyD H g f ≤ 6 ∨ wyD H g f = 99 := b
  refine v_X12_isLit_70 ?_
  rw [d_cn hx, d]
  refine ⟨by omega, fun q => hF ?_, fun q => hT ?_⟩
  · unfold lt
    exact decide_eq_false (by omega)
  · unfold lt
    exact decide_eq_true (by omega)
theorem y_looks {x1 x2 : Int32} {m : dM} {Q : dM → Prop} (hQ : ∀ m' : dM, (∀ k : Nat, k ≠ 105 → m'.1 k = m.1 k) → m'.2 = m.2 → (∀ j : Nat, j < 9 → m'.1 105 j = vz x1 (dy (m.1 108 55)) x2 j) → Q m') : c_X12_looks_70 1 x1 x2 m Q := by
  have loop : ∀ (t i : Nat) (x3 : Int32) (M : dM), i + t = 9 → x3.toInt = (i : Int) → (∀ k : Nat, k ≠ 105 → M.1 k = m.1 k) → M.2 = m.2 → (∀ j : Nat, j < i → M.1 105 j = 0) → j_X12_looks_70_2 1 x1 x2 x3 M Q := by
    intro t
    induction t with
    | zero =>
      intro i x3 M hi h3 hk h2 hv
      refine v_X12_looks_70_2 ⟨fun _ => hQ _ (fun k q => by rw [dSet_k q, dSet_k q, dSet_k q]; exact hk k q) h2 (fun j hj => ?_), fun q => by exfalso; omega⟩
      rw [hk 108 (by decide)]
      unfold vz
      by_cases q8 : j = 8
      · subst q8
        rw [dSet_s]
        rfl
      · rw [dSet_j q8]
        by_cases q4 : j = 4
        · subst q4
          rw [dSet_s]
          rfl
        · rw [dSet_j q4]
          by_cases q3 : j = 3
          · subst q3
            rw [dSet_s]
            rfl
          · rw [dSet_j q3, hv j (by omega), if_neg q3, if_neg q4, if_neg q8]
    | succ t ih =>
      intro i x3 M hi h3 hk h2 hv
      refine v_X12_looks_70_2 ⟨fun q => by exfalso; omega, fun _ => ⟨by omega, ?_⟩⟩
      rw [d_cn h3]
      refine ih (i + 1) _ _ (by omega) (d_inc h3 (by omega)) (fun k q => by rw [dSet_k q]; exact hk k q) h2 (fun j hj => ?_)
      by_cases e : j = i
      · subst e; rw [dSet_s]
      · rw [dSet_j e]; exact hv j (by omega)
  exact v_X12_looks_70 (loop 9 0 _ m rfl (by decide) (fun _ _ => rfl) rfl (fun j hj => absurd hj (Nat.not_lt_zero j)))
theorem y_tellr {k : Nat} {v : Nat → Int32} {x1 x2 : Int32} {m : dM} {Q : Int32 → dM → Prop} (hH : RH H s m) (hk : k < 4) (hx : x1.toInt = (k : Int)) (hv : ∀ j : Nat, j < 9 → m.1 105 j = v j) (hp : x2 = (pv (dfl k) v).getD 0) (hQ : ∀ m' : dM, QF m m' → Q (lW (hoL H k) v) m') : c_X12_lawTells_70 2 x1 x2 m Q :=
  y_lawTells (hH.2.2.2.2.2.2 k hk) hH.1.1 hk hx (by rw [hp]; unfold pv; rw [evF_cv hv]) (fun m' hF => by rw [lW_cv hv]; exact hQ m' hF)
theorem rset {m : dM} {v : Nat → Int32} {a : Nat} {x y : Int32} (h : ∀ j : Nat, j < 9 → m.1 105 j = v j) (e : x = y) : ∀ j : Nat, j < 9 → (dSet m 105 a x).1 105 j = upd v a y j := fun j hj => by
  rw [dSet_e, upd_j]
  by_cases q : j = a
  · rw [if_pos ⟨rfl, q⟩, if_pos q, e]
  · rw [if_neg (fun z => q z.2), if_neg q]; exact h j hj
theorem y_within {x T : Int32} {m : dM} {Q : Int32 → dM → Prop} (hQ : Q (cl T x) m) : c_X12_within 1 x (0 : Int32) T m Q := by
  have e0 : (0 : Int32).toInt = 0 := by decide
  unfold cl at hQ
  refine v_X12_within ⟨fun q => ⟨fun q2 => ?_, fun q2 => ?_⟩, fun q => ?_⟩
  · rw [if_neg (by omega), if_neg (by omega)] at hQ; exact hQ
  · rw [if_neg (by omega), if_pos (by omega)] at hQ; exact hQ
  · rw [if_pos (by omega)] at hQ; exact hQ
theorem cl_hl {x : Int32} : cl 99 x = hl x := by
  unfold cl hl
  rw [ti_99]
theorem y_flatAt {x : Int32} {u : Nat} {m : dM} {Q : Int32 → dM → Prop} (hW : RW H s m) (hx : x.toInt = (u : Int)) (hu : u < hoU H) (hQ : ∀ r : Int32, r.toInt = (hoH H u : Int) → Q r m) : c_X12_flatAt_70 1 x m Q := by
  have a := hW.2.1.1
  have b := hW.1.2.2.1
  have e := y_idx (C := 8) (c := (8 : Int32)) (by decide) a.1 a.2 hx (by decide) (by omega)
  refine v_X12_flatAt_70 ?_
  rw [d_cn e]
  exact ⟨by omega, hQ _ (hW.2.2.2.2.2.1 u hu).1⟩
theorem y_ampsAt {x : Int32} {u : Nat} {m : dM} {Q : Int32 → dM → Prop} (hW : RW H s m) (hx : x.toInt = (u : Int)) (hu : u < hoU H) (hQ : Q (hoM H u) m) : c_X12_ampsAt_70 1 x m Q := by
  have a := hW.2.1.1
  have b := hW.1.2.2.1
  have e := y_idx (C := 8) (c := (8 : Int32)) (by decide) a.1 a.2 hx (by decide) (by omega)
  refine v_X12_ampsAt_70 ?_
  rw [d_cn e, (hW.2.2.2.2.2.1 u hu).2.1]
  exact ⟨by omega, hQ⟩
theorem y_onAt {h : Int32} {m : dM} {Q : Int32 → dM → Prop} (hW : RW H s m) (hZ : RZ H 108 m S) (hL : RL H (szG S) m) (hQ : Q (onA H S h) m) : c_X12_onAt_70 2 h m Q := by
  obtain ⟨o1, o2, o3, o4, o5, o6⟩ := hW.1
  have a := hW.2.1.1
  have e86 := hW.2.2.1
  have loop : ∀ (t u : Nat) (x2 x3 : Int32), u + t = hoU H → x3.toInt = (u : Int) → x2 = bs (onp H S h) u → j_X12_onAt_70_4 2 h x2 x3 m Q := by
    intro t
    induction t with
    | zero =>
      intro u x2 x3 hu h3 h2
      refine v_X12_onAt_70_4 ?_
      rw [d_cn a.1, e86, a.1]
      refine ⟨by omega, fun _ => ?_, fun q => by exfalso; omega⟩
      rw [h2, show u = hoU H by omega]
      exact hQ
    | succ t ih =>
      intro u x2 x3 hu h3 h2
      obtain ⟨b1', b2', b3', b4'⟩ := hW.2.2.2.2.2.1 u (by omega)
      obtain ⟨c1, _⟩ := o5 u (by omega)
      have on : ∀ y : Int32, y = bs (onp H S h) (u + 1) → j_X12_onAt_70_83 2 h y x3 m Q := fun y hy => v_X12_onAt_70_83 (ih (u + 1) _ _ (by omega) (d_inc h3 (by omega)) hy)
      have no : onp H S h u = false → j_X12_onAt_70_83 2 h x2 x3 m Q := fun q => on x2 (by
        show x2 = cond (onp H S h u) (bs (onp H S h) u ||| b1 u) (bs (onp H S h) u)
        rw [q, cond_false]; exact h2)
      have ei := y_idx (C := 8) (c := (8 : Int32)) (by decide) a.1 a.2 h3 (by decide) (by omega)
      have ej := d_add (k := x3) (K := u) (x := (47 : Int32)) (i := 47) (by decide) h3 (by omega)
      refine v_X12_onAt_70_4 ?_
      rw [d_cn a.1, e86, a.1, d_cn ei, d_cn ej, b3', b4', b1_of h3, hZ.2.2.2 u (by omega), bi_if]
      refine ⟨by omega, fun q => by exfalso; omega, fun _ => ⟨by omega, fun q => no ?_, fun q => ⟨by omega, by omega, ?_⟩⟩⟩
      · cases g : bt (szA S) u with
        | true => rw [g] at q; exact absurd rfl q
        | false => unfold onp; rw [g, Bool.and_false, Bool.false_and]
      · have g : bt (szA S) u = true := by
          cases g : bt (szA S) u with
          | true => rfl
          | false => rw [g] at q; exact absurd q (by decide)
        refine y_in (fun q2 => ⟨fun z => absurd z (by decide), fun _ => y_flatAt hW h3 (by omega) (fun r hr => y_isLit hL hr (by omega) (fun gl => ⟨fun z => absurd z (by decide), fun _ => on _ ?_⟩) (fun gl => ⟨fun _ => no ?_, fun z => absurd rfl z⟩))⟩) (fun q2 => ⟨fun _ => no ?_, fun z => absurd rfl z⟩)
        · show x2 ||| b1 u = cond (onp H S h u) (bs (onp H S h) u ||| b1 u) (bs (onp H S h) u)
          have : onp H S h u = true := by
            unfold onp
            rw [decide_eq_true q2, g, gl]
            rfl
          rw [this, cond_true, h2]
        · unfold onp
          rw [gl, Bool.and_false]
        · unfold onp
          rw [decide_eq_false q2, Bool.false_and, Bool.false_and]
  exact v_X12_onAt_70 (loop (hoU H) 0 _ _ (by omega) (by decide) rfl)
theorem y_loadBy {x on g : Int32} {w : Nat} {m : dM} {Q : Int32 → dM → Prop} (hW : RW H s m) (hL : RL H g m) (hx : x.toInt = (w : Int)) (hw : w < hoW H) (hQ : Q (lod H g on w) m) : c_X12_loadBy_70 2 x on m Q := by
  obtain ⟨o1, o2, o3, o4, o5, o6⟩ := hW.1
  have a := hW.2.1.1
  have e86 := hW.2.2.1
  have loop : ∀ (t u : Nat) (x3 x4 : Int32), u + t = hoU H → x4.toInt = (u : Int) → x3 = lds H g on w u → j_X12_loadBy_70_5 2 x on x3 x4 m Q := by
    intro t
    induction t with
    | zero =>
      intro u x3 x4 hu h4 h3
      refine v_X12_loadBy_70_5 ?_
      rw [d_cn a.1, e86, a.1]
      refine ⟨by omega, fun _ => ?_, fun q => by exfalso; omega⟩
      rw [h3, show u = hoU H by omega]
      exact hQ
    | succ t ih =>
      intro u x3 x4 hu h4 h3
      obtain ⟨c1, _⟩ := o5 u (by omega)
      have on2 : ∀ y : Int32, y = lds H g on w (u + 1) → j_X12_loadBy_70_57 2 x on y x4 m Q := fun y hy => v_X12_loadBy_70_57 (ih (u + 1) _ _ (by omega) (d_inc h4 (by omega)) hy)
      have no : (bt on u && bt (wyV H g (hoH H u)) w) = false → j_X12_loadBy_70_57 2 x on x3 x4 m Q := fun q => on2 x3 (by
        show x3 = lds H g on w u + cond (bt on u && bt (wyV H g (hoH H u)) w) (hoM H u) 0
        rw [q, cond_false, Int32.add_zero]; exact h3)
      refine v_X12_loadBy_70_5 ?_
      rw [d_cn a.1, e86, a.1, bt_s h4 (by omega)]
      refine ⟨by omega, fun q => by exfalso; omega, fun _ => ⟨fun q => no ?_, fun q => ?_⟩⟩
      · cases e : bt on u with
        | true => rw [e] at q; exact absurd rfl q
        | false => rfl
      · have e : bt on u = true := by
          cases e : bt on u with
          | true => rfl
          | false => rw [e] at q; exact absurd q (by decide)
        refine y_flatAt hW h4 (by omega) (fun r hr => ?_)
        rw [d_cn hr, hL.2 (hoH H u) (by omega), bt_s hx (by omega)]
        refine ⟨by omega, fun q2 => no ?_, fun q2 => y_ampsAt hW h4 (by omega) (on2 _ ?_)⟩
        · cases e2 : bt (wyV H g (hoH H u)) w with
          | true => rw [e2] at q2; exact absurd rfl q2
          | false => rw [Bool.and_false]
        · show x3 + hoM H u = lds H g on w u + cond (bt on u && bt (wyV H g (hoH H u)) w) (hoM H u) 0
          have e2 : bt (wyV H g (hoH H u)) w = true := by
            cases e2 : bt (wyV H g (hoH H u)) w with
            | true => rfl
            | false => rw [e2] at q2; exact absurd q2 (by decide)
          rw [e, e2, h3]
          rfl
  exact v_X12_loadBy_70 (loop (hoU H) 0 _ _ (by omega) (by decide) rfl)
theorem RZ.rg {r : Nat} {m : dM} (h : RZ H 108 m S) : RG (hoW H) (bt (szG S)) m := fun w hw => by rw [(h.2.1 w hw).2.1, bi_if]
theorem y_doesGo {x on h more : Int32} {w : Nat} {m : dM} {Q : Int32 → dM → Prop} (hW : RW H s m) (hZ : RZ H 108 m S) (hL : RL H (szG S) m) (hx : x.toInt = (w : Int)) (hw : w < hoW H) (hQ : ∀ m' : dM, XaF m m' → Q (bi (gop H S on h more w)) m') : c_X12_doesGo_70 4 x on h more m Q := by
  obtain ⟨o1, o2, o3, o4, o5, o6⟩ := hW.1
  have no : gop H S on h more w = false → Q 0 m := fun q => by
    have := hQ m (XaF.rf m)
    rw [q] at this
    exact this
  obtain ⟨z1, z2, z3, z4⟩ := hZ.2.1 w hw
  have e30 := d_add (k := x) (K := w) (x := (30 : Int32)) (i := 30) (by decide) hx (by omega)
  have e20 := d_add (k := x) (K := w) (x := (20 : Int32)) (i := 20) (by decide) hx (by omega)
  refine v_X12_doesGo_70 (y_isWhole hW.2.1 (hZ.rg (r := 0)) hx hw (fun g => ⟨fun q => absurd q (by decide), fun _ => ?_⟩) (fun g => ⟨fun _ => v_X12_doesGo_70_21 (no ?_), fun q => absurd rfl q⟩))
  · rw [d_cn e30, z4, bi_if]
    refine ⟨by omega, fun q => ?_, fun q => v_X12_doesGo_70_21 (no ?_)⟩
    · have gp : bt (szP S) w = false := by
        cases e : bt (szP S) w with
        | false => rfl
        | true => rw [e] at q; exact absurd rfl q
      refine Wp.deep (y_loadBy (g := szG S) hW hL hx hw ⟨fun q2 => ?_, fun q2 => no ?_⟩) (Nat.le_of_ble_eq_true rfl)
      · have lb := lds_b hW.1 (g := szG S) (on := on) (w := w) (hoU H) (Nat.le_refl _)
        have lb : 0 ≤ (lod H (szG S) on w).toInt ∧ (lod H (szG S) on w).toInt ≤ 19 * (hoU H : Int) := lb
        refine Wp.deep (y_looks (fun M k3 e3 v3 => ?_)) (Nat.le_of_ble_eq_true rfl)
        have F3 : XaF m M := ⟨fun k _ q _ => k3 k q, fun j _ => by rw [k3 70 (by decide)], e3⟩
        have h3Z := hZ.xa F3 (Or.inr rfl)
        obtain ⟨y1, y2, y3, y4⟩ := h3Z.2.1 w hw
        rw [d_cn e20, d_cn hx, y1, y3]
        rw [hZ.1.1] at v3
        have v3' := rset (a := 2) (y := szE S w) (rset (a := 1) (y := szR S w) (rset (a := 0) (x := lod H (szG S) on w + more) v3 rfl) rfl) rfl
        have F4 : XaF m (dSet (dSet (dSet M 105 0 (lod H (szG S) on w + more)) 105 1 (szR S w)) 105 2 (szE S w)) := F3.set.set.set
        refine ⟨by omega, by omega, Wp.deep (y_tellr (k := 0) (v := vGo S (lod H (szG S) on w + more) h w) (hW.xa F4).2 (by decide) (by decide) (fun j hj => ?_) ?_ (fun M4 f4 => ?_)) (Nat.le_of_ble_eq_true rfl)⟩
        · rw [v3' j hj]
          unfold vGo
          rw [i32_of hx]
        · rfl
        · have F5 := F4.q f4
          have hQ := hQ M4 F5
          have pos : decide (0 < (lod H (szG S) on w).toInt) = true := decide_eq_true (by omega)
          unfold gop at hQ
          rw [pos, gp, Bool.not_false, Bool.true_and, Bool.true_and] at hQ
          refine ⟨fun z => ?_, fun z => ?_⟩
          · rw [decide_eq_false (by omega)] at hQ; exact hQ
          · rw [decide_eq_true z] at hQ; exact hQ
      · unfold gop
        rw [decide_eq_false (by omega), Bool.false_and, Bool.false_and]
    · have gp : bt (szP S) w = true := by
        cases e : bt (szP S) w with
        | true => rfl
        | false => rw [e] at q; exact absurd q (by decide)
      unfold gop
      rw [gp]
      simp
  · unfold gop
    rw [lod_gone hW.1 g]
    rfl
theorem y_goingBits {on h more : Int32} {m : dM} {Q : Int32 → dM → Prop} (hW : RW H s m) (hZ : RZ H 108 m S) (hL : RL H (szG S) m) (hQ : ∀ m' : dM, XaF m m' → Q (gng H S on h more) m') : c_X12_goingBits_70 5 on h more m Q := by
  obtain ⟨o1, o2, o3, o4, o5, o6⟩ := hW.1
  have loop : ∀ (t w : Nat) (x4 x5 : Int32) (M : dM), w + t = hoW H → x5.toInt = (w : Int) → x4 = bs (gop H S on h more) w → XaF m M → j_X12_goingBits_70_6 5 on h more x4 x5 M Q := by
    intro t
    induction t with
    | zero =>
      intro w x4 x5 M hw h5 h4 hF
      have hWM := (hW.xa hF).2.1
      refine v_X12_goingBits_70_6 ?_
      rw [d_cn hWM.1.1, hWM.2.2.1.1, hWM.1.1]
      have := hWM.1.2
      refine ⟨by omega, fun _ => ?_, fun q => by exfalso; omega⟩
      rw [h4, show w = hoW H by omega]
      exact hQ M hF
    | succ t ih =>
      intro w x4 x5 M hw h5 h4 hF
      have hWM := (hW.xa hF).2.1
      refine v_X12_goingBits_70_6 ?_
      rw [d_cn hWM.1.1, hWM.2.2.1.1, hWM.1.1, b1_of h5]
      have := hWM.1.2
      refine ⟨by omega, fun q => by exfalso; omega, fun _ => y_doesGo (hW.xa hF) (hZ.xa hF (Or.inr rfl)) (hL.xa hF) h5 (by omega) (fun M1 f1 => ?_)⟩
      have F1 := hF.tr f1
      rw [bi_if]
      have on2 : ∀ y : Int32, y = bs (gop H S on h more) (w + 1) → j_X12_goingBits_70_41 5 on h more y x5 M1 Q := fun y hy => v_X12_goingBits_70_41 (ih (w + 1) _ _ M1 (by omega) (d_inc h5 (by omega)) hy F1)
      have bse : bs (gop H S on h more) (w + 1) = cond (gop H S on h more w) (bs (gop H S on h more) w ||| b1 w) (bs (gop H S on h more) w) := rfl
      cases g : gop H S on h more w with
      | true =>
        rw [g, cond_true] at bse
        exact ⟨fun z => absurd z (by decide), fun _ => on2 _ (by rw [bse, h4])⟩
      | false =>
        rw [g, cond_false] at bse
        exact ⟨fun _ => on2 _ (by rw [bse, h4]), fun z => absurd rfl z⟩
  exact v_X12_goingBits_70 (loop (hoW H) 0 _ _ m (by omega) (by decide) rfl (XaF.rf m))
end RHO
end
section
/-! THE REFERENCE: pay, quarrels, costs, an hour -/
/-- laws and what went alone have changed -/
def HaF (m0 m : dM) : Prop := (∀ k : Nat, k ≠ 70 → (k < 105 ∨ 110 < k ∨ k = 107) → m.1 k = m0.1 k) ∧ (∀ j : Nat, j ≠ 53 → j ≠ 60 → m.1 70 j = m0.1 70 j) ∧ m.2 = m0.2
theorem HaF.rf (m : dM) : HaF m m := ⟨fun _ _ _ => rfl, fun _ _ _ => rfl, rfl⟩
theorem HaF.tr {a b c : dM} (h : HaF a b) (h' : HaF b c) : HaF a c := ⟨fun k q1 q2 => (h'.1 k q1 q2).trans (h.1 k q1 q2), fun j q1 q2 => (h'.2.1 j q1 q2).trans (h.2.1 j q1 q2), h'.2.2.trans h.2.2⟩
theorem XaF.ha {a b : dM} (h : XaF a b) : HaF a b := ⟨fun k q1 q2 => h.1 k q1 (by omega) (by omega), fun j q1 _ => h.2.1 j q1, h.2.2⟩
theorem HaF.set {a b : dM} {j : Nat} {v : Int32} (h : HaF a b) : HaF a (dSet b 108 j v) := ⟨fun k q1 q2 => by rw [dSet_k (by omega)]; exact h.1 k q1 q2, fun i q1 q2 => by rw [dSet_k (by decide)]; exact h.2.1 i q1 q2, h.2.2⟩
theorem HaF.went {a b : dM} {v : Int32} (h : HaF a b) : HaF a (dSet b 70 60 v) := ⟨fun k q1 q2 => by rw [dSet_k q1]; exact h.1 k q1 q2, fun i q1 q2 => by rw [dSet_j q2]; exact h.2.1 i q1 q2, h.2.2⟩
theorem RLF.ha {a b : dM} (h : RLF a b) : HaF a b := ⟨fun k q1 q2 => h.1 k (by omega) (by omega), fun j _ _ => by rw [h.1 70 (by decide) (by decide)], h.2⟩
section RHP
variable {H : Ho} {S : Zt} {s : Nat}
theorem RW.ha {m m' : dM} (h : RW H s m) (hF : HaF m m') : RW H s m' := ⟨h.1, h.2.of (fun k a b => hF.1 k (by omega) (by omega)) (hF.2.1 18 (by decide) (by decide))⟩
theorem y_paysOf {x : Int32} {u : Nat} {m : dM} {Q : Int32 → dM → Prop} (hW : RW H s m) (hZ : RZ H 108 m S) (hx : x.toInt = (u : Int)) (hu : u < hoU H) (hQ : ∀ m' : dM, XaF m m' → Q (pyu H S u) m') : c_X12_paysOf_70 3 x m Q := by
  refine v_X12_paysOf_70 ?_
  rw [hZ.1.1]
  refine Wp.deep (y_looks (fun M k3 e3 v3 => ?_)) (Nat.le_of_ble_eq_true rfl)
  have F3 : XaF m M := ⟨fun k _ q _ => k3 k q, fun j _ => by rw [k3 70 (by decide)], e3⟩
  rw [hZ.1.1] at v3
  refine Wp.deep (y_ampsAt (hW.xa F3) hx hu ?_) (Nat.le_of_ble_eq_true rfl)
  have v3' := rset (a := 5) (x := hoM H u) v3 rfl
  have F4 : XaF m (dSet M 105 5 (hoM H u)) := F3.set
  refine y_tellr (k := 3) (v := upd (vz (hod (szH S)) (dy (szH S)) (Int32.ofNat u)) 5 (hoM H u)) (hW.xa F4).2 (by decide) (by decide) (fun j hj => ?_) rfl (fun M4 f4 => Wp.deep (y_within ?_) (Nat.le_of_ble_eq_true rfl))
  · rw [i32_of hx]
    exact v3' j hj
  · rw [cl_hl]
    exact hQ M4 (F4.q f4)
theorem y_quarrelOf {x : Int32} {f : Nat} {m : dM} {Q : Int32 → dM → Prop} (hW : RW H s m) (hZ : RZ H 108 m S) (hx : x.toInt = (f : Int)) (hf : f < hoF H) (hQ : ∀ m' : dM, XaF m m' → Q (qrl H S f) m') : c_X12_quarrelOf_70 3 x m Q := by
  have o1 := hW.1.1
  refine v_X12_quarrelOf_70 ?_
  rw [hZ.1.1]
  refine Wp.deep (y_looks (fun M k3 e3 v3 => ?_)) (Nat.le_of_ble_eq_true rfl)
  have F3 : XaF m M := ⟨fun k _ q _ => k3 k q, fun j _ => by rw [k3 70 (by decide)], e3⟩
  rw [hZ.1.1] at v3
  have hW3 := hW.xa F3
  have a := hW3.2.1.1
  have e7 := y_idx (C := 7) (c := (7 : Int32)) (by decide) a.1 a.2 hx (by decide) (by omega)
  have e40 := d_add (k := x) (K := f) (x := (40 : Int32)) (i := 40) (by decide) hx (by omega)
  rw [d_cn e7, d_cn e40, hW3.2.2.2.1 f hf, (hZ.xa F3 (Or.inr rfl)).2.2.1 f hf]
  have v3' := rset (a := 7) (x := szD S f) (rset (a := 6) (x := hoT H f) v3 rfl) rfl
  have F4 : XaF m (dSet (dSet M 105 6 (hoT H f)) 105 7 (szD S f)) := F3.set.set
  refine ⟨by omega, by omega, y_tellr (k := 1) (v := upd (upd (vz (hod (szH S)) (dy (szH S)) (Int32.ofNat f)) 6 (hoT H f)) 7 (szD S f)) (hW.xa F4).2 (by decide) (by decide) (fun j hj => ?_) rfl (fun M4 f4 => Wp.deep (y_within ?_) (Nat.le_of_ble_eq_true rfl))⟩
  · rw [i32_of hx]
    exact v3' j hj
  · rw [cl_hl]
    exact hQ M4 (F4.q f4)
theorem y_costsOf {x : Int32} {w : Nat} {m : dM} {Q : Int32 → dM → Prop} (hW : RW H s m) (hZ : RZ H 108 m S) (hx : x.toInt = (w : Int)) (hw : w < hoW H) (hQ : ∀ m' : dM, XaF m m' → Q (cst H S w) m') : c_X12_costsOf_70 3 x m Q := by
  have o2 := hW.1.2.1
  refine v_X12_costsOf_70 ?_
  rw [hZ.1.1]
  refine Wp.deep (y_looks (fun M k3 e3 v3 => ?_)) (Nat.le_of_ble_eq_true rfl)
  have F3 : XaF m M := ⟨fun k _ q _ => k3 k q, fun j _ => by rw [k3 70 (by decide)], e3⟩
  rw [hZ.1.1] at v3
  obtain ⟨z1, z2, z3, z4⟩ := (hZ.xa F3 (Or.inr rfl)).2.1 w hw
  have e20 := d_add (k := x) (K := w) (x := (20 : Int32)) (i := 20) (by decide) hx (by omega)
  rw [d_cn e20, d_cn hx, z1, z3]
  have v3' := rset (a := 2) (x := szE S w) (rset (a := 1) (x := szR S w) v3 rfl) rfl
  have F4 : XaF m (dSet (dSet M 105 1 (szR S w)) 105 2 (szE S w)) := F3.set.set
  refine ⟨by omega, by omega, y_tellr (k := 2) (v := upd (upd (vz (hod (szH S)) (dy (szH S)) (Int32.ofNat w)) 1 (szR S w)) 2 (szE S w)) (hW.xa F4).2 (by decide) (by decide) (fun j hj => ?_) rfl (fun M4 f4 => Wp.deep (y_within ?_) (Nat.le_of_ble_eq_true rfl))⟩
  · rw [i32_of hx]
    exact v3' j hj
  · rw [cl_hl]
    exact hQ M4 (F4.q f4)
theorem y_paysAll {on : Int32} {m : dM} {Q : Int32 → dM → Prop} (hW : RW H s m) (hZ : RZ H 108 m S) (hQ : ∀ m' : dM, XaF m m' → Q (pyS H S on (hoU H)) m') : c_X12_paysAll_70 4 on m Q := by
  obtain ⟨o1, o2, o3, o4, o5, o6⟩ := hW.1
  have loop : ∀ (t u : Nat) (x2 x3 : Int32) (M : dM), u + t = hoU H → x3.toInt = (u : Int) → x2 = pyS H S on u → XaF m M → j_X12_paysAll_70_4 4 on x2 x3 M Q := by
    intro t
    induction t with
    | zero =>
      intro u x2 x3 M hu h3 h2 hF
      have hWM := hW.xa hF
      have a := hWM.2.1.1
      refine v_X12_paysAll_70_4 ?_
      rw [d_cn a.1, hWM.2.2.1, a.1]
      refine ⟨by omega, fun _ => ?_, fun q => by exfalso; omega⟩
      rw [h2, show u = hoU H by omega]
      exact hQ M hF
    | succ t ih =>
      intro u x2 x3 M hu h3 h2 hF
      have hWM := hW.xa hF
      have a := hWM.2.1.1
      have pse : pyS H S on (u + 1) = cond (bt on u) (pyS H S on u + pyu H S u) (pyS H S on u) := rfl
      have on2 : ∀ (y : Int32) (M1 : dM), y = pyS H S on (u + 1) → XaF m M1 → j_X12_paysAll_70_34 4 on y x3 M1 Q := fun y M1 hy f => v_X12_paysAll_70_34 (ih (u + 1) _ _ M1 (by omega) (d_inc h3 (by omega)) hy f)
      refine v_X12_paysAll_70_4 ?_
      rw [d_cn a.1, hWM.2.2.1, a.1, bt_s h3 (by omega)]
      refine ⟨by omega, fun q => by exfalso; omega, fun _ => ?_⟩
      cases e : bt on u with
      | true =>
        rw [e, cond_true] at pse
        exact ⟨fun q => absurd rfl q, fun _ => y_paysOf hWM (hZ.xa hF (Or.inr rfl)) h3 (by omega) (fun M1 f1 => on2 _ M1 (by rw [pse, h2]) (hF.tr f1))⟩
      | false =>
        rw [e, cond_false] at pse
        exact ⟨fun _ => on2 _ M (by rw [pse, h2]) hF, fun q => absurd q (by decide)⟩
  exact v_X12_paysAll_70 (loop (hoU H) 0 _ _ m (by omega) (by decide) rfl (XaF.rf m))
theorem y_quarrelsAll {m : dM} {Q : Int32 → dM → Prop} (hW : RW H s m) (hZ : RZ H 108 m S) (hL : RL H (szG S) m) (hQ : ∀ m' : dM, XaF m m' → Q (quS H S (hoF H)) m') : c_X12_quarrelsAll_70 4 m Q := by
  obtain ⟨o1, o2, o3, o4, o5, o6⟩ := hW.1
  have loop : ∀ (t f : Nat) (x1 x2 : Int32) (M : dM), f + t = hoF H → x2.toInt = (f : Int) → x1 = quS H S f → XaF m M → j_X12_quarrelsAll_70_4 4 x1 x2 M Q := by
    intro t
    induction t with
    | zero =>
      intro f x1 x2 M hf h2 h1 hF
      have hWM := hW.xa hF
      have a := hWM.2.1.1
      refine v_X12_quarrelsAll_70_4 ?_
      rw [d_cn a.1, hWM.2.1.2.1.1, a.1]
      refine ⟨by omega, fun _ => ?_, fun q => by exfalso; omega⟩
      rw [h1, show f = hoF H by omega]
      exact hQ M hF
    | succ t ih =>
      intro f x1 x2 M hf h2 h1 hF
      have hWM := hW.xa hF
      have a := hWM.2.1.1
      have pse : quS H S (f + 1) = cond (lt H (szG S) f) (quS H S f) (quS H S f + qrl H S f) := rfl
      have on2 : ∀ (y : Int32) (M1 : dM), y = quS H S (f + 1) → XaF m M1 → j_X12_quarrelsAll_70_33 4 y x2 M1 Q := fun y M1 hy f' => v_X12_quarrelsAll_70_33 (ih (f + 1) _ _ M1 (by omega) (d_inc h2 (by omega)) hy f')
      refine v_X12_quarrelsAll_70_4 ?_
      rw [d_cn a.1, hWM.2.1.2.1.1, a.1]
      refine ⟨by omega, fun q => by exfalso; omega, fun _ => Wp.deep (y_isLit (hL.xa hF) h2 (by omega) (fun g => ⟨fun _ => on2 _ M ?_ hF, fun q => absurd q (by decide)⟩) (fun g => ⟨fun q => absurd rfl q, fun _ => y_quarrelOf hWM (hZ.xa hF (Or.inr rfl)) h2 (by omega) (fun M1 f1 => on2 _ M1 ?_ (hF.tr f1))⟩)) (Nat.le_of_ble_eq_true rfl)⟩
      · rw [g, cond_true] at pse
        rw [pse, h1]
      · rw [g, cond_false] at pse
        rw [pse, h1]
  exact v_X12_quarrelsAll_70 (loop (hoF H) 0 _ _ m (by omega) (by decide) rfl (XaF.rf m))
theorem RZ.setp {r j : Nat} {m : dM} {v : Int32} {T : Zt} (h : RZ H r m S) (hT : RZ H r (dSet m r j v) T) : RZ H r (dSet m r j v) T := hT
theorem RZ.c {r : Nat} {m : dM} {v : Int32} (h : RZ H r m S) (hO : hOk H) : RZ H r (dSet m r 56 v) (setC S v) := by
  obtain ⟨⟨a, b, c⟩, d, e, f⟩ := h
  obtain ⟨o1, o2, o3, _⟩ := hO
  refine ⟨⟨by rw [dSet_j (by decide)]; exact a, by rw [dSet_s]; rfl, by rw [dSet_j (by decide)]; exact c⟩, fun w hw => ?_, fun g hg => by rw [dSet_j (by omega)]; exact e g hg, fun u hu => by rw [dSet_j (by omega)]; exact f u hu⟩
  rw [dSet_j (by omega), dSet_j (by omega), dSet_j (by omega), dSet_j (by omega)]
  exact d w hw
theorem RZ.q {r : Nat} {m : dM} {v : Int32} (h : RZ H r m S) (hO : hOk H) : RZ H r (dSet m r 57 v) (setQ S v (szD S)) := by
  obtain ⟨⟨a, b, c⟩, d, e, f⟩ := h
  obtain ⟨o1, o2, o3, _⟩ := hO
  refine ⟨⟨by rw [dSet_j (by decide)]; exact a, by rw [dSet_j (by decide)]; exact b, by rw [dSet_s]; rfl⟩, fun w hw => ?_, fun g hg => by rw [dSet_j (by omega)]; exact e g hg, fun u hu => by rw [dSet_j (by omega)]; exact f u hu⟩
  rw [dSet_j (by omega), dSet_j (by omega), dSet_j (by omega), dSet_j (by omega)]
  exact d w hw
theorem RZ.d {r f : Nat} {m : dM} {v q : Int32} {D D' : Nat → Int32} (h : RZ H r m (setQ S q D)) (hO : hOk H) (hf : f < hoF H) (hD : ∀ g : Nat, g ≠ f → D' g = D g) (hv : v = D' f) : RZ H r (dSet m r (40 + f) v) (setQ S q D') := by
  obtain ⟨⟨a, b, c⟩, d, e, f'⟩ := h
  obtain ⟨o1, o2, o3, _⟩ := hO
  refine ⟨⟨by rw [dSet_j (by omega)]; exact a, by rw [dSet_j (by omega)]; exact b, by rw [dSet_j (by omega)]; exact c⟩, fun w hw => ?_, fun g hg => ?_, fun u hu => by rw [dSet_j (by omega)]; exact f' u hu⟩
  · rw [dSet_j (by omega), dSet_j (by omega), dSet_j (by omega), dSet_j (by omega)]
    exact d w hw
  · show _ = D' g
    by_cases z : g = f
    · subst z
      rw [dSet_s]; exact hv
    · rw [dSet_j (by omega), hD g z]
      exact e g hg
/-- wires behind w of them: gone and age -/
def agn (S : Zt) (G : Int32) (n j : Nat) : Int32 := if j < n ∧ bt G j = false then (if (szE S j + 1) < (999 : Int32) then (szE S j + 1) else 999) else szE S j
def RV (H : Ho) (m : dM) (T : Zt) (G : Int32) (w : Nat) : Prop := (m.1 108 55 = szH T ∧ m.1 108 56 = szC T ∧ m.1 108 57 = szQ T) ∧ (∀ j : Nat, j < hoW H → m.1 108 j = szR T j ∧ m.1 108 (10 + j) = bi (bt (if j < w then G else szG T) j) ∧ m.1 108 (20 + j) = agn T G w j ∧ m.1 108 (30 + j) = bi (bt (szP T) j)) ∧ (∀ f : Nat, f < hoF H → m.1 108 (40 + f) = szD T f) ∧ ∀ u : Nat, u < hoU H → m.1 108 (47 + u) = bi (bt (szA T) u)
theorem agn_o {G : Int32} {n j : Nat} (h : j ≠ n) : agn S G (n + 1) j = agn S G n j := by
  unfold agn
  by_cases q : j < n ∧ bt G j = false
  · rw [if_pos q, if_pos (show j < n + 1 ∧ bt G j = false from ⟨by omega, q.2⟩)]
  · rw [if_neg q, if_neg (fun z => q ⟨by omega, z.2⟩)]
theorem cl_age {x : Int32} (h : 0 ≤ x.toInt ∧ x.toInt ≤ 999) : cl 999 (x + 1) = (if (x + 1) < (999 : Int32) then (x + 1) else 999) := by
  have f := dAddE (X := x.toInt) (Y := 1) (x := x) (y := (1 : Int32)) rfl (by decide) (by omega) (by omega)
  have lti : (x + 1 < (999 : Int32)) ↔ (x + 1).toInt < (999 : Int32).toInt := Int32.lt_iff_toInt_lt
  have e9 := ti_999
  unfold cl
  rw [if_neg (by omega)]
  by_cases q : x + 1 < (999 : Int32)
  · have := lti.mp q
    rw [if_pos q, if_neg (by omega)]
  · have q2 : ¬ (x + 1).toInt < (999 : Int32).toInt := fun z => q (lti.mpr z)
    rw [if_neg q]
    by_cases z : (999 : Int32).toInt < (x + 1).toInt
    · rw [if_pos z]
    · rw [if_neg z]
      apply Int32.toInt_inj.mp
      omega
end RHP
end
section
/-! THE REFERENCE: an hour -/
section RHQ
variable {H : Ho} {S : Zt} {s : Nat}
theorem onA_cg {T : Zt} (hG : szG T = szG S) (hA : szA T = szA S) (h : Int32) : onA H T h = onA H S h := by
  unfold onA
  refine bs_congr _ (fun i hi => ?_)
  unfold onp
  rw [hG, hA]
theorem gng_cg {T : Zt} (hH : szH T = szH S) (hG : szG T = szG S) (hP : szP T = szP S) (hR : szR T = szR S) (hE : szE T = szE S) (on h more : Int32) : gng H T on h more = gng H S on h more := by
  unfold gng
  refine bs_congr _ (fun i hi => ?_)
  unfold gop vGo
  rw [hH, hG, hP, hR, hE]
theorem y_isSurge {m : dM} {Q : Int32 → dM → Prop} (hW : RW H s m) (hZ : m.1 108 55 = szH S) (hQ : Q (bi (sgp H (m.1 70 56) (szH S))) m) : c_X12_isSurge_70 2 m Q := by
  have a := hW.2.1.1
  refine v_X12_isSurge_70 (v_X12_mixed (v_X12_mixed ?_))
  rw [d_cn a.1, hZ, hW.2.2.2.2.2.2.1.1, a.1]
  have e1 : ∀ b : Bool, (decide ((lot (mx (mx (m.1 70 56) 129) ((4 : Int32) * szH S))).toInt < (hoS H).toInt) = b) → Q (bi b) m := fun b hb' => by
    rw [← hb']
    exact hQ
  exact ⟨by omega, fun q => e1 false (decide_eq_false (by
    have q : (hoS H).toInt ≤ (lot (mx (mx (m.1 70 56) 129) ((4 : Int32) * szH S))).toInt := q
    omega)), fun q => e1 true (decide_eq_true q)⟩
theorem RV.of {m m' : dM} {T : Zt} {G : Int32} {w : Nat} (h : RV H m T G w) (e : m'.1 108 = m.1 108) : RV H m' T G w := by
  unfold RV
  rw [e]
  exact h
/-- a wire that was gone, one that goes, one that stays -/
theorem RV.gone {m : dM} {T : Zt} {G : Int32} {w : Nat} (h : RV H m T G w) (hg : bt (szG T) w = true) (hG : bt G w = true) : RV H m T G (w + 1) := by
  obtain ⟨a, b, c, d⟩ := h
  refine ⟨a, fun j hj => ?_, c, d⟩
  obtain ⟨b1', b2', b3', b4'⟩ := b j hj
  by_cases e : j = w
  · subst e
    rw [if_neg (by omega)] at b2'
    refine ⟨b1', ?_, ?_, b4'⟩
    · rw [if_pos (by omega), hG, b2', hg]
    · rw [b3']
      unfold agn
      rw [if_neg (fun q => by omega), if_neg (fun q => by rw [hG] at q; cases q.2)]
  · rw [agn_o e]
    refine ⟨b1', ?_, b3', b4'⟩
    rw [b2']
    by_cases q : j < w
    · rw [if_pos q, if_pos (by omega)]
    · rw [if_neg q, if_neg (by omega)]
theorem RV.goes {m : dM} {T : Zt} {G : Int32} {w : Nat} (h : RV H m T G w) (hO : hOk H) (hw : w < hoW H) (hG : bt G w = true) : RV H (dSet m 108 (10 + w) (1 : Int32)) T G (w + 1) := by
  obtain ⟨⟨a1, a2, a3⟩, b, c, d⟩ := h
  obtain ⟨o1, o2, o3, _⟩ := hO
  refine ⟨⟨by rw [dSet_j (by omega)]; exact a1, by rw [dSet_j (by omega)]; exact a2, by rw [dSet_j (by omega)]; exact a3⟩, fun j hj => ?_, fun f hf => by rw [dSet_j (by omega)]; exact c f hf, fun u hu => by rw [dSet_j (by omega)]; exact d u hu⟩
  obtain ⟨b1', b2', b3', b4'⟩ := b j hj
  rw [dSet_j (show j ≠ 10 + w by omega), dSet_j (show 20 + j ≠ 10 + w by omega), dSet_j (show 30 + j ≠ 10 + w by omega)]
  by_cases e : j = w
  · subst e
    refine ⟨b1', ?_, ?_, b4'⟩
    · rw [dSet_s, if_pos (by omega), hG]; rfl
    · rw [b3']
      unfold agn
      rw [if_neg (fun q => by omega), if_neg (fun q => by rw [hG] at q; cases q.2)]
  · rw [agn_o e, dSet_j (by omega)]
    refine ⟨b1', ?_, b3', b4'⟩
    rw [b2']
    by_cases q : j < w
    · rw [if_pos q, if_pos (by omega)]
    · rw [if_neg q, if_neg (by omega)]
theorem RV.stays {m : dM} {T : Zt} {G v : Int32} {w : Nat} (h : RV H m T G w) (hO : hOk H) (hw : w < hoW H) (hg : bt (szG T) w = false) (hG : bt G w = false) (hv : v = (if (szE T w + 1) < (999 : Int32) then (szE T w + 1) else 999)) : RV H (dSet m 108 (20 + w) v) T G (w + 1) := by
  obtain ⟨⟨a1, a2, a3⟩, b, c, d⟩ := h
  obtain ⟨o1, o2, o3, _⟩ := hO
  refine ⟨⟨by rw [dSet_j (by omega)]; exact a1, by rw [dSet_j (by omega)]; exact a2, by rw [dSet_j (by omega)]; exact a3⟩, fun j hj => ?_, fun f hf => by rw [dSet_j (by omega)]; exact c f hf, fun u hu => by rw [dSet_j (by omega)]; exact d u hu⟩
  obtain ⟨b1', b2', b3', b4'⟩ := b j hj
  rw [dSet_j (show j ≠ 20 + w by omega), dSet_j (show 10 + j ≠ 20 + w by omega), dSet_j (show 30 + j ≠ 20 + w by omega)]
  by_cases e : j = w
  · subst e
    rw [if_neg (by omega)] at b2'
    refine ⟨b1', ?_, ?_, b4'⟩
    · rw [if_pos (by omega), b2', hg, hG]
    · rw [dSet_s, hv]
      unfold agn
      rw [if_pos (show j < j + 1 ∧ bt G j = false from ⟨by omega, hG⟩)]
  · rw [agn_o e, dSet_j (by omega)]
    refine ⟨b1', ?_, b3', b4'⟩
    rw [b2']
    by_cases q : j < w
    · rw [if_pos q, if_pos (by omega)]
    · rw [if_neg q, if_neg (by omega)]
theorem RZ.v {m : dM} {T : Zt} {G : Int32} (h : RZ H 108 m T) : RV H m T G 0 := by
  obtain ⟨a, b, c, d⟩ := h
  refine ⟨a, fun j hj => ?_, c, d⟩
  obtain ⟨b1', b2', b3', b4'⟩ := b j hj
  refine ⟨b1', ?_, ?_, b4'⟩
  · rw [if_neg (by omega)]; exact b2'
  · unfold agn
    rw [if_neg (fun q => by omega)]; exact b3'
/-- the state that comes of it -/
def wsg (H : Ho) (T : Zt) (G : Int32) : Zt := ((szH T + 1, szC T, szQ T, G, szP T, szA T), szR T, (fun w => if w < hoW H ∧ bt G w = false then (if (szE T w + 1) < (999 : Int32) then (szE T w + 1) else 999) else szE T w), szD T)
theorem RV.z {m : dM} {T : Zt} {G : Int32} (h : RV H m T G (hoW H)) (hO : hOk H) : RZ H 108 (dSet m 108 55 (m.1 108 55 + 1)) (wsg H T G) := by
  obtain ⟨⟨a1, a2, a3⟩, b, c, d⟩ := h
  obtain ⟨o1, o2, o3, _⟩ := hO
  refine ⟨⟨by rw [dSet_s, a1]; rfl, by rw [dSet_j (by decide)]; exact a2, by rw [dSet_j (by decide)]; exact a3⟩, fun j hj => ?_, fun f hf => by rw [dSet_j (by omega)]; exact c f hf, fun u hu => by rw [dSet_j (by omega)]; exact d u hu⟩
  obtain ⟨b1', b2', b3', b4'⟩ := b j hj
  rw [dSet_j (by omega), dSet_j (by omega), dSet_j (by omega), dSet_j (by omega)]
  rw [if_pos hj] at b2'
  exact ⟨b1', b2', b3', b4'⟩
theorem y_hourTail {m : dM} {Q : dM → Prop} {T : Zt} {gn : Int32} (hW : RW H s m) (hZ : RZ H 108 m T) (hL : RL H (szG T) m) (hE : ∀ w : Nat, w < hoW H → 0 ≤ (szE T w).toInt ∧ (szE T w).toInt ≤ 999) (hg : m.1 70 60 = gn) (hQ : ∀ m' : dM, HaF m m' → RW H s m' → m'.1 70 60 = gn → RZ H 108 m' (wsg H T (szG T ||| gn)) → RL H (szG T ||| gn) m' → Q m') : j_X12_hourGoes_70_169 6 (0 : Int32) m Q := by
  obtain ⟨o1, o2, o3, o4, o5, o6⟩ := hW.1
  have loop : ∀ (t w : Nat) (x4 : Int32) (M : dM), w + t = hoW H → x4.toInt = (w : Int) → (∀ k : Nat, k ≠ 108 → M.1 k = m.1 k) → M.2 = m.2 → RV H M T (szG T ||| gn) w → j_X12_hourGoes_70_169 6 x4 M Q := by
    intro t
    induction t with
    | zero =>
      intro w x4 M hw h4 hk h2 hV
      have hF : HaF m M := ⟨fun k _ q => hk k (by omega), fun j _ _ => by rw [hk 70 (by decide)], h2⟩
      have hWM := hW.ha hF
      have a := hWM.2.1.1
      rw [show w = hoW H by omega] at hV
      have hZ' := hV.z hW.1
      have hW' : RW H s (dSet M 108 55 (M.1 108 55 + 1)) := hWM.ha (HaF.rf M).set
      have g60 : M.1 70 60 = gn := by rw [hk 70 (by decide)]; exact hg
      refine v_X12_hourGoes_70_169 ?_
      rw [d_cn a.1, hWM.2.1.2.2.1.1, a.1, g60]
      refine ⟨by omega, fun _ => ⟨fun z => v_X12_hourGoes_70_284 (hQ _ hF.set hW' g60 hZ' ?_), fun z => ?_⟩, fun q => by exfalso; omega⟩
      · have ez : gn = 0 := Int32.toInt_inj.mp (by rw [z]; decide)
        rw [ez, Int32.or_zero]
        exact hL.of (by rw [dSet_k (by decide), hk 109 (by decide)]) (by rw [dSet_k (by decide), hk 110 (by decide)])
      · refine y_fillsWays (G := bt (szG T ||| gn)) hW'.2.1 (fun w hw => ?_) (fun M1 f1 d1 v1 => v_X12_hourGoes_70_284 (hQ M1 (hF.set.tr f1.ha) (hW'.ha f1.ha) ?_ ?_ ⟨d1, v1⟩))
        · have := (hZ'.2.1 w hw).2.1
          rw [this, bi_if]
          rfl
        · rw [f1.1 70 (by decide) (by decide)]; exact g60
        · exact hZ'.of (f1.1 108 (by decide) (by decide))
    | succ t ih =>
      intro w x4 M hw h4 hk h2 hV
      have hF : HaF m M := ⟨fun k _ q => hk k (by omega), fun j _ _ => by rw [hk 70 (by decide)], h2⟩
      have hWM := hW.ha hF
      have a := hWM.2.1.1
      have g60 : M.1 70 60 = gn := by rw [hk 70 (by decide)]; exact hg
      have on2 : ∀ M1 : dM, (∀ k : Nat, k ≠ 108 → M1.1 k = m.1 k) → M1.2 = m.2 → RV H M1 T (szG T ||| gn) (w + 1) → j_X12_hourGoes_70_256 6 x4 M1 Q := fun M1 p q r => v_X12_hourGoes_70_256 (ih (w + 1) _ M1 (by omega) (d_inc h4 (by omega)) p q r)
      have e10 := d_add (k := x4) (K := w) (x := (10 : Int32)) (i := 10) (by decide) h4 (by omega)
      have e20 := d_add (k := x4) (K := w) (x := (20 : Int32)) (i := 20) (by decide) h4 (by omega)
      obtain ⟨v1, v2, v3, v4⟩ := hV.2.1 w (by omega)
      rw [if_neg (by omega)] at v2
      have v3 : M.1 108 (20 + w) = szE T w := by
        rw [v3]
        unfold agn
        rw [if_neg (fun q => by omega)]
      refine v_X12_hourGoes_70_169 ?_
      rw [d_cn a.1, hWM.2.1.2.2.1.1, a.1, g60, d_cn e10, d_cn e20, v2, bi_if, bt_s h4 (by omega), v3]
      refine ⟨by omega, fun q => by exfalso; omega, fun _ => ⟨by omega, fun q1 => ⟨fun q2 => ⟨by omega, ?_⟩, fun q2 => ⟨by omega, ?_⟩⟩, fun q1 => on2 M hk h2 ?_⟩⟩
      · have g1 : bt (szG T) w = false := by
          cases e : bt (szG T) w with
          | false => rfl
          | true => rw [e] at q1; exact absurd rfl q1
        have g2 : bt gn w = false := by
          cases e : bt gn w with
          | false => rfl
          | true => rw [e] at q2; exact absurd rfl q2
        refine Wp.deep (y_within ⟨by omega, on2 _ (fun k q => by rw [dSet_k q]; exact hk k q) h2 ?_⟩) (Nat.le_of_ble_eq_true rfl)
        exact hV.stays hW.1 (by omega) g1 (by rw [bt_or, g1, g2]; rfl) (cl_age (hE w (by omega)))
      · have g2 : bt gn w = true := by
          cases e : bt gn w with
          | true => rfl
          | false => rw [e] at q2; exact absurd q2 (by decide)
        exact on2 _ (fun k q => by rw [dSet_k q]; exact hk k q) h2 (hV.goes hW.1 (by omega) (by rw [bt_or, g2, Bool.or_true]))
      · have g1 : bt (szG T) w = true := by
          cases e : bt (szG T) w with
          | true => rfl
          | false => rw [e] at q1; exact absurd q1 (by decide)
        exact hV.gone g1 (by rw [bt_or, g1, Bool.true_or])
  exact loop (hoW H) 0 _ m (by omega) (by decide) (fun _ _ => rfl) rfl hZ.v
/-- what is more in the wires by a surge -/
def mor (H : Ho) (S : Zt) (m : dM) : Int32 := cond (decide ((m.1 70 57).toInt ≠ 0)) 0 (sgA H (m.1 70 56) (szH S))
theorem y_hourGoes {m : dM} {Q : dM → Prop} (hW : RW H s m) (hZ : RZ H 108 m S) (hL : RL H (szG S) m) (hO : zOk H S) (hQ : ∀ m' : dM, HaF m m' → RW H s m' → m'.1 70 60 = gng H S (onA H S (hod (szH S))) (hod (szH S)) (mor H S m) → RZ H 108 m' (wsz H (pst H S) (mor H S m)) → RL H (szG (wsz H (pst H S) (mor H S m))) m' → Q m') : c_X12_hourGoes_70 6 m Q := by
  obtain ⟨o1, o2, o3, o4, o5, o6⟩ := hW.1
  have tail : ∀ M2 : dM, XaF m M2 → c_X12_paysAll_70 5 (onA H S (hod (szH S))) (dSet M2 70 60 (gng H S (onA H S (hod (szH S))) (hod (szH S)) (mor H S m))) (fun r3 m3 => c_X12_quarrelsAll_70 5 m3 (fun r4 m4 => c_X12_within 5 ((m4.1 108 56) + r3) (0 : Int32) (99999 : Int32) m4 (fun r5 m5 => c_X12_within 5 ((m5.1 108 57) + r4) (0 : Int32) (999999 : Int32) (dSet m5 108 56 r5) (fun r6 m6 => j_X12_hourGoes_70_111 6 (0 : Int32) (dSet m6 108 57 r6) Q)))) := by
    intro M2 f2
    have eg : gng H S (onA H S (hod (szH S))) (hod (szH S)) (mor H S m) = gng H (pst H S) (onA H (pst H S) (hod (szH S))) (hod (szH S)) (mor H S m) := by
      rw [gng_cg (S := S) (T := pst H S) rfl rfl rfl rfl rfl, onA_cg (S := S) (T := pst H S) rfl rfl]
    generalize hgn : gng H S (onA H S (hod (szH S))) (hod (szH S)) (mor H S m) = gn at hQ eg ⊢
    have F2 : HaF m (dSet M2 70 60 gn) := f2.ha.went
    have W2 := hW.ha F2
    have Z2 : RZ H 108 (dSet M2 70 60 gn) S := (hZ.xa f2 (Or.inr rfl)).of (dSet_k (by decide))
    have L2 : RL H (szG S) (dSet M2 70 60 gn) := (hL.xa f2).of (dSet_k (by decide)) (dSet_k (by decide))
    have g2 : (dSet M2 70 60 gn).1 70 60 = gn := dSet_s _ _ _ _
    generalize dSet M2 70 60 gn = M at F2 W2 Z2 L2 g2 ⊢
    refine Wp.deep (y_paysAll W2 Z2 (fun M3 f3 => ?_)) (Nat.le_of_ble_eq_true rfl)
    have W3 := W2.xa f3
    have Z3 := Z2.xa f3 (Or.inr rfl)
    have L3 := L2.xa f3
    refine Wp.deep (y_quarrelsAll W3 Z3 L3 (fun M4 f4 => ?_)) (Nat.le_of_ble_eq_true rfl)
    have W4 := W3.xa f4
    have Z4 := Z3.xa f4 (Or.inr rfl)
    have L4 := L3.xa f4
    have g4 : M4.1 70 60 = gn := by rw [f4.2.1 60 (by decide), f3.2.1 60 (by decide)]; exact g2
    have F4 : HaF m M4 := (F2.tr f3.ha).tr f4.ha
    rw [Z4.1.2.1]
    refine Wp.deep (y_within (T := 99999) ?_) (Nat.le_of_ble_eq_true rfl)
    rw [Z4.1.2.2]
    refine Wp.deep (y_within (T := 999999) ?_) (Nat.le_of_ble_eq_true rfl)
    generalize hc : cl 99999 (szC S + pyS H S (onA H S (hod (szH S))) (hoU H)) = cc
    generalize hq : cl 999999 (szQ S + quS H S (hoF H)) = qq
    have eP : pst H S = setQ (setC S cc) qq (dkn H S (hoF H)) := by
      unfold pst
      rw [hc, hq]
      rfl
    have F5 : HaF m (dSet (dSet M4 108 56 cc) 108 57 qq) := F4.set.set
    have Z5 : RZ H 108 (dSet (dSet M4 108 56 cc) 108 57 qq) (setQ (setC S cc) qq (dkn H S 0)) := (Z4.c hW.1).q hW.1
    have L5 : RL H (szG S) (dSet (dSet M4 108 56 cc) 108 57 qq) := L4.of (by rw [dSet_k (by decide), dSet_k (by decide)]) (by rw [dSet_k (by decide), dSet_k (by decide)])
    have g5 : (dSet (dSet M4 108 56 cc) 108 57 qq).1 70 60 = gn := by rw [dSet_k (by decide), dSet_k (by decide)]; exact g4
    generalize dSet (dSet M4 108 56 cc) 108 57 qq = M5 at F5 Z5 L5 g5 ⊢
    have loop : ∀ (t f : Nat) (x4 : Int32) (M6 : dM), f + t = hoF H → x4.toInt = (f : Int) → HaF m M6 → RL H (szG S) M6 → M6.1 70 60 = gn → RZ H 108 M6 (setQ (setC S cc) qq (dkn H S f)) → j_X12_hourGoes_70_111 6 x4 M6 Q := by
      intro t
      induction t with
      | zero =>
        intro f x4 M6 hf h4 F6 L6 g6 Z6
        have W6 := hW.ha F6
        have a := W6.2.1.1
        rw [show f = hoF H by omega, ← eP] at Z6
        refine v_X12_hourGoes_70_111 ?_
        rw [d_cn a.1, W6.2.1.2.1.1, a.1]
        refine ⟨by omega, fun _ => ?_, fun q => by exfalso; omega⟩
        refine y_hourTail (T := pst H S) (gn := gn) W6 Z6 L6 hO.2.2.2.2.2.2 g6 (fun M7 f7 W7 g7 Z7 L7 => hQ M7 (F6.tr f7) W7 g7 ?_ ?_)
        · have e : wsz H (pst H S) (mor H S m) = wsg H (pst H S) (szG (pst H S) ||| gn) := by
            rw [eg]
            rfl
          rw [e]
          exact Z7
        · have e : szG (wsz H (pst H S) (mor H S m)) = szG (pst H S) ||| gn := by
            rw [eg]
            rfl
          rw [e]
          exact L7
      | succ t ih =>
        intro f x4 M6 hf h4 F6 L6 g6 Z6
        have W6 := hW.ha F6
        have a := W6.2.1.1
        have e40 := d_add (k := x4) (K := f) (x := (40 : Int32)) (i := 40) (by decide) h4 (by omega)
        have z40 := Z6.2.2.1 f (by omega)
        have z40 : M6.1 108 (40 + f) = dkn H S f f := z40
        have on2 : ∀ v : Int32, v = dkn H S (f + 1) f → j_X12_hourGoes_70_111 6 (x4 + (1 : Int32)) (dSet M6 108 (40 + f) v) Q := fun v hv => ih (f + 1) _ _ (by omega) (d_inc h4 (by omega)) F6.set (L6.of (dSet_k (by decide)) (dSet_k (by decide))) (by rw [dSet_k (by decide)]; exact g6) (Z6.d hW.1 (by omega) (fun g hg => dkn_o hg) hv)
        refine v_X12_hourGoes_70_111 ?_
        rw [d_cn a.1, W6.2.1.2.1.1, a.1, d_cn e40]
        refine ⟨by omega, fun q => by exfalso; omega, fun _ => Wp.deep (y_isLit L6 h4 (by omega) (fun g => ⟨fun q => absurd q (by decide), fun _ => ⟨by omega, on2 _ ?_⟩⟩) (fun g => ⟨fun _ => ⟨by omega, by omega, on2 _ ?_⟩, fun q => absurd rfl q⟩)) (Nat.le_of_ble_eq_true rfl)⟩
        · unfold dkn
          rw [if_pos (by omega), g]
          rfl
        · rw [z40]
          unfold dkn
          rw [if_neg (by omega), if_pos (by omega), g]
          rfl
    exact loop (hoF H) 0 _ M5 (by omega) (by decide) F5 L5 g5 Z5
  refine v_X12_hourGoes_70 (v_X12_onNow_70 ?_)
  rw [hZ.1.1]
  refine Wp.deep (y_onAt hW hZ hL ?_) (Nat.le_of_ble_eq_true rfl)
  rw [hZ.1.1]
  have mo : ∀ x : Int32, mor H S m = x → c_X12_goingBits_70 5 (onA H S (hod (szH S))) (hod (szH S)) x m (fun r2 m2 => c_X12_paysAll_70 5 (onA H S (hod (szH S))) (dSet m2 70 60 r2) (fun r3 m3 => c_X12_quarrelsAll_70 5 m3 (fun r4 m4 => c_X12_within 5 ((m4.1 108 56) + r3) (0 : Int32) (99999 : Int32) m4 (fun r5 m5 => c_X12_within 5 ((m5.1 108 57) + r4) (0 : Int32) (999999 : Int32) (dSet m5 108 56 r5) (fun r6 m6 => j_X12_hourGoes_70_111 6 (0 : Int32) (dSet m6 108 57 r6) Q))))) := fun x hx => y_goingBits hW hZ hL (fun M2 f2 => by
    rw [← hx]
    exact tail M2 f2)
  refine ⟨fun q => mo 0 ?_, fun q => ?_⟩
  · unfold mor
    rw [decide_eq_true q]
    rfl
  · have em : mor H S m = sgA H (m.1 70 56) (szH S) := by
      unfold mor
      rw [decide_eq_false (fun z => z q)]
      rfl
    refine Wp.deep (y_isSurge hW hZ.1.1 ?_) (Nat.le_of_ble_eq_true rfl)
    rw [bi_if]
    have a := hW.2.1.1
    cases g : sgp H (m.1 70 56) (szH S) with
    | true =>
      refine ⟨fun z => absurd z (by decide), fun _ => ?_⟩
      rw [d_cn a.1, hW.2.2.2.2.2.2.1.2.1, a.1]
      refine ⟨by omega, mo _ ?_⟩
      rw [em]
      unfold sgA
      rw [g]
      rfl
    | false =>
      refine ⟨fun _ => mo _ ?_, fun z => absurd rfl z⟩
      rw [em]
      unfold sgA
      rw [g]
      rfl
end RHQ
end
section
/-! THE CLASS: what is kept, taken back, held, gone on from -/
def CPz (c : Nat) (m : dM) (i : Nat) (S : Zt) : Prop := (m.1 c (33 * i) = szH S ∧ m.1 c (33 * i + 1) = szC S ∧ m.1 c (33 * i + 2) = szQ S ∧ m.1 c (33 * i + 3) = szG S ∧ m.1 c (33 * i + 4) = szP S ∧ m.1 c (33 * i + 5) = szA S) ∧ (∀ j : Nat, j < 10 → m.1 c (33 * i + 6 + j) = szR S j) ∧ (∀ j : Nat, j < 10 → m.1 c (33 * i + 16 + j) = szE S j) ∧ ∀ j : Nat, j < 7 → m.1 c (33 * i + 26 + j) = szD S j
theorem CPz.of {c i : Nat} {m m' : dM} {S : Zt} (h : CPz c m i S) (e : ∀ p : Nat, 33 * i ≤ p → p < 33 * i + 33 → m'.1 c p = m.1 c p) : CPz c m' i S := by
  obtain ⟨⟨a0, a1, a2, a3, a4, a5⟩, b, d, f⟩ := h
  refine ⟨⟨?_, ?_, ?_, ?_, ?_, ?_⟩, fun j hj => ?_, fun j hj => ?_, fun j hj => ?_⟩
  · rw [e _ (by omega) (by omega)]; exact a0
  · rw [e _ (by omega) (by omega)]; exact a1
  · rw [e _ (by omega) (by omega)]; exact a2
  · rw [e _ (by omega) (by omega)]; exact a3
  · rw [e _ (by omega) (by omega)]; exact a4
  · rw [e _ (by omega) (by omega)]; exact a5
  · rw [e _ (by omega) (by omega)]; exact b j hj
  · rw [e _ (by omega) (by omega)]; exact d j hj
  · rw [e _ (by omega) (by omega)]; exact f j hj
theorem y_writeTo52 {x : Int32} {i : Nat} {m : dM} {S : Zt} {Q : dM → Prop} (hZ : CZ 47 m S) (hx : x.toInt = ((33 * i : Nat) : Int)) (hi : i < 40) (hQ : ∀ m' : dM, (∀ a : Nat, a ≠ 52 → m'.1 a = m.1 a) → m'.2 = m.2 → (∀ p : Nat, (p < 33 * i ∨ 33 * i + 33 ≤ p) → m'.1 52 p = m.1 52 p) → CPz 52 m' i S → Q m') : c_X7_writeTo_47_52 1 x m Q := by
  have e1 := d_add (k := 1) (K := 1) hx (by decide) (by omega)
  have e2 := d_add (k := 2) (K := 2) hx (by decide) (by omega)
  have e3 := d_add (k := 3) (K := 3) hx (by decide) (by omega)
  have e4 := d_add (k := 4) (K := 4) hx (by decide) (by omega)
  have e5 := d_add (k := 5) (K := 5) hx (by decide) (by omega)
  have e6 := d_add (k := 6) (K := 6) hx (by decide) (by omega)
  have e7 := d_add (k := 10) (K := 10) e6 (by decide) (by omega)
  have e8 := d_add (k := 20) (K := 20) e6 (by decide) (by omega)
  have en : ((1320 : Int32) - (33 : Int32)).toInt = 1287 := by decide
  obtain ⟨⟨z0, z1, z2, z3, z4, z5⟩, zR, zE, zD⟩ := hZ
  refine v_X7_writeTo_47_52 ⟨fun q => by exfalso; omega, fun _ => ⟨fun _ => ?_, fun q => by exfalso; omega⟩⟩
  rw [d_cn hx, d_cn e1, d_cn e2, d_cn e3, d_cn e4, d_cn e5, e6, e7, e8, Int.toNat_natCast, Int.toNat_natCast, Int.toNat_natCast]
  refine ⟨by omega, by omega, by omega, by omega, by omega, by omega, by omega, by omega, by omega, hQ _ (fun a ha => ?_) rfl (fun p hp => ?_) ?_⟩
  · rw [dCpy_k ha, dCpy_k ha, dCpy_k ha, dSet_k ha, dSet_k ha, dSet_k ha, dSet_k ha, dSet_k ha, dSet_k ha]
  · rw [dCpy_e, if_neg (by omega), dCpy_e, if_neg (by omega), dCpy_e, if_neg (by omega), dSet_j (by omega), dSet_j (by omega), dSet_j (by omega), dSet_j (by omega), dSet_j (by omega), dSet_j (by omega)]
  · refine ⟨⟨?_, ?_, ?_, ?_, ?_, ?_⟩, fun j hj => ?_, fun j hj => ?_, fun j hj => ?_⟩
    · rw [dCpy_e, if_neg (by omega), dCpy_e, if_neg (by omega), dCpy_e, if_neg (by omega), dSet_j (by omega), dSet_j (by omega), dSet_j (by omega), dSet_j (by omega), dSet_j (by omega), dSet_s]; exact z0
    · rw [dCpy_e, if_neg (by omega), dCpy_e, if_neg (by omega), dCpy_e, if_neg (by omega), dSet_j (by omega), dSet_j (by omega), dSet_j (by omega), dSet_j (by omega), dSet_s]; exact z1
    · rw [dCpy_e, if_neg (by omega), dCpy_e, if_neg (by omega), dCpy_e, if_neg (by omega), dSet_j (by omega), dSet_j (by omega), dSet_j (by omega), dSet_s]; exact z2
    · rw [dCpy_e, if_neg (by omega), dCpy_e, if_neg (by omega), dCpy_e, if_neg (by omega), dSet_j (by omega), dSet_j (by omega), dSet_s]; exact z3
    · rw [dCpy_e, if_neg (by omega), dCpy_e, if_neg (by omega), dCpy_e, if_neg (by omega), dSet_j (by omega), dSet_s]; exact z4
    · rw [dCpy_e, if_neg (by omega), dCpy_e, if_neg (by omega), dCpy_e, if_neg (by omega), dSet_s]; exact z5
    · rw [dCpy_e, if_neg (by omega), dCpy_e, if_neg (by omega), dCpy_e, if_pos (by omega), dSet_k (by decide), dSet_k (by decide), dSet_k (by decide), dSet_k (by decide), dSet_k (by decide), dSet_k (by decide), show (0 : Int).toNat + (33 * i + 6 + j - (33 * i + 6)) = j by simp]; exact zR j hj
    · rw [dCpy_e, if_neg (by omega), dCpy_e, if_pos (by omega), dCpy_k (by decide), dSet_k (by decide), dSet_k (by decide), dSet_k (by decide), dSet_k (by decide), dSet_k (by decide), dSet_k (by decide), show (0 : Int).toNat + (33 * i + 16 + j - (33 * i + 6 + 10)) = j by simp]; exact zE j hj
    · rw [dCpy_e, if_pos (by omega), dCpy_k (by decide), dCpy_k (by decide), dSet_k (by decide), dSet_k (by decide), dSet_k (by decide), dSet_k (by decide), dSet_k (by decide), dSet_k (by decide), show (0 : Int).toNat + (33 * i + 26 + j - (33 * i + 6 + 20)) = j by simp]; exact zD j hj
theorem y_readFrom52 {x : Int32} {i : Nat} {m : dM} {S : Zt} {Q : dM → Prop} (hP : CPz 52 m i S) (hx : x.toInt = ((33 * i : Nat) : Int)) (hi : i < 40) (hQ : ∀ m' : dM, (∀ a : Nat, (a < 47 ∨ 50 < a) → m'.1 a = m.1 a) → m'.2 = m.2 → CZ 47 m' S → Q m') : c_X7_readFrom_47_52 1 x m Q := by
  have e1 := d_add (k := 1) (K := 1) hx (by decide) (by omega)
  have e2 := d_add (k := 2) (K := 2) hx (by decide) (by omega)
  have e3 := d_add (k := 3) (K := 3) hx (by decide) (by omega)
  have e4 := d_add (k := 4) (K := 4) hx (by decide) (by omega)
  have e5 := d_add (k := 5) (K := 5) hx (by decide) (by omega)
  have e6 := d_add (k := 6) (K := 6) hx (by decide) (by omega)
  have e7 := d_add (k := 10) (K := 10) e6 (by decide) (by omega)
  have e8 := d_add (k := 20) (K := 20) e6 (by decide) (by omega)
  have en : ((1320 : Int32) - (33 : Int32)).toInt = 1287 := by decide
  obtain ⟨⟨z0, z1, z2, z3, z4, z5⟩, zR, zE, zD⟩ := hP
  refine v_X7_readFrom_47_52 ⟨fun q => by exfalso; omega, fun _ => ⟨fun _ => ?_, fun q => by exfalso; omega⟩⟩
  rw [d_cn hx, d_cn e1, d_cn e2, d_cn e3, d_cn e4, d_cn e5, e6, e7, e8, Int.toNat_natCast, Int.toNat_natCast, Int.toNat_natCast]
  refine ⟨by omega, by omega, by omega, by omega, by omega, by omega, by omega, by omega, by omega, hQ _ (fun a ha => ?_) rfl ⟨⟨?_, ?_, ?_, ?_, ?_, ?_⟩, fun j hj => ?_, fun j hj => ?_, fun j hj => ?_⟩⟩
  · rw [dCpy_k (by omega), dCpy_k (by omega), dCpy_k (by omega), dSet_k (by omega), dSet_k (by omega), dSet_k (by omega), dSet_k (by omega), dSet_k (by omega), dSet_k (by omega)]
  · rw [dCpy_k (by decide), dCpy_k (by decide), dCpy_k (by decide), dSet_j (by decide), dSet_j (by decide), dSet_j (by decide), dSet_j (by decide), dSet_j (by decide), dSet_s]; exact z0
  · rw [dCpy_k (by decide), dCpy_k (by decide), dCpy_k (by decide), dSet_j (by decide), dSet_j (by decide), dSet_j (by decide), dSet_j (by decide), dSet_s]; exact z1
  · rw [dCpy_k (by decide), dCpy_k (by decide), dCpy_k (by decide), dSet_j (by decide), dSet_j (by decide), dSet_j (by decide), dSet_s]; exact z2
  · rw [dCpy_k (by decide), dCpy_k (by decide), dCpy_k (by decide), dSet_j (by decide), dSet_j (by decide), dSet_s]; exact z3
  · rw [dCpy_k (by decide), dCpy_k (by decide), dCpy_k (by decide), dSet_j (by decide), dSet_s]; exact z4
  · rw [dCpy_k (by decide), dCpy_k (by decide), dCpy_k (by decide), dSet_s]; exact z5
  · rw [dCpy_k (by decide), dCpy_k (by decide), dCpy_e, if_pos (by simp; omega), dSet_k (by decide), dSet_k (by decide), dSet_k (by decide), dSet_k (by decide), dSet_k (by decide), dSet_k (by decide), show 33 * i + 6 + (j - (0 : Int).toNat) = 33 * i + 6 + j by simp]; exact zR j hj
  · rw [dCpy_k (by decide), dCpy_e, if_pos (by simp; omega), dCpy_k (by decide), dSet_k (by decide), dSet_k (by decide), dSet_k (by decide), dSet_k (by decide), dSet_k (by decide), dSet_k (by decide), show 33 * i + 6 + 10 + (j - (0 : Int).toNat) = 33 * i + 16 + j by simp]; exact zE j hj
  · rw [dCpy_e, if_pos (by simp; omega), dCpy_k (by decide), dCpy_k (by decide), dSet_k (by decide), dSet_k (by decide), dSet_k (by decide), dSet_k (by decide), dSet_k (by decide), dSet_k (by decide), show 33 * i + 6 + 20 + (j - (0 : Int).toNat) = 33 * i + 26 + j by simp]; exact zD j hj
theorem y_writeTo53 {x : Int32} {i : Nat} {m : dM} {S : Zt} {Q : dM → Prop} (hZ : CZ 47 m S) (hx : x.toInt = ((33 * i : Nat) : Int)) (hi : i < 3) (hQ : ∀ m' : dM, (∀ a : Nat, a ≠ 53 → m'.1 a = m.1 a) → m'.2 = m.2 → (∀ p : Nat, (p < 33 * i ∨ 33 * i + 33 ≤ p) → m'.1 53 p = m.1 53 p) → CPz 53 m' i S → Q m') : c_X7_writeTo_47_53 1 x m Q := by
  have e1 := d_add (k := 1) (K := 1) hx (by decide) (by omega)
  have e2 := d_add (k := 2) (K := 2) hx (by decide) (by omega)
  have e3 := d_add (k := 3) (K := 3) hx (by decide) (by omega)
  have e4 := d_add (k := 4) (K := 4) hx (by decide) (by omega)
  have e5 := d_add (k := 5) (K := 5) hx (by decide) (by omega)
  have e6 := d_add (k := 6) (K := 6) hx (by decide) (by omega)
  have e7 := d_add (k := 10) (K := 10) e6 (by decide) (by omega)
  have e8 := d_add (k := 20) (K := 20) e6 (by decide) (by omega)
  have en : ((99 : Int32) - (33 : Int32)).toInt = 66 := by decide
  obtain ⟨⟨z0, z1, z2, z3, z4, z5⟩, zR, zE, zD⟩ := hZ
  refine v_X7_writeTo_47_53 ⟨fun q => by exfalso; omega, fun _ => ⟨fun _ => ?_, fun q => by exfalso; omega⟩⟩
  rw [d_cn hx, d_cn e1, d_cn e2, d_cn e3, d_cn e4, d_cn e5, e6, e7, e8, Int.toNat_natCast, Int.toNat_natCast, Int.toNat_natCast]
  refine ⟨by omega, by omega, by omega, by omega, by omega, by omega, by omega, by omega, by omega, hQ _ (fun a ha => ?_) rfl (fun p hp => ?_) ?_⟩
  · rw [dCpy_k ha, dCpy_k ha, dCpy_k ha, dSet_k ha, dSet_k ha, dSet_k ha, dSet_k ha, dSet_k ha, dSet_k ha]
  · rw [dCpy_e, if_neg (by omega), dCpy_e, if_neg (by omega), dCpy_e, if_neg (by omega), dSet_j (by omega), dSet_j (by omega), dSet_j (by omega), dSet_j (by omega), dSet_j (by omega), dSet_j (by omega)]
  · refine ⟨⟨?_, ?_, ?_, ?_, ?_, ?_⟩, fun j hj => ?_, fun j hj => ?_, fun j hj => ?_⟩
    · rw [dCpy_e, if_neg (by omega), dCpy_e, if_neg (by omega), dCpy_e, if_neg (by omega), dSet_j (by omega), dSet_j (by omega), dSet_j (by omega), dSet_j (by omega), dSet_j (by omega), dSet_s]; exact z0
    · rw [dCpy_e, if_neg (by omega), dCpy_e, if_neg (by omega), dCpy_e, if_neg (by omega), dSet_j (by omega), dSet_j (by omega), dSet_j (by omega), dSet_j (by omega), dSet_s]; exact z1
    · rw [dCpy_e, if_neg (by omega), dCpy_e, if_neg (by omega), dCpy_e, if_neg (by omega), dSet_j (by omega), dSet_j (by omega), dSet_j (by omega), dSet_s]; exact z2
    · rw [dCpy_e, if_neg (by omega), dCpy_e, if_neg (by omega), dCpy_e, if_neg (by omega), dSet_j (by omega), dSet_j (by omega), dSet_s]; exact z3
    · rw [dCpy_e, if_neg (by omega), dCpy_e, if_neg (by omega), dCpy_e, if_neg (by omega), dSet_j (by omega), dSet_s]; exact z4
    · rw [dCpy_e, if_neg (by omega), dCpy_e, if_neg (by omega), dCpy_e, if_neg (by omega), dSet_s]; exact z5
    · rw [dCpy_e, if_neg (by omega), dCpy_e, if_neg (by omega), dCpy_e, if_pos (by omega), dSet_k (by decide), dSet_k (by decide), dSet_k (by decide), dSet_k (by decide), dSet_k (by decide), dSet_k (by decide), show (0 : Int).toNat + (33 * i + 6 + j - (33 * i + 6)) = j by simp]; exact zR j hj
    · rw [dCpy_e, if_neg (by omega), dCpy_e, if_pos (by omega), dCpy_k (by decide), dSet_k (by decide), dSet_k (by decide), dSet_k (by decide), dSet_k (by decide), dSet_k (by decide), dSet_k (by decide), show (0 : Int).toNat + (33 * i + 16 + j - (33 * i + 6 + 10)) = j by simp]; exact zE j hj
    · rw [dCpy_e, if_pos (by omega), dCpy_k (by decide), dCpy_k (by decide), dSet_k (by decide), dSet_k (by decide), dSet_k (by decide), dSet_k (by decide), dSet_k (by decide), dSet_k (by decide), show (0 : Int).toNat + (33 * i + 26 + j - (33 * i + 6 + 20)) = j by simp]; exact zD j hj
theorem y_readFrom53 {x : Int32} {i : Nat} {m : dM} {S : Zt} {Q : dM → Prop} (hP : CPz 53 m i S) (hx : x.toInt = ((33 * i : Nat) : Int)) (hi : i < 3) (hQ : ∀ m' : dM, (∀ a : Nat, (a < 47 ∨ 50 < a) → m'.1 a = m.1 a) → m'.2 = m.2 → CZ 47 m' S → Q m') : c_X7_readFrom_47_53 1 x m Q := by
  have e1 := d_add (k := 1) (K := 1) hx (by decide) (by omega)
  have e2 := d_add (k := 2) (K := 2) hx (by decide) (by omega)
  have e3 := d_add (k := 3) (K := 3) hx (by decide) (by omega)
  have e4 := d_add (k := 4) (K := 4) hx (by decide) (by omega)
  have e5 := d_add (k := 5) (K := 5) hx (by decide) (by omega)
  have e6 := d_add (k := 6) (K := 6) hx (by decide) (by omega)
  have e7 := d_add (k := 10) (K := 10) e6 (by decide) (by omega)
  have e8 := d_add (k := 20) (K := 20) e6 (by decide) (by omega)
  have en : ((99 : Int32) - (33 : Int32)).toInt = 66 := by decide
  obtain ⟨⟨z0, z1, z2, z3, z4, z5⟩, zR, zE, zD⟩ := hP
  refine v_X7_readFrom_47_53 ⟨fun q => by exfalso; omega, fun _ => ⟨fun _ => ?_, fun q => by exfalso; omega⟩⟩
  rw [d_cn hx, d_cn e1, d_cn e2, d_cn e3, d_cn e4, d_cn e5, e6, e7, e8, Int.toNat_natCast, Int.toNat_natCast, Int.toNat_natCast]
  refine ⟨by omega, by omega, by omega, by omega, by omega, by omega, by omega, by omega, by omega, hQ _ (fun a ha => ?_) rfl ⟨⟨?_, ?_, ?_, ?_, ?_, ?_⟩, fun j hj => ?_, fun j hj => ?_, fun j hj => ?_⟩⟩
  · rw [dCpy_k (by omega), dCpy_k (by omega), dCpy_k (by omega), dSet_k (by omega), dSet_k (by omega), dSet_k (by omega), dSet_k (by omega), dSet_k (by omega), dSet_k (by omega)]
  · rw [dCpy_k (by decide), dCpy_k (by decide), dCpy_k (by decide), dSet_j (by decide), dSet_j (by decide), dSet_j (by decide), dSet_j (by decide), dSet_j (by decide), dSet_s]; exact z0
  · rw [dCpy_k (by decide), dCpy_k (by decide), dCpy_k (by decide), dSet_j (by decide), dSet_j (by decide), dSet_j (by decide), dSet_j (by decide), dSet_s]; exact z1
  · rw [dCpy_k (by decide), dCpy_k (by decide), dCpy_k (by decide), dSet_j (by decide), dSet_j (by decide), dSet_j (by decide), dSet_s]; exact z2
  · rw [dCpy_k (by decide), dCpy_k (by decide), dCpy_k (by decide), dSet_j (by decide), dSet_j (by decide), dSet_s]; exact z3
  · rw [dCpy_k (by decide), dCpy_k (by decide), dCpy_k (by decide), dSet_j (by decide), dSet_s]; exact z4
  · rw [dCpy_k (by decide), dCpy_k (by decide), dCpy_k (by decide), dSet_s]; exact z5
  · rw [dCpy_k (by decide), dCpy_k (by decide), dCpy_e, if_pos (by simp; omega), dSet_k (by decide), dSet_k (by decide), dSet_k (by decide), dSet_k (by decide), dSet_k (by decide), dSet_k (by decide), show 33 * i + 6 + (j - (0 : Int).toNat) = 33 * i + 6 + j by simp]; exact zR j hj
  · rw [dCpy_k (by decide), dCpy_e, if_pos (by simp; omega), dCpy_k (by decide), dSet_k (by decide), dSet_k (by decide), dSet_k (by decide), dSet_k (by decide), dSet_k (by decide), dSet_k (by decide), show 33 * i + 6 + 10 + (j - (0 : Int).toNat) = 33 * i + 16 + j by simp]; exact zE j hj
  · rw [dCpy_e, if_pos (by simp; omega), dCpy_k (by decide), dCpy_k (by decide), dSet_k (by decide), dSet_k (by decide), dSet_k (by decide), dSet_k (by decide), dSet_k (by decide), dSet_k (by decide), show 33 * i + 6 + 20 + (j - (0 : Int).toNat) = 33 * i + 26 + j by simp]; exact zD j hj
/-- the ring: the last kept first -/
def CP (m : dM) (P : List Zt) : Prop := ∃ n : Nat, n < 40 ∧ (m.1 51 2).toInt = (n : Int) ∧ (m.1 51 3).toInt = (P.length : Int) ∧ P.length ≤ 40 ∧ ∀ (k : Nat) (T : Zt), P[k]? = some T → CPz 52 m ((n + 39 - k) % 40) T
def pKeep (S : Zt) (P : List Zt) : List Zt := (S :: P).take 40
theorem y_mod40 {x : Int32} {n : Nat} (h : x.toInt = (n : Int)) (hn : n < 1000) : (x - x / (40 : Int32) * (40 : Int32)).toInt = ((n % 40 : Nat) : Int) := by
  have e40 : (40 : Int32).toInt = 40 := by decide
  have hd : (x / (40 : Int32)).toInt = ((n / 40 : Nat) : Int) := by
    rw [Int32.toInt_div_of_ne_right _ _ (by decide), h, e40]
    rfl
  have hm := dMulE (X := ((n / 40 : Nat) : Int)) (Y := 40) hd e40 (by omega) (by omega)
  have hs := dSubE (X := (n : Int)) (Y := ((n / 40 : Nat) : Int) * 40) h hm (by omega) (by omega)
  omega
theorem y_keep {m : dM} {S : Zt} {P : List Zt} {Q : dM → Prop} (hZ : CZ 47 m S) (hP : CP m P) (hQ : ∀ m' : dM, (∀ a : Nat, a ≠ 51 → a ≠ 52 → m'.1 a = m.1 a) → (∀ j : Nat, j ≠ 2 → j ≠ 3 → m'.1 51 j = m.1 51 j) → m'.2 = m.2 → CP m' (pKeep S P) → Q m') : c_X6_keep_51_47 2 m Q := by
  obtain ⟨n, n1, n2, n3, n4, n5⟩ := hP
  have e33 := dMulE (X := (n : Int)) (Y := 33) (x := m.1 51 2) (y := (33 : Int32)) n2 (by decide) (by omega) (by omega)
  refine v_X6_keep_51_47 (y_writeTo52 hZ (i := n) (by omega) n1 (fun M hk h2 hp hc => ?_))
  have a2 : M.1 51 2 = m.1 51 2 := by rw [hk 51 (by decide)]
  have a3 : M.1 51 3 = m.1 51 3 := by rw [hk 51 (by decide)]
  rw [a2, a3]
  have f1 := d_inc n2 (by omega)
  have f2 := y_mod40 f1 (by omega)
  have f3 := dAddE (X := (P.length : Int)) (Y := 1) (x := m.1 51 3) (y := (1 : Int32)) n3 (by decide) (by omega) (by omega)
  have lti : ((40 : Int32) < m.1 51 3 + 1) ↔ (40 : Int32).toInt < (m.1 51 3 + 1).toInt := Int32.lt_iff_toInt_lt
  have e40 : (40 : Int32).toInt = 40 := by decide
  have hl' : (pKeep S P).length = min 40 (P.length + 1) := by unfold pKeep; rw [List.length_take, List.length_cons]
  refine hQ _ (fun a h1 h3 => by rw [dSet_k h1, dSet_k h1]; exact hk a h3) (fun j h1 h3 => by rw [dSet_j h3, dSet_j h1, hk 51 (by decide)]) h2 ⟨(n + 1) % 40, by omega, ?_, ?_, by omega, fun k T hT => ?_⟩
  · rw [dSet_j (by decide), dSet_s]; exact f2
  · rw [dSet_s, hl']
    by_cases q : (40 : Int32) < m.1 51 3 + 1
    · have := lti.mp q
      rw [if_pos q]; omega
    · have : ¬ (40 : Int32).toInt < (m.1 51 3 + 1).toInt := fun z => q (lti.mpr z)
      rw [if_neg q]; omega
  · have hk40 : k < 40 ∧ (S :: P)[k]? = some T := by
      unfold pKeep at hT
      rw [List.getElem?_take] at hT
      by_cases q : k < 40
      · rw [if_pos q] at hT; exact ⟨q, hT⟩
      · rw [if_neg q] at hT; cases hT
    have set : ∀ i : Nat, CPz 52 M i T → CPz 52 (dSet (dSet M 51 2 (m.1 51 2 + 1 - (m.1 51 2 + 1) / 40 * 40)) 51 3 (if (40 : Int32) < m.1 51 3 + 1 then 40 else m.1 51 3 + 1)) i T := fun i hi => hi.of (fun p _ _ => by rw [dSet_k (by decide), dSet_k (by decide)])
    refine set _ ?_
    match k, hk40 with
    | 0, ⟨_, h0⟩ =>
      have h0 : some S = some T := h0
      cases h0
      rw [show ((n + 1) % 40 + 39 - 0) % 40 = n by omega]
      exact hc
    | k + 1, ⟨hk', h0⟩ =>
      have h0 : P[k]? = some T := h0
      have := n5 k T h0
      have hl2 : k < P.length := (List.getElem?_eq_some_iff.mp h0).1
      rw [show ((n + 1) % 40 + 39 - (k + 1)) % 40 = (n + 39 - k) % 40 by omega]
      exact this.of (fun p q1 q2 => hp p (by
        have : (n + 39 - k) % 40 ≠ n := by omega
        omega))
theorem y_takeBack {m : dM} {P : List Zt} {Q : Int32 → dM → Prop} (hP : CP m P) (h0 : P = [] → Q 0 m) (h1 : ∀ (S : Zt) (P' : List Zt) (m' : dM), P = S :: P' → (∀ a : Nat, (a < 47 ∨ 51 < a) → m'.1 a = m.1 a) → (∀ j : Nat, j ≠ 2 → j ≠ 3 → m'.1 51 j = m.1 51 j) → m'.2 = m.2 → CZ 47 m' S → CP m' P' → Q 1 m') : c_X6_takeBack_51_47 2 m Q := by
  obtain ⟨n, n1, n2, n3, n4, n5⟩ := hP
  have f1 := d_add (k := 40) (K := 40) n2 (by decide) (by omega)
  have f2 := dSubE (X := ((n + 40 : Nat) : Int)) (Y := 1) (x := m.1 51 2 + 40) (y := (1 : Int32)) f1 (by decide) (by omega) (by omega)
  have f3 := y_mod40 (x := m.1 51 2 + 40 - 1) (n := n + 39) (by omega) (by omega)
  have e33 := dMulE (X := (((n + 39) % 40 : Nat) : Int)) (Y := 33) (x := m.1 51 2 + 40 - 1 - (m.1 51 2 + 40 - 1) / 40 * 40) (y := (33 : Int32)) f3 (by decide) (by omega) (by omega)
  refine v_X6_takeBack_51_47 ⟨fun ne => ?_, fun ee => h0 (List.length_eq_zero_iff.mp (by omega))⟩
  match P, n3, n4, n5, h1 with
  | [], n3, _, _, _ => exact absurd n3 ne
  | S :: P', n3, n4, n5, h1 =>
    rw [List.length_cons] at n3 n4
    have hS := n5 0 S rfl
    rw [show n + 39 - 0 = n + 39 by omega] at hS
    refine y_readFrom52 (i := (n + 39) % 40) (hS.of (fun p _ _ => by rw [dSet_k (by decide), dSet_k (by decide)])) (by omega) (by omega) (fun M hk h2 hZ => h1 S P' M rfl (fun a ha => by rw [hk a (by omega), dSet_k (by omega), dSet_k (by omega)]) (fun j q1 q2 => by rw [hk 51 (by omega), dSet_j q2, dSet_j q1]) h2 hZ ⟨(n + 39) % 40, by omega, ?_, ?_, by omega, fun k T hT => ?_⟩)
    · rw [hk 51 (by omega), dSet_j (by decide), dSet_s]; exact f3
    · have f4 := dSubE (X := ((P'.length + 1 : Nat) : Int)) (Y := 1) (x := m.1 51 3) (y := (1 : Int32)) n3 (by decide) (by omega) (by omega)
      rw [hk 51 (by omega), dSet_s]; omega
    · have hl2 : k < P'.length := (List.getElem?_eq_some_iff.mp hT).1
      have := n5 (k + 1) T hT
      rw [show ((n + 39) % 40 + 39 - k) % 40 = (n + 39 - (k + 1)) % 40 by omega]
      exact this.of (fun p _ _ => by rw [hk 52 (by omega), dSet_k (by decide), dSet_k (by decide)])
end
section
/-! THE CLASS: the calls that change how it stands -/
def setA (S : Zt) (x : Int32) : Zt := ((szH S, szC S, szQ S, szG S, szP S, x), szR S, szE S, szD S)
def setP (S : Zt) (x : Int32) : Zt := ((szH S, szC S, szQ S, szG S, x, szA S), szR S, szE S, szD S)
def setG (S : Zt) (x : Int32) : Zt := ((szH S, szC S, szQ S, x, szP S, szA S), szR S, szE S, szD S)
def setE (S : Zt) (a : Nat → Int32) : Zt := ((szH S, szC S, szQ S, szG S, szP S, szA S), szR S, a, szD S)
def setR (S : Zt) (a : Nat → Int32) : Zt := ((szH S, szC S, szQ S, szG S, szP S, szA S), a, szE S, szD S)
/-- what each call answers, how it stands then, what is kept -/
abbrev An : Type := Int32 × Zt × List Zt
def aAgr (H : Ho) (S : Zt) (P : List Zt) (x1 x2 : Int32) : An := if (0 ≤ x1.toInt ∧ x1.toInt < (hoU H : Int)) ∧ (bi (bt (szA S) x1.toNatClampNeg)).toInt ≠ x2.toInt then (1, setA S (szA S ^^^ b1 x1.toNatClampNeg), pKeep S P) else (0, S, P)
def aPin (H : Ho) (S : Zt) (P : List Zt) (x1 x2 : Int32) : An := if (0 ≤ x1.toInt ∧ x1.toInt < (hoW H : Int)) ∧ bt (szG S) x1.toNatClampNeg = false ∧ (bi (bt (szP S) x1.toNatClampNeg)).toInt ≠ x2.toInt then (1, setP S (szP S ^^^ b1 x1.toNatClampNeg), pKeep S P) else (0, S, P)
def mnd (S : Zt) (c : Int32) (w : Nat) : Zt := setE (setP (setG (setC S (szC S - c)) (szG S &&& (b1 w ^^^ (-1 : Int32)))) (szP S &&& (b1 w ^^^ (-1 : Int32)))) (upd (szE S) w 0)
def aMnd (H : Ho) (S : Zt) (P : List Zt) (x1 : Int32) : An := if 0 ≤ x1.toInt ∧ x1.toInt < (hoW H : Int) then (if bt (szG S) x1.toNatClampNeg = true ∧ (cst H S x1.toNatClampNeg).toInt ≤ (szC S).toInt then (szC S - cst H S x1.toNatClampNeg, mnd S (cst H S x1.toNatClampNeg) x1.toNatClampNeg, pKeep S P) else (-2, S, P)) else (-1, S, P)
def thk (S : Zt) (c : Int32) (w : Nat) : Zt := setR (setC S (szC S - c)) (upd (szR S) w (szR S w + 1))
def aThk (H : Ho) (S : Zt) (P : List Zt) (x1 : Int32) : An := if 0 ≤ x1.toInt ∧ x1.toInt < (hoW H : Int) then (if bt (szG S) x1.toNatClampNeg = false ∧ (szR S x1.toNatClampNeg).toInt < 99 ∧ (cst H S x1.toNatClampNeg).toInt ≤ (szC S).toInt then (szC S - cst H S x1.toNatClampNeg, thk S (cst H S x1.toNatClampNeg) x1.toNatClampNeg, pKeep S P) else (-2, S, P)) else (-1, S, P)
def itr (H : Ho) : Nat → Zt → Zt
  | 0, S => S
  | n + 1, S => itr H n (hst H S)
def aHrs (H : Ho) (S : Zt) (P : List Zt) (x1 : Int32) : An := if 0 ≤ x1.toInt ∧ x1.toInt ≤ 72 then (if x1.toInt = 0 then (szH S, S, P) else (szH (itr H x1.toNatClampNeg S), itr H x1.toNatClampNeg S, pKeep S P)) else (-1, S, P)
def aUnd (S : Zt) (P : List Zt) : An := match P with
  | [] => (0, S, [])
  | T :: P' => (1, T, P')
def CSl (m : dM) (L : Nat → Zt) : Prop := (∀ i : Nat, 3 ≤ i → bt (m.1 51 4) i = false) ∧ ∀ i : Nat, i < 3 → bt (m.1 51 4) i = true → CPz 53 m i (L i)
def KC (H : Ho) (S : Zt) (P : List Zt) (L : Nat → Zt) (m : dM) : Prop := CW H m ∧ CZ 47 m S ∧ CP m P ∧ CSl m L
def CcF (m0 m : dM) : Prop := (∀ k : Nat, 67 ≤ k → m.1 k = m0.1 k) ∧ m.2 = m0.2
theorem CcF.rf (m : dM) : CcF m m := ⟨fun _ _ => rfl, rfl⟩
theorem CcF.tr {a b c : dM} (h : CcF a b) (h' : CcF b c) : CcF a c := ⟨fun k q => (h'.1 k q).trans (h.1 k q), h'.2.trans h.2⟩
theorem ScF.cc {a b : dM} (h : ScF a b) : CcF a b := ⟨fun k q => h.1 k (by omega) (by omega) (by omega), h.2.2⟩
theorem TyF.cc {n : Nat} {a b : dM} (h : TyF n a b) (hn : n = 47 ∨ n = 62) : CcF a b := ⟨fun k q => h.1 k (by omega) (by omega) (by omega) (by omega), h.2.2⟩
theorem CcF.set {a b : dM} {k j : Nat} {v : Int32} (h : CcF a b) (hk : k < 67) : CcF a (dSet b k j v) := ⟨fun i q => by rw [dSet_k (by omega)]; exact h.1 i q, h.2⟩
section CCL
variable {H : Ho} {S : Zt} {P : List Zt} {L : Nat → Zt} {m : dM}
theorem CP.of {m' : dM} (h : CP m P) (e2 : m'.1 51 2 = m.1 51 2) (e3 : m'.1 51 3 = m.1 51 3) (e52 : m'.1 52 = m.1 52) : CP m' P := by
  obtain ⟨n, n1, n2, n3, n4, n5⟩ := h
  exact ⟨n, n1, by rw [e2]; exact n2, by rw [e3]; exact n3, n4, fun k T hT => (n5 k T hT).of (fun p _ _ => by rw [e52])⟩
theorem CSl.of {m' : dM} (h : CSl m L) (e4 : m'.1 51 4 = m.1 51 4) (e53 : m'.1 53 = m.1 53) : CSl m' L := ⟨fun i hi => by rw [e4]; exact h.1 i hi, fun i hi hb => by
  rw [e4] at hb
  exact (h.2 i hi hb).of (fun p _ _ => by rw [e53])⟩
theorem KC.sc {m' : dM} (h : KC H S P L m) (hF : ScF m m') (hW : CW H m') : KC H S P L m' := ⟨hW, h.2.1.sf hF (Or.inl rfl), h.2.2.1.of (by rw [hF.1 51 (by decide) (by decide) (by decide)]) (by rw [hF.1 51 (by decide) (by decide) (by decide)]) (hF.1 52 (by decide) (by decide) (by decide)), h.2.2.2.of (by rw [hF.1 51 (by decide) (by decide) (by decide)]) (hF.1 53 (by decide) (by decide) (by decide))⟩
theorem KC.va {m' : dM} (h : KC H S P L m) (hF : VaF m m') : KC H S P L m' := h.sc hF.sf (h.1.vf hF)
/-- behind what is kept -/
theorem KC.kp {M : dM} (h : KC H S P L m) (hk : ∀ a : Nat, a ≠ 51 → a ≠ 52 → M.1 a = m.1 a) (hj : ∀ j : Nat, j ≠ 2 → j ≠ 3 → M.1 51 j = m.1 51 j) (hP : CP M (pKeep S P)) : KC H S (pKeep S P) L M := ⟨⟨h.1.1, h.1.2.1.of (fun k a b _ => hk k (by omega) (by omega)), h.1.2.2.of (fun k a b => hk k (by omega) (by omega))⟩, h.2.1.of (fun k a b => hk k (by omega) (by omega)), hP, h.2.2.2.of (hj 4 (by decide) (by decide)) (hk 53 (by decide) (by decide))⟩
/-- how it stands has changed -/
theorem KC.st {M : dM} {T : Zt} (h : KC H S P L m) (e : ∀ k : Nat, (k < 47 ∨ 50 < k) → M.1 k = m.1 k) (hZ : CZ 47 M T) : KC H T P L M := ⟨⟨h.1.1, h.1.2.1.of (fun k a b _ => e k (by omega)), h.1.2.2.of (fun k a b => e k (by omega))⟩, hZ, h.2.2.1.of (by rw [e 51 (by omega)]) (by rw [e 51 (by omega)]) (e 52 (by omega)), h.2.2.2.of (by rw [e 51 (by omega)]) (e 53 (by omega))⟩
theorem CZ.a {n : Nat} {v : Int32} (h : CZ n m S) : CZ n (dSet m n 5 v) (setA S v) := by
  obtain ⟨⟨a0, a1, a2, a3, a4, a5⟩, b, c, d⟩ := h
  unfold CZ
  rw [dSet_k (show n + 1 ≠ n by omega), dSet_k (show n + 2 ≠ n by omega), dSet_k (show n + 3 ≠ n by omega), dSet_s, dSet_j (by decide), dSet_j (by decide), dSet_j (by decide), dSet_j (by decide), dSet_j (by decide)]
  exact ⟨⟨a0, a1, a2, a3, a4, rfl⟩, b, c, d⟩
theorem CZ.p {n : Nat} {v : Int32} (h : CZ n m S) : CZ n (dSet m n 4 v) (setP S v) := by
  obtain ⟨⟨a0, a1, a2, a3, a4, a5⟩, b, c, d⟩ := h
  unfold CZ
  rw [dSet_k (show n + 1 ≠ n by omega), dSet_k (show n + 2 ≠ n by omega), dSet_k (show n + 3 ≠ n by omega), dSet_s, dSet_j (by decide), dSet_j (by decide), dSet_j (by decide), dSet_j (by decide), dSet_j (by decide)]
  exact ⟨⟨a0, a1, a2, a3, rfl, a5⟩, b, c, d⟩
theorem CZ.g {n : Nat} {v : Int32} (h : CZ n m S) : CZ n (dSet m n 3 v) (setG S v) := by
  obtain ⟨⟨a0, a1, a2, a3, a4, a5⟩, b, c, d⟩ := h
  unfold CZ
  rw [dSet_k (show n + 1 ≠ n by omega), dSet_k (show n + 2 ≠ n by omega), dSet_k (show n + 3 ≠ n by omega), dSet_s, dSet_j (by decide), dSet_j (by decide), dSet_j (by decide), dSet_j (by decide), dSet_j (by decide)]
  exact ⟨⟨a0, a1, a2, rfl, a4, a5⟩, b, c, d⟩
theorem CZ.e {n w : Nat} {v : Int32} (h : CZ n m S) : CZ n (dSet m (n + 2) w v) (setE S (upd (szE S) w v)) := by
  obtain ⟨a, b, c, d⟩ := h
  unfold CZ
  rw [dSet_k (show n ≠ n + 2 by omega), dSet_k (show n + 1 ≠ n + 2 by omega), dSet_k (show n + 3 ≠ n + 2 by omega)]
  refine ⟨a, b, fun j hj => ?_, d⟩
  show _ = upd (szE S) w v j
  rw [dSet_f, upd_j, upd_j, c j hj]
theorem CZ.r {n w : Nat} {v : Int32} (h : CZ n m S) : CZ n (dSet m (n + 1) w v) (setR S (upd (szR S) w v)) := by
  obtain ⟨a, b, c, d⟩ := h
  unfold CZ
  rw [dSet_k (show n ≠ n + 1 by omega), dSet_k (show n + 2 ≠ n + 1 by omega), dSet_k (show n + 3 ≠ n + 1 by omega)]
  refine ⟨a, fun j hj => ?_, c, d⟩
  show _ = upd (szR S) w v j
  rw [dSet_f, upd_j, upd_j, b j hj]
theorem y_isWirec {x : Int32} {Q : Int32 → dM → Prop} (hW : CW H m) (hT : 0 ≤ x.toInt ∧ x.toInt < (hoW H : Int) → Q 1 m) (hF : ¬ (0 ≤ x.toInt ∧ x.toInt < (hoW H : Int)) → Q 0 m) : c_X11_isWire_0 1 x m Q := by
  have e := hW.2.1.1.2.1.1
  exact v_X11_isWire_0 ⟨fun q => v_X11_isWire_0_19 (hF (by omega)), fun q => ⟨fun q2 => v_X11_isWire_0_19 (hF (by omega)), fun q2 => hT (by omega)⟩⟩
theorem y_isUsec {x : Int32} {Q : Int32 → dM → Prop} (hW : CW H m) (hT : 0 ≤ x.toInt ∧ x.toInt < (hoU H : Int) → Q 1 m) (hF : ¬ (0 ≤ x.toInt ∧ x.toInt < (hoU H : Int)) → Q 0 m) : c_X11_isUse_0 1 x m Q := by
  have e := hW.2.1.2.1
  exact v_X11_isUse_0 ⟨fun q => v_X11_isUse_0_19 (hF (by omega)), fun q => ⟨fun q2 => v_X11_isUse_0_19 (hF (by omega)), fun q2 => hT (by omega)⟩⟩
theorem y_isFlatc {x : Int32} {Q : Int32 → dM → Prop} (hW : CW H m) (hT : 0 ≤ x.toInt ∧ x.toInt < (hoF H : Int) → Q 1 m) (hF : ¬ (0 ≤ x.toInt ∧ x.toInt < (hoF H : Int)) → Q 0 m) : c_X11_isFlat_0 1 x m Q := by
  have e := hW.2.1.1.1.1
  exact v_X11_isFlat_0 ⟨fun q => v_X11_isFlat_0_19 (hF (by omega)), fun q => ⟨fun q2 => v_X11_isFlat_0_19 (hF (by omega)), fun q2 => hT (by omega)⟩⟩
theorem toNat_of {x : Int32} (h : 0 ≤ x.toInt) : x.toInt = ((x.toNatClampNeg : Nat) : Int) := (d_cl h).symm
theorem p_agree {x1 x2 : Int32} {Q : Int32 → dM → Prop} (hK : KC H S P L m) (hQ : ∀ m' : dM, CcF m m' → KC H (aAgr H S P x1 x2).2.1 (aAgr H S P x1 x2).2.2 L m' → Q (aAgr H S P x1 x2).1 m') : c_X11_agree_0 3 x1 x2 m Q := by
  have o3 := hK.1.1.2.2.1
  have no : ¬ ((0 ≤ x1.toInt ∧ x1.toInt < (hoU H : Int)) ∧ (bi (bt (szA S) x1.toNatClampNeg)).toInt ≠ x2.toInt) → j_X11_agree_0_23 3 m Q := fun q => by
    have e : aAgr H S P x1 x2 = (0, S, P) := if_neg q
    rw [e] at hQ
    exact v_X11_agree_0_23 (hQ m (CcF.rf m) hK)
  refine v_X11_agree_0 (Wp.deep (y_isUsec hK.1 (fun hu => ⟨fun z => absurd z (by decide), fun _ => ?_⟩) (fun hu => ⟨fun _ => no (fun q => hu q.1), fun z => absurd rfl z⟩)) (Nat.le_of_ble_eq_true rfl))
  have hx := toNat_of hu.1
  generalize hn : x1.toNatClampNeg = u at *
  rw [hK.2.1.1.2.2.2.2.2]
  have go : (bi (bt (szA S) u)).toInt ≠ x2.toInt → c_X6_keep_51_47 2 m (fun m3 => Q (1 : Int32) (dSet m3 47 5 ((m3.1 47 5) ^^^ ((1 : Int32) <<< (x1 &&& 31))))) := fun ne => by
    have e : aAgr H S P x1 x2 = (1, setA S (szA S ^^^ b1 u), pKeep S P) := by
      unfold aAgr
      rw [hn]
      exact if_pos ⟨hu, ne⟩
    rw [e] at hQ
    refine y_keep hK.2.1 hK.2.2.1 (fun M a b c d => ?_)
    have hK1 := hK.kp a b d
    rw [b1_of hx, hK1.2.1.1.2.2.2.2.2]
    exact hQ _ (CcF.set ⟨fun k q => a k (by omega) (by omega), c⟩ (by decide)) (hK1.st (fun k q => dSet_k (by omega)) hK1.2.1.a)
  refine Wp.deep (y_has (x0 := szA S) hx (by omega) (fun g => ⟨fun ne => Wp.deep (go ?_) (Nat.le_of_ble_eq_true rfl), fun ee => no ?_⟩) (fun g => ⟨fun ne => Wp.deep (go ?_) (Nat.le_of_ble_eq_true rfl), fun ee => no ?_⟩)) (Nat.le_of_ble_eq_true rfl)
  · rw [g]; exact ne
  · rw [g]; exact fun q => q.2 ee
  · rw [g]; exact ne
  · rw [g]; exact fun q => q.2 ee
theorem p_pin {x1 x2 : Int32} {Q : Int32 → dM → Prop} (hK : KC H S P L m) (hQ : ∀ m' : dM, CcF m m' → KC H (aPin H S P x1 x2).2.1 (aPin H S P x1 x2).2.2 L m' → Q (aPin H S P x1 x2).1 m') : c_X11_pin_0 3 x1 x2 m Q := by
  have o2 := hK.1.1.2.1
  have no : ¬ ((0 ≤ x1.toInt ∧ x1.toInt < (hoW H : Int)) ∧ bt (szG S) x1.toNatClampNeg = false ∧ (bi (bt (szP S) x1.toNatClampNeg)).toInt ≠ x2.toInt) → j_X11_pin_0_37 3 m Q := fun q => by
    have e : aPin H S P x1 x2 = (0, S, P) := if_neg q
    rw [e] at hQ
    exact v_X11_pin_0_37 (hQ m (CcF.rf m) hK)
  refine v_X11_pin_0 (Wp.deep (y_isWirec hK.1 (fun hu => ⟨fun z => absurd z (by decide), fun _ => ?_⟩) (fun hu => ⟨fun _ => no (fun q => hu q.1), fun z => absurd rfl z⟩)) (Nat.le_of_ble_eq_true rfl))
  have hx := toNat_of hu.1
  generalize hn : x1.toNatClampNeg = u at *
  rw [hK.2.1.1.2.2.2.1]
  refine Wp.deep (y_has (x0 := szG S) hx (by omega) (fun gg => ⟨fun _ => no (fun q => by rw [gg] at q; cases q.2.1), fun z => absurd z (by decide)⟩) (fun gg => ⟨fun z => absurd rfl z, fun _ => ?_⟩)) (Nat.le_of_ble_eq_true rfl)
  rw [hK.2.1.1.2.2.2.2.1]
  have go : (bi (bt (szP S) u)).toInt ≠ x2.toInt → c_X6_keep_51_47 2 m (fun m3 => Q (1 : Int32) (dSet m3 47 4 ((m3.1 47 4) ^^^ ((1 : Int32) <<< (x1 &&& 31))))) := fun ne => by
    have e : aPin H S P x1 x2 = (1, setP S (szP S ^^^ b1 u), pKeep S P) := by
      unfold aPin
      rw [hn]
      exact if_pos ⟨hu, gg, ne⟩
    rw [e] at hQ
    refine y_keep hK.2.1 hK.2.2.1 (fun M a b c d => ?_)
    have hK1 := hK.kp a b d
    rw [b1_of hx, hK1.2.1.1.2.2.2.2.1]
    exact hQ _ (CcF.set ⟨fun k q => a k (by omega) (by omega), c⟩ (by decide)) (hK1.st (fun k q => dSet_k (by omega)) hK1.2.1.p)
  refine Wp.deep (y_has (x0 := szP S) hx (by omega) (fun g => ⟨fun ne => Wp.deep (go ?_) (Nat.le_of_ble_eq_true rfl), fun ee => no ?_⟩) (fun g => ⟨fun ne => Wp.deep (go ?_) (Nat.le_of_ble_eq_true rfl), fun ee => no ?_⟩)) (Nat.le_of_ble_eq_true rfl)
  · rw [g]; exact ne
  · rw [g]; exact fun q => q.2.2 ee
  · rw [g]; exact ne
  · rw [g]; exact fun q => q.2.2 ee
theorem p_mend {x1 : Int32} {Q : Int32 → dM → Prop} (hK : KC H S P L m) (hQ : ∀ m' : dM, CcF m m' → KC H (aMnd H S P x1).2.1 (aMnd H S P x1).2.2 L m' → Q (aMnd H S P x1).1 m') : c_X11_mend_0 5 x1 m Q := by
  have o2 := hK.1.1.2.1
  refine v_X11_mend_0 (Wp.deep (y_isWirec hK.1 (fun hu => ⟨fun _ => ?_, fun z => absurd z (by decide)⟩) (fun hu => ⟨fun z => absurd rfl z, fun _ => ?_⟩)) (Nat.le_of_ble_eq_true rfl))
  · have hx := toNat_of hu.1
    unfold aMnd at hQ
    rw [if_pos hu] at hQ
    generalize hn : x1.toNatClampNeg = w at *
    have hw : w < hoW H := by omega
    refine y_cost47 hK.1 hK.2.1 hx hw (fun M1 f1 => ?_)
    have hK1 := hK.va f1
    have no : ¬ (bt (szG S) w = true ∧ (cst H S w).toInt ≤ (szC S).toInt) → j_X11_mend_0_48 5 M1 Q := fun q => by
      rw [if_neg q] at hQ
      exact v_X11_mend_0_48 (hQ M1 f1.sf.cc hK1)
    rw [hK1.2.1.1.2.2.2.1]
    refine Wp.deep (y_has (x0 := szG S) hx (by omega) (fun g => ⟨fun z => absurd z (by decide), fun _ => ?_⟩) (fun g => ⟨fun _ => no (fun q => by rw [g] at q; cases q.1), fun z => absurd rfl z⟩)) (Nat.le_of_ble_eq_true rfl)
    rw [hK1.2.1.1.2.1]
    refine ⟨fun le => ?_, fun gt => no (fun q => by omega)⟩
    rw [if_pos ⟨g, le⟩] at hQ
    refine Wp.deep (y_keep hK1.2.1 hK1.2.2.1 (fun M a b c d => ?_)) (Nat.le_of_ble_eq_true rfl)
    have hK2 := hK1.kp a b d
    rw [b1_of hx, hK2.2.1.1.2.1, hK2.2.1.1.2.2.2.1, hK2.2.1.1.2.2.2.2.1]
    refine ⟨by omega, hQ _ (((((f1.sf.cc.tr ⟨fun k q => a k (by omega) (by omega), c⟩).set (by decide)).set (by decide)).set (by decide)).set (by decide)) (hK2.st (fun k q => by rw [dSet_k (by omega), dSet_k (by omega), dSet_k (by omega), dSet_k (by omega)]) ?_)⟩
    exact hK2.2.1.c.g.p.e
  · unfold aMnd at hQ
    rw [if_neg hu] at hQ
    exact hQ m (CcF.rf m) hK
theorem p_thicken {x1 : Int32} {Q : Int32 → dM → Prop} (hK : KC H S P L m) (hQ : ∀ m' : dM, CcF m m' → KC H (aThk H S P x1).2.1 (aThk H S P x1).2.2 L m' → Q (aThk H S P x1).1 m') : c_X11_thicken_0 5 x1 m Q := by
  have o2 := hK.1.1.2.1
  refine v_X11_thicken_0 (Wp.deep (y_isWirec hK.1 (fun hu => ⟨fun _ => ?_, fun z => absurd z (by decide)⟩) (fun hu => ⟨fun z => absurd rfl z, fun _ => ?_⟩)) (Nat.le_of_ble_eq_true rfl))
  · have hx := toNat_of hu.1
    unfold aThk at hQ
    rw [if_pos hu] at hQ
    generalize hn : x1.toNatClampNeg = w at *
    have hw : w < hoW H := by omega
    refine y_cost47 hK.1 hK.2.1 hx hw (fun M1 f1 => ?_)
    have hK1 := hK.va f1
    have no : ¬ (bt (szG S) w = false ∧ (szR S w).toInt < 99 ∧ (cst H S w).toInt ≤ (szC S).toInt) → j_X11_thicken_0_62 5 M1 Q := fun q => by
      rw [if_neg q] at hQ
      exact v_X11_thicken_0_62 (hQ M1 f1.sf.cc hK1)
    rw [hK1.2.1.1.2.2.2.1]
    refine Wp.deep (y_has (x0 := szG S) hx (by omega) (fun g => ⟨fun _ => no (fun q => by rw [g] at q; cases q.1), fun z => absurd z (by decide)⟩) (fun g => ⟨fun z => absurd rfl z, fun _ => ?_⟩)) (Nat.le_of_ble_eq_true rfl)
    rw [hK1.2.1.1.2.1, hK1.2.1.2.1 w (by omega)]
    refine ⟨by omega, fun ge => no (fun q => by omega), fun l99 => ⟨fun le => ?_, fun gt => no (fun q => by omega)⟩⟩
    rw [if_pos ⟨g, l99, le⟩] at hQ
    refine Wp.deep (y_keep hK1.2.1 hK1.2.2.1 (fun M a b c d => ?_)) (Nat.le_of_ble_eq_true rfl)
    have hK2 := hK1.kp a b d
    rw [hK2.2.1.1.2.1, hK2.2.1.2.1 w (by omega)]
    refine ⟨by omega, by omega, hQ _ (((f1.sf.cc.tr ⟨fun k q => a k (by omega) (by omega), c⟩).set (by decide)).set (by decide)) (hK2.st (fun k q => by rw [dSet_k (by omega), dSet_k (by omega)]) ?_)⟩
    exact hK2.2.1.c.r
  · unfold aThk at hQ
    rw [if_neg hu] at hQ
    exact hQ m (CcF.rf m) hK
end CCL
end
section
/-! what every hour and every call keeps of how it stands -/
section ZKP
variable {H : Ho} {S : Zt}
theorem gng_lt (hH : hOk H) {on h more : Int32} {i : Nat} (hb' : bt (gng H S on h more) i = true) : i < hoW H := by
  unfold gng at hb'
  have := hH.2.1
  rw [bt_bs _ (by omega), Bool.and_eq_true, decide_eq_true_eq] at hb'
  exact hb'.1
theorem age_b {x : Int32} (h : 0 ≤ x.toInt ∧ x.toInt ≤ 999) : 0 ≤ (if (x + 1) < (999 : Int32) then (x + 1) else 999 : Int32).toInt ∧ (if (x + 1) < (999 : Int32) then (x + 1) else 999 : Int32).toInt ≤ 999 := by
  rw [← cl_age h]
  have := cl_b (T := 999) (x := x + 1) (by decide)
  rw [ti_999] at this
  exact this
theorem zOk.w (hH : hOk H) (h : zOk H S) (more : Int32) : zOk H (wsz H S more) := by
  obtain ⟨a, b, c, d, e, f, g⟩ := h
  refine ⟨a, b, fun i hi => ?_, d, e, f, fun w hw => ?_⟩
  · have hi : bt (szG S ||| gng H S (onA H S (hod (szH S))) (hod (szH S)) more) i = true := hi
    rw [bt_or, Bool.or_eq_true] at hi
    rcases hi with q | q
    · exact c i q
    · exact gng_lt hH q
  · show 0 ≤ (if w < hoW H ∧ bt (szG S ||| gng H S (onA H S (hod (szH S))) (hod (szH S)) more) w = false then (if (szE S w + 1) < (999 : Int32) then (szE S w + 1) else 999) else szE S w).toInt ∧ (if w < hoW H ∧ bt (szG S ||| gng H S (onA H S (hod (szH S))) (hod (szH S)) more) w = false then (if (szE S w + 1) < (999 : Int32) then (szE S w + 1) else 999) else szE S w).toInt ≤ 999
    by_cases q : w < hoW H ∧ bt (szG S ||| gng H S (onA H S (hod (szH S))) (hod (szH S)) more) w = false
    · rw [if_pos q]; exact age_b (g w hw)
    · rw [if_neg q]; exact g w hw
theorem zOk.p (h : zOk H S) : zOk H (pst H S) := by
  obtain ⟨a, b, c⟩ := h
  have p := cl_b (T := 99999) (x := szC S + pyS H S (onA H S (hod (szH S))) (hoU H)) (by decide)
  have q := cl_b (T := 999999) (x := szQ S + quS H S (hoF H)) (by decide)
  rw [ti_99999] at p
  rw [ti_999999] at q
  exact ⟨p, q, c⟩
theorem zOk.h (hH : hOk H) (h : zOk H S) : zOk H (hst H S) := (h.p).w hH _
theorem zOk.i (hH : hOk H) : ∀ (n : Nat) (S : Zt), zOk H S → zOk H (itr H n S)
  | 0, S, h => h
  | n + 1, S, h => zOk.i hH n _ (h.h hH)
theorem zOk.agr (hH : hOk H) (h : zOk H S) {P : List Zt} {x1 x2 : Int32} : zOk H (aAgr H S P x1 x2).2.1 := by
  unfold aAgr
  have u8 := hH.2.2.1
  by_cases q : (0 ≤ x1.toInt ∧ x1.toInt < (hoU H : Int)) ∧ (bi (bt (szA S) x1.toNatClampNeg)).toInt ≠ x2.toInt
  · rw [if_pos q]
    have hx := toNat_of q.1.1
    obtain ⟨a, b, c, d, e, f⟩ := h
    refine ⟨a, b, c, d, fun i hi => ?_, f⟩
    have hi : bt (szA S ^^^ b1 x1.toNatClampNeg) i = true := hi
    rw [bt_xor, bt_1 (by omega)] at hi
    by_cases z : i = x1.toNatClampNeg
    · omega
    · rw [decide_eq_false z, Bool.xor_false] at hi
      exact e i hi
  · rw [if_neg q]; exact h
theorem zOk.pin (hH : hOk H) (h : zOk H S) {P : List Zt} {x1 x2 : Int32} : zOk H (aPin H S P x1 x2).2.1 := by
  unfold aPin
  have w10 := hH.2.1
  by_cases q : (0 ≤ x1.toInt ∧ x1.toInt < (hoW H : Int)) ∧ bt (szG S) x1.toNatClampNeg = false ∧ (bi (bt (szP S) x1.toNatClampNeg)).toInt ≠ x2.toInt
  · rw [if_pos q]
    have hx := toNat_of q.1.1
    obtain ⟨a, b, c, d, e⟩ := h
    refine ⟨a, b, c, fun i hi => ?_, e⟩
    have hi : bt (szP S ^^^ b1 x1.toNatClampNeg) i = true := hi
    rw [bt_xor, bt_1 (by omega)] at hi
    by_cases z : i = x1.toNatClampNeg
    · omega
    · rw [decide_eq_false z, Bool.xor_false] at hi
      exact d i hi
  · rw [if_neg q]; exact h
theorem coins_b (h : zOk H S) {w : Nat} (hc : (cst H S w).toInt ≤ (szC S).toInt) : 0 ≤ (szC S - cst H S w).toInt ∧ (szC S - cst H S w).toInt ≤ 99999 := by
  have a := h.1
  have b : 0 ≤ (cst H S w).toInt ∧ (cst H S w).toInt ≤ 99 := hl_b _
  have := dSubE (X := (szC S).toInt) (Y := (cst H S w).toInt) rfl rfl (by omega) (by omega)
  omega
theorem zOk.mnd (h : zOk H S) {P : List Zt} {x1 : Int32} : zOk H (aMnd H S P x1).2.1 := by
  unfold aMnd
  by_cases q : 0 ≤ x1.toInt ∧ x1.toInt < (hoW H : Int)
  · rw [if_pos q]
    by_cases q2 : bt (szG S) x1.toNatClampNeg = true ∧ (cst H S x1.toNatClampNeg).toInt ≤ (szC S).toInt
    · rw [if_pos q2]
      have cb := coins_b h q2.2
      obtain ⟨a, b, c, d, e, f, g⟩ := h
      refine ⟨cb, b, fun i hi => ?_, fun i hi => ?_, e, f, fun w hw => ?_⟩
      · have hi : bt (szG S &&& (b1 x1.toNatClampNeg ^^^ (-1 : Int32))) i = true := hi
        rw [bt_and, Bool.and_eq_true] at hi
        exact c i hi.1
      · have hi : bt (szP S &&& (b1 x1.toNatClampNeg ^^^ (-1 : Int32))) i = true := hi
        rw [bt_and, Bool.and_eq_true] at hi
        exact d i hi.1
      · show 0 ≤ (upd (szE S) x1.toNatClampNeg 0 w).toInt ∧ (upd (szE S) x1.toNatClampNeg 0 w).toInt ≤ 999
        rw [upd_j]
        split
        · decide
        · exact g w hw
    · rw [if_neg q2]; exact h
  · rw [if_neg q]; exact h
theorem zOk.thk (h : zOk H S) {P : List Zt} {x1 : Int32} : zOk H (aThk H S P x1).2.1 := by
  unfold aThk
  by_cases q : 0 ≤ x1.toInt ∧ x1.toInt < (hoW H : Int)
  · rw [if_pos q]
    by_cases q2 : bt (szG S) x1.toNatClampNeg = false ∧ (szR S x1.toNatClampNeg).toInt < 99 ∧ (cst H S x1.toNatClampNeg).toInt ≤ (szC S).toInt
    · rw [if_pos q2]
      have cb := coins_b h q2.2.2
      obtain ⟨a, b, c, d, e, f, g⟩ := h
      refine ⟨cb, b, c, d, e, fun w hw => ?_, g⟩
      show 0 ≤ (upd (szR S) x1.toNatClampNeg (szR S x1.toNatClampNeg + 1) w).toInt ∧ (upd (szR S) x1.toNatClampNeg (szR S x1.toNatClampNeg + 1) w).toInt ≤ 99
      rw [upd_j]
      by_cases q3 : w = x1.toNatClampNeg
      · have fw := f w hw
        rw [q3] at fw
        rw [if_pos q3]
        have := dAddE (X := (szR S x1.toNatClampNeg).toInt) (Y := 1) (x := szR S x1.toNatClampNeg) (y := (1 : Int32)) rfl (by decide) (by omega) (by omega)
        omega
      · rw [if_neg q3]; exact f w hw
    · rw [if_neg q2]; exact h
  · rw [if_neg q]; exact h
theorem zOk.hrs (hH : hOk H) (h : zOk H S) {P : List Zt} {x1 : Int32} : zOk H (aHrs H S P x1).2.1 := by
  unfold aHrs
  split
  · split
    · exact h
    · exact zOk.i hH _ _ h
  · exact h
end ZKP
section CCM
variable {H : Ho} {S : Zt} {P : List Zt} {L : Nat → Zt} {m : dM}
theorem KC.ty {m' : dM} {T : Zt} (h : KC H S P L m) (hF : TyF 47 m m') (hW : CW H m') (hZ : CZ 47 m' T) : KC H T P L m' := ⟨hW, hZ, h.2.2.1.of (by rw [hF.1 51 (by decide) (by decide) (by decide) (by decide)]) (by rw [hF.1 51 (by decide) (by decide) (by decide) (by decide)]) (hF.1 52 (by decide) (by decide) (by decide) (by decide)), h.2.2.2.of (by rw [hF.1 51 (by decide) (by decide) (by decide) (by decide)]) (hF.1 53 (by decide) (by decide) (by decide) (by decide))⟩
theorem p_hours {x1 : Int32} {Q : Int32 → dM → Prop} (hK : KC H S P L m) (hO : zOk H S) (hQ : ∀ m' : dM, CcF m m' → KC H (aHrs H S P x1).2.1 (aHrs H S P x1).2.2 L m' → Q (aHrs H S P x1).1 m') : c_X11_hours_0 7 x1 m Q := by
  unfold aHrs at hQ
  have no : ¬ (0 ≤ x1.toInt ∧ x1.toInt ≤ 72) → j_X11_hours_0_10 7 m Q := fun q => by
    rw [if_neg q] at hQ
    exact v_X11_hours_0_10 (hQ m (CcF.rf m) hK)
  have loop : ∀ (P' : List Zt) (U : Zt) (t : Nat) (x2 : Int32) (T : Zt) (M : dM), x2.toInt + (t : Int) = x1.toInt → 0 ≤ x2.toInt → x1.toInt ≤ 72 → CcF m M → KC H T P' L M → zOk H T → itr H t T = U → (∀ m' : dM, CcF m m' → KC H U P' L m' → Q (szH U) m') → j_X11_hours_0_29 7 x1 x2 M Q := by
    intro P' U t
    induction t with
    | zero =>
      intro x2 T M hx h0 h72 hF hKM hT hU hQ'
      refine v_X11_hours_0_29 ⟨fun _ => ?_, fun q => by exfalso; omega⟩
      have hU : T = U := hU
      subst hU
      rw [hKM.2.1.1.1]
      exact hQ' M hF hKM
    | succ t ih =>
      intro x2 T M hx h0 h72 hF hKM hT hU hQ'
      have f := dAddE (X := x2.toInt) (Y := 1) (x := x2) (y := (1 : Int32)) rfl (by decide) (by omega) (by omega)
      exact v_X11_hours_0_29 ⟨fun q => by exfalso; omega, fun _ => y_passHour47 hKM.1 hKM.2.1 hT (fun M1 f1 w1 z1 => ih _ (hst H T) M1 (by omega) (by omega) h72 (hF.tr (f1.cc (Or.inl rfl))) (hKM.ty f1 w1 z1) (hT.h hK.1.1) hU hQ')⟩
  refine v_X11_hours_0 ⟨fun q => no (by omega), fun q => ⟨fun q2 => ?_, fun q2 => no (by omega)⟩⟩
  rw [if_pos ⟨q, q2⟩] at hQ
  have hx := toNat_of q
  have e0 : (0 : Int32).toInt = 0 := by decide
  refine ⟨fun q3 => v_X11_hours_0_27 ?_, fun q3 => Wp.deep (y_keep hK.2.1 hK.2.2.1 (fun M a b c d => v_X11_hours_0_27 ?_)) (Nat.le_of_ble_eq_true rfl)⟩
  · rw [if_pos (by omega)] at hQ
    exact loop P S 0 _ S m (by omega) (by omega) q2 (CcF.rf m) hK hO rfl hQ
  · rw [if_neg (by omega)] at hQ
    exact loop (pKeep S P) _ x1.toNatClampNeg _ S M (by omega) (by omega) q2 ⟨fun k q => a k (by omega) (by omega), c⟩ (hK.kp a b d) hO rfl hQ
theorem p_undo {Q : Int32 → dM → Prop} (hK : KC H S P L m) (hQ : ∀ m' : dM, CcF m m' → KC H (aUnd S P).2.1 (aUnd S P).2.2 L m' → Q (aUnd S P).1 m') : c_X11_undo_0 3 m Q := by
  refine v_X11_undo_0 (y_takeBack hK.2.2.1 (fun e => ?_) (fun T P' M e a b c d f => ?_))
  · subst e
    exact ⟨Or.inl rfl, hQ m (CcF.rf m) hK⟩
  · subst e
    exact ⟨Or.inr rfl, hQ M ⟨fun k q => a k (by omega), c⟩ ⟨⟨hK.1.1, hK.1.2.1.of (fun k q1 q2 _ => a k (by omega)), hK.1.2.2.of (fun k q1 q2 => a k (by omega))⟩, d, f, hK.2.2.2.of (b 4 (by decide) (by decide)) (a 53 (by omega))⟩⟩
def lHold (L : Nat → Zt) (S : Zt) (x1 : Int32) : Nat → Zt := fun i => if 0 ≤ x1.toInt ∧ x1.toInt = (i : Int) then S else L i
theorem p_hold {x1 : Int32} {Q : Int32 → dM → Prop} (hK : KC H S P L m) (hQ : ∀ (r : Int32) (m' : dM), CcF m m' → KC H S P (lHold L S x1) m' → Q r m') : c_X11_hold_0 3 x1 m Q := by
  have no : ¬ (0 ≤ x1.toInt ∧ x1.toInt < 3) → KC H S P (lHold L S x1) m := fun q => ⟨hK.1, hK.2.1, hK.2.2.1, hK.2.2.2.1, fun i hi hb => by
    unfold lHold
    rw [if_neg (by omega)]
    exact hK.2.2.2.2 i hi hb⟩
  refine v_X11_hold_0 (v_X6_store_51_47 ⟨fun q => v_X6_store_51_47_9 ⟨Or.inl rfl, hQ _ m (CcF.rf m) (no (by omega))⟩, fun q => ⟨fun q2 => ?_, fun q2 => v_X6_store_51_47_9 ⟨Or.inl rfl, hQ _ m (CcF.rf m) (no (by omega))⟩⟩⟩)
  have hx := toNat_of q
  have e33 := dMulE (X := x1.toInt) (Y := 33) (x := x1) (y := (33 : Int32)) rfl (by decide) (by omega) (by omega)
  refine y_writeTo53 (i := x1.toNatClampNeg) hK.2.1 (by omega) (by omega) (fun M a b c d => ⟨Or.inr rfl, hQ _ _ (CcF.set ⟨fun k q => a k (by omega), b⟩ (by decide)) ?_⟩)
  rw [b1_of hx]
  refine ⟨⟨hK.1.1, hK.1.2.1.of (fun k q1 q2 _ => by rw [dSet_k (by omega)]; exact a k (by omega)), hK.1.2.2.of (fun k q1 q2 => by rw [dSet_k (by omega)]; exact a k (by omega))⟩, hK.2.1.of (fun k q1 q2 => by rw [dSet_k (by omega)]; exact a k (by omega)), hK.2.2.1.of (by rw [dSet_j (by decide), a 51 (by decide)]) (by rw [dSet_j (by decide), a 51 (by decide)]) (by rw [dSet_k (by decide)]; exact a 52 (by decide)), fun i hi => ?_, fun i hi hb => ?_⟩
  · rw [dSet_s, a 51 (by decide), bt_or, bt_1 (by omega), decide_eq_false (by omega), Bool.or_false]
    exact hK.2.2.2.1 i hi
  rw [dSet_s, a 51 (by decide), bt_or, bt_1 (by omega)] at hb
  unfold lHold
  by_cases e : i = x1.toNatClampNeg
  · subst e
    rw [if_pos ⟨q, hx⟩]
    exact d.of (fun p _ _ => by rw [dSet_k (by decide)])
  · rw [if_neg (by omega)]
    rw [decide_eq_false e, Bool.or_false] at hb
    exact (hK.2.2.2.2 i hi hb).of (fun p h1 h2 => by rw [dSet_k (by decide)]; exact c p (by omega))
def aRes (S : Zt) (P : List Zt) (L : Nat → Zt) (x1 : Int32) (held : Bool) : Zt × List Zt := if (0 ≤ x1.toInt ∧ x1.toInt < 3) ∧ held = true then (L x1.toNatClampNeg, []) else (S, P)
theorem p_restore {x1 : Int32} {Q : Int32 → dM → Prop} (hK : KC H S P L m) (hQ : ∀ (r : Int32) (m' : dM), CcF m m' → KC H (aRes S P L x1 (bt (m.1 51 4) x1.toNatClampNeg)).1 (aRes S P L x1 (bt (m.1 51 4) x1.toNatClampNeg)).2 L m' → Q r m') : c_X11_restore_0 3 x1 m Q := by
  unfold aRes at hQ
  have no : ¬ ((0 ≤ x1.toInt ∧ x1.toInt < 3) ∧ bt (m.1 51 4) x1.toNatClampNeg = true) → ∀ r : Int32, Q r m := fun q r => by
    rw [if_neg q] at hQ
    exact hQ r m (CcF.rf m) hK
  refine v_X11_restore_0 (v_X6_fetch_51_47 ⟨fun q => v_X6_fetch_51_47_20 ⟨Or.inl rfl, no (by omega) _⟩, fun q => ⟨fun q2 => v_X6_fetch_51_47_20 ⟨Or.inl rfl, no (by omega) _⟩, fun q2 => ?_⟩⟩)
  have hx := toNat_of q
  have e33 := dMulE (X := x1.toInt) (Y := 33) (x := x1) (y := (33 : Int32)) rfl (by decide) (by omega) (by omega)
  refine y_has hx (by omega) (fun g => ⟨fun _ => ?_, fun z => absurd z (by decide)⟩) (fun g => ⟨fun z => absurd rfl z, fun _ => v_X6_fetch_51_47_20 ⟨Or.inl rfl, no (fun w => by rw [g] at w; cases w.2) _⟩⟩)
  rw [if_pos ⟨⟨q, q2⟩, g⟩] at hQ
  refine y_readFrom53 (i := x1.toNatClampNeg) (hK.2.2.2.2 x1.toNatClampNeg (by omega) g) (by omega) (by omega) (fun M a b d => v_X6_clear_51 ⟨Or.inr rfl, hQ _ _ ((CcF.set ⟨fun k q => a k (by omega), b⟩ (by decide)).set (by decide)) ?_⟩)
  refine ⟨⟨hK.1.1, hK.1.2.1.of (fun k q1 q2 _ => by rw [dSet_k (by omega), dSet_k (by omega)]; exact a k (by omega)), hK.1.2.2.of (fun k q1 q2 => by rw [dSet_k (by omega), dSet_k (by omega)]; exact a k (by omega))⟩, d.of (fun k q1 q2 => by rw [dSet_k (by omega), dSet_k (by omega)]), ⟨0, by decide, by rw [dSet_j (by decide), dSet_s]; decide, by rw [dSet_s]; rfl, Nat.zero_le _, fun k T hT => by cases hT⟩, hK.2.2.2.of (by rw [dSet_j (by decide), dSet_j (by decide), a 51 (by omega)]) (by rw [dSet_k (by decide), dSet_k (by decide)]; exact a 53 (by omega))⟩
end CCM
end
section
/-! THE REFERENCE: copies, what is recorded -/
def RZf (H : Ho) (f : Nat → Int32) (S : Zt) : Prop := (f 55 = szH S ∧ f 56 = szC S ∧ f 57 = szQ S) ∧ (∀ w : Nat, w < hoW H → f w = szR S w ∧ f (10 + w) = bi (bt (szG S) w) ∧ f (20 + w) = szE S w ∧ f (30 + w) = bi (bt (szP S) w)) ∧ (∀ g : Nat, g < hoF H → f (40 + g) = szD S g) ∧ ∀ u : Nat, u < hoU H → f (47 + u) = bi (bt (szA S) u)
theorem RZf.of {H : Ho} {f f' : Nat → Int32} {S : Zt} (h : RZf H f S) (hO : hOk H) (e : ∀ j : Nat, j < 58 → f' j = f j) : RZf H f' S := by
  obtain ⟨⟨a, b, c⟩, d, g, i⟩ := h
  obtain ⟨o1, o2, o3, _⟩ := hO
  refine ⟨⟨by rw [e 55 (by omega)]; exact a, by rw [e 56 (by omega)]; exact b, by rw [e 57 (by omega)]; exact c⟩, fun w hw => ?_, fun k hk => by rw [e _ (by omega)]; exact g k hk, fun u hu => by rw [e _ (by omega)]; exact i u hu⟩
  rw [e _ (by omega), e _ (by omega), e _ (by omega), e _ (by omega)]
  exact d w hw
theorem RZ.f {H : Ho} {r : Nat} {m : dM} {S : Zt} (h : RZ H r m S) : RZf H (m.1 r) S := h
theorem RZf.z {H : Ho} {r : Nat} {m : dM} {S : Zt} (h : RZf H (m.1 r) S) : RZ H r m S := h
def RP (H : Ho) (m : dM) (P : List Zt) : Prop := (m.1 70 61).toInt = (P.length : Int) ∧ P.length ≤ 40 ∧ ∀ (k : Nat) (T : Zt), P[k]? = some T → RZf H (fun j => m.1 111 (58 * (P.length - 1 - k) + j)) T
def RSl (H : Ho) (m : dM) (L : Nat → Zt) : Prop := ∀ i : Nat, i < 3 → (m.1 115 i).toInt ≠ 0 → RZf H (fun j => m.1 116 (58 * i + j)) (L i)
def KR (H : Ho) (S : Zt) (P : List Zt) (L : Nat → Zt) (s : Nat) (m : dM) : Prop := RW H s m ∧ RZ H 107 m S ∧ RP H m P ∧ RSl H m L
/-- scratch alone has changed -/
def RsF (m0 m : dM) : Prop := (∀ k : Nat, k ≠ 70 → (k < 105 ∨ 110 < k ∨ k = 107) → k ≠ 114 → m.1 k = m0.1 k) ∧ (∀ j : Nat, j ≠ 53 → j ≠ 56 → j ≠ 57 → j ≠ 60 → m.1 70 j = m0.1 70 j) ∧ m.2 = m0.2
theorem RsF.rf (m : dM) : RsF m m := ⟨fun _ _ _ _ => rfl, fun _ _ _ _ _ => rfl, rfl⟩
theorem RsF.tr {a b c : dM} (h : RsF a b) (h' : RsF b c) : RsF a c := ⟨fun k q1 q2 q3 => (h'.1 k q1 q2 q3).trans (h.1 k q1 q2 q3), fun j q1 q2 q3 q4 => (h'.2.1 j q1 q2 q3 q4).trans (h.2.1 j q1 q2 q3 q4), h'.2.2.trans h.2.2⟩
theorem HaF.rs {a b : dM} (h : HaF a b) : RsF a b := ⟨fun k q1 q2 _ => h.1 k q1 (by omega), fun j q1 _ _ q2 => h.2.1 j q1 q2, h.2.2⟩
theorem XaF.rs {a b : dM} (h : XaF a b) : RsF a b := h.ha.rs
theorem RLF.rs {a b : dM} (h : RLF a b) : RsF a b := h.ha.rs
theorem RsF.set {a b : dM} {j : Nat} {v : Int32} (h : RsF a b) : RsF a (dSet b 108 j v) := ⟨fun k q1 q2 q3 => by rw [dSet_k (by omega)]; exact h.1 k q1 q2 q3, fun i q1 q2 q3 q4 => by rw [dSet_k (by decide)]; exact h.2.1 i q1 q2 q3 q4, h.2.2⟩
theorem RsF.s70 {a b : dM} {j : Nat} {v : Int32} (h : RsF a b) (hj : j = 56 ∨ j = 57 ∨ j = 60 ∨ j = 53) : RsF a (dSet b 70 j v) := ⟨fun k q1 q2 q3 => by rw [dSet_k q1]; exact h.1 k q1 q2 q3, fun i q1 q2 q3 q4 => by rw [dSet_j (by omega)]; exact h.2.1 i q1 q2 q3 q4, h.2.2⟩
section RPA
variable {H : Ho} {S T : Zt} {P : List Zt} {L : Nat → Zt} {s : Nat} {m : dM}
theorem RW.rs {m' : dM} (h : RW H s m) (hF : RsF m m') : RW H s m' := ⟨h.1, h.2.of (fun k a b => hF.1 k (by omega) (by omega) (by omega)) (hF.2.1 18 (by decide) (by decide) (by decide) (by decide))⟩
theorem RP.of {m' : dM} (h : RP H m P) (e : m'.1 70 61 = m.1 70 61) (e' : m'.1 111 = m.1 111) : RP H m' P := by
  unfold RP
  rw [e, e']
  exact h
theorem RSl.of {m' : dM} (h : RSl H m L) (e : m'.1 115 = m.1 115) (e' : m'.1 116 = m.1 116) : RSl H m' L := by
  unfold RSl
  rw [e, e']
  exact h
theorem KR.rs {m' : dM} (h : KR H S P L s m) (hF : RsF m m') : KR H S P L s m' := ⟨h.1.rs hF, h.2.1.of (hF.1 107 (by decide) (by decide) (by decide)), h.2.2.1.of (hF.2.1 61 (by decide) (by decide) (by decide) (by decide)) (hF.1 111 (by decide) (by decide) (by decide)), h.2.2.2.of (hF.1 115 (by decide) (by decide) (by decide)) (hF.1 116 (by decide) (by decide) (by decide))⟩
/-- a copy, its ways filled -/
def CY (H : Ho) (S : Zt) (s : Nat) (m : dM) : Prop := RW H s m ∧ RZ H 108 m S ∧ RL H (szG S) m
theorem y_copies {Q : dM → Prop} (hW : RW H s m) (hZ : RZ H 107 m S) (hQ : ∀ m' : dM, RsF m m' → CY H S s m' → m'.1 70 56 = hoE H → m'.1 70 57 = 0 → Q m') : c_X12_copies_70 6 m Q := by
  have loop : ∀ (t i : Nat) (x1 : Int32) (M : dM), i + t = 58 → x1.toInt = (i : Int) → (∀ k : Nat, k ≠ 108 → M.1 k = m.1 k) → M.2 = m.2 → (∀ j : Nat, j < i → M.1 108 j = m.1 107 j) → j_X12_copies_70_2 6 x1 M Q := by
    intro t
    induction t with
    | zero =>
      intro i x1 M hi h1 hk h2 hv
      have F : RsF m M := ⟨fun k q1 q2 _ => hk k (by omega), fun j _ _ _ _ => by rw [hk 70 (by decide)], h2⟩
      have W := hW.rs F
      have a := W.2.1.1
      have Z : RZ H 108 M S := (hZ.f.of hW.1 (fun j hj => hv j (by omega))).z
      refine v_X12_copies_70_2 ⟨fun _ => ?_, fun q => by exfalso; omega⟩
      rw [d_cn a.1, W.2.2.2.2.2.2.1.2.2.2, a.1]
      refine ⟨by omega, ?_⟩
      have F2 : RsF m (dSet (dSet M 70 56 (hoE H)) 70 57 (0 : Int32)) := (F.s70 (by decide)).s70 (by decide)
      have Z2 : RZ H 108 (dSet (dSet M 70 56 (hoE H)) 70 57 (0 : Int32)) S := Z.of (by rw [dSet_k (by decide), dSet_k (by decide)])
      have W2 := hW.rs F2
      refine y_fillsWays (G := bt (szG S)) W2.2.1 (Z2.rg (r := 0)) (fun M3 f3 d3 v3 => hQ M3 (F2.tr f3.rs) ⟨W2.rs f3.rs, Z2.of (f3.1 108 (by decide) (by decide)), d3, v3⟩ ?_ ?_)
      · rw [f3.1 70 (by decide) (by decide), dSet_j (by decide), dSet_s]
      · rw [f3.1 70 (by decide) (by decide), dSet_s]
    | succ t ih =>
      intro i x1 M hi h1 hk h2 hv
      refine v_X12_copies_70_2 ⟨fun q => by exfalso; omega, fun _ => ⟨by omega, by omega, ?_⟩⟩
      rw [d_cn h1]
      refine ih (i + 1) _ _ (by omega) (d_inc h1 (by omega)) (fun k q => by rw [dSet_k q]; exact hk k q) h2 (fun j hj => ?_)
      by_cases e : j = i
      · subst e; rw [dSet_s, hk 107 (by decide)]
      · rw [dSet_j e]; exact hv j (by omega)
  exact v_X12_copies_70 (loop 58 0 _ m rfl (by decide) (fun _ _ => rfl) rfl (fun j hj => absurd hj (Nat.not_lt_zero j)))
theorem y_keepsRow {Q : dM → Prop} (hO : hOk H) (hZ : RZ H 108 m T) (hQ : ∀ m' : dM, (∀ k : Nat, k ≠ 107 → m'.1 k = m.1 k) → m'.2 = m.2 → RZ H 107 m' T → Q m') : c_X12_keepsRow_70 1 m Q := by
  have loop : ∀ (t i : Nat) (x1 : Int32) (M : dM), i + t = 58 → x1.toInt = (i : Int) → (∀ k : Nat, k ≠ 107 → M.1 k = m.1 k) → M.2 = m.2 → (∀ j : Nat, j < i → M.1 107 j = m.1 108 j) → j_X12_keepsRow_70_2 1 x1 M Q := by
    intro t
    induction t with
    | zero =>
      intro i x1 M hi h1 hk h2 hv
      exact v_X12_keepsRow_70_2 ⟨fun _ => hQ M hk h2 (hZ.f.of hO (fun j hj => hv j (by omega))).z, fun q => by exfalso; omega⟩
    | succ t ih =>
      intro i x1 M hi h1 hk h2 hv
      refine v_X12_keepsRow_70_2 ⟨fun q => by exfalso; omega, fun _ => ⟨by omega, by omega, ?_⟩⟩
      rw [d_cn h1]
      refine ih (i + 1) _ _ (by omega) (d_inc h1 (by omega)) (fun k q => by rw [dSet_k q]; exact hk k q) h2 (fun j hj => ?_)
      by_cases e : j = i
      · subst e; rw [dSet_s, hk 108 (by decide)]
      · rw [dSet_j e]; exact hv j (by omega)
  exact v_X12_keepsRow_70 (loop 58 0 _ m rfl (by decide) (fun _ _ => rfl) rfl (fun j hj => absurd hj (Nat.not_lt_zero j)))
/-- what is recorded -/
theorem y_records {Q : dM → Prop} (hK : KR H S P L s m) (hZ : RZ H 108 m T) (hQ : ∀ m' : dM, (∀ k : Nat, k ≠ 70 → k ≠ 107 → k ≠ 111 → m'.1 k = m.1 k) → (∀ j : Nat, j ≠ 61 → m'.1 70 j = m.1 70 j) → m'.2 = m.2 → KR H T (pKeep S P) L s m' → Q m') : c_X12_records_70 2 m Q := by
  have hO := hK.1.1
  -- the push
  have l49 : ∀ (P' : List Zt) (M : dM), P'.length ≤ 39 → RP H M P' → (∀ k : Nat, k ≠ 70 → k ≠ 111 → M.1 k = m.1 k) → (∀ j : Nat, j ≠ 61 → M.1 70 j = m.1 70 j) → M.2 = m.2 → S :: P' = pKeep S P → j_X12_records_70_49 2 M Q := by
    intro P' M hl' hP hk hj h2 he
    obtain ⟨p1, p2, p3⟩ := hP
    have e107 : M.1 107 = m.1 107 := hk 107 (by decide) (by decide)
    have loop : ∀ (t i : Nat) (x1 : Int32) (M1 : dM), i + t = 58 → x1.toInt = (i : Int) → (∀ k : Nat, k ≠ 111 → M1.1 k = M.1 k) → M1.2 = M.2 → (∀ j : Nat, j < i → M1.1 111 (58 * P'.length + j) = m.1 107 j) → (∀ j : Nat, j < 58 * P'.length → M1.1 111 j = M.1 111 j) → j_X12_records_70_51 2 x1 M1 Q := by
      intro t
      induction t with
      | zero =>
        intro i x1 M1 hi h1 hk1 h21 hv hold'
        have u1 : M1.1 70 61 = M.1 70 61 := by rw [hk1 70 (by decide)]
        have f := d_inc (x := M1.1 70 61) (i := P'.length) (by rw [u1]; exact p1) (by omega)
        refine v_X12_records_70_51 ⟨fun _ => ?_, fun q => by exfalso; omega⟩
        refine y_keepsRow (T := T) hO (hZ.of (by rw [dSet_k (by decide), hk1 108 (by decide), hk 108 (by decide) (by decide)])) (fun M2 k2 e2 z2 => hQ M2 (fun k q1 q2 q3 => by rw [k2 k q2, dSet_k q1, hk1 k q3, hk k q1 q3]) (fun j q => by rw [k2 70 (by decide), dSet_j q, hk1 70 (by decide), hj j q]) (by rw [e2]; exact h21.trans h2) ⟨⟨hO, hK.1.2.of (fun k a b => by rw [k2 k (by omega), dSet_k (by omega), hk1 k (by omega), hk k (by omega) (by omega)]) (by rw [k2 70 (by decide), dSet_j (by decide), hk1 70 (by decide), hj 18 (by decide)])⟩, z2, ?_, hK.2.2.2.of (by rw [k2 115 (by decide), dSet_k (by decide), hk1 115 (by decide), hk 115 (by decide) (by decide)]) (by rw [k2 116 (by decide), dSet_k (by decide), hk1 116 (by decide), hk 116 (by decide) (by decide)])⟩)
        rw [← he]
        have e111 : M2.1 111 = M1.1 111 := by rw [k2 111 (by decide), dSet_k (by decide)]
        refine ⟨by rw [k2 70 (by decide), dSet_s, List.length_cons]; exact f, by rw [List.length_cons]; omega, fun k U hU => ?_⟩
        rw [List.length_cons, e111]
        match k, hU with
        | 0, hU =>
          have hU : some S = some U := hU
          cases hU
          exact hK.2.1.f.of hO (fun j hj' => by rw [show P'.length + 1 - 1 - 0 = P'.length by omega]; exact hv j (by omega))
        | k + 1, hU =>
          have hU : P'[k]? = some U := hU
          have hl2 : k < P'.length := (List.getElem?_eq_some_iff.mp hU).1
          refine (p3 k U hU).of hO (fun j hj' => ?_)
          show M1.1 111 (58 * (P'.length + 1 - 1 - (k + 1)) + j) = M.1 111 (58 * (P'.length - 1 - k) + j)
          rw [show P'.length + 1 - 1 - (k + 1) = P'.length - 1 - k by omega]
          exact hold' _ (by
            have : P'.length - 1 - k + 1 ≤ P'.length := by omega
            have := Nat.mul_le_mul_left 58 this
            omega)
      | succ t ih =>
        intro i x1 M1 hi h1 hk1 h21 hv hold'
        have u1 : M1.1 70 61 = M.1 70 61 := by rw [hk1 70 (by decide)]
        have fm := dMulE (X := 58) (Y := (P'.length : Int)) (x := (58 : Int32)) (y := M1.1 70 61) (by decide) (by rw [u1]; exact p1) (by omega) (by omega)
        have fa := dAddE (X := 58 * (P'.length : Int)) (Y := (i : Int)) fm h1 (by omega) (by omega)
        have fa' : ((58 : Int32) * M1.1 70 61 + x1).toInt = ((58 * P'.length + i : Nat) : Int) := by rw [fa]; omega
        refine v_X12_records_70_51 ⟨fun q => by exfalso; omega, fun _ => ⟨by omega, by omega, ?_⟩⟩
        rw [d_cn h1, d_cn fa']
        refine ih (i + 1) _ _ (by omega) (d_inc h1 (by omega)) (fun k q => by rw [dSet_k q]; exact hk1 k q) h21 (fun j hj' => ?_) (fun j hj' => ?_)
        · by_cases e : j = i
          · subst e; rw [dSet_s, hk1 107 (by decide), e107]
          · rw [dSet_j (by omega)]; exact hv j (by omega)
        · rw [dSet_j (by omega)]; exact hold' j hj'
    exact v_X12_records_70_49 (loop 58 0 _ M rfl (by decide) (fun _ _ => rfl) rfl (fun j hj' => absurd hj' (Nat.not_lt_zero j)) (fun j _ => rfl))
  obtain ⟨p1, p2, p3⟩ := hK.2.2.1
  refine v_X12_records_70 ⟨fun ne => l49 P m (by omega) hK.2.2.1 (fun _ _ _ => rfl) (fun _ _ => rfl) rfl ?_, fun ee => ?_⟩
  · unfold pKeep
    rw [List.take_of_length_le (by rw [List.length_cons]; omega)]
  · have loop : ∀ (t i : Nat) (x1 : Int32) (M : dM), i + t = 2262 → x1.toInt = (i : Int) → (∀ k : Nat, k ≠ 111 → M.1 k = m.1 k) → M.2 = m.2 → (∀ j : Nat, j < i → M.1 111 j = m.1 111 (j + 58)) → (∀ j : Nat, i ≤ j → M.1 111 j = m.1 111 j) → j_X12_records_70_11 2 x1 M Q := by
      intro t
      induction t with
      | zero =>
        intro i x1 M hi h1 hk h2 hv hr
        have u1 : M.1 70 61 = m.1 70 61 := by rw [hk 70 (by decide)]
        have f := dSubE (X := (40 : Int)) (Y := 1) (x := M.1 70 61) (y := (1 : Int32)) (by rw [u1]; exact ee) (by decide) (by omega) (by omega)
        refine v_X12_records_70_11 ⟨fun _ => l49 (P.take 39) _ (by rw [List.length_take]; omega) ?_ (fun k q1 q2 => by rw [dSet_k q1]; exact hk k q2) (fun j q => by rw [dSet_j q, hk 70 (by decide)]) h2 rfl, fun q => by exfalso; omega⟩
        have lt39 : (P.take 39).length = 39 := by rw [List.length_take]; omega
        refine ⟨by rw [dSet_s, lt39]; exact f, by rw [lt39]; omega, fun k U hU => ?_⟩
        rw [List.getElem?_take] at hU
        by_cases q : k < 39
        · rw [if_pos q] at hU
          refine (p3 k U hU).of hO (fun j hj' => ?_)
          show (dSet M 70 61 (M.1 70 61 - 1)).1 111 (58 * ((P.take 39).length - 1 - k) + j) = m.1 111 (58 * (P.length - 1 - k) + j)
          have hP40 : P.length = 40 := by omega
          rw [dSet_k (by decide), lt39, hv _ (by omega), hP40, show 58 * (39 - 1 - k) + j + 58 = 58 * (40 - 1 - k) + j by omega]
        · rw [if_neg q] at hU; cases hU
      | succ t ih =>
        intro i x1 M hi h1 hk h2 hv hr
        have f := d_add (k := 58) (K := 58) h1 (by decide) (by omega)
        refine v_X12_records_70_11 ⟨fun q => by exfalso; omega, fun _ => ⟨by omega, by omega, ?_⟩⟩
        rw [d_cn h1, d_cn f]
        refine ih (i + 1) _ _ (by omega) (d_inc h1 (by omega)) (fun k q => by rw [dSet_k q]; exact hk k q) h2 (fun j hj' => ?_) (fun j hj' => ?_)
        · by_cases e : j = i
          · subst e; rw [dSet_s, hr _ (by omega)]
          · rw [dSet_j e]; exact hv j (by omega)
        · rw [dSet_j (by omega)]; exact hr j (by omega)
    exact loop 2262 0 _ m rfl (by decide) (fun _ _ => rfl) rfl (fun j hj' => absurd hj' (Nat.not_lt_zero j)) (fun _ _ => rfl)
end RPA
end
section
/-! THE REFERENCE: the calls that change how it stands -/
section RCL
variable {H : Ho} {S : Zt} {P : List Zt} {L : Nat → Zt} {s : Nat} {m : dM}
/-- this one alone has changed -/
def RcF (m0 m : dM) : Prop := ∀ k : Nat, k < 70 → m.1 k = m0.1 k
theorem RcF.rf (m : dM) : RcF m m := fun _ _ => rfl
theorem RsF.rc {a b : dM} (h : RsF a b) : RcF a b := fun k q => h.1 k (by omega) (by omega) (by omega)
theorem RcF.tr {a b c : dM} (h : RcF a b) (h' : RcF b c) : RcF a c := fun k q => (h' k q).trans (h k q)
theorem y_isUser {x : Int32} {Q : Int32 → dM → Prop} (hW : RW H s m) (hT : 0 ≤ x.toInt ∧ x.toInt < (hoU H : Int) → Q 1 m) (hF : ¬ (0 ≤ x.toInt ∧ x.toInt < (hoU H : Int)) → Q 0 m) : c_X12_isUse_70 2 x m Q := by
  have a := hW.2.1.1
  have u8 := hW.1.2.2.1
  have f := dSubE (X := (hoU H : Int)) (Y := 1) (x := m.1 86 s) (y := (1 : Int32)) hW.2.2.1 (by decide) (by omega) (by omega)
  have z : (0 : Int32).toInt = 0 := by decide
  refine v_X12_isUse_70 ⟨by omega, ?_⟩
  rw [d_cn a.1]
  exact y_in (fun q => ⟨Or.inr rfl, hT (by omega)⟩) (fun q => ⟨Or.inl rfl, hF (by omega)⟩)
theorem y_isFlatr {x : Int32} {Q : Int32 → dM → Prop} (hW : RW H s m) (hT : 0 ≤ x.toInt ∧ x.toInt < (hoF H : Int) → Q 1 m) (hF : ¬ (0 ≤ x.toInt ∧ x.toInt < (hoF H : Int)) → Q 0 m) : c_X12_isFlat_70 2 x m Q := by
  have a := hW.2.1.1
  have f7 := hW.1.1
  have f := dSubE (X := (hoF H : Int)) (Y := 1) (x := m.1 80 s) (y := (1 : Int32)) hW.2.1.2.1.1 (by decide) (by omega) (by omega)
  have z : (0 : Int32).toInt = 0 := by decide
  refine v_X12_isFlat_70 ⟨by omega, ?_⟩
  rw [d_cn a.1]
  exact y_in (fun q => ⟨Or.inr rfl, hT (by omega)⟩) (fun q => ⟨Or.inl rfl, hF (by omega)⟩)
theorem bi_ne1 {b : Bool} (h : (bi b).toInt ≠ 1) : b = false := by cases b with | false => rfl | true => exact absurd rfl h
theorem bi_eq1 {b : Bool} (h : (bi b).toInt = 1) : b = true := by cases b with | true => rfl | false => exact absurd h (by decide)
theorem bi_eq0 {b : Bool} (h : (bi b).toInt = 0) : b = false := by cases b with | false => rfl | true => exact absurd h (by decide)
theorem bi_ne0 {b : Bool} (h : (bi b).toInt ≠ 0) : b = true := by cases b with | true => rfl | false => exact absurd rfl h
/-- one place of the copy has changed -/
theorem RZ.a {u : Nat} {v g : Int32} (h : RZ H 108 m S) (hO : hOk H) (hu : u < hoU H) (hg : ∀ i : Nat, i ≠ u → bt g i = bt (szA S) i) (hv : v = bi (bt g u)) : RZ H 108 (dSet m 108 (47 + u) v) (setA S g) := by
  obtain ⟨⟨a, b, c⟩, d, e, f⟩ := h
  obtain ⟨o1, o2, o3, _⟩ := hO
  refine ⟨⟨by rw [dSet_j (by omega)]; exact a, by rw [dSet_j (by omega)]; exact b, by rw [dSet_j (by omega)]; exact c⟩, fun w hw => ?_, fun k hk => by rw [dSet_j (by omega)]; exact e k hk, fun i hi => ?_⟩
  · rw [dSet_j (by omega), dSet_j (by omega), dSet_j (by omega), dSet_j (by omega)]
    exact d w hw
  · show _ = bi (bt g i)
    by_cases z : i = u
    · subst z; rw [dSet_s]; exact hv
    · rw [dSet_j (by omega), hg i z]; exact f i hi
theorem RZ.p {w : Nat} {v g : Int32} (h : RZ H 108 m S) (hO : hOk H) (hw : w < hoW H) (hg : ∀ i : Nat, i ≠ w → bt g i = bt (szP S) i) (hv : v = bi (bt g w)) : RZ H 108 (dSet m 108 (30 + w) v) (setP S g) := by
  obtain ⟨⟨a, b, c⟩, d, e, f⟩ := h
  obtain ⟨o1, o2, o3, _⟩ := hO
  refine ⟨⟨by rw [dSet_j (by omega)]; exact a, by rw [dSet_j (by omega)]; exact b, by rw [dSet_j (by omega)]; exact c⟩, fun i hi => ?_, fun k hk => by rw [dSet_j (by omega)]; exact e k hk, fun i hi => by rw [dSet_j (by omega)]; exact f i hi⟩
  obtain ⟨d1, d2, d3, d4⟩ := d i hi
  rw [dSet_j (show i ≠ 30 + w by omega), dSet_j (show 10 + i ≠ 30 + w by omega), dSet_j (show 20 + i ≠ 30 + w by omega)]
  refine ⟨d1, d2, d3, ?_⟩
  show _ = bi (bt g i)
  by_cases z : i = w
  · subst z; rw [dSet_s]; exact hv
  · rw [dSet_j (by omega), hg i z]; exact d4
theorem RZ.g {w : Nat} {v g : Int32} (h : RZ H 108 m S) (hO : hOk H) (hw : w < hoW H) (hg : ∀ i : Nat, i ≠ w → bt g i = bt (szG S) i) (hv : v = bi (bt g w)) : RZ H 108 (dSet m 108 (10 + w) v) (setG S g) := by
  obtain ⟨⟨a, b, c⟩, d, e, f⟩ := h
  obtain ⟨o1, o2, o3, _⟩ := hO
  refine ⟨⟨by rw [dSet_j (by omega)]; exact a, by rw [dSet_j (by omega)]; exact b, by rw [dSet_j (by omega)]; exact c⟩, fun i hi => ?_, fun k hk => by rw [dSet_j (by omega)]; exact e k hk, fun i hi => by rw [dSet_j (by omega)]; exact f i hi⟩
  obtain ⟨d1, d2, d3, d4⟩ := d i hi
  rw [dSet_j (show i ≠ 10 + w by omega), dSet_j (show 30 + i ≠ 10 + w by omega), dSet_j (show 20 + i ≠ 10 + w by omega)]
  refine ⟨d1, ?_, d3, d4⟩
  show _ = bi (bt g i)
  by_cases z : i = w
  · subst z; rw [dSet_s]; exact hv
  · rw [dSet_j (by omega), hg i z]; exact d2
theorem RZ.e {w : Nat} {v : Int32} (h : RZ H 108 m S) (hO : hOk H) (hw : w < hoW H) : RZ H 108 (dSet m 108 (20 + w) v) (setE S (upd (szE S) w v)) := by
  obtain ⟨⟨a, b, c⟩, d, e, f⟩ := h
  obtain ⟨o1, o2, o3, _⟩ := hO
  refine ⟨⟨by rw [dSet_j (by omega)]; exact a, by rw [dSet_j (by omega)]; exact b, by rw [dSet_j (by omega)]; exact c⟩, fun i hi => ?_, fun k hk => by rw [dSet_j (by omega)]; exact e k hk, fun i hi => by rw [dSet_j (by omega)]; exact f i hi⟩
  obtain ⟨d1, d2, d3, d4⟩ := d i hi
  rw [dSet_j (show i ≠ 20 + w by omega), dSet_j (show 30 + i ≠ 20 + w by omega), dSet_j (show 10 + i ≠ 20 + w by omega)]
  refine ⟨d1, d2, ?_, d4⟩
  show _ = upd (szE S) w v i
  rw [upd_j]
  by_cases z : i = w
  · subst z; rw [dSet_s, if_pos rfl]
  · rw [dSet_j (by omega), if_neg z]; exact d3
theorem RZ.r {w : Nat} {v : Int32} (h : RZ H 108 m S) (hO : hOk H) (hw : w < hoW H) : RZ H 108 (dSet m 108 w v) (setR S (upd (szR S) w v)) := by
  obtain ⟨⟨a, b, c⟩, d, e, f⟩ := h
  obtain ⟨o1, o2, o3, _⟩ := hO
  refine ⟨⟨by rw [dSet_j (by omega)]; exact a, by rw [dSet_j (by omega)]; exact b, by rw [dSet_j (by omega)]; exact c⟩, fun i hi => ?_, fun k hk => by rw [dSet_j (by omega)]; exact e k hk, fun i hi => by rw [dSet_j (by omega)]; exact f i hi⟩
  obtain ⟨d1, d2, d3, d4⟩ := d i hi
  rw [dSet_j (show 20 + i ≠ w by omega), dSet_j (show 30 + i ≠ w by omega), dSet_j (show 10 + i ≠ w by omega)]
  refine ⟨?_, d2, d3, d4⟩
  show _ = upd (szR S) w v i
  rw [upd_j]
  by_cases z : i = w
  · subst z; rw [dSet_s, if_pos rfl]
  · rw [dSet_j z, if_neg z]; exact d1
theorem bt_flip {g : Int32} {u i : Nat} (hu : u < 32) (h : i ≠ u) : bt (g ^^^ b1 u) i = bt g i := by rw [bt_xor, bt_1 hu, decide_eq_false h, Bool.xor_false]
theorem bt_flips {g : Int32} {u : Nat} (hu : u < 32) : bt (g ^^^ b1 u) u = !bt g u := by rw [bt_xor, bt_1 hu, decide_eq_true rfl, Bool.xor_true]
theorem bt_m1 {i : Nat} (h : i < 32) : bt (-1 : Int32) i = true := by
  have : (-1 : Int32) = ~~~(0 : Int32) := by decide
  rw [this, bt_not h, bt_0]
  rfl
theorem bt_off {g : Int32} {u i : Nat} (hu : u < 32) (h : i ≠ u) : bt (g &&& (b1 u ^^^ (-1 : Int32))) i = bt g i := by
  by_cases q : i < 32
  · rw [bt_and, bt_xor, bt_1 hu, decide_eq_false h, bt_m1 q, Bool.false_xor, Bool.and_true]
  · rw [bt_big (by omega), bt_big (by omega)]
theorem bt_offs {g : Int32} {u : Nat} (hu : u < 32) : bt (g &&& (b1 u ^^^ (-1 : Int32))) u = false := by
  rw [bt_and, bt_xor, bt_1 hu, decide_eq_true rfl, bt_m1 hu]
  simp
theorem q_agree {x1 x2 : Int32} {Q : Int32 → dM → Prop} (hK : KR H S P L s m) (h2 : x2 = 0 ∨ x2 = 1) (hQ : ∀ m' : dM, RcF m m' → KR H (aAgr H S P x1 x2).2.1 (aAgr H S P x1 x2).2.2 L s m' → Q (aAgr H S P x1 x2).1 m') : c_X12_agree_70 7 x1 x2 m Q := by
  have o3 := hK.1.1.2.2.1
  have no : ¬ ((0 ≤ x1.toInt ∧ x1.toInt < (hoU H : Int)) ∧ (bi (bt (szA S) x1.toNatClampNeg)).toInt ≠ x2.toInt) → j_X12_agree_70_30 7 m Q := fun q => by
    have e : aAgr H S P x1 x2 = (0, S, P) := if_neg q
    rw [e] at hQ
    exact v_X12_agree_70_30 (hQ m (RcF.rf m) hK)
  refine v_X12_agree_70 (Wp.deep (y_isUser hK.1 (fun hu => ⟨fun z => absurd z (by decide), fun _ => ?_⟩) (fun hu => ⟨fun _ => no (fun q => hu q.1), fun z => absurd rfl z⟩)) (Nat.le_of_ble_eq_true rfl))
  have hx := toNat_of hu.1
  generalize hn : x1.toNatClampNeg = u at *
  have e47 := d_add (k := x1) (K := u) (x := (47 : Int32)) (i := 47) (by decide) hx (by omega)
  rw [d_cn e47, hK.2.1.2.2.2 u (by omega)]
  have i0 : (0 : Int32).toInt = 0 := by decide
  have i1 : (1 : Int32).toInt = 1 := by decide
  have go : (bi (bt (szA S) u)).toInt ≠ x2.toInt → ∀ M : dM, RsF m M → CY H S s M → ∀ v : Int32, v.toInt = x2.toInt → c_X12_records_70 6 (dSet M 108 (47 + u) v) (fun m3 => Q (1 : Int32) m3) := fun ne M f cy v hv => by
    have e : aAgr H S P x1 x2 = (1, setA S (szA S ^^^ b1 u), pKeep S P) := by
      unfold aAgr
      rw [hn]
      exact if_pos ⟨hu, ne⟩
    rw [e] at hQ
    have hZ : RZ H 108 (dSet M 108 (47 + u) v) (setA S (szA S ^^^ b1 u)) := cy.2.1.a hK.1.1 (by omega) (fun i hi => bt_flip (by omega) hi) (by
      rw [bt_flips (by omega)]
      apply Int32.toInt_inj.mp
      cases g : bt (szA S) u with
      | true => rw [g] at ne; rcases h2 with q | q <;> subst q <;> first | (rw [hv]; rfl) | exact absurd rfl ne
      | false => rw [g] at ne; rcases h2 with q | q <;> subst q <;> first | exact absurd rfl ne | (rw [hv]; rfl))
    refine Wp.deep (y_records (hK.rs f.set) hZ (fun M2 a b c d => hQ M2 (f.set.rc.tr (fun k q => a k (by omega) (by omega) (by omega))) d)) (Nat.le_of_ble_eq_true rfl)
  have both : (bi (bt (szA S) u)).toInt ≠ x2.toInt → c_X12_copies_70 6 m (fun m2 => (x2.toInt = 0 → (0 ≤ ((47 : Int32) + x1).toInt ∧ ((47 : Int32) + x1).toInt < 58) ∧ c_X12_records_70 6 (dSet m2 108 (47 + u) (0 : Int32)) (fun m3 => Q (1 : Int32) m3)) ∧ (x2.toInt ≠ 0 → (0 ≤ ((47 : Int32) + x1).toInt ∧ ((47 : Int32) + x1).toInt < 58) ∧ c_X12_records_70 6 (dSet m2 108 (47 + u) (1 : Int32)) (fun m4 => Q (1 : Int32) m4))) := fun ne => y_copies hK.1 hK.2.1 (fun M f cy _ _ => ⟨fun z => ⟨by omega, go ne M f cy _ (by rw [z]; rfl)⟩, fun z => ⟨by omega, go ne M f cy _ (by rcases h2 with q | q <;> subst q <;> first | exact absurd rfl z | rfl)⟩⟩)
  refine ⟨by omega, fun n1 => ⟨fun n0 => both ?_, fun e0 => no ?_⟩, fun e1 => ⟨fun n0 => both ?_, fun e0 => no ?_⟩⟩
  · rw [bi_ne1 n1]; exact n0
  · rw [bi_ne1 n1]; exact fun q => q.2 e0
  · rw [bi_eq1 e1]; exact n0
  · rw [bi_eq1 e1]; exact fun q => q.2 e0
theorem q_pin {x1 x2 : Int32} {Q : Int32 → dM → Prop} (hK : KR H S P L s m) (h2 : x2 = 0 ∨ x2 = 1) (hQ : ∀ m' : dM, RcF m m' → KR H (aPin H S P x1 x2).2.1 (aPin H S P x1 x2).2.2 L s m' → Q (aPin H S P x1 x2).1 m') : c_X12_pin_70 7 x1 x2 m Q := by
  have o2 := hK.1.1.2.1
  have no : ¬ ((0 ≤ x1.toInt ∧ x1.toInt < (hoW H : Int)) ∧ bt (szG S) x1.toNatClampNeg = false ∧ (bi (bt (szP S) x1.toNatClampNeg)).toInt ≠ x2.toInt) → j_X12_pin_70_43 7 m Q := fun q => by
    have e : aPin H S P x1 x2 = (0, S, P) := if_neg q
    rw [e] at hQ
    exact v_X12_pin_70_43 (hQ m (RcF.rf m) hK)
  refine v_X12_pin_70 (Wp.deep (y_isWire hK.1.2.1 (fun hu => ⟨fun z => absurd z (by decide), fun _ => ?_⟩) (fun hu => ⟨fun _ => no (fun q => hu q.1), fun z => absurd rfl z⟩)) (Nat.le_of_ble_eq_true rfl))
  have hx := toNat_of hu.1
  generalize hn : x1.toNatClampNeg = u at *
  have e10 := d_add (k := x1) (K := u) (x := (10 : Int32)) (i := 10) (by decide) hx (by omega)
  have e30 := d_add (k := x1) (K := u) (x := (30 : Int32)) (i := 30) (by decide) hx (by omega)
  obtain ⟨z1, z2, z3, z4⟩ := hK.2.1.2.1 u (by omega)
  rw [d_cn e10, d_cn e30, z2, z4]
  have i0 : (0 : Int32).toInt = 0 := by decide
  have i1 : (1 : Int32).toInt = 1 := by decide
  have go : bt (szG S) u = false → (bi (bt (szP S) u)).toInt ≠ x2.toInt → ∀ M : dM, RsF m M → CY H S s M → ∀ v : Int32, v.toInt = x2.toInt → c_X12_records_70 6 (dSet M 108 (30 + u) v) (fun m3 => Q (1 : Int32) m3) := fun gg ne M f cy v hv => by
    have e : aPin H S P x1 x2 = (1, setP S (szP S ^^^ b1 u), pKeep S P) := by
      unfold aPin
      rw [hn]
      exact if_pos ⟨hu, gg, ne⟩
    rw [e] at hQ
    have hZ : RZ H 108 (dSet M 108 (30 + u) v) (setP S (szP S ^^^ b1 u)) := cy.2.1.p hK.1.1 (by omega) (fun i hi => bt_flip (by omega) hi) (by
      rw [bt_flips (by omega)]
      apply Int32.toInt_inj.mp
      cases g : bt (szP S) u with
      | true => rw [g] at ne; rcases h2 with q | q <;> subst q <;> first | (rw [hv]; rfl) | exact absurd rfl ne
      | false => rw [g] at ne; rcases h2 with q | q <;> subst q <;> first | exact absurd rfl ne | (rw [hv]; rfl))
    refine Wp.deep (y_records (hK.rs f.set) hZ (fun M2 a b c d => hQ M2 (f.set.rc.tr (fun k q => a k (by omega) (by omega) (by omega))) d)) (Nat.le_of_ble_eq_true rfl)
  have both : bt (szG S) u = false → (bi (bt (szP S) u)).toInt ≠ x2.toInt → c_X12_copies_70 6 m (fun m2 => (x2.toInt = 0 → (0 ≤ ((30 : Int32) + x1).toInt ∧ ((30 : Int32) + x1).toInt < 58) ∧ c_X12_records_70 6 (dSet m2 108 (30 + u) (0 : Int32)) (fun m3 => Q (1 : Int32) m3)) ∧ (x2.toInt ≠ 0 → (0 ≤ ((30 : Int32) + x1).toInt ∧ ((30 : Int32) + x1).toInt < 58) ∧ c_X12_records_70 6 (dSet m2 108 (30 + u) (1 : Int32)) (fun m4 => Q (1 : Int32) m4))) := fun gg ne => y_copies hK.1 hK.2.1 (fun M f cy _ _ => ⟨fun z => ⟨by omega, go gg ne M f cy _ (by rw [z]; rfl)⟩, fun z => ⟨by omega, go gg ne M f cy _ (by rcases h2 with q | q <;> subst q <;> first | exact absurd rfl z | rfl)⟩⟩)
  refine ⟨by omega, fun g1 => no (fun q => by rw [bi_eq1 g1] at q; cases q.2.1), fun g1 => ⟨by omega, fun n1 => ⟨fun n0 => both (bi_ne1 g1) ?_, fun e0 => no ?_⟩, fun e1 => ⟨fun n0 => both (bi_ne1 g1) ?_, fun e0 => no ?_⟩⟩⟩
  · rw [bi_ne1 n1]; exact n0
  · rw [bi_ne1 n1]; exact fun q => q.2.2 e0
  · rw [bi_eq1 e1]; exact n0
  · rw [bi_eq1 e1]; exact fun q => q.2.2 e0
theorem q_mend {x1 : Int32} {Q : Int32 → dM → Prop} (hK : KR H S P L s m) (hQ : ∀ m' : dM, RcF m m' → KR H (aMnd H S P x1).2.1 (aMnd H S P x1).2.2 L s m' → Q (aMnd H S P x1).1 m') : c_X12_mend_70 7 x1 m Q := by
  have o2 := hK.1.1.2.1
  refine v_X12_mend_70 (Wp.deep (y_isWire hK.1.2.1 (fun hu => ⟨fun _ => ?_, fun z => absurd z (by decide)⟩) (fun hu => ⟨fun z => absurd rfl z, fun _ => ?_⟩)) (Nat.le_of_ble_eq_true rfl))
  · have hx := toNat_of hu.1
    unfold aMnd at hQ
    rw [if_pos hu] at hQ
    generalize hn : x1.toNatClampNeg = w at *
    have hw : w < hoW H := by omega
    have e10 := d_add (k := x1) (K := w) (x := (10 : Int32)) (i := 10) (by decide) hx (by omega)
    have e20 := d_add (k := x1) (K := w) (x := (20 : Int32)) (i := 20) (by decide) hx (by omega)
    have e30 := d_add (k := x1) (K := w) (x := (30 : Int32)) (i := 30) (by decide) hx (by omega)
    refine y_copies hK.1 hK.2.1 (fun M1 f1 cy _ _ => ?_)
    have no : ¬ (bt (szG S) w = true ∧ (cst H S w).toInt ≤ (szC S).toInt) → ∀ M : dM, RsF m M → j_X12_mend_70_41 7 M Q := fun q M f => by
      rw [if_neg q] at hQ
      exact v_X12_mend_70_41 (hQ M f.rc (hK.rs f))
    rw [d_cn e10, d_cn e20, d_cn e30, (cy.2.1.2.1 w hw).2.1]
    refine ⟨by omega, fun g0 => no (fun q => by rw [bi_eq0 g0] at q; cases q.1) M1 f1, fun g1 => ?_⟩
    have g := bi_ne0 g1
    refine Wp.deep (y_costsOf cy.1 cy.2.1 hx hw (fun M2 f2 => ?_)) (Nat.le_of_ble_eq_true rfl)
    have Z2 := cy.2.1.xa f2 (Or.inr rfl)
    have W2 := cy.1.xa f2
    have F2 := f1.tr f2.rs
    rw [Z2.1.2.1]
    refine ⟨fun le => ?_, fun gt => no (fun q => by omega) M2 F2⟩
    rw [if_pos ⟨g, le⟩] at hQ
    refine Wp.deep (y_costsOf W2 Z2 hx hw (fun M3 f3 => ⟨by omega, by omega, by omega, ?_⟩)) (Nat.le_of_ble_eq_true rfl)
    have Z3 := Z2.xa f3 (Or.inr rfl)
    have F3 := F2.tr f3.rs
    have Z4 := (((Z3.c (v := szC S - cst H S w) hK.1.1).g (w := w) (v := 0) (g := szG S &&& (b1 w ^^^ (-1 : Int32))) hK.1.1 hw (fun i hi => bt_off (by omega) hi) (by rw [bt_offs (by omega)]; rfl)).e (w := w) (v := 0) hK.1.1 hw).p (w := w) (v := 0) (g := szP S &&& (b1 w ^^^ (-1 : Int32))) hK.1.1 hw (fun i hi => bt_off (by omega) hi) (by rw [bt_offs (by omega)]; rfl)
    refine Wp.deep (y_records (T := mnd S (cst H S w) w) (hK.rs F3.set.set.set.set) Z4 (fun M5 a b c d => ?_)) (Nat.le_of_ble_eq_true rfl)
    rw [d.2.1.1.2.1]
    exact hQ M5 (F3.set.set.set.set.rc.tr (fun k q => a k (by omega) (by omega) (by omega))) d
  · unfold aMnd at hQ
    rw [if_neg hu] at hQ
    exact hQ m (RcF.rf m) hK
theorem q_thicken {x1 : Int32} {Q : Int32 → dM → Prop} (hK : KR H S P L s m) (hZo : zOk H S) (hQ : ∀ m' : dM, RcF m m' → KR H (aThk H S P x1).2.1 (aThk H S P x1).2.2 L s m' → Q (aThk H S P x1).1 m') : c_X12_thicken_70 7 x1 m Q := by
  have o2 := hK.1.1.2.1
  refine v_X12_thicken_70 (Wp.deep (y_isWire hK.1.2.1 (fun hu => ⟨fun _ => ?_, fun z => absurd z (by decide)⟩) (fun hu => ⟨fun z => absurd rfl z, fun _ => ?_⟩)) (Nat.le_of_ble_eq_true rfl))
  · have hx := toNat_of hu.1
    unfold aThk at hQ
    rw [if_pos hu] at hQ
    generalize hn : x1.toNatClampNeg = w at *
    have hw : w < hoW H := by omega
    have e10 := d_add (k := x1) (K := w) (x := (10 : Int32)) (i := 10) (by decide) hx (by omega)
    have r99 := hZo.2.2.2.2.2.1 w hw
    refine y_copies hK.1 hK.2.1 (fun M1 f1 cy _ _ => ?_)
    have no : ¬ (bt (szG S) w = false ∧ (szR S w).toInt < 99 ∧ (cst H S w).toInt ≤ (szC S).toInt) → ∀ M : dM, RsF m M → j_X12_thicken_70_53 7 M Q := fun q M f => by
      rw [if_neg q] at hQ
      exact v_X12_thicken_70_53 (hQ M f.rc (hK.rs f))
    rw [d_cn e10, (cy.2.1.2.1 w hw).2.1, (cy.2.1.2.1 w hw).1]
    refine ⟨by omega, fun g1 => no (fun q => by rw [bi_eq1 g1] at q; cases q.1) M1 f1, fun g1 => ⟨by omega, fun r9 => no (fun q => by omega) M1 f1, fun r9 => ?_⟩⟩
    have g := bi_ne1 g1
    refine Wp.deep (y_costsOf cy.1 cy.2.1 hx hw (fun M2 f2 => ?_)) (Nat.le_of_ble_eq_true rfl)
    have Z2 := cy.2.1.xa f2 (Or.inr rfl)
    have W2 := cy.1.xa f2
    have F2 := f1.tr f2.rs
    rw [Z2.1.2.1]
    refine ⟨fun le => ?_, fun gt => no (fun q => by omega) M2 F2⟩
    rw [if_pos ⟨g, by omega, le⟩] at hQ
    refine Wp.deep (y_costsOf W2 Z2 hx hw (fun M3 f3 => ⟨by omega, by omega, ?_⟩)) (Nat.le_of_ble_eq_true rfl)
    have Z3 := Z2.xa f3 (Or.inr rfl)
    have F3 := F2.tr f3.rs
    have ev : (dSet M3 108 56 (szC S - cst H S w)).1 108 w = szR S w := by rw [dSet_j (by omega)]; exact (Z3.2.1 w hw).1
    rw [ev]
    have Z4 := (Z3.c (v := szC S - cst H S w) hK.1.1).r (w := w) (v := szR S w + 1) hK.1.1 hw
    refine Wp.deep (y_records (T := thk S (cst H S w) w) (hK.rs F3.set.set) Z4 (fun M5 a b c d => ?_)) (Nat.le_of_ble_eq_true rfl)
    rw [d.2.1.1.2.1]
    exact hQ M5 (F3.set.set.rc.tr (fun k q => a k (by omega) (by omega) (by omega))) d
  · unfold aThk at hQ
    rw [if_neg hu] at hQ
    exact hQ m (RcF.rf m) hK
end RCL
end
section
/-! THE REFERENCE: hours, undo, hold, restore -/
section RCM
variable {H : Ho} {S : Zt} {P : List Zt} {L : Nat → Zt} {s : Nat} {m : dM}
theorem mor_h {T : Zt} {M : dM} (h6 : M.1 70 56 = hoE H) (h7 : M.1 70 57 = 0) : mor H T M = sgA H (hoE H) (szH T) := by
  unfold mor
  rw [h6, h7, decide_eq_false (by decide)]
  rfl
theorem y_goes {x1 : Int32} {n : Nat} {Q : dM → Prop} (hC : CY H S s m) (hO : zOk H S) (h6 : m.1 70 56 = hoE H) (h7 : m.1 70 57 = 0) (hx : x1.toInt = (n : Int)) (hn : n ≤ 72) (hQ : ∀ m' : dM, RsF m m' → CY H (itr H n S) s m' → Q m') : c_X12_goes_70 7 x1 m Q := by
  have loop : ∀ (t i : Nat) (x2 : Int32) (T : Zt) (M : dM), i + t = n → x2.toInt = (i : Int) → RsF m M → CY H T s M → zOk H T → M.1 70 56 = hoE H → M.1 70 57 = 0 → itr H t T = itr H n S → j_X12_goes_70_2 7 x1 x2 M Q := by
    intro t
    induction t with
    | zero =>
      intro i x2 T M hi h2 hF hC' hT a b e
      have e : T = itr H n S := e
      rw [← e] at hQ
      exact v_X12_goes_70_2 ⟨fun _ => hQ M hF hC', fun q => by exfalso; omega⟩
    | succ t ih =>
      intro i x2 T M hi h2 hF hC' hT a b e
      refine v_X12_goes_70_2 ⟨fun q => by exfalso; omega, fun _ => y_hourGoes hC'.1 hC'.2.1 hC'.2.2 hT (fun M1 f1 W1 g1 Z1 L1 => ?_)⟩
      rw [mor_h a b] at Z1 L1
      exact ih (i + 1) _ (hst H T) M1 (by omega) (d_inc h2 (by omega)) (hF.tr f1.rs) ⟨W1, Z1, L1⟩ (hT.h hC.1.1) ((f1.2.1 56 (by decide) (by decide)).trans a) ((f1.2.1 57 (by decide) (by decide)).trans b) e
  exact v_X12_goes_70 (loop n 0 _ S m (by omega) (by decide) (RsF.rf m) hC hO h6 h7 rfl)
theorem y_isLong {x : Int32} {Q : Int32 → dM → Prop} (hT : 0 ≤ x.toInt ∧ x.toInt ≤ 72 → Q 1 m) (hF : ¬ (0 ≤ x.toInt ∧ x.toInt ≤ 72) → Q 0 m) : c_X12_isLong 2 x m Q := by
  have z : (0 : Int32).toInt = 0 := by decide
  have z7 := ti_72
  exact v_X12_isLong (y_in (fun q => ⟨Or.inr rfl, hT (by omega)⟩) (fun q => ⟨Or.inl rfl, hF (by omega)⟩))
theorem q_hours {x1 : Int32} {Q : Int32 → dM → Prop} (hK : KR H S P L s m) (hO : zOk H S) (hQ : ∀ m' : dM, RcF m m' → KR H (aHrs H S P x1).2.1 (aHrs H S P x1).2.2 L s m' → Q (aHrs H S P x1).1 m') : c_X12_hours_70 8 x1 m Q := by
  unfold aHrs at hQ
  refine v_X12_hours_70 (Wp.deep (y_isLong (fun q => ⟨fun _ => ⟨fun n0 => ?_, fun e0 => ?_⟩, fun z => absurd z (by decide)⟩) (fun q => ⟨fun z => absurd rfl z, fun _ => ?_⟩)) (Nat.le_of_ble_eq_true rfl))
  · rw [if_pos q, if_neg n0] at hQ
    have hx := toNat_of q.1
    refine Wp.deep (y_copies hK.1 hK.2.1 (fun M1 f1 cy a b => ?_)) (Nat.le_of_ble_eq_true rfl)
    refine y_goes cy hO a b hx (by omega) (fun M2 f2 cy2 => ?_)
    refine Wp.deep (y_records (hK.rs (f1.tr f2)) cy2.2.1 (fun M3 p q r d => ?_)) (Nat.le_of_ble_eq_true rfl)
    rw [d.2.1.1.1]
    exact hQ M3 ((f1.tr f2).rc.tr (fun k q => p k (by omega) (by omega) (by omega))) d
  · rw [if_pos q, if_pos e0] at hQ
    rw [hK.2.1.1.1]
    exact hQ m (RcF.rf m) hK
  · rw [if_neg q] at hQ
    exact hQ m (RcF.rf m) hK
theorem q_undo {Q : Int32 → dM → Prop} (hK : KR H S P L s m) (hQ : ∀ m' : dM, RcF m m' → KR H (aUnd S P).2.1 (aUnd S P).2.2 L s m' → Q (aUnd S P).1 m') : c_X12_undo_70 1 m Q := by
  obtain ⟨p1, p2, p3⟩ := hK.2.2.1
  refine v_X12_undo_70 ⟨fun ne => ?_, fun ee => ?_⟩
  · match P, p1, p2, p3, hQ with
    | [], p1, _, _, _ => exact absurd p1 ne
    | T :: P', p1, p2, p3, hQ =>
      have hQ : ∀ m' : dM, RcF m m' → KR H T P' L s m' → Q 1 m' := hQ
      rw [List.length_cons] at p1 p2
      have f := dSubE (X := ((P'.length + 1 : Nat) : Int)) (Y := 1) (x := m.1 70 61) (y := (1 : Int32)) p1 (by decide) (by omega) (by omega)
      have hT := p3 0 T rfl
      rw [List.length_cons] at hT
      have f' : (m.1 70 61 - 1).toInt = (P'.length : Int) := by omega
      have loop : ∀ (t i : Nat) (x1 : Int32) (M : dM), i + t = 58 → x1.toInt = (i : Int) → (∀ k : Nat, k ≠ 70 → k ≠ 107 → M.1 k = m.1 k) → (∀ j : Nat, j ≠ 61 → M.1 70 j = m.1 70 j) → (M.1 70 61).toInt = (P'.length : Int) → (∀ j : Nat, j < i → M.1 107 j = m.1 111 (58 * P'.length + j)) → j_X12_undo_70_21 1 x1 M Q := by
        intro t
        induction t with
        | zero =>
          intro i x1 M hi h1 hk hj h61 hv
          refine v_X12_undo_70_21 ⟨fun _ => hQ M (fun k q => hk k (by omega) (by omega)) ⟨⟨hK.1.1, hK.1.2.of (fun k a b => hk k (by omega) (by omega)) (hj 18 (by decide))⟩, ?_, ⟨h61, by omega, fun k U hU => ?_⟩, hK.2.2.2.of (hk 115 (by decide) (by decide)) (hk 116 (by decide) (by decide))⟩, fun q => by exfalso; omega⟩
          · exact (hT.of hK.1.1 (fun j hj' => by rw [hv j (by omega), show P'.length + 1 - 1 - 0 = P'.length by omega])).z
          · have hl2 : k < P'.length := (List.getElem?_eq_some_iff.mp hU).1
            have := p3 (k + 1) U hU
            rw [List.length_cons] at this
            refine this.of hK.1.1 (fun j _ => ?_)
            rw [hk 111 (by decide) (by decide), show P'.length + 1 - 1 - (k + 1) = P'.length - 1 - k by omega]
        | succ t ih =>
          intro i x1 M hi h1 hk hj h61 hv
          have fm := dMulE (X := 58) (Y := (P'.length : Int)) (x := (58 : Int32)) (y := M.1 70 61) (by decide) h61 (by omega) (by omega)
          have fa := dAddE (X := 58 * (P'.length : Int)) (Y := (i : Int)) fm h1 (by omega) (by omega)
          have fa' : ((58 : Int32) * M.1 70 61 + x1).toInt = ((58 * P'.length + i : Nat) : Int) := by rw [fa]; omega
          refine v_X12_undo_70_21 ⟨fun q => by exfalso; omega, fun _ => ⟨by omega, by omega, ?_⟩⟩
          rw [d_cn h1, d_cn fa', hk 111 (by decide) (by decide)]
          refine ih (i + 1) _ _ (by omega) (d_inc h1 (by omega)) (fun k q1 q2 => by rw [dSet_k q2]; exact hk k q1 q2) (fun j q => by rw [dSet_k (by decide)]; exact hj j q) (by rw [dSet_k (by decide)]; exact h61) (fun j hj' => ?_)
          by_cases e : j = i
          · subst e; rw [dSet_s]
          · rw [dSet_j e]; exact hv j (by omega)
      exact loop 58 0 _ _ rfl (by decide) (fun k q _ => dSet_k q) (fun j q => dSet_j q) (by rw [dSet_s]; exact f') (fun j hj' => absurd hj' (Nat.not_lt_zero j))
  · have e : P = [] := List.length_eq_zero_iff.mp (by omega)
    subst e
    exact hQ m (RcF.rf m) hK
theorem q_hold {x1 : Int32} {Q : Int32 → dM → Prop} (hK : KR H S P L s m) (hQ : ∀ (r : Int32) (m' : dM), RcF m m' → KR H S P (lHold L S x1) s m' → Q r m') : c_X12_hold_70 2 x1 m Q := by
  have z0 : (0 : Int32).toInt = 0 := by decide
  have z2 := ti_2
  refine v_X12_hold_70 (y_in (fun q => ⟨fun _ => ⟨by omega, ?_⟩, fun z => absurd z (by decide)⟩) (fun q => ⟨fun z => absurd rfl z, fun _ => hQ _ m (RcF.rf m) ⟨hK.1, hK.2.1, hK.2.2.1, fun i hi hb => ?_⟩⟩))
  · have hx := toNat_of (x := x1) (by omega)
    generalize x1.toNatClampNeg = u at *
    have loop : ∀ (t i : Nat) (x2 : Int32) (M : dM), i + t = 58 → x2.toInt = (i : Int) → (∀ k : Nat, k ≠ 115 → k ≠ 116 → M.1 k = m.1 k) → (∀ j : Nat, j ≠ u → M.1 115 j = m.1 115 j) → (∀ j : Nat, j < i → M.1 116 (58 * u + j) = m.1 107 j) → (∀ j : Nat, (j < 58 * u ∨ 58 * u + 58 ≤ j) → M.1 116 j = m.1 116 j) → j_X12_hold_70_20 2 x1 x2 M Q := by
      intro t
      induction t with
      | zero =>
        intro i x2 M hi h2 hk h115 hv ho
        refine v_X12_hold_70_20 ⟨fun _ => hQ _ M (fun k q => hk k (by omega) (by omega)) ⟨⟨hK.1.1, hK.1.2.of (fun k a b => hk k (by omega) (by omega)) (by rw [hk 70 (by decide) (by decide)])⟩, hK.2.1.of (hk 107 (by decide) (by decide)), hK.2.2.1.of (by rw [hk 70 (by decide) (by decide)]) (hk 111 (by decide) (by decide)), fun i' hi' hb => ?_⟩, fun q => by exfalso; omega⟩
        unfold lHold
        by_cases e : i' = u
        · subst e
          rw [if_pos ⟨by omega, hx⟩]
          exact hK.2.1.f.of hK.1.1 (fun j hj' => hv j (by omega))
        · rw [if_neg (by omega)]
          rw [h115 i' e] at hb
          refine (hK.2.2.2 i' hi' hb).of hK.1.1 (fun j hj' => ho _ ?_)
          omega
      | succ t ih =>
        intro i x2 M hi h2 hk h115 hv ho
        have fm := dMulE (X := 58) (Y := (u : Int)) (x := (58 : Int32)) (y := x1) (by decide) hx (by omega) (by omega)
        have fa := dAddE (X := 58 * (u : Int)) (Y := (i : Int)) fm h2 (by omega) (by omega)
        have fa' : ((58 : Int32) * x1 + x2).toInt = ((58 * u + i : Nat) : Int) := by rw [fa]; omega
        refine v_X12_hold_70_20 ⟨fun q => by exfalso; omega, fun _ => ⟨by omega, by omega, ?_⟩⟩
        rw [d_cn h2, d_cn fa', hk 107 (by decide) (by decide)]
        refine ih (i + 1) _ _ (by omega) (d_inc h2 (by omega)) (fun k q1 q2 => by rw [dSet_k q2]; exact hk k q1 q2) (fun j q => by rw [dSet_k (by decide)]; exact h115 j q) (fun j hj' => ?_) (fun j hj' => ?_)
        · by_cases e : j = i
          · subst e; rw [dSet_s]
          · rw [dSet_j (by omega)]; exact hv j (by omega)
        · rw [dSet_j (by omega)]; exact ho j hj'
    exact loop 58 0 _ _ rfl (by decide) (fun k q1 _ => dSet_k q1) (fun j q => dSet_j q) (fun j hj' => absurd hj' (Nat.not_lt_zero j)) (fun j _ => by rw [dSet_k (by decide)])
  · unfold lHold
    rw [if_neg (by omega)]
    exact hK.2.2.2 i hi hb
theorem q_restore {x1 : Int32} {held : Bool} {Q : Int32 → dM → Prop} (hK : KR H S P L s m) (hh : (0 ≤ x1.toInt ∧ x1.toInt < 3) → ((m.1 115 x1.toNatClampNeg).toInt ≠ 0 ↔ held = true)) (hQ : ∀ (r : Int32) (m' : dM), RcF m m' → KR H (aRes S P L x1 held).1 (aRes S P L x1 held).2 L s m' → Q r m') : c_X12_restore_70 2 x1 m Q := by
  have z0 : (0 : Int32).toInt = 0 := by decide
  have z2 := ti_2
  unfold aRes at hQ
  have no : ¬ ((0 ≤ x1.toInt ∧ x1.toInt < 3) ∧ held = true) → j_X12_restore_70_18 2 m Q := fun q => by
    rw [if_neg q] at hQ
    exact v_X12_restore_70_18 (hQ _ m (RcF.rf m) hK)
  refine v_X12_restore_70 (y_in (fun q => ⟨fun z => absurd z (by decide), fun _ => ⟨by omega, fun ne => ?_, fun ee => no (fun w => (hh w.1).mpr w.2 ee)⟩⟩) (fun q => ⟨fun _ => no (fun w => by omega), fun z => absurd rfl z⟩))
  have hb3 : 0 ≤ x1.toInt ∧ x1.toInt < 3 := by omega
  rw [if_pos ⟨hb3, (hh hb3).mp ne⟩] at hQ
  have hx := toNat_of hb3.1
  have hT := hK.2.2.2 x1.toNatClampNeg (by omega) ne
  generalize x1.toNatClampNeg = u at *
  have loop : ∀ (t i : Nat) (x2 : Int32) (M : dM), i + t = 58 → x2.toInt = (i : Int) → (∀ k : Nat, k ≠ 107 → M.1 k = m.1 k) → (∀ j : Nat, j < i → M.1 107 j = m.1 116 (58 * u + j)) → j_X12_restore_70_22 2 x1 x2 M Q := by
    intro t
    induction t with
    | zero =>
      intro i x2 M hi h2 hk hv
      refine v_X12_restore_70_22 ⟨fun _ => hQ _ _ (fun k q => by rw [dSet_k (by omega)]; exact hk k (by omega)) ⟨⟨hK.1.1, hK.1.2.of (fun k a b => by rw [dSet_k (by omega)]; exact hk k (by omega)) (by rw [dSet_j (by decide), hk 70 (by decide)])⟩, ?_, ⟨by rw [dSet_s]; rfl, Nat.zero_le _, fun k U hU => by cases hU⟩, hK.2.2.2.of (by rw [dSet_k (by decide)]; exact hk 115 (by decide)) (by rw [dSet_k (by decide)]; exact hk 116 (by decide))⟩, fun q => by exfalso; omega⟩
      have : RZ H 107 M (L u) := (hT.of hK.1.1 (fun j hj' => hv j (by omega))).z
      exact this.of (dSet_k (by decide))
    | succ t ih =>
      intro i x2 M hi h2 hk hv
      have fm := dMulE (X := 58) (Y := (u : Int)) (x := (58 : Int32)) (y := x1) (by decide) hx (by omega) (by omega)
      have fa := dAddE (X := 58 * (u : Int)) (Y := (i : Int)) fm h2 (by omega) (by omega)
      have fa' : ((58 : Int32) * x1 + x2).toInt = ((58 * u + i : Nat) : Int) := by rw [fa]; omega
      refine v_X12_restore_70_22 ⟨fun q => by exfalso; omega, fun _ => ⟨by omega, by omega, ?_⟩⟩
      rw [d_cn h2, d_cn fa', hk 116 (by decide)]
      refine ih (i + 1) _ _ (by omega) (d_inc h2 (by omega)) (fun k q => by rw [dSet_k q]; exact hk k q) (fun j hj' => ?_)
      by_cases e : j = i
      · subst e; rw [dSet_s]
      · rw [dSet_j e]; exact hv j (by omega)
  exact loop 58 0 _ m rfl (by decide) (fun _ _ => rfl) (fun j hj' => absurd hj' (Nat.not_lt_zero j))
end RCM
end
