/-! THE WAYS, as a function of the wires' ends and of those that are gone -/
/-- one below n is so; the first that is so -/
def an (p : Nat → Bool) : Nat → Bool
  | 0 => false
  | n + 1 => an p n || p n
def fw (p : Nat → Bool) : Nat → Nat
  | 0 => 0
  | n + 1 => cond (an p n) (fw p n) n
theorem an_iff {p : Nat → Bool} : ∀ (n : Nat), an p n = true ↔ ∃ i : Nat, i < n ∧ p i = true
  | 0 => ⟨fun h => (by cases h), fun ⟨i, h, _⟩ => (by omega)⟩
  | n + 1 => by
    have ih := an_iff (p := p) n
    show (an p n || p n) = true ↔ _
    rw [Bool.or_eq_true, ih]
    constructor
    · rintro (⟨i, h1, h2⟩ | h)
      · exact ⟨i, by omega, h2⟩
      · exact ⟨n, by omega, h⟩
    · rintro ⟨i, h1, h2⟩
      by_cases e : i = n
      · subst e; exact Or.inr h2
      · exact Or.inl ⟨i, by omega, h2⟩
theorem an_no {p : Nat → Bool} {n : Nat} : an p n = false ↔ ∀ i : Nat, i < n → p i = false := by
  constructor
  · intro h i hi
    cases e : p i with
    | false => rfl
    | true =>
      have := (an_iff n).mpr ⟨i, hi, e⟩
      rw [h] at this
      cases this
  · intro h
    cases e : an p n with
    | false => rfl
    | true =>
      obtain ⟨i, h1, h2⟩ := (an_iff n).mp e
      rw [h i h1] at h2
      cases h2
theorem fw_eq {p : Nat → Bool} {i : Nat} (hp : p i = true) (hj : ∀ j : Nat, j < i → p j = false) : ∀ (n : Nat), i < n → fw p n = i
  | 0, h => by omega
  | n + 1, h => by
    show cond (an p n) (fw p n) n = i
    by_cases e : i = n
    · subst e
      rw [an_no.mpr hj, cond_false]
    · rw [(an_iff n).mpr ⟨i, by omega, hp⟩, cond_true]
      exact fw_eq hp hj n (by omega)
theorem fw_ok {p : Nat → Bool} : ∀ (n : Nat), an p n = true → fw p n < n ∧ p (fw p n) = true ∧ ∀ j : Nat, j < fw p n → p j = false
  | 0, h => by cases h
  | n + 1, h => by
    show cond (an p n) (fw p n) n < n + 1 ∧ p (cond (an p n) (fw p n) n) = true ∧ ∀ j : Nat, j < cond (an p n) (fw p n) n → p j = false
    cases e : an p n with
    | true =>
      have := fw_ok n e
      rw [cond_true]
      exact ⟨by omega, this.2⟩
    | false =>
      have h : (an p n || p n) = true := h
      rw [e, Bool.false_or] at h
      rw [cond_false]
      exact ⟨by omega, h, an_no.mp e⟩
section WAY
variable (nf nw : Nat) (e1 e2 : Nat → Nat) (G : Nat → Bool)
def ot (w f : Nat) : Nat := if e1 w = f then e2 w else e1 w
def tch (w f : Nat) : Bool := !G w && (decide (e1 w = f) || decide (e2 w = f))
/-- a wire brings f from those that are n away -/
def br (d : Nat → Nat) (n f w : Nat) : Bool := tch e1 e2 G w f && decide (d (ot e1 e2 w f) = n)
/-- how far a flat is, as far as n rounds tell; 99: away -/
def dst : Nat → Nat → Nat
  | 0, f => if f = 0 ∧ 0 < nf then 0 else 99
  | n + 1, f => if dst n f = 99 ∧ an (br e1 e2 G (dst n) n f) nw = true then n + 1 else dst n f
/-- within round n + 1, behind k wires -/
def dsk (n k f : Nat) : Nat := if dst nf nw e1 e2 G n f = 99 ∧ an (br e1 e2 G (dst nf nw e1 e2 G n) n f) k = true then n + 1 else dst nf nw e1 e2 G n f
/-- how far; the wire of its way; the wires of its way -/
def dD (f : Nat) : Nat := dst nf nw e1 e2 G 6 f
def nxp (f w : Nat) : Bool := tch e1 e2 G w f && decide (dD nf nw e1 e2 G (ot e1 e2 w f) + 1 = dD nf nw e1 e2 G f)
def nx (f : Nat) : Nat := fw (nxp nf nw e1 e2 G f) nw
def vN : Nat → Nat → Int32
  | 0, _ => 0
  | k + 1, f => b1 (nx nf nw e1 e2 G f) ||| vN k (ot e1 e2 (nx nf nw e1 e2 G f) f)
def via (f : Nat) : Int32 := if dD nf nw e1 e2 G f = 99 then 0 else vN nf nw e1 e2 G (dD nf nw e1 e2 G f) f
end WAY
section WAL
variable {nf nw : Nat} {e1 e2 : Nat → Nat} {G : Nat → Bool}
theorem dst_s {n f : Nat} : dst nf nw e1 e2 G (n + 1) f = if dst nf nw e1 e2 G n f = 99 ∧ an (br e1 e2 G (dst nf nw e1 e2 G n) n f) nw = true then n + 1 else dst nf nw e1 e2 G n f := rfl
theorem dsk_0 {n f : Nat} : dsk nf nw e1 e2 G n 0 f = dst nf nw e1 e2 G n f := by
  unfold dsk
  rw [if_neg (fun h => by cases h.2)]
theorem dsk_w {n f : Nat} : dsk nf nw e1 e2 G n nw f = dst nf nw e1 e2 G (n + 1) f := rfl
theorem dst_le : ∀ (n f : Nat), dst nf nw e1 e2 G n f ≤ n ∨ dst nf nw e1 e2 G n f = 99
  | 0, f => by unfold dst; split <;> omega
  | n + 1, f => by
    have := dst_le n f
    rw [dst_s]
    split <;> omega
theorem dst_keep {n f : Nat} (h : dst nf nw e1 e2 G n f ≠ 99) : ∀ (k : Nat), dst nf nw e1 e2 G (n + k) f = dst nf nw e1 e2 G n f
  | 0 => rfl
  | k + 1 => by
    show dst nf nw e1 e2 G ((n + k) + 1) f = _
    rw [dst_s, dst_keep h k, if_neg (fun q => h q.1)]
/-- a level is known when its round is done -/
theorem dst_lvl {l f : Nat} (hl : l < 99) : ∀ (k : Nat), dst nf nw e1 e2 G (l + k) f = l ↔ dst nf nw e1 e2 G l f = l
  | 0 => Iff.rfl
  | k + 1 => by
    have ih := dst_lvl (f := f) hl k
    show dst nf nw e1 e2 G ((l + k) + 1) f = l ↔ _
    rw [dst_s]
    constructor
    · intro h
      split at h
      · omega
      · exact ih.mp h
    · intro h
      rw [if_neg (fun q => by have := ih.mpr h; omega)]
      exact ih.mpr h
theorem dD_lvl {l f : Nat} (hl : l ≤ 6) : dD nf nw e1 e2 G f = l ↔ dst nf nw e1 e2 G l f = l := by
  have := dst_lvl (nf := nf) (nw := nw) (e1 := e1) (e2 := e2) (G := G) (l := l) (f := f) (by omega) (6 - l)
  rw [show l + (6 - l) = 6 by omega] at this
  exact this
theorem dst_far (hE : ∀ w : Nat, w < nw → e1 w < nf ∧ e2 w < nf) {f : Nat} (hf : nf ≤ f) : ∀ (n : Nat), dst nf nw e1 e2 G n f = 99
  | 0 => by unfold dst; rw [if_neg (by omega)]
  | n + 1 => by
    rw [dst_s, if_neg, dst_far hE hf n]
    rintro ⟨_, h⟩
    obtain ⟨w, hw, hb⟩ := (an_iff nw).mp h
    unfold br tch at hb
    have := hE w hw
    simp at hb
    omega
/-- nothing new: nothing new later -/
theorem dst_stop {n : Nat} (h : ∀ f : Nat, dst nf nw e1 e2 G (n + 1) f = dst nf nw e1 e2 G n f) : ∀ (k : Nat), n + k < 99 → ∀ f : Nat, dst nf nw e1 e2 G (n + k) f = dst nf nw e1 e2 G n f
  | 0, _, f => rfl
  | 1, _, f => h f
  | k + 2, hk, f => by
    have ih := dst_stop h (k + 1) (by omega)
    show dst nf nw e1 e2 G ((n + (k + 1)) + 1) f = _
    rw [dst_s, ih f, if_neg]
    rintro ⟨_, hb⟩
    obtain ⟨w, hw, hb⟩ := (an_iff nw).mp hb
    unfold br at hb
    rw [Bool.and_eq_true, decide_eq_true_eq, ih] at hb
    have := dst_le (nf := nf) (nw := nw) (e1 := e1) (e2 := e2) (G := G) n (ot e1 e2 w f)
    have := hb.2
    omega
/-- how many of n are so -/
def cn (p : Nat → Bool) : Nat → Nat
  | 0 => 0
  | n + 1 => cn p n + cond (p n) 1 0
theorem cn_le {p : Nat → Bool} : ∀ (n : Nat), cn p n ≤ n
  | 0 => Nat.le_refl _
  | n + 1 => by
    have := cn_le (p := p) n
    show cn p n + cond (p n) 1 0 ≤ n + 1
    cases p n <;> simp <;> omega
theorem cn_all {p : Nat → Bool} : ∀ (n : Nat), cn p n = n → ∀ i : Nat, i < n → p i = true
  | 0, _, i, hi => by omega
  | n + 1, h, i, hi => by
    have h : cn p n + cond (p n) 1 0 = n + 1 := h
    have := cn_le (p := p) n
    cases e : p n with
    | false => rw [e] at h; simp at h; omega
    | true =>
      rw [e] at h
      by_cases q : i = n
      · subst q; exact e
      · exact cn_all n (by simp at h; omega) i (by omega)
theorem cn_mono {p q : Nat → Bool} (h : ∀ i : Nat, p i = true → q i = true) : ∀ (n : Nat), cn p n ≤ cn q n
  | 0 => Nat.le_refl _
  | n + 1 => by
    have := cn_mono h n
    show cn p n + cond (p n) 1 0 ≤ cn q n + cond (q n) 1 0
    have := h n
    cases e : p n with
    | false => simp; omega
    | true => rw [this e]; simp; omega
theorem cn_more {p q : Nat → Bool} (h : ∀ i : Nat, p i = true → q i = true) {j : Nat} (h1 : p j = false) (h2 : q j = true) : ∀ (n : Nat), j < n → cn p n + 1 ≤ cn q n
  | 0, hj => by omega
  | n + 1, hj => by
    show cn p n + cond (p n) 1 0 + 1 ≤ cn q n + cond (q n) 1 0
    by_cases e : j = n
    · subst e
      have := cn_mono h j
      rw [h1, h2]
      simp
      omega
    · have := cn_more h h1 h2 n (by omega)
      have := h n
      cases e2 : p n with
      | false => simp; omega
      | true => rw [this e2]; simp; omega
/-- the flats that are reached -/
def rcd (d : Nat → Nat) (f : Nat) : Bool := decide (d f ≠ 99)
/-- all are reached: nothing new -/
theorem dst_full (hE : ∀ w : Nat, w < nw → e1 w < nf ∧ e2 w < nf) {n : Nat} (h : ∀ f : Nat, f < nf → dst nf nw e1 e2 G n f ≠ 99) (f : Nat) : dst nf nw e1 e2 G (n + 1) f = dst nf nw e1 e2 G n f := by
  by_cases q : f < nf
  · exact dst_keep (h f q) 1
  · rw [dst_far hE (by omega), dst_far hE (by omega)]
theorem rcd_mono {n : Nat} (f : Nat) (h : rcd (dst nf nw e1 e2 G n) f = true) : rcd (dst nf nw e1 e2 G (n + 1)) f = true := by
  unfold rcd at *
  rw [decide_eq_true_eq] at *
  rw [show n + 1 = n + 1 from rfl, dst_keep h 1]
  exact h
/-- the last round that the one does tells all -/
theorem dst_end (hE : ∀ w : Nat, w < nw → e1 w < nf ∧ e2 w < nf) {n : Nat} (hn : n ≤ 6) (hc : n + 1 ≤ cn (rcd (dst nf nw e1 e2 G n)) nf) (h : nf ≤ n + 1) (f : Nat) : dst nf nw e1 e2 G n f = dD nf nw e1 e2 G f := by
  have h1 := cn_le (p := rcd (dst nf nw e1 e2 G n)) nf
  have h2 := cn_all nf (by omega : cn (rcd (dst nf nw e1 e2 G n)) nf = nf)
  have h3 := dst_stop (dst_full hE (n := n) (G := G) (fun f hf => by
    have := h2 f hf
    unfold rcd at this
    exact of_decide_eq_true this)) (6 - n) (by omega) f
  rw [show n + (6 - n) = 6 by omega] at h3
  exact h3.symm
theorem dst_end0 {n : Nat} (hn : n ≤ 6) (h : ∀ f : Nat, dst nf nw e1 e2 G (n + 1) f = dst nf nw e1 e2 G n f) (f : Nat) : dst nf nw e1 e2 G (n + 1) f = dD nf nw e1 e2 G f := by
  have h3 := dst_stop h (6 - n) (by omega) f
  rw [show n + (6 - n) = 6 by omega] at h3
  rw [h f]
  exact h3.symm
/-- one more: the count grows -/
theorem dst_grow (hE : ∀ w : Nat, w < nw → e1 w < nf ∧ e2 w < nf) {n j : Nat} (hc : n + 1 ≤ cn (rcd (dst nf nw e1 e2 G n)) nf) (hj : dst nf nw e1 e2 G (n + 1) j ≠ dst nf nw e1 e2 G n j) : n + 2 ≤ cn (rcd (dst nf nw e1 e2 G (n + 1))) nf := by
  have h1 : dst nf nw e1 e2 G n j = 99 := by
    by_cases q : dst nf nw e1 e2 G n j = 99
    · exact q
    · exact absurd (dst_keep q 1) hj
  have hl : j < nf := by
    by_cases q : j < nf
    · exact q
    · exact absurd (by rw [dst_far hE (by omega), dst_far hE (by omega)]) hj
  have := cn_more (p := rcd (dst nf nw e1 e2 G n)) (q := rcd (dst nf nw e1 e2 G (n + 1))) rcd_mono (j := j) (by unfold rcd; simp [h1]) (by unfold rcd; rw [decide_eq_true_eq, ← h1]; exact hj) nf hl
  omega
/-- a wire more within a round -/
theorem dsk_s {n k f : Nat} (hn : n < 98) : dsk nf nw e1 e2 G n (k + 1) f = if dsk nf nw e1 e2 G n k f = 99 ∧ br e1 e2 G (dst nf nw e1 e2 G n) n f k = true then n + 1 else dsk nf nw e1 e2 G n k f := by
  unfold dsk
  have ea : an (br e1 e2 G (dst nf nw e1 e2 G n) n f) (k + 1) = (an (br e1 e2 G (dst nf nw e1 e2 G n) n f) k || br e1 e2 G (dst nf nw e1 e2 G n) n f k) := rfl
  rw [ea]
  generalize dst nf nw e1 e2 G n f = A
  generalize an (br e1 e2 G (dst nf nw e1 e2 G n) n f) k = X
  generalize br e1 e2 G (dst nf nw e1 e2 G n) n f k = B
  by_cases h1 : A = 99
  · cases X <;> cases B <;> simp [h1] <;> omega
  · simp [h1]
theorem dsk_lvl {n k f : Nat} (hn : n < 98) : dsk nf nw e1 e2 G n k f = n ↔ dst nf nw e1 e2 G n f = n := by
  unfold dsk
  split
  · rename_i h
    have := dst_le (nf := nf) (nw := nw) (e1 := e1) (e2 := e2) (G := G) n f
    constructor
    · intro q; omega
    · intro q; exfalso; have := h.1; omega
  · exact Iff.rfl
/-- its way: the first wire to one that is nearer -/
theorem nx_ok {n f : Nat} (hn : n < 6) (h : dD nf nw e1 e2 G f = n + 1) : nx nf nw e1 e2 G f < nw ∧ tch e1 e2 G (nx nf nw e1 e2 G f) f = true ∧ dD nf nw e1 e2 G (ot e1 e2 (nx nf nw e1 e2 G f) f) = n := by
  have h1 := (dD_lvl (f := f) (by omega : n + 1 ≤ 6)).mp h
  rw [dst_s] at h1
  have ex : an (nxp nf nw e1 e2 G f) nw = true := by
    split at h1
    · rename_i q
      obtain ⟨w, hw, hb⟩ := (an_iff nw).mp q.2
      refine (an_iff nw).mpr ⟨w, hw, ?_⟩
      unfold br at hb
      unfold nxp
      rw [Bool.and_eq_true, decide_eq_true_eq] at hb ⊢
      exact ⟨hb.1, by rw [h, (dD_lvl (by omega : n ≤ 6)).mpr hb.2]⟩
    · have := dst_le (nf := nf) (nw := nw) (e1 := e1) (e2 := e2) (G := G) n f
      omega
  obtain ⟨a, b, c⟩ := fw_ok nw ex
  unfold nxp at b
  rw [Bool.and_eq_true, decide_eq_true_eq] at b
  exact ⟨a, b.1, by unfold nx nxp; have := b.2; unfold nxp at *; omega⟩
theorem via_s {n f : Nat} (hn : n < 6) (h : dD nf nw e1 e2 G f = n + 1) : via nf nw e1 e2 G f = b1 (nx nf nw e1 e2 G f) ||| via nf nw e1 e2 G (ot e1 e2 (nx nf nw e1 e2 G f) f) := by
  have h2 := (nx_ok hn h).2.2
  unfold via
  rw [if_neg (by omega), if_neg (by omega), h, h2]
  rfl
theorem via_0 {f : Nat} (h : dD nf nw e1 e2 G f = 0) : via nf nw e1 e2 G f = 0 := by
  unfold via
  rw [if_neg (by omega), h]
  rfl
theorem via_99 {f : Nat} (h : dD nf nw e1 e2 G f = 99) : via nf nw e1 e2 G f = 0 := by
  unfold via
  rw [if_pos h]
theorem dD_le {f : Nat} : dD nf nw e1 e2 G f ≤ 6 ∨ dD nf nw e1 e2 G f = 99 := dst_le 6 f
/-- a way goes by whole wires alone -/
theorem via_whole (hw : nw ≤ 32) : ∀ (n f w : Nat), dD nf nw e1 e2 G f = n → bt (via nf nw e1 e2 G f) w = true → w < nw ∧ G w = false
  | 0, f, w, h, hb' => by rw [via_0 h, bt_0] at hb'; cases hb'
  | n + 1, f, w, h, hb' => by
    rcases dD_le (nf := nf) (nw := nw) (e1 := e1) (e2 := e2) (G := G) (f := f) with q | q
    · have hn : n < 6 := by omega
      obtain ⟨a, b, c⟩ := nx_ok hn h
      rw [via_s hn h, bt_or, bt_1 (by omega)] at hb'
      by_cases e : w = nx nf nw e1 e2 G f
      · subst e
        unfold tch at b
        rw [Bool.and_eq_true] at b
        exact ⟨a, by simpa using b.1⟩
      · rw [decide_eq_false e, Bool.false_or] at hb'
        exact via_whole hw n _ w c hb'
    · rw [via_99 q, bt_0] at hb'; cases hb'
theorem cn_pos {p : Nat → Bool} {j : Nat} (h : p j = true) : ∀ (n : Nat), j < n → 1 ≤ cn p n
  | 0, hj => by omega
  | n + 1, hj => by
    show 1 ≤ cn p n + cond (p n) 1 0
    by_cases e : j = n
    · subst e; rw [h]; simp
    · have := cn_pos h n (by omega); omega
/-- a flat that is reached anew: how far it is, and by which wire -/
theorem dsk_new {n k f : Nat} (hn : n < 6) (hk : k < nw) (h99 : dsk nf nw e1 e2 G n k f = 99) (hb : br e1 e2 G (dst nf nw e1 e2 G n) n f k = true) : dD nf nw e1 e2 G f = n + 1 ∧ nx nf nw e1 e2 G f = k := by
  have h9 : dst nf nw e1 e2 G n f = 99 ∧ an (br e1 e2 G (dst nf nw e1 e2 G n) n f) k = false := by
    unfold dsk at h99
    split at h99
    · omega
    · rename_i q
      refine ⟨h99, ?_⟩
      cases e : an (br e1 e2 G (dst nf nw e1 e2 G n) n f) k with
      | false => rfl
      | true => exact absurd ⟨h99, e⟩ q
  have h1 : dst nf nw e1 e2 G (n + 1) f = n + 1 := by
    rw [dst_s, if_pos ⟨h9.1, (an_iff nw).mpr ⟨k, hk, hb⟩⟩]
  have hD := (dD_lvl (f := f) (by omega : n + 1 ≤ 6)).mpr h1
  refine ⟨hD, fw_eq ?_ (fun j hj => ?_) nw hk⟩
  · unfold br at hb
    unfold nxp
    rw [Bool.and_eq_true, decide_eq_true_eq] at hb ⊢
    exact ⟨hb.1, by rw [hD, (dD_lvl (by omega : n ≤ 6)).mpr hb.2]⟩
  · have := an_no.mp h9.2 j hj
    cases e : nxp nf nw e1 e2 G f j with
    | false => rfl
    | true =>
      exfalso
      unfold nxp at e
      rw [Bool.and_eq_true, decide_eq_true_eq, hD] at e
      have z : br e1 e2 G (dst nf nw e1 e2 G n) n f j = true := by
        unfold br
        rw [Bool.and_eq_true, decide_eq_true_eq]
        exact ⟨e.1, (dD_lvl (by omega : n ≤ 6)).mp (by omega)⟩
      rw [z] at this
      cases this
/-- a wire brings one, or none -/
theorem br_ends {d : Nat → Nat} {n k f : Nat} (b : br e1 e2 G d n f k = true) : G k = false ∧ ((f = e1 k ∧ d (e2 k) = n) ∨ (f = e2 k ∧ d (e1 k) = n)) := by
  unfold br tch ot at b
  rw [Bool.and_eq_true, decide_eq_true_eq, Bool.and_eq_true, Bool.or_eq_true, decide_eq_true_eq, decide_eq_true_eq] at b
  obtain ⟨⟨b0, b1'⟩, b2'⟩ := b
  refine ⟨by simpa using b0, ?_⟩
  by_cases e : e1 k = f
  · rw [if_pos e] at b2'; exact Or.inl ⟨e.symm, b2'⟩
  · rw [if_neg e] at b2'; exact Or.inr ⟨by omega, b2'⟩
theorem dsk_set {n k f0 g0 : Nat} (hn : n < 98) (hG : G k = false) (hE : (e1 k = f0 ∧ e2 k = g0) ∨ (e2 k = f0 ∧ e1 k = g0)) (hne : f0 ≠ g0) (hf : dsk nf nw e1 e2 G n k f0 = 99) (hg : dst nf nw e1 e2 G n g0 = n) (f : Nat) : dsk nf nw e1 e2 G n (k + 1) f = if f = f0 then n + 1 else dsk nf nw e1 e2 G n k f := by
  have hot : ot e1 e2 k f0 = g0 := by unfold ot; split <;> omega
  have hbr : br e1 e2 G (dst nf nw e1 e2 G n) n f0 k = true := by
    unfold br tch
    rw [hG, hot, hg]
    rcases hE with q | q <;> simp [q.1]
  rw [dsk_s hn]
  by_cases e : f = f0
  · subst e
    rw [if_pos ⟨hf, hbr⟩, if_pos rfl]
  · rw [if_neg e, if_neg]
    rintro ⟨a, b⟩
    have hfg : f = g0 := by have := (br_ends b).2; omega
    rw [hfg] at a
    have := (dsk_lvl (k := k) (f := g0) (nf := nf) (nw := nw) (e1 := e1) (e2 := e2) (G := G) hn).mpr hg
    omega
theorem dsk_gone {n k : Nat} (hn : n < 98) (hG : G k = true) (f : Nat) : dsk nf nw e1 e2 G n (k + 1) f = dsk nf nw e1 e2 G n k f := by
  rw [dsk_s hn, if_neg]
  rintro ⟨_, b⟩
  have := (br_ends b).1
  rw [hG] at this
  cases this
theorem dsk_same {n k : Nat} (hn : n < 98) (h1 : ¬ (dsk nf nw e1 e2 G n k (e1 k) = 99 ∧ dsk nf nw e1 e2 G n k (e2 k) = n)) (h2 : ¬ (dsk nf nw e1 e2 G n k (e2 k) = 99 ∧ dsk nf nw e1 e2 G n k (e1 k) = n)) (f : Nat) : dsk nf nw e1 e2 G n (k + 1) f = dsk nf nw e1 e2 G n k f := by
  rw [dsk_s hn, if_neg]
  rintro ⟨a, b⟩
  rcases (br_ends b).2 with ⟨c, d⟩ | ⟨c, d⟩
  · subst c; exact h1 ⟨a, (dsk_lvl hn).mpr d⟩
  · subst c; exact h2 ⟨a, (dsk_lvl hn).mpr d⟩
end WAL
