/-! THE ENGINE, 2: lists that answer to lists; cells, locals, stacks. -/
def eAll {α β : Type} (r : α → β → Prop) : List α → List β → Prop
  | [], [] => True
  | a :: as, b :: bs => r a b ∧ eAll r as bs
  | [], _ :: _ => False
  | _ :: _, [] => False
section EAL
variable {α β : Type} {r : α → β → Prop}
theorem eAll_cons {a : α} {as : List α} {bs : List β} (h : eAll r (a :: as) bs) : ∃ (b : β) (bs' : List β), bs = b :: bs' ∧ r a b ∧ eAll r as bs' := by
  match bs, h with
  | b :: bs', h => exact ⟨b, bs', rfl, h.1, h.2⟩
theorem eAll_nil {bs : List β} (h : eAll r ([] : List α) bs) : bs = [] := by
  match bs, h with
  | [], _ => rfl
theorem eAll_len : ∀ {as : List α} {bs : List β}, eAll r as bs → as.length = bs.length
  | [], [], _ => rfl
  | _ :: as, _ :: bs, h => by simp [eAll_len (as := as) (bs := bs) h.2]
theorem eAll_get : ∀ {as : List α} {bs : List β}, eAll r as bs → ∀ {k : Nat} {a : α}, as[k]? = some a → ∃ b, bs[k]? = some b ∧ r a b
  | [], [], _, k, a, hk => by simp at hk
  | a' :: as, b' :: bs, h, 0, a, hk => by simp at hk; subst hk; exact ⟨b', by simp, h.1⟩
  | a' :: as, b' :: bs, h, k + 1, a, hk => by
    simp at hk
    obtain ⟨b, h1, h2⟩ := eAll_get h.2 hk
    exact ⟨b, by simpa using h1, h2⟩
theorem eAll_getR : ∀ {as : List α} {bs : List β}, eAll r as bs → ∀ {k : Nat} {b : β}, bs[k]? = some b → ∃ a, as[k]? = some a ∧ r a b
  | [], [], _, k, b, hk => by simp at hk
  | a' :: as, b' :: bs, h, 0, b, hk => by simp at hk; subst hk; exact ⟨a', by simp, h.1⟩
  | a' :: as, b' :: bs, h, k + 1, b, hk => by
    simp at hk
    obtain ⟨a, h1, h2⟩ := eAll_getR h.2 hk
    exact ⟨a, by simpa using h1, h2⟩
theorem eAll_set : ∀ {as : List α} {bs : List β}, eAll r as bs → ∀ (k : Nat) {a : α} {b : β}, r a b → eAll r (as.set k a) (bs.set k b)
  | [], [], _, _, _, _, _ => trivial
  | _ :: _, _ :: _, h, 0, _, _, hr => ⟨hr, h.2⟩
  | _ :: _, _ :: _, h, k + 1, _, _, hr => ⟨h.1, eAll_set h.2 k hr⟩
theorem eAll_app : ∀ {as : List α} {bs : List β} {cs : List α} {ds : List β}, eAll r as bs → eAll r cs ds → eAll r (as ++ cs) (bs ++ ds)
  | [], [], _, _, _, h2 => h2
  | _ :: _, _ :: _, _, _, h, h2 => ⟨h.1, eAll_app h.2 h2⟩
theorem eAll_mono {r' : α → β → Prop} (hm : ∀ a b, r a b → r' a b) : ∀ {as : List α} {bs : List β}, eAll r as bs → eAll r' as bs
  | [], [], _ => trivial
  | _ :: _, _ :: _, h => ⟨hm _ _ h.1, eAll_mono hm h.2⟩
theorem eAll_filter {f : α → Bool} {g : β → Bool} (hm : ∀ a b, r a b → f a = g b) : ∀ {as : List α} {bs : List β}, eAll r as bs → eAll r (as.filter f) (bs.filter g)
  | [], [], _ => trivial
  | a :: as, b :: bs, h => by
    have e := hm a b h.1
    cases hg : g b with
    | true => rw [List.filter_cons_of_pos (by rw [e, hg]), List.filter_cons_of_pos hg]; exact ⟨h.1, eAll_filter hm h.2⟩
    | false => rw [List.filter_cons_of_neg (by rw [e, hg]; decide), List.filter_cons_of_neg (by rw [hg]; decide)]; exact eAll_filter hm h.2
theorem eAll_mem : ∀ {as : List α} {bs : List β}, eAll r as bs → ∀ {a : α}, a ∈ as → ∃ b, b ∈ bs ∧ r a b := by
  intro as bs h a ha
  obtain ⟨k, hk⟩ := List.getElem?_of_mem ha
  obtain ⟨b, h1, h2⟩ := eAll_get h hk
  exact ⟨b, List.mem_of_getElem? h1, h2⟩
theorem eAll_rev {as : List α} {bs : List β} (h : eAll r as bs) : eAll r as.reverse bs.reverse := by
  induction as generalizing bs with
  | nil => rw [eAll_nil h]; trivial
  | cons a as ih =>
    obtain ⟨b, bs', rfl, h1, h2⟩ := eAll_cons h
    simp only [List.reverse_cons]
    exact eAll_app (ih h2) ⟨h1, trivial⟩
end EAL
theorem eOk_ad {ad ad' : List Nat} {σ : Nat → Int} (hp : ∃ t, ad' = ad ++ t) {v : eV} {w : Value} (h : eOk ad σ v w) : eOk ad' σ v w := by
  match v, h with
  | .inl q, h => exact h
  | .inr (.inl none), h => exact h
  | .inr (.inl (some k)), ⟨a, h1, h2⟩ =>
    obtain ⟨t, rfl⟩ := hp
    refine ⟨a, ?_, h2⟩
    rw [List.getElem?_append_left (List.getElem?_eq_some_iff.mp h1).1]
    exact h1
  | .inr (.inr _), h => exact h
/-- arrays: 0 ints, 1 bytes, 2 booleans, 3 longs, 4 rows of ints -/
def eTy (k : Nat) : FieldType := match k with
  | 0 => .int
  | 1 => .byte
  | 2 => .boolean
  | 3 => .long
  | _ => .array .int
def eCt (ad : List Nat) (σ : Nat → Int) (n : Nat) (f : Nat → Int32) (c : List eV ⊕ (Int × Int)) : Prop := match c with
  | .inl es => ∀ j, j < n → ∃ v, es[j]? = some v ∧ eOk ad σ v (.int (f j))
  | .inr q => ∀ j, j < n → q.1 ≤ (f j).toInt ∧ (f j).toInt ≤ q.2
def eAr (ad : List Nat) (σ : Nat → Int) (k n : Nat) (c : List eV ⊕ (Int × Int)) (cA : ClassId) (e : va_E) : Prop := match k with
  | 3 => ∃ f : Nat → Int64, e = .inl (cA, n, .inr (.inl f)) ∧ match c with
    | .inl es => ∀ j, j < n → ∃ v, es[j]? = some v ∧ eOk ad σ v (.long (f j))
    | .inr _ => True
  | 4 => ∃ f : Nat → Option Nat, e = .inl (cA, n, .inr (.inr (.inr (.inr f)))) ∧ match c with
    | .inl es => ∀ j, j < n → ∃ v, es[j]? = some v ∧ eOk ad σ v (va_rf (f j))
    | .inr _ => True
  | _ => ∃ f : Nat → Int32, e = .inl (cA, n, .inl f) ∧ eCt ad σ n f c
def eCk (ad : List Nat) (σ : Nat → Int) (tys : List (ClassId × FieldType)) (c : eC) (q : Nat × va_E) : Prop := match c with
  | .inl o => ∃ vs : List Value, q.2 = .inr (o.1, vs) ∧ eAll (eOk ad σ) o.2 vs
  | .inr a => ∃ (cA : ClassId) (t0 : Nat), tys[t0]? = some (cA, eTy a.1) ∧ a.2.1 < 2 ^ 31 ∧ eAr ad σ a.1 a.2.1 a.2.2 cA q.2
theorem eAr_ad {ad ad' : List Nat} {σ : Nat → Int} (hp : ∃ t, ad' = ad ++ t) {k n : Nat} {c : List eV ⊕ (Int × Int)} {cA : ClassId} {e : va_E} (h : eAr ad σ k n c cA e) : eAr ad' σ k n c cA e := by
  unfold eAr at h ⊢
  split at h
  · obtain ⟨f, h1, h2⟩ := h
    refine ⟨f, h1, ?_⟩
    cases c with
    | inl es => exact fun j hj => by obtain ⟨v, g1, g2⟩ := h2 j hj; exact ⟨v, g1, eOk_ad hp g2⟩
    | inr q => trivial
  · obtain ⟨f, h1, h2⟩ := h
    refine ⟨f, h1, ?_⟩
    cases c with
    | inl es => exact fun j hj => by obtain ⟨v, g1, g2⟩ := h2 j hj; exact ⟨v, g1, eOk_ad hp g2⟩
    | inr q => trivial
  · obtain ⟨f, h1, h2⟩ := h
    refine ⟨f, h1, ?_⟩
    cases c with
    | inl es => exact fun j hj => by obtain ⟨v, g1, g2⟩ := h2 j hj; exact ⟨v, g1, eOk_ad hp g2⟩
    | inr q => exact h2
theorem eCk_ad {ad ad' : List Nat} {σ : Nat → Int} {tys tys' : List (ClassId × FieldType)} (hp : ∃ t, ad' = ad ++ t) (ht : ∃ t, tys' = tys ++ t) {c : eC} {q : Nat × va_E} (h : eCk ad σ tys c q) : eCk ad' σ tys' c q := by
  match c, h with
  | .inl o, ⟨vs, h1, h2⟩ => exact ⟨vs, h1, eAll_mono (fun _ _ => eOk_ad hp) h2⟩
  | .inr a, ⟨cA, t0, h1, h2, h3⟩ =>
    obtain ⟨t, rfl⟩ := ht
    exact ⟨cA, t0, by rw [List.getElem?_append_left (List.getElem?_eq_some_iff.mp h1).1]; exact h1, h2, eAr_ad hp h3⟩
abbrev eH : Type := List eC
abbrev eL : Type := List (Nat × eV)
/-- a place in a method: where, locals, stack, cells, how many cells and slots it has made -/
abbrev eS : Type := Nat × eL × List eV × eH × Nat × Nat
def eLo (ad : List Nat) (σ : Nat → Int) (q : Nat × eV) (w : Nat × Value) : Prop := q.1 = w.1 ∧ eOk ad σ q.2 w.2
def eGet (l : eL) (i : Nat) : Option eV := match l with
  | [] => none
  | q :: l => cond (Nat.beq q.1 i) (some q.2) (eGet l i)
theorem eGet_ok {ad : List Nat} {σ : Nat → Int} : ∀ {l : eL} {lv : List (Nat × Value)} {i : Nat} {v : eV}, eAll (eLo ad σ) l lv → eGet l i = some v → ∃ w, (i, w) ∈ lv ∧ eOk ad σ v w
  | [], _, i, v, h, hg => by simp [eGet] at hg
  | q :: l, lv, i, v, h, hg => by
    obtain ⟨b, bs, rfl, h1, h2⟩ := eAll_cons h
    unfold eGet at hg
    cases hb : Nat.beq q.1 i with
    | true =>
      rw [hb] at hg
      have e := Nat.eq_of_beq_eq_true hb
      simp only [cond_true, Option.some.injEq] at hg
      subst hg
      refine ⟨b.2, ?_, h1.2⟩
      rw [← e, h1.1]
      exact List.mem_cons_self
    | false =>
      rw [hb] at hg
      obtain ⟨w, g1, g2⟩ := eGet_ok h2 hg
      exact ⟨w, List.mem_cons_of_mem _ g1, g2⟩
def ePut (l : eL) (i : Nat) (v : eV) : eL := (i, v) :: l.filter (fun q => !(q.1 == i) && !(q.1 + 1 == i && eCat q.2 == 2))
def ePut2 (l : eL) (i : Nat) (v : eV) : eL := (i, v) :: l.filter (fun q => !(q.1 == i) && (!(q.1 == i + 1) && !(q.1 + 1 == i && eCat q.2 == 2)))
theorem ePut_ok {ad : List Nat} {σ : Nat → Int} {l : eL} {lv : List (Nat × Value)} (h : eAll (eLo ad σ) l lv) {i : Nat} {v : eV} {w : Value} (hv : eOk ad σ v w) : eAll (eLo ad σ) (ePut l i v) ((i, w) :: lv.filter (fun q => !(q.1 == i) && !(q.1 + 1 == i && q.2.category == 2))) :=
  ⟨⟨rfl, hv⟩, eAll_filter (fun a b hab => by rw [hab.1, eOk_cat hab.2]) h⟩
theorem ePut2_ok {ad : List Nat} {σ : Nat → Int} {l : eL} {lv : List (Nat × Value)} (h : eAll (eLo ad σ) l lv) {i : Nat} {v : eV} {w : Value} (hv : eOk ad σ v w) : eAll (eLo ad σ) (ePut2 l i v) ((i, w) :: lv.filter (fun q => !(q.1 == i) && (!(q.1 == i + 1) && !(q.1 + 1 == i && q.2.category == 2)))) :=
  ⟨⟨rfl, hv⟩, eAll_filter (fun a b hab => by rw [hab.1, eOk_cat hab.2]) h⟩
