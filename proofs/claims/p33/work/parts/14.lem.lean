/-! THE ENGINE, 5: what its reckonings say of the cells. -/
theorem eCond {α : Type} {b : Bool} {x : Option α} {y : α} (h : cond b x none = some y) : b = true ∧ x = some y := by
  cases b with
  | true => exact ⟨rfl, h⟩
  | false => cases h
def eHolds (k : Jvm.ClassFile.Cond) (x y : Int32) : Prop := match k with
  | .eq => x = y
  | .ne => ¬ x = y
  | .lt => x < y
  | .ge => y ≤ x
  | .gt => y < x
  | .le => x ≤ y
theorem eNotMap {o : Option Bool} {r : Bool} (h : o.map (!·) = some r) : o = some (!r) := by
  cases o with
  | none => cases h
  | some b => cases h; simp
theorem eCmp_ok {sr : List (Int × Int)} {σ : Nat → Int} (hs : eSg sr σ) {k : Jvm.ClassFile.Cond} {a b : eI} {x y : Int32} (ha : eIn σ a x) (hb : eIn σ b y) {r : Bool} (h : eCmp sr k a b = some r) : eHolds k x y ↔ r = true := by
  cases k with
  | eq => exact iff_of_eq (eEq_ok hs ha hb h)
  | ne =>
    have h1 := eEq_ok hs ha hb (eNotMap h)
    show ¬ x = y ↔ _
    rw [h1]
    cases r <;> simp
  | lt => exact iff_of_eq (eLt_ok hs ha hb h)
  | ge =>
    have h1 := eLt_ok hs ha hb (eNotMap h)
    show y ≤ x ↔ _
    rw [← Int32.not_lt, h1]
    cases r <;> simp
  | gt => exact iff_of_eq (eLt_ok hs hb ha h)
  | le =>
    have h1 := eLt_ok hs hb ha (eNotMap h)
    show x ≤ y ↔ _
    rw [← Int32.not_lt, h1]
    cases r <;> simp
theorem eBr_yes {sr : List (Int × Int)} {σ : Nat → Int} (hs : eSg sr σ) {k : Jvm.ClassFile.Cond} {a b : eI} {x y : Int32} (ha : eIn σ a x) (hb : eIn σ b y) {S1 S2 : eS} {outs : List eS} (h : eBr (eCmp sr k a b) S1 S2 = some outs) (hq : eHolds k x y) : S1 ∈ outs := by
  cases hc : eCmp sr k a b with
  | none => rw [hc] at h; cases h; exact List.mem_cons_self
  | some r =>
    have := (eCmp_ok hs ha hb hc).mp hq
    subst this
    rw [hc] at h
    cases h
    exact List.mem_cons_self
theorem eBr_no {sr : List (Int × Int)} {σ : Nat → Int} (hs : eSg sr σ) {k : Jvm.ClassFile.Cond} {a b : eI} {x y : Int32} (ha : eIn σ a x) (hb : eIn σ b y) {S1 S2 : eS} {outs : List eS} (h : eBr (eCmp sr k a b) S1 S2 = some outs) (hq : ¬ eHolds k x y) : S2 ∈ outs := by
  cases hc : eCmp sr k a b with
  | none => rw [hc] at h; cases h; exact List.mem_cons_of_mem _ List.mem_cons_self
  | some r =>
    have hr : r = false := by
      cases r with
      | false => rfl
      | true => exact absurd ((eCmp_ok hs ha hb hc).mpr rfl) hq
    subst hr
    rw [hc] at h
    cases h
    exact List.mem_cons_self
section ELM
variable {ad : List Nat} {σ : Nat → Int} {tys : List (ClassId × FieldType)} {h h' : eH} {ws : va_W} {sr : List (Int × Int)}
theorem eAd_set {k q : Nat} {e0 e1 : va_E} (hk : ws[k]? = some (q, e0)) : (ws.set k (q, e1)).map Prod.fst = ws.map Prod.fst := by
  rw [List.map_set]
  apply List.ext_getElem?
  intro j
  by_cases hj : k = j
  · subst hj
    have hlt : k < (ws.map Prod.fst).length := by rw [List.length_map]; exact (List.getElem?_eq_some_iff.mp hk).1
    rw [List.getElem?_set_self hlt, List.getElem?_map, hk]
    rfl
  · rw [List.getElem?_set_ne hj]
theorem eAd_at {k q a : Nat} {e0 : va_E} (hk : ws[k]? = some (q, e0)) (ha : (ws.map Prod.fst)[k]? = some a) : a = q := by
  rw [List.getElem?_map, hk] at ha
  exact (Option.some.inj ha).symm
theorem eFld_ok {k a b : Nat} {v : eV} (hf : eFld h k a b = some v) (hh : eAll (eCk ad σ tys) h ws) : ∃ (q : Nat) (vs : List Value) (w : Value), ws[k]? = some (q, .inr (a, vs)) ∧ vs[b]? = some w ∧ eOk ad σ v w := by
  unfold eFld at hf
  split at hf
  · rename_i o ho
    obtain ⟨hc, hg⟩ := eCond hf
    clear hf
    have hc := Nat.eq_of_beq_eq_true hc
    obtain ⟨⟨q, e⟩, h1, vs, h2, h3⟩ := eAll_get hh ho
    obtain ⟨w, h4, h5⟩ := eAll_get h3 hg
    have h2 : e = .inr (o.1, vs) := h2
    subst h2
    rw [hc] at h1
    exact ⟨q, vs, w, h1, h4, h5⟩
  · cases hf
theorem eSetF_ok {k a b : Nat} {v : eV} {w : Value} (hf : eSetF h k a b v = some h') (hh : eAll (eCk ad σ tys) h ws) (hv : eOk ad σ v w) : ∃ (q : Nat) (vs : List Value), ws[k]? = some (q, .inr (a, vs)) ∧ b < vs.length ∧ eAll (eCk ad σ tys) h' (ws.set k (q, .inr (a, vs.set b w))) := by
  unfold eSetF at hf
  split at hf
  · rename_i o ho
    obtain ⟨hc, hg⟩ := eCond hf
    clear hf
    rw [Bool.and_eq_true] at hc
    have h9 := Nat.eq_of_beq_eq_true hc.1
    have hb : b < o.2.length := Nat.le_of_ble_eq_true hc.2
    obtain ⟨⟨q, e⟩, h1, vs, h2, h3⟩ := eAll_get hh ho
    have h2 : e = .inr (o.1, vs) := h2
    subst h2
    cases hg
    subst h9
    rw [eAll_len h3] at hb
    exact ⟨q, vs, h1, hb, eAll_set hh k ⟨vs.set b w, rfl, eAll_set h3 b hv⟩⟩
  · cases hf
theorem eIx_ok (hs : eSg sr σ) {q : eI} {n : Nat} {x : Int32} (hx : eIn σ q x) (h : eIx sr q n = true) : vp_in x n ∧ x.toNatClampNeg < n := by
  unfold eIx at h
  rw [Bool.and_eq_true] at h
  have h1 := eLe_ok h.1
  have h2 := eLe_ok h.2
  have h3 := eRg_ok hs hx
  have h4 : vp_in x n := vp_in_iff.mpr ⟨by omega, by omega⟩
  exact ⟨h4, Nat.not_le.mp fun q => h4 (Or.inr q)⟩
theorem eAr_int {k n : Nat} {c : List eV ⊕ (Int × Int)} {cA : ClassId} {e : va_E} (hk : k = 0 ∨ k = 1 ∨ k = 2) (h : eAr ad σ k n c cA e) : ∃ f : Nat → Int32, e = .inl (cA, n, .inl f) ∧ eCt ad σ n f c := by
  rcases hk with rfl | rfl | rfl <;> exact h
theorem eInt_ar {k n : Nat} {c : List eV ⊕ (Int × Int)} {cA : ClassId} {f : Nat → Int32} (hk : k = 0 ∨ k = 1 ∨ k = 2) (h : eCt ad σ n f c) : eAr ad σ k n c cA (.inl (cA, n, .inl f)) := by
  rcases hk with rfl | rfl | rfl <;> exact ⟨f, rfl, h⟩
theorem eALd1_ok (h0 : σ 0 = 0) {n : Nat} {q v : eI} {x : Int32} {f : Nat → Int32} {c : List eV ⊕ (Int × Int)} (hf : eALd1 q c = some v) (hx : eIn σ q x) (h5 : eCt ad σ n f c) (hlt : x.toNatClampNeg < n) : eIn σ v (f x.toNatClampNeg) := by
  cases c with
  | inr r =>
    cases hf
    have := h5 _ hlt
    exact eIn_mk (by rw [h0]; omega) (by rw [h0]; omega)
  | inl es =>
    unfold eALd1 at hf
    simp only at hf
    split at hf
    · rename_i y hy
      have := eOne_ok h0 hx hy
      subst this
      obtain ⟨v', g1, g2⟩ := h5 _ hlt
      rw [g1] at hf
      match v', hf, g2 with
      | .inl v', hf, ⟨z, hz, g2⟩ =>
        cases hf
        cases hz
        exact g2
    · cases hf
      exact eTop_ok h0 _
theorem eALd_ok (hs : eSg sr σ) {k kd : Nat} {q v : eI} {x : Int32} (hk : kd = 0 ∨ kd = 1 ∨ kd = 2) (hf : eALd sr h k q kd = some v) (hh : eAll (eCk ad σ tys) h ws) (hx : eIn σ q x) : ∃ (a : Nat) (cA : ClassId) (t0 n : Nat) (f : Nat → Int32), ws[k]? = some (a, .inl (cA, n, .inl f)) ∧ tys[t0]? = some (cA, eTy kd) ∧ vp_in x n ∧ eIn σ v (f x.toNatClampNeg) := by
  unfold eALd at hf
  split at hf
  · rename_i t n c ho
    obtain ⟨hc, hg⟩ := eCond hf
    clear hf
    rw [Bool.and_eq_true] at hc
    have ht := Nat.eq_of_beq_eq_true hc.1
    subst ht
    obtain ⟨hin, hlt⟩ := eIx_ok hs hx hc.2
    obtain ⟨⟨a, e⟩, h1, cA, t0, h2, -, h3⟩ := eAll_get hh ho
    obtain ⟨f, h4, h5⟩ := eAr_int hk h3
    have h4 : e = .inl (cA, n, .inl f) := h4
    subst h4
    exact ⟨a, cA, t0, n, f, h1, h2, hin, eALd1_ok hs.1 hg hx h5 hlt⟩
  · cases hf
theorem eMin_ok (a b : Int) : eMin a b ≤ a ∧ eMin a b ≤ b := by
  unfold eMin
  cases hc : eLe a b with
  | true => have := eLe_ok hc; exact ⟨Int.le_refl _, this⟩
  | false => have := eLe_no hc; exact ⟨by show b ≤ a; omega, Int.le_refl _⟩
theorem eMax_ok (a b : Int) : a ≤ eMax a b ∧ b ≤ eMax a b := by
  unfold eMax
  cases hc : eLe a b with
  | true => have := eLe_ok hc; exact ⟨this, Int.le_refl _⟩
  | false => have := eLe_no hc; exact ⟨Int.le_refl _, by show b ≤ a; omega⟩
theorem eASt1_ok (hs : eSg sr σ) {n : Nat} {q v : eI} {x z : Int32} {f : Nat → Int32} {c c' : List eV ⊕ (Int × Int)} (hf : eASt1 sr q v c = some c') (hx : eIn σ q x) (hz : eIn σ v z) (h5 : eCt ad σ n f c) : eCt ad σ n (upd f x.toNatClampNeg z) c' := by
  cases c with
  | inr r =>
    cases hf
    have hr := eRg_ok hs hz
    intro j hj
    have h6 := h5 j hj
    have m1 := eMin_ok r.1 (eRg sr v).1
    have m2 := eMax_ok r.2 (eRg sr v).2
    show eMin r.1 (eRg sr v).1 ≤ _ ∧ _ ≤ eMax r.2 (eRg sr v).2
    unfold upd
    split
    · exact ⟨by omega, by omega⟩
    · exact ⟨by omega, by omega⟩
  | inl es =>
    unfold eASt1 at hf
    simp only at hf
    split at hf
    · rename_i y hy
      have := eOne_ok hs.1 hx hy
      subst this
      cases hf
      intro j hj
      obtain ⟨v0, g1, g2⟩ := h5 j hj
      by_cases hq : x.toNatClampNeg = j
      · refine ⟨.inl v, ?_, z, ?_, hz⟩
        · rw [← hq, List.getElem?_set_self (by rw [hq]; exact (List.getElem?_eq_some_iff.mp g1).1)]
        · simp [upd, hq]
      · refine ⟨v0, by rw [List.getElem?_set_ne hq]; exact g1, ?_⟩
        have : upd f x.toNatClampNeg z j = f j := by simp [upd, Ne.symm hq]
        rw [this]
        exact g2
    · cases hf
theorem eASt_ok (hs : eSg sr σ) {k kd : Nat} {q v : eI} {x z : Int32} (hk : kd = 0 ∨ kd = 1 ∨ kd = 2) (hf : eASt sr h k q v kd = some h') (hh : eAll (eCk ad σ tys) h ws) (hx : eIn σ q x) (hz : eIn σ v z) : ∃ (a : Nat) (cA : ClassId) (t0 n : Nat) (f : Nat → Int32), ws[k]? = some (a, .inl (cA, n, .inl f)) ∧ tys[t0]? = some (cA, eTy kd) ∧ vp_in x n ∧ eAll (eCk ad σ tys) h' (ws.set k (a, .inl (cA, n, .inl (upd f x.toNatClampNeg z)))) := by
  unfold eASt at hf
  split at hf
  · rename_i t n c ho
    split at hf
    · rename_i c' hc'
      obtain ⟨hc, hg⟩ := eCond hf
      clear hf
      rw [Bool.and_eq_true] at hc
      have ht := Nat.eq_of_beq_eq_true hc.1
      subst ht
      obtain ⟨hin, hlt⟩ := eIx_ok hs hx hc.2
      obtain ⟨⟨a, e⟩, h1, cA, t0, h2, hN, h3⟩ := eAll_get hh ho
      obtain ⟨f, h4, h5⟩ := eAr_int hk h3
      have h4 : e = .inl (cA, n, .inl f) := h4
      subst h4
      cases hg
      exact ⟨a, cA, t0, n, f, h1, h2, hin, eAll_set hh k ⟨cA, t0, h2, hN, eInt_ar hk (eASt1_ok hs hc' hx hz h5)⟩⟩
    · cases hf
  · cases hf
theorem eBSt_ok (hs : eSg sr σ) {k : Nat} {q : eI} {x : Int32} (hf : eBSt sr h k q = true) (hh : eAll (eCk ad σ tys) h ws) (hx : eIn σ q x) (z : Int32) : ∃ (a : Nat) (cA : ClassId) (t0 n : Nat) (f : Nat → Int32), ws[k]? = some (a, .inl (cA, n, .inl f)) ∧ tys[t0]? = some (cA, .byte) ∧ vp_in x n ∧ eAll (eCk ad σ tys) h (ws.set k (a, .inl (cA, n, .inl (upd f x.toNatClampNeg (vp_nar .byte z))))) := by
  unfold eBSt at hf
  split at hf
  · rename_i t n r ho
    simp only [Bool.and_eq_true] at hf
    obtain ⟨⟨⟨hf1, hf2⟩, hf3⟩, hf4⟩ := hf
    have ht := Nat.eq_of_beq_eq_true hf1
    subst ht
    obtain ⟨hin, hlt⟩ := eIx_ok hs hx hf2
    have l3 := eLe_ok hf3
    have l4 := eLe_ok hf4
    obtain ⟨⟨a, e⟩, h1, cA, t0, h2, hN, h3⟩ := eAll_get hh ho
    obtain ⟨f, h4, h5⟩ := eAr_int (Or.inr (Or.inl rfl)) h3
    have h4 : e = .inl (cA, n, .inl f) := h4
    subst h4
    refine ⟨a, cA, t0, n, f, h1, h2, hin, ?_⟩
    have e1 : h.set k (.inr (1, n, .inr r)) = h := by
      apply List.ext_getElem?
      intro j
      by_cases hj : k = j
      · subst hj
        rw [List.getElem?_set_self (List.getElem?_eq_some_iff.mp ho).1, ho]
      · rw [List.getElem?_set_ne hj]
    rw [← e1]
    refine eAll_set hh k ⟨cA, t0, h2, hN, eInt_ar (Or.inr (Or.inl rfl)) ?_⟩
    intro j hj
    have h6 := h5 j hj
    unfold upd
    split
    · rw [vp_nar_byte]
      have b1 : -128 ≤ z.toInt8.toInt32.toInt := by rw [Int8.toInt_toInt32]; have := Int8.le_toInt z.toInt8; omega
      have b2 : z.toInt8.toInt32.toInt ≤ 127 := by rw [Int8.toInt_toInt32]; have := Int8.toInt_lt z.toInt8; omega
      exact ⟨by omega, by omega⟩
    · exact h6
  · cases hf
theorem eLng_ok (hs : eSg sr σ) {k : Nat} {q : eI} {x : Int32} (hf : eLng sr h k q = true) (hh : eAll (eCk ad σ tys) h ws) (hx : eIn σ q x) : ∃ (a : Nat) (cA : ClassId) (t0 n : Nat) (f : Nat → Int64), ws[k]? = some (a, .inl (cA, n, .inr (.inl f))) ∧ tys[t0]? = some (cA, .long) ∧ vp_in x n := by
  unfold eLng at hf
  split at hf
  · rename_i t n r ho
    simp only [Bool.and_eq_true] at hf
    have ht := Nat.eq_of_beq_eq_true hf.1
    subst ht
    obtain ⟨hin, hlt⟩ := eIx_ok hs hx hf.2
    obtain ⟨⟨a, e⟩, h1, cA, t0, h2, hN, f, h4, h5⟩ := eAll_get hh ho
    have h4 : e = .inl (cA, n, .inr (.inl f)) := h4
    subst h4
    exact ⟨a, cA, t0, n, f, h1, h2, hin⟩
  · cases hf
theorem eLSt_ok (hs : eSg sr σ) {k : Nat} {q : eI} {x : Int32} {u : Option Int64} {z : Int64} {h' : eH} (hf : eLSt sr h k q u = some h') (hh : eAll (eCk ad σ tys) h ws) (hx : eIn σ q x) (hz : ∀ y, u = some y → z = y) : ∃ (a : Nat) (cA : ClassId) (t0 n : Nat) (f : Nat → Int64), ws[k]? = some (a, .inl (cA, n, .inr (.inl f))) ∧ tys[t0]? = some (cA, .long) ∧ vp_in x n ∧ eAll (eCk ad σ tys) h' (ws.set k (a, .inl (cA, n, .inr (.inl (vp_updL f x.toNatClampNeg z))))) := by
  unfold eLSt at hf
  split at hf
  · rename_i t n r ho
    obtain ⟨hc, hg⟩ := eCond hf
    cases hg
    simp only [Bool.and_eq_true] at hc
    have ht := Nat.eq_of_beq_eq_true hc.1
    subst ht
    obtain ⟨hin, hlt⟩ := eIx_ok hs hx hc.2
    obtain ⟨⟨a, e⟩, h1, cA, t0, h2, hN, f, h4, h5⟩ := eAll_get hh ho
    have h4 : e = .inl (cA, n, .inr (.inl f)) := h4
    subst h4
    refine ⟨a, cA, t0, n, f, h1, h2, hin, ?_⟩
    have e1 : h.set k (.inr (3, n, .inr r)) = h := by
      apply List.ext_getElem?
      intro j
      by_cases hj : k = j
      · subst hj
        rw [List.getElem?_set_self (List.getElem?_eq_some_iff.mp ho).1, ho]
      · rw [List.getElem?_set_ne hj]
    rw [← e1]
    exact eAll_set hh k ⟨cA, t0, h2, hN, vp_updL f x.toNatClampNeg z, rfl, trivial⟩
  · rename_i t n es ho
    split at hf
    · rename_i y hy
      obtain ⟨hc, hg⟩ := eCond hf
      cases hg
      simp only [Bool.and_eq_true] at hc
      have ht := Nat.eq_of_beq_eq_true hc.1
      subst ht
      obtain ⟨hin, hlt⟩ := eIx_ok hs hx hc.2
      obtain ⟨⟨a, e⟩, h1, cA, t0, h2, hN, f, h4, h5⟩ := eAll_get hh ho
      have h4 : e = .inl (cA, n, .inr (.inl f)) := h4
      subst h4
      refine ⟨a, cA, t0, n, f, h1, h2, hin, ?_⟩
      have hy := eOne_ok hs.1 hx hy
      subst hy
      refine eAll_set hh k ⟨cA, t0, h2, hN, vp_updL f x.toNatClampNeg z, rfl, fun j hj => ?_⟩
      obtain ⟨v, g1, g2⟩ := h5 j hj
      by_cases hj2 : j = x.toNatClampNeg
      · subst hj2
        refine ⟨.inr (.inr u), ?_, z, ?_, hz⟩
        · rw [List.getElem?_set_self (List.getElem?_eq_some_iff.mp g1).1]
        · simp [vp_updL]
      · refine ⟨v, ?_, ?_⟩
        · rw [List.getElem?_set_ne (fun q => hj2 q.symm)]
          exact g1
        · have : vp_updL f x.toNatClampNeg z j = f j := by simp [vp_updL, hj2]
          rw [this]
          exact g2
    · cases hf
  · cases hf
theorem eRow_ok (hs : eSg sr σ) {k : Nat} {q : eI} {v : eV} {x : Int32} (hf : eRow sr h k q = some v) (hh : eAll (eCk ad σ tys) h ws) (hx : eIn σ q x) : ∃ (a : Nat) (cA : ClassId) (t0 n : Nat) (f : Nat → Option Nat), ws[k]? = some (a, .inl (cA, n, .inr (.inr (.inr (.inr f))))) ∧ tys[t0]? = some (cA, .array .int) ∧ vp_in x n ∧ eOk ad σ v (va_rf (f x.toNatClampNeg)) := by
  unfold eRow at hf
  split at hf
  · rename_i t n es ho
    split at hf
    · rename_i y hy
      obtain ⟨hc, hg⟩ := eCond hf
      clear hf
      rw [Bool.and_eq_true] at hc
      have ht := Nat.eq_of_beq_eq_true hc.1
      subst ht
      obtain ⟨hin, hlt⟩ := eIx_ok hs hx hc.2
      obtain ⟨⟨a, e⟩, h1, cA, t0, h2, hN, f, h4, h5⟩ := eAll_get hh ho
      have h4 : e = .inl (cA, n, .inr (.inr (.inr (.inr f)))) := h4
      subst h4
      refine ⟨a, cA, t0, n, f, h1, h2, hin, ?_⟩
      have := eOne_ok hs.1 hx hy
      subst this
      obtain ⟨v', g1, g2⟩ := h5 _ hlt
      rw [g1] at hg
      cases hg
      exact g2
    · cases hf
  · cases hf
end ELM
