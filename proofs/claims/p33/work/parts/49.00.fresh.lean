/-! BEHIND THE TWO STARTS: the cells as a plain memory, and Ok -/
def zOe (e : va_E) (j : Nat) : Int32 := match e with
  | .inr o => match o.2[j]? with
    | some (.int x) => x
    | _ => 0
  | .inl (_, n, .inl f) => if j < n then f j else 0
  | _ => 0
def zLe (e : va_E) (j : Nat) : Int64 := match e with
  | .inl (_, n, .inr (.inl f)) => if j < n then f j else 0
  | _ => 0
def zE (e : va_E) : va_E := match e with
  | .inl (cA, n, .inl f) => .inl (cA, n, .inl (fun j => if j < n then f j else 0))
  | .inl (cA, n, .inr (.inl f)) => .inl (cA, n, .inr (.inl (fun j => if j < n then f j else 0)))
  | e => e
def zW (ws : va_W) : va_W := ws.map (fun q => (q.1, zE q.2))
def zM (ws : va_W) : dM := (fun k j => match ws[k]? with
    | some q => zOe q.2 j
    | none => 0, fun k j => match ws[k]? with
    | some q => zLe q.2 j
    | none => 0, false)
theorem zW_fst (ws : va_W) : (zW ws).map Prod.fst = ws.map Prod.fst := by
  unfold zW
  rw [List.map_map]
  rfl
theorem zW_at {ws : va_W} {k : Nat} {q : Nat × va_E} (h : (zW ws)[k]? = some q) : ∃ q0, ws[k]? = some q0 ∧ q = (q0.1, zE q0.2) := by
  unfold zW at h
  rw [List.getElem?_map] at h
  cases hq : ws[k]? with
  | none => rw [hq] at h; cases h
  | some q0 => rw [hq] at h; exact ⟨q0, rfl, (Option.some.inj h).symm⟩
theorem zW_P {D : va_G} {cl : List vw_C} {ws : va_W} {H : Heap} (h : va_P D cl ws H) : va_P D cl (zW ws) H := by
  intro k q hq
  obtain ⟨⟨a, e⟩, h0, rfl⟩ := zW_at hq
  have g := h k _ h0
  match e, g with
  | .inl (cA, n, .inl f), g =>
    have g : H[a]? = some (arrV cA n (fun j => .int (f j))) := g
    show H[a]? = some (arrV cA n (fun j => .int (if j < n then f j else 0)))
    rw [g]
    congr 1
    unfold arrV
    congr 2
    funext j
    show Value.int (f j) = Value.int (if j.val < n then f j else 0)
    rw [if_pos j.isLt]
  | .inl (cA, n, .inr (.inl f)), g =>
    have g : H[a]? = some (arrV cA n (fun j => .long (f j))) := g
    show H[a]? = some (arrV cA n (fun j => .long (if j < n then f j else 0)))
    rw [g]
    congr 1
    unfold arrV
    congr 2
    funext j
    show Value.long (f j) = Value.long (if j.val < n then f j else 0)
    rw [if_pos j.isLt]
  | .inl (cA, n, .inr (.inr c)), g => exact g
  | .inr o, g => exact g
theorem zW_D {A : Nat → Prop} {ws : va_W} (h : va_D A ws) : va_D A (zW ws) := by
  refine ⟨fun i j p q hp hq e => ?_, fun k q hq => ?_⟩
  · obtain ⟨p0, h1, rfl⟩ := zW_at hp
    obtain ⟨q0, h2, rfl⟩ := zW_at hq
    exact h.1 i j p0 q0 h1 h2 e
  · obtain ⟨q0, h1, rfl⟩ := zW_at hq
    exact h.2 k q0 h1
/-! the shape -/
def zF : List (Option (Option Nat)) → List eV → Bool
  | [], [] => true
  | none :: fs, .inl _ :: es => zF fs es
  | some none :: fs, .inr (.inl none) :: es => zF fs es
  | some (some r) :: fs, .inr (.inl (some k)) :: es => Nat.beq r k && zF fs es
  | _, _ => false
def zR : List Nat → List eV → Bool
  | [], [] => true
  | r :: rs, .inr (.inl (some k)) :: es => Nat.beq r k && zR rs es
  | _, _ => false
def zC (s : dS) (c : eC) : Bool := match s, c with
  | .inl o, .inl p => Nat.beq o.1 p.1 && zF o.2 p.2
  | .inr (.inl a), .inr b => Nat.beq a.1 b.1 && (Nat.blt a.1 3 && Nat.beq a.2 b.2.1)
  | .inr (.inr (.inl n)), .inr b => Nat.beq b.1 3 && Nat.beq n b.2.1
  | .inr (.inr (.inr rs)), .inr b => Nat.beq b.1 4 && (Nat.beq rs.length b.2.1 && (match b.2.2 with
    | .inl es => zR rs es
    | _ => false))
  | _, _ => false
def zS : List dS → eH → Bool
  | [], [] => true
  | s :: sh, c :: h => zC s c && zS sh h
  | _, _ => false
section ZED
variable {ad : List Nat} {σ : Nat → Int} {tys : List (ClassId × FieldType)} {m : dM} {k : Nat}
theorem z_fs (hf : m.2.2 = false) : ∀ (fs : List (Option (Option Nat))) (es : List eV) (vs : List Value) (j : Nat), zF fs es = true → eAll (eOk ad σ) es vs → (∀ (i : Nat) (x : Int32), vs[i]? = some (.int x) → m.1 k (j + i) = x) → eAll (cOk ad) (dFs m k j fs) vs
  | [], [], vs, j, _, h, _ => by
    have := eAll_nil h
    subst this
    exact trivial
  | none :: fs, .inl q :: es, vs, j, hz, h, hv => by
    obtain ⟨b, bs, rfl, h1, h2⟩ := eAll_cons h
    obtain ⟨x, hx, -⟩ := h1
    refine ⟨?_, z_fs hf fs es bs (j + 1) hz h2 (fun i x hi => ?_)⟩
    · show b = .int (m.1 k j)
      have e0 : m.1 k j = x := hv 0 x (by rw [hx]; rfl)
      rw [hx, e0]
    · rw [show j + 1 + i = j + (i + 1) by omega]
      exact hv (i + 1) x hi
  | some none :: fs, .inr (.inl none) :: es, vs, j, hz, h, hv => by
    obtain ⟨b, bs, rfl, h1, h2⟩ := eAll_cons h
    refine ⟨?_, z_fs hf fs es bs (j + 1) hz h2 (fun i x hi => ?_)⟩
    · have h1 : b = .null := h1
      show cOk ad (.inr (.inr (cond m.2.2 (some 1) none))) b
      rw [hf]
      exact h1
    · rw [show j + 1 + i = j + (i + 1) by omega]
      exact hv (i + 1) x hi
  | some (some r) :: fs, .inr (.inl (some k')) :: es, vs, j, hz, h, hv => by
    obtain ⟨b, bs, rfl, h1, h2⟩ := eAll_cons h
    have hz : (Nat.beq r k' && zF fs es) = true := hz
    simp only [Bool.and_eq_true] at hz
    have e := Nat.eq_of_beq_eq_true hz.1
    subst e
    refine ⟨h1, z_fs hf fs es bs (j + 1) hz.2 h2 (fun i x hi => ?_)⟩
    rw [show j + 1 + i = j + (i + 1) by omega]
    exact hv (i + 1) x hi
theorem z_rs : ∀ (rs : List Nat) (es : List eV), zR rs es = true → ∀ (j : Nat) (v : eV), es[j]? = some v → ∃ r, rs[j]? = some r ∧ v = .inr (.inl (some r))
  | [], [], _, j, v, h => by simp at h
  | r :: rs, .inr (.inl (some k)) :: es, hz, j, v, h => by
    have hz : (Nat.beq r k && zR rs es) = true := hz
    simp only [Bool.and_eq_true] at hz
    have e := Nat.eq_of_beq_eq_true hz.1
    subst e
    match j, h with
    | 0, h => exact ⟨r, rfl, (Option.some.inj h).symm⟩
    | j + 1, h => exact z_rs rs es hz.2 j v h
theorem z_cell {s : dS} {c : eC} {q : Nat × va_E} (hf : m.2.2 = false) (h : eCk ad σ tys c q) (hz : zC s c = true) (h1 : m.1 k = zOe q.2) (h2 : dLg m k = zLe q.2) : cCk ad tys (dC m k s) (q.1, zE q.2) := by
  match s, c, h, hz with
  | .inl o, .inl p, h, hz =>
    have hz : (Nat.beq o.1 p.1 && zF o.2 p.2) = true := hz
    simp only [Bool.and_eq_true] at hz
    obtain ⟨vs, e, ha⟩ := h
    have e1 := Nat.eq_of_beq_eq_true hz.1
    refine ⟨vs, ?_, z_fs hf _ _ _ 0 hz.2 ha (fun i x hi => ?_)⟩
    · show zE q.2 = _
      rw [e, e1]
      rfl
    · rw [h1, e, Nat.zero_add]
      show (match vs[i]? with
        | some (.int x) => x
        | _ => 0) = x
      rw [hi]
  | .inr (.inl a), .inr b, h, hz =>
    have hz : (Nat.beq a.1 b.1 && (Nat.blt a.1 3 && Nat.beq a.2 b.2.1)) = true := hz
    simp only [Bool.and_eq_true] at hz
    have e1 := Nat.eq_of_beq_eq_true hz.1
    have e2 := Nat.eq_of_beq_eq_true hz.2.2
    have e3 : a.1 < 3 := Nat.le_of_ble_eq_true hz.2.1
    obtain ⟨cA, t0, g1, g2, g3⟩ := h
    have g3 : ∃ f : Nat → Int32, q.2 = .inl (cA, b.2.1, .inl f) := by
      unfold eAr at g3
      split at g3
      · rename_i he; omega
      · rename_i he; omega
      · obtain ⟨f, hf, -⟩ := g3; exact ⟨f, hf⟩
    obtain ⟨f, g3⟩ := g3
    refine ⟨cA, t0, by show tys[t0]? = some (cA, eTy a.1); rw [e1]; exact g1, e3, by show a.2 < 2 ^ 31; rw [e2]; exact g2, ?_⟩
    show zE q.2 = .inl (cA, a.2, .inl (m.1 k))
    rw [h1, g3, e2]
    rfl
  | .inr (.inr (.inl n)), .inr b, h, hz =>
    have hz : (Nat.beq b.1 3 && Nat.beq n b.2.1) = true := hz
    simp only [Bool.and_eq_true] at hz
    have e1 := Nat.eq_of_beq_eq_true hz.1
    have e2 := Nat.eq_of_beq_eq_true hz.2
    obtain ⟨cA, t0, g1, g2, g3⟩ := h
    rw [e1] at g1 g3
    obtain ⟨f, g3, -⟩ := g3
    refine ⟨cA, t0, g1, by show n < 2 ^ 31; rw [e2]; exact g2, ?_⟩
    show zE q.2 = .inl (cA, n, .inr (.inl (dLg m k)))
    rw [h2, g3, e2]
    rfl
  | .inr (.inr (.inr rs)), .inr (b1, b2, .inl es), h, hz =>
    have hz : (Nat.beq b1 4 && (Nat.beq rs.length b2 && zR rs es)) = true := hz
    simp only [Bool.and_eq_true] at hz
    have e1 := Nat.eq_of_beq_eq_true hz.1
    have e2 := Nat.eq_of_beq_eq_true hz.2.1
    subst e1
    subst e2
    obtain ⟨cA, t0, g1, g2, f, g3, g4⟩ := h
    refine ⟨cA, t0, f, g1, g2, ?_, fun j hj => ?_⟩
    · show zE q.2 = _
      rw [g3]
      rfl
    · obtain ⟨v, hv, ho⟩ := g4 j hj
      obtain ⟨r, hr, e⟩ := z_rs rs es hz.2.2 j v hv
      subst e
      show cOk ad (.inr (.inr rs[j]?)) _
      rw [hr]
      exact ho
  | .inr (.inr (.inr rs)), .inr (b1, b2, .inr z), h, hz =>
    have hz : (Nat.beq b1 4 && (Nat.beq rs.length b2 && false)) = true := hz
    simp at hz
  | .inl o, .inr p, h, hz => cases hz
  | .inr (.inl a), .inl p, h, hz => cases hz
  | .inr (.inr (.inl a)), .inl p, h, hz => cases hz
  | .inr (.inr (.inr a)), .inl p, h, hz => cases hz
theorem z_all (hf : m.2.2 = false) : ∀ (sh : List dS) (h : eH) (ws : va_W) (k0 : Nat), zS sh h = true → eAll (eCk ad σ tys) h ws → (∀ (i : Nat) (q : Nat × va_E), ws[i]? = some q → m.1 (k0 + i) = zOe q.2 ∧ dLg m (k0 + i) = zLe q.2) → eAll (cCk ad tys) (dCs m k0 sh) (zW ws)
  | [], [], ws, k0, _, h, _ => by
    have := eAll_nil h
    subst this
    exact trivial
  | s :: sh, c :: h, ws, k0, hz, ha, hm => by
    obtain ⟨q, qs, rfl, h1, h2⟩ := eAll_cons ha
    have hz : (zC s c && zS sh h) = true := hz
    simp only [Bool.and_eq_true] at hz
    refine ⟨z_cell hf h1 hz.1 (hm 0 q rfl).1 (hm 0 q rfl).2, z_all hf sh h qs (k0 + 1) hz.2 h2 (fun i q hi => ?_)⟩
    rw [show k0 + 1 + i = k0 + (i + 1) by omega]
    exact hm (i + 1) q hi
/-! the bounds -/
def zAi (c : List eV ⊕ (Int × Int)) (j : Nat) : Option (Int × Int) := match c with
  | .inl es => match es[j]? with
    | some (.inl q) => cond (Nat.beq q.1 0) (some q.2) none
    | _ => none
  | .inr q => some q
def zAb (c : eC) (j : Nat) : Option (Int × Int) := match c with
  | .inl o => match o.2[j]? with
    | some (.inl q) => cond (Nat.beq q.1 0) (some q.2) none
    | _ => some (0, 0)
  | .inr a => cond (Nat.blt a.1 3) (cond (Nat.blt j a.2.1) (zAi a.2.2 j) (some (0, 0))) (cond (Nat.beq a.1 3 || Nat.beq a.1 4) (some (0, 0)) none)
theorem z_ab {c : eC} {q : Nat × va_E} {j : Nat} {b : Int × Int} (hs : σ 0 = 0) (h : eCk ad σ tys c q) (hz : zAb c j = some b) : b.1 ≤ (zOe q.2 j).toInt ∧ (zOe q.2 j).toInt ≤ b.2 := by
  have inn : ∀ (w : eI) (x : Int32), Nat.beq w.1 0 = true → eIn σ w x → w.2.1 ≤ x.toInt ∧ x.toInt ≤ w.2.2 := fun w x e g => by
    have e := Nat.eq_of_beq_eq_true e
    unfold eIn at g
    rw [e, hs] at g
    omega
  match c, h, hz with
  | .inl o, h, hz =>
    obtain ⟨vs, e, ha⟩ := h
    rw [e]
    have hz : (match o.2[j]? with
      | some (.inl q) => cond (Nat.beq q.1 0) (some q.2) none
      | _ => some (0, 0)) = some b := hz
    show b.1 ≤ (match vs[j]? with
        | some (.int x) => x
        | _ => 0).toInt ∧ (match vs[j]? with
        | some (.int x) => x
        | _ => 0).toInt ≤ b.2
    cases hv : vs[j]? with
    | none =>
      have hl := eAll_len ha
      have : o.2[j]? = none := by
        rw [List.getElem?_eq_none_iff] at hv ⊢
        omega
      rw [this] at hz
      cases hz
      decide
    | some w =>
      cases ho : o.2[j]? with
      | none =>
        have hl := eAll_len ha
        rw [List.getElem?_eq_none_iff] at ho
        have := (List.getElem?_eq_some_iff.mp hv).1
        exfalso; omega
      | some v =>
        obtain ⟨w', g1, g2⟩ := eAll_get ha ho
        have ew := Option.some.inj (hv.symm.trans g1)
        subst ew
        rw [ho] at hz
        match v, g2, hz with
        | .inl w0, ⟨x, hx, hi⟩, hz =>
          have hz : cond (Nat.beq w0.1 0) (some w0.2) none = some b := hz
          obtain ⟨e1, e2⟩ := eCond hz
          cases e2
          rw [hx]
          exact inn w0 x e1 hi
        | .inr (.inl none), g2, hz =>
          have g2 : w = .null := g2
          cases hz
          rw [g2]; decide
        | .inr (.inl (some r)), ⟨a, _, g2⟩, hz =>
          cases hz
          rw [g2]; show (0 : Int) ≤ (0 : Int32).toInt ∧ (0 : Int32).toInt ≤ 0; decide
        | .inr (.inr _), ⟨x, g2, _⟩, hz =>
          cases hz
          rw [g2]; show (0 : Int) ≤ (0 : Int32).toInt ∧ (0 : Int32).toInt ≤ 0; decide
  | .inr (kd, n, c), h, hz =>
    obtain ⟨cA, t0, g1, g2, g3⟩ := h
    by_cases hk : kd < 3
    · have g3 : ∃ f : Nat → Int32, q.2 = .inl (cA, n, .inl f) ∧ eCt ad σ n f c := by
        unfold eAr at g3
        split at g3
        · rename_i he; have he : kd = 3 := he; omega
        · rename_i he; have he : kd = 4 := he; omega
        · exact g3
      obtain ⟨f, g3, g4⟩ := g3
      rw [g3]
      show b.1 ≤ (if j < n then f j else 0).toInt ∧ (if j < n then f j else 0).toInt ≤ b.2
      have hb : Nat.blt kd 3 = true := Nat.ble_eq_true_of_le hk
      have hz : cond (Nat.blt kd 3) (cond (Nat.blt j n) (zAi c j) (some (0, 0))) (cond (Nat.beq kd 3 || Nat.beq kd 4) (some (0, 0)) none) = some b := hz
      rw [hb] at hz
      by_cases hj : j < n
      · have hb2 : Nat.blt j n = true := Nat.ble_eq_true_of_le hj
        rw [hb2] at hz
        rw [if_pos hj]
        match c, g4, hz with
        | .inl es, g4, hz =>
          obtain ⟨v, hv, ho⟩ := g4 j hj
          simp only [cond_true, zAi, hv] at hz
          match v, ho, hz with
          | .inl w0, ⟨x, hx, hi⟩, hz =>
            obtain ⟨e1, e2⟩ := eCond hz
            cases e2
            cases hx
            exact inn w0 _ e1 hi
          | .inr (.inl none), _, hz => cases hz
          | .inr (.inl (some r)), _, hz => cases hz
          | .inr (.inr _), _, hz => cases hz
        | .inr z, g4, hz =>
          cases hz
          exact g4 j hj
      · have hb2 : Nat.blt j n = false := by
          cases hq : Nat.blt j n with
          | false => rfl
          | true => exact absurd (Nat.le_of_ble_eq_true hq) hj
        rw [hb2] at hz
        rw [if_neg hj]
        cases hz
        decide
    · have hb : Nat.blt kd 3 = false := by
        cases hq : Nat.blt kd 3 with
        | false => rfl
        | true => exact absurd (Nat.le_of_ble_eq_true hq) hk
      have hz : cond (Nat.blt kd 3) (cond (Nat.blt j n) (zAi c j) (some (0, 0))) (cond (Nat.beq kd 3 || Nat.beq kd 4) (some (0, 0)) none) = some b := hz
      rw [hb] at hz
      obtain ⟨e1, e2⟩ := eCond (show cond (Nat.beq kd 3 || Nat.beq kd 4) (some (0, 0)) none = some b from hz)
      cases e2
      rw [Bool.or_eq_true] at e1
      have e0 : zOe q.2 j = 0 := by
        rcases e1 with e1 | e1
        · have e1 := Nat.eq_of_beq_eq_true e1
          subst e1
          obtain ⟨f, g3, -⟩ := g3; rw [g3]; rfl
        · have e1 := Nat.eq_of_beq_eq_true e1
          subst e1
          obtain ⟨f, g3, -⟩ := g3; rw [g3]; rfl
      rw [e0]; show (0 : Int) ≤ (0 : Int32).toInt ∧ (0 : Int32).toInt ≤ 0; decide
theorem z_lg {n : Nat} {es : List eV} {q : Nat × va_E} {j : Nat} {y : Int64} (h : eCk ad σ tys (.inr (3, n, .inl es)) q) (hj : j < n) (he : es[j]? = some (.inr (.inr (some y)))) : zLe q.2 j = y := by
  obtain ⟨cA, t0, g1, g2, f, g3, g4⟩ := h
  obtain ⟨v, h1, x, h2, h3⟩ := (show ∃ v, es[j]? = some v ∧ ∃ x : Int64, True ∧ eOk ad σ v (.long (f j)) from by
    obtain ⟨v, k1, k2⟩ := g4 j hj
    exact ⟨v, k1, 0, trivial, k2⟩)
  rw [he] at h1
  cases h1
  obtain ⟨x, hx, hy⟩ := h3
  have g3 : q.2 = .inl (cA, n, .inr (.inl f)) := g3
  rw [g3]
  show (if j < n then f j else 0) = y
  rw [if_pos hj]
  cases hx
  exact hy y rfl
theorem z_lg0 {n : Nat} {es : List eV} {q : Nat × va_E} {j : Nat} (h : eCk ad σ tys (.inr (3, n, .inl es)) q) (hj : ¬ j < n) : zLe q.2 j = 0 := by
  obtain ⟨cA, t0, g1, g2, f, g3, g4⟩ := h
  have g3 : q.2 = .inl (cA, n, .inr (.inl f)) := g3
  rw [g3]
  show (if j < n then f j else 0) = 0
  rw [if_neg hj]
end ZED
