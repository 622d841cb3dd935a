/-! the bounds, all -/
def zI (t : Option (Int × Int)) (b : Int × Int) : Bool := match t with
  | none => true
  | some a => decide (a.1 ≤ b.1) && decide (b.2 ≤ a.2)
def zBn (k : Nat) (c : eC) : Nat → Bool
  | 0 => true
  | n + 1 => (match zAb c n with
    | some b => zI (wT k n) b && zI (sT k n) b
    | none => false) && zBn k c n
def zLn (c : eC) : Nat := match c with
  | .inl o => o.2.length
  | .inr a => cond (Nat.beq a.1 3 || Nat.beq a.1 4) 0 a.2.1
def zBh : Nat → eH → Bool
  | _, [] => true
  | k, c :: h => zBn k c (zLn c) && zBh (k + 1) h
theorem z_bn {k : Nat} {c : eC} : ∀ {n j : Nat}, zBn k c n = true → j < n → ∃ b, zAb c j = some b ∧ zI (wT k j) b = true ∧ zI (sT k j) b = true
  | 0, j, _, h => by omega
  | n + 1, j, hz, h => by
    have hz : ((match zAb c n with
      | some b => zI (wT k n) b && zI (sT k n) b
      | none => false) && zBn k c n) = true := hz
    simp only [Bool.and_eq_true] at hz
    by_cases e : j = n
    · subst e
      cases hb : zAb c j with
      | none => rw [hb] at hz; cases hz.1
      | some b =>
        rw [hb] at hz
        simp only [Bool.and_eq_true] at hz
        exact ⟨b, rfl, hz.1.1, hz.1.2⟩
    · exact z_bn hz.2 (by omega)
theorem z_bh : ∀ {h : eH} {k0 k : Nat} {c : eC}, zBh k0 h = true → h[k]? = some c → zBn (k0 + k) c (zLn c) = true
  | [], k0, k, c, _, hc => by simp at hc
  | d :: h, k0, k, c, hz, hc => by
    have hz : (zBn k0 d (zLn d) && zBh (k0 + 1) h) = true := hz
    simp only [Bool.and_eq_true] at hz
    match k, hc with
    | 0, hc => cases hc; exact hz.1
    | k + 1, hc =>
      have := z_bh (k := k) hz.2 hc
      rw [show k0 + (k + 1) = k0 + 1 + k by omega]
      exact this
theorem z0w {k j : Nat} {b : Int × Int} (h : wT k j = some b) : b.1 ≤ 0 ∧ 0 ≤ b.2 := by
  unfold wT at h
  split at h
  all_goals first
    | (cases h; done)
    | (cases h; constructor <;> decide)
    | (split at h <;> first | (cases h; done) | (cases h; constructor <;> decide))
theorem z0s {k j : Nat} {b : Int × Int} (h : sT k j = some b) : b.1 ≤ 0 ∧ 0 ≤ b.2 := by
  unfold sT at h
  split at h
  all_goals first
    | (cases h; done)
    | (cases h; constructor <;> decide)
    | (split at h <;> first | (cases h; done) | (cases h; constructor <;> decide))
set_option maxRecDepth 1000000 in
theorem zB_fresh : zBh 0 hFresh = true := by decide +kernel
set_option maxRecDepth 1000000 in
theorem zS_fresh : zS tSh hFresh = true := by decide +kernel
set_option maxRecDepth 1000000 in
theorem zV_fresh : ([(0, 1), (2, 2), (70, 2), (70, 18), (82, 0), (86, 0), (95, 0), (95, 1), (95, 2), (95, 3), (96, 0), (96, 1), (96, 2), (96, 3)] : List (Nat × Nat)).all (fun q => match hFresh[q.1]? with
  | some c => decide (zAb c q.2 = some (0, 0))
  | none => false) = true := by decide +kernel
section ZFR
variable {ad : List Nat} {σ : Nat → Int} {tys : List (ClassId × FieldType)} {ws : va_W}
theorem z_out {c : eC} {q : Nat × va_E} {j : Nat} (h : eCk ad σ tys c q) (hj : zLn c ≤ j) : zOe q.2 j = 0 := by
  match c, h, hj with
  | .inl o, h, hj =>
    obtain ⟨vs, e, ha⟩ := h
    have hl := eAll_len ha
    have hj : o.2.length ≤ j := hj
    rw [e]
    show (match vs[j]? with
        | some (.int x) => x
        | _ => 0) = 0
    rw [List.getElem?_eq_none (by omega)]
  | .inr (kd, n, c), h, hj =>
    obtain ⟨cA, t0, g1, g2, g3⟩ := h
    have hj : cond (Nat.beq kd 3 || Nat.beq kd 4) 0 n ≤ j := hj
    unfold eAr at g3
    split at g3
    · obtain ⟨f, g3, -⟩ := g3; rw [g3]; rfl
    · obtain ⟨f, g3, -⟩ := g3; rw [g3]; rfl
    · rename_i n3 n4
      obtain ⟨f, g3, -⟩ := g3
      rw [g3]
      show (if j < n then f j else 0) = 0
      cases hb : (Nat.beq kd 3 || Nat.beq kd 4) with
      | false =>
        rw [hb] at hj
        have hj : n ≤ j := hj
        rw [if_neg (by omega)]
      | true =>
        rw [Bool.or_eq_true] at hb
        rcases hb with hb | hb
        · exact absurd (Nat.eq_of_beq_eq_true hb) n3
        · exact absurd (Nat.eq_of_beq_eq_true hb) n4
theorem z_ok (hs : σ 0 = 0) (h : eAll (eCk ad σ tys) hFresh ws) : eAll (cCk ad tys) (dHp (zM ws)) (zW ws) ∧ Ok (zM ws) ∧ ((zM ws).1 0 1).toInt = 0 ∧ ((zM ws).1 70 2).toInt = 0 := by
  have at1 : ∀ (k : Nat) (q : Nat × va_E), ws[k]? = some q → (zM ws).1 k = zOe q.2 := fun k q hq => by
    funext j
    show (match ws[k]? with
      | some q => zOe q.2 j
      | none => 0) = _
    rw [hq]
  have kw : ∀ (k : Nat) (q : Nat × va_E), k = 42 ∨ k = 77 → ws[k]? = some q → tKv = zLe q.2 := fun k q hk hq => by
    obtain ⟨c, hc, hck⟩ := eAll_getR h hq
    have ec : c = .inr (3, 22, .inl (tWd.map (fun x => .inr (.inr (some x))))) := by
      rcases hk with rfl | rfl
      · have : hFresh[42]? = some (.inr (3, 22, .inl (tWd.map (fun x => .inr (.inr (some x)))))) := rfl
        rw [this] at hc
        exact (Option.some.inj hc).symm
      · have : hFresh[77]? = some (.inr (3, 22, .inl (tWd.map (fun x => .inr (.inr (some x)))))) := rfl
        rw [this] at hc
        exact (Option.some.inj hc).symm
    rw [ec] at hck
    funext j
    by_cases hj : j < 22
    · have e : (tWd.map (fun x => (.inr (.inr (some x)) : eV)))[j]? = some (.inr (.inr (some (tKv j)))) := by
        rw [List.getElem?_map]
        have hl : j < tWd.length := hj
        rw [List.getElem?_eq_getElem hl]
        unfold tKv
        rw [List.getD_eq_getElem?_getD, List.getElem?_eq_getElem hl]
        rfl
      exact (z_lg hck hj e).symm
    · rw [z_lg0 hck hj]
      unfold tKv
      rw [List.getD_eq_getElem?_getD, List.getElem?_eq_none (by show 22 ≤ j; omega)]
      rfl
  have at2 : ∀ (k : Nat) (q : Nat × va_E), ws[k]? = some q → dLg (zM ws) k = zLe q.2 := fun k q hq => by
    unfold dLg
    cases hk : (Nat.beq k 42 || Nat.beq k 77) with
    | true =>
      rw [Bool.or_eq_true] at hk
      exact kw k q (by
        rcases hk with hk | hk
        · exact Or.inl (Nat.eq_of_beq_eq_true hk)
        · exact Or.inr (Nat.eq_of_beq_eq_true hk)) hq
    | false =>
    funext j
    show (match ws[k]? with
      | some q => zLe q.2 j
      | none => 0) = _
    rw [hq]
  have val : ∀ k j : Nat, (match hFresh[k]? with
      | some c => decide (zAb c j = some (0, 0))
      | none => false) = true → ((zM ws).1 k j).toInt = 0 := fun k j hd => by
    cases hc : hFresh[k]? with
    | none => rw [hc] at hd; cases hd
    | some c =>
      rw [hc] at hd
      obtain ⟨q, hq, hk⟩ := eAll_get h hc
      rw [at1 k q hq]
      have := z_ab hs hk (of_decide_eq_true hd)
      have e : (0 : Int) ≤ (zOe q.2 j).toInt ∧ (zOe q.2 j).toInt ≤ 0 := this
      omega
  have vv := List.all_eq_true.mp zV_fresh
  have v : ∀ k j : Nat, (k, j) ∈ ([(0, 1), (2, 2), (70, 2), (70, 18), (82, 0), (86, 0), (95, 0), (95, 1), (95, 2), (95, 3), (96, 0), (96, 1), (96, 2), (96, 3)] : List (Nat × Nat)) → ((zM ws).1 k j).toInt = 0 := fun k j hm => val k j (vv (k, j) hm)
  have B : OkB (zM ws) := by
    intro k j lo hi hb
    have z : lo ≤ 0 ∧ 0 ≤ hi := by
      rcases hb with hb | hb
      · exact z0w hb
      · exact z0s hb
    cases hq : ws[k]? with
    | none =>
      have e : (zM ws).1 k j = 0 := by
        show (match ws[k]? with
          | some q => zOe q.2 j
          | none => 0) = _
        rw [hq]
      rw [e]
      exact z
    | some q =>
      obtain ⟨c, hc, hk⟩ := eAll_getR h hq
      rw [at1 k q hq]
      by_cases hj : j < zLn c
      · have hz := z_bh zB_fresh hc
        rw [Nat.zero_add] at hz
        obtain ⟨b, b1, b2, b3⟩ := z_bn hz hj
        have g := z_ab hs hk b1
        have w : lo ≤ b.1 ∧ b.2 ≤ hi := by
          rcases hb with hb | hb
          · rw [hb] at b2
            have b2 : (decide (lo ≤ b.1) && decide (b.2 ≤ hi)) = true := b2
            simp only [Bool.and_eq_true, decide_eq_true_eq] at b2
            exact b2
          · rw [hb] at b3
            have b3 : (decide (lo ≤ b.1) && decide (b.2 ≤ hi)) = true := b3
            simp only [Bool.and_eq_true, decide_eq_true_eq] at b3
            exact b3
        omega
      · rw [z_out hk (by omega)]
        exact z
  refine ⟨z_all rfl tSh hFresh ws 0 zS_fresh h (fun i q hi => by rw [Nat.zero_add]; exact ⟨at1 i q hi, at2 i q hi⟩), Ok.mk B ?_, v 0 1 (by decide), v 70 2 (by decide)⟩
  have eL : gL (zM ws).1 = 0 := by unfold gL; rw [v 70 18 (by decide)]; rfl
  have v22 := v 2 2 (by decide)
  have v82 := v 82 0 (by decide)
  have v86 := v 86 0 (by decide)
  unfold Gx
  rw [eL]
  refine ⟨fun u hu => by exfalso; omega, fun u hu => by exfalso; omega, fun u hu => by exfalso; omega, fun k hk => Or.inl ?_⟩
  have hk : k = 0 ∨ k = 1 ∨ k = 2 ∨ k = 3 := by omega
  rcases hk with rfl | rfl | rfl | rfl
  · rw [v 95 (4 * 0 + 0) (by decide), v 96 (4 * 0 + 0) (by decide)]
  · rw [v 95 (4 * 0 + 1) (by decide), v 96 (4 * 0 + 1) (by decide)]
  · rw [v 95 (4 * 0 + 2) (by decide), v 96 (4 * 0 + 2) (by decide)]
  · rw [v 95 (4 * 0 + 3) (by decide), v 96 (4 * 0 + 3) (by decide)]
theorem z_val (hs : σ 0 = 0) (h : eAll (eCk ad σ tys) hFresh ws) {k j : Nat} {b : Int} (hd : (match hFresh[k]? with
    | some c => decide (zAb c j = some (b, b))
    | none => false) = true) : ((zM ws).1 k j).toInt = b := by
  cases hc : hFresh[k]? with
  | none => rw [hc] at hd; cases hd
  | some c =>
    rw [hc] at hd
    obtain ⟨q, hq, hk⟩ := eAll_get h hc
    have e1 : (zM ws).1 k j = zOe q.2 j := by
      show (match ws[k]? with
        | some q => zOe q.2 j
        | none => 0) = _
      rw [hq]
    rw [e1]
    have := z_ab hs hk (of_decide_eq_true hd)
    have e : b ≤ (zOe q.2 j).toInt ∧ (zOe q.2 j).toInt ≤ b := this
    omega
end ZFR
