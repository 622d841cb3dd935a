/-! THE PLAIN MACHINE: the cells have a fixed shape (tSh), what is in them is a function of cell and place; the text's field is set or not. Printed by wip/p34/mk38.py. -/
abbrev dM : Type := (Nat → Nat → Int32) × (Nat → Nat → Int64) × Bool
/-- the words, as rows 42 and 77 hold them for ever -/
def tWd : List Int64 := [126893, 459761, 15827, 148870, 6888374364, 1903978, 316351, 10524038, 1896526, 377761, 249, 399641, 107681, 247162, 259212373, 923, 168984, 2968, 29611, 289903041, 79958, 12387257]
def tKv (j : Nat) : Int64 := tWd.getD j 0
def dLg (m : dM) (k : Nat) : Nat → Int64 := cond (Nat.beq k 42 || Nat.beq k 77) tKv (m.2.1 k)
abbrev dS : Type := (Nat × List (Option (Option Nat))) ⊕ ((Nat × Nat) ⊕ (Nat ⊕ List Nat))
def dFv (m : dM) (k j : Nat) (f : Option (Option Nat)) : cV := match f with
  | none => .inl (m.1 k j)
  | some none => .inr (.inr (cond m.2.2 (some 1) none))
  | some (some r) => .inr (.inr (some r))
def dFs (m : dM) (k : Nat) : Nat → List (Option (Option Nat)) → List cV
  | _, [] => []
  | j, f :: fs => dFv m k j f :: dFs m k (j + 1) fs
def dC (m : dM) (k : Nat) (s : dS) : cC := match s with
  | .inl o => .inl (o.1, dFs m k 0 o.2)
  | .inr (.inl a) => .inr (.inl (a.1, a.2, m.1 k))
  | .inr (.inr (.inl n)) => .inr (.inr (.inl (n, dLg m k)))
  | .inr (.inr (.inr rs)) => .inr (.inr (.inr (rs.length, fun j => rs[j]?)))
def dCs (m : dM) : Nat → List dS → cH
  | _, [] => []
  | k, s :: sh => dC m k s :: dCs m (k + 1) sh
theorem dFs_at (m : dM) (k : Nat) : ∀ (fs : List (Option (Option Nat))) (j i : Nat), (dFs m k j fs)[i]? = (fs[i]?).map (dFv m k (j + i))
  | [], j, i => by simp [dFs]
  | f :: fs, j, 0 => by simp [dFs]
  | f :: fs, j, i + 1 => by
    simp only [dFs, List.getElem?_cons_succ]
    rw [dFs_at m k fs (j + 1) i, show j + 1 + i = j + (i + 1) by omega]
theorem dCs_at (m : dM) : ∀ (sh : List dS) (k i : Nat), (dCs m k sh)[i]? = (sh[i]?).map (dC m (k + i))
  | [], k, i => by simp [dCs]
  | s :: sh, k, 0 => by simp [dCs]
  | s :: sh, k, i + 1 => by
    simp only [dCs, List.getElem?_cons_succ]
    rw [dCs_at m sh (k + 1) i, show k + 1 + i = k + (i + 1) by omega]
theorem dFs_congr {m m' : dM} {k : Nat} (h1 : m'.1 k = m.1 k) (h3 : m'.2.2 = m.2.2) : ∀ (j : Nat) (fs : List (Option (Option Nat))), dFs m' k j fs = dFs m k j fs
  | _, [] => rfl
  | j, f :: fs => by
    simp only [dFs]
    rw [dFs_congr h1 h3 (j + 1) fs]
    congr 1
    match f with
    | none => simp [dFv, h1]
    | some none => simp [dFv, h3]
    | some (some r) => rfl
theorem dC_congr {m m' : dM} {k : Nat} (h1 : m'.1 k = m.1 k) (h2 : m'.2.1 k = m.2.1 k) (h3 : m'.2.2 = m.2.2) (s : dS) : dC m' k s = dC m k s := by
  match s with
  | .inl o => simp [dC, dFs_congr h1 h3]
  | .inr (.inl a) => simp [dC, h1]
  | .inr (.inr (.inl n)) => simp [dC, dLg, h2]
  | .inr (.inr (.inr rs)) => rfl
theorem dCs_set {m m' : dM} {sh : List dS} {i : Nat} {c : cC} (h1 : ∀ j, j ≠ i → m'.1 j = m.1 j ∧ m'.2.1 j = m.2.1 j) (h3 : m'.2.2 = m.2.2) (h2 : ∀ s, sh[i]? = some s → dC m' i s = c) : (dCs m 0 sh).set i c = dCs m' 0 sh := by
  apply List.ext_getElem?
  intro j
  rw [List.getElem?_set, dCs_at]
  by_cases hj : i = j
  · subst hj
    rw [if_pos rfl]
    cases hs : sh[i]? with
    | none =>
      have hl : sh.length ≤ i := List.getElem?_eq_none_iff.mp hs
      have hl2 : ∀ (sh : List dS) (k : Nat), (dCs m k sh).length = sh.length := by
        intro sh
        induction sh with
        | nil => intro k; rfl
        | cons s sh ih => intro k; simp [dCs, ih]
      rw [if_neg (by rw [hl2]; omega), dCs_at, hs]
      rfl
    | some s =>
      have hl : i < sh.length := (List.getElem?_eq_some_iff.mp hs).1
      have hl2 : ∀ (sh : List dS) (k : Nat), (dCs m k sh).length = sh.length := by
        intro sh
        induction sh with
        | nil => intro k; rfl
        | cons s sh ih => intro k; simp [dCs, ih]
      rw [if_pos (by rw [hl2]; omega), dCs_at, hs]
      simp only [Option.map_some, Nat.zero_add]
      rw [h2 s hs]
  · rw [if_neg hj, dCs_at]
    cases hs : sh[j]? with
    | none => rfl
    | some s =>
      simp only [Option.map_some, Nat.zero_add]
      obtain ⟨g1, g2⟩ := h1 j (fun e => hj e.symm)
      rw [dC_congr g1 g2 h3]
def dSet (m : dM) (k j : Nat) (v : Int32) : dM := (fun a b => cond (Nat.beq a k && Nat.beq b j) v (m.1 a b), m.2)
def dSetL (m : dM) (k j : Nat) (v : Int64) : dM := (m.1, fun a b => cond (Nat.beq a k && Nat.beq b j) v (m.2.1 a b), m.2.2)
def dTx (m : dM) : dM := (m.1, m.2.1, true)
def dCpy (m : dM) (k0 sp k1 dp n : Nat) : dM := (fun a b => cond (Nat.beq a k1) (va_cpy (m.1 k0) (m.1 k1) sp dp n b) (m.1 a b), m.2)
theorem d_beq {a b : Nat} (h : a ≠ b) : Nat.beq a b = false := by
  cases hb : Nat.beq a b with
  | true => exact absurd (Nat.eq_of_beq_eq_true hb) h
  | false => rfl
theorem dSet_s (m : dM) (k j : Nat) (v : Int32) : (dSet m k j v).1 k j = v := by simp [dSet]
theorem dSet_k {m : dM} {k j a : Nat} {v : Int32} (h : a ≠ k) : (dSet m k j v).1 a = m.1 a := by
  funext b
  simp [dSet, d_beq h]
theorem dSet_j {m : dM} {k j a b : Nat} {v : Int32} (h : b ≠ j) : (dSet m k j v).1 a b = m.1 a b := by simp [dSet, d_beq h]
theorem dSet_f {m : dM} {k j : Nat} {v : Int32} : (dSet m k j v).1 k = upd (m.1 k) j v := by
  funext b
  unfold upd
  by_cases h : b = j
  · subst h; rw [if_pos rfl, dSet_s]
  · rw [if_neg h, dSet_j h]
theorem dSet_e (m : dM) (k j : Nat) (v : Int32) (a b : Nat) : (dSet m k j v).1 a b = if a = k ∧ b = j then v else m.1 a b := by
  by_cases h : a = k
  · subst h
    by_cases h2 : b = j
    · subst h2; rw [dSet_s, if_pos ⟨rfl, rfl⟩]
    · rw [dSet_j h2, if_neg (fun q => h2 q.2)]
  · rw [dSet_k h, if_neg (fun q => h q.1)]
theorem dSetL_e (m : dM) (k j : Nat) (v : Int64) (a b : Nat) : (dSetL m k j v).2.1 a b = if a = k ∧ b = j then v else m.2.1 a b := by
  by_cases h : a = k
  · subst h
    by_cases h2 : b = j
    · subst h2; simp [dSetL]
    · simp [dSetL, d_beq h2, h2]
  · simp [dSetL, d_beq h, h]
theorem dCpy_e (m : dM) (k0 sp k1 dp n a b : Nat) : (dCpy m k0 sp k1 dp n).1 a b = if a = k1 ∧ dp ≤ b ∧ b < dp + n then m.1 k0 (sp + (b - dp)) else m.1 a b := by
  by_cases h : a = k1
  · subst h
    simp only [dCpy, Nat.beq_refl, cond_true, va_cpy]
    by_cases h2 : dp ≤ b ∧ b < dp + n
    · rw [if_pos h2, if_pos ⟨trivial, h2⟩]
    · rw [if_neg h2, if_neg (fun q => h2 q.2)]
  · rw [if_neg (fun q => h q.1)]
    simp [dCpy, d_beq h]
theorem dFs_set {m : dM} {k j : Nat} {v : Int32} {fs : List (Option (Option Nat))} (hj : fs[j]? = some none) : dFs (dSet m k j v) k 0 fs = (dFs m k 0 fs).set j (.inl v) := by
  apply List.ext_getElem?
  intro i
  rw [List.getElem?_set, dFs_at, dFs_at, Nat.zero_add]
  by_cases hi : j = i
  · subst hi
    have hl : j < (dFs m k 0 fs).length := by
      have : (dFs m k 0 fs)[j]? = some (.inl (m.1 k j)) := by rw [dFs_at, hj]; simp [dFv]
      exact (List.getElem?_eq_some_iff.mp this).1
    rw [if_pos rfl, if_pos hl, hj]
    simp [dFv, dSet_s]
  · rw [if_neg hi]
    congr 1
    funext f
    match f with
    | none => simp [dFv, dSet_j (fun e => hi e.symm)]
    | some none => rfl
    | some (some r) => rfl
def tSh : List dS := [.inl (11, [some (some 1), none, none, some (some 2), some (some 20), some (some 38), some (some 43), some (some 44), some (some 47), some (some 51), some (some 54), some (some 61), some (some 67)]),
  .inr (.inl (1, 2000)),
  .inl (3, [none, none, none, none, none, none, none, some (some 3), some (some 4), some (some 5), some (some 6), some (some 7), some (some 8), some (some 9), some (some 10), some (some 11)]),
  .inr (.inl (0, 7)),
  .inr (.inl (0, 10)),
  .inr (.inl (0, 10)),
  .inr (.inl (0, 10)),
  .inr (.inl (0, 8)),
  .inr (.inl (0, 8)),
  .inr (.inl (0, 8)),
  .inr (.inl (0, 8)),
  .inl (4, [some (some 12), none, some (some 13), some (some 18), some (some 19), none]),
  .inr (.inl (0, 406)),
  .inr (.inr (.inr [14, 15, 16, 17])),
  .inr (.inl (0, 14)),
  .inr (.inl (0, 14)),
  .inr (.inl (0, 14)),
  .inr (.inl (0, 14)),
  .inr (.inl (0, 4)),
  .inr (.inl (0, 32)),
  .inl (3, [none, none, none, none, none, none, none, some (some 21), some (some 22), some (some 23), some (some 24), some (some 25), some (some 26), some (some 27), some (some 28), some (some 29)]),
  .inr (.inl (0, 7)),
  .inr (.inl (0, 10)),
  .inr (.inl (0, 10)),
  .inr (.inl (0, 10)),
  .inr (.inl (0, 8)),
  .inr (.inl (0, 8)),
  .inr (.inl (0, 8)),
  .inr (.inl (0, 8)),
  .inl (4, [some (some 30), none, some (some 31), some (some 36), some (some 37), none]),
  .inr (.inl (0, 406)),
  .inr (.inr (.inr [32, 33, 34, 35])),
  .inr (.inl (0, 14)),
  .inr (.inl (0, 14)),
  .inr (.inl (0, 14)),
  .inr (.inl (0, 14)),
  .inr (.inl (0, 4)),
  .inr (.inl (0, 32)),
  .inl (8, [some (some 39), some (some 40), some (some 41), some (some 42), some none, none]),
  .inr (.inl (0, 401)),
  .inr (.inl (0, 401)),
  .inr (.inr (.inl 401)),
  .inr (.inr (.inl 22)),
  .inl (2, [some (some 38), some (some 29), none, none, none, none, none]),
  .inl (5, [some (some 38), some (some 20), some (some 45), some (some 46), none, none]),
  .inr (.inr (.inl 7)),
  .inr (.inr (.inl 8)),
  .inl (7, [none, none, none, none, none, none, some (some 48), some (some 49), some (some 50)]),
  .inr (.inl (0, 10)),
  .inr (.inl (0, 10)),
  .inr (.inl (0, 7)),
  .inl (6, [some (some 52), some (some 53), none, none, none]),
  .inr (.inl (0, 1320)),
  .inr (.inl (0, 99)),
  .inl (0, [some (some 2), some (some 57), some (some 55), some (some 56)]),
  .inr (.inl (0, 9)),
  .inr (.inl (0, 10)),
  .inl (10, [some (some 2), none, some (some 58), some (some 59), some (some 60), none]),
  .inr (.inl (0, 7)),
  .inr (.inl (0, 7)),
  .inr (.inl (0, 7)),
  .inl (1, [some (some 2), some (some 54), some (some 62), some (some 66), none]),
  .inl (7, [none, none, none, none, none, none, some (some 63), some (some 64), some (some 65)]),
  .inr (.inl (0, 10)),
  .inr (.inl (0, 10)),
  .inr (.inl (0, 7)),
  .inr (.inl (0, 8)),
  .inl (9, [some (some 2), some (some 68), some (some 69), none]),
  .inr (.inl (0, 20)),
  .inr (.inl (2, 20)),
  .inl (12, [none, some (some 71), none, some (some 72), none, some (some 73), some (some 74), some (some 75), some (some 76), some (some 77), none, none, none, none, none, none, none, none, none, none, none, some (some 78), some (some 79), some (some 80), some (some 81), some (some 82), some (some 83), some (some 84), some (some 85), some (some 86), some (some 87), some (some 88), some (some 89), some (some 90), some (some 91), some (some 92), some (some 93), some (some 94), some (some 95), some (some 96), none, some (some 97), some (some 98), some (some 99), some (some 100), some (some 101), none, some (some 102), some (some 103), some (some 104), none, some (some 105), some (some 106), none, some (some 107), some (some 108), none, none, some (some 109), some (some 110), none, none, some (some 111), none, some (some 112), some (some 113), some (some 114), some (some 115), some (some 116)]),
  .inr (.inl (1, 2000)),
  .inr (.inl (1, 2000)),
  .inr (.inl (0, 403)),
  .inr (.inl (0, 403)),
  .inr (.inl (0, 403)),
  .inr (.inr (.inl 403)),
  .inr (.inr (.inl 22)),
  .inr (.inr (.inl 15)),
  .inr (.inl (0, 15)),
  .inr (.inl (0, 2)),
  .inr (.inl (0, 14)),
  .inr (.inl (0, 2)),
  .inr (.inl (0, 20)),
  .inr (.inl (0, 20)),
  .inr (.inl (0, 20)),
  .inr (.inl (0, 2)),
  .inr (.inl (0, 16)),
  .inr (.inl (0, 16)),
  .inr (.inl (0, 16)),
  .inr (.inl (0, 16)),
  .inr (.inl (0, 2)),
  .inr (.inl (0, 2)),
  .inr (.inl (0, 2)),
  .inr (.inl (0, 2)),
  .inr (.inl (0, 8)),
  .inr (.inl (0, 8)),
  .inr (.inl (2, 260)),
  .inr (.inl (0, 260)),
  .inr (.inl (0, 260)),
  .inr (.inl (0, 260)),
  .inr (.inl (0, 260)),
  .inr (.inl (0, 840)),
  .inr (.inl (0, 840)),
  .inr (.inl (0, 64)),
  .inr (.inl (0, 9)),
  .inr (.inl (0, 400)),
  .inr (.inl (0, 58)),
  .inr (.inl (0, 58)),
  .inr (.inl (0, 7)),
  .inr (.inl (0, 7)),
  .inr (.inl (0, 2320)),
  .inr (.inl (0, 20)),
  .inr (.inl (0, 20)),
  .inr (.inl (0, 10)),
  .inr (.inl (2, 3)),
  .inr (.inl (0, 174))]
def dHp (m : dM) : cH := dCs m 0 tSh
theorem dHp_at (m : dM) (k : Nat) : (dHp m)[k]? = (tSh[k]?).map (dC m k) := by
  unfold dHp
  rw [dCs_at, Nat.zero_add]
/-- a field's sort; a row's sort and length; a row of longs; a row of rows -/
def dFk (k a b : Nat) : Option (Option (Option Nat)) := match tSh[k]? with
  | some (.inl o) => cond (Nat.beq o.1 a) (o.2[b]?) none
  | _ => none
def dAk (k : Nat) : Option (Nat × Nat) := match tSh[k]? with
  | some (.inr (.inl a)) => some a
  | _ => none
def dLk (k : Nat) : Option Nat := match tSh[k]? with
  | some (.inr (.inr (.inl n))) => some n
  | _ => none
def dRk (k : Nat) : Option (List Nat) := match tSh[k]? with
  | some (.inr (.inr (.inr rs))) => some rs
  | _ => none
def dCk (k d0 : Nat) : Bool := match tSh[k]? with
  | some (.inl o) => Nat.beq o.1 d0
  | _ => false
theorem dFk_ok {k a b : Nat} {f : Option (Option Nat)} (h : dFk k a b = some f) : ∃ fs, tSh[k]? = some (.inl (a, fs)) ∧ fs[b]? = some f := by
  unfold dFk at h
  split at h
  · rename_i o ho
    obtain ⟨h1, h2⟩ := eCond h
    have e := Nat.eq_of_beq_eq_true h1
    exact ⟨o.2, by rw [ho, ← e], h2⟩
  · cases h
theorem dAk_ok {k : Nat} {a : Nat × Nat} (h : dAk k = some a) : tSh[k]? = some (.inr (.inl a)) := by
  unfold dAk at h
  split at h
  · rename_i o ho; cases h; exact ho
  · cases h
theorem dLk_ok {k n : Nat} (h : dLk k = some n) : tSh[k]? = some (.inr (.inr (.inl n))) := by
  unfold dLk at h
  split at h
  · rename_i o ho; cases h; exact ho
  · cases h
theorem dRk_ok {k : Nat} {rs : List Nat} (h : dRk k = some rs) : tSh[k]? = some (.inr (.inr (.inr rs))) := by
  unfold dRk at h
  split at h
  · rename_i o ho; cases h; exact ho
  · cases h
theorem dHp_set {m m' : dM} {i : Nat} {c : cC} (h1 : ∀ j, j ≠ i → m'.1 j = m.1 j ∧ m'.2.1 j = m.2.1 j) (h3 : m'.2.2 = m.2.2) (h2 : ∀ s, tSh[i]? = some s → dC m' i s = c) : (dHp m).set i c = dHp m' := dCs_set h1 h3 h2
/-! places, locals -/
def cIsR (i : Instr) : Bool := match i with
  | .return_ => true
  | .ireturn => true
  | .lreturn => true
  | .areturn => true
  | _ => false
theorem cRet_none {M : eM} {en : eN} {S : cS} (h : cIsR en.2.1 = false) : cRet M en S = none := by
  unfold cRet
  split
  · rename_i h2 h3; rw [h2] at h; cases h
  · rename_i h2 h3; rw [h2] at h; cases h
  · rename_i h2 h3; rw [h2] at h; cases h
  · rename_i h2 h3; rw [h2] at h; cases h
  · rename_i h2 h3; rw [h2] at h; cases h
  · rfl
abbrev dL : Type := List (Option cV)
def dLo (l : dL) (lc : cL) : Prop := ∀ (i : Nat) (v : cV), l[i]? = some (some v) → cGet lc i = some v
theorem cGet_filter {p : Nat × cV → Bool} : ∀ {lc : cL} {i : Nat} {v : cV}, cGet lc i = some v → p (i, v) = true → cGet (lc.filter p) i = some v
  | [], i, v, h, _ => by cases h
  | q :: lc, i, v, h, hp => by
    unfold cGet at h
    cases hb : Nat.beq q.1 i with
    | true =>
      rw [hb] at h
      have e := Nat.eq_of_beq_eq_true hb
      cases h
      have hq : p q = true := by
        have : q = (i, q.2) := by rw [← e]
        rw [this]; exact hp
      rw [List.filter_cons_of_pos hq]
      unfold cGet
      rw [hb]
      rfl
    | false =>
      rw [hb] at h
      have ih := cGet_filter (p := p) h hp
      cases hq : p q with
      | true =>
        rw [List.filter_cons_of_pos hq]
        unfold cGet
        rw [hb]
        exact ih
      | false =>
        rw [List.filter_cons_of_neg (by rw [hq]; decide)]
        exact ih
def dKl (l : dL) (k : Nat) : Bool := match k with
  | 0 => true
  | k + 1 => match l[k]? with
    | some (some (.inr (.inl _))) => false
    | _ => true
theorem dKl_ok {l : dL} {i : Nat} {w : cV} (h : dKl l (i + 1) = true) (hw : l[i]? = some (some w)) : (cCat w == 2) = false := by
  simp only [dKl, hw] at h
  match w, h with
  | .inl _, _ => rfl
  | .inr (.inr _), _ => rfl
theorem dPut_ok {l : dL} {lc : cL} {k : Nat} {v : cV} (h : dLo l lc) (hk : dKl l k = true) : dLo (l.set k (some v)) (cPut lc k v) := by
  intro i w hw
  rw [List.getElem?_set] at hw
  unfold cPut cGet
  by_cases hi : k = i
  · subst hi
    rw [if_pos rfl] at hw
    split at hw
    · cases hw
      rw [Nat.beq_refl]
      rfl
    · cases hw
  · rw [if_neg hi] at hw
    rw [d_beq hi]
    refine cGet_filter (h i w hw) ?_
    have e1 : (i == k) = false := beq_eq_false_iff_ne.mpr (fun e => hi e.symm)
    simp only [e1, Bool.not_false, Bool.true_and]
    by_cases h2 : i + 1 = k
    · subst h2
      rw [dKl_ok hk hw]
      simp
    · have e2 : (i + 1 == k) = false := beq_eq_false_iff_ne.mpr h2
      rw [e2]
      rfl
theorem dPut2_ok {l : dL} {lc : cL} {k : Nat} {v : cV} (h : dLo l lc) (hk : dKl l k = true) : dLo ((l.set k (some v)).set (k + 1) none) (cPut2 lc k v) := by
  intro i w hw
  rw [List.getElem?_set] at hw
  unfold cPut2 cGet
  by_cases hi1 : k + 1 = i
  · rw [if_pos hi1] at hw
    split at hw
    · cases hw
    · cases hw
  · rw [if_neg hi1, List.getElem?_set] at hw
    by_cases hi : k = i
    · subst hi
      rw [if_pos rfl] at hw
      split at hw
      · cases hw
        rw [Nat.beq_refl]
        rfl
      · cases hw
    · rw [if_neg hi] at hw
      rw [d_beq hi]
      refine cGet_filter (h i w hw) ?_
      have e1 : (i == k) = false := beq_eq_false_iff_ne.mpr (fun e => hi e.symm)
      have e3 : (i == k + 1) = false := beq_eq_false_iff_ne.mpr (fun e => hi1 e.symm)
      simp only [e1, e3, Bool.not_false, Bool.true_and]
      by_cases h2 : i + 1 = k
      · subst h2
        rw [dKl_ok hk hw]
        simp
      · have e2 : (i + 1 == k) = false := beq_eq_false_iff_ne.mpr h2
        rw [e2]
        rfl
def dArgs (vs : List cV) : dL := match vs with
  | [] => []
  | v :: vs => cond (Nat.beq (cCat v) 2) (some v :: none :: dArgs vs) (some v :: dArgs vs)
theorem dArgs_ge : ∀ (vs : List cV) (i j : Nat), j < i → cGet (cArgs i vs) j = none
  | [], i, j, h => rfl
  | v :: vs, i, j, h => by
    unfold cArgs cGet
    simp only
    rw [d_beq (show i ≠ j by omega)]
    exact dArgs_ge vs _ j (by cases Nat.beq (cCat v) 2 <;> simp <;> omega)
theorem dArgs_ok : ∀ (vs : List cV) (i0 i : Nat) (v : cV) (n : Nat), (dArgs vs ++ List.replicate n none)[i]? = some (some v) → cGet (cArgs i0 vs) (i0 + i) = some v
  | [], i0, i, v, n, h => by
    simp only [dArgs, List.nil_append, List.getElem?_replicate] at h
    split at h <;> cases h
  | a :: vs, i0, i, v, n, h => by
    unfold dArgs at h
    unfold cArgs cGet
    simp only
    cases hc : Nat.beq (cCat a) 2 with
    | true =>
      rw [hc] at h
      match i, h with
      | 0, h =>
        simp at h
        subst h
        rw [Nat.add_zero, Nat.beq_refl]
        rfl
      | 1, h => simp at h
      | i + 2, h =>
        rw [d_beq (show i0 ≠ i0 + (i + 2) by omega)]
        have := dArgs_ok vs (i0 + 2) i v n (by simpa using h)
        rw [show i0 + (i + 2) = i0 + 2 + i by omega]
        exact this
    | false =>
      rw [hc] at h
      match i, h with
      | 0, h =>
        simp at h
        subst h
        rw [Nat.add_zero, Nat.beq_refl]
        rfl
      | i + 1, h =>
        rw [d_beq (show i0 ≠ i0 + (i + 1) by omega)]
        have := dArgs_ok vs (i0 + 1) i v n (by simpa using h)
        rw [show i0 + (i + 1) = i0 + 1 + i by omega]
        exact this
/-! WHAT A METHOD COMES TO: from a place, with locals l, stack st, memory m, it ends, and what it hands back and leaves is as Q says -/
def Wp (d y pc : Nat) (l : dL) (st : List cV) (m : dM) (Q : Option cV → dM → Prop) : Prop := ∀ lc : cL, dLo l lc → ∃ (v : Option cV) (m' : dM), cRun tMs d y (pc, lc, st, dHp m) v (dHp m') ∧ Q v m'
theorem Wp.mono {d y pc : Nat} {l : dL} {st : List cV} {m : dM} {Q Q' : Option cV → dM → Prop} (h : Wp d y pc l st m Q) (hq : ∀ v m', Q v m' → Q' v m') : Wp d y pc l st m Q' := by
  intro lc hlc
  obtain ⟨v, m', h1, h2⟩ := h lc hlc
  exact ⟨v, m', h1, hq v m' h2⟩
theorem Wp.deep {d d' y pc : Nat} {l : dL} {st : List cV} {m : dM} {Q : Option cV → dM → Prop} (h : Wp d y pc l st m Q) (hd : d ≤ d') : Wp d' y pc l st m Q := by
  intro lc hlc
  obtain ⟨v, m', h1, h2⟩ := h lc hlc
  exact ⟨v, m', h1.deep hd, h2⟩
def dMask : List Bool → dL → dL
  | b :: bs, x :: l => cond b x none :: dMask bs l
  | _, _ => []
theorem dMask_ok : ∀ (bs : List Bool) (l : dL) (i : Nat) (v : cV), (dMask bs l)[i]? = some (some v) → l[i]? = some (some v)
  | [], l, i, v, h => by simp [dMask] at h
  | b :: bs, [], i, v, h => by simp [dMask] at h
  | b :: bs, x :: l, 0, v, h => by
    simp only [dMask, List.getElem?_cons_zero] at h
    cases b with
    | true => simpa using h
    | false => simp at h
  | b :: bs, x :: l, i + 1, v, h => by
    simp only [dMask, List.getElem?_cons_succ] at h
    simpa using dMask_ok bs l i v h
theorem Wp.wk (bs : List Bool) {d y pc : Nat} {l : dL} {st : List cV} {m : dM} {Q : Option cV → dM → Prop} (h : Wp d y pc (dMask bs l) st m Q) : Wp d y pc l st m Q := fun lc hlc => h lc (fun i v hi => hlc i v (dMask_ok bs l i v hi))
def qV (Q : dM → Prop) : Option cV → dM → Prop := fun o m => o = none ∧ Q m
def qI (Q : Int32 → dM → Prop) : Option cV → dM → Prop := fun o m => ∃ x, o = some (.inl x) ∧ Q x m
def qL (Q : Int64 → dM → Prop) : Option cV → dM → Prop := fun o m => ∃ x, o = some (.inr (.inl x)) ∧ Q x m
def qR (k : Nat) (Q : dM → Prop) : Option cV → dM → Prop := fun o m => o = some (.inr (.inr (some k))) ∧ Q m
def dAt (M : eM) (pc q : Nat) (i : Instr) (a b e : Nat) : Prop := (∃ c len, eAt M.1 pc = some (pc, i, len, a, b, c, e)) ∧ pc + eLen i = q
section DRU
variable {d y pc q : Nat} {M : eM} {a b e : Nat} {l : dL} {st : List cV} {m : dM} {Q : Option cV → dM → Prop}
theorem Wp.step {i : Instr} {l' : dL} {st' : List cV} {m' : dM} (hM : tMs[y]? = some M) (ha : ∃ c len, eAt M.1 pc = some (pc, i, len, a, b, c, e)) (hr : cIsR i = false) (hc : cIsC i = false) (hs : ∀ lc, dLo l lc → ∃ lc', dLo l' lc' ∧ cStep M.2.1 i a b e pc lc st (dHp m) = some (q, lc', st', dHp m')) (K : Wp d y q l' st' m' Q) : Wp d y pc l st m Q := by
  intro lc hlc
  obtain ⟨c, len, ha⟩ := ha
  obtain ⟨lc', h1, h2⟩ := hs lc hlc
  obtain ⟨v, m2, h3, h4⟩ := K lc' h1
  exact ⟨v, m2, cRun.step hM ha (cRet_none hr) hc h2 h3, h4⟩
theorem w_iconst {n : Int} {x : Int32} (hM : tMs[y]? = some M) (ha : dAt M pc q (.iconst n) a b e) (hx : Int32.ofInt n = x) (K : Wp d y q l (.inl x :: st) m Q) : Wp d y pc l st m Q :=
  Wp.step hM ha.1 rfl rfl (fun lc h => ⟨lc, h, by rw [← ha.2, ← hx]; rfl⟩) K
theorem w_bipush {n : Int} {x : Int32} (hM : tMs[y]? = some M) (ha : dAt M pc q (.bipush n) a b e) (hx : (Int8.ofInt n).toInt32 = x) (K : Wp d y q l (.inl x :: st) m Q) : Wp d y pc l st m Q :=
  Wp.step hM ha.1 rfl rfl (fun lc h => ⟨lc, h, by rw [← ha.2, ← hx]; rfl⟩) K
theorem w_sipush {n : Int} {x : Int32} (hM : tMs[y]? = some M) (ha : dAt M pc q (.sipush n) a b e) (hx : (Int16.ofInt n).toInt32 = x) (K : Wp d y q l (.inl x :: st) m Q) : Wp d y pc l st m Q :=
  Wp.step hM ha.1 rfl rfl (fun lc h => ⟨lc, h, by rw [← ha.2, ← hx]; rfl⟩) K
theorem w_lconst {n : Fin 2} {x : Int64} (hM : tMs[y]? = some M) (ha : dAt M pc q (.lconst n) a b e) (hx : Int64.ofNat (n : Nat) = x) (K : Wp d y q l (.inr (.inl x) :: st) m Q) : Wp d y pc l st m Q :=
  Wp.step hM ha.1 rfl rfl (fun lc h => ⟨lc, h, by rw [← ha.2, ← hx]; rfl⟩) K
theorem w_ldc {n : Nat} {x : Int32} (hM : tMs[y]? = some M) (ha : dAt M pc q (.ldc n) a b e) (hx : Int32.ofNat a = x) (K : Wp d y q l (.inl x :: st) m Q) : Wp d y pc l st m Q :=
  Wp.step hM ha.1 rfl rfl (fun lc h => ⟨lc, h, by rw [← ha.2, ← hx]; rfl⟩) K
theorem w_ldc_w {n : Nat} {x : Int32} (hM : tMs[y]? = some M) (ha : dAt M pc q (.ldc_w n) a b e) (hx : Int32.ofNat a = x) (K : Wp d y q l (.inl x :: st) m Q) : Wp d y pc l st m Q :=
  Wp.step hM ha.1 rfl rfl (fun lc h => ⟨lc, h, by rw [← ha.2, ← hx]; rfl⟩) K
theorem w_ldc2_w {n : Nat} {x : Int64} (hM : tMs[y]? = some M) (ha : dAt M pc q (.ldc2_w n) a b e) (hx : Int64.ofNat a = x) (K : Wp d y q l (.inr (.inl x) :: st) m Q) : Wp d y pc l st m Q :=
  Wp.step hM ha.1 rfl rfl (fun lc h => ⟨lc, h, by rw [← ha.2, ← hx]; rfl⟩) K
theorem w_iload_n {k : Fin 4} {x : Int32} (hM : tMs[y]? = some M) (ha : dAt M pc q (.iload_n k) a b e) (hl : l[(k : Nat)]? = some (some (.inl x))) (K : Wp d y q l (.inl x :: st) m Q) : Wp d y pc l st m Q :=
  Wp.step hM ha.1 rfl rfl (fun lc h => ⟨lc, h, by rw [← ha.2]; simp only [cStep, h _ _ hl]; rfl⟩) K
theorem w_istore_n {k : Fin 4} {x : Int32} {l' : dL} (hM : tMs[y]? = some M) (ha : dAt M pc q (.istore_n k) a b e) (hn : Nat.blt ((k : Nat)) M.2.1 = true) (hk : dKl l (k : Nat) = true) (hl : l.set (k : Nat) (some (.inl x)) = l') (K : Wp d y q l' st m Q) : Wp d y pc l (.inl x :: st) m Q :=
  Wp.step hM ha.1 rfl rfl (fun lc h => ⟨_, hl ▸ dPut_ok h hk, by rw [← ha.2]; simp only [cStep, hn, cond_true]; rfl⟩) K
theorem w_iload {k : Nat} {x : Int32} (hM : tMs[y]? = some M) (ha : dAt M pc q (.iload k) a b e) (hl : l[(k : Nat)]? = some (some (.inl x))) (K : Wp d y q l (.inl x :: st) m Q) : Wp d y pc l st m Q :=
  Wp.step hM ha.1 rfl rfl (fun lc h => ⟨lc, h, by rw [← ha.2]; simp only [cStep, h _ _ hl]; rfl⟩) K
theorem w_istore {k : Nat} {x : Int32} {l' : dL} (hM : tMs[y]? = some M) (ha : dAt M pc q (.istore k) a b e) (hn : Nat.blt ((k : Nat)) M.2.1 = true) (hk : dKl l (k : Nat) = true) (hl : l.set (k : Nat) (some (.inl x)) = l') (K : Wp d y q l' st m Q) : Wp d y pc l (.inl x :: st) m Q :=
  Wp.step hM ha.1 rfl rfl (fun lc h => ⟨_, hl ▸ dPut_ok h hk, by rw [← ha.2]; simp only [cStep, hn, cond_true]; rfl⟩) K
theorem w_lload_n {k : Fin 4} {x : Int64} (hM : tMs[y]? = some M) (ha : dAt M pc q (.lload_n k) a b e) (hl : l[(k : Nat)]? = some (some (.inr (.inl x)))) (K : Wp d y q l (.inr (.inl x) :: st) m Q) : Wp d y pc l st m Q :=
  Wp.step hM ha.1 rfl rfl (fun lc h => ⟨lc, h, by rw [← ha.2]; simp only [cStep, h _ _ hl]; rfl⟩) K
theorem w_lstore_n {k : Fin 4} {x : Int64} {l' : dL} (hM : tMs[y]? = some M) (ha : dAt M pc q (.lstore_n k) a b e) (hn : Nat.blt ((k : Nat) + 1) M.2.1 = true) (hk : dKl l (k : Nat) = true) (hl : (l.set (k : Nat) (some (.inr (.inl x)))).set ((k : Nat) + 1) none = l') (K : Wp d y q l' st m Q) : Wp d y pc l (.inr (.inl x) :: st) m Q :=
  Wp.step hM ha.1 rfl rfl (fun lc h => ⟨_, hl ▸ dPut2_ok h hk, by rw [← ha.2]; simp only [cStep, hn, cond_true]; rfl⟩) K
theorem w_lload {k : Nat} {x : Int64} (hM : tMs[y]? = some M) (ha : dAt M pc q (.lload k) a b e) (hl : l[(k : Nat)]? = some (some (.inr (.inl x)))) (K : Wp d y q l (.inr (.inl x) :: st) m Q) : Wp d y pc l st m Q :=
  Wp.step hM ha.1 rfl rfl (fun lc h => ⟨lc, h, by rw [← ha.2]; simp only [cStep, h _ _ hl]; rfl⟩) K
theorem w_lstore {k : Nat} {x : Int64} {l' : dL} (hM : tMs[y]? = some M) (ha : dAt M pc q (.lstore k) a b e) (hn : Nat.blt ((k : Nat) + 1) M.2.1 = true) (hk : dKl l (k : Nat) = true) (hl : (l.set (k : Nat) (some (.inr (.inl x)))).set ((k : Nat) + 1) none = l') (K : Wp d y q l' st m Q) : Wp d y pc l (.inr (.inl x) :: st) m Q :=
  Wp.step hM ha.1 rfl rfl (fun lc h => ⟨_, hl ▸ dPut2_ok h hk, by rw [← ha.2]; simp only [cStep, hn, cond_true]; rfl⟩) K
theorem w_aload_n {k : Fin 4} {x : Nat} (hM : tMs[y]? = some M) (ha : dAt M pc q (.aload_n k) a b e) (hl : l[(k : Nat)]? = some (some (.inr (.inr (some x))))) (K : Wp d y q l (.inr (.inr (some x)) :: st) m Q) : Wp d y pc l st m Q :=
  Wp.step hM ha.1 rfl rfl (fun lc h => ⟨lc, h, by rw [← ha.2]; simp only [cStep, h _ _ hl]; rfl⟩) K
theorem w_astore_n {k : Fin 4} {x : Nat} {l' : dL} (hM : tMs[y]? = some M) (ha : dAt M pc q (.astore_n k) a b e) (hn : Nat.blt ((k : Nat)) M.2.1 = true) (hk : dKl l (k : Nat) = true) (hl : l.set (k : Nat) (some (.inr (.inr (some x)))) = l') (K : Wp d y q l' st m Q) : Wp d y pc l (.inr (.inr (some x)) :: st) m Q :=
  Wp.step hM ha.1 rfl rfl (fun lc h => ⟨_, hl ▸ dPut_ok h hk, by rw [← ha.2]; simp only [cStep, hn, cond_true]; rfl⟩) K
theorem w_aload {k : Nat} {x : Nat} (hM : tMs[y]? = some M) (ha : dAt M pc q (.aload k) a b e) (hl : l[(k : Nat)]? = some (some (.inr (.inr (some x))))) (K : Wp d y q l (.inr (.inr (some x)) :: st) m Q) : Wp d y pc l st m Q :=
  Wp.step hM ha.1 rfl rfl (fun lc h => ⟨lc, h, by rw [← ha.2]; simp only [cStep, h _ _ hl]; rfl⟩) K
theorem w_astore {k : Nat} {x : Nat} {l' : dL} (hM : tMs[y]? = some M) (ha : dAt M pc q (.astore k) a b e) (hn : Nat.blt ((k : Nat)) M.2.1 = true) (hk : dKl l (k : Nat) = true) (hl : l.set (k : Nat) (some (.inr (.inr (some x)))) = l') (K : Wp d y q l' st m Q) : Wp d y pc l (.inr (.inr (some x)) :: st) m Q :=
  Wp.step hM ha.1 rfl rfl (fun lc h => ⟨_, hl ▸ dPut_ok h hk, by rw [← ha.2]; simp only [cStep, hn, cond_true]; rfl⟩) K
theorem w_iinc {k : Nat} {n : Int} {x z : Int32} {l' : dL} (hM : tMs[y]? = some M) (ha : dAt M pc q (.iinc k n) a b e) (hg : l[k]? = some (some (.inl x))) (hn : Nat.blt k M.2.1 = true) (hk : dKl l k = true) (hz : Int32.ofInt n = z) (hl : l.set k (some (.inl (x + z))) = l') (K : Wp d y q l' st m Q) : Wp d y pc l st m Q :=
  Wp.step hM ha.1 rfl rfl (fun lc h => ⟨_, hl ▸ dPut_ok h hk, by rw [← ha.2, ← hz]; simp only [cStep, h _ _ hg, hn, cond_true]; rfl⟩) K
theorem w_iadd {x z : Int32} (hM : tMs[y]? = some M) (ha : dAt M pc q .iadd a b e) (K : Wp d y q l (.inl (x + z) :: st) m Q) : Wp d y pc l (.inl z :: .inl x :: st) m Q :=
  Wp.step hM ha.1 rfl rfl (fun lc h => ⟨lc, h, by rw [← ha.2]; rfl⟩) K
theorem w_isub {x z : Int32} (hM : tMs[y]? = some M) (ha : dAt M pc q .isub a b e) (K : Wp d y q l (.inl (x - z) :: st) m Q) : Wp d y pc l (.inl z :: .inl x :: st) m Q :=
  Wp.step hM ha.1 rfl rfl (fun lc h => ⟨lc, h, by rw [← ha.2]; rfl⟩) K
theorem w_imul {x z : Int32} (hM : tMs[y]? = some M) (ha : dAt M pc q .imul a b e) (K : Wp d y q l (.inl (x * z) :: st) m Q) : Wp d y pc l (.inl z :: .inl x :: st) m Q :=
  Wp.step hM ha.1 rfl rfl (fun lc h => ⟨lc, h, by rw [← ha.2]; rfl⟩) K
theorem w_iand {x z : Int32} (hM : tMs[y]? = some M) (ha : dAt M pc q .iand a b e) (K : Wp d y q l (.inl (x &&& z) :: st) m Q) : Wp d y pc l (.inl z :: .inl x :: st) m Q :=
  Wp.step hM ha.1 rfl rfl (fun lc h => ⟨lc, h, by rw [← ha.2]; rfl⟩) K
theorem w_ior {x z : Int32} (hM : tMs[y]? = some M) (ha : dAt M pc q .ior a b e) (K : Wp d y q l (.inl (x ||| z) :: st) m Q) : Wp d y pc l (.inl z :: .inl x :: st) m Q :=
  Wp.step hM ha.1 rfl rfl (fun lc h => ⟨lc, h, by rw [← ha.2]; rfl⟩) K
theorem w_ixor {x z : Int32} (hM : tMs[y]? = some M) (ha : dAt M pc q .ixor a b e) (K : Wp d y q l (.inl (x ^^^ z) :: st) m Q) : Wp d y pc l (.inl z :: .inl x :: st) m Q :=
  Wp.step hM ha.1 rfl rfl (fun lc h => ⟨lc, h, by rw [← ha.2]; rfl⟩) K
theorem w_ishl {x z : Int32} (hM : tMs[y]? = some M) (ha : dAt M pc q .ishl a b e) (K : Wp d y q l (.inl (x <<< (z &&& 31)) :: st) m Q) : Wp d y pc l (.inl z :: .inl x :: st) m Q :=
  Wp.step hM ha.1 rfl rfl (fun lc h => ⟨lc, h, by rw [← ha.2]; rfl⟩) K
theorem w_ishr {x z : Int32} (hM : tMs[y]? = some M) (ha : dAt M pc q .ishr a b e) (K : Wp d y q l (.inl (x >>> (z &&& 31)) :: st) m Q) : Wp d y pc l (.inl z :: .inl x :: st) m Q :=
  Wp.step hM ha.1 rfl rfl (fun lc h => ⟨lc, h, by rw [← ha.2]; rfl⟩) K
theorem w_iushr {x z : Int32} (hM : tMs[y]? = some M) (ha : dAt M pc q .iushr a b e) (K : Wp d y q l (.inl ((x.toUInt32 >>> (z.toUInt32 &&& Int32.toUInt32 31)).toInt32) :: st) m Q) : Wp d y pc l (.inl z :: .inl x :: st) m Q :=
  Wp.step hM ha.1 rfl rfl (fun lc h => ⟨lc, h, by rw [← ha.2]; rfl⟩) K
theorem w_irem {x z : Int32} (hM : tMs[y]? = some M) (ha : dAt M pc q .irem a b e) (hz : z ≠ 0) (K : Wp d y q l (.inl (x - x / z * z) :: st) m Q) : Wp d y pc l (.inl z :: .inl x :: st) m Q :=
  Wp.step hM ha.1 rfl rfl (fun lc h => ⟨lc, h, by rw [← ha.2]; simp only [cStep, cBin, decide_eq_false hz, cond_false]; rfl⟩) K
theorem w_idiv {x z : Int32} (hM : tMs[y]? = some M) (ha : dAt M pc q .idiv a b e) (hz : z ≠ 0) (K : Wp d y q l (.inl (x / z) :: st) m Q) : Wp d y pc l (.inl z :: .inl x :: st) m Q :=
  Wp.step hM ha.1 rfl rfl (fun lc h => ⟨lc, h, by rw [← ha.2]; simp only [cStep, cBin, decide_eq_false hz, cond_false]; rfl⟩) K
theorem w_i2b {x : Int32} (hM : tMs[y]? = some M) (ha : dAt M pc q .i2b a b e) (K : Wp d y q l (.inl x.toInt8.toInt32 :: st) m Q) : Wp d y pc l (.inl x :: st) m Q :=
  Wp.step hM ha.1 rfl rfl (fun lc h => ⟨lc, h, by
    rw [← ha.2]
    match st with
    | [] => rfl
    | .inl _ :: _ => rfl
    | .inr _ :: _ => rfl⟩) K
theorem w_i2l {x : Int32} (hM : tMs[y]? = some M) (ha : dAt M pc q .i2l a b e) (K : Wp d y q l (.inr (.inl x.toInt64) :: st) m Q) : Wp d y pc l (.inl x :: st) m Q :=
  Wp.step hM ha.1 rfl rfl (fun lc h => ⟨lc, h, by
    rw [← ha.2]
    match st with
    | [] => rfl
    | .inl _ :: _ => rfl
    | .inr _ :: _ => rfl⟩) K
theorem w_l2i {x : Int64} (hM : tMs[y]? = some M) (ha : dAt M pc q .l2i a b e) (K : Wp d y q l (.inl x.toInt32 :: st) m Q) : Wp d y pc l (.inr (.inl x) :: st) m Q :=
  Wp.step hM ha.1 rfl rfl (fun lc h => ⟨lc, h, by
    rw [← ha.2]
    match st with
    | [] => rfl
    | .inl _ :: _ => rfl
    | .inr (.inl _) :: _ => rfl
    | .inr (.inr _) :: _ => rfl⟩) K
theorem w_ladd {x z : Int64} (hM : tMs[y]? = some M) (ha : dAt M pc q .ladd a b e) (K : Wp d y q l (.inr (.inl (x + z)) :: st) m Q) : Wp d y pc l (.inr (.inl z) :: .inr (.inl x) :: st) m Q :=
  Wp.step hM ha.1 rfl rfl (fun lc h => ⟨lc, h, by rw [← ha.2]; rfl⟩) K
theorem w_lmul {x z : Int64} (hM : tMs[y]? = some M) (ha : dAt M pc q .lmul a b e) (K : Wp d y q l (.inr (.inl (x * z)) :: st) m Q) : Wp d y pc l (.inr (.inl z) :: .inr (.inl x) :: st) m Q :=
  Wp.step hM ha.1 rfl rfl (fun lc h => ⟨lc, h, by rw [← ha.2]; rfl⟩) K
theorem w_lcmp {x z : Int64} (hM : tMs[y]? = some M) (ha : dAt M pc q .lcmp a b e) (K : Wp d y q l (.inl (lg_cmp x z) :: st) m Q) : Wp d y pc l (.inr (.inl z) :: .inr (.inl x) :: st) m Q :=
  Wp.step hM ha.1 rfl rfl (fun lc h => ⟨lc, h, by rw [← ha.2]; rfl⟩) K
theorem w_dup {v : cV} (hM : tMs[y]? = some M) (ha : dAt M pc q .dup a b e) (hv : Nat.beq (cCat v) 1 = true) (K : Wp d y q l (v :: v :: st) m Q) : Wp d y pc l (v :: st) m Q :=
  Wp.step hM ha.1 rfl rfl (fun lc h => ⟨lc, h, by rw [← ha.2]; simp only [cStep, hv, cond_true]; rfl⟩) K
theorem w_dup2 {v w : cV} (hM : tMs[y]? = some M) (ha : dAt M pc q .dup2 a b e) (hv : (Nat.beq (cCat v) 1 && Nat.beq (cCat w) 1) = true) (K : Wp d y q l (v :: w :: v :: w :: st) m Q) : Wp d y pc l (v :: w :: st) m Q :=
  Wp.step hM ha.1 rfl rfl (fun lc h => ⟨lc, h, by rw [← ha.2]; simp only [cStep, hv, cond_true]; rfl⟩) K
theorem w_pop {v : cV} (hM : tMs[y]? = some M) (ha : dAt M pc q .pop a b e) (hv : Nat.beq (cCat v) 1 = true) (K : Wp d y q l st m Q) : Wp d y pc l (v :: st) m Q :=
  Wp.step hM ha.1 rfl rfl (fun lc h => ⟨lc, h, by rw [← ha.2]; simp only [cStep, hv, cond_true]; rfl⟩) K
theorem w_getf {k z : Nat} {v : Int32} (hM : tMs[y]? = some M) (ha : dAt M pc q (.getfield z) a b e) (hf : dFk k a b = some none) (hv : m.1 k b = v) (K : Wp d y q l (.inl v :: st) m Q) : Wp d y pc l (.inr (.inr (some k)) :: st) m Q := by
  obtain ⟨fs, h1, h2⟩ := dFk_ok hf
  refine Wp.step hM ha.1 rfl rfl (fun lc h => ⟨lc, h, ?_⟩) K
  rw [← ha.2]
  simp only [cStep, dHp_at, h1, Option.map_some, dC, Nat.beq_refl, cond_true, dFs_at, h2, dFv, Nat.zero_add]
  rw [hv]; rfl
theorem w_getr {k z : Nat} {r : Nat} (hM : tMs[y]? = some M) (ha : dAt M pc q (.getfield z) a b e) (hf : dFk k a b = some (some (some r))) (K : Wp d y q l (.inr (.inr (some r)) :: st) m Q) : Wp d y pc l (.inr (.inr (some k)) :: st) m Q := by
  obtain ⟨fs, h1, h2⟩ := dFk_ok hf
  refine Wp.step hM ha.1 rfl rfl (fun lc h => ⟨lc, h, ?_⟩) K
  rw [← ha.2]
  simp only [cStep, dHp_at, h1, Option.map_some, dC, Nat.beq_refl, cond_true, dFs_at, h2, dFv, Nat.zero_add]
  rfl
theorem w_gett {k z : Nat} (hM : tMs[y]? = some M) (ha : dAt M pc q (.getfield z) a b e) (hf : dFk k a b = some (some none)) (K : Wp d y q l (.inr (.inr (cond m.2.2 (some 1) none)) :: st) m Q) : Wp d y pc l (.inr (.inr (some k)) :: st) m Q := by
  obtain ⟨fs, h1, h2⟩ := dFk_ok hf
  refine Wp.step hM ha.1 rfl rfl (fun lc h => ⟨lc, h, ?_⟩) K
  rw [← ha.2]
  simp only [cStep, dHp_at, h1, Option.map_some, dC, Nat.beq_refl, cond_true, dFs_at, h2, dFv, Nat.zero_add]
  rfl
theorem w_gettT {k z : Nat} (hM : tMs[y]? = some M) (ha : dAt M pc q (.getfield z) a b e) (hf : dFk k a b = some (some none)) (ht : m.2.2 = true) (K : Wp d y q l (.inr (.inr (some 1)) :: st) m Q) : Wp d y pc l (.inr (.inr (some k)) :: st) m Q := by
  obtain ⟨fs, h1, h2⟩ := dFk_ok hf
  refine Wp.step hM ha.1 rfl rfl (fun lc h => ⟨lc, h, ?_⟩) K
  rw [← ha.2]
  simp only [cStep, dHp_at, h1, Option.map_some, dC, Nat.beq_refl, cond_true, dFs_at, h2, dFv, Nat.zero_add]
  rw [ht]; rfl
theorem w_putf {k z : Nat} {x : Int32} {m' : dM} (hM : tMs[y]? = some M) (ha : dAt M pc q (.putfield z) a b e) (hf : dFk k a b = some none) (he : e = 0) (hm : dSet m k b x = m') (K : Wp d y q l st m' Q) : Wp d y pc l (.inl x :: .inr (.inr (some k)) :: st) m Q := by
  obtain ⟨fs, h1, h2⟩ := dFk_ok hf
  subst hm
  refine Wp.step hM ha.1 rfl rfl (fun lc h => ⟨lc, h, ?_⟩) K
  rw [← ha.2]
  have hb : Nat.blt b (dFs m k 0 fs).length = true := by
    have : (dFs m k 0 fs)[b]? = some (.inl (m.1 k b)) := by rw [dFs_at, h2]; simp [dFv]
    exact Nat.ble_eq_true_of_le (List.getElem?_eq_some_iff.mp this).1
  have hc : (Nat.beq e 0 || (Nat.beq e 2 && cB1 x)) = true := by simp only [he, Nat.beq_refl, Bool.true_or]
  simp only [cStep, dHp_at, h1, Option.map_some, dC, Nat.beq_refl, hb, hc, Bool.and_true, cond_true]
  rw [dHp_set (m' := dSet m k b x) (fun j hj => ⟨dSet_k hj, rfl⟩) rfl (fun s hs => ?_)]
  · rfl
  · rw [h1] at hs
    cases hs
    simp only [dC, dFs_set h2]
theorem w_putz {k z : Nat} {x : Int32} {m' : dM} (hM : tMs[y]? = some M) (ha : dAt M pc q (.putfield z) a b e) (hf : dFk k a b = some none) (he : e = 2) (hx : x = 0 ∨ x = 1) (hm : dSet m k b x = m') (K : Wp d y q l st m' Q) : Wp d y pc l (.inl x :: .inr (.inr (some k)) :: st) m Q := by
  obtain ⟨fs, h1, h2⟩ := dFk_ok hf
  subst hm
  refine Wp.step hM ha.1 rfl rfl (fun lc h => ⟨lc, h, ?_⟩) K
  rw [← ha.2]
  have hb : Nat.blt b (dFs m k 0 fs).length = true := by
    have : (dFs m k 0 fs)[b]? = some (.inl (m.1 k b)) := by rw [dFs_at, h2]; simp [dFv]
    exact Nat.ble_eq_true_of_le (List.getElem?_eq_some_iff.mp this).1
  have hc : (Nat.beq e 0 || (Nat.beq e 2 && cB1 x)) = true := by simp only [he, Nat.beq_refl, Bool.true_and, cB1, decide_eq_true hx, Bool.or_true]
  simp only [cStep, dHp_at, h1, Option.map_some, dC, Nat.beq_refl, hb, hc, Bool.and_true, cond_true]
  rw [dHp_set (m' := dSet m k b x) (fun j hj => ⟨dSet_k hj, rfl⟩) rfl (fun s hs => ?_)]
  · rfl
  · rw [h1] at hs
    cases hs
    simp only [dC, dFs_set h2]
theorem w_putt {k z : Nat} (hM : tMs[y]? = some M) (ha : dAt M pc q (.putfield z) a b e) (hk : k = 38) (hb : b = 4) (hA : a = 8) (he : e = 5) (K : Wp d y q l st (dTx m) Q) : Wp d y pc l (.inr (.inr (some 1)) :: .inr (.inr (some k)) :: st) m Q := by
  subst hk
  subst hb
  subst hA
  subst he
  refine Wp.step hM ha.1 rfl rfl (fun lc h => ⟨lc, h, ?_⟩) K
  rw [← ha.2]
  rfl
theorem d_cix {x : Int32} {n : Nat} (h : 0 ≤ x.toInt ∧ x.toInt < n) : cIx x n = true := decide_eq_true h
theorem w_iald {k n j : Nat} {x v : Int32} (hM : tMs[y]? = some M) (ha : dAt M pc q .iaload a b e) (hk : dAk k = some (0, n)) (hi : 0 ≤ x.toInt ∧ x.toInt < n) (hj : x.toNatClampNeg = j) (hv : m.1 k j = v) (K : Wp d y q l (.inl v :: st) m Q) : Wp d y pc l (.inl x :: .inr (.inr (some k)) :: st) m Q := by
  refine Wp.step hM ha.1 rfl rfl (fun lc h => ⟨lc, h, ?_⟩) K
  rw [← ha.2]
  simp only [cStep, dHp_at, dAk_ok hk, Option.map_some, dC, Nat.beq_refl, d_cix hi, Bool.and_true, Bool.true_or, Bool.or_true, cond_true, hj, hv]
  rfl
theorem w_bald {k n j : Nat} {x v : Int32} (hM : tMs[y]? = some M) (ha : dAt M pc q .baload a b e) (hk : dAk k = some (1, n)) (hi : 0 ≤ x.toInt ∧ x.toInt < n) (hj : x.toNatClampNeg = j) (hv : m.1 k j = v) (K : Wp d y q l (.inl v :: st) m Q) : Wp d y pc l (.inl x :: .inr (.inr (some k)) :: st) m Q := by
  refine Wp.step hM ha.1 rfl rfl (fun lc h => ⟨lc, h, ?_⟩) K
  rw [← ha.2]
  simp only [cStep, dHp_at, dAk_ok hk, Option.map_some, dC, Nat.beq_refl, d_cix hi, Bool.and_true, Bool.true_or, Bool.or_true, cond_true, hj, hv]
  rfl
theorem w_zald {k n j : Nat} {x v : Int32} (hM : tMs[y]? = some M) (ha : dAt M pc q .baload a b e) (hk : dAk k = some (2, n)) (hi : 0 ≤ x.toInt ∧ x.toInt < n) (hj : x.toNatClampNeg = j) (hv : m.1 k j = v) (K : Wp d y q l (.inl v :: st) m Q) : Wp d y pc l (.inl x :: .inr (.inr (some k)) :: st) m Q := by
  refine Wp.step hM ha.1 rfl rfl (fun lc h => ⟨lc, h, ?_⟩) K
  rw [← ha.2]
  simp only [cStep, dHp_at, dAk_ok hk, Option.map_some, dC, Nat.beq_refl, d_cix hi, Bool.and_true, Bool.true_or, Bool.or_true, cond_true, hj, hv]
  rfl
theorem w_iast {k n j : Nat} {x z : Int32} {m' : dM} (hM : tMs[y]? = some M) (ha : dAt M pc q .iastore a b e) (hk : dAk k = some (0, n)) (hi : 0 ≤ x.toInt ∧ x.toInt < n) (hj : x.toNatClampNeg = j) (hm : dSet m k j (z) = m') (K : Wp d y q l st m' Q) : Wp d y pc l (.inl z :: .inl x :: .inr (.inr (some k)) :: st) m Q := by
  subst hm
  subst hj
  refine Wp.step hM ha.1 rfl rfl (fun lc h => ⟨lc, h, ?_⟩) K
  rw [← ha.2]
  simp only [cStep, dHp_at, dAk_ok hk, Option.map_some, dC, Nat.beq_refl, d_cix hi, Bool.and_true, Bool.true_or, Bool.or_true, cond_true]
  rw [dHp_set (m' := dSet m k x.toNatClampNeg (z)) (fun j hj => ⟨dSet_k hj, rfl⟩) rfl (fun s hs => ?_)]
  · rfl
  · rw [dAk_ok hk] at hs
    cases hs
    simp only [dC, dSet_f]
    all_goals rfl
theorem w_bast {k n j : Nat} {x z : Int32} {m' : dM} (hM : tMs[y]? = some M) (ha : dAt M pc q .bastore a b e) (hk : dAk k = some (1, n)) (hi : 0 ≤ x.toInt ∧ x.toInt < n) (hj : x.toNatClampNeg = j) (hm : dSet m k j (z.toInt8.toInt32) = m') (K : Wp d y q l st m' Q) : Wp d y pc l (.inl z :: .inl x :: .inr (.inr (some k)) :: st) m Q := by
  subst hm
  subst hj
  refine Wp.step hM ha.1 rfl rfl (fun lc h => ⟨lc, h, ?_⟩) K
  rw [← ha.2]
  simp only [cStep, dHp_at, dAk_ok hk, Option.map_some, dC, Nat.beq_refl, d_cix hi, Bool.and_true, Bool.true_or, Bool.or_true, cond_true]
  rw [dHp_set (m' := dSet m k x.toNatClampNeg (z.toInt8.toInt32)) (fun j hj => ⟨dSet_k hj, rfl⟩) rfl (fun s hs => ?_)]
  · rfl
  · rw [dAk_ok hk] at hs
    cases hs
    simp only [dC, dSet_f]
    all_goals rfl
theorem w_zast {k n j : Nat} {x z : Int32} {m' : dM} (hM : tMs[y]? = some M) (ha : dAt M pc q .bastore a b e) (hk : dAk k = some (2, n)) (hz : z = 0 ∨ z = 1) (hi : 0 ≤ x.toInt ∧ x.toInt < n) (hj : x.toNatClampNeg = j) (hm : dSet m k j (z) = m') (K : Wp d y q l st m' Q) : Wp d y pc l (.inl z :: .inl x :: .inr (.inr (some k)) :: st) m Q := by
  subst hm
  subst hj
  refine Wp.step hM ha.1 rfl rfl (fun lc h => ⟨lc, h, ?_⟩) K
  rw [← ha.2]
  simp only [cStep, dHp_at, dAk_ok hk, Option.map_some, dC, Nat.beq_refl, d_cix hi, Bool.and_true, Bool.true_or, Bool.or_true, cond_true, cB1, decide_eq_true hz, Bool.true_and]
  rw [dHp_set (m' := dSet m k x.toNatClampNeg (z)) (fun j hj => ⟨dSet_k hj, rfl⟩) rfl (fun s hs => ?_)]
  · rfl
  · rw [dAk_ok hk] at hs
    cases hs
    simp only [dC, dSet_f]
    all_goals rfl
theorem w_lald {k n j : Nat} {x : Int32} {v : Int64} (hM : tMs[y]? = some M) (ha : dAt M pc q .laload a b e) (hk : dLk k = some n) (hi : 0 ≤ x.toInt ∧ x.toInt < n) (hj : x.toNatClampNeg = j) (hv : dLg m k j = v) (K : Wp d y q l (.inr (.inl v) :: st) m Q) : Wp d y pc l (.inl x :: .inr (.inr (some k)) :: st) m Q := by
  refine Wp.step hM ha.1 rfl rfl (fun lc h => ⟨lc, h, ?_⟩) K
  rw [← ha.2]
  simp only [cStep, dHp_at, dLk_ok hk, Option.map_some, dC, d_cix hi, cond_true, hj, hv]
  rfl
theorem w_last {k n j : Nat} {x : Int32} {z : Int64} {m' : dM} (hM : tMs[y]? = some M) (ha : dAt M pc q .lastore a b e) (hk : dLk k = some n) (hi : 0 ≤ x.toInt ∧ x.toInt < n) (hj : x.toNatClampNeg = j) (hm : dSetL m k j z = m') (K : Wp d y q l st m' Q) (hK : (Nat.beq k 42 || Nat.beq k 77) = false := by rfl) : Wp d y pc l (.inr (.inl z) :: .inl x :: .inr (.inr (some k)) :: st) m Q := by
  subst hm
  subst hj
  refine Wp.step hM ha.1 rfl rfl (fun lc h => ⟨lc, h, ?_⟩) K
  rw [← ha.2]
  simp only [cStep, dHp_at, dLk_ok hk, Option.map_some, dC, d_cix hi, cond_true]
  rw [dHp_set (m := m) (m' := dSetL m k x.toNatClampNeg z) (fun j hj => ⟨rfl, ?_⟩) rfl (fun s hs => ?_)]
  · rfl
  · funext b
    simp [dSetL, d_beq hj]
  · rw [dLk_ok hk] at hs
    cases hs
    simp only [dC]
    congr 4
    funext b
    unfold vp_updL dLg
    rw [hK]
    by_cases hb : b = x.toNatClampNeg
    · subst hb; simp [dSetL]
    · simp [dSetL, d_beq hb, hb]
def dRs (rs : List Nat) (i : Int) (X : Int) (K : Nat → Prop) : Prop := match rs with
  | [] => True
  | r :: rs => (X = i → K r) ∧ dRs rs (i + 1) X K
theorem dRs_ok : ∀ {rs : List Nat} {i X : Int} {K : Nat → Prop}, dRs rs i X K → ∀ (j : Nat) (r : Nat), rs[j]? = some r → X = i + j → K r
  | [], i, X, K, h, j, r, hj, hx => by simp at hj
  | r0 :: rs, i, X, K, h, 0, r, hj, hx => by
    simp at hj
    subst hj
    exact h.1 (by simpa using hx)
  | r0 :: rs, i, X, K, h, j + 1, r, hj, hx => dRs_ok h.2 j r (by simpa using hj) (by rw [hx]; push_cast; omega)
theorem w_aald {k : Nat} {rs : List Nat} {x : Int32} {X : Int} (hM : tMs[y]? = some M) (ha : dAt M pc q .aaload a b e) (hk : dRk k = some rs) (hX : x.toInt = X) (hi : 0 ≤ X ∧ X < rs.length) (K : dRs rs 0 X (fun r => Wp d y q l (.inr (.inr (some r)) :: st) m Q)) : Wp d y pc l (.inl x :: .inr (.inr (some k)) :: st) m Q := by
  have hc : x.toNatClampNeg < rs.length := by rw [Int32.toNatClampNeg, hX]; omega
  have hr : rs[x.toNatClampNeg]? = some rs[x.toNatClampNeg] := List.getElem?_eq_getElem hc
  have K := dRs_ok K x.toNatClampNeg _ hr (by rw [Int32.toNatClampNeg, hX]; omega)
  refine Wp.step hM ha.1 rfl rfl (fun lc h => ⟨lc, h, ?_⟩) K
  rw [← ha.2]
  subst hX
  simp only [cStep, dHp_at, dRk_ok hk, Option.map_some, dC, d_cix hi, cond_true, hr]
  rfl
theorem w_alen {k n t : Nat} {x : Int32} (hM : tMs[y]? = some M) (ha : dAt M pc q .arraylength a b e) (hk : dAk k = some (t, n)) (hx : Int32.ofNat n = x) (K : Wp d y q l (.inl x :: st) m Q) : Wp d y pc l (.inr (.inr (some k)) :: st) m Q := by
  refine Wp.step hM ha.1 rfl rfl (fun lc h => ⟨lc, h, ?_⟩) K
  rw [← ha.2]
  simp only [cStep, dHp_at, dAk_ok hk, Option.map_some, dC, hx]
  rfl
theorem w_alenL {k n : Nat} {x : Int32} (hM : tMs[y]? = some M) (ha : dAt M pc q .arraylength a b e) (hk : dLk k = some n) (hx : Int32.ofNat n = x) (K : Wp d y q l (.inl x :: st) m Q) : Wp d y pc l (.inr (.inr (some k)) :: st) m Q := by
  refine Wp.step hM ha.1 rfl rfl (fun lc h => ⟨lc, h, ?_⟩) K
  rw [← ha.2]
  simp only [cStep, dHp_at, dLk_ok hk, Option.map_some, dC, hx]
  rfl
theorem w_goto {off : Int} (hM : tMs[y]? = some M) (ha : ∃ c len, eAt M.1 pc = some (pc, .goto off, len, q, b, c, e)) (K : Wp d y q l st m Q) : Wp d y pc l st m Q :=
  Wp.step hM ha rfl rfl (fun lc h => ⟨lc, h, rfl⟩) K
theorem w_icmp_eq {off : Int} {x z : Int32} {X Y : Int} (hM : tMs[y]? = some M) (ha : dAt M pc q (.if_icmp .eq off) a b e) (hx : x.toInt = X) (hz : z.toInt = Y) (K1 : X = Y → Wp d y a l st m Q) (K2 : X ≠ Y → Wp d y q l st m Q) : Wp d y pc l (.inl z :: .inl x :: st) m Q := by
  subst hx
  subst hz
  by_cases hc : cHd .eq x z = true
  · refine Wp.step hM ha.1 rfl rfl (fun lc h => ⟨lc, h, ?_⟩) (K1 (of_decide_eq_true hc))
    simp only [cStep, hc, cond_true]
  · have hc : cHd .eq x z = false := by simpa using hc
    refine Wp.step hM ha.1 rfl rfl (fun lc h => ⟨lc, h, ?_⟩) (K2 (by have := of_decide_eq_false hc; omega))
    rw [← ha.2]
    simp only [cStep, hc, cond_false]
    rfl
theorem w_if_eq {off : Int} {x : Int32} {X : Int} (hM : tMs[y]? = some M) (ha : dAt M pc q (.ifCond .eq off) a b e) (hx : x.toInt = X) (K1 : X = 0 → Wp d y a l st m Q) (K2 : X ≠ 0 → Wp d y q l st m Q) : Wp d y pc l (.inl x :: st) m Q := by
  subst hx
  have e0 : (0 : Int32).toInt = 0 := rfl
  by_cases hc : cHd .eq x 0 = true
  · refine Wp.step hM ha.1 rfl rfl (fun lc h => ⟨lc, h, ?_⟩) (K1 (by have := of_decide_eq_true hc; omega))
    simp only [cStep, hc, cond_true]
  · have hc : cHd .eq x 0 = false := by simpa using hc
    refine Wp.step hM ha.1 rfl rfl (fun lc h => ⟨lc, h, ?_⟩) (K2 (by have := of_decide_eq_false hc; omega))
    rw [← ha.2]
    simp only [cStep, hc, cond_false]
    rfl
theorem w_icmp_ne {off : Int} {x z : Int32} {X Y : Int} (hM : tMs[y]? = some M) (ha : dAt M pc q (.if_icmp .ne off) a b e) (hx : x.toInt = X) (hz : z.toInt = Y) (K1 : X ≠ Y → Wp d y a l st m Q) (K2 : X = Y → Wp d y q l st m Q) : Wp d y pc l (.inl z :: .inl x :: st) m Q := by
  subst hx
  subst hz
  by_cases hc : cHd .ne x z = true
  · refine Wp.step hM ha.1 rfl rfl (fun lc h => ⟨lc, h, ?_⟩) (K1 (of_decide_eq_true hc))
    simp only [cStep, hc, cond_true]
  · have hc : cHd .ne x z = false := by simpa using hc
    refine Wp.step hM ha.1 rfl rfl (fun lc h => ⟨lc, h, ?_⟩) (K2 (by have := of_decide_eq_false hc; omega))
    rw [← ha.2]
    simp only [cStep, hc, cond_false]
    rfl
theorem w_if_ne {off : Int} {x : Int32} {X : Int} (hM : tMs[y]? = some M) (ha : dAt M pc q (.ifCond .ne off) a b e) (hx : x.toInt = X) (K1 : X ≠ 0 → Wp d y a l st m Q) (K2 : X = 0 → Wp d y q l st m Q) : Wp d y pc l (.inl x :: st) m Q := by
  subst hx
  have e0 : (0 : Int32).toInt = 0 := rfl
  by_cases hc : cHd .ne x 0 = true
  · refine Wp.step hM ha.1 rfl rfl (fun lc h => ⟨lc, h, ?_⟩) (K1 (by have := of_decide_eq_true hc; omega))
    simp only [cStep, hc, cond_true]
  · have hc : cHd .ne x 0 = false := by simpa using hc
    refine Wp.step hM ha.1 rfl rfl (fun lc h => ⟨lc, h, ?_⟩) (K2 (by have := of_decide_eq_false hc; omega))
    rw [← ha.2]
    simp only [cStep, hc, cond_false]
    rfl
theorem w_icmp_lt {off : Int} {x z : Int32} {X Y : Int} (hM : tMs[y]? = some M) (ha : dAt M pc q (.if_icmp .lt off) a b e) (hx : x.toInt = X) (hz : z.toInt = Y) (K1 : X < Y → Wp d y a l st m Q) (K2 : Y ≤ X → Wp d y q l st m Q) : Wp d y pc l (.inl z :: .inl x :: st) m Q := by
  subst hx
  subst hz
  by_cases hc : cHd .lt x z = true
  · refine Wp.step hM ha.1 rfl rfl (fun lc h => ⟨lc, h, ?_⟩) (K1 (of_decide_eq_true hc))
    simp only [cStep, hc, cond_true]
  · have hc : cHd .lt x z = false := by simpa using hc
    refine Wp.step hM ha.1 rfl rfl (fun lc h => ⟨lc, h, ?_⟩) (K2 (by have := of_decide_eq_false hc; omega))
    rw [← ha.2]
    simp only [cStep, hc, cond_false]
    rfl
theorem w_if_lt {off : Int} {x : Int32} {X : Int} (hM : tMs[y]? = some M) (ha : dAt M pc q (.ifCond .lt off) a b e) (hx : x.toInt = X) (K1 : X < 0 → Wp d y a l st m Q) (K2 : 0 ≤ X → Wp d y q l st m Q) : Wp d y pc l (.inl x :: st) m Q := by
  subst hx
  have e0 : (0 : Int32).toInt = 0 := rfl
  by_cases hc : cHd .lt x 0 = true
  · refine Wp.step hM ha.1 rfl rfl (fun lc h => ⟨lc, h, ?_⟩) (K1 (by have := of_decide_eq_true hc; omega))
    simp only [cStep, hc, cond_true]
  · have hc : cHd .lt x 0 = false := by simpa using hc
    refine Wp.step hM ha.1 rfl rfl (fun lc h => ⟨lc, h, ?_⟩) (K2 (by have := of_decide_eq_false hc; omega))
    rw [← ha.2]
    simp only [cStep, hc, cond_false]
    rfl
theorem w_icmp_ge {off : Int} {x z : Int32} {X Y : Int} (hM : tMs[y]? = some M) (ha : dAt M pc q (.if_icmp .ge off) a b e) (hx : x.toInt = X) (hz : z.toInt = Y) (K1 : Y ≤ X → Wp d y a l st m Q) (K2 : X < Y → Wp d y q l st m Q) : Wp d y pc l (.inl z :: .inl x :: st) m Q := by
  subst hx
  subst hz
  by_cases hc : cHd .ge x z = true
  · refine Wp.step hM ha.1 rfl rfl (fun lc h => ⟨lc, h, ?_⟩) (K1 (of_decide_eq_true hc))
    simp only [cStep, hc, cond_true]
  · have hc : cHd .ge x z = false := by simpa using hc
    refine Wp.step hM ha.1 rfl rfl (fun lc h => ⟨lc, h, ?_⟩) (K2 (by have := of_decide_eq_false hc; omega))
    rw [← ha.2]
    simp only [cStep, hc, cond_false]
    rfl
theorem w_if_ge {off : Int} {x : Int32} {X : Int} (hM : tMs[y]? = some M) (ha : dAt M pc q (.ifCond .ge off) a b e) (hx : x.toInt = X) (K1 : 0 ≤ X → Wp d y a l st m Q) (K2 : X < 0 → Wp d y q l st m Q) : Wp d y pc l (.inl x :: st) m Q := by
  subst hx
  have e0 : (0 : Int32).toInt = 0 := rfl
  by_cases hc : cHd .ge x 0 = true
  · refine Wp.step hM ha.1 rfl rfl (fun lc h => ⟨lc, h, ?_⟩) (K1 (by have := of_decide_eq_true hc; omega))
    simp only [cStep, hc, cond_true]
  · have hc : cHd .ge x 0 = false := by simpa using hc
    refine Wp.step hM ha.1 rfl rfl (fun lc h => ⟨lc, h, ?_⟩) (K2 (by have := of_decide_eq_false hc; omega))
    rw [← ha.2]
    simp only [cStep, hc, cond_false]
    rfl
theorem w_icmp_gt {off : Int} {x z : Int32} {X Y : Int} (hM : tMs[y]? = some M) (ha : dAt M pc q (.if_icmp .gt off) a b e) (hx : x.toInt = X) (hz : z.toInt = Y) (K1 : Y < X → Wp d y a l st m Q) (K2 : X ≤ Y → Wp d y q l st m Q) : Wp d y pc l (.inl z :: .inl x :: st) m Q := by
  subst hx
  subst hz
  by_cases hc : cHd .gt x z = true
  · refine Wp.step hM ha.1 rfl rfl (fun lc h => ⟨lc, h, ?_⟩) (K1 (of_decide_eq_true hc))
    simp only [cStep, hc, cond_true]
  · have hc : cHd .gt x z = false := by simpa using hc
    refine Wp.step hM ha.1 rfl rfl (fun lc h => ⟨lc, h, ?_⟩) (K2 (by have := of_decide_eq_false hc; omega))
    rw [← ha.2]
    simp only [cStep, hc, cond_false]
    rfl
theorem w_if_gt {off : Int} {x : Int32} {X : Int} (hM : tMs[y]? = some M) (ha : dAt M pc q (.ifCond .gt off) a b e) (hx : x.toInt = X) (K1 : 0 < X → Wp d y a l st m Q) (K2 : X ≤ 0 → Wp d y q l st m Q) : Wp d y pc l (.inl x :: st) m Q := by
  subst hx
  have e0 : (0 : Int32).toInt = 0 := rfl
  by_cases hc : cHd .gt x 0 = true
  · refine Wp.step hM ha.1 rfl rfl (fun lc h => ⟨lc, h, ?_⟩) (K1 (by have := of_decide_eq_true hc; omega))
    simp only [cStep, hc, cond_true]
  · have hc : cHd .gt x 0 = false := by simpa using hc
    refine Wp.step hM ha.1 rfl rfl (fun lc h => ⟨lc, h, ?_⟩) (K2 (by have := of_decide_eq_false hc; omega))
    rw [← ha.2]
    simp only [cStep, hc, cond_false]
    rfl
theorem w_icmp_le {off : Int} {x z : Int32} {X Y : Int} (hM : tMs[y]? = some M) (ha : dAt M pc q (.if_icmp .le off) a b e) (hx : x.toInt = X) (hz : z.toInt = Y) (K1 : X ≤ Y → Wp d y a l st m Q) (K2 : Y < X → Wp d y q l st m Q) : Wp d y pc l (.inl z :: .inl x :: st) m Q := by
  subst hx
  subst hz
  by_cases hc : cHd .le x z = true
  · refine Wp.step hM ha.1 rfl rfl (fun lc h => ⟨lc, h, ?_⟩) (K1 (of_decide_eq_true hc))
    simp only [cStep, hc, cond_true]
  · have hc : cHd .le x z = false := by simpa using hc
    refine Wp.step hM ha.1 rfl rfl (fun lc h => ⟨lc, h, ?_⟩) (K2 (by have := of_decide_eq_false hc; omega))
    rw [← ha.2]
    simp only [cStep, hc, cond_false]
    rfl
theorem w_if_le {off : Int} {x : Int32} {X : Int} (hM : tMs[y]? = some M) (ha : dAt M pc q (.ifCond .le off) a b e) (hx : x.toInt = X) (K1 : X ≤ 0 → Wp d y a l st m Q) (K2 : 0 < X → Wp d y q l st m Q) : Wp d y pc l (.inl x :: st) m Q := by
  subst hx
  have e0 : (0 : Int32).toInt = 0 := rfl
  by_cases hc : cHd .le x 0 = true
  · refine Wp.step hM ha.1 rfl rfl (fun lc h => ⟨lc, h, ?_⟩) (K1 (by have := of_decide_eq_true hc; omega))
    simp only [cStep, hc, cond_true]
  · have hc : cHd .le x 0 = false := by simpa using hc
    refine Wp.step hM ha.1 rfl rfl (fun lc h => ⟨lc, h, ?_⟩) (K2 (by have := of_decide_eq_false hc; omega))
    rw [← ha.2]
    simp only [cStep, hc, cond_false]
    rfl
theorem w_ifnull {off : Int} {k : Nat} {t : Bool} (hM : tMs[y]? = some M) (ha : dAt M pc q (.ifnull off) a b e) (K1 : t = false → Wp d y a l st m Q) (K2 : t = true → Wp d y q l st m Q) : Wp d y pc l (.inr (.inr (cond t (some k) none)) :: st) m Q := by
  cases t with
  | false => exact Wp.step hM ha.1 rfl rfl (fun lc h => ⟨lc, h, rfl⟩) (K1 rfl)
  | true => exact Wp.step hM ha.1 rfl rfl (fun lc h => ⟨lc, h, by rw [← ha.2]; rfl⟩) (K2 rfl)
def dTs (pc : Nat) (offs : List Int) (i : Int) (X : Int) (K : Nat → Prop) : Prop := match offs with
  | [] => True
  | o :: os => (X = i → K ((pc : Int) + o).toNat) ∧ dTs pc os (i + 1) X K
theorem dTs_ok {pc : Nat} : ∀ {os : List Int} {i X : Int} {K : Nat → Prop}, dTs pc os i X K → ∀ (j : Nat) (o : Int), os[j]? = some o → X = i + j → K ((pc : Int) + o).toNat
  | [], i, X, K, h, j, r, hj, hx => by simp at hj
  | r0 :: rs, i, X, K, h, 0, r, hj, hx => by
    simp at hj
    subst hj
    exact h.1 (by simpa using hx)
  | r0 :: rs, i, X, K, h, j + 1, r, hj, hx => dTs_ok h.2 j r (by simpa using hj) (by rw [hx]; push_cast; omega)
def dPos (pc : Nat) (dflt : Int) (offs : List Int) : Bool := decide (0 ≤ (pc : Int) + dflt) && offs.all (fun o => decide (0 ≤ (pc : Int) + o))
theorem w_tsw {dflt lo hi : Int} {offs : Array Int} {x : Int32} {X : Int} (hM : tMs[y]? = some M) (ha : ∃ c len, eAt M.1 pc = some (pc, .tableswitch dflt lo hi offs, len, a, b, c, e)) (hp : dPos pc dflt offs.toList = true) (hn : (offs.toList.length : Int) = hi - lo + 1) (hx : x.toInt = X) (K : dTs pc offs.toList lo X (fun t => Wp d y t l st m Q)) (K2 : X < lo ∨ hi < X → Wp d y ((pc : Int) + dflt).toNat l st m Q) : Wp d y pc l (.inl x :: st) m Q := by
  subst hx
  unfold dPos at hp
  rw [Bool.and_eq_true] at hp
  by_cases hc : lo ≤ x.toInt ∧ x.toInt ≤ hi
  · have hj : (x.toInt - lo).toNat < offs.toList.length := by omega
    have hr : offs.toList[(x.toInt - lo).toNat]? = some offs.toList[(x.toInt - lo).toNat] := List.getElem?_eq_getElem hj
    have K := dTs_ok K _ _ hr (by omega)
    have h0 := List.all_eq_true.mp hp.2 _ (List.mem_of_getElem? hr)
    refine Wp.step hM ha rfl rfl (fun lc h => ⟨lc, h, ?_⟩) K
    have hr2 : offs[(x.toInt - lo).toNat]? = some offs.toList[(x.toInt - lo).toNat] := by rw [← Array.getElem?_toList]; exact hr
    simp only [cStep, decide_eq_true hc.1, decide_eq_true hc.2, Bool.and_true, cond_true, hr2, h0]
  · refine Wp.step hM ha rfl rfl (fun lc h => ⟨lc, h, ?_⟩) (K2 (by omega))
    have h1 : (decide (lo ≤ x.toInt) && decide (x.toInt ≤ hi)) = false := by
      rw [Bool.and_eq_false_iff]
      by_cases h2 : lo ≤ x.toInt
      · exact Or.inr (decide_eq_false (fun h3 => hc ⟨h2, h3⟩))
      · exact Or.inl (decide_eq_false h2)
    simp only [cStep, h1, cond_false, hp.1, cond_true]
theorem Wp.ret {i : Instr} {v : Option cV} (hM : tMs[y]? = some M) (ha : dAt M pc q i a b e) (hv : ∀ (c len : Nat) (S : cS), S.2.2.1 = st → cRet M (pc, i, len, a, b, c, e) S = some v) (K : Q v m) : Wp d y pc l st m Q := by
  intro lc hlc
  obtain ⟨c, len, ha⟩ := ha.1
  exact ⟨v, m, cRun.ret hM ha (hv c len _ rfl) rfl, K⟩
theorem w_retv {Q : dM → Prop} (hM : tMs[y]? = some M) (ha : dAt M pc q .return_ a b e) (hr : M.2.2.2.2.1 = 0) (K : Q m) : Wp d y pc l [] m (qV Q) := by
  refine Wp.ret (v := none) hM ha (fun c len S hS => ?_) ⟨rfl, K⟩
  unfold cRet
  rw [hr, hS]
  rfl
theorem w_reti {Q : Int32 → dM → Prop} {x : Int32} (hM : tMs[y]? = some M) (ha : dAt M pc q .ireturn a b e) (hr : M.2.2.2.2.1 = 1) (K : Q x m) : Wp d y pc l [.inl x] m (qI Q) := by
  refine Wp.ret (v := some (.inl x)) hM ha (fun c len S hS => ?_) ⟨x, rfl, K⟩
  unfold cRet
  rw [hr, hS]
  rfl
theorem w_retz {Q : Int32 → dM → Prop} {x : Int32} (hM : tMs[y]? = some M) (ha : dAt M pc q .ireturn a b e) (hr : M.2.2.2.2.1 = 2) (hx : x = 0 ∨ x = 1) (K : Q x m) : Wp d y pc l [.inl x] m (qI Q) := by
  refine Wp.ret (v := some (.inl x)) hM ha (fun c len S hS => ?_) ⟨x, rfl, K⟩
  unfold cRet
  rw [hr, hS]
  simp only [cB1, decide_eq_true hx, cond_true]
theorem w_retl {Q : Int64 → dM → Prop} {x : Int64} (hM : tMs[y]? = some M) (ha : dAt M pc q .lreturn a b e) (hr : M.2.2.2.2.1 = 3) (K : Q x m) : Wp d y pc l [.inr (.inl x)] m (qL Q) := by
  refine Wp.ret (v := some (.inr (.inl x))) hM ha (fun c len S hS => ?_) ⟨x, rfl, K⟩
  unfold cRet
  rw [hr, hS]
  rfl
theorem w_reta {Q : dM → Prop} {k : Nat} (hM : tMs[y]? = some M) (ha : dAt M pc q .areturn a b e) (hr : M.2.2.2.2.1 = 4) (K : Q m) : Wp d y pc l [.inr (.inr (some k))] m (qR k Q) := by
  refine Wp.ret (v := some (.inr (.inr (some k)))) hM ha (fun c len S hS => ?_) ⟨rfl, K⟩
  unfold cRet
  rw [hr, hS]
  rfl
theorem Wp.blt {i : Instr} {st' : List cV} {m' : dM} (hM : tMs[y]? = some M) (ha : dAt M pc q i a b e) (hq : pc + 3 = q) (hc : cIsC i = true) (hr : cIsR i = false) (hk : Nat.ble 6 a = true) (hb : cBlt a (dHp m) st = some (st', dHp m')) (K : Wp (d + 1) y q l st' m' Q) : Wp (d + 1) y pc l st m Q := by
  intro lc hlc
  obtain ⟨c, len, ha⟩ := ha.1
  obtain ⟨v, m2, h3, h4⟩ := K lc hlc
  exact ⟨v, m2, cRun.blt hM ha (cRet_none hr) hc hk hb (by rw [← hq] at h3; exact h3), h4⟩
theorem w_min {z : Nat} {x w : Int32} (hM : tMs[y]? = some M) (ha : dAt M pc q (.invokestatic z) a b e) (hA : a = 7) (hn : Nat.ble (cCats st) 8 = true) (K : Wp (d + 1) y q l (.inl (if w < x then w else x) :: st) m Q) : Wp (d + 1) y pc l (.inl w :: .inl x :: st) m Q := by
  subst hA
  exact Wp.blt hM ha ha.2 rfl rfl rfl (by simp only [cBlt, hn, cond_true]) K
theorem w_max {z : Nat} {x w : Int32} (hM : tMs[y]? = some M) (ha : dAt M pc q (.invokestatic z) a b e) (hA : a = 8) (hn : Nat.ble (cCats st) 8 = true) (K : Wp (d + 1) y q l (.inl (if x < w then w else x) :: st) m Q) : Wp (d + 1) y pc l (.inl w :: .inl x :: st) m Q := by
  subst hA
  exact Wp.blt hM ha ha.2 rfl rfl rfl (by simp only [cBlt, hn, cond_true]) K
theorem w_copy {z k0 k1 n0 n1 : Nat} {n dp sp : Int32} {N D S : Int} (hM : tMs[y]? = some M) (ha : dAt M pc q (.invokestatic z) a b e) (hA : a = 9) (hn : Nat.ble (cCats st) 8 = true) (h0 : dAk k0 = some (0, n0)) (h1 : dAk k1 = some (0, n1)) (hne : Nat.beq k0 k1 = false) (hN : n.toInt = N) (hD : dp.toInt = D) (hS : sp.toInt = S) (hi : 0 ≤ N ∧ 0 ≤ D ∧ 0 ≤ S ∧ S + N ≤ n0 ∧ D + N ≤ n1) (K : Wp (d + 1) y q l st (dCpy m k0 S.toNat k1 D.toNat N.toNat) Q) : Wp (d + 1) y pc l (.inl n :: .inl dp :: .inr (.inr (some k1)) :: .inl sp :: .inr (.inr (some k0)) :: st) m Q := by
  subst hA
  subst hN
  subst hD
  subst hS
  refine Wp.blt (m' := dCpy m k0 sp.toInt.toNat k1 dp.toInt.toNat n.toInt.toNat) hM ha ha.2 rfl rfl rfl ?_ K
  have hx : (dHp m).set k1 (.inr (.inl (0, n1, va_cpy (m.1 k0) (m.1 k1) sp.toNatClampNeg dp.toNatClampNeg n.toNatClampNeg))) = dHp (dCpy m k0 sp.toInt.toNat k1 dp.toInt.toNat n.toInt.toNat) := by
    refine dHp_set (fun j hj => ⟨?_, rfl⟩) rfl (fun s hs => ?_)
    · funext b
      simp [dCpy, d_beq hj]
    · rw [dAk_ok h1] at hs
      cases hs
      simp only [dC]
      congr 4
      funext b
      simp only [dCpy, Nat.beq_refl, cond_true]
      rfl
  simp only [cBlt, hn, cond_true, cCpy, dHp_at, dAk_ok h0, dAk_ok h1, Option.map_some, dC, Nat.beq_refl, hne, Bool.not_false, Bool.and_true, Bool.true_and, decide_eq_true hi]
  rw [hx]
theorem w_call {i : Instr} {N : eM} {vs rest : List cV} {la : dL} {n : Nat} (hM : tMs[y]? = some M) (ha : dAt M pc q i a b e) (hq : pc + 3 = q) (hc : cIsC i = true) (hr : cIsR i = false) (hk : Nat.ble 6 a = false) (hN : tMs[b]? = some N) (hp : cPop st N.2.2.2.2.2 a = some (vs, rest)) (hn : (Nat.ble (cCats rest) 8 && Nat.beq N.2.2.1 0 && Nat.beq N.2.2.2.1 0 && Nat.ble (cCats vs) N.2.1) = true) (hv : a = 0 → ∃ k vs', vs = .inr (.inr (some k)) :: vs' ∧ dCk k e = true) (hla : dArgs vs ++ List.replicate n none = la) (K : Wp d b 0 la [] m (fun o m' => Wp (d + 1) y q l (o.toList ++ rest) m' Q)) : Wp (d + 1) y pc l st m Q := by
  intro lc hlc
  obtain ⟨c, len, ha⟩ := ha.1
  obtain ⟨v, m2, h3, h4⟩ := K (cArgs 0 vs) (fun i w hw => by
    rw [← hla] at hw
    have := dArgs_ok vs 0 i w n hw
    rwa [Nat.zero_add] at this)
  obtain ⟨v', m3, h5, h6⟩ := h4 lc hlc
  refine ⟨v', m3, cRun.call (N := N) (q := (vs, rest)) hM ha (cRet_none hr) hc hk hN hp ?_ h3 (by rw [← hq] at h5; exact h5), h6⟩
  rw [Bool.and_eq_true]
  refine ⟨hn, ?_⟩
  show cRcv (dHp m) a e vs = true
  unfold cRcv
  split
  · rename_i h0
    obtain ⟨k, vs', rfl, hk2⟩ := hv rfl
    simp only
    unfold dCk at hk2
    rw [dHp_at]
    split at hk2
    · rename_i o ho
      rw [ho]
      exact hk2
    · cases hk2
  · rfl
end DRU
/-! two runs of one thing end alike -/
theorem cRun.same {ms : List eM} {d d' y : Nat} {S : cS} {v v' : Option cV} {h h' : cH} (h1 : cRun ms d y S v h) (h2 : cRun ms d' y S v' h') : v = v' ∧ h = h' := by
  obtain ⟨n1, e1⟩ := h1.deep (Nat.le_max_left d d')
  obtain ⟨n2, e2⟩ := h2.deep (Nat.le_max_right d d')
  have e1 := cEx_le (Nat.le_max_left n1 n2) e1
  have e2 := cEx_le (Nat.le_max_right n1 n2) e2
  rw [e1] at e2
  cases e2
  exact ⟨rfl, rfl⟩
/-- alike in all cells -/
def Sm (m m' : dM) : Prop := dHp m = dHp m'
theorem Sm.row {m m' : dM} (h : Sm m m') {k : Nat} {a : Nat × Nat} (hk : dAk k = some a) : m.1 k = m'.1 k := by
  have e := congrArg (fun l : cH => l[k]?) h
  simp only [dHp_at, dAk_ok hk, Option.map_some, dC] at e
  simpa using e
theorem Sm.fld {m m' : dM} (h : Sm m m') {k a j : Nat} (hk : dFk k a j = some none) : m.1 k j = m'.1 k j := by
  obtain ⟨fs, h1, h2⟩ := dFk_ok hk
  have e := congrArg (fun l : cH => l[k]?) h
  simp only [dHp_at, h1, Option.map_some, dC] at e
  have e2 : dFs m k 0 fs = dFs m' k 0 fs := by simpa using e
  have e3 := congrArg (fun l : List cV => l[j]?) e2
  simp only [dFs_at, h2, Option.map_some, dFv, Nat.zero_add] at e3
  simpa using e3
theorem Wp.and {d d' y pc : Nat} {l : dL} {st : List cV} {m : dM} {Q Q' : Option cV → dM → Prop} (h : Wp d y pc l st m Q) (h' : Wp d' y pc l st m Q') : Wp d y pc l st m (fun v m1 => Q v m1 ∧ ∃ m2, Sm m1 m2 ∧ Q' v m2) := by
  intro lc hlc
  obtain ⟨v, m1, h1, h2⟩ := h lc hlc
  obtain ⟨v', m2, h3, h4⟩ := h' lc hlc
  obtain ⟨e1, e2⟩ := h1.same h3
  subst e1
  exact ⟨v, m1, h1, h2, m2, e2, h4⟩
