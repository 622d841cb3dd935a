/-! a store that Gx does not read; what most calls leave as it is -/
theorem Ok.gen {m : dM} {k j : Nat} {v : Int32} (hO : Ok m) (hk : (k ≠ 2 ∧ k ≠ 7 ∧ k ≠ 70) ∧ (k < 82 ∨ 103 < k)) (hb : ∀ lo hi, wT k j = some (lo, hi) ∨ sT k j = some (lo, hi) → lo ≤ v.toInt ∧ v.toInt ≤ hi) : Ok (dSet m k j v) := by
  have hne : ∀ c : Nat, c ≠ k → (dSet m k j v).1 c = m.1 c := fun c h => dSet_k h
  refine Ok.mk (OkB.set hO.b hb) (Gx_congr ?_ ?_ (hne 7 (by omega)) (fun c h1 h2 => hne c (by omega)) hO.1.2)
  · rw [hne 2 (by omega)]
  · rw [hne 70 (by omega)]
theorem Ok.gen0 {m : dM} {k j : Nat} {v : Int32} (hO : Ok m) (hk : (k ≠ 2 ∧ k ≠ 7 ∧ k ≠ 70) ∧ (k < 82 ∨ 103 < k)) (hw : wT k j = none) (hs : sT k j = none) : Ok (dSet m k j v) := hO.gen hk (fun lo hi h => by
  rcases h with h | h
  · rw [hw] at h; cases h
  · rw [hs] at h; cases h)
def kp (k j : Nat) : Bool := match k with
  | 0 => Nat.beq j 1 || Nat.beq j 2
  | 1 => true
  | 2 => Nat.beq j 0
  | 51 => Nat.beq j 4
  | 67 => Nat.beq j 3
  | 68 => true
  | 69 => true
  | 70 => Nat.beq j 2 || (Nat.beq j 17 || (Nat.beq j 18 || Nat.beq j 63))
  | 71 => true
  | 80 => true
  | 112 => true
  | 113 => true
  | 115 => true
  | _ => false
theorem kp_w {k j : Nat} (h : kp k j = true) : wT k j = none := by
  unfold kp at h
  split at h
  · rw [Bool.or_eq_true] at h
    rcases h with h | h <;> (have e := Nat.eq_of_beq_eq_true h; subst e; rfl)
  · rfl
  · have e := Nat.eq_of_beq_eq_true h; subst e; rfl
  · have e := Nat.eq_of_beq_eq_true h; subst e; rfl
  · have e := Nat.eq_of_beq_eq_true h; subst e; rfl
  · rfl
  · rfl
  · simp only [Bool.or_eq_true] at h
    rcases h with h | h | h | h <;> (have e := Nat.eq_of_beq_eq_true h; subst e; rfl)
  · rfl
  · rfl
  · rfl
  · rfl
  · rfl
  · cases h
/-- tape, place, told, slots, flats are as they were -/
def Kp (m m' : dM) : Prop := ∀ k j : Nat, kp k j = true → m'.1 k j = m.1 k j
theorem Kp.of {m m' : dM} (h : Inv m.1 m') : Kp m m' := fun k j q => h.2 k j (kp_w q)
theorem Kp.rf (m : dM) : Kp m m := fun _ _ _ => rfl
theorem Kp.tr {a b c : dM} (h : Kp a b) (h' : Kp b c) : Kp a c := fun k j q => (h' k j q).trans (h k j q)
