/-! HOW BOTH STAND BEHIND THE STARTS -/
section ZFR
variable {ad : List Nat} {σ : Nat → Int} {tys : List (ClassId × FieldType)} {ws : va_W}
def hE0 : Ho := hoX (fun _ => 0) mS0 lD0
theorem z_fr (hs : σ 0 = 0) (h : eAll (eCk ad σ tys) hFresh ws) : Fr (zM ws) := by
  have h8 : (0 : Nat) ≤ 8 := by decide
  have hz : zOk hE0 (sz0 hE0 (fun _ => 0)) := sz0_ok MI_0 h8 (fun w hw => absurd hw (Nat.not_lt_zero w))
  have hO : hOk hE0 := hoX_ok MI_0 (by decide) (by decide) (by decide) (fun k _ => lD0_ok k)
  have a0 : (zM ws).1 2 0 = 0 := d_ce (z_val hs h (k := 2) (j := 0) (b := 0) (by decide +kernel))
  have a1 : (zM ws).1 2 1 = 0 := d_ce (z_val hs h (k := 2) (j := 1) (b := 0) (by decide +kernel))
  have a2 : (zM ws).1 2 2 = 0 := d_ce (z_val hs h (k := 2) (j := 2) (b := 0) (by decide +kernel))
  have a3 : (zM ws).1 2 3 = 0 := d_ce (z_val hs h (k := 2) (j := 3) (b := 0) (by decide +kernel))
  have a4 : (zM ws).1 2 4 = 0 := d_ce (z_val hs h (k := 2) (j := 4) (b := 0) (by decide +kernel))
  have a5 : (zM ws).1 2 5 = 100 := d_ce (z_val hs h (k := 2) (j := 5) (b := 100) (by decide +kernel))
  have a6 : (zM ws).1 2 6 = 0 := d_ce (z_val hs h (k := 2) (j := 6) (b := 0) (by decide +kernel))
  have c0 : (zM ws).1 18 0 = 1 := d_ce (z_val hs h (k := 18) (j := 0) (b := 1) (by decide +kernel))
  have c1 : (zM ws).1 18 1 = 1 := d_ce (z_val hs h (k := 18) (j := 1) (b := 1) (by decide +kernel))
  have c2 : (zM ws).1 18 2 = 1 := d_ce (z_val hs h (k := 18) (j := 2) (b := 1) (by decide +kernel))
  have c3 : (zM ws).1 18 3 = 1 := d_ce (z_val hs h (k := 18) (j := 3) (b := 1) (by decide +kernel))
  have l14 : (zM ws).1 14 0 = 0 := d_ce (z_val hs h (k := 14) (j := 0) (b := 0) (by decide +kernel))
  have g14 : (zM ws).1 14 1 = 3 := d_ce (z_val hs h (k := 14) (j := 1) (b := 3) (by decide +kernel))
  have l15 : (zM ws).1 15 0 = 3 := d_ce (z_val hs h (k := 15) (j := 0) (b := 3) (by decide +kernel))
  have g15 : (zM ws).1 15 1 = 4 := d_ce (z_val hs h (k := 15) (j := 1) (b := 4) (by decide +kernel))
  have l16 : (zM ws).1 16 0 = 4 := d_ce (z_val hs h (k := 16) (j := 0) (b := 4) (by decide +kernel))
  have g16 : (zM ws).1 16 1 = 5 := d_ce (z_val hs h (k := 16) (j := 1) (b := 5) (by decide +kernel))
  have l17 : (zM ws).1 17 0 = 5 := d_ce (z_val hs h (k := 17) (j := 0) (b := 5) (by decide +kernel))
  have g17 : (zM ws).1 17 1 = 6 := d_ce (z_val hs h (k := 17) (j := 1) (b := 6) (by decide +kernel))
  have p0 : (zM ws).1 12 0 = 4 := d_ce (z_val hs h (k := 12) (j := 0) (b := 4) (by decide +kernel))
  have p1 : (zM ws).1 12 1 = 5 := d_ce (z_val hs h (k := 12) (j := 1) (b := 5) (by decide +kernel))
  have p2 : (zM ws).1 12 2 = 1 := d_ce (z_val hs h (k := 12) (j := 2) (b := 1) (by decide +kernel))
  have p3 : (zM ws).1 12 3 = 13 := d_ce (z_val hs h (k := 12) (j := 3) (b := 13) (by decide +kernel))
  have p4 : (zM ws).1 12 4 = 5 := d_ce (z_val hs h (k := 12) (j := 4) (b := 5) (by decide +kernel))
  have p5 : (zM ws).1 12 5 = 9 := d_ce (z_val hs h (k := 12) (j := 5) (b := 9) (by decide +kernel))
  have s0 : (zM ws).1 47 0 = 0 := d_ce (z_val hs h (k := 47) (j := 0) (b := 0) (by decide +kernel))
  have s1 : (zM ws).1 47 1 = 100 := d_ce (z_val hs h (k := 47) (j := 1) (b := 100) (by decide +kernel))
  have s2 : (zM ws).1 47 2 = 0 := d_ce (z_val hs h (k := 47) (j := 2) (b := 0) (by decide +kernel))
  have s3 : (zM ws).1 47 3 = 0 := d_ce (z_val hs h (k := 47) (j := 3) (b := 0) (by decide +kernel))
  have s4 : (zM ws).1 47 4 = 0 := d_ce (z_val hs h (k := 47) (j := 4) (b := 0) (by decide +kernel))
  have s5 : (zM ws).1 47 5 = 0 := d_ce (z_val hs h (k := 47) (j := 5) (b := 0) (by decide +kernel))
  have t2 : (zM ws).1 51 2 = 0 := d_ce (z_val hs h (k := 51) (j := 2) (b := 0) (by decide +kernel))
  have t3 : (zM ws).1 51 3 = 0 := d_ce (z_val hs h (k := 51) (j := 3) (b := 0) (by decide +kernel))
  have t4 : (zM ws).1 51 4 = 0 := d_ce (z_val hs h (k := 51) (j := 4) (b := 0) (by decide +kernel))
  have w1 : ((zM ws).1 57 1).toInt = -1 := z_val hs h (k := 57) (j := 1) (b := -1) (by decide +kernel)
  have r48 : ∀ j : Nat, j < 10 → (zM ws).1 48 j = 0 := fun j hj => by
    match j, hj with
    | 0, _ | 1, _ | 2, _ | 3, _ | 4, _ | 5, _ | 6, _ | 7, _ | 8, _ | 9, _ => exact d_ce (z_val hs h (b := 0) (by decide +kernel))
    | j + 10, h => omega
  have r49 : ∀ j : Nat, j < 10 → (zM ws).1 49 j = 0 := fun j hj => by
    match j, hj with
    | 0, _ | 1, _ | 2, _ | 3, _ | 4, _ | 5, _ | 6, _ | 7, _ | 8, _ | 9, _ => exact d_ce (z_val hs h (b := 0) (by decide +kernel))
    | j + 10, h => omega
  have r50 : ∀ j : Nat, j < 7 → (zM ws).1 50 j = 0 := fun j hj => by
    match j, hj with
    | 0, _ | 1, _ | 2, _ | 3, _ | 4, _ | 5, _ | 6, _ => exact d_ce (z_val hs h (b := 0) (by decide +kernel))
    | j + 7, h => omega
  have q18 : (zM ws).1 70 18 = 0 := d_ce (z_val hs h (k := 70) (j := 18) (b := 0) (by decide +kernel))
  have q61 : (zM ws).1 70 61 = 0 := d_ce (z_val hs h (k := 70) (j := 61) (b := 0) (by decide +kernel))
  have h80 : (zM ws).1 80 0 = 0 := d_ce (z_val hs h (k := 80) (j := 0) (b := 0) (by decide +kernel))
  have h82 : (zM ws).1 82 0 = 0 := d_ce (z_val hs h (k := 82) (j := 0) (b := 0) (by decide +kernel))
  have h86 : (zM ws).1 86 0 = 0 := d_ce (z_val hs h (k := 86) (j := 0) (b := 0) (by decide +kernel))
  have h91 : (zM ws).1 91 0 = 0 := d_ce (z_val hs h (k := 91) (j := 0) (b := 0) (by decide +kernel))
  have h92 : (zM ws).1 92 0 = 0 := d_ce (z_val hs h (k := 92) (j := 0) (b := 0) (by decide +kernel))
  have h94 : (zM ws).1 94 0 = 0 := d_ce (z_val hs h (k := 94) (j := 0) (b := 0) (by decide +kernel))
  have h93 : (zM ws).1 93 0 = 100 := d_ce (z_val hs h (k := 93) (j := 0) (b := 100) (by decide +kernel))
  have m0 : (zM ws).1 95 0 = 0 := d_ce (z_val hs h (k := 95) (j := 0) (b := 0) (by decide +kernel))
  have n0 : (zM ws).1 96 0 = 0 := d_ce (z_val hs h (k := 96) (j := 0) (b := 0) (by decide +kernel))
  have m1 : (zM ws).1 95 1 = 0 := d_ce (z_val hs h (k := 95) (j := 1) (b := 0) (by decide +kernel))
  have n1 : (zM ws).1 96 1 = 0 := d_ce (z_val hs h (k := 96) (j := 1) (b := 0) (by decide +kernel))
  have m2 : (zM ws).1 95 2 = 0 := d_ce (z_val hs h (k := 95) (j := 2) (b := 0) (by decide +kernel))
  have n2 : (zM ws).1 96 2 = 0 := d_ce (z_val hs h (k := 96) (j := 2) (b := 0) (by decide +kernel))
  have m3 : (zM ws).1 95 3 = 0 := d_ce (z_val hs h (k := 95) (j := 3) (b := 0) (by decide +kernel))
  have n3 : (zM ws).1 96 3 = 0 := d_ce (z_val hs h (k := 96) (j := 3) (b := 0) (by decide +kernel))
  have z55 : (zM ws).1 107 55 = 0 := d_ce (z_val hs h (k := 107) (j := 55) (b := 0) (by decide +kernel))
  have z56 : (zM ws).1 107 56 = 100 := d_ce (z_val hs h (k := 107) (j := 56) (b := 100) (by decide +kernel))
  have z57 : (zM ws).1 107 57 = 0 := d_ce (z_val hs h (k := 107) (j := 57) (b := 0) (by decide +kernel))
  have y115 : ∀ j : Nat, j < 3 → (zM ws).1 115 j = 0 := fun j hj => by
    match j, hj with
    | 0, _ | 1, _ | 2, _ => exact d_ce (z_val hs h (b := 0) (by decide +kernel))
    | j + 3, h => omega
  have lc : ∀ k : Nat, k < 4 → LC (zM ws) k (lD0 k) := fun k hk => by
    refine ⟨?_, lD0_ok k, fun i hi => ?_⟩
    · rw [lD0_1]
      match k, hk with
      | 0, _ => rw [c0]; rfl
      | 1, _ => rw [c1]; rfl
      | 2, _ => rw [c2]; rfl
      | 3, _ => rw [c3]; rfl
      | k + 4, h => omega
    · rw [lD0_1] at hi
      have e0 : i = 0 := by omega
      subst e0
      match k, hk with
      | 0, _ => exact ⟨0, by rw [l14]; rfl, by rw [g14]; rfl, by decide, fun j hj => by match j, hj with | 0, _ => exact p0 | 1, _ => exact p1 | 2, _ => exact p2 | j + 3, hj => exact absurd hj (by show ¬ j + 3 < 3; omega)⟩
      | 1, _ => exact ⟨3, by rw [l15]; rfl, by rw [g15]; rfl, by decide, fun j hj => by match j, hj with | 0, _ => exact p3 | j + 1, hj => exact absurd hj (by show ¬ j + 1 < 1; omega)⟩
      | 2, _ => exact ⟨4, by rw [l16]; rfl, by rw [g16]; rfl, by decide, fun j hj => by match j, hj with | 0, _ => exact p4 | j + 1, hj => exact absurd hj (by show ¬ j + 1 < 1; omega)⟩
      | 3, _ => exact ⟨5, by rw [l17]; rfl, by rw [g17]; rfl, by decide, fun j hj => by match j, hj with | 0, _ => exact p5 | j + 1, hj => exact absurd hj (by show ¬ j + 1 < 1; omega)⟩
      | k + 4, h => omega
  have lr : ∀ k : Nat, k < 4 → LR (zM ws) 0 k (lD0 k) := fun k hk => by
    refine ⟨lD0_ok k, Or.inl ⟨?_, lD0_1 k, rfl⟩⟩
    match k, hk with
    | 0, _ => show ((zM ws).1 95 0).toInt = ((zM ws).1 96 0).toInt; rw [m0, n0]
    | 1, _ => show ((zM ws).1 95 1).toInt = ((zM ws).1 96 1).toInt; rw [m1, n1]
    | 2, _ => show ((zM ws).1 95 2).toInt = ((zM ws).1 96 2).toInt; rw [m2, n2]
    | 3, _ => show ((zM ws).1 95 3).toInt = ((zM ws).1 96 3).toInt; rw [m3, n3]
    | k + 4, h => omega
  refine ⟨hE0, sz0 hE0 (fun _ => 0), [], fun _ => sz0 hE0 (fun _ => 0), 0, hoX_b MI_0, hz, fun T hT => absurd hT (List.not_mem_nil), fun _ => hz, ⟨⟨hO, ⟨⟨⟨by rw [a0]; rfl, by decide⟩, ⟨by rw [a1]; rfl, by decide⟩, fun w hw => absurd hw (Nat.not_lt_zero w)⟩, by rw [a2]; rfl, fun f hf => absurd hf (Nat.not_lt_zero f), fun w hw => absurd hw (Nat.not_lt_zero w), fun u hu => absurd hu (Nat.not_lt_zero u), ⟨a3, a4, a5, a6⟩, lc⟩, fun q => absurd w1 q⟩, ⟨⟨s0, s1, s2, s3, s4, s5⟩, r48, r49, r50⟩, ⟨0, by decide, by rw [t2]; rfl, by rw [t3]; rfl, by decide, fun k T hk => by cases hk⟩, fun i hi => by rw [t4, bt_0], fun i hi hb => by rw [t4, bt_0] at hb; cases hb⟩, ⟨⟨hO, ⟨⟨by rw [q18]; rfl, by decide⟩, ⟨by rw [h80]; rfl, by decide⟩, ⟨by rw [h82]; rfl, by decide⟩, fun w hw => absurd hw (Nat.not_lt_zero w)⟩, by rw [h86]; rfl, fun f hf => absurd hf (Nat.not_lt_zero f), fun w hw => absurd hw (Nat.not_lt_zero w), fun u hu => absurd hu (Nat.not_lt_zero u), ⟨h91, h92, h93, h94⟩, lr⟩, ⟨⟨z55, z56, z57⟩, fun w hw => absurd hw (Nat.not_lt_zero w), fun f hf => absurd hf (Nat.not_lt_zero f), fun u hu => absurd hu (Nat.not_lt_zero u)⟩, ⟨by rw [q61]; rfl, by decide, fun k T hk => by cases hk⟩, fun i hi q => absurd (by rw [y115 i hi]; rfl) q⟩⟩
end ZFR
