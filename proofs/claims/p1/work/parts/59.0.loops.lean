/-! THE LOOPS of this system as known calls -/
def sp_hours : eSp := (29, 31, 51, false, [2], [(47, 0)], 1, 0, 1, 72)
def sp_after : eSp := (10, 12, 32, false, [3], [(62, 0)], 1, 0, 1, 72)
def sp_calm : eSp := (11, 14, 54, false, [4], [(62, 0)], 1, 0, 1, 72)
def sp_seeds : eSp := (6, 9, 47, false, [5, 4], [], 2, 0, 1, 20)
def sp_gone : eSp := (7, 11, 45, true, [1], [(62, 0)], 0, 200, 2, 201)
def sp_goes : eSp := (2, 4, 17, false, [2], [(108, 55)], 1, 0, 1, 72)
def sp_fgoing : eSp := (2, 6, 28, true, [1], [(108, 55)], 0, 200, 2, 201)
def sp_yearO : eSp := (24, 27, 91, false, [4, 3], [(70, 56)], 2, 0, 1, 20)
def sp_yearI : eSp := (51, 54, 77, false, [6], [(108, 55)], 1, 0, 1, 72)
def tO1 : List (Int × Int) → Nat → Nat → List eV → eH → Option (List (Option eV × eH)) := fun sr d b as h => cond (Nat.beq b 63) (tLC (eRL 63 sp_yearO (eRL 63 sp_yearI (tR0 tNo1 d 63))) sr 63 as h) (cond (Nat.beq b 154) (tLC (eRL 154 sp_hours (tR0 tNo1 d 154)) sr 154 as h) (cond (Nat.beq b 93) (tLC (eRL 93 sp_after (tR0 tNo1 d 93)) sr 93 as h) (cond (Nat.beq b 95) (tLC (eRL 95 sp_calm (tR0 tNo1 d 95)) sr 95 as h) (cond (Nat.beq b 89) (tLC (eRL 89 sp_gone (tR0 tNo1 d 89)) sr 89 as h) (cond (Nat.beq b 32) (tLC (eRL 32 sp_goes (tR0 tNo1 d 32)) sr 32 as h) (cond (Nat.beq b 47) (tLC (eRL 47 sp_fgoing (tR0 tNo1 d 47)) sr 47 as h) (none)))))))
def tO2 : List (Int × Int) → Nat → Nat → List eV → eH → Option (List (Option eV × eH)) := fun sr d b as h => cond (Nat.beq b 94) (tLC (eRL 94 sp_seeds (tR0 tO1 d 94)) sr 94 as h) (tO1 sr d b as h)
theorem tNo1_ok (adK adV : Nat → Nat) (l0 : Launch) : tOk1 adK adV l0 tNo1 := fun _ _ _ _ _ _ h => by cases h
theorem tO1_ok (adK adV : Nat → Nat) (l0 : Launch) : tOk1 adK adV l0 tO1 := by
  intro sr d b as h os hq
  unfold tO1 at hq
  cases hb : Nat.beq b 63 with
  | true =>
    rw [hb] at hq
    have e := Nat.eq_of_beq_eq_true hb
    subst e
    exact tLC_ok (eRL_ok (eRL_ok (tR0_ok (tNo1_ok adK adV l0) d 63))) hq
  | false =>
  rw [hb] at hq
  simp only [cond_false] at hq
  cases hb : Nat.beq b 154 with
  | true =>
    rw [hb] at hq
    have e := Nat.eq_of_beq_eq_true hb
    subst e
    exact tLC_ok (eRL_ok (tR0_ok (tNo1_ok adK adV l0) d 154)) hq
  | false =>
  rw [hb] at hq
  simp only [cond_false] at hq
  cases hb : Nat.beq b 93 with
  | true =>
    rw [hb] at hq
    have e := Nat.eq_of_beq_eq_true hb
    subst e
    exact tLC_ok (eRL_ok (tR0_ok (tNo1_ok adK adV l0) d 93)) hq
  | false =>
  rw [hb] at hq
  simp only [cond_false] at hq
  cases hb : Nat.beq b 95 with
  | true =>
    rw [hb] at hq
    have e := Nat.eq_of_beq_eq_true hb
    subst e
    exact tLC_ok (eRL_ok (tR0_ok (tNo1_ok adK adV l0) d 95)) hq
  | false =>
  rw [hb] at hq
  simp only [cond_false] at hq
  cases hb : Nat.beq b 89 with
  | true =>
    rw [hb] at hq
    have e := Nat.eq_of_beq_eq_true hb
    subst e
    exact tLC_ok (eRL_ok (tR0_ok (tNo1_ok adK adV l0) d 89)) hq
  | false =>
  rw [hb] at hq
  simp only [cond_false] at hq
  cases hb : Nat.beq b 32 with
  | true =>
    rw [hb] at hq
    have e := Nat.eq_of_beq_eq_true hb
    subst e
    exact tLC_ok (eRL_ok (tR0_ok (tNo1_ok adK adV l0) d 32)) hq
  | false =>
  rw [hb] at hq
  simp only [cond_false] at hq
  cases hb : Nat.beq b 47 with
  | true =>
    rw [hb] at hq
    have e := Nat.eq_of_beq_eq_true hb
    subst e
    exact tLC_ok (eRL_ok (tR0_ok (tNo1_ok adK adV l0) d 47)) hq
  | false =>
  rw [hb] at hq
  simp only [cond_false] at hq
  cases hq
theorem tO2_ok (adK adV : Nat → Nat) (l0 : Launch) : tOk1 adK adV l0 tO2 := by
  intro sr d b as h os hq
  unfold tO2 at hq
  cases hb : Nat.beq b 94 with
  | true =>
    rw [hb] at hq
    have e := Nat.eq_of_beq_eq_true hb
    subst e
    exact tLC_ok (eRL_ok (tR0_ok (tO1_ok adK adV l0) d 94)) hq
  | false =>
  rw [hb] at hq
  simp only [cond_false] at hq
  exact tO1_ok adK adV l0 _ _ _ _ _ _ hq
def tCl2 (sr : List (Int × Int)) (b : Nat) (as : List eV) (h : eH) : Option (List (Option eV × eH)) := match tO2 sr 600 b as h with
  | some os => some os
  | none => tCall sr (tO2 sr) 600 b as h
theorem tCl2_ok {adK adV : Nat → Nat} {l0 : Launch} {sr : List (Int × Int)} {b : Nat} {as : List eV} {h : eH} {os : List (Option eV × eH)} (hc : tCl2 sr b as h = some os) : eCon (tFz adK adV) l0 tCl lw_g tNs sr tMs tYs 600 b as h os := by
  unfold tCl2 at hc
  split at hc
  · rename_i os' ho
    cases hc
    exact tO2_ok adK adV l0 _ _ _ _ _ _ ho
  · exact tCall_ok (tO2_ok adK adV l0 sr) hc
def tPairL (sr : List (Int × Int)) (bx bm : Nat) (as : List eV) : Bool := match tCl2 sr bx (.inr (.inl (some 0)) :: as) hFresh with
  | some os => os.all (fun o => eRcv o.2 0 12 (.inr (.inl (some 70)) :: as) && (match tCl2 sr bm (.inr (.inl (some 70)) :: as) o.2 with
    | some os2 => os2.all (fun o2 => eSm o.1 o2.1)
    | none => false))
  | none => false
theorem tPairL_ok {adK adV : Nat → Nat} {l : Launch} {sr : List (Int × Int)} {bx bm : Nat} {as : List eV} (h : tPairL sr bx bm as = true) : PairOk adK adV l sr bx bm as := by
  unfold tPairL at h
  split at h
  · rename_i os hos
    refine ⟨os, tCl2_ok hos, fun o ho => ?_⟩
    have h1 := List.all_eq_true.mp h o ho
    rw [Bool.and_eq_true] at h1
    refine ⟨h1.1, ?_⟩
    have h2 := h1.2
    split at h2
    · rename_i os2 hos2
      exact ⟨os2, tCl2_ok hos2, fun o2 ho2 => List.all_eq_true.mp h2 o2 ho2⟩
    · cases h2
  · cases h
