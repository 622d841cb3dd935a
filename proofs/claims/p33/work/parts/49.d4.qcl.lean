/-! QUESTIONS, exactly: clash, then, litIn -/
def clB (H : Ho) (S : Zt) (u o : Nat) : Int32 := gng H S (b1 u ||| b1 o) (hod (szH S)) 0 &&& ((gng H S (b1 u) (hod (szH S)) 0 ||| gng H S (b1 o) (hod (szH S)) 0) ^^^ (-1 : Int32))
def aCls (H : Ho) (S : Zt) (x1 x2 : Int32) : Int32 := if (0 ≤ x1.toInt ∧ x1.toInt < (hoU H : Int)) ∧ (0 ≤ x2.toInt ∧ x2.toInt < (hoU H : Int)) ∧ x1.toInt ≠ x2.toInt then cond (lt H (szG S) (hoH H x1.toNatClampNeg) && lt H (szG S) (hoH H x2.toNatClampNeg)) (pc10 (clB H S x1.toNatClampNeg x2.toNatClampNeg) 10) 0 else -1
theorem and_nots {a b c : Int32} : a &&& ((b ||| c) ^^^ (-1 : Int32)) = (a &&& (b ^^^ (-1 : Int32))) &&& (c ^^^ (-1 : Int32)) := bt_ext (fun i hi => by
  simp only [bt_and, bt_xor, bt_or, bt_m1 hi]
  cases bt a i <;> cases bt b i <;> cases bt c i <;> rfl)
theorem pc10_cut {x : Int32} {n : Nat} (h : ∀ i : Nat, n ≤ i → bt x i = false) : ∀ k : Nat, pc10 x (n + k) = pc10 x n
  | 0 => rfl
  | k + 1 => by
    have e : pc10 x (n + (k + 1)) = pc10 x (n + k) + cond (bt x (n + k)) 1 0 := rfl
    rw [e, h (n + k) (by omega), cond_false, Int32.add_zero]
    exact pc10_cut h k
section QCL
variable {H : Ho} {S : Zt} {P : List Zt} {L : Nat → Zt} {m : dM} {s : Nat} {x1 x2 : Int32}
theorem gng_hi {on h more : Int32} {i : Nat} (hw : hoW H ≤ 10) (hi : 10 ≤ i) : bt (gng H S on h more) i = false := by
  unfold gng
  rw [bt_bs _ (by omega), decide_eq_false (by omega), Bool.false_and]
theorem ea_clash {Q : Int32 → dM → Prop} (hK : KC H S P L m) (hO : zOk H S) (hQ : ∀ m' : dM, QC H S P L m m' → Q (aCls H S x1 x2) m') : c_X11_clash_0 7 x1 x2 m Q := by
  have q0 := QC.rf hK
  have f7 := hK.1.1.1
  have w10 := hK.1.1.2.1
  have u8 := hK.1.1.2.2.1
  have hQ' : ∀ (v : Int32) (m' : dM), aCls H S x1 x2 = v → QC H S P L m m' → Q v m' := fun v m' e q => by rw [← e]; exact hQ m' q
  have no : ¬ ((0 ≤ x1.toInt ∧ x1.toInt < (hoU H : Int)) ∧ (0 ≤ x2.toInt ∧ x2.toInt < (hoU H : Int)) ∧ x1.toInt ≠ x2.toInt) → j_X11_clash_0_37 7 m Q := fun q => v_X11_clash_0_37 (hQ' _ m (by unfold aCls; rw [if_neg q]) q0)
  refine v_X11_clash_0 (Wp.deep (y_isUsec hK.1 (fun hu => ⟨fun z => absurd z (by decide), fun _ => Wp.deep (y_isUsec hK.1 (fun hv => ⟨fun z => absurd z (by decide), fun _ => ⟨fun e => no (fun w => w.2.2 e), fun ne => ?_⟩⟩) (fun hv => ⟨fun _ => no (fun w => hv w.2.1), fun z => absurd rfl z⟩)) (Nat.le_of_ble_eq_true rfl)⟩) (fun hu => ⟨fun _ => no (fun w => hu w.1), fun z => absurd rfl z⟩)) (Nat.le_of_ble_eq_true rfl))
  have hx := toNat_of hu.1
  have hy := toNat_of hv.1
  refine v_X1_clashOf_61_47 (Wp.deep (k_ways q0 hO (fun M q1 l1 => ⟨by omega, ?_⟩)) (Nat.le_of_ble_eq_true rfl))
  have hh1 := (q1.2.1.2.1.2.2.2.2.1 x1.toNatClampNeg (by omega)).1
  have hh2 := (q1.2.1.2.1.2.2.2.2.1 x2.toNatClampNeg (by omega)).1
  have o1 := (hK.1.1.2.2.2.2.1 x1.toNatClampNeg (by omega)).1
  have o2 := (hK.1.1.2.2.2.2.1 x2.toNatClampNeg (by omega)).1
  have lb1 := lt_bits l1 o1 (by omega)
  have lb2 := lt_bits l1 o2 (by omega)
  have eA : aCls H S x1 x2 = cond (lt H (szG S) (hoH H x1.toNatClampNeg) && lt H (szG S) (hoH H x2.toNatClampNeg)) (pc10 (clB H S x1.toNatClampNeg x2.toNatClampNeg) 10) 0 := by unfold aCls; rw [if_pos ⟨hu, hv, ne⟩]
  have no2 : (lt H (szG S) (hoH H x1.toNatClampNeg) && lt H (szG S) (hoH H x2.toNatClampNeg)) = false → j_X1_clashOf_61_47_47 6 M Q := fun e => v_X1_clashOf_61_47_47 (hQ' _ M (by rw [eA, e]; rfl) q1)
  refine Wp.deep (y_has hh1 (by omega) (fun g1 => ⟨fun z => absurd z (by decide), fun _ => ⟨by omega, Wp.deep (y_has hh2 (by omega) (fun g2 => ⟨fun _ => ?_, fun z => absurd z (by decide)⟩) (fun g2 => ⟨fun z => absurd rfl z, fun _ => no2 (by rw [← lb2, g2, Bool.and_false])⟩)) (Nat.le_of_ble_eq_true rfl)⟩⟩) (fun g1 => ⟨fun _ => no2 (by rw [← lb1, g1, Bool.false_and]), fun z => absurd rfl z⟩)) (Nat.le_of_ble_eq_true rfl)
  rw [b1_of hx, b1_of hy]
  refine k_goingWith q1 hO (fun M2 q2 => k_goingWith q2 hO (fun M3 q3 => k_goingWith q3 hO (fun M4 q4 => Wp.deep (ea_bits (fun i hi => ?_) (hQ' _ M4 ?_ q4)) (Nat.le_of_ble_eq_true rfl))))
  · rw [bt_and, gng_hi w10 hi, Bool.false_and]
  · rw [eA, ← lb1, ← lb2, g1, g2]
    rfl
theorem eb_clash {Q : Int32 → dM → Prop} (hK : KR H S P L s m) (hQ : ∀ m' : dM, RsF m m' → Q (aCls H S x1 x2) m') : c_X12_clash_70 7 x1 x2 m Q := by
  obtain ⟨o1, o2, o3, o4, o5, o6⟩ := hK.1.1
  have hQ' : ∀ (v : Int32) (m' : dM), aCls H S x1 x2 = v → RsF m m' → Q v m' := fun v m' e q => by rw [← e]; exact hQ m' q
  have no : ¬ ((0 ≤ x1.toInt ∧ x1.toInt < (hoU H : Int)) ∧ (0 ≤ x2.toInt ∧ x2.toInt < (hoU H : Int)) ∧ x1.toInt ≠ x2.toInt) → j_X12_clash_70_21 7 m Q := fun q => v_X12_clash_70_21 (hQ' _ m (by unfold aCls; rw [if_neg q]) (RsF.rf m))
  refine v_X12_clash_70 (Wp.deep (y_isUser hK.1 (fun hu => ⟨fun z => absurd z (by decide), fun _ => Wp.deep (y_isUser hK.1 (fun hv => ⟨fun z => absurd z (by decide), fun _ => ⟨fun ne => ?_, fun e => no (fun w => w.2.2 e)⟩⟩) (fun hv => ⟨fun _ => no (fun w => hv w.2.1), fun z => absurd rfl z⟩)) (Nat.le_of_ble_eq_true rfl)⟩) (fun hu => ⟨fun _ => no (fun w => hu w.1), fun z => absurd rfl z⟩)) (Nat.le_of_ble_eq_true rfl))
  have hx := toNat_of hu.1
  have hy := toNat_of hv.1
  refine y_copies hK.1 hK.2.1 (fun M f cy _ _ => ?_)
  have c1 := (o5 x1.toNatClampNeg (by omega)).1
  have c2 := (o5 x2.toNatClampNeg (by omega)).1
  have eA : aCls H S x1 x2 = cond (lt H (szG S) (hoH H x1.toNatClampNeg) && lt H (szG S) (hoH H x2.toNatClampNeg)) (pc10 (clB H S x1.toNatClampNeg x2.toNatClampNeg) 10) 0 := by unfold aCls; rw [if_pos ⟨hu, hv, ne⟩]
  have n0 : (lt H (szG S) (hoH H x1.toNatClampNeg) && lt H (szG S) (hoH H x2.toNatClampNeg)) = false → j_X12_clash_70_51 7 M Q := fun e => v_X12_clash_70_51 (hQ' _ M (by rw [eA, e]; rfl) f)
  have go : ∀ (on : Int32) (M1 : dM) (Q' : Int32 → dM → Prop), RsF m M1 → CY H S s M1 → (∀ M2 : dM, RsF m M2 → CY H S s M2 → Q' (gng H S on (hod (szH S)) 0) M2) → c_X12_goingBits_70 6 on (hod (szH S)) (0 : Int32) M1 Q' := fun on M1 Q' f1 d1 hq => Wp.deep (y_goingBits d1.1 d1.2.1 d1.2.2 (fun M2 f2 => hq M2 (f1.tr f2.rs) (d1.xa f2))) (Nat.le_of_ble_eq_true rfl)
  have eh : (M.1 108 55) - (M.1 108 55) / (24 : Int32) * (24 : Int32) = hod (szH S) := by rw [cy.2.1.1.1]; rfl
  refine Wp.deep (y_flatAt cy.1 hx (by omega) (fun r hr => Wp.deep (y_isLit cy.2.2 hr (by omega) (fun g1 => ⟨fun z => absurd z (by decide), fun _ => Wp.deep (y_flatAt cy.1 hy (by omega) (fun r2 hr2 => Wp.deep (y_isLit cy.2.2 hr2 (by omega) (fun g2 => ⟨fun _ => ?_, fun z => absurd z (by decide)⟩) (fun g2 => ⟨fun z => absurd rfl z, fun _ => n0 (by rw [g2, Bool.and_false])⟩)) (Nat.le_of_ble_eq_true rfl))) (Nat.le_of_ble_eq_true rfl)⟩) (fun g1 => ⟨fun _ => n0 (by rw [g1, Bool.false_and]), fun z => absurd rfl z⟩)) (Nat.le_of_ble_eq_true rfl))) (Nat.le_of_ble_eq_true rfl)
  rw [eh, b1_of hx, b1_of hy]
  refine go _ M _ f cy (fun M2 f2 d2 => go _ M2 _ f2 d2 (fun M3 f3 d3 => go _ M3 _ f3 d3 (fun M4 f4 d4 => Wp.deep (eb_bits (hQ' _ M4 ?_ f4)) (Nat.le_of_ble_eq_true rfl))))
  rw [eA, g1, g2, ← and_nots]
  rfl
/-- behind so many hours -/
def aThn (H : Ho) (S : Zt) (x1 x2 : Int32) : Int32 := if (0 ≤ x1.toInt ∧ x1.toInt ≤ 72) ∧ 0 ≤ x2.toInt ∧ x2.toInt ≤ 2 then (if x2.toInt = 0 then szC (itr H x1.toNatClampNeg S) - szC S else if x2.toInt = 1 then szQ (itr H x1.toNatClampNeg S) - szQ S else pc10 (szG (itr H x1.toNatClampNeg S)) 10) else -1
theorem ea_then {Q : Int32 → dM → Prop} (hK : KC H S P L m) (hO : zOk H S) (hQ : ∀ m' : dM, QC H S P L m m' → Q (aThn H S x1 x2) m') : c_X11_then_0 8 x1 x2 m Q := by
  have q0 := QC.rf hK
  have w10 := hK.1.1.2.1
  have hQ' : ∀ (v : Int32) (m' : dM), aThn H S x1 x2 = v → QC H S P L m m' → Q v m' := fun v m' e q => by rw [← e]; exact hQ m' q
  have no : ¬ ((0 ≤ x1.toInt ∧ x1.toInt ≤ 72) ∧ 0 ≤ x2.toInt ∧ x2.toInt ≤ 2) → j_X11_then_0_19 8 m Q := fun q => v_X11_then_0_19 (hQ' _ m (by unfold aThn; rw [if_neg q]) q0)
  refine v_X11_then_0 ⟨fun q => no (by omega), fun q1 => ⟨fun q => no (by omega), fun q2 => ⟨fun q => no (by omega), fun q3 => ⟨fun q4 => y_after q0 hO (toNat_of q1) (by have := toNat_of q1; omega) (fun M qM zM => ?_), fun q => no (by omega)⟩⟩⟩⟩
  have eA : aThn H S x1 x2 = (if x2.toInt = 0 then szC (itr H x1.toNatClampNeg S) - szC S else if x2.toInt = 1 then szQ (itr H x1.toNatClampNeg S) - szQ S else pc10 (szG (itr H x1.toNatClampNeg S)) 10) := by unfold aThn; rw [if_pos ⟨⟨q1, q2⟩, q3, q4⟩]
  have z47 := qM.2.2.1
  have zi := zOk.i hK.1.1 x1.toNatClampNeg S hO
  refine ⟨fun n0 => ⟨fun n1 => Wp.deep (ea_bits (fun i hi => ?_) (hQ' _ M ?_ qM)) (Nat.le_of_ble_eq_true rfl), fun e1 => hQ' _ M ?_ qM⟩, fun e0 => hQ' _ M ?_ qM⟩
  · rw [zM.1.2.2.2.1]
    cases b : bt (szG (itr H x1.toNatClampNeg S)) i with
    | false => rfl
    | true => have := zi.2.2.1 i b; omega
  · rw [eA, if_neg n0, if_neg n1, zM.1.2.2.2.1]
  · rw [eA, if_neg n0, if_pos e1, zM.1.2.2.1, z47.1.2.2.1]
  · rw [eA, if_pos e0, zM.1.2.1, z47.1.2.1]
theorem eb_then {Q : Int32 → dM → Prop} (hK : KR H S P L s m) (hO : zOk H S) (hQ : ∀ m' : dM, RsF m m' → Q (aThn H S x1 x2) m') : c_X12_then_70 8 x1 x2 m Q := by
  have w10 := hK.1.1.2.1
  have hQ' : ∀ (v : Int32) (m' : dM), aThn H S x1 x2 = v → RsF m m' → Q v m' := fun v m' e q => by rw [← e]; exact hQ m' q
  have e0 := ti_0
  have e2 := ti_2
  have no : ¬ ((0 ≤ x1.toInt ∧ x1.toInt ≤ 72) ∧ 0 ≤ x2.toInt ∧ x2.toInt ≤ 2) → j_X12_then_70_16 8 m Q := fun q => v_X12_then_70_16 (hQ' _ m (by unfold aThn; rw [if_neg q]) (RsF.rf m))
  refine v_X12_then_70 (Wp.deep (y_isLong (fun h => ⟨fun z => absurd z (by decide), fun _ => Wp.deep (y_in (fun h2 => ⟨fun _ => Wp.deep (y_copies hK.1 hK.2.1 (fun M f cy a6 a7 => y_goes cy hO a6 a7 (toNat_of h.1) (by have := toNat_of h.1; omega) (fun M2 f2 c2 => ?_))) (Nat.le_of_ble_eq_true rfl), fun z => absurd z (by decide)⟩) (fun q => ⟨fun z => absurd rfl z, fun _ => no (by omega)⟩)) (Nat.le_of_ble_eq_true rfl)⟩) (fun q => ⟨fun _ => no (by omega), fun z => absurd rfl z⟩)) (Nat.le_of_ble_eq_true rfl))
  have F2 := f.tr f2
  have a := c2.1.2.1.1
  have hKM := hK.rs F2
  have zi := zOk.i hK.1.1 x1.toNatClampNeg S hO
  have eA : aThn H S x1 x2 = (if x2.toInt = 0 then szC (itr H x1.toNatClampNeg S) - szC S else if x2.toInt = 1 then szQ (itr H x1.toNatClampNeg S) - szQ S else pc10 (szG (itr H x1.toNatClampNeg S)) 10) := by unfold aThn; rw [if_pos (by omega)]
  refine ⟨fun ge => ?_, fun l2 => ?_⟩
  · have loop : ∀ (t w : Nat) (x4 : Int32), w + t = hoW H → x4.toInt = (w : Int) → j_X12_then_70_57 8 (pc10 (szG (itr H x1.toNatClampNeg S)) w) x4 M2 Q := by
      intro t
      induction t with
      | zero =>
        intro w x4 hw h4
        have ew : w = hoW H := by omega
        refine v_X12_then_70_57 ?_
        rw [d_cn a.1, c2.1.2.1.2.2.1.1, a.1]
        refine ⟨by omega, fun _ => hQ' _ M2 ?_ F2, fun q => by exfalso; omega⟩
        have pc := pc10_cut (x := szG (itr H x1.toNatClampNeg S)) (n := hoW H) (fun i hi => by
          cases b : bt (szG (itr H x1.toNatClampNeg S)) i with
          | false => rfl
          | true => have := zi.2.2.1 i b; omega) (10 - hoW H)
        rw [show hoW H + (10 - hoW H) = 10 by omega] at pc
        rw [eA, if_neg (by omega), if_neg (by omega), ew]
        exact pc
      | succ t ih =>
        intro w x4 hw h4
        have e10 := d_add (k := x4) (K := w) (x := (10 : Int32)) (i := 10) (by decide) h4 (by omega)
        have e : pc10 (szG (itr H x1.toNatClampNeg S)) w + bi (bt (szG (itr H x1.toNatClampNeg S)) w) = pc10 (szG (itr H x1.toNatClampNeg S)) (w + 1) := by
          show _ = pc10 (szG (itr H x1.toNatClampNeg S)) w + cond (bt (szG (itr H x1.toNatClampNeg S)) w) 1 0
          cases bt (szG (itr H x1.toNatClampNeg S)) w <;> rfl
        refine v_X12_then_70_57 ?_
        rw [d_cn a.1, c2.1.2.1.2.2.1.1, a.1, d_cn e10, (c2.2.1.2.1 w (by omega)).2.1, e]
        exact ⟨by omega, fun q => by exfalso; omega, fun _ => ⟨by omega, ih (w + 1) _ (by omega) (d_inc h4 (by omega))⟩⟩
    exact loop (hoW H) 0 _ (by omega) (by decide)
  · have f56 := dAddE (X := 56) (Y := x2.toInt) (x := (56 : Int32)) (y := x2) (by decide) rfl (by omega) (by omega)
    refine ⟨by omega, by omega, hQ' _ M2 ?_ F2⟩
    rcases (show x2.toInt = 0 ∨ x2.toInt = 1 by omega) with q | q
    · have e : ((56 : Int32) + x2).toInt = ((56 : Nat) : Int) := by omega
      rw [eA, if_pos q, d_cn e, c2.2.1.1.2.1, hKM.2.1.1.2.1]
    · have e : ((56 : Int32) + x2).toInt = ((57 : Nat) : Int) := by omega
      rw [eA, if_neg (by omega), if_pos q, d_cn e, c2.2.1.1.2.2, hKM.2.1.1.2.2]
def aLin (H : Ho) (S : Zt) (x1 x2 : Int32) : Int32 := if (0 ≤ x1.toInt ∧ x1.toInt < (hoF H : Int)) ∧ 0 ≤ x2.toInt ∧ x2.toInt ≤ 72 then bi (lt H (szG (itr H x2.toNatClampNeg S)) x1.toNatClampNeg) else -1
theorem ea_litIn {Q : Int32 → dM → Prop} (hK : KC H S P L m) (hO : zOk H S) (hQ : ∀ m' : dM, QC H S P L m m' → Q (aLin H S x1 x2) m') : c_X11_litIn_0 8 x1 x2 m Q := by
  have q0 := QC.rf hK
  have f7 := hK.1.1.1
  have hQ' : ∀ (v : Int32) (m' : dM), aLin H S x1 x2 = v → QC H S P L m m' → Q v m' := fun v m' e q => by rw [← e]; exact hQ m' q
  have no : ¬ ((0 ≤ x1.toInt ∧ x1.toInt < (hoF H : Int)) ∧ 0 ≤ x2.toInt ∧ x2.toInt ≤ 72) → j_X11_litIn_0_18 8 m Q := fun q => v_X11_litIn_0_18 (hQ' _ m (by unfold aLin; rw [if_neg q]) q0)
  refine v_X11_litIn_0 (Wp.deep (y_isFlatc hK.1 (fun hu => ⟨fun z => absurd z (by decide), fun _ => ⟨fun q => no (by omega), fun q1 => ⟨fun q2 => y_after q0 hO (toNat_of q1) (by have := toNat_of q1; omega) (fun M qM zM => ?_), fun q => no (by omega)⟩⟩⟩) (fun hu => ⟨fun _ => no (fun w => hu w.1), fun z => absurd rfl z⟩)) (Nat.le_of_ble_eq_true rfl))
  have hx := toNat_of hu.1
  have eA : aLin H S x1 x2 = bi (lt H (szG (itr H x2.toNatClampNeg S)) x1.toNatClampNeg) := by unfold aLin; rw [if_pos ⟨hu, q1, q2⟩]
  have lb : bt (ltB H (szG (itr H x2.toNatClampNeg S))) x1.toNatClampNeg = lt H (szG (itr H x2.toNatClampNeg S)) x1.toNatClampNeg := by rw [bt_ltB f7, decide_eq_true (by omega), Bool.true_and]
  rw [zM.1.2.2.2.1]
  refine Wp.deep (ea_lit qM.2.1 (Wp.deep (d := 1) (y_has hx (by omega) (fun b => ⟨fun z => absurd z (by decide), fun _ => hQ' _ M ?_ qM⟩) (fun b => ⟨fun _ => hQ' _ M ?_ qM, fun z => absurd rfl z⟩)) (Nat.le_of_ble_eq_true rfl))) (Nat.le_of_ble_eq_true rfl)
  · rw [eA, ← lb, b]; rfl
  · rw [eA, ← lb, b]; rfl
theorem eb_litIn {Q : Int32 → dM → Prop} (hK : KR H S P L s m) (hO : zOk H S) (hQ : ∀ m' : dM, RsF m m' → Q (aLin H S x1 x2) m') : c_X12_litIn_70 8 x1 x2 m Q := by
  have f7 := hK.1.1.1
  have hQ' : ∀ (v : Int32) (m' : dM), aLin H S x1 x2 = v → RsF m m' → Q v m' := fun v m' e q => by rw [← e]; exact hQ m' q
  have no : ¬ ((0 ≤ x1.toInt ∧ x1.toInt < (hoF H : Int)) ∧ 0 ≤ x2.toInt ∧ x2.toInt ≤ 72) → j_X12_litIn_70_15 8 m Q := fun q => v_X12_litIn_70_15 (hQ' _ m (by unfold aLin; rw [if_neg q]) (RsF.rf m))
  refine v_X12_litIn_70 (Wp.deep (y_isFlatr hK.1 (fun hu => ⟨fun z => absurd z (by decide), fun _ => Wp.deep (y_isLong (fun h => ⟨fun _ => Wp.deep (y_copies hK.1 hK.2.1 (fun M f cy a6 a7 => y_goes cy hO a6 a7 (toNat_of h.1) (by have := toNat_of h.1; omega) (fun M2 f2 c2 => Wp.deep (y_isLit c2.2.2 (toNat_of hu.1) (by have := toNat_of hu.1; omega) (fun b => ⟨fun z => absurd z (by decide), fun _ => hQ' _ M2 ?_ (f.tr f2)⟩) (fun b => ⟨fun _ => hQ' _ M2 ?_ (f.tr f2), fun z => absurd rfl z⟩)) (Nat.le_of_ble_eq_true rfl)))) (Nat.le_of_ble_eq_true rfl), fun z => absurd z (by decide)⟩) (fun q => ⟨fun z => absurd rfl z, fun _ => no (by omega)⟩)) (Nat.le_of_ble_eq_true rfl)⟩) (fun hu => ⟨fun _ => no (fun w => hu w.1), fun z => absurd rfl z⟩)) (Nat.le_of_ble_eq_true rfl))
  · unfold aLin; rw [if_pos (by omega), b]; rfl
  · unfold aLin; rw [if_pos (by omega), b]; rfl
end QCL
