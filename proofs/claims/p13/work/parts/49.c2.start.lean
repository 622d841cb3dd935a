section
/-! HOW BOTH STAND BEHIND THE STARTS -/
section ZFR
variable {ad : List Nat} {σ : Nat → Int} {tys : List (ClassId × FieldType)} {ws : va_W}
def hE0 : Ho := hoX (fun _ => 0) mS0 lD0
theorem z_fr (hs : σ 0 = 0) (h : eAll (eCk ad σ tys) hFresh ws) : Fr (zM ws) := by
  have h8 : (0 : Nat) ≤ 8 := by decide
  have hz : zOk hE0 (sz0 hE0 (fun _ => 0)) := sz0_ok MI_0 h8 (fun w hw => absurd hw (Nat.not_lt_zero w))
  have hO : hOk hE0 := hoX_ok MI_0 (by decide) (by decide) (by decide) (fun k _ => lD0_ok k)
  have a0 : (zM ws).1 2 0 = 0 := d_ce (z_val hs h (k := 2) (j := 0) (b := 0) (by decide +kernel))
  have a1 : (zM ws).1 2 1 = 0 := d_ce (z_val hs h (k := 2) (j := 1) (b := 0) (by decide +kernel))
  have a2 : (zM ws).1 2 2 = 0 := d_ce (z_val hs h (k := 2) (j := 2) (b := 0) (by decide +kernel))
  have a3 : (zM ws).1 2 3 = 0 := d_ce (z_val hs h (k := 2) (j := 3) (b := 0) (by decide +kernel))
  have a4 : (zM ws).1 2 4 = 0 := d_ce (z_val hs h (k := 2) (j := 4) (b := 0) (by decide +kernel))
  have a5 : (zM ws).1 2 5 = 100 := d_ce (z_val hs h (k := 2) (j := 5) (b := 100) (by decide +kernel))
  have a6 : (zM ws).1 2 6 = 0 := d_ce (z_val hs h (k := 2) (j := 6) (b := 0) (by decide +kernel))
  have c0 : (zM ws).1 18 0 = 1 := d_ce (z_val hs h (k := 18) (j := 0) (b := 1) (by decide +kernel))
  have c1 : (zM ws).1 18 1 = 1 := d_ce (z_val hs h (k := 18) (j := 1) (b := 1) (by decide +kernel))
  have c2 : (zM ws).1 18 2 = 1 := d_ce (z_val hs h (k := 18) (j := 2) (b := 1) (by decide +kernel))
  have c3 : (zM ws).1 18 3 = 1 := d_ce (z_val hs h (k := 18) (j := 3) (b := 1) (by decide +kernel))
  have l14 : (zM ws).1 14 0 = 0 := d_ce (z_val hs h (k := 14) (j := 0) (b := 0) (by decide +kernel))
  have g14 : (zM ws).1 14 1 = 3 := d_ce (z_val hs h (k := 14) (j := 1) (b := 3) (by decide +kernel))
  have l15 : (zM ws).1 15 0 = 3 := d_ce (z_val hs h (k := 15) (j := 0) (b := 3) (by decide +kernel))
  have g15 : (zM ws).1 15 1 = 4 := d_ce (z_val hs h (k := 15) (j := 1) (b := 4) (by decide +kernel))
  have l16 : (zM ws).1 16 0 = 4 := d_ce (z_val hs h (k := 16) (j := 0) (b := 4) (by decide +kernel))
  have g16 : (zM ws).1 16 1 = 5 := d_ce (z_val hs h (k := 16) (j := 1) (b := 5) (by decide +kernel))
  have l17 : (zM ws).1 17 0 = 5 := d_ce (z_val hs h (k := 17) (j := 0) (b := 5) (by decide +kernel))
  have g17 : (zM ws).1 17 1 = 6 := d_ce (z_val hs h (k := 17) (j := 1) (b := 6) (by decide +kernel))
  have p0 : (zM ws).1 12 0 = 4 := d_ce (z_val hs h (k := 12) (j := 0) (b := 4) (by decide +kernel))
  have p1 : (zM ws).1 12 1 = 5 := d_ce (z_val hs h (k := 12) (j := 1) (b := 5) (by decide +kernel))
  have p2 : (zM ws).1 12 2 = 1 := d_ce (z_val hs h (k := 12) (j := 2) (b := 1) (by decide +kernel))
  have p3 : (zM ws).1 12 3 = 13 := d_ce (z_val hs h (k := 12) (j := 3) (b := 13) (by decide +kernel))
  have p4 : (zM ws).1 12 4 = 5 := d_ce (z_val hs h (k := 12) (j := 4) (b := 5) (by decide +kernel))
  have p5 : (zM ws).1 12 5 = 9 := d_ce (z_val hs h (k := 12) (j := 5) (b := 9) (by decide +kernel))
  have s0 : (zM ws).1 47 0 = 0 := d_ce (z_val hs h (k := 47) (j := 0) (b := 0) (by decide +kernel))
  have s1 : (zM ws).1 47 1 = 100 := d_ce (z_val hs h (k := 47) (j := 1) (b := 100) (by decide +kernel))
  have s2 : (zM ws).1 47 2 = 0 := d_ce (z_val hs h (k := 47) (j := 2) (b := 0) (by decide +kernel))
  have s3 : (zM ws).1 47 3 = 0 := d_ce (z_val hs h (k := 47) (j := 3) (b := 0) (by decide +kernel))
  have s4 : (zM ws).1 47 4 = 0 := d_ce (z_val hs h (k := 47) (j := 4) (b := 0) (by decide +kernel))
  have s5 : (zM ws).1 47 5 = 0 := d_ce (z_val hs h (k := 47) (j := 5) (b := 0) (by decide +kernel))
  have t2 : (zM ws).1 51 2 = 0 := d_ce (z_val hs h (k := 51) (j := 2) (b := 0) (by decide +kernel))
  have t3 : (zM ws).1 51 3 = 0 := d_ce (z_val hs h (k := 51) (j := 3) (b := 0) (by decide +kernel))
  have t4 : (zM ws).1 51 4 = 0 := d_ce (z_val hs h (k := 51) (j := 4) (b := 0) (by decide +kernel))
  have w1 : ((zM ws).1 57 1).toInt = -1 := z_val hs h (k := 57) (j := 1) (b := -1) (by decide +kernel)
  have r48 : ∀ j : Nat, j < 10 → (zM ws).1 48 j = 0 := fun j hj => by
    match j, hj with
    | 0, _ | 1, _ | 2, _ | 3, _ | 4, _ | 5, _ | 6, _ | 7, _ | 8, _ | 9, _ => exact d_ce (z_val hs h (b := 0) (by decide +kernel))
    | j + 10, h => omega
  have r49 : ∀ j : Nat, j < 10 → (zM ws).1 49 j = 0 := fun j hj => by
    match j, hj with
    | 0, _ | 1, _ | 2, _ | 3, _ | 4, _ | 5, _ | 6, _ | 7, _ | 8, _ | 9, _ => exact d_ce (z_val hs h (b := 0) (by decide +kernel))
    | j + 10, h => omega
  have r50 : ∀ j : Nat, j < 7 → (zM ws).1 50 j = 0 := fun j hj => by
    match j, hj with
    | 0, _ | 1, _ | 2, _ | 3, _ | 4, _ | 5, _ | 6, _ => exact d_ce (z_val hs h (b := 0) (by decide +kernel))
    | j + 7, h => omega
  have q18 : (zM ws).1 70 18 = 0 := d_ce (z_val hs h (k := 70) (j := 18) (b := 0) (by decide +kernel))
  have q61 : (zM ws).1 70 61 = 0 := d_ce (z_val hs h (k := 70) (j := 61) (b := 0) (by decide +kernel))
  have h80 : (zM ws).1 80 0 = 0 := d_ce (z_val hs h (k := 80) (j := 0) (b := 0) (by decide +kernel))
  have h82 : (zM ws).1 82 0 = 0 := d_ce (z_val hs h (k := 82) (j := 0) (b := 0) (by decide +kernel))
  have h86 : (zM ws).1 86 0 = 0 := d_ce (z_val hs h (k := 86) (j := 0) (b := 0) (by decide +kernel))
  have h91 : (zM ws).1 91 0 = 0 := d_ce (z_val hs h (k := 91) (j := 0) (b := 0) (by decide +kernel))
  have h92 : (zM ws).1 92 0 = 0 := d_ce (z_val hs h (k := 92) (j := 0) (b := 0) (by decide +kernel))
  have h94 : (zM ws).1 94 0 = 0 := d_ce (z_val hs h (k := 94) (j := 0) (b := 0) (by decide +kernel))
  have h93 : (zM ws).1 93 0 = 100 := d_ce (z_val hs h (k := 93) (j := 0) (b := 100) (by decide +kernel))
  have m0 : (zM ws).1 95 0 = 0 := d_ce (z_val hs h (k := 95) (j := 0) (b := 0) (by decide +kernel))
  have n0 : (zM ws).1 96 0 = 0 := d_ce (z_val hs h (k := 96) (j := 0) (b := 0) (by decide +kernel))
  have m1 : (zM ws).1 95 1 = 0 := d_ce (z_val hs h (k := 95) (j := 1) (b := 0) (by decide +kernel))
  have n1 : (zM ws).1 96 1 = 0 := d_ce (z_val hs h (k := 96) (j := 1) (b := 0) (by decide +kernel))
  have m2 : (zM ws).1 95 2 = 0 := d_ce (z_val hs h (k := 95) (j := 2) (b := 0) (by decide +kernel))
  have n2 : (zM ws).1 96 2 = 0 := d_ce (z_val hs h (k := 96) (j := 2) (b := 0) (by decide +kernel))
  have m3 : (zM ws).1 95 3 = 0 := d_ce (z_val hs h (k := 95) (j := 3) (b := 0) (by decide +kernel))
  have n3 : (zM ws).1 96 3 = 0 := d_ce (z_val hs h (k := 96) (j := 3) (b := 0) (by decide +kernel))
  have z55 : (zM ws).1 107 55 = 0 := d_ce (z_val hs h (k := 107) (j := 55) (b := 0) (by decide +kernel))
  have z56 : (zM ws).1 107 56 = 100 := d_ce (z_val hs h (k := 107) (j := 56) (b := 100) (by decide +kernel))
  have z57 : (zM ws).1 107 57 = 0 := d_ce (z_val hs h (k := 107) (j := 57) (b := 0) (by decide +kernel))
  have y115 : ∀ j : Nat, j < 3 → (zM ws).1 115 j = 0 := fun j hj => by
    match j, hj with
    | 0, _ | 1, _ | 2, _ => exact d_ce (z_val hs h (b := 0) (by decide +kernel))
    | j + 3, h => omega
  have lc : ∀ k : Nat, k < 4 → LC (zM ws) k (lD0 k) := fun k hk => by
    refine ⟨?_, lD0_ok k, fun i hi => ?_⟩
    · rw [lD0_1]
      match k, hk with
      | 0, _ => rw [c0]; rfl
      | 1, _ => rw [c1]; rfl
      | 2, _ => rw [c2]; rfl
      | 3, _ => rw [c3]; rfl
      | k + 4, h => omega
    · rw [lD0_1] at hi
      have e0 : i = 0 := by omega
      subst e0
      match k, hk with
      | 0, _ => exact ⟨0, by rw [l14]; rfl, by rw [g14]; rfl, by decide, fun j hj => by match j, hj with | 0, _ => exact p0 | 1, _ => exact p1 | 2, _ => exact p2 | j + 3, hj => exact absurd hj (by show ¬ j + 3 < 3; omega)⟩
      | 1, _ => exact ⟨3, by rw [l15]; rfl, by rw [g15]; rfl, by decide, fun j hj => by match j, hj with | 0, _ => exact p3 | j + 1, hj => exact absurd hj (by show ¬ j + 1 < 1; omega)⟩
      | 2, _ => exact ⟨4, by rw [l16]; rfl, by rw [g16]; rfl, by decide, fun j hj => by match j, hj with | 0, _ => exact p4 | j + 1, hj => exact absurd hj (by show ¬ j + 1 < 1; omega)⟩
      | 3, _ => exact ⟨5, by rw [l17]; rfl, by rw [g17]; rfl, by decide, fun j hj => by match j, hj with | 0, _ => exact p5 | j + 1, hj => exact absurd hj (by show ¬ j + 1 < 1; omega)⟩
      | k + 4, h => omega
  have lr : ∀ k : Nat, k < 4 → LR (zM ws) 0 k (lD0 k) := fun k hk => by
    refine ⟨lD0_ok k, Or.inl ⟨?_, lD0_1 k, rfl⟩⟩
    match k, hk with
    | 0, _ => show ((zM ws).1 95 0).toInt = ((zM ws).1 96 0).toInt; rw [m0, n0]
    | 1, _ => show ((zM ws).1 95 1).toInt = ((zM ws).1 96 1).toInt; rw [m1, n1]
    | 2, _ => show ((zM ws).1 95 2).toInt = ((zM ws).1 96 2).toInt; rw [m2, n2]
    | 3, _ => show ((zM ws).1 95 3).toInt = ((zM ws).1 96 3).toInt; rw [m3, n3]
    | k + 4, h => omega
  refine ⟨hE0, sz0 hE0 (fun _ => 0), [], fun _ => sz0 hE0 (fun _ => 0), 0, hoX_b MI_0, hz, fun T hT => absurd hT (List.not_mem_nil), fun _ => hz, ⟨⟨hO, ⟨⟨⟨by rw [a0]; rfl, by decide⟩, ⟨by rw [a1]; rfl, by decide⟩, fun w hw => absurd hw (Nat.not_lt_zero w)⟩, by rw [a2]; rfl, fun f hf => absurd hf (Nat.not_lt_zero f), fun w hw => absurd hw (Nat.not_lt_zero w), fun u hu => absurd hu (Nat.not_lt_zero u), ⟨a3, a4, a5, a6⟩, lc⟩, fun q => absurd w1 q⟩, ⟨⟨s0, s1, s2, s3, s4, s5⟩, r48, r49, r50⟩, ⟨0, by decide, by rw [t2]; rfl, by rw [t3]; rfl, by decide, fun k T hk => by cases hk⟩, fun i hi => by rw [t4, bt_0], fun i hi hb => by rw [t4, bt_0] at hb; cases hb⟩, ⟨⟨hO, ⟨⟨by rw [q18]; rfl, by decide⟩, ⟨by rw [h80]; rfl, by decide⟩, ⟨by rw [h82]; rfl, by decide⟩, fun w hw => absurd hw (Nat.not_lt_zero w)⟩, by rw [h86]; rfl, fun f hf => absurd hf (Nat.not_lt_zero f), fun w hw => absurd hw (Nat.not_lt_zero w), fun u hu => absurd hu (Nat.not_lt_zero u), ⟨h91, h92, h93, h94⟩, lr⟩, ⟨⟨z55, z56, z57⟩, fun w hw => absurd hw (Nat.not_lt_zero w), fun f hf => absurd hf (Nat.not_lt_zero f), fun u hu => absurd hu (Nat.not_lt_zero u)⟩, ⟨by rw [q61]; rfl, by decide, fun k T hk => by cases hk⟩, fun i hi q => absurd (by rw [y115 i hi]; rfl) q⟩⟩
end ZFR
end
section
/-! QUESTIONS, exactly: flat, wire -/
theorem ofI {x : Int32} {z : Int} (h : x.toInt = z) : Int32.ofInt z = x := by rw [← h]; exact Int32.ofInt_toInt x
def aFlt (H : Ho) (S : Zt) (x1 x2 : Int32) : Int32 := if 0 ≤ x1.toInt ∧ x1.toInt < (hoF H : Int) then (if x2.toInt = 0 then hoT H x1.toNatClampNeg else if x2.toInt = 1 then bi (lt H (szG S) x1.toNatClampNeg) else if x2.toInt = 2 then szD S x1.toNatClampNeg else if x2.toInt = 3 then cond (lt H (szG S) x1.toNatClampNeg) (Int32.ofInt (wyD H (szG S) x1.toNatClampNeg : Int)) (-2) else if x2.toInt = 4 then qrl H S x1.toNatClampNeg else if x2.toInt = 5 then amf H (onA H S (hod (szH S))) x1.toNatClampNeg (hoU H) else -1) else -1
def aWir (H : Ho) (S : Zt) (x1 x2 : Int32) : Int32 := if 0 ≤ x1.toInt ∧ x1.toInt < (hoW H : Int) then (if x2.toInt = 0 then Int32.ofInt (hoA H x1.toNatClampNeg : Int) else if x2.toInt = 1 then Int32.ofInt (hoB H x1.toNatClampNeg : Int) else if x2.toInt = 2 then szR S x1.toNatClampNeg else if x2.toInt = 3 then 1 - bi (bt (szG S) x1.toNatClampNeg) else if x2.toInt = 4 then szE S x1.toNatClampNeg else if x2.toInt = 5 then bi (bt (szP S) x1.toNatClampNeg) else if x2.toInt = 6 then lod H (szG S) (onA H S (hod (szH S))) x1.toNatClampNeg else if x2.toInt = 7 then cst H S x1.toNatClampNeg else if x2.toInt = 8 then bi (gop H S (onA H S (hod (szH S))) (hod (szH S)) 0 x1.toNatClampNeg) else -1) else -1
theorem bi_z {b : Bool} (h : (bi b).toInt = 0) : bi b = 0 := by
  cases b with
  | false => rfl
  | true => exact absurd h (by decide)
theorem bi_n {b : Bool} (h : (bi b).toInt ≠ 0) : bi b = 1 := by
  cases b with
  | false => exact absurd rfl h
  | true => rfl
section QFW
variable {H : Ho} {S : Zt} {P : List Zt} {L : Nat → Zt} {m : dM} {s : Nat} {x1 x2 : Int32}
theorem lt_bits {g : Int32} {f : Nat} (l : LA H g m) (hf : f < hoF H) (h32 : f < 32) : bt (m.1 57 5) f = lt H g f := by
  rw [l.2.2.2.2 f h32, decide_eq_true hf, Bool.true_and]
  rfl
theorem ea_flat {Q : Int32 → dM → Prop} (hK : KC H S P L m) (hO : zOk H S) (hQ : ∀ m' : dM, QC H S P L m m' → Q (aFlt H S x1 x2) m') : c_X11_flat_0 6 x1 x2 m Q := by
  have q0 := QC.rf hK
  have f7 := hK.1.1.1
  have hQ' : ∀ (v : Int32) (m' : dM), aFlt H S x1 x2 = v → QC H S P L m m' → Q v m' := fun v m' e q => by rw [← e]; exact hQ m' q
  refine v_X11_flat_0 (Wp.deep (y_isFlatc hK.1 (fun hu => ⟨fun _ => ?_, fun z => absurd z (by decide)⟩) (fun hu => ⟨fun z => absurd rfl z, fun _ => hQ' _ m (by unfold aFlt; rw [if_neg hu]) q0⟩)) (Nat.le_of_ble_eq_true rfl))
  have hx := toNat_of hu.1
  have hf : x1.toNatClampNeg < hoF H := by omega
  refine Wp.deep (k_ways q0 hO (fun M q1 l1 => ?_)) (Nat.le_of_ble_eq_true rfl)
  have lb := lt_bits l1 hf (by omega)
  refine ⟨fun q => ⟨by omega, hQ' _ M ?_ q1⟩, fun q => Wp.deep (y_has hx (by omega) (fun b => ⟨fun z => absurd z (by decide), fun _ => hQ' _ M ?_ q1⟩) (fun b => ⟨fun _ => hQ' _ M ?_ q1, fun z => absurd rfl z⟩)) (Nat.le_of_ble_eq_true rfl), fun q => ⟨by omega, hQ' _ M ?_ q1⟩, fun q => Wp.deep (y_has hx (by omega) (fun b => ⟨fun z => absurd z (by decide), fun _ => ⟨by omega, hQ' _ M ?_ q1⟩⟩) (fun b => ⟨fun _ => hQ' _ M ?_ q1, fun z => absurd rfl z⟩)) (Nat.le_of_ble_eq_true rfl), fun q => Wp.deep (y_quarrel47 q1.2.1 q1.2.2.1 hx (by omega) (fun M2 f2 => hQ' _ M2 ?_ (q1.va f2))) (Nat.le_of_ble_eq_true rfl), fun q => Wp.deep (k_usesNow q1 hO (fun M2 q2 l2 => Wp.deep (k_amps q2.2.1 hx (hQ' _ M2 ?_ q2)) (Nat.le_of_ble_eq_true rfl))) (Nat.le_of_ble_eq_true rfl), fun q => hQ' _ M ?_ q1⟩
  · unfold aFlt; rw [if_pos hu, if_pos q]; exact (q1.2.1.2.1.2.2.1 _ hf).symm
  · unfold aFlt; rw [if_pos hu, if_neg (by omega), if_pos q, ← lb, b]; rfl
  · unfold aFlt; rw [if_pos hu, if_neg (by omega), if_pos q, ← lb, b]; rfl
  · unfold aFlt; rw [if_pos hu, if_neg (by omega), if_neg (by omega), if_pos q]; exact (q1.2.2.1.2.2.2 _ (by omega)).symm
  · unfold aFlt
    rw [if_pos hu, if_neg (by omega), if_neg (by omega), if_neg (by omega), if_pos q, ← lb, b]
    have e : (M.1 59 x1.toNatClampNeg).toInt = ewy (wyD H (szG S) x1.toNatClampNeg) := l1.2.1 x1.toNatClampNeg (by omega)
    have ne : wyD H (szG S) x1.toNatClampNeg ≠ 99 := by
      have := lb.symm.trans b
      exact of_decide_eq_true this
    unfold ewy at e
    rw [if_neg ne] at e
    exact ofI e
  · unfold aFlt; rw [if_pos hu, if_neg (by omega), if_neg (by omega), if_neg (by omega), if_pos q, ← lb, b]; rfl
  · unfold aFlt; rw [if_pos hu, if_neg (by omega), if_neg (by omega), if_neg (by omega), if_neg (by omega), if_pos q]
  · unfold aFlt; rw [if_pos hu, if_neg (by omega), if_neg (by omega), if_neg (by omega), if_neg (by omega), if_neg (by omega), if_pos q]
  · unfold aFlt; rw [if_pos hu, if_neg (by omega), if_neg (by omega), if_neg (by omega), if_neg (by omega), if_neg (by omega), if_neg (by omega)]
theorem eb_flat {Q : Int32 → dM → Prop} (hK : KR H S P L s m) (hQ : ∀ m' : dM, RsF m m' → Q (aFlt H S x1 x2) m') : c_X12_flat_70 7 x1 x2 m Q := by
  have f7 := hK.1.1.1
  have hQ' : ∀ (v : Int32) (m' : dM), aFlt H S x1 x2 = v → RsF m m' → Q v m' := fun v m' e q => by rw [← e]; exact hQ m' q
  refine v_X12_flat_70 (Wp.deep (y_isFlatr hK.1 (fun hu => ⟨fun _ => ?_, fun z => absurd z (by decide)⟩) (fun hu => ⟨fun z => absurd rfl z, fun _ => hQ' _ m (by unfold aFlt; rw [if_neg hu]) (RsF.rf m)⟩)) (Nat.le_of_ble_eq_true rfl))
  have hx := toNat_of hu.1
  have hf : x1.toNatClampNeg < hoF H := by omega
  refine y_copies hK.1 hK.2.1 (fun M f cy _ _ => ?_)
  have a := cy.1.2.1.1
  have e7 := y_idx (C := 7) (c := (7 : Int32)) (by decide) a.1 a.2 hx (by decide) (by omega)
  have e40 := d_add (k := x1) (K := x1.toNatClampNeg) (x := (40 : Int32)) (i := 40) (by decide) hx (by omega)
  refine ⟨fun q => ⟨by omega, hQ' _ M ?_ f⟩, fun q => Wp.deep (y_isLit cy.2.2 hx (by omega) (fun b => ⟨fun z => absurd z (by decide), fun _ => hQ' _ M ?_ f⟩) (fun b => ⟨fun _ => hQ' _ M ?_ f, fun z => absurd rfl z⟩)) (Nat.le_of_ble_eq_true rfl), fun q => ⟨by omega, hQ' _ M ?_ f⟩, fun q => Wp.deep (y_isLit cy.2.2 hx (by omega) (fun b => ⟨fun z => absurd z (by decide), fun _ => ⟨by omega, hQ' _ M ?_ f⟩⟩) (fun b => ⟨fun _ => hQ' _ M ?_ f, fun z => absurd rfl z⟩)) (Nat.le_of_ble_eq_true rfl), fun q => Wp.deep (y_quarrelOf cy.1 cy.2.1 hx (by omega) (fun M2 f2 => hQ' _ M2 ?_ (f.tr f2.rs))) (Nat.le_of_ble_eq_true rfl), fun q => Wp.deep (y_ampsOn cy hx (hQ' _ M ?_ f)) (Nat.le_of_ble_eq_true rfl), fun q => hQ' _ M ?_ f⟩
  · unfold aFlt; rw [if_pos hu, if_pos q, d_cn e7]; exact (cy.1.2.2.2.1 _ hf).symm
  · unfold aFlt; rw [if_pos hu, if_neg (by omega), if_pos q, b]; rfl
  · unfold aFlt; rw [if_pos hu, if_neg (by omega), if_pos q, b]; rfl
  · unfold aFlt; rw [if_pos hu, if_neg (by omega), if_neg (by omega), if_pos q, d_cn e40]; exact (cy.2.1.2.2.1 _ hf).symm
  · unfold aFlt; rw [if_pos hu, if_neg (by omega), if_neg (by omega), if_neg (by omega), if_pos q, b]; exact ofI (cy.2.2.1 x1.toNatClampNeg (by omega))
  · unfold aFlt; rw [if_pos hu, if_neg (by omega), if_neg (by omega), if_neg (by omega), if_pos q, b]; rfl
  · unfold aFlt; rw [if_pos hu, if_neg (by omega), if_neg (by omega), if_neg (by omega), if_neg (by omega), if_pos q]
  · unfold aFlt; rw [if_pos hu, if_neg (by omega), if_neg (by omega), if_neg (by omega), if_neg (by omega), if_neg (by omega), if_pos q]
  · unfold aFlt; rw [if_pos hu, if_neg (by omega), if_neg (by omega), if_neg (by omega), if_neg (by omega), if_neg (by omega), if_neg (by omega)]
theorem ea_wire {Q : Int32 → dM → Prop} (hK : KC H S P L m) (hO : zOk H S) (hQ : ∀ m' : dM, QC H S P L m m' → Q (aWir H S x1 x2) m') : c_X11_wire_0 7 x1 x2 m Q := by
  have q0 := QC.rf hK
  have w10 := hK.1.1.2.1
  have hQ' : ∀ (v : Int32) (m' : dM), aWir H S x1 x2 = v → QC H S P L m m' → Q v m' := fun v m' e q => by rw [← e]; exact hQ m' q
  refine v_X11_wire_0 (Wp.deep (y_isWirec hK.1 (fun hu => ⟨fun _ => ?_, fun z => absurd z (by decide)⟩) (fun hu => ⟨fun z => absurd rfl z, fun _ => hQ' _ m (by unfold aWir; rw [if_neg hu]) q0⟩)) (Nat.le_of_ble_eq_true rfl))
  have hx := toNat_of hu.1
  have hw : x1.toNatClampNeg < hoW H := by omega
  have g3 : m.1 47 3 = szG S := hK.2.1.1.2.2.2.1
  have g4 : m.1 47 4 = szP S := hK.2.1.1.2.2.2.2.1
  refine ⟨fun q => ⟨by omega, hQ' _ m ?_ q0⟩, fun q => ⟨by omega, hQ' _ m ?_ q0⟩, fun q => ⟨by omega, hQ' _ m ?_ q0⟩, fun q => Wp.deep (y_has hx (by omega) (fun b => ⟨fun z => absurd z (by decide), fun _ => hQ' _ m ?_ q0⟩) (fun b => ⟨fun _ => hQ' _ m ?_ q0, fun z => absurd rfl z⟩)) (Nat.le_of_ble_eq_true rfl), fun q => ⟨by omega, hQ' _ m ?_ q0⟩, fun q => Wp.deep (y_has hx (by omega) (fun b => ⟨fun z => absurd z (by decide), fun _ => hQ' _ m ?_ q0⟩) (fun b => ⟨fun _ => hQ' _ m ?_ q0, fun z => absurd rfl z⟩)) (Nat.le_of_ble_eq_true rfl), fun q => Wp.deep (k_load hK hO hx (by omega) (fun M q1 => hQ' _ M ?_ q1)) (Nat.le_of_ble_eq_true rfl), fun q => Wp.deep (y_cost47 hK.1 hK.2.1 hx (by omega) (fun M f => hQ' _ M ?_ (q0.va f))) (Nat.le_of_ble_eq_true rfl), fun q => v_X0_goingNow_54_47 (Wp.deep (k_usesNow q0 hO (fun M q1 _ => k_goingWith q1 hO (fun M2 q2 => Wp.deep (y_has hx (by omega) (fun b => ⟨fun z => absurd z (by decide), fun _ => hQ' _ M2 ?_ q2⟩) (fun b => ⟨fun _ => hQ' _ M2 ?_ q2, fun z => absurd rfl z⟩)) (Nat.le_of_ble_eq_true rfl)))) (Nat.le_of_ble_eq_true rfl)), fun q => hQ' _ m ?_ q0⟩
  · unfold aWir; rw [if_pos hu, if_pos q]; exact ofI (hK.1.2.1.1.2.2 _ hw).1.1
  · unfold aWir; rw [if_pos hu, if_neg (by omega), if_pos q]; exact ofI (hK.1.2.1.1.2.2 _ hw).1.2
  · unfold aWir; rw [if_pos hu, if_neg (by omega), if_neg (by omega), if_pos q]; exact (hK.2.1.2.1 _ (by omega)).symm
  · rw [g3] at b; unfold aWir; rw [if_pos hu, if_neg (by omega), if_neg (by omega), if_neg (by omega), if_pos q, b]; decide
  · rw [g3] at b; unfold aWir; rw [if_pos hu, if_neg (by omega), if_neg (by omega), if_neg (by omega), if_pos q, b]; decide
  · unfold aWir; rw [if_pos hu, if_neg (by omega), if_neg (by omega), if_neg (by omega), if_neg (by omega), if_pos q]; exact (hK.2.1.2.2.1 _ (by omega)).symm
  · rw [g4] at b; unfold aWir; rw [if_pos hu, if_neg (by omega), if_neg (by omega), if_neg (by omega), if_neg (by omega), if_neg (by omega), if_pos q, b]; rfl
  · rw [g4] at b; unfold aWir; rw [if_pos hu, if_neg (by omega), if_neg (by omega), if_neg (by omega), if_neg (by omega), if_neg (by omega), if_pos q, b]; rfl
  · unfold aWir; rw [if_pos hu, if_neg (by omega), if_neg (by omega), if_neg (by omega), if_neg (by omega), if_neg (by omega), if_neg (by omega), if_pos q]
  · unfold aWir; rw [if_pos hu, if_neg (by omega), if_neg (by omega), if_neg (by omega), if_neg (by omega), if_neg (by omega), if_neg (by omega), if_neg (by omega), if_pos q]
  · unfold gng at b; rw [bt_bs _ (by omega), decide_eq_true hw, Bool.true_and] at b; unfold aWir; rw [if_pos hu, if_neg (by omega), if_neg (by omega), if_neg (by omega), if_neg (by omega), if_neg (by omega), if_neg (by omega), if_neg (by omega), if_neg (by omega), if_pos q, b]; rfl
  · unfold gng at b; rw [bt_bs _ (by omega), decide_eq_true hw, Bool.true_and] at b; unfold aWir; rw [if_pos hu, if_neg (by omega), if_neg (by omega), if_neg (by omega), if_neg (by omega), if_neg (by omega), if_neg (by omega), if_neg (by omega), if_neg (by omega), if_pos q, b]; rfl
  · unfold aWir; rw [if_pos hu, if_neg (by omega), if_neg (by omega), if_neg (by omega), if_neg (by omega), if_neg (by omega), if_neg (by omega), if_neg (by omega), if_neg (by omega), if_neg (by omega)]
theorem eb_wire {Q : Int32 → dM → Prop} (hK : KR H S P L s m) (hQ : ∀ m' : dM, RsF m m' → Q (aWir H S x1 x2) m') : c_X12_wire_70 7 x1 x2 m Q := by
  have w10 := hK.1.1.2.1
  have hQ' : ∀ (v : Int32) (m' : dM), aWir H S x1 x2 = v → RsF m m' → Q v m' := fun v m' e q => by rw [← e]; exact hQ m' q
  refine v_X12_wire_70 (Wp.deep (y_isWire hK.1.2.1 (fun hu => ⟨fun _ => ?_, fun z => absurd z (by decide)⟩) (fun hu => ⟨fun z => absurd rfl z, fun _ => hQ' _ m (by unfold aWir; rw [if_neg hu]) (RsF.rf m)⟩)) (Nat.le_of_ble_eq_true rfl))
  have hx := toNat_of hu.1
  have hw : x1.toNatClampNeg < hoW H := by omega
  refine y_copies hK.1 hK.2.1 (fun M f cy _ _ => ?_)
  have a := cy.1.2.1.1
  have e0 := y_idx (C := 10) (c := (10 : Int32)) (by decide) a.1 a.2 hx (by decide) (by omega)
  have e10 := d_add (k := x1) (K := x1.toNatClampNeg) (x := (10 : Int32)) (i := 10) (by decide) hx (by omega)
  have e20 := d_add (k := x1) (K := x1.toNatClampNeg) (x := (20 : Int32)) (i := 20) (by decide) hx (by omega)
  have e30 := d_add (k := x1) (K := x1.toNatClampNeg) (x := (30 : Int32)) (i := 30) (by decide) hx (by omega)
  have z := cy.2.1.2.1 _ hw
  have eh : M.1 108 55 = szH S := cy.2.1.1.1
  refine ⟨fun q => ⟨by omega, hQ' _ M ?_ f⟩, fun q => ⟨by omega, hQ' _ M ?_ f⟩, fun q => ⟨by omega, hQ' _ M ?_ f⟩, fun q => ⟨by omega, hQ' _ M ?_ f⟩, fun q => ⟨by omega, hQ' _ M ?_ f⟩, fun q => ⟨by omega, hQ' _ M ?_ f⟩, fun q => Wp.deep (y_onNow cy (Wp.deep (y_loadBy cy.1 cy.2.2 hx (by omega) (hQ' _ M ?_ f)) (Nat.le_of_ble_eq_true rfl))) (Nat.le_of_ble_eq_true rfl), fun q => Wp.deep (y_costsOf cy.1 cy.2.1 hx (by omega) (fun M2 f2 => hQ' _ M2 ?_ (f.tr f2.rs))) (Nat.le_of_ble_eq_true rfl), fun q => Wp.deep (y_onNow cy (Wp.deep (y_doesGo cy.1 cy.2.1 cy.2.2 hx (by omega) (fun M2 f2 => ⟨fun b => hQ' _ M2 ?_ (f.tr f2.rs), fun b => hQ' _ M2 ?_ (f.tr f2.rs)⟩)) (Nat.le_of_ble_eq_true rfl))) (Nat.le_of_ble_eq_true rfl), fun q => hQ' _ M ?_ f⟩
  · unfold aWir; rw [if_pos hu, if_pos q, d_cn e0]; exact ofI (cy.1.2.1.2.2.2 _ hw).1.1
  · unfold aWir; rw [if_pos hu, if_neg (by omega), if_pos q, d_cn e0]; exact ofI (cy.1.2.1.2.2.2 _ hw).1.2
  · unfold aWir; rw [if_pos hu, if_neg (by omega), if_neg (by omega), if_pos q]; exact z.1.symm
  · unfold aWir; rw [if_pos hu, if_neg (by omega), if_neg (by omega), if_neg (by omega), if_pos q, d_cn e10, z.2.1]
  · unfold aWir; rw [if_pos hu, if_neg (by omega), if_neg (by omega), if_neg (by omega), if_neg (by omega), if_pos q, d_cn e20]; exact z.2.2.1.symm
  · unfold aWir; rw [if_pos hu, if_neg (by omega), if_neg (by omega), if_neg (by omega), if_neg (by omega), if_neg (by omega), if_pos q, d_cn e30]; exact z.2.2.2.symm
  · unfold aWir; rw [if_pos hu, if_neg (by omega), if_neg (by omega), if_neg (by omega), if_neg (by omega), if_neg (by omega), if_neg (by omega), if_pos q]
  · unfold aWir; rw [if_pos hu, if_neg (by omega), if_neg (by omega), if_neg (by omega), if_neg (by omega), if_neg (by omega), if_neg (by omega), if_neg (by omega), if_pos q]
  · rw [eh] at b; unfold aWir; rw [if_pos hu, if_neg (by omega), if_neg (by omega), if_neg (by omega), if_neg (by omega), if_neg (by omega), if_neg (by omega), if_neg (by omega), if_neg (by omega), if_pos q]; exact bi_z b
  · rw [eh] at b; unfold aWir; rw [if_pos hu, if_neg (by omega), if_neg (by omega), if_neg (by omega), if_neg (by omega), if_neg (by omega), if_neg (by omega), if_neg (by omega), if_neg (by omega), if_pos q]; exact bi_n b
  · unfold aWir; rw [if_pos hu, if_neg (by omega), if_neg (by omega), if_neg (by omega), if_neg (by omega), if_neg (by omega), if_neg (by omega), if_neg (by omega), if_neg (by omega), if_neg (by omega)]
end QFW
end
section
/-! QUESTIONS, exactly: way, share -/
/-- along its way, so many wires on -/
def wGo (H : Ho) (g : Int32) : Nat → Nat → Nat
  | 0, f => f
  | k + 1, f => wGo H g k (ot (hoA H) (hoB H) (wyN H g f) f)
def aWay (H : Ho) (S : Zt) (x1 x2 : Int32) : Int32 := if (0 ≤ x1.toInt ∧ x1.toInt < (hoF H : Int)) ∧ 0 ≤ x2.toInt then cond (lt H (szG S) x1.toNatClampNeg) (if x2.toInt < (wyD H (szG S) x1.toNatClampNeg : Int) then Int32.ofInt (wyN H (szG S) (wGo H (szG S) x2.toNatClampNeg x1.toNatClampNeg) : Int) else -1) (-2) else -1
def aShr (H : Ho) (S : Zt) (x1 x2 : Int32) : Int32 := if (0 ≤ x1.toInt ∧ x1.toInt < (hoF H : Int)) ∧ 0 ≤ x2.toInt ∧ x2.toInt < (hoW H : Int) then cond (bt (wyV H (szG S) x1.toNatClampNeg) x2.toNatClampNeg) (amf H (onA H S (hod (szH S))) x1.toNatClampNeg (hoU H)) 0 else -1
section QWS
variable {H : Ho} {S : Zt} {P : List Zt} {L : Nat → Zt} {m : dM} {s : Nat} {x1 x2 : Int32}
theorem ea_way {Q : Int32 → dM → Prop} (hK : KC H S P L m) (hO : zOk H S) (hQ : ∀ m' : dM, QC H S P L m m' → Q (aWay H S x1 x2) m') : c_X11_way_0 4 x1 x2 m Q := by
  have q0 := QC.rf hK
  have f7 := hK.1.1.1
  have w10 := hK.1.1.2.1
  have hQ' : ∀ (v : Int32) (m' : dM), aWay H S x1 x2 = v → QC H S P L m m' → Q v m' := fun v m' e q => by rw [← e]; exact hQ m' q
  have no : ¬ ((0 ≤ x1.toInt ∧ x1.toInt < (hoF H : Int)) ∧ 0 ≤ x2.toInt) → j_X11_way_0_12 4 m Q := fun q => v_X11_way_0_12 (hQ' _ m (by unfold aWay; rw [if_neg q]) q0)
  refine v_X11_way_0 (Wp.deep (y_isFlatc hK.1 (fun hu => ⟨fun z => absurd z (by decide), fun _ => ⟨fun h2 => ?_, fun q => no (fun w => by omega)⟩⟩) (fun hu => ⟨fun _ => no (fun w => hu w.1), fun z => absurd rfl z⟩)) (Nat.le_of_ble_eq_true rfl))
  have hx := toNat_of hu.1
  have h2x := toNat_of h2
  have hf0 : x1.toNatClampNeg < hoF H := by omega
  refine k_ways q0 hO (fun M q1 l1 => ?_)
  have lb := lt_bits l1 hf0 (by omega)
  have eA : aWay H S x1 x2 = cond (lt H (szG S) x1.toNatClampNeg) (if x2.toInt < (wyD H (szG S) x1.toNatClampNeg : Int) then Int32.ofInt (wyN H (szG S) (wGo H (szG S) x2.toNatClampNeg x1.toNatClampNeg) : Int) else -1) (-2) := by unfold aWay; rw [if_pos ⟨hu, h2⟩]
  refine Wp.deep (y_has hx (by omega) (fun g => ⟨fun z => absurd z (by decide), fun _ => ?_⟩) (fun g => ⟨fun _ => hQ' _ M (by rw [eA, ← lb, g]; rfl) q1, fun z => absurd rfl z⟩)) (Nat.le_of_ble_eq_true rfl)
  have eB : aWay H S x1 x2 = if x2.toInt < (wyD H (szG S) x1.toNatClampNeg : Int) then Int32.ofInt (wyN H (szG S) (wGo H (szG S) x2.toNatClampNeg x1.toNatClampNeg) : Int) else -1 := by rw [eA, ← lb, g]; rfl
  have hH := q1.2.1.2.1.1
  have loop : ∀ (t i f : Nat) (x3 x4 : Int32), i + t = 7 → x4.toInt = (i : Int) → x3.toInt = (f : Int) → f < hoF H → (x2.toInt < (i : Int) + (wyD H (szG S) f : Int) ∧ i + wyD H (szG S) f ≤ 6 ∧ i ≤ x2.toNatClampNeg) → aWay H S x1 x2 = Int32.ofInt (wyN H (szG S) (wGo H (szG S) (x2.toNatClampNeg - i) f) : Int) → j_X10_wireAt_57_21 3 x2 x3 x4 M Q := by
    intro t
    induction t with
    | zero =>
      intro i f x3 x4 hi h4 h3 hf hd e
      exfalso
      omega
    | succ t ih =>
      intro i f x3 x4 hi h4 h3 hf hd e
      obtain ⟨n, hn⟩ : ∃ n, wyD H (szG S) f = n + 1 := ⟨wyD H (szG S) f - 1, by omega⟩
      have nk := nx_ok (nf := hoF H) (nw := hoW H) (e1 := hoA H) (e2 := hoB H) (G := bt (szG S)) (n := n) (f := f) (by omega) hn
      have e58 := l1.2.2.2.1 f hf (by show wyD H (szG S) f ≠ 99; omega) (by show wyD H (szG S) f ≠ 0; omega)
      obtain ⟨⟨w1, w2⟩, q1', q2', q3'⟩ := hH.2.2 _ nk.1
      refine v_X10_wireAt_57_21 ⟨fun q => ⟨by omega, hQ' _ M ?_ q1⟩, fun q => ⟨by omega, ?_⟩⟩
      · rw [e, show x2.toNatClampNeg - i = 0 by omega, d_cn h3]
        exact ofI e58
      rw [d_cn h3, d_cn e58, w1, h3]
      have dn : wyD H (szG S) (ot (hoA H) (hoB H) (nx (hoF H) (hoW H) (hoA H) (hoB H) (bt (szG S)) f) f) = n := nk.2.2
      rw [show x2.toNatClampNeg - i = (x2.toNatClampNeg - (i + 1)) + 1 by omega] at e
      have e : aWay H S x1 x2 = Int32.ofInt (wyN H (szG S) (wGo H (szG S) (x2.toNatClampNeg - (i + 1)) (ot (hoA H) (hoB H) (nx (hoF H) (hoW H) (hoA H) (hoB H) (bt (szG S)) f) f)) : Int) := e
      refine ⟨by omega, fun ne => ⟨by omega, ih (i + 1) (hoA H (nx (hoF H) (hoW H) (hoA H) (hoB H) (bt (szG S)) f)) _ _ (by omega) (d_inc h4 (by omega)) w1 q1' ?_ ?_⟩, fun ee => ⟨by omega, ih (i + 1) (hoB H (nx (hoF H) (hoW H) (hoA H) (hoB H) (bt (szG S)) f)) _ _ (by omega) (d_inc h4 (by omega)) w2 q2' ?_ ?_⟩⟩
      · unfold ot at dn
        rw [if_neg (by omega)] at dn
        omega
      · unfold ot at e
        rw [if_neg (by omega)] at e
        exact e
      · unfold ot at dn
        rw [if_pos (by omega)] at dn
        omega
      · unfold ot at e
        rw [if_pos (by omega)] at e
        exact e
  have e59 := l1.2.1 x1.toNatClampNeg (by omega)
  have lit : wyD H (szG S) x1.toNatClampNeg ≠ 99 := by
    have := lb.symm.trans g
    exact of_decide_eq_true this
  have e59 : (M.1 59 x1.toNatClampNeg).toInt = ewy (wyD H (szG S) x1.toNatClampNeg) := e59
  unfold ewy at e59
  rw [if_neg lit] at e59
  refine v_X10_wireAt_57 ⟨fun q => by exfalso; omega, fun _ => ⟨by omega, fun q => ?_, fun q => v_X10_wireAt_57_14 (hQ' _ M (by rw [eB, if_neg (by omega)]) q1)⟩⟩
  have b0 := dD_le (nf := hoF H) (nw := hoW H) (e1 := hoA H) (e2 := hoB H) (G := bt (szG S)) (f := x1.toNatClampNeg)
  have b0 : wyD H (szG S) x1.toNatClampNeg ≤ 6 ∨ wyD H (szG S) x1.toNatClampNeg = 99 := b0
  exact loop 7 0 x1.toNatClampNeg _ _ rfl (by decide) hx (by omega) ⟨by omega, by omega, by omega⟩ (by rw [eB, if_pos (by omega)]; rfl)
theorem eb_way {Q : Int32 → dM → Prop} (hK : KR H S P L s m) (hQ : ∀ m' : dM, RsF m m' → Q (aWay H S x1 x2) m') : c_X12_way_70 7 x1 x2 m Q := by
  have f7 := hK.1.1.1
  have hQ' : ∀ (v : Int32) (m' : dM), aWay H S x1 x2 = v → RsF m m' → Q v m' := fun v m' e q => by rw [← e]; exact hQ m' q
  have no : ¬ ((0 ≤ x1.toInt ∧ x1.toInt < (hoF H : Int)) ∧ 0 ≤ x2.toInt) → j_X12_way_70_12 7 m Q := fun q => v_X12_way_70_12 (hQ' _ m (by unfold aWay; rw [if_neg q]) (RsF.rf m))
  refine v_X12_way_70 (Wp.deep (y_isFlatr hK.1 (fun hu => ⟨fun z => absurd z (by decide), fun _ => ⟨fun h2 => ?_, fun q => no (fun w => by omega)⟩⟩) (fun hu => ⟨fun _ => no (fun w => hu w.1), fun z => absurd rfl z⟩)) (Nat.le_of_ble_eq_true rfl))
  have hx := toNat_of hu.1
  have h2x := toNat_of h2
  have eA : aWay H S x1 x2 = cond (lt H (szG S) x1.toNatClampNeg) (if x2.toInt < (wyD H (szG S) x1.toNatClampNeg : Int) then Int32.ofInt (wyN H (szG S) (wGo H (szG S) x2.toNatClampNeg x1.toNatClampNeg) : Int) else -1) (-2) := by unfold aWay; rw [if_pos ⟨hu, h2⟩]
  refine y_copies hK.1 hK.2.1 (fun M f cy _ _ => ?_)
  have e109 := cy.2.2.1 x1.toNatClampNeg (by omega)
  refine Wp.deep (y_isLit cy.2.2 hx (by omega) (fun g => ⟨fun _ => ⟨by omega, fun lt' => ?_, fun q => hQ' _ M (by rw [eA, g]; show (if _ then _ else _) = _; rw [if_neg (by omega)]) f⟩, fun z => absurd z (by decide)⟩) (fun g => ⟨fun z => absurd rfl z, fun _ => hQ' _ M (by rw [eA, g]; rfl) f⟩)) (Nat.le_of_ble_eq_true rfl)
  have eB : aWay H S x1 x2 = Int32.ofInt (wyN H (szG S) (wGo H (szG S) x2.toNatClampNeg x1.toNatClampNeg) : Int) := by
    rw [eA, g]
    show (if _ then _ else _) = _
    rw [if_pos (by omega)]
  have hG : RG (hoW H) (bt (szG S)) M := cy.2.1.rg (r := 0)
  have loop : ∀ (t i f' : Nat) (x3 x4 : Int32), i + t = 7 → x4.toInt = (i : Int) → x3.toInt = (f' : Int) → f' < hoF H → (x2.toInt < (i : Int) + (wyD H (szG S) f' : Int) ∧ i + wyD H (szG S) f' ≤ 6 ∧ (i : Int) ≤ x2.toInt) → aWay H S x1 x2 = Int32.ofInt (wyN H (szG S) (wGo H (szG S) (x2.toNatClampNeg - i) f') : Int) → j_X12_way_70_46 7 x2 x3 x4 M Q := by
    intro t
    induction t with
    | zero => intro i f' x3 x4 hi h4 h3 hf hd; exfalso; omega
    | succ t ih =>
      intro i f' x3 x4 hi h4 h3 hf hd e
      refine v_X12_way_70_46 ⟨fun q => ?_, fun q => ?_⟩
      · obtain ⟨n, hn⟩ : ∃ n, wyD H (szG S) f' = n + 1 := ⟨wyD H (szG S) f' - 1, by omega⟩
        exact Wp.deep (y_wireFrom cy.1.2.1 hG cy.2.2.1 h3 (by omega) (by omega : n < 6) hn (fun r hr => hQ' _ M (by rw [e, show x2.toNatClampNeg - i = 0 by omega]; exact ofI hr) f)) (Nat.le_of_ble_eq_true rfl)
      · obtain ⟨n, hn⟩ : ∃ n, wyD H (szG S) f' = n + 1 := ⟨wyD H (szG S) f' - 1, by omega⟩
        have nk := nx_ok (nf := hoF H) (nw := hoW H) (e1 := hoA H) (e2 := hoB H) (G := bt (szG S)) (n := n) (f := f') (by omega) hn
        have en := (cy.1.1.2.2.2.1 _ nk.1)
        refine Wp.deep (y_wireFrom cy.1.2.1 hG cy.2.2.1 h3 (by omega) (by omega : n < 6) hn (fun r hr => Wp.deep (y_otherEnd cy.1.2.1 hr nk.1 h3 (fun r2 ht hr2 => ih (i + 1) _ _ _ (by omega) (d_inc h4 (by omega)) hr2 ?_ ?_ ?_) (fun no2 => ?_)) (Nat.le_of_ble_eq_true rfl))) (Nat.le_of_ble_eq_true rfl)
        · unfold ot; split <;> omega
        · have dn : wyD H (szG S) (ot (hoA H) (hoB H) (nx (hoF H) (hoW H) (hoA H) (hoB H) (bt (szG S)) f') f') = n := nk.2.2
          rw [dn]
          omega
        · rw [show x2.toNatClampNeg - i = (x2.toNatClampNeg - (i + 1)) + 1 by omega] at e
          exact e
        · exfalso
          have k2 := nk.2.1
          unfold tch at k2
          rw [Bool.and_eq_true, Bool.or_eq_true, decide_eq_true_eq, decide_eq_true_eq] at k2
          exact no2 k2.2
  have lit : wyD H (szG S) x1.toNatClampNeg ≠ 99 := by
    unfold lt at g
    exact of_decide_eq_true g
  have b0 := dD_le (nf := hoF H) (nw := hoW H) (e1 := hoA H) (e2 := hoB H) (G := bt (szG S)) (f := x1.toNatClampNeg)
  have b0 : wyD H (szG S) x1.toNatClampNeg ≤ 6 ∨ wyD H (szG S) x1.toNatClampNeg = 99 := b0
  exact loop 7 0 x1.toNatClampNeg _ _ rfl (by decide) hx (by omega) ⟨by omega, by omega, by omega⟩ eB
theorem ea_share {Q : Int32 → dM → Prop} (hK : KC H S P L m) (hO : zOk H S) (hQ : ∀ m' : dM, QC H S P L m m' → Q (aShr H S x1 x2) m') : c_X11_share_0 5 x1 x2 m Q := by
  have q0 := QC.rf hK
  have f7 := hK.1.1.1
  have w10 := hK.1.1.2.1
  have hQ' : ∀ (v : Int32) (m' : dM), aShr H S x1 x2 = v → QC H S P L m m' → Q v m' := fun v m' e q => by rw [← e]; exact hQ m' q
  have no : ¬ ((0 ≤ x1.toInt ∧ x1.toInt < (hoF H : Int)) ∧ 0 ≤ x2.toInt ∧ x2.toInt < (hoW H : Int)) → j_X11_share_0_16 5 m Q := fun q => v_X11_share_0_16 (hQ' _ m (by unfold aShr; rw [if_neg q]) q0)
  refine v_X11_share_0 (Wp.deep (y_isFlatc hK.1 (fun hu => ⟨fun z => absurd z (by decide), fun _ => ?_⟩) (fun hu => ⟨fun _ => no (fun w => hu w.1), fun z => absurd rfl z⟩)) (Nat.le_of_ble_eq_true rfl))
  have hx := toNat_of hu.1
  have hf : x1.toNatClampNeg < hoF H := by omega
  refine Wp.deep (y_isWirec hK.1 (fun hw => ⟨fun _ => ?_, fun z => absurd z (by decide)⟩) (fun hw => ⟨fun z => absurd rfl z, fun _ => no (fun w => hw w.2)⟩)) (Nat.le_of_ble_eq_true rfl)
  have hy := toNat_of hw.1
  refine Wp.deep (k_ways q0 hO (fun M q1 l1 => ⟨by omega, ?_⟩)) (Nat.le_of_ble_eq_true rfl)
  have e60 : M.1 60 x1.toNatClampNeg = wyV H (szG S) x1.toNatClampNeg := by
    rw [l1.2.2.1 _ hf]
    by_cases q : dD (hoF H) (hoW H) (hoA H) (hoB H) (bt (szG S)) x1.toNatClampNeg = 99
    · rw [if_pos q]; exact (via_99 q).symm
    · rw [if_neg q]; rfl
  have eA : aShr H S x1 x2 = cond (bt (wyV H (szG S) x1.toNatClampNeg) x2.toNatClampNeg) (amf H (onA H S (hod (szH S))) x1.toNatClampNeg (hoU H)) 0 := by unfold aShr; rw [if_pos ⟨hu, hw⟩]
  rw [e60]
  exact Wp.deep (y_has hy (by omega) (fun b => ⟨fun z => absurd z (by decide), fun _ => k_usesNow q1 hO (fun M2 q2 l2 => Wp.deep (k_amps q2.2.1 hx (hQ' _ M2 (by rw [eA, b]; rfl) q2)) (Nat.le_of_ble_eq_true rfl))⟩) (fun b => ⟨fun _ => hQ' _ M (by rw [eA, b]; rfl) q1, fun z => absurd rfl z⟩)) (Nat.le_of_ble_eq_true rfl)
theorem eb_share {Q : Int32 → dM → Prop} (hK : KR H S P L s m) (hQ : ∀ m' : dM, RsF m m' → Q (aShr H S x1 x2) m') : c_X12_share_70 7 x1 x2 m Q := by
  have f7 := hK.1.1.1
  have w10 := hK.1.1.2.1
  have hQ' : ∀ (v : Int32) (m' : dM), aShr H S x1 x2 = v → RsF m m' → Q v m' := fun v m' e q => by rw [← e]; exact hQ m' q
  have no : ¬ ((0 ≤ x1.toInt ∧ x1.toInt < (hoF H : Int)) ∧ 0 ≤ x2.toInt ∧ x2.toInt < (hoW H : Int)) → j_X12_share_70_16 7 m Q := fun q => v_X12_share_70_16 (hQ' _ m (by unfold aShr; rw [if_neg q]) (RsF.rf m))
  refine v_X12_share_70 (Wp.deep (y_isFlatr hK.1 (fun hu => ⟨fun z => absurd z (by decide), fun _ => Wp.deep (y_isWire hK.1.2.1 (fun hw => ⟨fun _ => ?_, fun z => absurd z (by decide)⟩) (fun hw => ⟨fun z => absurd rfl z, fun _ => no (fun w => hw w.2)⟩)) (Nat.le_of_ble_eq_true rfl)⟩) (fun hu => ⟨fun _ => no (fun w => hu w.1), fun z => absurd rfl z⟩)) (Nat.le_of_ble_eq_true rfl))
  have hx := toNat_of hu.1
  have hy := toNat_of hw.1
  have eA : aShr H S x1 x2 = cond (bt (wyV H (szG S) x1.toNatClampNeg) x2.toNatClampNeg) (amf H (onA H S (hod (szH S))) x1.toNatClampNeg (hoU H)) 0 := by unfold aShr; rw [if_pos ⟨hu, hw⟩]
  refine y_copies hK.1 hK.2.1 (fun M f cy _ _ => ?_)
  have e110 := cy.2.2.2 x1.toNatClampNeg (by omega)
  have sh := bt_s (x := M.1 110 x1.toNatClampNeg) hy (by omega)
  rw [e110] at sh ⊢
  cases b : bt (wyV H (szG S) x1.toNatClampNeg) x2.toNatClampNeg with
  | true =>
    rw [b, if_pos rfl] at sh
    exact ⟨by omega, fun q => absurd sh q, fun _ => Wp.deep (y_ampsOn cy hx (hQ' _ M (by rw [eA, b]; rfl) f)) (Nat.le_of_ble_eq_true rfl)⟩
  | false =>
    rw [b, if_neg (by decide)] at sh
    exact ⟨by omega, fun _ => hQ' _ M (by rw [eA, b]; rfl) f, fun q => by exfalso; omega⟩
end QWS
end
section
/-! QUESTIONS, exactly: what is lit without some wires; without, needed -/
section LIW
variable {nf nw : Nat} {e1 e2 : Nat → Nat} {G : Nat → Bool}
theorem dD_0 {f : Nat} (h : dD nf nw e1 e2 G f = 0) : f = 0 ∧ 0 < nf := by
  have h0 := (dD_lvl (by omega : 0 ≤ 6)).mp h
  have h0 : (if f = 0 ∧ 0 < nf then 0 else 99) = 0 := h0
  by_cases q : f = 0 ∧ 0 < nf
  · exact q
  · rw [if_neg q] at h0
    omega
theorem dD_00 (h : 0 < nf) : dD nf nw e1 e2 G 0 = 0 := (dD_lvl (by omega : 0 ≤ 6)).mpr (by show (if 0 = 0 ∧ 0 < nf then 0 else 99) = 0; rw [if_pos ⟨rfl, h⟩])
theorem dD_lt (hE : ∀ w : Nat, w < nw → e1 w < nf ∧ e2 w < nf) {f : Nat} (h : dD nf nw e1 e2 G f ≠ 99) : f < nf := by
  by_cases q : f < nf
  · exact q
  · exact absurd (dst_far hE (by omega : nf ≤ f) 6) h
/-- so far, so many -/
theorem lvl_cn (hE : ∀ w : Nat, w < nw → e1 w < nf ∧ e2 w < nf) : ∀ (n a : Nat), n ≤ 6 → dD nf nw e1 e2 G a = n → n + 1 ≤ cn (fun f => decide (dD nf nw e1 e2 G f ≤ n)) nf
  | 0, a, _, h => by
    have q := dD_0 h
    exact cn_pos (p := fun f => decide (dD nf nw e1 e2 G f ≤ 0)) (j := a) (decide_eq_true (by omega)) nf (by omega)
  | n + 1, a, hn, h => by
    have k := nx_ok (by omega : n < 6) h
    have ih := lvl_cn hE n _ (by omega) k.2.2
    have ha := dD_lt (G := G) hE (f := a) (by omega)
    have := cn_more (p := fun f => decide (dD nf nw e1 e2 G f ≤ n)) (q := fun f => decide (dD nf nw e1 e2 G f ≤ n + 1)) (fun i hi => decide_eq_true (by have := of_decide_eq_true hi; omega)) (j := a) (decide_eq_false (by omega)) (decide_eq_true (by omega)) nf ha
    omega
/-- a whole wire: its ends are lit both or none -/
theorem dD_cl (hE : ∀ w : Nat, w < nw → e1 w < nf ∧ e2 w < nf) (h7 : nf ≤ 7) {w a b : Nat} (hw : w < nw) (hG : G w = false) (hab : (e1 w = a ∧ e2 w = b) ∨ (e2 w = a ∧ e1 w = b)) (ha : dD nf nw e1 e2 G a ≠ 99) : dD nf nw e1 e2 G b ≠ 99 := by
  by_cases eab : a = b
  · rw [← eab]; exact ha
  have bl := dD_le (nf := nf) (nw := nw) (e1 := e1) (e2 := e2) (G := G) (f := a)
  obtain ⟨l, hl⟩ : ∃ l, dD nf nw e1 e2 G a = l := ⟨_, rfl⟩
  have hEw := hE w hw
  by_cases q6 : l = 6
  · have c := lvl_cn (G := G) hE 6 a (by omega) (by omega)
    have c2 := cn_le (p := fun f => decide (dD nf nw e1 e2 G f ≤ 6)) nf
    have hb : b < nf := by rcases hab with ⟨p, q⟩ | ⟨p, q⟩ <;> omega
    have := of_decide_eq_true (cn_all (p := fun f => decide (dD nf nw e1 e2 G f ≤ 6)) nf (by omega) b hb)
    omega
  · intro hb
    have hb6 : dst nf nw e1 e2 G 6 b = 99 := hb
    have la : dst nf nw e1 e2 G l a = l := (dD_lvl (by omega : l ≤ 6)).mp hl
    have k1 : dst nf nw e1 e2 G l b = 99 := by
      by_cases q : dst nf nw e1 e2 G l b = 99
      · exact q
      · exfalso
        have := dst_keep q (6 - l)
        rw [show l + (6 - l) = 6 by omega] at this
        omega
    have o : ot e1 e2 w b = a := by
      unfold ot
      rcases hab with ⟨p, q⟩ | ⟨p, q⟩
      · rw [if_neg (by omega)]; exact p
      · rw [if_pos q]; exact p
    have t : tch e1 e2 G w b = true := by
      unfold tch
      rw [hG, Bool.not_false, Bool.true_and, Bool.or_eq_true, decide_eq_true_eq, decide_eq_true_eq]
      rcases hab with ⟨p, q⟩ | ⟨p, q⟩
      · exact Or.inr q
      · exact Or.inl q
    have an1 : an (br e1 e2 G (dst nf nw e1 e2 G l) l b) nw = true := (an_iff nw).mpr ⟨w, hw, by
      unfold br
      rw [t, o, Bool.true_and]
      exact decide_eq_true la⟩
    have s1 : dst nf nw e1 e2 G (l + 1) b = l + 1 := by rw [dst_s, if_pos ⟨k1, an1⟩]
    have := dst_keep (n := l + 1) (f := b) (by rw [s1]; omega) (6 - (l + 1))
    rw [show l + 1 + (6 - (l + 1)) = 6 by omega, s1] at this
    omega
end LIW
def ltB (H : Ho) (g : Int32) : Int32 := bs (lt H g) (hoF H)
section QLT
variable {H : Ho} {S : Zt} {P : List Zt} {L : Nat → Zt} {m : dM} {s : Nat} {x1 x2 : Int32}
theorem bt_ltB {g : Int32} {i : Nat} (h7 : hoF H ≤ 7) : bt (ltB H g) i = (decide (i < hoF H) && lt H g i) := bt_bs _ (by omega)
theorem ea_lit {x : Int32} {Q : Int32 → dM → Prop} (hW : CW H m) (hQ : Q (ltB H x) m) : c_X3_litWithout_2 2 x m Q := by
  have f7 := hW.1.1
  have w10 := hW.1.2.1
  have hOk := hW.1.2.2.2.1
  have hE : ∀ w : Nat, w < hoW H → hoA H w < hoF H ∧ hoB H w < hoF H := fun w hw => ⟨(hOk w hw).1, (hOk w hw).2.1⟩
  have e20 := hW.2.1.1.1.1
  have e21 := hW.2.1.1.2.1.1
  have fin : ∀ y : Int32, (∀ i : Nat, bt y i = true → i < hoF H ∧ wyD H x i ≠ 99) → (∀ f : Nat, wyD H x f ≠ 99 → bt y f = true) → j_X3_litWithout_2_88 2 y m Q := fun y h1 h2 => by
    have e : y = ltB H x := bt_ext (fun i hi => by
      rw [bt_ltB f7]
      cases b : bt y i with
      | true =>
        have := h1 i b
        rw [decide_eq_true this.1, Bool.true_and]
        exact (decide_eq_true this.2).symm
      | false =>
        by_cases q : wyD H x i = 99
        · have : lt H x i = false := decide_eq_false (fun w => w q)
          rw [this, Bool.and_false]
        · rw [h2 i q] at b; cases b)
    rw [e]
    exact v_X3_litWithout_2_88 hQ
  have l15 : ∀ (t n : Nat) (x2 x3 : Int32), n + t = 7 → x3.toInt = ((n + 1 : Nat) : Int) → (∀ i : Nat, bt x2 i = true → i < hoF H ∧ wyD H x i ≠ 99) → (∀ f : Nat, wyD H x f ≤ n → bt x2 f = true) → n + 1 ≤ cn (bt x2) (hoF H) → j_X3_litWithout_2_15 2 x x2 x3 m Q := by
    intro t
    have full : ∀ (n : Nat) (x2 : Int32), hoF H ≤ n + 1 → (∀ i : Nat, bt x2 i = true → i < hoF H ∧ wyD H x i ≠ 99) → n + 1 ≤ cn (bt x2) (hoF H) → j_X3_litWithout_2_88 2 x2 m Q := fun n x2 hn hS hC => by
      have c2 := cn_le (p := bt x2) (hoF H)
      have ca := cn_all (p := bt x2) (hoF H) (by omega)
      exact fin x2 hS (fun f hf => ca f (dD_lt hE hf))
    induction t with
    | zero =>
      intro n x2 x3 hn h3 hS hP hC
      exact v_X3_litWithout_2_15 ⟨fun _ => full n x2 (by omega) hS hC, fun q => by exfalso; omega⟩
    | succ t ih =>
      intro n x2 x3 hn h3 hS hP hC
      have f := dAddE (X := x3.toInt) (Y := 1) (x := x3) (y := (1 : Int32)) rfl (by decide) (by omega) (by omega)
      have l29 : ∀ (u w : Nat) (y x5 : Int32), w + u = hoW H → x5.toInt = (w : Int) → (∀ i : Nat, bt y i = true → i < hoF H ∧ wyD H x i ≠ 99) → (∀ i : Nat, bt x2 i = true → bt y i = true) → (∀ w' : Nat, w' < w → bt x w' = false → (bt x2 (hoA H w') = true ∨ bt x2 (hoB H w') = true) → bt y (hoA H w') = true ∧ bt y (hoB H w') = true) → j_X3_litWithout_2_29 2 x y x3 x2 x5 m Q := by
        intro u
        induction u with
        | zero =>
          intro w y x5 hw h5 hy hi hc
          have ew : w = hoW H := by omega
          subst ew
          have step : ∀ (k f' : Nat), k < 6 → wyD H x f' = k + 1 → (∀ g : Nat, wyD H x g = k → bt x2 g = true) → bt y f' = true := fun k f' hk hd hg => by
            have nk := nx_ok (nf := hoF H) (nw := hoW H) (e1 := hoA H) (e2 := hoB H) (G := bt x) (n := k) (f := f') hk hd
            obtain ⟨n1, n2, n3⟩ := nk
            generalize nx (hoF H) (hoW H) (hoA H) (hoB H) (bt x) f' = v at n1 n2 n3
            have ho := hg _ n3
            unfold tch at n2
            rw [Bool.and_eq_true, Bool.or_eq_true, decide_eq_true_eq, decide_eq_true_eq] at n2
            have hGv : bt x v = false := by
              have := n2.1
              cases b : bt x v with
              | true => rw [b] at this; cases this
              | false => rfl
            have hv : bt x2 (hoA H v) = true ∨ bt x2 (hoB H v) = true := by
              unfold ot at ho
              by_cases q : hoA H v = f'
              · rw [if_pos q] at ho; exact Or.inr ho
              · rw [if_neg q] at ho; exact Or.inl ho
            have := hc v n1 hGv hv
            rcases n2.2 with q | q
            · rw [← q]; exact this.1
            · rw [← q]; exact this.2
          refine v_X3_litWithout_2_29 ⟨fun _ => ⟨fun ne => ?_, fun ee => ?_⟩, fun q => by exfalso; omega⟩
          · refine ih (n + 1) y _ (by omega) (by rw [f, h3]; omega) hy (fun f' hf' => ?_) ?_
            · by_cases q : wyD H x f' ≤ n
              · exact hi f' (hP f' q)
              · have b := dD_le (nf := hoF H) (nw := hoW H) (e1 := hoA H) (e2 := hoB H) (G := bt x) (f := f')
                have b : wyD H x f' ≤ 6 ∨ wyD H x f' = 99 := b
                exact step n f' (by omega) (by omega) (fun g hg => hP g (by omega))
            · by_cases ex : ∃ j : Nat, bt x2 j = false ∧ bt y j = true
              · obtain ⟨j, j1, j2⟩ := ex
                have := cn_more (p := bt x2) (q := bt y) hi j1 j2 (hoF H) (hy j j2).1
                omega
              · exfalso
                apply ne
                have : y = x2 := bt_ext (fun i _ => by
                  cases b : bt x2 i with
                  | true => exact hi i b
                  | false =>
                    cases b2 : bt y i with
                    | true => exact absurd ⟨i, b, b2⟩ ex
                    | false => rfl)
                rw [this]
          · have e : y = x2 := Int32.toInt_inj.mp ee
            have all : ∀ (k f' : Nat), k ≤ 6 → wyD H x f' = k → bt y f' = true := by
              intro k
              induction k with
              | zero => intro f' _ hd; rw [e]; exact hP f' (by omega)
              | succ k ihk =>
                intro f' hk hd
                exact step k f' (by omega) hd (fun g hg => by rw [← e]; exact ihk g (by omega) hg)
            refine fin y hy (fun f' hf' => ?_)
            have b := dD_le (nf := hoF H) (nw := hoW H) (e1 := hoA H) (e2 := hoB H) (G := bt x) (f := f')
            have b : wyD H x f' ≤ 6 ∨ wyD H x f' = 99 := b
            exact all _ f' (by omega) rfl
        | succ u ih2 =>
          intro w y x5 hw h5 hy hi hc
          have hww : w < hoW H := by omega
          have hEw := hE w hww
          have on : ∀ z : Int32, (∀ i : Nat, bt z i = true → i < hoF H ∧ wyD H x i ≠ 99) → (∀ i : Nat, bt y i = true → bt z i = true) → (bt x w = false → (bt x2 (hoA H w) = true ∨ bt x2 (hoB H w) = true) → bt z (hoA H w) = true ∧ bt z (hoB H w) = true) → j_X3_litWithout_2_67 2 x z x3 x2 x5 m Q := fun z a b c => v_X3_litWithout_2_67 (ih2 (w + 1) z _ (by omega) (d_inc h5 (by omega)) a (fun i q => b i (hi i q)) (fun w' hw' hg hor => by
            by_cases q : w' = w
            · rw [q] at hg hor ⊢; exact c hg hor
            · have := hc w' (by omega) hg hor
              exact ⟨b _ this.1, b _ this.2⟩))
          have ends := hW.2.1.1.2.2 w hww
          refine v_X3_litWithout_2_29 ⟨fun q => by exfalso; omega, fun _ => v_X3_endsOf_2 ⟨by omega, by omega, ?_⟩⟩
          rw [d_cn h5, b1_of ends.1.1, b1_of ends.1.2]
          have bb : ∀ i : Nat, bt (b1 (hoA H w) ||| b1 (hoB H w)) i = (decide (i = hoA H w) || decide (i = hoB H w)) := fun i => by rw [bt_or, bt_1 (by omega), bt_1 (by omega)]
          refine y_has h5 (by omega) (fun g => ⟨fun _ => on y hy (fun i q => q) (fun q => by rw [q] at g; cases g), fun z => absurd z (by decide)⟩) (fun g => ⟨fun z => absurd rfl z, fun _ => ⟨fun z0 => ?_, fun z0 => ?_⟩⟩)
          · have e0 : (b1 (hoA H w) ||| b1 (hoB H w)) &&& y = 0 := d_ce z0
            have nb : ∀ i : Nat, (i = hoA H w ∨ i = hoB H w) → bt y i = false := fun i q => by
              have b : bt ((b1 (hoA H w) ||| b1 (hoB H w)) &&& y) i = false := by rw [e0, bt_0]
              rw [bt_and, bb] at b
              cases b2 : bt y i with
              | false => rfl
              | true =>
                rw [b2, Bool.and_true] at b
                rcases q with q | q
                · rw [decide_eq_true q, Bool.true_or] at b; cases b
                · rw [decide_eq_true q, Bool.or_true] at b; cases b
            refine on y hy (fun i q => q) (fun _ hor => ?_)
            exfalso
            rcases hor with q | q
            · have := hi _ q; rw [nb _ (Or.inl rfl)] at this; cases this
            · have := hi _ q; rw [nb _ (Or.inr rfl)] at this; cases this
          · have one : bt y (hoA H w) = true ∨ bt y (hoB H w) = true := by
              cases a1 : bt y (hoA H w) with
              | true => exact Or.inl rfl
              | false =>
                cases a2 : bt y (hoB H w) with
                | true => exact Or.inr rfl
                | false =>
                  exfalso
                  apply z0
                  have : (b1 (hoA H w) ||| b1 (hoB H w)) &&& y = 0 := bt_z (fun i _ => by
                    rw [bt_and, bb]
                    by_cases q1 : i = hoA H w
                    · rw [q1, a1, Bool.and_false]
                    · by_cases q2 : i = hoB H w
                      · rw [q2, a2, Bool.and_false]
                      · rw [decide_eq_false q1, decide_eq_false q2]; rfl)
                  rw [this]; rfl
            have both' : wyD H x (hoA H w) ≠ 99 ∧ wyD H x (hoB H w) ≠ 99 := by
              rcases one with q | q
              · have d := (hy _ q).2
                exact ⟨d, dD_cl (nf := hoF H) (nw := hoW H) (e1 := hoA H) (e2 := hoB H) (G := bt x) hE f7 hww g (Or.inl ⟨rfl, rfl⟩) d⟩
              · have d := (hy _ q).2
                exact ⟨dD_cl (nf := hoF H) (nw := hoW H) (e1 := hoA H) (e2 := hoB H) (G := bt x) hE f7 hww g (Or.inr ⟨rfl, rfl⟩) d, d⟩
            refine on _ (fun i q => ?_) (fun i q => by rw [bt_or, q, Bool.true_or]) (fun _ _ => ⟨by rw [bt_or, bb, decide_eq_true rfl, Bool.true_or, Bool.or_true], by rw [bt_or, bb, decide_eq_true (rfl : hoB H w = hoB H w), Bool.or_true, Bool.or_true]⟩)
            rw [bt_or, bb, Bool.or_eq_true, Bool.or_eq_true, decide_eq_true_eq, decide_eq_true_eq] at q
            rcases q with q | q | q
            · exact hy i q
            · rw [q]; exact ⟨hEw.1, both'.1⟩
            · rw [q]; exact ⟨hEw.2, both'.2⟩
      exact v_X3_litWithout_2_15 ⟨fun q => full n x2 (by omega) hS hC, fun _ => l29 (hoW H) 0 x2 _ (by omega) (by decide) hS (fun i q => q) (fun w' hw' => absurd hw' (Nat.not_lt_zero w'))⟩
  refine v_X3_litWithout_2 ⟨fun q => ?_, fun q => ?_⟩
  · have f0 : hoF H = 0 := by omega
    refine v_X3_litWithout_2_15 ⟨fun _ => fin 0 (fun i b => by rw [bt_0] at b; cases b) (fun f' hf' => ?_), fun q2 => ?_⟩
    · have := dD_lt hE hf'
      omega
    · exfalso
      have e1 : (1 : Int32).toInt = 1 := by decide
      omega
  · have b1e : ∀ i : Nat, bt 1 i = decide (i = 0) := fun i => by
      have e : (1 : Int32) = b1 0 := by decide
      rw [e, bt_1 (by omega)]
    have d0 : wyD H x 0 = 0 := dD_00 (by omega)
    refine l15 7 0 _ _ rfl (by decide) (fun i b => ?_) (fun f' hf' => ?_) ?_
    · rw [b1e, decide_eq_true_eq] at b
      rw [b]
      exact ⟨by omega, by omega⟩
    · have := dD_0 (nf := hoF H) (nw := hoW H) (e1 := hoA H) (e2 := hoB H) (G := bt x) (f := f') (by show wyD H x f' = 0; omega)
      rw [this.1, b1e]
      rfl
    · exact cn_pos (p := bt 1) (j := 0) (by rw [b1e]; rfl) (hoF H) (by omega)
def aWo (H : Ho) (S : Zt) (x1 : Int32) : Int32 := if 0 ≤ x1.toInt ∧ x1.toInt < (hoW H : Int) then (b1 (hoF H) - (1 : Int32)) &&& (ltB H (szG S ||| b1 x1.toNatClampNeg) ^^^ (-1 : Int32)) else -1
theorem ea_without {Q : Int32 → dM → Prop} (hK : KC H S P L m) (hQ : ∀ m' : dM, QC H S P L m m' → Q (aWo H S x1) m') : c_X11_without_0 3 x1 m Q := by
  have q0 := QC.rf hK
  have hQ' : ∀ (v : Int32) (m' : dM), aWo H S x1 = v → QC H S P L m m' → Q v m' := fun v m' e q => by rw [← e]; exact hQ m' q
  refine v_X11_without_0 (Wp.deep (y_isWirec hK.1 (fun hu => ⟨fun z => absurd z (by decide), fun _ => v_X3_allFlats_2 (ea_lit hK.1 (hQ' _ m ?_ q0))⟩) (fun hu => ⟨fun _ => hQ' _ m (by unfold aWo; rw [if_neg hu]) q0, fun z => absurd rfl z⟩)) (Nat.le_of_ble_eq_true rfl))
  have hx := toNat_of hu.1
  have g3 : m.1 47 3 = szG S := hK.2.1.1.2.2.2.1
  unfold aWo
  rw [if_pos hu, g3, b1_of hx, b1_of hK.1.2.1.1.1.1]
theorem eb_without {Q : Int32 → dM → Prop} (hK : KR H S P L s m) (hQ : ∀ m' : dM, RsF m m' → Q (aWo H S x1) m') : c_X12_without_70 8 x1 m Q := by
  have hQ' : ∀ (v : Int32) (m' : dM), aWo H S x1 = v → RsF m m' → Q v m' := fun v m' e q => by rw [← e]; exact hQ m' q
  refine v_X12_without_70 (Wp.deep (y_isWire hK.1.2.1 (fun hu => ⟨fun _ => y_loses hK (RsF.rf m) (fun M f W1 L1 => Wp.deep (y_darkBits W1 L1 (hQ' _ M ?_ f)) (Nat.le_of_ble_eq_true rfl)), fun z => absurd z (by decide)⟩) (fun hu => ⟨fun z => absurd rfl z, fun _ => hQ' _ m (by unfold aWo; rw [if_neg hu]) (RsF.rf m)⟩)) (Nat.le_of_ble_eq_true rfl))
  have hx := toNat_of hu.1
  unfold aWo
  rw [if_pos hu, b1_of hx]
  rfl
def ndp (H : Ho) (S : Zt) (w : Nat) : Bool := !bt (szG S) w && decide (ltB H (szG S ||| b1 w) ≠ ltB H (szG S))
theorem ea_needed {Q : Int32 → dM → Prop} (hK : KC H S P L m) (hQ : ∀ m' : dM, QC H S P L m m' → Q (bs (ndp H S) (hoW H)) m') : c_X11_needed_0 3 m Q := by
  have q0 := QC.rf hK
  have w10 := hK.1.1.2.1
  have e21 := hK.1.2.1.1.2.1.1
  have g3 : m.1 47 3 = szG S := hK.2.1.1.2.2.2.1
  have loop : ∀ (t w : Nat) (x3 : Int32), w + t = hoW H → x3.toInt = (w : Int) → j_X11_needed_0_19 3 (ltB H (szG S)) (bs (ndp H S) w) x3 m Q := by
    intro t
    induction t with
    | zero =>
      intro w x3 hw h3
      have ew : w = hoW H := by omega
      rw [ew]
      exact v_X11_needed_0_19 ⟨fun _ => hQ m q0, fun q => by exfalso; omega⟩
    | succ t ih =>
      intro w x3 hw h3
      have on : ∀ z : Int32, z = bs (ndp H S) (w + 1) → j_X11_needed_0_72 3 (ltB H (szG S)) z x3 m Q := fun z e => by
        rw [e]
        exact v_X11_needed_0_72 (ih (w + 1) _ (by omega) (d_inc h3 (by omega)))
      have eS : bs (ndp H S) (w + 1) = cond (ndp H S w) (bs (ndp H S) w ||| b1 w) (bs (ndp H S) w) := rfl
      refine v_X11_needed_0_19 ⟨fun q => by exfalso; omega, fun _ => ?_⟩
      rw [g3]
      refine Wp.deep (y_has h3 (by omega) (fun b => ⟨fun _ => on _ ?_, fun z => absurd z (by decide)⟩) (fun b => ⟨fun z => absurd rfl z, fun _ => ?_⟩)) (Nat.le_of_ble_eq_true rfl)
      · rw [eS]; unfold ndp; rw [b]; rfl
      rw [b1_of h3, g3]
      refine ea_lit hK.1 ⟨fun ee => on _ ?_, fun ne => on _ ?_⟩
      · rw [eS]; unfold ndp; rw [b, decide_eq_false (fun q => q (Int32.toInt_inj.mp ee))]; rfl
      · rw [eS]; unfold ndp; rw [b, decide_eq_true (show ltB H (szG S ||| b1 w) ≠ ltB H (szG S) from fun q => ne (by rw [q]))]; rfl
  refine v_X11_needed_0 ?_
  rw [g3]
  exact ea_lit hK.1 (loop (hoW H) 0 _ (by omega) (by decide))
theorem dark_inj {a b : Int32} (f7 : hoF H ≤ 7) : (b1 (hoF H) - (1 : Int32)) &&& (ltB H a ^^^ (-1 : Int32)) = (b1 (hoF H) - (1 : Int32)) &&& (ltB H b ^^^ (-1 : Int32)) ↔ ltB H a = ltB H b := by
  refine ⟨fun e => bt_ext (fun i hi => ?_), fun e => by rw [e]⟩
  have q : bt ((b1 (hoF H) - (1 : Int32)) &&& (ltB H a ^^^ (-1 : Int32))) i = bt ((b1 (hoF H) - (1 : Int32)) &&& (ltB H b ^^^ (-1 : Int32))) i := by rw [e]
  rw [bt_and, bt_and, bt_xor, bt_xor, bt_m1 hi, bt_all (by omega)] at q
  by_cases lf : i < hoF H
  · rw [decide_eq_true lf, Bool.true_and, Bool.true_and, Bool.xor_true, Bool.xor_true] at q
    cases u : bt (ltB H a) i <;> cases v : bt (ltB H b) i <;> rw [u, v] at q <;> first | rfl | cases q
  · rw [bt_ltB f7, bt_ltB f7, decide_eq_false lf, Bool.false_and, Bool.false_and]
theorem eb_needed {Q : Int32 → dM → Prop} (hK : KR H S P L s m) (hQ : ∀ m' : dM, RsF m m' → Q (bs (ndp H S) (hoW H)) m') : c_X12_needed_70 8 m Q := by
  have w10 := hK.1.1.2.1
  have f7 := hK.1.1.1
  have loop : ∀ (t w : Nat) (x3 : Int32) (M : dM), w + t = hoW H → x3.toInt = (w : Int) → RsF m M → j_X12_needed_70_13 8 ((b1 (hoF H) - (1 : Int32)) &&& (ltB H (szG S) ^^^ (-1 : Int32))) (bs (ndp H S) w) x3 M Q := by
    intro t
    induction t with
    | zero =>
      intro w x3 M hw h3 fM
      have hKM := hK.rs fM
      have a := hKM.1.2.1.1
      have ew : w = hoW H := by omega
      refine v_X12_needed_70_13 ?_
      rw [d_cn a.1, hKM.1.2.1.2.2.1.1, a.1, ew]
      exact ⟨by omega, fun _ => hQ M fM, fun q => by exfalso; omega⟩
    | succ t ih =>
      intro w x3 M hw h3 fM
      have hKM := hK.rs fM
      have a := hKM.1.2.1.1
      have e10 := d_add (k := x3) (K := w) (x := (10 : Int32)) (i := 10) (by decide) h3 (by omega)
      have on : ∀ (z : Int32) (M1 : dM), z = bs (ndp H S) (w + 1) → RsF m M1 → j_X12_needed_70_63 8 ((b1 (hoF H) - (1 : Int32)) &&& (ltB H (szG S) ^^^ (-1 : Int32))) z x3 M1 Q := fun z M1 e f1 => by
        rw [e]
        exact v_X12_needed_70_63 (ih (w + 1) _ M1 (by omega) (d_inc h3 (by omega)) f1)
      have eS : bs (ndp H S) (w + 1) = cond (ndp H S w) (bs (ndp H S) w ||| b1 w) (bs (ndp H S) w) := rfl
      have zg := (hKM.2.1.2.1 w (by omega)).2.1
      refine v_X12_needed_70_13 ?_
      rw [d_cn a.1, hKM.1.2.1.2.2.1.1, a.1, d_cn e10, zg, b1_of h3]
      refine ⟨by omega, fun q => by exfalso; omega, fun _ => ⟨by omega, fun q => ?_, fun q => on _ M ?_ fM⟩⟩
      · have b : bt (szG S) w = false := by
          cases b : bt (szG S) w with
          | false => rfl
          | true => rw [b] at q; exact absurd rfl q
        refine y_loses hK fM (fun M1 f1 W1 L1 => Wp.deep (y_darkBits W1 L1 ⟨fun ee => on _ M1 ?_ f1, fun ne => on _ M1 ?_ f1⟩) (Nat.le_of_ble_eq_true rfl))
        · have e := (dark_inj (H := H) (a := szG S ||| b1 w) (b := szG S) f7).mp (Int32.toInt_inj.mp ee)
          rw [eS]; unfold ndp; rw [b, decide_eq_false (fun q => q e)]; rfl
        · rw [eS]; unfold ndp; rw [b, decide_eq_true (show ltB H (szG S ||| b1 w) ≠ ltB H (szG S) from fun q => ne (congrArg Int32.toInt ((dark_inj (H := H) (a := szG S ||| b1 w) (b := szG S) f7).mpr q)))]; rfl
      · have b : bt (szG S) w = true := by
          cases b : bt (szG S) w with
          | true => rfl
          | false => rw [b] at q; exact absurd q (by decide)
        rw [eS]; unfold ndp; rw [b]; rfl
  exact v_X12_needed_70 (Wp.deep (y_copies hK.1 hK.2.1 (fun M f cy _ _ => Wp.deep (y_darkBits cy.1 cy.2.2 (loop (hoW H) 0 _ M (by omega) (by decide) f)) (Nat.le_of_ble_eq_true rfl))) (Nat.le_of_ble_eq_true rfl))
end QLT
end
section
/-! QUESTIONS, exactly: bits counted; hottest, clash -/
def pcn (x : Int32) : Int32 := ((((((((x - ((x.toUInt32 >>> ((1 : Int32).toUInt32 &&& Int32.toUInt32 31)).toInt32 &&& (1431655765 : Int32))) &&& (858993459 : Int32)) + (((x - ((x.toUInt32 >>> ((1 : Int32).toUInt32 &&& Int32.toUInt32 31)).toInt32 &&& (1431655765 : Int32))).toUInt32 >>> ((2 : Int32).toUInt32 &&& Int32.toUInt32 31)).toInt32 &&& (858993459 : Int32))) + ((((x - ((x.toUInt32 >>> ((1 : Int32).toUInt32 &&& Int32.toUInt32 31)).toInt32 &&& (1431655765 : Int32))) &&& (858993459 : Int32)) + (((x - ((x.toUInt32 >>> ((1 : Int32).toUInt32 &&& Int32.toUInt32 31)).toInt32 &&& (1431655765 : Int32))).toUInt32 >>> ((2 : Int32).toUInt32 &&& Int32.toUInt32 31)).toInt32 &&& (858993459 : Int32))).toUInt32 >>> ((4 : Int32).toUInt32 &&& Int32.toUInt32 31)).toInt32) &&& (252645135 : Int32)) + ((((((x - ((x.toUInt32 >>> ((1 : Int32).toUInt32 &&& Int32.toUInt32 31)).toInt32 &&& (1431655765 : Int32))) &&& (858993459 : Int32)) + (((x - ((x.toUInt32 >>> ((1 : Int32).toUInt32 &&& Int32.toUInt32 31)).toInt32 &&& (1431655765 : Int32))).toUInt32 >>> ((2 : Int32).toUInt32 &&& Int32.toUInt32 31)).toInt32 &&& (858993459 : Int32))) + ((((x - ((x.toUInt32 >>> ((1 : Int32).toUInt32 &&& Int32.toUInt32 31)).toInt32 &&& (1431655765 : Int32))) &&& (858993459 : Int32)) + (((x - ((x.toUInt32 >>> ((1 : Int32).toUInt32 &&& Int32.toUInt32 31)).toInt32 &&& (1431655765 : Int32))).toUInt32 >>> ((2 : Int32).toUInt32 &&& Int32.toUInt32 31)).toInt32 &&& (858993459 : Int32))).toUInt32 >>> ((4 : Int32).toUInt32 &&& Int32.toUInt32 31)).toInt32) &&& (252645135 : Int32)).toUInt32 >>> ((8 : Int32).toUInt32 &&& Int32.toUInt32 31)).toInt32) + (((((((x - ((x.toUInt32 >>> ((1 : Int32).toUInt32 &&& Int32.toUInt32 31)).toInt32 &&& (1431655765 : Int32))) &&& (858993459 : Int32)) + (((x - ((x.toUInt32 >>> ((1 : Int32).toUInt32 &&& Int32.toUInt32 31)).toInt32 &&& (1431655765 : Int32))).toUInt32 >>> ((2 : Int32).toUInt32 &&& Int32.toUInt32 31)).toInt32 &&& (858993459 : Int32))) + ((((x - ((x.toUInt32 >>> ((1 : Int32).toUInt32 &&& Int32.toUInt32 31)).toInt32 &&& (1431655765 : Int32))) &&& (858993459 : Int32)) + (((x - ((x.toUInt32 >>> ((1 : Int32).toUInt32 &&& Int32.toUInt32 31)).toInt32 &&& (1431655765 : Int32))).toUInt32 >>> ((2 : Int32).toUInt32 &&& Int32.toUInt32 31)).toInt32 &&& (858993459 : Int32))).toUInt32 >>> ((4 : Int32).toUInt32 &&& Int32.toUInt32 31)).toInt32) &&& (252645135 : Int32)) + ((((((x - ((x.toUInt32 >>> ((1 : Int32).toUInt32 &&& Int32.toUInt32 31)).toInt32 &&& (1431655765 : Int32))) &&& (858993459 : Int32)) + (((x - ((x.toUInt32 >>> ((1 : Int32).toUInt32 &&& Int32.toUInt32 31)).toInt32 &&& (1431655765 : Int32))).toUInt32 >>> ((2 : Int32).toUInt32 &&& Int32.toUInt32 31)).toInt32 &&& (858993459 : Int32))) + ((((x - ((x.toUInt32 >>> ((1 : Int32).toUInt32 &&& Int32.toUInt32 31)).toInt32 &&& (1431655765 : Int32))) &&& (858993459 : Int32)) + (((x - ((x.toUInt32 >>> ((1 : Int32).toUInt32 &&& Int32.toUInt32 31)).toInt32 &&& (1431655765 : Int32))).toUInt32 >>> ((2 : Int32).toUInt32 &&& Int32.toUInt32 31)).toInt32 &&& (858993459 : Int32))).toUInt32 >>> ((4 : Int32).toUInt32 &&& Int32.toUInt32 31)).toInt32) &&& (252645135 : Int32)).toUInt32 >>> ((8 : Int32).toUInt32 &&& Int32.toUInt32 31)).toInt32).toUInt32 >>> ((16 : Int32).toUInt32 &&& Int32.toUInt32 31)).toInt32) &&& (63 : Int32))
/-- how many of ten bits -/
def pc10 (x : Int32) : Nat → Int32
  | 0 => 0
  | n + 1 => pc10 x n + cond (bt x n) 1 0
theorem pcn_all : (List.range 1024).all (fun n => decide (pcn (Int32.ofNat n) = pc10 (Int32.ofNat n) 10)) = true := by decide +kernel
theorem low10 {x : Int32} (h : ∀ i : Nat, 10 ≤ i → bt x i = false) : ∃ n : Nat, n < 1024 ∧ x = Int32.ofNat n := by
  refine ⟨x.toBitVec.toNat, ?_, ?_⟩
  · exact Nat.lt_pow_two_of_testBit (n := 10) _ (fun i hi => h i hi)
  · apply Int32.toBitVec_inj.mp
    show x.toBitVec = BitVec.ofNat 32 x.toBitVec.toNat
    rw [BitVec.ofNat_toNat, BitVec.setWidth_eq]
theorem pcn_ok {x : Int32} (h : ∀ i : Nat, 10 ≤ i → bt x i = false) : pcn x = pc10 x 10 := by
  obtain ⟨n, hn, e⟩ := low10 h
  rw [e]
  exact of_decide_eq_true (List.all_eq_true.mp pcn_all n (List.mem_range.mpr hn))
section QBC
variable {H : Ho} {S : Zt} {P : List Zt} {L : Nat → Zt} {m : dM} {s : Nat} {x1 x2 : Int32}
theorem ea_bits {x : Int32} {Q : Int32 → dM → Prop} {M : dM} (h : ∀ i : Nat, 10 ≤ i → bt x i = false) (hQ : Q (pc10 x 10) M) : c_J6_bitCount 1 x M Q := by
  rw [← pcn_ok h] at hQ
  exact v_J6_bitCount hQ
theorem eb_bits {x : Int32} {Q : Int32 → dM → Prop} {M : dM} (hQ : Q (pc10 x 10) M) : c_X12_bits 1 x M Q := by
  have loop : ∀ (t i : Nat) (x2 : Int32), i + t = 10 → x2.toInt = (i : Int) → j_X12_bits_4 1 x (pc10 x i) x2 M Q := by
    intro t
    induction t with
    | zero =>
      intro i x2 hi h2
      have ei : i = 10 := by omega
      subst ei
      exact v_X12_bits_4 ⟨fun _ => hQ, fun q => by exfalso; omega⟩
    | succ t ih =>
      intro i x2 hi h2
      have e : ((x >>> (x2 &&& 31)) &&& (1 : Int32)) = cond (bt x i) 1 0 := by
        have b := bt_s (x := x) h2 (by omega)
        apply d_ce
        rw [b]
        cases bt x i <;> decide
      refine v_X12_bits_4 ⟨fun q => by exfalso; omega, fun _ => ?_⟩
      rw [e]
      exact ih (i + 1) _ (by omega) (d_inc h2 (by omega))
  exact v_X12_bits (loop 10 0 _ rfl (by decide))
/-- the hottest wire so far -/
def hotv (H : Ho) (S : Zt) (w : Nat) : Int32 := lod H (szG S) (onA H S (hod (szH S))) w - szR S w
def hot (H : Ho) (S : Zt) : Nat → Option (Nat × Int32)
  | 0 => none
  | w + 1 => cond (bt (szG S) w) (hot H S w) (match hot H S w with
    | none => some (w, hotv H S w)
    | some (b, v) => if v.toInt < (hotv H S w).toInt then some (w, hotv H S w) else some (b, v))
def aHot (H : Ho) (S : Zt) (x1 : Int32) : Int32 := if 0 ≤ x1.toInt ∧ x1.toInt ≤ 1 then (match hot H S (hoW H) with
    | none => -2000
    | some (b, v) => if x1.toInt = 0 then Int32.ofInt (b : Int) else v) else -1000
def Rhc (o : Option (Nat × Int32)) (x2 x3 : Int32) : Prop := match o with
  | none => x2.toInt = -1
  | some (b, v) => x2.toInt = (b : Int) ∧ x3 = v
def Rhr (o : Option (Nat × Int32)) (x3 x4 : Int32) : Prop := match o with
  | none => x3 = -2000 ∧ x4 = -2000
  | some (b, v) => x3.toInt = (b : Int) ∧ x4 = v
theorem ea_hottest {Q : Int32 → dM → Prop} (hK : KC H S P L m) (hO : zOk H S) (hQ : ∀ m' : dM, QC H S P L m m' → Q (aHot H S x1) m') : c_X11_hottest_0 5 x1 m Q := by
  have q0 := QC.rf hK
  have w10 := hK.1.1.2.1
  have hQ' : ∀ (v : Int32) (m' : dM), aHot H S x1 = v → QC H S P L m m' → Q v m' := fun v m' e q => by rw [← e]; exact hQ m' q
  have no : ¬ (0 ≤ x1.toInt ∧ x1.toInt ≤ 1) → j_X11_hottest_0_9 5 m Q := fun q => v_X11_hottest_0_9 (hQ' _ m (by unfold aHot; rw [if_neg q]) q0)
  refine v_X11_hottest_0 ⟨fun q => no (by omega), fun h0 => ⟨fun h1 => k_usesNow q0 hO (fun M q1 l1 => Wp.deep (y_putOn47 q1.2.1 q1.2.2.1 (hO.g1 hK.1.1) (fun M2 f2 w2 l2 d2 => ?_)) (Nat.le_of_ble_eq_true rfl)), fun q => no (by omega)⟩⟩
  have q2 := q1.sc f2 w2
  have e21 := w2.2.1.1.2.1.1
  have g3 : M2.1 47 3 = szG S := q2.2.2.1.1.2.2.2.1
  have eA : aHot H S x1 = (match hot H S (hoW H) with
    | none => -2000
    | some (b, v) => if x1.toInt = 0 then Int32.ofInt (b : Int) else v) := by unfold aHot; rw [if_pos ⟨h0, h1⟩]
  have loop : ∀ (t w : Nat) (x2 x3 x4 : Int32), w + t = hoW H → x4.toInt = (w : Int) → Rhc (hot H S w) x2 x3 → j_X11_hottest_0_42 5 x1 x2 x3 x4 M2 Q := by
    intro t
    induction t with
    | zero =>
      intro w x2 x3 x4 hw h4 hR
      have ew : w = hoW H := by omega
      subst ew
      refine v_X11_hottest_0_42 ⟨fun _ => ⟨fun ne => ⟨fun nz => hQ' _ M2 ?_ q2, fun z => hQ' _ M2 ?_ q2⟩, fun e => hQ' _ M2 ?_ q2⟩, fun q => by exfalso; omega⟩
      all_goals rw [eA]
      all_goals
        cases hh : hot H S (hoW H) with
        | none =>
          rewrite [hh] at hR
          have hR : x2.toInt = -1 := hR
          first | rfl | exact absurd hR ne
        | some p =>
          obtain ⟨b, v⟩ := p
          rewrite [hh] at hR
          have hR : x2.toInt = (b : Int) ∧ x3 = v := hR
          show (if x1.toInt = 0 then Int32.ofInt (b : Int) else v) = _
          first
            | (rw [if_neg nz]; exact hR.2.symm)
            | (rw [if_pos z]; exact ofI hR.1)
            | (exfalso; omega)
    | succ t ih =>
      intro w x2 x3 x4 hw h4 hR
      have on : ∀ y z : Int32, Rhc (hot H S (w + 1)) y z → j_X11_hottest_0_109 5 x1 y z x4 M2 Q := fun y z r => v_X11_hottest_0_109 (ih (w + 1) _ _ _ (by omega) (d_inc h4 (by omega)) r)
      have ev : M2.1 56 w - M2.1 48 w = hotv H S w := by rw [d2 w (by omega), (show M2.1 48 w = szR S w from q2.2.2.1.2.1 w (by omega))]; rfl
      have eS : hot H S (w + 1) = cond (bt (szG S) w) (hot H S w) (match hot H S w with
        | none => some (w, hotv H S w)
        | some (b, v) => if v.toInt < (hotv H S w).toInt then some (w, hotv H S w) else some (b, v)) := rfl
      refine v_X11_hottest_0_42 ⟨fun q => by exfalso; omega, fun _ => ⟨by omega, by omega, ?_⟩⟩
      rw [g3, d_cn h4, ev]
      refine Wp.deep (y_has h4 (by omega) (fun b => ⟨fun _ => on _ _ (by rw [eS, b]; exact hR), fun z => absurd z (by decide)⟩) (fun b => ⟨fun z => absurd rfl z, fun _ => ⟨fun e => v_X11_hottest_0_103 (on _ _ ?_), fun e => ⟨fun le => on _ _ ?_, fun lt' => v_X11_hottest_0_103 (on _ _ ?_)⟩⟩⟩)) (Nat.le_of_ble_eq_true rfl)
      all_goals rw [eS, b]
      all_goals
        cases hh : hot H S w with
        | none =>
          rewrite [hh] at hR
          have hR : x2.toInt = -1 := hR
          first
            | exact ⟨h4, rfl⟩
            | exact absurd hR e
        | some p =>
          obtain ⟨b', v⟩ := p
          rewrite [hh] at hR
          have hR : x2.toInt = (b' : Int) ∧ x3 = v := hR
          have e3 := hR.2
          subst e3
          show Rhc (if x3.toInt < (hotv H S w).toInt then some (w, hotv H S w) else some (b', x3)) _ _
          first
            | (exfalso; omega)
            | (rw [if_neg (by omega)]; exact ⟨hR.1, rfl⟩)
            | (rw [if_pos lt']; exact ⟨h4, rfl⟩)
  exact loop (hoW H) 0 _ _ _ (by omega) (by decide) (by show (-1 : Int32).toInt = -1; decide)
theorem eb_hottest {Q : Int32 → dM → Prop} (hK : KR H S P L s m) (hQ : ∀ m' : dM, RsF m m' → Q (aHot H S x1) m') : c_X12_hottest_70 7 x1 m Q := by
  have w10 := hK.1.1.2.1
  have hQ' : ∀ (v : Int32) (m' : dM), aHot H S x1 = v → RsF m m' → Q v m' := fun v m' e q => by rw [← e]; exact hQ m' q
  have i0 : (0 : Int32).toInt = 0 := by decide
  have i1 : (1 : Int32).toInt = 1 := by decide
  refine v_X12_hottest_70 (Wp.deep (y_in (fun h => ⟨fun _ => y_copies hK.1 hK.2.1 (fun M f cy _ _ => Wp.deep (y_onNow cy ?_) (Nat.le_of_ble_eq_true rfl)), fun z => absurd z (by decide)⟩) (fun h => ⟨fun z => absurd rfl z, fun _ => hQ' _ m (by unfold aHot; rw [if_neg (by omega)]) (RsF.rf m)⟩)) (Nat.le_of_ble_eq_true rfl))
  have a := cy.1.2.1.1
  have eA : aHot H S x1 = (match hot H S (hoW H) with
    | none => -2000
    | some (b, v) => if x1.toInt = 0 then Int32.ofInt (b : Int) else v) := by unfold aHot; rw [if_pos (by omega)]
  have m2 : (-2000 : Int32).toInt = -2000 := by decide
  have loop : ∀ (t w : Nat) (x3 x4 x5 : Int32), w + t = hoW H → x5.toInt = (w : Int) → Rhr (hot H S w) x3 x4 → j_X12_hottest_70_34 7 x1 (onA H S (hod (szH S))) x3 x4 x5 M Q := by
    intro t
    induction t with
    | zero =>
      intro w x3 x4 x5 hw h5 hR
      have ew : w = hoW H := by omega
      subst ew
      refine v_X12_hottest_70_34 ?_
      rw [d_cn a.1, cy.1.2.1.2.2.1.1, a.1]
      refine ⟨by omega, fun _ => ⟨fun nz => hQ' _ M ?_ f, fun z => hQ' _ M ?_ f⟩, fun q => by exfalso; omega⟩
      all_goals rw [eA]
      all_goals
        cases hh : hot H S (hoW H) with
        | none =>
          rewrite [hh] at hR
          have hR : x3 = -2000 ∧ x4 = -2000 := hR
          first | exact hR.2.symm | exact hR.1.symm
        | some p =>
          obtain ⟨b, v⟩ := p
          rewrite [hh] at hR
          have hR : x3.toInt = (b : Int) ∧ x4 = v := hR
          show (if x1.toInt = 0 then Int32.ofInt (b : Int) else v) = _
          first
            | (rw [if_neg nz]; exact hR.2.symm)
            | (rw [if_pos z]; exact ofI hR.1)
    | succ t ih =>
      intro w x3 x4 x5 hw h5 hR
      have on : ∀ y z : Int32, Rhr (hot H S (w + 1)) y z → j_X12_hottest_70_95 7 x1 (onA H S (hod (szH S))) y z x5 M Q := fun y z r => v_X12_hottest_70_95 (ih (w + 1) _ _ _ (by omega) (d_inc h5 (by omega)) r)
      have eS : hot H S (w + 1) = cond (bt (szG S) w) (hot H S w) (match hot H S w with
        | none => some (w, hotv H S w)
        | some (b, v) => if v.toInt < (hotv H S w).toInt then some (w, hotv H S w) else some (b, v)) := rfl
      have ev : lod H (szG S) (onA H S (hod (szH S))) w - M.1 108 w = hotv H S w := by rw [(cy.2.1.2.1 w (by omega)).1]; rfl
      refine v_X12_hottest_70_34 ?_
      rw [d_cn a.1, cy.1.2.1.2.2.1.1, a.1, d_cn h5]
      refine ⟨by omega, fun q => by exfalso; omega, fun _ => Wp.deep (y_loadBy cy.1 cy.2.2 h5 (by omega) ⟨by omega, ?_⟩) (Nat.le_of_ble_eq_true rfl)⟩
      rw [ev]
      refine Wp.deep (y_isWhole cy.1.2.1 (cy.2.1.rg (r := 0)) h5 (by omega) (fun b => ⟨fun z => absurd z (by decide), fun _ => ⟨fun n0 => v_X12_hottest_70_88 (on _ _ ?_), fun n0 => ⟨fun lt' => v_X12_hottest_70_88 (on _ _ ?_), fun le => on _ _ ?_⟩⟩⟩) (fun b => ⟨fun _ => on _ _ (by rw [eS, b]; exact hR), fun z => absurd rfl z⟩)) (Nat.le_of_ble_eq_true rfl)
      all_goals rw [eS, b]
      all_goals
        cases hh : hot H S w with
        | none =>
          rewrite [hh] at hR
          have hR : x3 = -2000 ∧ x4 = -2000 := hR
          first
            | exact ⟨h5, rfl⟩
            | (rw [hR.1] at n0; exfalso; omega)
        | some p =>
          obtain ⟨b', v⟩ := p
          rewrite [hh] at hR
          have hR : x3.toInt = (b' : Int) ∧ x4 = v := hR
          have e3 := hR.2
          subst e3
          show Rhr (if x4.toInt < (hotv H S w).toInt then some (w, hotv H S w) else some (b', x4)) _ _
          first
            | (exfalso; omega)
            | (rw [if_pos lt']; exact ⟨h5, rfl⟩)
            | (rw [if_neg (by omega)]; exact ⟨hR.1, rfl⟩)
  exact loop (hoW H) 0 _ _ _ (by omega) (by decide) ⟨rfl, rfl⟩
end QBC
end
section
/-! QUESTIONS, exactly: clash, then, litIn -/
def clB (H : Ho) (S : Zt) (u o : Nat) : Int32 := gng H S (b1 u ||| b1 o) (hod (szH S)) 0 &&& ((gng H S (b1 u) (hod (szH S)) 0 ||| gng H S (b1 o) (hod (szH S)) 0) ^^^ (-1 : Int32))
def aCls (H : Ho) (S : Zt) (x1 x2 : Int32) : Int32 := if (0 ≤ x1.toInt ∧ x1.toInt < (hoU H : Int)) ∧ (0 ≤ x2.toInt ∧ x2.toInt < (hoU H : Int)) ∧ x1.toInt ≠ x2.toInt then cond (lt H (szG S) (hoH H x1.toNatClampNeg) && lt H (szG S) (hoH H x2.toNatClampNeg)) (pc10 (clB H S x1.toNatClampNeg x2.toNatClampNeg) 10) 0 else -1
theorem and_nots {a b c : Int32} : a &&& ((b ||| c) ^^^ (-1 : Int32)) = (a &&& (b ^^^ (-1 : Int32))) &&& (c ^^^ (-1 : Int32)) := bt_ext (fun i hi => by
  simp only [bt_and, bt_xor, bt_or, bt_m1 hi]
  cases bt a i <;> cases bt b i <;> cases bt c i <;> rfl)
theorem pc10_cut {x : Int32} {n : Nat} (h : ∀ i : Nat, n ≤ i → bt x i = false) : ∀ k : Nat, pc10 x (n + k) = pc10 x n
  | 0 => rfl
  | k + 1 => by
    have e : pc10 x (n + (k + 1)) = pc10 x (n + k) + cond (bt x (n + k)) 1 0 := rfl
    rw [e, h (n + k) (by omega), cond_false, Int32.add_zero]
    exact pc10_cut h k
section QCL
variable {H : Ho} {S : Zt} {P : List Zt} {L : Nat → Zt} {m : dM} {s : Nat} {x1 x2 : Int32}
theorem gng_hi {on h more : Int32} {i : Nat} (hw : hoW H ≤ 10) (hi : 10 ≤ i) : bt (gng H S on h more) i = false := by
  unfold gng
  rw [bt_bs _ (by omega), decide_eq_false (by omega), Bool.false_and]
theorem ea_clash {Q : Int32 → dM → Prop} (hK : KC H S P L m) (hO : zOk H S) (hQ : ∀ m' : dM, QC H S P L m m' → Q (aCls H S x1 x2) m') : c_X11_clash_0 7 x1 x2 m Q := by
  have q0 := QC.rf hK
  have f7 := hK.1.1.1
  have w10 := hK.1.1.2.1
  have u8 := hK.1.1.2.2.1
  have hQ' : ∀ (v : Int32) (m' : dM), aCls H S x1 x2 = v → QC H S P L m m' → Q v m' := fun v m' e q => by rw [← e]; exact hQ m' q
  have no : ¬ ((0 ≤ x1.toInt ∧ x1.toInt < (hoU H : Int)) ∧ (0 ≤ x2.toInt ∧ x2.toInt < (hoU H : Int)) ∧ x1.toInt ≠ x2.toInt) → j_X11_clash_0_37 7 m Q := fun q => v_X11_clash_0_37 (hQ' _ m (by unfold aCls; rw [if_neg q]) q0)
  refine v_X11_clash_0 (Wp.deep (y_isUsec hK.1 (fun hu => ⟨fun z => absurd z (by decide), fun _ => Wp.deep (y_isUsec hK.1 (fun hv => ⟨fun z => absurd z (by decide), fun _ => ⟨fun e => no (fun w => w.2.2 e), fun ne => ?_⟩⟩) (fun hv => ⟨fun _ => no (fun w => hv w.2.1), fun z => absurd rfl z⟩)) (Nat.le_of_ble_eq_true rfl)⟩) (fun hu => ⟨fun _ => no (fun w => hu w.1), fun z => absurd rfl z⟩)) (Nat.le_of_ble_eq_true rfl))
  have hx := toNat_of hu.1
  have hy := toNat_of hv.1
  refine v_X1_clashOf_61_47 (Wp.deep (k_ways q0 hO (fun M q1 l1 => ⟨by omega, ?_⟩)) (Nat.le_of_ble_eq_true rfl))
  have hh1 := (q1.2.1.2.1.2.2.2.2.1 x1.toNatClampNeg (by omega)).1
  have hh2 := (q1.2.1.2.1.2.2.2.2.1 x2.toNatClampNeg (by omega)).1
  have o1 := (hK.1.1.2.2.2.2.1 x1.toNatClampNeg (by omega)).1
  have o2 := (hK.1.1.2.2.2.2.1 x2.toNatClampNeg (by omega)).1
  have lb1 := lt_bits l1 o1 (by omega)
  have lb2 := lt_bits l1 o2 (by omega)
  have eA : aCls H S x1 x2 = cond (lt H (szG S) (hoH H x1.toNatClampNeg) && lt H (szG S) (hoH H x2.toNatClampNeg)) (pc10 (clB H S x1.toNatClampNeg x2.toNatClampNeg) 10) 0 := by unfold aCls; rw [if_pos ⟨hu, hv, ne⟩]
  have no2 : (lt H (szG S) (hoH H x1.toNatClampNeg) && lt H (szG S) (hoH H x2.toNatClampNeg)) = false → j_X1_clashOf_61_47_47 6 M Q := fun e => v_X1_clashOf_61_47_47 (hQ' _ M (by rw [eA, e]; rfl) q1)
  refine Wp.deep (y_has hh1 (by omega) (fun g1 => ⟨fun z => absurd z (by decide), fun _ => ⟨by omega, Wp.deep (y_has hh2 (by omega) (fun g2 => ⟨fun _ => ?_, fun z => absurd z (by decide)⟩) (fun g2 => ⟨fun z => absurd rfl z, fun _ => no2 (by rw [← lb2, g2, Bool.and_false])⟩)) (Nat.le_of_ble_eq_true rfl)⟩⟩) (fun g1 => ⟨fun _ => no2 (by rw [← lb1, g1, Bool.false_and]), fun z => absurd rfl z⟩)) (Nat.le_of_ble_eq_true rfl)
  rw [b1_of hx, b1_of hy]
  refine k_goingWith q1 hO (fun M2 q2 => k_goingWith q2 hO (fun M3 q3 => k_goingWith q3 hO (fun M4 q4 => Wp.deep (ea_bits (fun i hi => ?_) (hQ' _ M4 ?_ q4)) (Nat.le_of_ble_eq_true rfl))))
  · rw [bt_and, gng_hi w10 hi, Bool.false_and]
  · rw [eA, ← lb1, ← lb2, g1, g2]
    rfl
theorem eb_clash {Q : Int32 → dM → Prop} (hK : KR H S P L s m) (hQ : ∀ m' : dM, RsF m m' → Q (aCls H S x1 x2) m') : c_X12_clash_70 7 x1 x2 m Q := by
  obtain ⟨o1, o2, o3, o4, o5, o6⟩ := hK.1.1
  have hQ' : ∀ (v : Int32) (m' : dM), aCls H S x1 x2 = v → RsF m m' → Q v m' := fun v m' e q => by rw [← e]; exact hQ m' q
  have no : ¬ ((0 ≤ x1.toInt ∧ x1.toInt < (hoU H : Int)) ∧ (0 ≤ x2.toInt ∧ x2.toInt < (hoU H : Int)) ∧ x1.toInt ≠ x2.toInt) → j_X12_clash_70_21 7 m Q := fun q => v_X12_clash_70_21 (hQ' _ m (by unfold aCls; rw [if_neg q]) (RsF.rf m))
  refine v_X12_clash_70 (Wp.deep (y_isUser hK.1 (fun hu => ⟨fun z => absurd z (by decide), fun _ => Wp.deep (y_isUser hK.1 (fun hv => ⟨fun z => absurd z (by decide), fun _ => ⟨fun ne => ?_, fun e => no (fun w => w.2.2 e)⟩⟩) (fun hv => ⟨fun _ => no (fun w => hv w.2.1), fun z => absurd rfl z⟩)) (Nat.le_of_ble_eq_true rfl)⟩) (fun hu => ⟨fun _ => no (fun w => hu w.1), fun z => absurd rfl z⟩)) (Nat.le_of_ble_eq_true rfl))
  have hx := toNat_of hu.1
  have hy := toNat_of hv.1
  refine y_copies hK.1 hK.2.1 (fun M f cy _ _ => ?_)
  have c1 := (o5 x1.toNatClampNeg (by omega)).1
  have c2 := (o5 x2.toNatClampNeg (by omega)).1
  have eA : aCls H S x1 x2 = cond (lt H (szG S) (hoH H x1.toNatClampNeg) && lt H (szG S) (hoH H x2.toNatClampNeg)) (pc10 (clB H S x1.toNatClampNeg x2.toNatClampNeg) 10) 0 := by unfold aCls; rw [if_pos ⟨hu, hv, ne⟩]
  have n0 : (lt H (szG S) (hoH H x1.toNatClampNeg) && lt H (szG S) (hoH H x2.toNatClampNeg)) = false → j_X12_clash_70_51 7 M Q := fun e => v_X12_clash_70_51 (hQ' _ M (by rw [eA, e]; rfl) f)
  have go : ∀ (on : Int32) (M1 : dM) (Q' : Int32 → dM → Prop), RsF m M1 → CY H S s M1 → (∀ M2 : dM, RsF m M2 → CY H S s M2 → Q' (gng H S on (hod (szH S)) 0) M2) → c_X12_goingBits_70 6 on (hod (szH S)) (0 : Int32) M1 Q' := fun on M1 Q' f1 d1 hq => Wp.deep (y_goingBits d1.1 d1.2.1 d1.2.2 (fun M2 f2 => hq M2 (f1.tr f2.rs) (d1.xa f2))) (Nat.le_of_ble_eq_true rfl)
  have eh : (M.1 108 55) - (M.1 108 55) / (24 : Int32) * (24 : Int32) = hod (szH S) := by rw [cy.2.1.1.1]; rfl
  refine Wp.deep (y_flatAt cy.1 hx (by omega) (fun r hr => Wp.deep (y_isLit cy.2.2 hr (by omega) (fun g1 => ⟨fun z => absurd z (by decide), fun _ => Wp.deep (y_flatAt cy.1 hy (by omega) (fun r2 hr2 => Wp.deep (y_isLit cy.2.2 hr2 (by omega) (fun g2 => ⟨fun _ => ?_, fun z => absurd z (by decide)⟩) (fun g2 => ⟨fun z => absurd rfl z, fun _ => n0 (by rw [g2, Bool.and_false])⟩)) (Nat.le_of_ble_eq_true rfl))) (Nat.le_of_ble_eq_true rfl)⟩) (fun g1 => ⟨fun _ => n0 (by rw [g1, Bool.false_and]), fun z => absurd rfl z⟩)) (Nat.le_of_ble_eq_true rfl))) (Nat.le_of_ble_eq_true rfl)
  rw [eh, b1_of hx, b1_of hy]
  refine go _ M _ f cy (fun M2 f2 d2 => go _ M2 _ f2 d2 (fun M3 f3 d3 => go _ M3 _ f3 d3 (fun M4 f4 d4 => Wp.deep (eb_bits (hQ' _ M4 ?_ f4)) (Nat.le_of_ble_eq_true rfl))))
  rw [eA, g1, g2, ← and_nots]
  rfl
/-- behind so many hours -/
def aThn (H : Ho) (S : Zt) (x1 x2 : Int32) : Int32 := if (0 ≤ x1.toInt ∧ x1.toInt ≤ 72) ∧ 0 ≤ x2.toInt ∧ x2.toInt ≤ 2 then (if x2.toInt = 0 then szC (itr H x1.toNatClampNeg S) - szC S else if x2.toInt = 1 then szQ (itr H x1.toNatClampNeg S) - szQ S else pc10 (szG (itr H x1.toNatClampNeg S)) 10) else -1
theorem ea_then {Q : Int32 → dM → Prop} (hK : KC H S P L m) (hO : zOk H S) (hQ : ∀ m' : dM, QC H S P L m m' → Q (aThn H S x1 x2) m') : c_X11_then_0 8 x1 x2 m Q := by
  have q0 := QC.rf hK
  have w10 := hK.1.1.2.1
  have hQ' : ∀ (v : Int32) (m' : dM), aThn H S x1 x2 = v → QC H S P L m m' → Q v m' := fun v m' e q => by rw [← e]; exact hQ m' q
  have no : ¬ ((0 ≤ x1.toInt ∧ x1.toInt ≤ 72) ∧ 0 ≤ x2.toInt ∧ x2.toInt ≤ 2) → j_X11_then_0_19 8 m Q := fun q => v_X11_then_0_19 (hQ' _ m (by unfold aThn; rw [if_neg q]) q0)
  refine v_X11_then_0 ⟨fun q => no (by omega), fun q1 => ⟨fun q => no (by omega), fun q2 => ⟨fun q => no (by omega), fun q3 => ⟨fun q4 => y_after q0 hO (toNat_of q1) (by have := toNat_of q1; omega) (fun M qM zM => ?_), fun q => no (by omega)⟩⟩⟩⟩
  have eA : aThn H S x1 x2 = (if x2.toInt = 0 then szC (itr H x1.toNatClampNeg S) - szC S else if x2.toInt = 1 then szQ (itr H x1.toNatClampNeg S) - szQ S else pc10 (szG (itr H x1.toNatClampNeg S)) 10) := by unfold aThn; rw [if_pos ⟨⟨q1, q2⟩, q3, q4⟩]
  have z47 := qM.2.2.1
  have zi := zOk.i hK.1.1 x1.toNatClampNeg S hO
  refine ⟨fun n0 => ⟨fun n1 => Wp.deep (ea_bits (fun i hi => ?_) (hQ' _ M ?_ qM)) (Nat.le_of_ble_eq_true rfl), fun e1 => hQ' _ M ?_ qM⟩, fun e0 => hQ' _ M ?_ qM⟩
  · rw [zM.1.2.2.2.1]
    cases b : bt (szG (itr H x1.toNatClampNeg S)) i with
    | false => rfl
    | true => have := zi.2.2.1 i b; omega
  · rw [eA, if_neg n0, if_neg n1, zM.1.2.2.2.1]
  · rw [eA, if_neg n0, if_pos e1, zM.1.2.2.1, z47.1.2.2.1]
  · rw [eA, if_pos e0, zM.1.2.1, z47.1.2.1]
theorem eb_then {Q : Int32 → dM → Prop} (hK : KR H S P L s m) (hO : zOk H S) (hQ : ∀ m' : dM, RsF m m' → Q (aThn H S x1 x2) m') : c_X12_then_70 8 x1 x2 m Q := by
  have w10 := hK.1.1.2.1
  have hQ' : ∀ (v : Int32) (m' : dM), aThn H S x1 x2 = v → RsF m m' → Q v m' := fun v m' e q => by rw [← e]; exact hQ m' q
  have e0 := ti_0
  have e2 := ti_2
  have no : ¬ ((0 ≤ x1.toInt ∧ x1.toInt ≤ 72) ∧ 0 ≤ x2.toInt ∧ x2.toInt ≤ 2) → j_X12_then_70_16 8 m Q := fun q => v_X12_then_70_16 (hQ' _ m (by unfold aThn; rw [if_neg q]) (RsF.rf m))
  refine v_X12_then_70 (Wp.deep (y_isLong (fun h => ⟨fun z => absurd z (by decide), fun _ => Wp.deep (y_in (fun h2 => ⟨fun _ => Wp.deep (y_copies hK.1 hK.2.1 (fun M f cy a6 a7 => y_goes cy hO a6 a7 (toNat_of h.1) (by have := toNat_of h.1; omega) (fun M2 f2 c2 => ?_))) (Nat.le_of_ble_eq_true rfl), fun z => absurd z (by decide)⟩) (fun q => ⟨fun z => absurd rfl z, fun _ => no (by omega)⟩)) (Nat.le_of_ble_eq_true rfl)⟩) (fun q => ⟨fun _ => no (by omega), fun z => absurd rfl z⟩)) (Nat.le_of_ble_eq_true rfl))
  have F2 := f.tr f2
  have a := c2.1.2.1.1
  have hKM := hK.rs F2
  have zi := zOk.i hK.1.1 x1.toNatClampNeg S hO
  have eA : aThn H S x1 x2 = (if x2.toInt = 0 then szC (itr H x1.toNatClampNeg S) - szC S else if x2.toInt = 1 then szQ (itr H x1.toNatClampNeg S) - szQ S else pc10 (szG (itr H x1.toNatClampNeg S)) 10) := by unfold aThn; rw [if_pos (by omega)]
  refine ⟨fun ge => ?_, fun l2 => ?_⟩
  · have loop : ∀ (t w : Nat) (x4 : Int32), w + t = hoW H → x4.toInt = (w : Int) → j_X12_then_70_57 8 (pc10 (szG (itr H x1.toNatClampNeg S)) w) x4 M2 Q := by
      intro t
      induction t with
      | zero =>
        intro w x4 hw h4
        have ew : w = hoW H := by omega
        refine v_X12_then_70_57 ?_
        rw [d_cn a.1, c2.1.2.1.2.2.1.1, a.1]
        refine ⟨by omega, fun _ => hQ' _ M2 ?_ F2, fun q => by exfalso; omega⟩
        have pc := pc10_cut (x := szG (itr H x1.toNatClampNeg S)) (n := hoW H) (fun i hi => by
          cases b : bt (szG (itr H x1.toNatClampNeg S)) i with
          | false => rfl
          | true => have := zi.2.2.1 i b; omega) (10 - hoW H)
        rw [show hoW H + (10 - hoW H) = 10 by omega] at pc
        rw [eA, if_neg (by omega), if_neg (by omega), ew]
        exact pc
      | succ t ih =>
        intro w x4 hw h4
        have e10 := d_add (k := x4) (K := w) (x := (10 : Int32)) (i := 10) (by decide) h4 (by omega)
        have e : pc10 (szG (itr H x1.toNatClampNeg S)) w + bi (bt (szG (itr H x1.toNatClampNeg S)) w) = pc10 (szG (itr H x1.toNatClampNeg S)) (w + 1) := by
          show _ = pc10 (szG (itr H x1.toNatClampNeg S)) w + cond (bt (szG (itr H x1.toNatClampNeg S)) w) 1 0
          cases bt (szG (itr H x1.toNatClampNeg S)) w <;> rfl
        refine v_X12_then_70_57 ?_
        rw [d_cn a.1, c2.1.2.1.2.2.1.1, a.1, d_cn e10, (c2.2.1.2.1 w (by omega)).2.1, e]
        exact ⟨by omega, fun q => by exfalso; omega, fun _ => ⟨by omega, ih (w + 1) _ (by omega) (d_inc h4 (by omega))⟩⟩
    exact loop (hoW H) 0 _ (by omega) (by decide)
  · have f56 := dAddE (X := 56) (Y := x2.toInt) (x := (56 : Int32)) (y := x2) (by decide) rfl (by omega) (by omega)
    refine ⟨by omega, by omega, hQ' _ M2 ?_ F2⟩
    rcases (show x2.toInt = 0 ∨ x2.toInt = 1 by omega) with q | q
    · have e : ((56 : Int32) + x2).toInt = ((56 : Nat) : Int) := by omega
      rw [eA, if_pos q, d_cn e, c2.2.1.1.2.1, hKM.2.1.1.2.1]
    · have e : ((56 : Int32) + x2).toInt = ((57 : Nat) : Int) := by omega
      rw [eA, if_neg (by omega), if_pos q, d_cn e, c2.2.1.1.2.2, hKM.2.1.1.2.2]
def aLin (H : Ho) (S : Zt) (x1 x2 : Int32) : Int32 := if (0 ≤ x1.toInt ∧ x1.toInt < (hoF H : Int)) ∧ 0 ≤ x2.toInt ∧ x2.toInt ≤ 72 then bi (lt H (szG (itr H x2.toNatClampNeg S)) x1.toNatClampNeg) else -1
theorem ea_litIn {Q : Int32 → dM → Prop} (hK : KC H S P L m) (hO : zOk H S) (hQ : ∀ m' : dM, QC H S P L m m' → Q (aLin H S x1 x2) m') : c_X11_litIn_0 8 x1 x2 m Q := by
  have q0 := QC.rf hK
  have f7 := hK.1.1.1
  have hQ' : ∀ (v : Int32) (m' : dM), aLin H S x1 x2 = v → QC H S P L m m' → Q v m' := fun v m' e q => by rw [← e]; exact hQ m' q
  have no : ¬ ((0 ≤ x1.toInt ∧ x1.toInt < (hoF H : Int)) ∧ 0 ≤ x2.toInt ∧ x2.toInt ≤ 72) → j_X11_litIn_0_18 8 m Q := fun q => v_X11_litIn_0_18 (hQ' _ m (by unfold aLin; rw [if_neg q]) q0)
  refine v_X11_litIn_0 (Wp.deep (y_isFlatc hK.1 (fun hu => ⟨fun z => absurd z (by decide), fun _ => ⟨fun q => no (by omega), fun q1 => ⟨fun q2 => y_after q0 hO (toNat_of q1) (by have := toNat_of q1; omega) (fun M qM zM => ?_), fun q => no (by omega)⟩⟩⟩) (fun hu => ⟨fun _ => no (fun w => hu w.1), fun z => absurd rfl z⟩)) (Nat.le_of_ble_eq_true rfl))
  have hx := toNat_of hu.1
  have eA : aLin H S x1 x2 = bi (lt H (szG (itr H x2.toNatClampNeg S)) x1.toNatClampNeg) := by unfold aLin; rw [if_pos ⟨hu, q1, q2⟩]
  have lb : bt (ltB H (szG (itr H x2.toNatClampNeg S))) x1.toNatClampNeg = lt H (szG (itr H x2.toNatClampNeg S)) x1.toNatClampNeg := by rw [bt_ltB f7, decide_eq_true (by omega), Bool.true_and]
  rw [zM.1.2.2.2.1]
  refine Wp.deep (ea_lit qM.2.1 (Wp.deep (d := 1) (y_has hx (by omega) (fun b => ⟨fun z => absurd z (by decide), fun _ => hQ' _ M ?_ qM⟩) (fun b => ⟨fun _ => hQ' _ M ?_ qM, fun z => absurd rfl z⟩)) (Nat.le_of_ble_eq_true rfl))) (Nat.le_of_ble_eq_true rfl)
  · rw [eA, ← lb, b]; rfl
  · rw [eA, ← lb, b]; rfl
theorem eb_litIn {Q : Int32 → dM → Prop} (hK : KR H S P L s m) (hO : zOk H S) (hQ : ∀ m' : dM, RsF m m' → Q (aLin H S x1 x2) m') : c_X12_litIn_70 8 x1 x2 m Q := by
  have f7 := hK.1.1.1
  have hQ' : ∀ (v : Int32) (m' : dM), aLin H S x1 x2 = v → RsF m m' → Q v m' := fun v m' e q => by rw [← e]; exact hQ m' q
  have no : ¬ ((0 ≤ x1.toInt ∧ x1.toInt < (hoF H : Int)) ∧ 0 ≤ x2.toInt ∧ x2.toInt ≤ 72) → j_X12_litIn_70_15 8 m Q := fun q => v_X12_litIn_70_15 (hQ' _ m (by unfold aLin; rw [if_neg q]) (RsF.rf m))
  refine v_X12_litIn_70 (Wp.deep (y_isFlatr hK.1 (fun hu => ⟨fun z => absurd z (by decide), fun _ => Wp.deep (y_isLong (fun h => ⟨fun _ => Wp.deep (y_copies hK.1 hK.2.1 (fun M f cy a6 a7 => y_goes cy hO a6 a7 (toNat_of h.1) (by have := toNat_of h.1; omega) (fun M2 f2 c2 => Wp.deep (y_isLit c2.2.2 (toNat_of hu.1) (by have := toNat_of hu.1; omega) (fun b => ⟨fun z => absurd z (by decide), fun _ => hQ' _ M2 ?_ (f.tr f2)⟩) (fun b => ⟨fun _ => hQ' _ M2 ?_ (f.tr f2), fun z => absurd rfl z⟩)) (Nat.le_of_ble_eq_true rfl)))) (Nat.le_of_ble_eq_true rfl), fun z => absurd z (by decide)⟩) (fun q => ⟨fun z => absurd rfl z, fun _ => no (by omega)⟩)) (Nat.le_of_ble_eq_true rfl)⟩) (fun hu => ⟨fun _ => no (fun w => hu w.1), fun z => absurd rfl z⟩)) (Nat.le_of_ble_eq_true rfl))
  · unfold aLin; rw [if_pos (by omega), b]; rfl
  · unfold aLin; rw [if_pos (by omega), b]; rfl
end QCL
end
section
/-! QUESTIONS, exactly: hours tried; peak, first, thick -/
theorem z_of {x : Int32} (h : x.toInt = 0) : x = 0 := d_ce (h.trans ti_0.symm)
theorem i32_n {n : Nat} (h : n ≤ 1000000) : (Int32.ofInt (n : Int)).toInt = (n : Int) := Int32.toInt_ofInt_of_le (by omega) (by omega)
/-- alike as far as wires know of it -/
def Wl (S T : Zt) : Prop := szH S = szH T ∧ szG S = szG T ∧ szP S = szP T ∧ szA S = szA T ∧ szR S = szR T ∧ szE S = szE T
abbrev wgo (H : Ho) (T : Zt) (x : Int32) : Int32 := gng H T (onA H T (hod (szH T))) (hod (szH T)) x
section QTA
variable {H : Ho} {S T : Zt}
theorem Wl.rf (S : Zt) : Wl S S := ⟨rfl, rfl, rfl, rfl, rfl, rfl⟩
theorem Wl.p (h : Wl S T) : Wl S (pst H T) := ⟨h.1, h.2.1, h.2.2.1, h.2.2.2.1, h.2.2.2.2.1, h.2.2.2.2.2⟩
theorem Wl.on (h : Wl S T) {x : Int32} : onA H S x = onA H T x := by
  unfold onA
  exact bs_congr _ (fun u _ => by unfold onp; rw [h.2.2.2.1, h.2.1])
theorem Wl.gn (h : Wl S T) {on x more : Int32} : gng H S on x more = gng H T on x more := by
  unfold gng
  exact bs_congr _ (fun w _ => by unfold gop vGo; rw [h.1, h.2.1, h.2.2.1, h.2.2.2.2.1, h.2.2.2.2.2])
theorem Wl.go (h : Wl S T) {x : Int32} : wgo H S x = wgo H T x := by
  show gng H S (onA H S (hod (szH S))) (hod (szH S)) x = gng H T (onA H T (hod (szH T))) (hod (szH T)) x
  rw [h.gn, h.on, h.1]
theorem Wl.w (h : Wl S T) {x : Int32} : Wl (wsz H S x) (wsz H T x) := by
  have g : szG S ||| wgo H S x = szG T ||| wgo H T x := by rw [h.go, h.2.1]
  have g : szG S ||| gng H S (onA H S (hod (szH S))) (hod (szH S)) x = szG T ||| gng H T (onA H T (hod (szH T))) (hod (szH T)) x := g
  refine ⟨?_, g, h.2.2.1, h.2.2.2.1, h.2.2.2.2.1, ?_⟩
  · show szH S + 1 = szH T + 1
    rw [h.1]
  · show (fun w => if w < hoW H ∧ bt (szG S ||| gng H S (onA H S (hod (szH S))) (hod (szH S)) x) w = false then (if (szE S w + 1) < (999 : Int32) then (szE S w + 1) else 999) else szE S w) = (fun w => if w < hoW H ∧ bt (szG T ||| gng H T (onA H T (hod (szH T))) (hod (szH T)) x) w = false then (if (szE T w + 1) < (999 : Int32) then (szE T w + 1) else 999) else szE T w)
    rw [g, h.2.2.2.2.2]
def wtr (H : Ho) (S : Zt) : Nat → Zt
  | 0 => S
  | k + 1 => wsz H (wtr H S k) 0
theorem zOk.ws (hH : hOk H) (h : zOk H S) : ∀ k : Nat, zOk H (wtr H S k)
  | 0 => h
  | k + 1 => (zOk.ws hH h k).w hH _
def pkv (H : Ho) (S : Zt) (w k : Nat) : Int32 := lod H (szG (wtr H S k)) (onA H (wtr H S k) (hod (szH (wtr H S k)))) w
def pkB (H : Ho) (S : Zt) (w : Nat) : Nat → Int32 × Int32
  | 0 => (0, 0)
  | k + 1 => if (pkB H S w k).1.toInt < (pkv H S w k).toInt then (pkv H S w k, Int32.ofInt (k : Int)) else pkB H S w k
def aPk (H : Ho) (S : Zt) (x1 x2 x3 : Int32) : Int32 := if (0 ≤ x1.toInt ∧ x1.toInt < (hoW H : Int)) ∧ (1 ≤ x2.toInt ∧ x2.toInt ≤ 48) ∧ 0 ≤ x3.toInt ∧ x3.toInt ≤ 1 then (if x3.toInt = 1 then (pkB H S x1.toNatClampNeg x2.toNatClampNeg).2 else (pkB H S x1.toNatClampNeg x2.toNatClampNeg).1) else -1
/-- behind how many hours which wires go -/
def fgo (H : Ho) : Nat → Nat → Zt → Nat × Int32
  | 0, _, _ => (201, 0)
  | t + 1, i, T => if (wgo H T 0).toInt = 0 then fgo H t (i + 1) (wsz H T 0) else (i, wgo H T 0)
theorem fgo_s {t i : Nat} : fgo H (t + 1) i T = if (wgo H T 0).toInt = 0 then fgo H t (i + 1) (wsz H T 0) else (i, wgo H T 0) := rfl
theorem fgo_le : ∀ (t i : Nat) (T : Zt), i + t = 201 → (fgo H t i T).1 ≤ 201
  | 0, _, _, _ => Nat.le_refl _
  | t + 1, i, T, h => by
    rw [fgo_s]
    by_cases q : (wgo H T 0).toInt = 0
    · rw [if_pos q]; exact fgo_le t (i + 1) _ (by omega)
    · rw [if_neg q]
      show i ≤ 201
      omega
theorem fgo_hi (hw : hoW H ≤ 10) {j : Nat} (hj : 10 ≤ j) : ∀ (t i : Nat) (T : Zt), bt (fgo H t i T).2 j = false
  | 0, _, _ => bt_0
  | t + 1, i, T => by
    rw [fgo_s]
    by_cases q : (wgo H T 0).toInt = 0
    · rw [if_pos q]; exact fgo_hi hw hj t (i + 1) _
    · rw [if_neg q]; exact gng_hi hw hj
theorem fgo_nz : ∀ (t i : Nat) (T : Zt), (fgo H t i T).1 ≠ 201 → (fgo H t i T).2.toInt ≠ 0
  | 0, _, _, h => absurd rfl h
  | t + 1, i, T, h => by
    rw [fgo_s] at h ⊢
    by_cases q : (wgo H T 0).toInt = 0
    · rw [if_pos q] at h ⊢; exact fgo_nz t (i + 1) _ h
    · rw [if_neg q]; exact q
end QTA
/-- the r-th of the bits, from b on -/
def ithB (x : Int32) : Nat → Nat → Nat → Int32
  | 0, _, _ => -1
  | t + 1, b, r => cond (bt x b) (if r = 0 then Int32.ofInt (b : Int) else ithB x t (b + 1) (r - 1)) (ithB x t (b + 1) r)
theorem ithB_s {x : Int32} {t b r : Nat} : ithB x (t + 1) b r = cond (bt x b) (if r = 0 then Int32.ofInt (b : Int) else ithB x t (b + 1) (r - 1)) (ithB x t (b + 1) r) := rfl
theorem ithB_0 {x : Int32} (h : ∀ i : Nat, 10 ≤ i → bt x i = false) : ∀ (t b r : Nat), 10 ≤ b → ithB x t b r = -1
  | 0, _, _, _ => rfl
  | t + 1, b, r, hb => by
    rw [ithB_s, h b hb, cond_false]
    exact ithB_0 h t (b + 1) r (by omega)
theorem ithB_c {x : Int32} (h : ∀ i : Nat, 10 ≤ i → bt x i = false) : ∀ (t b r : Nat), b + t = 10 → ithB x (t + 22) b r = ithB x t b r
  | 0, b, r, hb => by
    rw [ithB_0 h (0 + 22) b r (by omega)]
    rfl
  | t + 1, b, r, hb => by
    rw [show t + 1 + 22 = (t + 22) + 1 by omega, ithB_s (t := t + 22), ithB_s (t := t), ithB_c h t (b + 1) (r - 1) (by omega), ithB_c h t (b + 1) r (by omega)]
section QTR
variable {H : Ho} {S : Zt} {P : List Zt} {L : Nat → Zt} {m : dM} {s : Nat} {x1 x2 x3 : Int32}
theorem ea_bitAt {x0 : Int32} {k : Nat} {Q : Int32 → dM → Prop} {M : dM} (h1 : x1.toInt = (k : Int)) (hk : k ≤ 3) (hQ : Q (ithB x0 32 0 k) M) : c_X11_bitAt 2 x0 x1 M Q := by
  have loop : ∀ (t b r : Nat) (x2 x3 : Int32), b + t = 32 → x3.toInt = (b : Int) → x2.toInt + (r : Int) = (k : Int) → 0 ≤ x2.toInt → Q (ithB x0 t b r) M → j_X11_bitAt_4 2 x0 x1 x2 x3 M Q := by
    intro t
    induction t with
    | zero => intro b r x2 x3 hb h3 h2 h20 hq; exact v_X11_bitAt_4 ⟨fun _ => hq, fun q => by exfalso; omega⟩
    | succ t ih =>
      intro b r x2 x3 hb h3 h2 h20 hq
      rw [ithB_s] at hq
      refine v_X11_bitAt_4 ⟨fun q => by exfalso; omega, fun _ => y_has h3 (by omega) (fun g => ⟨fun z => absurd z (by decide), fun _ => ⟨fun ne => v_X11_bitAt_28 ?_, fun e => ?_⟩⟩) (fun g => ⟨fun _ => v_X11_bitAt_28 ?_, fun z => absurd rfl z⟩)⟩
      · rw [g, cond_true, if_neg (by omega)] at hq
        have f := dAddE (X := x2.toInt) (Y := 1) (x := x2) (y := (1 : Int32)) rfl (by decide) (by omega) (by omega)
        exact ih (b + 1) (r - 1) _ _ (by omega) (d_inc h3 (by omega)) (by omega) (by omega) hq
      · rw [g, cond_true, if_pos (by omega), ofI h3] at hq
        exact hq
      · rw [g, cond_false] at hq
        exact ih (b + 1) r _ _ (by omega) (d_inc h3 (by omega)) h2 h20 hq
  exact v_X11_bitAt (loop 32 0 k _ _ rfl (by decide) (by have := ti_0; omega) (by decide) hQ)
theorem eb_low {x0 : Int32} {Q : Int32 → dM → Prop} {M : dM} (hx : ∃ j : Nat, j < 10 ∧ bt x0 j = true) (hQ : Q (ithB x0 10 0 0) M) : c_X12_lowestOf 7 x0 M Q := by
  have loop : ∀ (t b : Nat) (x1 : Int32), b + t = 10 → x1.toInt = (b : Int) → (∃ j : Nat, b ≤ j ∧ j < 10 ∧ bt x0 j = true) → Q (ithB x0 t b 0) M → j_X12_lowestOf_2 7 x0 x1 M Q := by
    intro t
    induction t with
    | zero => intro b x1 hb h1 hj hq; exfalso; obtain ⟨j, j1, j2, j3⟩ := hj; omega
    | succ t ih =>
      intro b x1 hb h1 hj hq
      rw [ithB_s] at hq
      refine v_X12_lowestOf_2 ⟨fun q => by exfalso; omega, fun _ => ?_⟩
      rw [bt_s h1 (by omega)]
      cases e : bt x0 b with
      | true =>
        rw [e, cond_true, if_pos rfl, ofI h1] at hq
        exact ⟨fun _ => v_X12_lowestOf_22 hq, fun q => absurd q (by decide)⟩
      | false =>
        rw [e, cond_false] at hq
        refine ⟨fun q => absurd rfl q, fun _ => ih (b + 1) _ (by omega) (d_inc h1 (by omega)) ?_ hq⟩
        obtain ⟨j, j1, j2, j3⟩ := hj
        refine ⟨j, ?_, j2, j3⟩
        by_cases q : j = b
        · rw [q, e] at j3; cases j3
        · omega
  obtain ⟨j, j2, j3⟩ := hx
  exact v_X12_lowestOf (loop 10 0 _ rfl (by decide) ⟨j, Nat.zero_le _, j2, j3⟩ hQ)
theorem e_still {Q : dM → Prop} {M : dM} (hK : KR H S P L s m) (hF : RsF m M) (hQ : ∀ m' : dM, RsF m m' → CY H S s m' → (m'.1 70 57).toInt ≠ 0 → Q m') : c_X12_copiesStill_70 7 M Q := by
  have hK' := hK.rs hF
  refine v_X12_copiesStill_70 (y_copies hK'.1 hK'.2.1 (fun M1 f cy _ _ => hQ _ ((hF.tr f).s70 (by decide)) ⟨cy.1.rs ((RsF.rf M1).s70 (by decide)), cy.2.1.of (dSet_k (by decide)), cy.2.2.of (dSet_k (by decide)) (dSet_k (by decide))⟩ (by rw [dSet_s]; decide)))
theorem e_hour {Q : dM → Prop} {M : dM} {T T0 : Zt} (hC : CY H T s M) (hO : zOk H T) (hF : RsF m M) (h57 : (M.1 70 57).toInt ≠ 0) (hw : Wl T0 T) (hQ : ∀ (T' : Zt) (m' : dM), RsF m m' → CY H T' s m' → zOk H T' → (m'.1 70 57).toInt ≠ 0 → Wl (wsz H T0 0) T' → m'.1 70 60 = wgo H T0 0 → Q m') : c_X12_hourGoes_70 6 M Q :=
  y_hourGoes hC.1 hC.2.1 hC.2.2 hO (fun M1 f1 W1 g1 Z1 L1 => by
    have e0 : mor H T M = 0 := by unfold mor; rw [decide_eq_true h57]; rfl
    rw [e0] at g1 Z1 L1
    exact hQ _ M1 (hF.tr f1.rs) ⟨W1, Z1, L1⟩ (zOk.hh hC.1.1 hO _) (by rw [f1.2.1 57 (by decide) (by decide)]; exact h57) hw.p.w (g1.trans (hw.go (H := H)).symm))
theorem ea_peak {Q : Int32 → dM → Prop} (hK : KC H S P L m) (hO : zOk H S) (hQ : ∀ m' : dM, QC H S P L m m' → Q (aPk H S x1 x2 x3) m') : c_X11_peak_0 7 x1 x2 x3 m Q := by
  have q0 := QC.rf hK
  have w10 := hK.1.1.2.1
  have hQ' : ∀ (v : Int32) (m' : dM), aPk H S x1 x2 x3 = v → QC H S P L m m' → Q v m' := fun v m' e q => by rw [← e]; exact hQ m' q
  have no : ¬ ((0 ≤ x1.toInt ∧ x1.toInt < (hoW H : Int)) ∧ (1 ≤ x2.toInt ∧ x2.toInt ≤ 48) ∧ 0 ≤ x3.toInt ∧ x3.toInt ≤ 1) → j_X11_peak_0_28 7 m Q := fun q => v_X11_peak_0_28 (hQ' _ m (by unfold aPk; rw [if_neg q]) q0)
  refine v_X11_peak_0 (Wp.deep (y_isWirec hK.1 (fun hu => ⟨fun z => absurd z (by decide), fun _ => ⟨fun q => no (by omega), fun a1 => ⟨fun q => no (by omega), fun a2 => ⟨fun q => no (by omega), fun a3 => ⟨fun a4 => ?_, fun q => no (by omega)⟩⟩⟩⟩⟩) (fun hu => ⟨fun _ => no (fun w => hu w.1), fun z => absurd rfl z⟩)) (Nat.le_of_ble_eq_true rfl))
  have hx := toNat_of hu.1
  have hn := toNat_of (x := x2) (by omega)
  have hwW : x1.toNatClampNeg < hoW H := by omega
  have eA : aPk H S x1 x2 x3 = (if x3.toInt = 1 then (pkB H S x1.toNatClampNeg x2.toNatClampNeg).2 else (pkB H S x1.toNatClampNeg x2.toNatClampNeg).1) := by unfold aPk; rw [if_pos ⟨hu, ⟨a1, a2⟩, a3, a4⟩]
  have go : ∀ y : Int32, (y.toInt = 0 → aPk H S x1 x2 x3 = (pkB H S x1.toNatClampNeg x2.toNatClampNeg).1) → (y.toInt ≠ 0 → aPk H S x1 x2 x3 = (pkB H S x1.toNatClampNeg x2.toNatClampNeg).2) → c_X1_peakOf_61_47 6 x1 x2 y m (fun r2 m2 => Q r2 m2) := fun y e0 e1 => by
    refine v_X1_peakOf_61_47 (Wp.deep (y_copy62 q0 (fun M q1 z1 => ?_)) (Nat.le_of_ble_eq_true rfl))
    have loop : ∀ (t i : Nat) (x7 : Int32) (M : dM), i + t = x2.toNatClampNeg → x7.toInt = (i : Int) → QC H S P L m M → CZ 62 M (wtr H S i) → j_X1_peakOf_61_47_17 6 x1 x2 y (pkB H S x1.toNatClampNeg i).1 (pkB H S x1.toNatClampNeg i).2 x7 M Q := by
      intro t
      induction t with
      | zero =>
        intro i x7 M hi h7 qM zM
        have ei : i = x2.toNatClampNeg := by omega
        rw [ei]
        exact v_X1_peakOf_61_47_17 ⟨fun _ => ⟨fun z => hQ' _ M (e0 z) qM, fun z => hQ' _ M (e1 z) qM⟩, fun q => by exfalso; omega⟩
      | succ t ih =>
        intro i x7 M hi h7 qM zM
        have zi := zOk.ws hK.1.1 hO i
        have eS : pkB H S x1.toNatClampNeg (i + 1) = if (pkB H S x1.toNatClampNeg i).1.toInt < (pkv H S x1.toNatClampNeg i).toInt then (pkv H S x1.toNatClampNeg i, Int32.ofInt (i : Int)) else pkB H S x1.toNatClampNeg i := rfl
        refine v_X1_peakOf_61_47_17 ⟨fun q => by exfalso; omega, fun _ => y_passWires62 qM.2.1 zM (zi.g1 hK.1.1) (fun M2 f2 w2 z2 d2 => ?_)⟩
        have ev : M2.1 56 x1.toNatClampNeg = pkv H S x1.toNatClampNeg i := d2 _ hwW
        have n := ih (i + 1) _ M2 (by omega) (d_inc h7 (by omega)) (qM.t62 f2 w2) z2
        rw [ev]
        refine ⟨by omega, fun le => v_X1_peakOf_61_47_65 ?_, fun l => ⟨by omega, v_X1_peakOf_61_47_65 ?_⟩⟩
        · rw [eS, if_neg (by omega)] at n
          exact n
        · rw [eS, if_pos l, ofI h7] at n
          exact n
    exact loop x2.toNatClampNeg 0 _ M (by omega) (by decide) q1 z1
  exact ⟨fun n => go _ (fun _ => by rw [eA, if_neg n]) (fun z => absurd rfl z), fun e => go _ (fun z => absurd z (by decide)) (fun _ => by rw [eA, if_pos e])⟩
theorem eb_peak {Q : Int32 → dM → Prop} (hK : KR H S P L s m) (hO : zOk H S) (hQ : ∀ m' : dM, RsF m m' → Q (aPk H S x1 x2 x3) m') : c_X12_peak_70 8 x1 x2 x3 m Q := by
  have w10 := hK.1.1.2.1
  have hQ' : ∀ (v : Int32) (m' : dM), aPk H S x1 x2 x3 = v → RsF m m' → Q v m' := fun v m' e q => by rw [← e]; exact hQ m' q
  have e0 := ti_0
  have e1 := ti_1
  have e48 := ti_48
  have em := ti_m1
  have no : ¬ ((0 ≤ x1.toInt ∧ x1.toInt < (hoW H : Int)) ∧ (1 ≤ x2.toInt ∧ x2.toInt ≤ 48) ∧ 0 ≤ x3.toInt ∧ x3.toInt ≤ 1) → j_X12_peak_70_27 8 m Q := fun q => v_X12_peak_70_27 (hQ' _ m (by unfold aPk; rw [if_neg q]) (RsF.rf m))
  refine v_X12_peak_70 (Wp.deep (y_isWire hK.1.2.1 (fun hu => ⟨fun z => absurd z (by decide), fun _ => Wp.deep (y_in (fun h2 => ⟨fun z => absurd z (by decide), fun _ => Wp.deep (y_in (fun h3 => ⟨fun _ => ?_, fun z => absurd z (by decide)⟩) (fun q => ⟨fun z => absurd rfl z, fun _ => no (by omega)⟩)) (Nat.le_of_ble_eq_true rfl)⟩) (fun q => ⟨fun _ => no (by omega), fun z => absurd rfl z⟩)) (Nat.le_of_ble_eq_true rfl)⟩) (fun hu => ⟨fun _ => no (fun w => hu w.1), fun z => absurd rfl z⟩)) (Nat.le_of_ble_eq_true rfl))
  have hx := toNat_of hu.1
  have hn := toNat_of (x := x2) (by omega)
  have eA : aPk H S x1 x2 x3 = (if x3.toInt = 1 then (pkB H S x1.toNatClampNeg x2.toNatClampNeg).2 else (pkB H S x1.toNatClampNeg x2.toNatClampNeg).1) := by unfold aPk; rw [if_pos (by omega)]
  refine e_still hK (RsF.rf m) (fun M f cy h57 => ?_)
  have vb : ∀ k : Nat, 0 ≤ (pkv H S x1.toNatClampNeg k).toInt := fun k => (lds_b hK.1.1 (hoU H) (Nat.le_refl _)).1
  have loop : ∀ (t i : Nat) (x4 x5 x6 : Int32) (T : Zt) (M : dM), i + t = x2.toNatClampNeg → x6.toInt = (i : Int) → ((i = 0 ∧ x4 = 0 ∧ x5 = -1) ∨ (0 < i ∧ x4 = (pkB H S x1.toNatClampNeg i).2 ∧ x5 = (pkB H S x1.toNatClampNeg i).1)) → RsF m M → CY H T s M → zOk H T → Wl (wtr H S i) T → (M.1 70 57).toInt ≠ 0 → j_X12_peak_70_42 8 x1 x2 x3 x4 x5 x6 M Q := by
    intro t
    induction t with
    | zero =>
      intro i x4 x5 x6 T M hi h6 hb fM cM hT hw h57
      have ei : i = x2.toNatClampNeg := by omega
      rcases hb with ⟨b1, _, _⟩ | ⟨_, b2, b3⟩
      · exfalso; omega
      · rw [ei] at b2 b3
        exact v_X12_peak_70_42 ⟨fun _ => ⟨fun n => hQ' _ M (by rw [eA, if_pos (by omega), b2]) fM, fun z => hQ' _ M (by rw [eA, if_neg (by omega), b3]) fM⟩, fun q => by exfalso; omega⟩
    | succ t ih =>
      intro i x4 x5 x6 T M hi h6 hb fM cM hT hw h57
      have ev : lod H (szG T) (onA H T (hod (szH T))) x1.toNatClampNeg = pkv H S x1.toNatClampNeg i := by
        unfold pkv
        rw [hw.on, hw.1, hw.2.1]
      have vi := vb i
      have eS : pkB H S x1.toNatClampNeg (i + 1) = if (pkB H S x1.toNatClampNeg i).1.toInt < (pkv H S x1.toNatClampNeg i).toInt then (pkv H S x1.toNatClampNeg i, Int32.ofInt (i : Int)) else pkB H S x1.toNatClampNeg i := rfl
      have on : ∀ y z : Int32, (y = (pkB H S x1.toNatClampNeg (i + 1)).2 ∧ z = (pkB H S x1.toNatClampNeg (i + 1)).1) → j_X12_peak_70_86 8 x1 x2 x3 y z x6 M Q := fun y z hyz => v_X12_peak_70_86 (Wp.deep (e_hour cM hT fM h57 hw (fun T' M1 f1 c1 h1 h57' w1 _ => ih (i + 1) _ _ _ T' M1 (by omega) (d_inc h6 (by omega)) (Or.inr ⟨by omega, hyz⟩) f1 c1 h1 w1 h57')) (Nat.le_of_ble_eq_true rfl))
      have up : x5.toInt < (pkv H S x1.toNatClampNeg i).toInt → j_X12_peak_70_86 8 x1 x2 x3 x6 (pkv H S x1.toNatClampNeg i) x6 M Q := fun l => on _ _ (by
        rcases hb with ⟨b1, b2, b3⟩ | ⟨b1, b2, b3⟩
        · have p0 : pkB H S x1.toNatClampNeg i = (0, 0) := by rw [b1]; rfl
          rw [eS, p0]
          by_cases q : (0 : Int32).toInt < (pkv H S x1.toNatClampNeg i).toInt
          · rw [if_pos q]; exact ⟨(ofI h6).symm, rfl⟩
          · rw [if_neg q]; exact ⟨z_of (by omega), z_of (by omega)⟩
        · rw [b3] at l
          rw [eS, if_pos l]; exact ⟨(ofI h6).symm, rfl⟩)
      have stay : (pkv H S x1.toNatClampNeg i).toInt ≤ x5.toInt → j_X12_peak_70_86 8 x1 x2 x3 x4 x5 x6 M Q := fun l => on _ _ (by
        rcases hb with ⟨b1, b2, b3⟩ | ⟨b1, b2, b3⟩
        · exfalso; rw [b3] at l; omega
        · rw [eS, if_neg (by rw [b3] at l; omega)]; exact ⟨b2, b3⟩)
      refine v_X12_peak_70_42 ⟨fun q => by exfalso; omega, fun _ => Wp.deep (y_isWhole cM.1.2.1 (cM.2.1.rg (r := 0)) hx (by omega) (fun g => ⟨fun z => absurd z (by decide), fun _ => Wp.deep (y_onNow cM (Wp.deep (y_loadBy cM.1 cM.2.2 hx (by omega) ?_) (Nat.le_of_ble_eq_true rfl))) (Nat.le_of_ble_eq_true rfl)⟩) (fun g => ⟨fun _ => ?_, fun z => absurd rfl z⟩)) (Nat.le_of_ble_eq_true rfl)⟩
      · rw [ev]; exact ⟨stay, up⟩
      · have e00 : pkv H S x1.toNatClampNeg i = 0 := by rw [← ev]; exact lod_gone hK.1.1 g
        rw [e00] at stay up
        exact ⟨fun q => stay (by omega), fun q => up (by omega)⟩
  exact loop x2.toNatClampNeg 0 _ _ _ S M (by omega) (by decide) (Or.inl ⟨rfl, rfl, rfl⟩) f cy hO (Wl.rf S) h57
theorem ea_till {Q : Int32 → dM → Prop} {T : Zt} {M : dM} (hq : QC H S P L m M) (hZ : CZ 62 M T) (hT : zOk H T) (hQ : ∀ m' : dM, QC H S P L m m' → m'.1 61 4 = (fgo H 200 1 T).2 → Q (Int32.ofInt ((fgo H 200 1 T).1 : Int)) m') : c_X1_trialTillGone_61 6 M Q := by
  have hH := hq.2.1.1
  have loop : ∀ (t i : Nat) (x1 : Int32) (T' : Zt) (M : dM), i + t = 201 → x1.toInt = (i : Int) → QC H S P L m M → CZ 62 M T' → zOk H T' → M.1 61 4 = 0 → fgo H t i T' = fgo H 200 1 T → j_X1_trialTillGone_61_7 6 x1 M Q := by
    intro t
    induction t with
    | zero =>
      intro i x1 T' M hi h1 qM zM hT' h4 e
      have e : ((201, 0) : Nat × Int32) = fgo H 200 1 T := e
      rw [← e] at hQ
      have h' : Q (Int32.ofInt ((201 : Nat) : Int)) M := hQ M qM h4
      rw [show Int32.ofInt ((201 : Nat) : Int) = 201 by decide] at h'
      exact v_X1_trialTillGone_61_7 ⟨fun _ => h', fun q => by exfalso; omega⟩
    | succ t ih =>
      intro i x1 T' M hi h1 qM zM hT' h4 e
      rw [fgo_s] at e
      refine v_X1_trialTillGone_61_7 ⟨fun q => by exfalso; omega, fun _ => y_passWires62 qM.2.1 zM (hT'.g1 hH) (fun M2 f2 w2 z2 _ => ⟨fun z => ?_, fun nz => ?_⟩)⟩
      · have z : (wgo H T' 0).toInt = 0 := z
        rw [if_pos z] at e
        exact ih (i + 1) _ _ _ (by omega) (d_inc h1 (by omega)) ((qM.t62 f2 w2).s61 (Or.inl rfl)) (z2.of (fun k a b => dSet_k (by omega))) (hT'.w hH _) (by rw [dSet_s]; exact z_of z) e
      · have nz : (wgo H T' 0).toInt ≠ 0 := nz
        rw [if_neg nz] at e
        rw [← e] at hQ
        have h' : Q (Int32.ofInt (i : Int)) (dSet M2 61 4 (wgo H T' 0)) := hQ _ ((qM.t62 f2 w2).s61 (Or.inl rfl)) (dSet_s _ _ _ _)
        rw [ofI h1] at h'
        exact h'
  exact v_X1_trialTillGone_61 (loop 200 1 _ T _ (by decide) (by decide) (hq.s61 (Or.inl rfl)) (hZ.of (fun k a b => dSet_k (by omega))) hT (dSet_s _ _ _ _) rfl)
theorem eb_fgo {Q : Int32 → dM → Prop} {M : dM} {T T0 : Zt} (hC : CY H T s M) (hO : zOk H T) (hF : RsF m M) (h57 : (M.1 70 57).toInt ≠ 0) (hw : Wl T0 T) (hQ : ∀ m' : dM, RsF m m' → ((fgo H 200 1 T0).1 ≠ 201 → m'.1 70 60 = (fgo H 200 1 T0).2) → Q (Int32.ofInt ((fgo H 200 1 T0).1 : Int)) m') : c_X12_firstGoing_70 7 M Q := by
  have loop : ∀ (t i : Nat) (x1 : Int32) (T' T0' : Zt) (M : dM), i + t = 201 → x1.toInt = (i : Int) → RsF m M → CY H T' s M → zOk H T' → (M.1 70 57).toInt ≠ 0 → Wl T0' T' → fgo H t i T0' = fgo H 200 1 T0 → j_X12_firstGoing_70_2 7 x1 M Q := by
    intro t
    induction t with
    | zero =>
      intro i x1 T' T0' M hi h1 fM cM hT' h57 hw' e
      have e : ((201, 0) : Nat × Int32) = fgo H 200 1 T0 := e
      rw [← e] at hQ
      have h' : Q (Int32.ofInt ((201 : Nat) : Int)) M := hQ M fM (fun n => absurd rfl n)
      rw [show Int32.ofInt ((201 : Nat) : Int) = 201 by decide] at h'
      exact v_X12_firstGoing_70_2 ⟨fun _ => h', fun q => by exfalso; omega⟩
    | succ t ih =>
      intro i x1 T' T0' M hi h1 fM cM hT' h57 hw' e
      rw [fgo_s] at e
      refine v_X12_firstGoing_70_2 ⟨fun q => by exfalso; omega, fun _ => e_hour cM hT' fM h57 hw' (fun T2 M1 f1 c1 k1 h57' w1 g1 => ?_)⟩
      rw [g1]
      refine ⟨fun z => ?_, fun nz => ?_⟩
      · rw [if_pos z] at e
        exact ih (i + 1) _ T2 _ M1 (by omega) (d_inc h1 (by omega)) f1 c1 k1 h57' w1 e
      · rw [if_neg nz] at e
        rw [← e] at hQ
        have h' : Q (Int32.ofInt (i : Int)) M1 := hQ M1 f1 (fun _ => g1)
        rw [ofI h1] at h'
        exact h'
  exact v_X12_firstGoing_70 (loop 200 1 _ T T0 M (by decide) (by decide) hF hC hO h57 hw rfl)
def aFst (H : Ho) (S : Zt) (x1 : Int32) : Int32 := if 0 ≤ x1.toInt ∧ x1.toInt ≤ 1 then (if (fgo H 200 1 S).1 = 201 then -2 else if x1.toInt = 0 then Int32.ofInt ((fgo H 200 1 S).1 : Int) else ithB (fgo H 200 1 S).2 10 0 0) else -1
theorem ea_first {Q : Int32 → dM → Prop} (hK : KC H S P L m) (hO : zOk H S) (hQ : ∀ m' : dM, QC H S P L m m' → Q (aFst H S x1) m') : c_X11_first_0 8 x1 m Q := by
  have q0 := QC.rf hK
  have w10 := hK.1.1.2.1
  have hQ' : ∀ (v : Int32) (m' : dM), aFst H S x1 = v → QC H S P L m m' → Q v m' := fun v m' e q => by rw [← e]; exact hQ m' q
  have no : ¬ (0 ≤ x1.toInt ∧ x1.toInt ≤ 1) → j_X11_first_0_9 8 m Q := fun q => v_X11_first_0_9 (hQ' _ m (by unfold aFst; rw [if_neg q]) q0)
  have fl := fgo_le (H := H) 200 1 S rfl
  have fi : (Int32.ofInt ((fgo H 200 1 S).1 : Int)).toInt = ((fgo H 200 1 S).1 : Int) := i32_n (by omega)
  refine v_X11_first_0 ⟨fun q => no (by omega), fun h0 => ⟨fun h1 => v_X1_firstGone_61_47 (Wp.deep (y_copy62 q0 (fun M q1 z1 => ea_till q1 z1 hO (fun M2 q2 e4 => ?_))) (Nat.le_of_ble_eq_true rfl)), fun q => no (by omega)⟩⟩
  have eA : aFst H S x1 = (if (fgo H 200 1 S).1 = 201 then -2 else if x1.toInt = 0 then Int32.ofInt ((fgo H 200 1 S).1 : Int) else ithB (fgo H 200 1 S).2 10 0 0) := by unfold aFst; rw [if_pos ⟨h0, h1⟩]
  rw [fi]
  refine ⟨fun le => ⟨fun n => v_X1_firstWire_61 (Wp.deep (ea_bitAt (k := 0) (by decide) (by decide) (hQ' _ M2 ?_ q2)) (Nat.le_of_ble_eq_true rfl)), fun z => hQ' _ M2 (by rw [eA, if_neg (by omega), if_pos z]) q2⟩, fun g => hQ' _ M2 (by rw [eA, if_pos (by omega)]) q2⟩
  rw [eA, if_neg (by omega), if_neg n, e4]
  exact (ithB_c (fun j hj => fgo_hi w10 hj 200 1 S) 10 0 0 rfl).symm
theorem eb_first {Q : Int32 → dM → Prop} (hK : KR H S P L s m) (hO : zOk H S) (hQ : ∀ m' : dM, RsF m m' → Q (aFst H S x1) m') : c_X12_first_70 8 x1 m Q := by
  have w10 := hK.1.1.2.1
  have hQ' : ∀ (v : Int32) (m' : dM), aFst H S x1 = v → RsF m m' → Q v m' := fun v m' e q => by rw [← e]; exact hQ m' q
  have e0 := ti_0
  have e1 := ti_1
  have fl := fgo_le (H := H) 200 1 S rfl
  have fi : (Int32.ofInt ((fgo H 200 1 S).1 : Int)).toInt = ((fgo H 200 1 S).1 : Int) := i32_n (by omega)
  refine v_X12_first_70 (Wp.deep (y_in (fun h => ⟨fun _ => e_still hK (RsF.rf m) (fun M f cy h57 => eb_fgo cy hO f h57 (Wl.rf S) (fun M2 f2 e60 => ?_)), fun z => absurd z (by decide)⟩) (fun q => ⟨fun z => absurd rfl z, fun _ => hQ' _ m (by unfold aFst; rw [if_neg (by omega)]) (RsF.rf m)⟩)) (Nat.le_of_ble_eq_true rfl))
  have eA : aFst H S x1 = (if (fgo H 200 1 S).1 = 201 then -2 else if x1.toInt = 0 then Int32.ofInt ((fgo H 200 1 S).1 : Int) else ithB (fgo H 200 1 S).2 10 0 0) := by unfold aFst; rw [if_pos (by omega)]
  rw [fi]
  refine ⟨fun ne => ⟨fun n => ?_, fun z => hQ' _ M2 (by rw [eA, if_neg (by omega), if_pos z]) f2⟩, fun g => hQ' _ M2 (by rw [eA, if_pos (by omega)]) f2⟩
  have n201 : (fgo H 200 1 S).1 ≠ 201 := fun q => ne (by rw [q]; rfl)
  rw [e60 n201]
  refine eb_low ?_ (hQ' _ M2 (by rw [eA, if_neg n201, if_neg n]) f2)
  have nz := fgo_nz (H := H) 200 1 S n201
  by_cases ex : ∃ j : Nat, j < 10 ∧ bt (fgo H 200 1 S).2 j = true
  · exact ex
  · exfalso
    apply nz
    have z : (fgo H 200 1 S).2 = 0 := bt_z (fun i _ => by
      by_cases q : i < 10
      · cases b : bt (fgo H 200 1 S).2 i with
        | false => rfl
        | true => exact absurd ⟨i, q, b⟩ ex
      · exact fgo_hi w10 (by omega) 200 1 S)
    rw [z]
    exact e0
/-- rated so much more -/
def thR (S : Zt) (k : Int32) (w : Nat) : Zt := setR S (upd (szR S) w (if szR S w + k < (99 : Int32) then szR S w + k else 99))
def thB (H : Ho) (S : Zt) (k : Int32) : Nat → Int32 × Nat
  | 0 => (-2, (fgo H 200 1 S).1)
  | w + 1 => cond (bt (szG S) w) (thB H S k w) (if (thB H S k w).2 < (fgo H 200 1 (thR S k w)).1 then (Int32.ofInt (w : Int), (fgo H 200 1 (thR S k w)).1) else thB H S k w)
def aTck (H : Ho) (S : Zt) (x1 : Int32) : Int32 := if 1 ≤ x1.toInt ∧ x1.toInt ≤ 20 then (thB H S x1 (hoW H)).1 else -1
theorem thR_ok {k : Int32} {w : Nat} (h1 : 1 ≤ k.toInt) (h2 : k.toInt ≤ 20) (hw : w < hoW H) (hO : zOk H S) : zOk H (thR S k w) := by
  obtain ⟨a, b, c, d, e, f, g⟩ := hO
  refine ⟨a, b, c, d, e, fun j hj => ?_, g⟩
  show 0 ≤ (upd (szR S) w (if szR S w + k < (99 : Int32) then szR S w + k else 99) j).toInt ∧ (upd (szR S) w (if szR S w + k < (99 : Int32) then szR S w + k else 99) j).toInt ≤ 99
  rw [upd_j]
  by_cases q3 : j = w
  · have lti : (szR S w + k < (99 : Int32)) ↔ (szR S w + k).toInt < (99 : Int32).toInt := Int32.lt_iff_toInt_lt
    have e9 := ti_99
    have fw := f w hw
    have fa := dAddE (X := (szR S w).toInt) (Y := k.toInt) (x := szR S w) (y := k) rfl rfl (by omega) (by omega)
    rw [if_pos q3]
    by_cases q : szR S w + k < (99 : Int32)
    · rw [if_pos q]
      have := lti.mp q
      omega
    · rw [if_neg q]; omega
  · rw [if_neg q3]; exact f j hj
theorem thB_s {k : Int32} {w : Nat} : thB H S k (w + 1) = cond (bt (szG S) w) (thB H S k w) (if (thB H S k w).2 < (fgo H 200 1 (thR S k w)).1 then (Int32.ofInt (w : Int), (fgo H 200 1 (thR S k w)).1) else thB H S k w) := rfl
theorem thB_le {k : Int32} : ∀ w : Nat, (thB H S k w).2 ≤ 201
  | 0 => fgo_le 200 1 S rfl
  | w + 1 => by
    rw [thB_s]
    cases bt (szG S) w with
    | true => exact thB_le w
    | false =>
      rw [cond_false]
      by_cases q : (thB H S k w).2 < (fgo H 200 1 (thR S k w)).1
      · rw [if_pos q]; exact fgo_le 200 1 (thR S k w) rfl
      · rw [if_neg q]; exact thB_le w
theorem thB_st {k : Int32} {w : Nat} (h : 200 < (thB H S k w).2) : ∀ j : Nat, thB H S k (w + j) = thB H S k w
  | 0 => rfl
  | j + 1 => by
    have ih := thB_st h j
    rw [show w + (j + 1) = (w + j) + 1 by omega, thB_s, ih]
    cases bt (szG S) (w + j) with
    | true => rfl
    | false =>
      rw [cond_false]
      have := fgo_le (H := H) 200 1 (thR S k (w + j)) rfl
      rw [if_neg (by omega)]
theorem ea_thick {Q : Int32 → dM → Prop} (hK : KC H S P L m) (hO : zOk H S) (hQ : ∀ m' : dM, QC H S P L m m' → Q (aTck H S x1) m') : c_X11_thick_0 8 x1 m Q := by
  have q0 := QC.rf hK
  have w10 := hK.1.1.2.1
  have hQ' : ∀ (v : Int32) (m' : dM), aTck H S x1 = v → QC H S P L m m' → Q v m' := fun v m' e q => by rw [← e]; exact hQ m' q
  have no : ¬ (1 ≤ x1.toInt ∧ x1.toInt ≤ 20) → j_X11_thick_0_11 8 m Q := fun q => v_X11_thick_0_11 (hQ' _ m (by unfold aTck; rw [if_neg q]) q0)
  refine v_X11_thick_0 ⟨fun q => no (by omega), fun h0 => ⟨fun h1 => ?_, fun q => no (by omega)⟩⟩
  have eA : aTck H S x1 = (thB H S x1 (hoW H)).1 := by unfold aTck; rw [if_pos ⟨h0, h1⟩]
  have loop : ∀ (t w : Nat) (x5 : Int32) (M : dM), w + t = hoW H → x5.toInt = (w : Int) → QC H S P L m M → j_X1_bestThicker_61_47_20 7 x1 (Int32.ofInt ((thB H S x1 w).2 : Int)) (thB H S x1 w).1 x5 M Q := by
    intro t
    induction t with
    | zero =>
      intro w x5 M hw h5 qM
      have e21 := qM.2.1.2.1.1.2.1.1
      have ew : w = hoW H := by omega
      rw [ew]
      exact v_X1_bestThicker_61_47_20 ⟨fun _ => v_X1_bestThicker_61_47_111 (hQ' _ M eA qM), fun q => by exfalso; omega⟩
    | succ t ih =>
      intro w x5 M hw h5 qM
      have e21 := qM.2.1.2.1.1.2.1.1
      have g3 : M.1 47 3 = szG S := qM.2.2.1.1.2.2.2.1
      have tl := thB_le (H := H) (S := S) (k := x1) w
      have ti : (Int32.ofInt ((thB H S x1 w).2 : Int)).toInt = ((thB H S x1 w).2 : Int) := i32_n (by omega)
      have n := ih (w + 1)
      rw [thB_s] at n
      refine v_X1_bestThicker_61_47_20 ?_
      rw [ti, g3]
      refine ⟨fun q => by exfalso; omega, fun _ => ⟨fun g => v_X1_bestThicker_61_47_111 (hQ' _ M ?_ qM), fun le => Wp.deep (y_has h5 (by omega) (fun b => ⟨fun _ => v_X1_bestThicker_61_47_105 ?_, fun z => absurd z (by decide)⟩) (fun b => ⟨fun z => absurd rfl z, fun _ => Wp.deep (y_copy62 qM (fun M3 q3 z3 => ⟨by omega, by omega, ?_⟩)) (Nat.le_of_ble_eq_true rfl)⟩)) (Nat.le_of_ble_eq_true rfl)⟩⟩
      · rw [eA]
        have st := thB_st (H := H) (S := S) (k := x1) (w := w) (by omega) (hoW H - w)
        rw [show w + (hoW H - w) = hoW H by omega] at st
        rw [st]
      · rw [b, cond_true] at n
        exact n _ M (by omega) (d_inc h5 (by omega)) qM
      · rw [b, cond_false] at n
        have er : M3.1 63 w = szR S w := z3.2.1 w (by omega)
        rw [d_cn h5, er]
        have hT : zOk H (thR S x1 w) := thR_ok h0 h1 (by omega) hO
        have q4 : QC H S P L m (dSet M3 63 w (if szR S w + x1 < (99 : Int32) then szR S w + x1 else 99)) := q3.t62 ((TyF.rf 62 M3).set (by decide) (Or.inr rfl)) (q3.2.1.ty (n := 62) (by decide) (Or.inr rfl))
        refine ea_till q4 (T := thR S x1 w) z3.r hT (fun M5 q5 _ => ?_)
        have fl := fgo_le (H := H) 200 1 (thR S x1 w) rfl
        rw [i32_n (n := (fgo H 200 1 (thR S x1 w)).1) (by omega)]
        refine ⟨fun le2 => v_X1_bestThicker_61_47_105 ?_, fun l2 => v_X1_bestThicker_61_47_105 ?_⟩
        · rw [if_neg (by omega)] at n
          exact n _ M5 (by omega) (d_inc h5 (by omega)) q5
        · rw [if_pos (by omega), ofI h5] at n
          exact n _ M5 (by omega) (d_inc h5 (by omega)) q5
  exact v_X1_bestThicker_61_47 (Wp.deep (y_copy62 q0 (fun M q1 z1 => ea_till q1 z1 hO (fun M2 q2 _ => loop (hoW H) 0 _ M2 (by omega) (by decide) q2))) (Nat.le_of_ble_eq_true rfl))
theorem eb_thick {Q : Int32 → dM → Prop} (hK : KR H S P L s m) (hO : zOk H S) (hQ : ∀ m' : dM, RsF m m' → Q (aTck H S x1) m') : c_X12_thick_70 8 x1 m Q := by
  have w10 := hK.1.1.2.1
  have hQ' : ∀ (v : Int32) (m' : dM), aTck H S x1 = v → RsF m m' → Q v m' := fun v m' e q => by rw [← e]; exact hQ m' q
  have e1 := ti_1
  have e20 := ti_20
  have e99 := ti_99
  refine v_X12_thick_70 (Wp.deep (y_in (fun h => ⟨fun _ => e_still hK (RsF.rf m) (fun M f cy h57 => eb_fgo cy hO f h57 (Wl.rf S) (fun M2 f2 _ => ?_)), fun z => absurd z (by decide)⟩) (fun q => ⟨fun z => absurd rfl z, fun _ => hQ' _ m (by unfold aTck; rw [if_neg (by omega)]) (RsF.rf m)⟩)) (Nat.le_of_ble_eq_true rfl))
  have eA : aTck H S x1 = (thB H S x1 (hoW H)).1 := by unfold aTck; rw [if_pos (by omega)]
  have loop : ∀ (t w : Nat) (x4 : Int32) (M : dM), w + t = hoW H → x4.toInt = (w : Int) → RsF m M → j_X12_thick_70_27 8 x1 (Int32.ofInt ((thB H S x1 w).2 : Int)) (thB H S x1 w).1 x4 M Q := by
    intro t
    induction t with
    | zero =>
      intro w x4 M hw h4 fM
      have hKM := hK.rs fM
      have a := hKM.1.2.1.1
      have ew : w = hoW H := by omega
      refine v_X12_thick_70_27 ?_
      rw [d_cn a.1, hKM.1.2.1.2.2.1.1, a.1, ew]
      exact ⟨by omega, fun _ => hQ' _ M eA fM, fun q => by exfalso; omega⟩
    | succ t ih =>
      intro w x4 M hw h4 fM
      have hKM := hK.rs fM
      have a := hKM.1.2.1.1
      have e10 := d_add (k := x4) (K := w) (x := (10 : Int32)) (i := 10) (by decide) h4 (by omega)
      have tl := thB_le (H := H) (S := S) (k := x1) w
      have ti : (Int32.ofInt ((thB H S x1 w).2 : Int)).toInt = ((thB H S x1 w).2 : Int) := i32_n (by omega)
      have n := ih (w + 1)
      rw [thB_s] at n
      have zg := (hKM.2.1.2.1 w (by omega)).2.1
      have r9 := hO.2.2.2.2.2.1 w (by omega)
      refine v_X12_thick_70_27 ?_
      rw [d_cn a.1, hKM.1.2.1.2.2.1.1, a.1, d_cn e10, zg, ti]
      refine ⟨by omega, fun q => by exfalso; omega, fun _ => ⟨by omega, fun nb => ?_, fun bb => v_X12_thick_70_105 ?_⟩⟩
      · rw [bi_ne1 nb, cond_false] at n
        refine e_still hK fM (fun M1 f1 cy1 h57 => ⟨by omega, ?_⟩)
        rw [d_cn h4, (cy1.2.1.2.1 w (by omega)).1]
        have fa := dAddE (X := (szR S w).toInt) (Y := x1.toInt) (x := szR S w) (y := x1) rfl rfl (by omega) (by omega)
        have wi : ∀ Q' : Int32 → dM → Prop, Q' (if szR S w + x1 < (99 : Int32) then szR S w + x1 else 99) M1 → c_X12_within 7 (szR S w + x1) (1 : Int32) (99 : Int32) M1 Q' := fun Q' hq => by
          have lti : (szR S w + x1 < (99 : Int32)) ↔ (szR S w + x1).toInt < (99 : Int32).toInt := Int32.lt_iff_toInt_lt
          refine Wp.deep (d := 1) (v_X12_within ⟨fun q => ⟨fun q2 => ?_, fun q2 => ?_⟩, fun q => by exfalso; omega⟩) (Nat.le_of_ble_eq_true rfl)
          · by_cases l : szR S w + x1 < (99 : Int32)
            · rw [if_pos l] at hq; exact hq
            · rw [if_neg l] at hq
              have : szR S w + x1 = 99 := d_ce (by
                have : ¬ (szR S w + x1).toInt < (99 : Int32).toInt := fun y => l (lti.mpr y)
                omega)
              rw [this]; exact hq
          · rw [if_neg (fun l => by have := lti.mp l; omega)] at hq
            exact hq
        refine wi _ ⟨by omega, ?_⟩
        have hT : zOk H (thR S x1 w) := thR_ok (by omega) (by omega) (by omega) hO
        have c2 : CY H (thR S x1 w) s (dSet M1 108 w (if szR S w + x1 < (99 : Int32) then szR S w + x1 else 99)) := ⟨cy1.1.rs (RsF.rf M1).set, cy1.2.1.r hK.1.1 (by omega), cy1.2.2.of (dSet_k (by decide)) (dSet_k (by decide))⟩
        refine eb_fgo c2 hT f1.set (by rw [dSet_k (by decide)]; exact h57) (Wl.rf _) (fun M3 f3 _ => ?_)
        have fl := fgo_le (H := H) 200 1 (thR S x1 w) rfl
        rw [i32_n (n := (fgo H 200 1 (thR S x1 w)).1) (by omega)]
        refine ⟨fun l2 => v_X12_thick_70_105 ?_, fun le2 => v_X12_thick_70_105 ?_⟩
        · rw [if_pos (by omega), ofI h4] at n
          exact n _ M3 (by omega) (d_inc h4 (by omega)) f3
        · rw [if_neg (by omega)] at n
          exact n _ M3 (by omega) (d_inc h4 (by omega)) f3
      · rw [bi_eq1 bb, cond_true] at n
        exact n _ M (by omega) (d_inc h4 (by omega)) fM
  exact loop (hoW H) 0 _ M2 (by omega) (by decide) f2
end QTR
end
