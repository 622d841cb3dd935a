/-! QUESTIONS, exactly: flat, wire -/
theorem ofI {x : Int32} {z : Int} (h : x.toInt = z) : Int32.ofInt z = x := by rw [← h]; exact Int32.ofInt_toInt x
def aFlt (H : Ho) (S : Zt) (x1 x2 : Int32) : Int32 := if 0 ≤ x1.toInt ∧ x1.toInt < (hoF H : Int) then (if x2.toInt = 0 then hoT H x1.toNatClampNeg else if x2.toInt = 1 then bi (lt H (szG S) x1.toNatClampNeg) else if x2.toInt = 2 then szD S x1.toNatClampNeg else if x2.toInt = 3 then cond (lt H (szG S) x1.toNatClampNeg) (Int32.ofInt (wyD H (szG S) x1.toNatClampNeg : Int)) (-2) else if x2.toInt = 4 then qrl H S x1.toNatClampNeg else if x2.toInt = 5 then amf H (onA H S (hod (szH S))) x1.toNatClampNeg (hoU H) else -1) else -1
def aWir (H : Ho) (S : Zt) (x1 x2 : Int32) : Int32 := if 0 ≤ x1.toInt ∧ x1.toInt < (hoW H : Int) then (if x2.toInt = 0 then Int32.ofInt (hoA H x1.toNatClampNeg : Int) else if x2.toInt = 1 then Int32.ofInt (hoB H x1.toNatClampNeg : Int) else if x2.toInt = 2 then szR S x1.toNatClampNeg else if x2.toInt = 3 then 1 - bi (bt (szG S) x1.toNatClampNeg) else if x2.toInt = 4 then szE S x1.toNatClampNeg else if x2.toInt = 5 then bi (bt (szP S) x1.toNatClampNeg) else if x2.toInt = 6 then lod H (szG S) (onA H S (hod (szH S))) x1.toNatClampNeg else if x2.toInt = 7 then cst H S x1.toNatClampNeg else if x2.toInt = 8 then bi (gop H S (onA H S (hod (szH S))) (hod (szH S)) 0 x1.toNatClampNeg) else -1) else -1
theorem bi_z {b : Bool} (h : (bi b).toInt = 0) : bi b = 0 := by
  cases b with
  | false => rfl
  | true => exact absurd h (by decide)
theorem bi_n {b : Bool} (h : (bi b).toInt ≠ 0) : bi b = 1 := by
  cases b with
  | false => exact absurd rfl h
  | true => rfl
section QFW
variable {H : Ho} {S : Zt} {P : List Zt} {L : Nat → Zt} {m : dM} {s : Nat} {x1 x2 : Int32}
theorem lt_bits {g : Int32} {f : Nat} (l : LA H g m) (hf : f < hoF H) (h32 : f < 32) : bt (m.1 57 5) f = lt H g f := by
  rw [l.2.2.2.2 f h32, decide_eq_true hf, Bool.true_and]
  rfl
theorem ea_flat {Q : Int32 → dM → Prop} (hK : KC H S P L m) (hO : zOk H S) (hQ : ∀ m' : dM, QC H S P L m m' → Q (aFlt H S x1 x2) m') : c_X11_flat_0 6 x1 x2 m Q := by
  have q0 := QC.rf hK
  have f7 := hK.1.1.1
  have hQ' : ∀ (v : Int32) (m' : dM), aFlt H S x1 x2 = v → QC H S P L m m' → Q v m' := fun v m' e q => by rw [← e]; exact hQ m' q
  refine v_X11_flat_0 (Wp.deep (y_isFlatc hK.1 (fun hu => ⟨fun _ => ?_, fun z => absurd z (by decide)⟩) (fun hu => ⟨fun z => absurd rfl z, fun _ => hQ' _ m (by unfold aFlt; rw [if_neg hu]) q0⟩)) (Nat.le_of_ble_eq_true rfl))
  have hx := toNat_of hu.1
  have hf : x1.toNatClampNeg < hoF H := by omega
  refine Wp.deep (k_ways q0 hO (fun M q1 l1 => ?_)) (Nat.le_of_ble_eq_true rfl)
  have lb := lt_bits l1 hf (by omega)
  refine ⟨fun q => ⟨by omega, hQ' _ M ?_ q1⟩, fun q => Wp.deep (y_has hx (by omega) (fun b => ⟨fun z => absurd z (by decide), fun _ => hQ' _ M ?_ q1⟩) (fun b => ⟨fun _ => hQ' _ M ?_ q1, fun z => absurd rfl z⟩)) (Nat.le_of_ble_eq_true rfl), fun q => ⟨by omega, hQ' _ M ?_ q1⟩, fun q => Wp.deep (y_has hx (by omega) (fun b => ⟨fun z => absurd z (by decide), fun _ => ⟨by omega, hQ' _ M ?_ q1⟩⟩) (fun b => ⟨fun _ => hQ' _ M ?_ q1, fun z => absurd rfl z⟩)) (Nat.le_of_ble_eq_true rfl), fun q => Wp.deep (y_quarrel47 q1.2.1 q1.2.2.1 hx (by omega) (fun M2 f2 => hQ' _ M2 ?_ (q1.va f2))) (Nat.le_of_ble_eq_true rfl), fun q => Wp.deep (k_usesNow q1 hO (fun M2 q2 l2 => Wp.deep (k_amps q2.2.1 hx (hQ' _ M2 ?_ q2)) (Nat.le_of_ble_eq_true rfl))) (Nat.le_of_ble_eq_true rfl), fun q => hQ' _ M ?_ q1⟩
  · unfold aFlt; rw [if_pos hu, if_pos q]; exact (q1.2.1.2.1.2.2.1 _ hf).symm
  · unfold aFlt; rw [if_pos hu, if_neg (by omega), if_pos q, ← lb, b]; rfl
  · unfold aFlt; rw [if_pos hu, if_neg (by omega), if_pos q, ← lb, b]; rfl
  · unfold aFlt; rw [if_pos hu, if_neg (by omega), if_neg (by omega), if_pos q]; exact (q1.2.2.1.2.2.2 _ (by omega)).symm
  · unfold aFlt
    rw [if_pos hu, if_neg (by omega), if_neg (by omega), if_neg (by omega), if_pos q, ← lb, b]
    have e : (M.1 59 x1.toNatClampNeg).toInt = ewy (wyD H (szG S) x1.toNatClampNeg) := l1.2.1 x1.toNatClampNeg (by omega)
    have ne : wyD H (szG S) x1.toNatClampNeg ≠ 99 := by
      have := lb.symm.trans b
      exact of_decide_eq_true this
    unfold ewy at e
    rw [if_neg ne] at e
    exact ofI e
  · unfold aFlt; rw [if_pos hu, if_neg (by omega), if_neg (by omega), if_neg (by omega), if_pos q, ← lb, b]; rfl
  · unfold aFlt; rw [if_pos hu, if_neg (by omega), if_neg (by omega), if_neg (by omega), if_neg (by omega), if_pos q]
  · unfold aFlt; rw [if_pos hu, if_neg (by omega), if_neg (by omega), if_neg (by omega), if_neg (by omega), if_neg (by omega), if_pos q]
  · unfold aFlt; rw [if_pos hu, if_neg (by omega), if_neg (by omega), if_neg (by omega), if_neg (by omega), if_neg (by omega), if_neg (by omega)]
theorem eb_flat {Q : Int32 → dM → Prop} (hK : KR H S P L s m) (hQ : ∀ m' : dM, RsF m m' → Q (aFlt H S x1 x2) m') : c_X12_flat_70 7 x1 x2 m Q := by
  have f7 := hK.1.1.1
  have hQ' : ∀ (v : Int32) (m' : dM), aFlt H S x1 x2 = v → RsF m m' → Q v m' := fun v m' e q => by rw [← e]; exact hQ m' q
  refine v_X12_flat_70 (Wp.deep (y_isFlatr hK.1 (fun hu => ⟨fun _ => ?_, fun z => absurd z (by decide)⟩) (fun hu => ⟨fun z => absurd rfl z, fun _ => hQ' _ m (by unfold aFlt; rw [if_neg hu]) (RsF.rf m)⟩)) (Nat.le_of_ble_eq_true rfl))
  have hx := toNat_of hu.1
  have hf : x1.toNatClampNeg < hoF H := by omega
  refine y_copies hK.1 hK.2.1 (fun M f cy _ _ => ?_)
  have a := cy.1.2.1.1
  have e7 := y_idx (C := 7) (c := (7 : Int32)) (by decide) a.1 a.2 hx (by decide) (by omega)
  have e40 := d_add (k := x1) (K := x1.toNatClampNeg) (x := (40 : Int32)) (i := 40) (by decide) hx (by omega)
  refine ⟨fun q => ⟨by omega, hQ' _ M ?_ f⟩, fun q => Wp.deep (y_isLit cy.2.2 hx (by omega) (fun b => ⟨fun z => absurd z (by decide), fun _ => hQ' _ M ?_ f⟩) (fun b => ⟨fun _ => hQ' _ M ?_ f, fun z => absurd rfl z⟩)) (Nat.le_of_ble_eq_true rfl), fun q => ⟨by omega, hQ' _ M ?_ f⟩, fun q => Wp.deep (y_isLit cy.2.2 hx (by omega) (fun b => ⟨fun z => absurd z (by decide), fun _ => ⟨by omega, hQ' _ M ?_ f⟩⟩) (fun b => ⟨fun _ => hQ' _ M ?_ f, fun z => absurd rfl z⟩)) (Nat.le_of_ble_eq_true rfl), fun q => Wp.deep (y_quarrelOf cy.1 cy.2.1 hx (by omega) (fun M2 f2 => hQ' _ M2 ?_ (f.tr f2.rs))) (Nat.le_of_ble_eq_true rfl), fun q => Wp.deep (y_ampsOn cy hx (hQ' _ M ?_ f)) (Nat.le_of_ble_eq_true rfl), fun q => hQ' _ M ?_ f⟩
  · unfold aFlt; rw [if_pos hu, if_pos q, d_cn e7]; exact (cy.1.2.2.2.1 _ hf).symm
  · unfold aFlt; rw [if_pos hu, if_neg (by omega), if_pos q, b]; rfl
  · unfold aFlt; rw [if_pos hu, if_neg (by omega), if_pos q, b]; rfl
  · unfold aFlt; rw [if_pos hu, if_neg (by omega), if_neg (by omega), if_pos q, d_cn e40]; exact (cy.2.1.2.2.1 _ hf).symm
  · unfold aFlt; rw [if_pos hu, if_neg (by omega), if_neg (by omega), if_neg (by omega), if_pos q, b]; exact ofI (cy.2.2.1 x1.toNatClampNeg (by omega))
  · unfold aFlt; rw [if_pos hu, if_neg (by omega), if_neg (by omega), if_neg (by omega), if_pos q, b]; rfl
  · unfold aFlt; rw [if_pos hu, if_neg (by omega), if_neg (by omega), if_neg (by omega), if_neg (by omega), if_pos q]
  · unfold aFlt; rw [if_pos hu, if_neg (by omega), if_neg (by omega), if_neg (by omega), if_neg (by omega), if_neg (by omega), if_pos q]
  · unfold aFlt; rw [if_pos hu, if_neg (by omega), if_neg (by omega), if_neg (by omega), if_neg (by omega), if_neg (by omega), if_neg (by omega)]
theorem ea_wire {Q : Int32 → dM → Prop} (hK : KC H S P L m) (hO : zOk H S) (hQ : ∀ m' : dM, QC H S P L m m' → Q (aWir H S x1 x2) m') : c_X11_wire_0 7 x1 x2 m Q := by
  have q0 := QC.rf hK
  have w10 := hK.1.1.2.1
  have hQ' : ∀ (v : Int32) (m' : dM), aWir H S x1 x2 = v → QC H S P L m m' → Q v m' := fun v m' e q => by rw [← e]; exact hQ m' q
  refine v_X11_wire_0 (Wp.deep (y_isWirec hK.1 (fun hu => ⟨fun _ => ?_, fun z => absurd z (by decide)⟩) (fun hu => ⟨fun z => absurd rfl z, fun _ => hQ' _ m (by unfold aWir; rw [if_neg hu]) q0⟩)) (Nat.le_of_ble_eq_true rfl))
  have hx := toNat_of hu.1
  have hw : x1.toNatClampNeg < hoW H := by omega
  have g3 : m.1 47 3 = szG S := hK.2.1.1.2.2.2.1
  have g4 : m.1 47 4 = szP S := hK.2.1.1.2.2.2.2.1
  refine ⟨fun q => ⟨by omega, hQ' _ m ?_ q0⟩, fun q => ⟨by omega, hQ' _ m ?_ q0⟩, fun q => ⟨by omega, hQ' _ m ?_ q0⟩, fun q => Wp.deep (y_has hx (by omega) (fun b => ⟨fun z => absurd z (by decide), fun _ => hQ' _ m ?_ q0⟩) (fun b => ⟨fun _ => hQ' _ m ?_ q0, fun z => absurd rfl z⟩)) (Nat.le_of_ble_eq_true rfl), fun q => ⟨by omega, hQ' _ m ?_ q0⟩, fun q => Wp.deep (y_has hx (by omega) (fun b => ⟨fun z => absurd z (by decide), fun _ => hQ' _ m ?_ q0⟩) (fun b => ⟨fun _ => hQ' _ m ?_ q0, fun z => absurd rfl z⟩)) (Nat.le_of_ble_eq_true rfl), fun q => Wp.deep (k_load hK hO hx (by omega) (fun M q1 => hQ' _ M ?_ q1)) (Nat.le_of_ble_eq_true rfl), fun q => Wp.deep (y_cost47 hK.1 hK.2.1 hx (by omega) (fun M f => hQ' _ M ?_ (q0.va f))) (Nat.le_of_ble_eq_true rfl), fun q => v_X0_goingNow_54_47 (Wp.deep (k_usesNow q0 hO (fun M q1 _ => k_goingWith q1 hO (fun M2 q2 => Wp.deep (y_has hx (by omega) (fun b => ⟨fun z => absurd z (by decide), fun _ => hQ' _ M2 ?_ q2⟩) (fun b => ⟨fun _ => hQ' _ M2 ?_ q2, fun z => absurd rfl z⟩)) (Nat.le_of_ble_eq_true rfl)))) (Nat.le_of_ble_eq_true rfl)), fun q => hQ' _ m ?_ q0⟩
  · unfold aWir; rw [if_pos hu, if_pos q]; exact ofI (hK.1.2.1.1.2.2 _ hw).1.1
  · unfold aWir; rw [if_pos hu, if_neg (by omega), if_pos q]; exact ofI (hK.1.2.1.1.2.2 _ hw).1.2
  · unfold aWir; rw [if_pos hu, if_neg (by omega), if_neg (by omega), if_pos q]; exact (hK.2.1.2.1 _ (by omega)).symm
  · rw [g3] at b; unfold aWir; rw [if_pos hu, if_neg (by omega), if_neg (by omega), if_neg (by omega), if_pos q, b]; decide
  · rw [g3] at b; unfold aWir; rw [if_pos hu, if_neg (by omega), if_neg (by omega), if_neg (by omega), if_pos q, b]; decide
  · unfold aWir; rw [if_pos hu, if_neg (by omega), if_neg (by omega), if_neg (by omega), if_neg (by omega), if_pos q]; exact (hK.2.1.2.2.1 _ (by omega)).symm
  · rw [g4] at b; unfold aWir; rw [if_pos hu, if_neg (by omega), if_neg (by omega), if_neg (by omega), if_neg (by omega), if_neg (by omega), if_pos q, b]; rfl
  · rw [g4] at b; unfold aWir; rw [if_pos hu, if_neg (by omega), if_neg (by omega), if_neg (by omega), if_neg (by omega), if_neg (by omega), if_pos q, b]; rfl
  · unfold aWir; rw [if_pos hu, if_neg (by omega), if_neg (by omega), if_neg (by omega), if_neg (by omega), if_neg (by omega), if_neg (by omega), if_pos q]
  · unfold aWir; rw [if_pos hu, if_neg (by omega), if_neg (by omega), if_neg (by omega), if_neg (by omega), if_neg (by omega), if_neg (by omega), if_neg (by omega), if_pos q]
  · unfold gng at b; rw [bt_bs _ (by omega), decide_eq_true hw, Bool.true_and] at b; unfold aWir; rw [if_pos hu, if_neg (by omega), if_neg (by omega), if_neg (by omega), if_neg (by omega), if_neg (by omega), if_neg (by omega), if_neg (by omega), if_neg (by omega), if_pos q, b]; rfl
  · unfold gng at b; rw [bt_bs _ (by omega), decide_eq_true hw, Bool.true_and] at b; unfold aWir; rw [if_pos hu, if_neg (by omega), if_neg (by omega), if_neg (by omega), if_neg (by omega), if_neg (by omega), if_neg (by omega), if_neg (by omega), if_neg (by omega), if_pos q, b]; rfl
  · unfold aWir; rw [if_pos hu, if_neg (by omega), if_neg (by omega), if_neg (by omega), if_neg (by omega), if_neg (by omega), if_neg (by omega), if_neg (by omega), if_neg (by omega), if_neg (by omega)]
theorem eb_wire {Q : Int32 → dM → Prop} (hK : KR H S P L s m) (hQ : ∀ m' : dM, RsF m m' → Q (aWir H S x1 x2) m') : c_X12_wire_70 7 x1 x2 m Q := by
  have w10 := hK.1.1.2.1
  have hQ' : ∀ (v : Int32) (m' : dM), aWir H S x1 x2 = v → RsF m m' → Q v m' := fun v m' e q => by rw [← e]; exact hQ m' q
  refine v_X12_wire_70 (Wp.deep (y_isWire hK.1.2.1 (fun hu => ⟨fun _ => ?_, fun z => absurd z (by decide)⟩) (fun hu => ⟨fun z => absurd rfl z, fun _ => hQ' _ m (by unfold aWir; rw [if_neg hu]) (RsF.rf m)⟩)) (Nat.le_of_ble_eq_true rfl))
  have hx := toNat_of hu.1
  have hw : x1.toNatClampNeg < hoW H := by omega
  refine y_copies hK.1 hK.2.1 (fun M f cy _ _ => ?_)
  have a := cy.1.2.1.1
  have e0 := y_idx (C := 10) (c := (10 : Int32)) (by decide) a.1 a.2 hx (by decide) (by omega)
  have e10 := d_add (k := x1) (K := x1.toNatClampNeg) (x := (10 : Int32)) (i := 10) (by decide) hx (by omega)
  have e20 := d_add (k := x1) (K := x1.toNatClampNeg) (x := (20 : Int32)) (i := 20) (by decide) hx (by omega)
  have e30 := d_add (k := x1) (K := x1.toNatClampNeg) (x := (30 : Int32)) (i := 30) (by decide) hx (by omega)
  have z := cy.2.1.2.1 _ hw
  have eh : M.1 108 55 = szH S := cy.2.1.1.1
  refine ⟨fun q => ⟨by omega, hQ' _ M ?_ f⟩, fun q => ⟨by omega, hQ' _ M ?_ f⟩, fun q => ⟨by omega, hQ' _ M ?_ f⟩, fun q => ⟨by omega, hQ' _ M ?_ f⟩, fun q => ⟨by omega, hQ' _ M ?_ f⟩, fun q => ⟨by omega, hQ' _ M ?_ f⟩, fun q => Wp.deep (y_onNow cy (Wp.deep (y_loadBy cy.1 cy.2.2 hx (by omega) (hQ' _ M ?_ f)) (Nat.le_of_ble_eq_true rfl))) (Nat.le_of_ble_eq_true rfl), fun q => Wp.deep (y_costsOf cy.1 cy.2.1 hx (by omega) (fun M2 f2 => hQ' _ M2 ?_ (f.tr f2.rs))) (Nat.le_of_ble_eq_true rfl), fun q => Wp.deep (y_onNow cy (Wp.deep (y_doesGo cy.1 cy.2.1 cy.2.2 hx (by omega) (fun M2 f2 => ⟨fun b => hQ' _ M2 ?_ (f.tr f2.rs), fun b => hQ' _ M2 ?_ (f.tr f2.rs)⟩)) (Nat.le_of_ble_eq_true rfl))) (Nat.le_of_ble_eq_true rfl), fun q => hQ' _ M ?_ f⟩
  · unfold aWir; rw [if_pos hu, if_pos q, d_cn e0]; exact ofI (cy.1.2.1.2.2.2 _ hw).1.1
  · unfold aWir; rw [if_pos hu, if_neg (by omega), if_pos q, d_cn e0]; exact ofI (cy.1.2.1.2.2.2 _ hw).1.2
  · unfold aWir; rw [if_pos hu, if_neg (by omega), if_neg (by omega), if_pos q]; exact z.1.symm
  · unfold aWir; rw [if_pos hu, if_neg (by omega), if_neg (by omega), if_neg (by omega), if_pos q, d_cn e10, z.2.1]
  · unfold aWir; rw [if_pos hu, if_neg (by omega), if_neg (by omega), if_neg (by omega), if_neg (by omega), if_pos q, d_cn e20]; exact z.2.2.1.symm
  · unfold aWir; rw [if_pos hu, if_neg (by omega), if_neg (by omega), if_neg (by omega), if_neg (by omega), if_neg (by omega), if_pos q, d_cn e30]; exact z.2.2.2.symm
  · unfold aWir; rw [if_pos hu, if_neg (by omega), if_neg (by omega), if_neg (by omega), if_neg (by omega), if_neg (by omega), if_neg (by omega), if_pos q]
  · unfold aWir; rw [if_pos hu, if_neg (by omega), if_neg (by omega), if_neg (by omega), if_neg (by omega), if_neg (by omega), if_neg (by omega), if_neg (by omega), if_pos q]
  · rw [eh] at b; unfold aWir; rw [if_pos hu, if_neg (by omega), if_neg (by omega), if_neg (by omega), if_neg (by omega), if_neg (by omega), if_neg (by omega), if_neg (by omega), if_neg (by omega), if_pos q]; exact bi_z b
  · rw [eh] at b; unfold aWir; rw [if_pos hu, if_neg (by omega), if_neg (by omega), if_neg (by omega), if_neg (by omega), if_neg (by omega), if_neg (by omega), if_neg (by omega), if_neg (by omega), if_pos q]; exact bi_n b
  · unfold aWir; rw [if_pos hu, if_neg (by omega), if_neg (by omega), if_neg (by omega), if_neg (by omega), if_neg (by omega), if_neg (by omega), if_neg (by omega), if_neg (by omega), if_neg (by omega)]
end QFW
