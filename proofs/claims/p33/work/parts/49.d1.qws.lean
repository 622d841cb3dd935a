/-! QUESTIONS, exactly: way, share -/
/-- along its way, so many wires on -/
def wGo (H : Ho) (g : Int32) : Nat → Nat → Nat
  | 0, f => f
  | k + 1, f => wGo H g k (ot (hoA H) (hoB H) (wyN H g f) f)
def aWay (H : Ho) (S : Zt) (x1 x2 : Int32) : Int32 := if (0 ≤ x1.toInt ∧ x1.toInt < (hoF H : Int)) ∧ 0 ≤ x2.toInt then cond (lt H (szG S) x1.toNatClampNeg) (if x2.toInt < (wyD H (szG S) x1.toNatClampNeg : Int) then Int32.ofInt (wyN H (szG S) (wGo H (szG S) x2.toNatClampNeg x1.toNatClampNeg) : Int) else -1) (-2) else -1
def aShr (H : Ho) (S : Zt) (x1 x2 : Int32) : Int32 := if (0 ≤ x1.toInt ∧ x1.toInt < (hoF H : Int)) ∧ 0 ≤ x2.toInt ∧ x2.toInt < (hoW H : Int) then cond (bt (wyV H (szG S) x1.toNatClampNeg) x2.toNatClampNeg) (amf H (onA H S (hod (szH S))) x1.toNatClampNeg (hoU H)) 0 else -1
section QWS
variable {H : Ho} {S : Zt} {P : List Zt} {L : Nat → Zt} {m : dM} {s : Nat} {x1 x2 : Int32}
theorem ea_way {Q : Int32 → dM → Prop} (hK : KC H S P L m) (hO : zOk H S) (hQ : ∀ m' : dM, QC H S P L m m' → Q (aWay H S x1 x2) m') : c_X11_way_0 4 x1 x2 m Q := by
  have q0 := QC.rf hK
  have f7 := hK.1.1.1
  have w10 := hK.1.1.2.1
  have hQ' : ∀ (v : Int32) (m' : dM), aWay H S x1 x2 = v → QC H S P L m m' → Q v m' := fun v m' e q => by rw [← e]; exact hQ m' q
  have no : ¬ ((0 ≤ x1.toInt ∧ x1.toInt < (hoF H : Int)) ∧ 0 ≤ x2.toInt) → j_X11_way_0_12 4 m Q := fun q => v_X11_way_0_12 (hQ' _ m (by unfold aWay; rw [if_neg q]) q0)
  refine v_X11_way_0 (Wp.deep (y_isFlatc hK.1 (fun hu => ⟨fun z => absurd z (by decide), fun _ => ⟨fun h2 => ?_, fun q => no (fun w => by omega)⟩⟩) (fun hu => ⟨fun _ => no (fun w => hu w.1), fun z => absurd rfl z⟩)) (Nat.le_of_ble_eq_true rfl))
  have hx := toNat_of hu.1
  have h2x := toNat_of h2
  have hf0 : x1.toNatClampNeg < hoF H := by omega
  refine k_ways q0 hO (fun M q1 l1 => ?_)
  have lb := lt_bits l1 hf0 (by omega)
  have eA : aWay H S x1 x2 = cond (lt H (szG S) x1.toNatClampNeg) (if x2.toInt < (wyD H (szG S) x1.toNatClampNeg : Int) then Int32.ofInt (wyN H (szG S) (wGo H (szG S) x2.toNatClampNeg x1.toNatClampNeg) : Int) else -1) (-2) := by unfold aWay; rw [if_pos ⟨hu, h2⟩]
  refine Wp.deep (y_has hx (by omega) (fun g => ⟨fun z => absurd z (by decide), fun _ => ?_⟩) (fun g => ⟨fun _ => hQ' _ M (by rw [eA, ← lb, g]; rfl) q1, fun z => absurd rfl z⟩)) (Nat.le_of_ble_eq_true rfl)
  have eB : aWay H S x1 x2 = if x2.toInt < (wyD H (szG S) x1.toNatClampNeg : Int) then Int32.ofInt (wyN H (szG S) (wGo H (szG S) x2.toNatClampNeg x1.toNatClampNeg) : Int) else -1 := by rw [eA, ← lb, g]; rfl
  have hH := q1.2.1.2.1.1
  have loop : ∀ (t i f : Nat) (x3 x4 : Int32), i + t = 7 → x4.toInt = (i : Int) → x3.toInt = (f : Int) → f < hoF H → (x2.toInt < (i : Int) + (wyD H (szG S) f : Int) ∧ i + wyD H (szG S) f ≤ 6 ∧ i ≤ x2.toNatClampNeg) → aWay H S x1 x2 = Int32.ofInt (wyN H (szG S) (wGo H (szG S) (x2.toNatClampNeg - i) f) : Int) → j_X10_wireAt_57_21 3 x2 x3 x4 M Q := by
    intro t
    induction t with
    | zero =>
      intro i f x3 x4 hi h4 h3 hf hd e
      exfalso
      omega
    | succ t ih =>
      intro i f x3 x4 hi h4 h3 hf hd e
      obtain ⟨n, hn⟩ : ∃ n, wyD H (szG S) f = n + 1 := ⟨wyD H (szG S) f - 1, by omega⟩
      have nk := nx_ok (nf := hoF H) (nw := hoW H) (e1 := hoA H) (e2 := hoB H) (G := bt (szG S)) (n := n) (f := f) (by omega) hn
      have e58 := l1.2.2.2.1 f hf (by show wyD H (szG S) f ≠ 99; omega) (by show wyD H (szG S) f ≠ 0; omega)
      obtain ⟨⟨w1, w2⟩, q1', q2', q3'⟩ := hH.2.2 _ nk.1
      refine v_X10_wireAt_57_21 ⟨fun q => ⟨by omega, hQ' _ M ?_ q1⟩, fun q => ⟨by omega, ?_⟩⟩
      · rw [e, show x2.toNatClampNeg - i = 0 by omega, d_cn h3]
        exact ofI e58
      rw [d_cn h3, d_cn e58, w1, h3]
      have dn : wyD H (szG S) (ot (hoA H) (hoB H) (nx (hoF H) (hoW H) (hoA H) (hoB H) (bt (szG S)) f) f) = n := nk.2.2
      rw [show x2.toNatClampNeg - i = (x2.toNatClampNeg - (i + 1)) + 1 by omega] at e
      have e : aWay H S x1 x2 = Int32.ofInt (wyN H (szG S) (wGo H (szG S) (x2.toNatClampNeg - (i + 1)) (ot (hoA H) (hoB H) (nx (hoF H) (hoW H) (hoA H) (hoB H) (bt (szG S)) f) f)) : Int) := e
      refine ⟨by omega, fun ne => ⟨by omega, ih (i + 1) (hoA H (nx (hoF H) (hoW H) (hoA H) (hoB H) (bt (szG S)) f)) _ _ (by omega) (d_inc h4 (by omega)) w1 q1' ?_ ?_⟩, fun ee => ⟨by omega, ih (i + 1) (hoB H (nx (hoF H) (hoW H) (hoA H) (hoB H) (bt (szG S)) f)) _ _ (by omega) (d_inc h4 (by omega)) w2 q2' ?_ ?_⟩⟩
      · unfold ot at dn
        rw [if_neg (by omega)] at dn
        omega
      · unfold ot at e
        rw [if_neg (by omega)] at e
        exact e
      · unfold ot at dn
        rw [if_pos (by omega)] at dn
        omega
      · unfold ot at e
        rw [if_pos (by omega)] at e
        exact e
  have e59 := l1.2.1 x1.toNatClampNeg (by omega)
  have lit : wyD H (szG S) x1.toNatClampNeg ≠ 99 := by
    have := lb.symm.trans g
    exact of_decide_eq_true this
  have e59 : (M.1 59 x1.toNatClampNeg).toInt = ewy (wyD H (szG S) x1.toNatClampNeg) := e59
  unfold ewy at e59
  rw [if_neg lit] at e59
  refine v_X10_wireAt_57 ⟨fun q => by exfalso; omega, fun _ => ⟨by omega, fun q => ?_, fun q => v_X10_wireAt_57_14 (hQ' _ M (by rw [eB, if_neg (by omega)]) q1)⟩⟩
  have b0 := dD_le (nf := hoF H) (nw := hoW H) (e1 := hoA H) (e2 := hoB H) (G := bt (szG S)) (f := x1.toNatClampNeg)
  have b0 : wyD H (szG S) x1.toNatClampNeg ≤ 6 ∨ wyD H (szG S) x1.toNatClampNeg = 99 := b0
  exact loop 7 0 x1.toNatClampNeg _ _ rfl (by decide) hx (by omega) ⟨by omega, by omega, by omega⟩ (by rw [eB, if_pos (by omega)]; rfl)
theorem eb_way {Q : Int32 → dM → Prop} (hK : KR H S P L s m) (hQ : ∀ m' : dM, RsF m m' → Q (aWay H S x1 x2) m') : c_X12_way_70 7 x1 x2 m Q := by
  have f7 := hK.1.1.1
  have hQ' : ∀ (v : Int32) (m' : dM), aWay H S x1 x2 = v → RsF m m' → Q v m' := fun v m' e q => by rw [← e]; exact hQ m' q
  have no : ¬ ((0 ≤ x1.toInt ∧ x1.toInt < (hoF H : Int)) ∧ 0 ≤ x2.toInt) → j_X12_way_70_12 7 m Q := fun q => v_X12_way_70_12 (hQ' _ m (by unfold aWay; rw [if_neg q]) (RsF.rf m))
  refine v_X12_way_70 (Wp.deep (y_isFlatr hK.1 (fun hu => ⟨fun z => absurd z (by decide), fun _ => ⟨fun h2 => ?_, fun q => no (fun w => by omega)⟩⟩) (fun hu => ⟨fun _ => no (fun w => hu w.1), fun z => absurd rfl z⟩)) (Nat.le_of_ble_eq_true rfl))
  have hx := toNat_of hu.1
  have h2x := toNat_of h2
  have eA : aWay H S x1 x2 = cond (lt H (szG S) x1.toNatClampNeg) (if x2.toInt < (wyD H (szG S) x1.toNatClampNeg : Int) then Int32.ofInt (wyN H (szG S) (wGo H (szG S) x2.toNatClampNeg x1.toNatClampNeg) : Int) else -1) (-2) := by unfold aWay; rw [if_pos ⟨hu, h2⟩]
  refine y_copies hK.1 hK.2.1 (fun M f cy _ _ => ?_)
  have e109 := cy.2.2.1 x1.toNatClampNeg (by omega)
  refine Wp.deep (y_isLit cy.2.2 hx (by omega) (fun g => ⟨fun _ => ⟨by omega, fun lt' => ?_, fun q => hQ' _ M (by rw [eA, g]; show (if _ then _ else _) = _; rw [if_neg (by omega)]) f⟩, fun z => absurd z (by decide)⟩) (fun g => ⟨fun z => absurd rfl z, fun _ => hQ' _ M (by rw [eA, g]; rfl) f⟩)) (Nat.le_of_ble_eq_true rfl)
  have eB : aWay H S x1 x2 = Int32.ofInt (wyN H (szG S) (wGo H (szG S) x2.toNatClampNeg x1.toNatClampNeg) : Int) := by
    rw [eA, g]
    show (if _ then _ else _) = _
    rw [if_pos (by omega)]
  have hG : RG (hoW H) (bt (szG S)) M := cy.2.1.rg (r := 0)
  have loop : ∀ (t i f' : Nat) (x3 x4 : Int32), i + t = 7 → x4.toInt = (i : Int) → x3.toInt = (f' : Int) → f' < hoF H → (x2.toInt < (i : Int) + (wyD H (szG S) f' : Int) ∧ i + wyD H (szG S) f' ≤ 6 ∧ (i : Int) ≤ x2.toInt) → aWay H S x1 x2 = Int32.ofInt (wyN H (szG S) (wGo H (szG S) (x2.toNatClampNeg - i) f') : Int) → j_X12_way_70_46 7 x2 x3 x4 M Q := by
    intro t
    induction t with
    | zero => intro i f' x3 x4 hi h4 h3 hf hd; exfalso; omega
    | succ t ih =>
      intro i f' x3 x4 hi h4 h3 hf hd e
      refine v_X12_way_70_46 ⟨fun q => ?_, fun q => ?_⟩
      · obtain ⟨n, hn⟩ : ∃ n, wyD H (szG S) f' = n + 1 := ⟨wyD H (szG S) f' - 1, by omega⟩
        exact Wp.deep (y_wireFrom cy.1.2.1 hG cy.2.2.1 h3 (by omega) (by omega : n < 6) hn (fun r hr => hQ' _ M (by rw [e, show x2.toNatClampNeg - i = 0 by omega]; exact ofI hr) f)) (Nat.le_of_ble_eq_true rfl)
      · obtain ⟨n, hn⟩ : ∃ n, wyD H (szG S) f' = n + 1 := ⟨wyD H (szG S) f' - 1, by omega⟩
        have nk := nx_ok (nf := hoF H) (nw := hoW H) (e1 := hoA H) (e2 := hoB H) (G := bt (szG S)) (n := n) (f := f') (by omega) hn
        have en := (cy.1.1.2.2.2.1 _ nk.1)
        refine Wp.deep (y_wireFrom cy.1.2.1 hG cy.2.2.1 h3 (by omega) (by omega : n < 6) hn (fun r hr => Wp.deep (y_otherEnd cy.1.2.1 hr nk.1 h3 (fun r2 ht hr2 => ih (i + 1) _ _ _ (by omega) (d_inc h4 (by omega)) hr2 ?_ ?_ ?_) (fun no2 => ?_)) (Nat.le_of_ble_eq_true rfl))) (Nat.le_of_ble_eq_true rfl)
        · unfold ot; split <;> omega
        · have dn : wyD H (szG S) (ot (hoA H) (hoB H) (nx (hoF H) (hoW H) (hoA H) (hoB H) (bt (szG S)) f') f') = n := nk.2.2
          rw [dn]
          omega
        · rw [show x2.toNatClampNeg - i = (x2.toNatClampNeg - (i + 1)) + 1 by omega] at e
          exact e
        · exfalso
          have k2 := nk.2.1
          unfold tch at k2
          rw [Bool.and_eq_true, Bool.or_eq_true, decide_eq_true_eq, decide_eq_true_eq] at k2
          exact no2 k2.2
  have lit : wyD H (szG S) x1.toNatClampNeg ≠ 99 := by
    unfold lt at g
    exact of_decide_eq_true g
  have b0 := dD_le (nf := hoF H) (nw := hoW H) (e1 := hoA H) (e2 := hoB H) (G := bt (szG S)) (f := x1.toNatClampNeg)
  have b0 : wyD H (szG S) x1.toNatClampNeg ≤ 6 ∨ wyD H (szG S) x1.toNatClampNeg = 99 := b0
  exact loop 7 0 x1.toNatClampNeg _ _ rfl (by decide) hx (by omega) ⟨by omega, by omega, by omega⟩ eB
theorem ea_share {Q : Int32 → dM → Prop} (hK : KC H S P L m) (hO : zOk H S) (hQ : ∀ m' : dM, QC H S P L m m' → Q (aShr H S x1 x2) m') : c_X11_share_0 5 x1 x2 m Q := by
  have q0 := QC.rf hK
  have f7 := hK.1.1.1
  have w10 := hK.1.1.2.1
  have hQ' : ∀ (v : Int32) (m' : dM), aShr H S x1 x2 = v → QC H S P L m m' → Q v m' := fun v m' e q => by rw [← e]; exact hQ m' q
  have no : ¬ ((0 ≤ x1.toInt ∧ x1.toInt < (hoF H : Int)) ∧ 0 ≤ x2.toInt ∧ x2.toInt < (hoW H : Int)) → j_X11_share_0_16 5 m Q := fun q => v_X11_share_0_16 (hQ' _ m (by unfold aShr; rw [if_neg q]) q0)
  refine v_X11_share_0 (Wp.deep (y_isFlatc hK.1 (fun hu => ⟨fun z => absurd z (by decide), fun _ => ?_⟩) (fun hu => ⟨fun _ => no (fun w => hu w.1), fun z => absurd rfl z⟩)) (Nat.le_of_ble_eq_true rfl))
  have hx := toNat_of hu.1
  have hf : x1.toNatClampNeg < hoF H := by omega
  refine Wp.deep (y_isWirec hK.1 (fun hw => ⟨fun _ => ?_, fun z => absurd z (by decide)⟩) (fun hw => ⟨fun z => absurd rfl z, fun _ => no (fun w => hw w.2)⟩)) (Nat.le_of_ble_eq_true rfl)
  have hy := toNat_of hw.1
  refine Wp.deep (k_ways q0 hO (fun M q1 l1 => ⟨by omega, ?_⟩)) (Nat.le_of_ble_eq_true rfl)
  have e60 : M.1 60 x1.toNatClampNeg = wyV H (szG S) x1.toNatClampNeg := by
    rw [l1.2.2.1 _ hf]
    by_cases q : dD (hoF H) (hoW H) (hoA H) (hoB H) (bt (szG S)) x1.toNatClampNeg = 99
    · rw [if_pos q]; exact (via_99 q).symm
    · rw [if_neg q]; rfl
  have eA : aShr H S x1 x2 = cond (bt (wyV H (szG S) x1.toNatClampNeg) x2.toNatClampNeg) (amf H (onA H S (hod (szH S))) x1.toNatClampNeg (hoU H)) 0 := by unfold aShr; rw [if_pos ⟨hu, hw⟩]
  rw [e60]
  exact Wp.deep (y_has hy (by omega) (fun b => ⟨fun z => absurd z (by decide), fun _ => k_usesNow q1 hO (fun M2 q2 l2 => Wp.deep (k_amps q2.2.1 hx (hQ' _ M2 (by rw [eA, b]; rfl) q2)) (Nat.le_of_ble_eq_true rfl))⟩) (fun b => ⟨fun _ => hQ' _ M (by rw [eA, b]; rfl) q1, fun z => absurd rfl z⟩)) (Nat.le_of_ble_eq_true rfl)
theorem eb_share {Q : Int32 → dM → Prop} (hK : KR H S P L s m) (hQ : ∀ m' : dM, RsF m m' → Q (aShr H S x1 x2) m') : c_X12_share_70 7 x1 x2 m Q := by
  have f7 := hK.1.1.1
  have w10 := hK.1.1.2.1
  have hQ' : ∀ (v : Int32) (m' : dM), aShr H S x1 x2 = v → RsF m m' → Q v m' := fun v m' e q => by rw [← e]; exact hQ m' q
  have no : ¬ ((0 ≤ x1.toInt ∧ x1.toInt < (hoF H : Int)) ∧ 0 ≤ x2.toInt ∧ x2.toInt < (hoW H : Int)) → j_X12_share_70_16 7 m Q := fun q => v_X12_share_70_16 (hQ' _ m (by unfold aShr; rw [if_neg q]) (RsF.rf m))
  refine v_X12_share_70 (Wp.deep (y_isFlatr hK.1 (fun hu => ⟨fun z => absurd z (by decide), fun _ => Wp.deep (y_isWire hK.1.2.1 (fun hw => ⟨fun _ => ?_, fun z => absurd z (by decide)⟩) (fun hw => ⟨fun z => absurd rfl z, fun _ => no (fun w => hw w.2)⟩)) (Nat.le_of_ble_eq_true rfl)⟩) (fun hu => ⟨fun _ => no (fun w => hu w.1), fun z => absurd rfl z⟩)) (Nat.le_of_ble_eq_true rfl))
  have hx := toNat_of hu.1
  have hy := toNat_of hw.1
  have eA : aShr H S x1 x2 = cond (bt (wyV H (szG S) x1.toNatClampNeg) x2.toNatClampNeg) (amf H (onA H S (hod (szH S))) x1.toNatClampNeg (hoU H)) 0 := by unfold aShr; rw [if_pos ⟨hu, hw⟩]
  refine y_copies hK.1 hK.2.1 (fun M f cy _ _ => ?_)
  have e110 := cy.2.2.2 x1.toNatClampNeg (by omega)
  have sh := bt_s (x := M.1 110 x1.toNatClampNeg) hy (by omega)
  rw [e110] at sh ⊢
  cases b : bt (wyV H (szG S) x1.toNatClampNeg) x2.toNatClampNeg with
  | true =>
    rw [b, if_pos rfl] at sh
    exact ⟨by omega, fun q => absurd sh q, fun _ => Wp.deep (y_ampsOn cy hx (hQ' _ M (by rw [eA, b]; rfl) f)) (Nat.le_of_ble_eq_true rfl)⟩
  | false =>
    rw [b, if_neg (by decide)] at sh
    exact ⟨by omega, fun _ => hQ' _ M (by rw [eA, b]; rfl) f, fun q => by exfalso; omega⟩
end QWS
