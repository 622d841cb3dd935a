/-! THE REFERENCE: the calls that change how it stands -/
section RCL
variable {H : Ho} {S : Zt} {P : List Zt} {L : Nat → Zt} {s : Nat} {m : dM}
/-- this one alone has changed -/
def RcF (m0 m : dM) : Prop := ∀ k : Nat, k < 70 → m.1 k = m0.1 k
theorem RcF.rf (m : dM) : RcF m m := fun _ _ => rfl
theorem RsF.rc {a b : dM} (h : RsF a b) : RcF a b := fun k q => h.1 k (by omega) (by omega) (by omega)
theorem RcF.tr {a b c : dM} (h : RcF a b) (h' : RcF b c) : RcF a c := fun k q => (h' k q).trans (h k q)
theorem y_isUser {x : Int32} {Q : Int32 → dM → Prop} (hW : RW H s m) (hT : 0 ≤ x.toInt ∧ x.toInt < (hoU H : Int) → Q 1 m) (hF : ¬ (0 ≤ x.toInt ∧ x.toInt < (hoU H : Int)) → Q 0 m) : c_X12_isUse_70 2 x m Q := by
  have a := hW.2.1.1
  have u8 := hW.1.2.2.1
  have f := dSubE (X := (hoU H : Int)) (Y := 1) (x := m.1 86 s) (y := (1 : Int32)) hW.2.2.1 (by decide) (by omega) (by omega)
  have z : (0 : Int32).toInt = 0 := by decide
  refine v_X12_isUse_70 ⟨by omega, ?_⟩
  rw [d_cn a.1]
  exact y_in (fun q => ⟨Or.inr rfl, hT (by omega)⟩) (fun q => ⟨Or.inl rfl, hF (by omega)⟩)
theorem y_isFlatr {x : Int32} {Q : Int32 → dM → Prop} (hW : RW H s m) (hT : 0 ≤ x.toInt ∧ x.toInt < (hoF H : Int) → Q 1 m) (hF : ¬ (0 ≤ x.toInt ∧ x.toInt < (hoF H : Int)) → Q 0 m) : c_X12_isFlat_70 2 x m Q := by
  have a := hW.2.1.1
  have f7 := hW.1.1
  have f := dSubE (X := (hoF H : Int)) (Y := 1) (x := m.1 80 s) (y := (1 : Int32)) hW.2.1.2.1.1 (by decide) (by omega) (by omega)
  have z : (0 : Int32).toInt = 0 := by decide
  refine v_X12_isFlat_70 ⟨by omega, ?_⟩
  rw [d_cn a.1]
  exact y_in (fun q => ⟨Or.inr rfl, hT (by omega)⟩) (fun q => ⟨Or.inl rfl, hF (by omega)⟩)
theorem bi_ne1 {b : Bool} (h : (bi b).toInt ≠ 1) : b = false := by cases b with | false => rfl | true => exact absurd rfl h
theorem bi_eq1 {b : Bool} (h : (bi b).toInt = 1) : b = true := by cases b with | true => rfl | false => exact absurd h (by decide)
theorem bi_eq0 {b : Bool} (h : (bi b).toInt = 0) : b = false := by cases b with | false => rfl | true => exact absurd h (by decide)
theorem bi_ne0 {b : Bool} (h : (bi b).toInt ≠ 0) : b = true := by cases b with | true => rfl | false => exact absurd rfl h
/-- one place of the copy has changed -/
theorem RZ.a {u : Nat} {v g : Int32} (h : RZ H 108 m S) (hO : hOk H) (hu : u < hoU H) (hg : ∀ i : Nat, i ≠ u → bt g i = bt (szA S) i) (hv : v = bi (bt g u)) : RZ H 108 (dSet m 108 (47 + u) v) (setA S g) := by
  obtain ⟨⟨a, b, c⟩, d, e, f⟩ := h
  obtain ⟨o1, o2, o3, _⟩ := hO
  refine ⟨⟨by rw [dSet_j (by omega)]; exact a, by rw [dSet_j (by omega)]; exact b, by rw [dSet_j (by omega)]; exact c⟩, fun w hw => ?_, fun k hk => by rw [dSet_j (by omega)]; exact e k hk, fun i hi => ?_⟩
  · rw [dSet_j (by omega), dSet_j (by omega), dSet_j (by omega), dSet_j (by omega)]
    exact d w hw
  · show _ = bi (bt g i)
    by_cases z : i = u
    · subst z; rw [dSet_s]; exact hv
    · rw [dSet_j (by omega), hg i z]; exact f i hi
theorem RZ.p {w : Nat} {v g : Int32} (h : RZ H 108 m S) (hO : hOk H) (hw : w < hoW H) (hg : ∀ i : Nat, i ≠ w → bt g i = bt (szP S) i) (hv : v = bi (bt g w)) : RZ H 108 (dSet m 108 (30 + w) v) (setP S g) := by
  obtain ⟨⟨a, b, c⟩, d, e, f⟩ := h
  obtain ⟨o1, o2, o3, _⟩ := hO
  refine ⟨⟨by rw [dSet_j (by omega)]; exact a, by rw [dSet_j (by omega)]; exact b, by rw [dSet_j (by omega)]; exact c⟩, fun i hi => ?_, fun k hk => by rw [dSet_j (by omega)]; exact e k hk, fun i hi => by rw [dSet_j (by omega)]; exact f i hi⟩
  obtain ⟨d1, d2, d3, d4⟩ := d i hi
  rw [dSet_j (show i ≠ 30 + w by omega), dSet_j (show 10 + i ≠ 30 + w by omega), dSet_j (show 20 + i ≠ 30 + w by omega)]
  refine ⟨d1, d2, d3, ?_⟩
  show _ = bi (bt g i)
  by_cases z : i = w
  · subst z; rw [dSet_s]; exact hv
  · rw [dSet_j (by omega), hg i z]; exact d4
theorem RZ.g {w : Nat} {v g : Int32} (h : RZ H 108 m S) (hO : hOk H) (hw : w < hoW H) (hg : ∀ i : Nat, i ≠ w → bt g i = bt (szG S) i) (hv : v = bi (bt g w)) : RZ H 108 (dSet m 108 (10 + w) v) (setG S g) := by
  obtain ⟨⟨a, b, c⟩, d, e, f⟩ := h
  obtain ⟨o1, o2, o3, _⟩ := hO
  refine ⟨⟨by rw [dSet_j (by omega)]; exact a, by rw [dSet_j (by omega)]; exact b, by rw [dSet_j (by omega)]; exact c⟩, fun i hi => ?_, fun k hk => by rw [dSet_j (by omega)]; exact e k hk, fun i hi => by rw [dSet_j (by omega)]; exact f i hi⟩
  obtain ⟨d1, d2, d3, d4⟩ := d i hi
  rw [dSet_j (show i ≠ 10 + w by omega), dSet_j (show 30 + i ≠ 10 + w by omega), dSet_j (show 20 + i ≠ 10 + w by omega)]
  refine ⟨d1, ?_, d3, d4⟩
  show _ = bi (bt g i)
  by_cases z : i = w
  · subst z; rw [dSet_s]; exact hv
  · rw [dSet_j (by omega), hg i z]; exact d2
theorem RZ.e {w : Nat} {v : Int32} (h : RZ H 108 m S) (hO : hOk H) (hw : w < hoW H) : RZ H 108 (dSet m 108 (20 + w) v) (setE S (upd (szE S) w v)) := by
  obtain ⟨⟨a, b, c⟩, d, e, f⟩ := h
  obtain ⟨o1, o2, o3, _⟩ := hO
  refine ⟨⟨by rw [dSet_j (by omega)]; exact a, by rw [dSet_j (by omega)]; exact b, by rw [dSet_j (by omega)]; exact c⟩, fun i hi => ?_, fun k hk => by rw [dSet_j (by omega)]; exact e k hk, fun i hi => by rw [dSet_j (by omega)]; exact f i hi⟩
  obtain ⟨d1, d2, d3, d4⟩ := d i hi
  rw [dSet_j (show i ≠ 20 + w by omega), dSet_j (show 30 + i ≠ 20 + w by omega), dSet_j (show 10 + i ≠ 20 + w by omega)]
  refine ⟨d1, d2, ?_, d4⟩
  show _ = upd (szE S) w v i
  rw [upd_j]
  by_cases z : i = w
  · subst z; rw [dSet_s, if_pos rfl]
  · rw [dSet_j (by omega), if_neg z]; exact d3
theorem RZ.r {w : Nat} {v : Int32} (h : RZ H 108 m S) (hO : hOk H) (hw : w < hoW H) : RZ H 108 (dSet m 108 w v) (setR S (upd (szR S) w v)) := by
  obtain ⟨⟨a, b, c⟩, d, e, f⟩ := h
  obtain ⟨o1, o2, o3, _⟩ := hO
  refine ⟨⟨by rw [dSet_j (by omega)]; exact a, by rw [dSet_j (by omega)]; exact b, by rw [dSet_j (by omega)]; exact c⟩, fun i hi => ?_, fun k hk => by rw [dSet_j (by omega)]; exact e k hk, fun i hi => by rw [dSet_j (by omega)]; exact f i hi⟩
  obtain ⟨d1, d2, d3, d4⟩ := d i hi
  rw [dSet_j (show 20 + i ≠ w by omega), dSet_j (show 30 + i ≠ w by omega), dSet_j (show 10 + i ≠ w by omega)]
  refine ⟨?_, d2, d3, d4⟩
  show _ = upd (szR S) w v i
  rw [upd_j]
  by_cases z : i = w
  · subst z; rw [dSet_s, if_pos rfl]
  · rw [dSet_j z, if_neg z]; exact d1
theorem bt_flip {g : Int32} {u i : Nat} (hu : u < 32) (h : i ≠ u) : bt (g ^^^ b1 u) i = bt g i := by rw [bt_xor, bt_1 hu, decide_eq_false h, Bool.xor_false]
theorem bt_flips {g : Int32} {u : Nat} (hu : u < 32) : bt (g ^^^ b1 u) u = !bt g u := by rw [bt_xor, bt_1 hu, decide_eq_true rfl, Bool.xor_true]
theorem bt_m1 {i : Nat} (h : i < 32) : bt (-1 : Int32) i = true := by
  have : (-1 : Int32) = ~~~(0 : Int32) := by decide
  rw [this, bt_not h, bt_0]
  rfl
theorem bt_off {g : Int32} {u i : Nat} (hu : u < 32) (h : i ≠ u) : bt (g &&& (b1 u ^^^ (-1 : Int32))) i = bt g i := by
  by_cases q : i < 32
  · rw [bt_and, bt_xor, bt_1 hu, decide_eq_false h, bt_m1 q, Bool.false_xor, Bool.and_true]
  · rw [bt_big (by omega), bt_big (by omega)]
theorem bt_offs {g : Int32} {u : Nat} (hu : u < 32) : bt (g &&& (b1 u ^^^ (-1 : Int32))) u = false := by
  rw [bt_and, bt_xor, bt_1 hu, decide_eq_true rfl, bt_m1 hu]
  simp
theorem q_agree {x1 x2 : Int32} {Q : Int32 → dM → Prop} (hK : KR H S P L s m) (h2 : x2 = 0 ∨ x2 = 1) (hQ : ∀ m' : dM, RcF m m' → KR H (aAgr H S P x1 x2).2.1 (aAgr H S P x1 x2).2.2 L s m' → Q (aAgr H S P x1 x2).1 m') : c_X12_agree_70 7 x1 x2 m Q := by
  have o3 := hK.1.1.2.2.1
  have no : ¬ ((0 ≤ x1.toInt ∧ x1.toInt < (hoU H : Int)) ∧ (bi (bt (szA S) x1.toNatClampNeg)).toInt ≠ x2.toInt) → j_X12_agree_70_30 7 m Q := fun q => by
    have e : aAgr H S P x1 x2 = (0, S, P) := if_neg q
    rw [e] at hQ
    exact v_X12_agree_70_30 (hQ m (RcF.rf m) hK)
  refine v_X12_agree_70 (Wp.deep (y_isUser hK.1 (fun hu => ⟨fun z => absurd z (by decide), fun _ => ?_⟩) (fun hu => ⟨fun _ => no (fun q => hu q.1), fun z => absurd rfl z⟩)) (Nat.le_of_ble_eq_true rfl))
  have hx := toNat_of hu.1
  generalize hn : x1.toNatClampNeg = u at *
  have e47 := d_add (k := x1) (K := u) (x := (47 : Int32)) (i := 47) (by decide) hx (by omega)
  rw [d_cn e47, hK.2.1.2.2.2 u (by omega)]
  have i0 : (0 : Int32).toInt = 0 := by decide
  have i1 : (1 : Int32).toInt = 1 := by decide
  have go : (bi (bt (szA S) u)).toInt ≠ x2.toInt → ∀ M : dM, RsF m M → CY H S s M → ∀ v : Int32, v.toInt = x2.toInt → c_X12_records_70 6 (dSet M 108 (47 + u) v) (fun m3 => Q (1 : Int32) m3) := fun ne M f cy v hv => by
    have e : aAgr H S P x1 x2 = (1, setA S (szA S ^^^ b1 u), pKeep S P) := by
      unfold aAgr
      rw [hn]
      exact if_pos ⟨hu, ne⟩
    rw [e] at hQ
    have hZ : RZ H 108 (dSet M 108 (47 + u) v) (setA S (szA S ^^^ b1 u)) := cy.2.1.a hK.1.1 (by omega) (fun i hi => bt_flip (by omega) hi) (by
      rw [bt_flips (by omega)]
      apply Int32.toInt_inj.mp
      cases g : bt (szA S) u with
      | true => rw [g] at ne; rcases h2 with q | q <;> subst q <;> first | (rw [hv]; rfl) | exact absurd rfl ne
      | false => rw [g] at ne; rcases h2 with q | q <;> subst q <;> first | exact absurd rfl ne | (rw [hv]; rfl))
    refine Wp.deep (y_records (hK.rs f.set) hZ (fun M2 a b c d => hQ M2 (f.set.rc.tr (fun k q => a k (by omega) (by omega) (by omega))) d)) (Nat.le_of_ble_eq_true rfl)
  have both : (bi (bt (szA S) u)).toInt ≠ x2.toInt → c_X12_copies_70 6 m (fun m2 => (x2.toInt = 0 → (0 ≤ ((47 : Int32) + x1).toInt ∧ ((47 : Int32) + x1).toInt < 58) ∧ c_X12_records_70 6 (dSet m2 108 (47 + u) (0 : Int32)) (fun m3 => Q (1 : Int32) m3)) ∧ (x2.toInt ≠ 0 → (0 ≤ ((47 : Int32) + x1).toInt ∧ ((47 : Int32) + x1).toInt < 58) ∧ c_X12_records_70 6 (dSet m2 108 (47 + u) (1 : Int32)) (fun m4 => Q (1 : Int32) m4))) := fun ne => y_copies hK.1 hK.2.1 (fun M f cy _ _ => ⟨fun z => ⟨by omega, go ne M f cy _ (by rw [z]; rfl)⟩, fun z => ⟨by omega, go ne M f cy _ (by rcases h2 with q | q <;> subst q <;> first | exact absurd rfl z | rfl)⟩⟩)
  refine ⟨by omega, fun n1 => ⟨fun n0 => both ?_, fun e0 => no ?_⟩, fun e1 => ⟨fun n0 => both ?_, fun e0 => no ?_⟩⟩
  · rw [bi_ne1 n1]; exact n0
  · rw [bi_ne1 n1]; exact fun q => q.2 e0
  · rw [bi_eq1 e1]; exact n0
  · rw [bi_eq1 e1]; exact fun q => q.2 e0
theorem q_pin {x1 x2 : Int32} {Q : Int32 → dM → Prop} (hK : KR H S P L s m) (h2 : x2 = 0 ∨ x2 = 1) (hQ : ∀ m' : dM, RcF m m' → KR H (aPin H S P x1 x2).2.1 (aPin H S P x1 x2).2.2 L s m' → Q (aPin H S P x1 x2).1 m') : c_X12_pin_70 7 x1 x2 m Q := by
  have o2 := hK.1.1.2.1
  have no : ¬ ((0 ≤ x1.toInt ∧ x1.toInt < (hoW H : Int)) ∧ bt (szG S) x1.toNatClampNeg = false ∧ (bi (bt (szP S) x1.toNatClampNeg)).toInt ≠ x2.toInt) → j_X12_pin_70_43 7 m Q := fun q => by
    have e : aPin H S P x1 x2 = (0, S, P) := if_neg q
    rw [e] at hQ
    exact v_X12_pin_70_43 (hQ m (RcF.rf m) hK)
  refine v_X12_pin_70 (Wp.deep (y_isWire hK.1.2.1 (fun hu => ⟨fun z => absurd z (by decide), fun _ => ?_⟩) (fun hu => ⟨fun _ => no (fun q => hu q.1), fun z => absurd rfl z⟩)) (Nat.le_of_ble_eq_true rfl))
  have hx := toNat_of hu.1
  generalize hn : x1.toNatClampNeg = u at *
  have e10 := d_add (k := x1) (K := u) (x := (10 : Int32)) (i := 10) (by decide) hx (by omega)
  have e30 := d_add (k := x1) (K := u) (x := (30 : Int32)) (i := 30) (by decide) hx (by omega)
  obtain ⟨z1, z2, z3, z4⟩ := hK.2.1.2.1 u (by omega)
  rw [d_cn e10, d_cn e30, z2, z4]
  have i0 : (0 : Int32).toInt = 0 := by decide
  have i1 : (1 : Int32).toInt = 1 := by decide
  have go : bt (szG S) u = false → (bi (bt (szP S) u)).toInt ≠ x2.toInt → ∀ M : dM, RsF m M → CY H S s M → ∀ v : Int32, v.toInt = x2.toInt → c_X12_records_70 6 (dSet M 108 (30 + u) v) (fun m3 => Q (1 : Int32) m3) := fun gg ne M f cy v hv => by
    have e : aPin H S P x1 x2 = (1, setP S (szP S ^^^ b1 u), pKeep S P) := by
      unfold aPin
      rw [hn]
      exact if_pos ⟨hu, gg, ne⟩
    rw [e] at hQ
    have hZ : RZ H 108 (dSet M 108 (30 + u) v) (setP S (szP S ^^^ b1 u)) := cy.2.1.p hK.1.1 (by omega) (fun i hi => bt_flip (by omega) hi) (by
      rw [bt_flips (by omega)]
      apply Int32.toInt_inj.mp
      cases g : bt (szP S) u with
      | true => rw [g] at ne; rcases h2 with q | q <;> subst q <;> first | (rw [hv]; rfl) | exact absurd rfl ne
      | false => rw [g] at ne; rcases h2 with q | q <;> subst q <;> first | exact absurd rfl ne | (rw [hv]; rfl))
    refine Wp.deep (y_records (hK.rs f.set) hZ (fun M2 a b c d => hQ M2 (f.set.rc.tr (fun k q => a k (by omega) (by omega) (by omega))) d)) (Nat.le_of_ble_eq_true rfl)
  have both : bt (szG S) u = false → (bi (bt (szP S) u)).toInt ≠ x2.toInt → c_X12_copies_70 6 m (fun m2 => (x2.toInt = 0 → (0 ≤ ((30 : Int32) + x1).toInt ∧ ((30 : Int32) + x1).toInt < 58) ∧ c_X12_records_70 6 (dSet m2 108 (30 + u) (0 : Int32)) (fun m3 => Q (1 : Int32) m3)) ∧ (x2.toInt ≠ 0 → (0 ≤ ((30 : Int32) + x1).toInt ∧ ((30 : Int32) + x1).toInt < 58) ∧ c_X12_records_70 6 (dSet m2 108 (30 + u) (1 : Int32)) (fun m4 => Q (1 : Int32) m4))) := fun gg ne => y_copies hK.1 hK.2.1 (fun M f cy _ _ => ⟨fun z => ⟨by omega, go gg ne M f cy _ (by rw [z]; rfl)⟩, fun z => ⟨by omega, go gg ne M f cy _ (by rcases h2 with q | q <;> subst q <;> first | exact absurd rfl z | rfl)⟩⟩)
  refine ⟨by omega, fun g1 => no (fun q => by rw [bi_eq1 g1] at q; cases q.2.1), fun g1 => ⟨by omega, fun n1 => ⟨fun n0 => both (bi_ne1 g1) ?_, fun e0 => no ?_⟩, fun e1 => ⟨fun n0 => both (bi_ne1 g1) ?_, fun e0 => no ?_⟩⟩⟩
  · rw [bi_ne1 n1]; exact n0
  · rw [bi_ne1 n1]; exact fun q => q.2.2 e0
  · rw [bi_eq1 e1]; exact n0
  · rw [bi_eq1 e1]; exact fun q => q.2.2 e0
theorem q_mend {x1 : Int32} {Q : Int32 → dM → Prop} (hK : KR H S P L s m) (hQ : ∀ m' : dM, RcF m m' → KR H (aMnd H S P x1).2.1 (aMnd H S P x1).2.2 L s m' → Q (aMnd H S P x1).1 m') : c_X12_mend_70 7 x1 m Q := by
  have o2 := hK.1.1.2.1
  refine v_X12_mend_70 (Wp.deep (y_isWire hK.1.2.1 (fun hu => ⟨fun _ => ?_, fun z => absurd z (by decide)⟩) (fun hu => ⟨fun z => absurd rfl z, fun _ => ?_⟩)) (Nat.le_of_ble_eq_true rfl))
  · have hx := toNat_of hu.1
    unfold aMnd at hQ
    rw [if_pos hu] at hQ
    generalize hn : x1.toNatClampNeg = w at *
    have hw : w < hoW H := by omega
    have e10 := d_add (k := x1) (K := w) (x := (10 : Int32)) (i := 10) (by decide) hx (by omega)
    have e20 := d_add (k := x1) (K := w) (x := (20 : Int32)) (i := 20) (by decide) hx (by omega)
    have e30 := d_add (k := x1) (K := w) (x := (30 : Int32)) (i := 30) (by decide) hx (by omega)
    refine y_copies hK.1 hK.2.1 (fun M1 f1 cy _ _ => ?_)
    have no : ¬ (bt (szG S) w = true ∧ (cst H S w).toInt ≤ (szC S).toInt) → ∀ M : dM, RsF m M → j_X12_mend_70_41 7 M Q := fun q M f => by
      rw [if_neg q] at hQ
      exact v_X12_mend_70_41 (hQ M f.rc (hK.rs f))
    rw [d_cn e10, d_cn e20, d_cn e30, (cy.2.1.2.1 w hw).2.1]
    refine ⟨by omega, fun g0 => no (fun q => by rw [bi_eq0 g0] at q; cases q.1) M1 f1, fun g1 => ?_⟩
    have g := bi_ne0 g1
    refine Wp.deep (y_costsOf cy.1 cy.2.1 hx hw (fun M2 f2 => ?_)) (Nat.le_of_ble_eq_true rfl)
    have Z2 := cy.2.1.xa f2 (Or.inr rfl)
    have W2 := cy.1.xa f2
    have F2 := f1.tr f2.rs
    rw [Z2.1.2.1]
    refine ⟨fun le => ?_, fun gt => no (fun q => by omega) M2 F2⟩
    rw [if_pos ⟨g, le⟩] at hQ
    refine Wp.deep (y_costsOf W2 Z2 hx hw (fun M3 f3 => ⟨by omega, by omega, by omega, ?_⟩)) (Nat.le_of_ble_eq_true rfl)
    have Z3 := Z2.xa f3 (Or.inr rfl)
    have F3 := F2.tr f3.rs
    have Z4 := (((Z3.c (v := szC S - cst H S w) hK.1.1).g (w := w) (v := 0) (g := szG S &&& (b1 w ^^^ (-1 : Int32))) hK.1.1 hw (fun i hi => bt_off (by omega) hi) (by rw [bt_offs (by omega)]; rfl)).e (w := w) (v := 0) hK.1.1 hw).p (w := w) (v := 0) (g := szP S &&& (b1 w ^^^ (-1 : Int32))) hK.1.1 hw (fun i hi => bt_off (by omega) hi) (by rw [bt_offs (by omega)]; rfl)
    refine Wp.deep (y_records (T := mnd S (cst H S w) w) (hK.rs F3.set.set.set.set) Z4 (fun M5 a b c d => ?_)) (Nat.le_of_ble_eq_true rfl)
    rw [d.2.1.1.2.1]
    exact hQ M5 (F3.set.set.set.set.rc.tr (fun k q => a k (by omega) (by omega) (by omega))) d
  · unfold aMnd at hQ
    rw [if_neg hu] at hQ
    exact hQ m (RcF.rf m) hK
theorem q_thicken {x1 : Int32} {Q : Int32 → dM → Prop} (hK : KR H S P L s m) (hZo : zOk H S) (hQ : ∀ m' : dM, RcF m m' → KR H (aThk H S P x1).2.1 (aThk H S P x1).2.2 L s m' → Q (aThk H S P x1).1 m') : c_X12_thicken_70 7 x1 m Q := by
  have o2 := hK.1.1.2.1
  refine v_X12_thicken_70 (Wp.deep (y_isWire hK.1.2.1 (fun hu => ⟨fun _ => ?_, fun z => absurd z (by decide)⟩) (fun hu => ⟨fun z => absurd rfl z, fun _ => ?_⟩)) (Nat.le_of_ble_eq_true rfl))
  · have hx := toNat_of hu.1
    unfold aThk at hQ
    rw [if_pos hu] at hQ
    generalize hn : x1.toNatClampNeg = w at *
    have hw : w < hoW H := by omega
    have e10 := d_add (k := x1) (K := w) (x := (10 : Int32)) (i := 10) (by decide) hx (by omega)
    have r99 := hZo.2.2.2.2.2.1 w hw
    refine y_copies hK.1 hK.2.1 (fun M1 f1 cy _ _ => ?_)
    have no : ¬ (bt (szG S) w = false ∧ (szR S w).toInt < 99 ∧ (cst H S w).toInt ≤ (szC S).toInt) → ∀ M : dM, RsF m M → j_X12_thicken_70_53 7 M Q := fun q M f => by
      rw [if_neg q] at hQ
      exact v_X12_thicken_70_53 (hQ M f.rc (hK.rs f))
    rw [d_cn e10, (cy.2.1.2.1 w hw).2.1, (cy.2.1.2.1 w hw).1]
    refine ⟨by omega, fun g1 => no (fun q => by rw [bi_eq1 g1] at q; cases q.1) M1 f1, fun g1 => ⟨by omega, fun r9 => no (fun q => by omega) M1 f1, fun r9 => ?_⟩⟩
    have g := bi_ne1 g1
    refine Wp.deep (y_costsOf cy.1 cy.2.1 hx hw (fun M2 f2 => ?_)) (Nat.le_of_ble_eq_true rfl)
    have Z2 := cy.2.1.xa f2 (Or.inr rfl)
    have W2 := cy.1.xa f2
    have F2 := f1.tr f2.rs
    rw [Z2.1.2.1]
    refine ⟨fun le => ?_, fun gt => no (fun q => by omega) M2 F2⟩
    rw [if_pos ⟨g, by omega, le⟩] at hQ
    refine Wp.deep (y_costsOf W2 Z2 hx hw (fun M3 f3 => ⟨by omega, by omega, ?_⟩)) (Nat.le_of_ble_eq_true rfl)
    have Z3 := Z2.xa f3 (Or.inr rfl)
    have F3 := F2.tr f3.rs
    have ev : (dSet M3 108 56 (szC S - cst H S w)).1 108 w = szR S w := by rw [dSet_j (by omega)]; exact (Z3.2.1 w hw).1
    rw [ev]
    have Z4 := (Z3.c (v := szC S - cst H S w) hK.1.1).r (w := w) (v := szR S w + 1) hK.1.1 hw
    refine Wp.deep (y_records (T := thk S (cst H S w) w) (hK.rs F3.set.set) Z4 (fun M5 a b c d => ?_)) (Nat.le_of_ble_eq_true rfl)
    rw [d.2.1.1.2.1]
    exact hQ M5 (F3.set.set.rc.tr (fun k q => a k (by omega) (by omega) (by omega))) d
  · unfold aThk at hQ
    rw [if_neg hu] at hQ
    exact hQ m (RcF.rf m) hK
end RCL
