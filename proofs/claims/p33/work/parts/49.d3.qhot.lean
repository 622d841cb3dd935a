/-! QUESTIONS, exactly: bits counted; hottest, clash -/
def pcn (x : Int32) : Int32 := ((((((((x - ((x.toUInt32 >>> ((1 : Int32).toUInt32 &&& Int32.toUInt32 31)).toInt32 &&& (1431655765 : Int32))) &&& (858993459 : Int32)) + (((x - ((x.toUInt32 >>> ((1 : Int32).toUInt32 &&& Int32.toUInt32 31)).toInt32 &&& (1431655765 : Int32))).toUInt32 >>> ((2 : Int32).toUInt32 &&& Int32.toUInt32 31)).toInt32 &&& (858993459 : Int32))) + ((((x - ((x.toUInt32 >>> ((1 : Int32).toUInt32 &&& Int32.toUInt32 31)).toInt32 &&& (1431655765 : Int32))) &&& (858993459 : Int32)) + (((x - ((x.toUInt32 >>> ((1 : Int32).toUInt32 &&& Int32.toUInt32 31)).toInt32 &&& (1431655765 : Int32))).toUInt32 >>> ((2 : Int32).toUInt32 &&& Int32.toUInt32 31)).toInt32 &&& (858993459 : Int32))).toUInt32 >>> ((4 : Int32).toUInt32 &&& Int32.toUInt32 31)).toInt32) &&& (252645135 : Int32)) + ((((((x - ((x.toUInt32 >>> ((1 : Int32).toUInt32 &&& Int32.toUInt32 31)).toInt32 &&& (1431655765 : Int32))) &&& (858993459 : Int32)) + (((x - ((x.toUInt32 >>> ((1 : Int32).toUInt32 &&& Int32.toUInt32 31)).toInt32 &&& (1431655765 : Int32))).toUInt32 >>> ((2 : Int32).toUInt32 &&& Int32.toUInt32 31)).toInt32 &&& (858993459 : Int32))) + ((((x - ((x.toUInt32 >>> ((1 : Int32).toUInt32 &&& Int32.toUInt32 31)).toInt32 &&& (1431655765 : Int32))) &&& (858993459 : Int32)) + (((x - ((x.toUInt32 >>> ((1 : Int32).toUInt32 &&& Int32.toUInt32 31)).toInt32 &&& (1431655765 : Int32))).toUInt32 >>> ((2 : Int32).toUInt32 &&& Int32.toUInt32 31)).toInt32 &&& (858993459 : Int32))).toUInt32 >>> ((4 : Int32).toUInt32 &&& Int32.toUInt32 31)).toInt32) &&& (252645135 : Int32)).toUInt32 >>> ((8 : Int32).toUInt32 &&& Int32.toUInt32 31)).toInt32) + (((((((x - ((x.toUInt32 >>> ((1 : Int32).toUInt32 &&& Int32.toUInt32 31)).toInt32 &&& (1431655765 : Int32))) &&& (858993459 : Int32)) + (((x - ((x.toUInt32 >>> ((1 : Int32).toUInt32 &&& Int32.toUInt32 31)).toInt32 &&& (1431655765 : Int32))).toUInt32 >>> ((2 : Int32).toUInt32 &&& Int32.toUInt32 31)).toInt32 &&& (858993459 : Int32))) + ((((x - ((x.toUInt32 >>> ((1 : Int32).toUInt32 &&& Int32.toUInt32 31)).toInt32 &&& (1431655765 : Int32))) &&& (858993459 : Int32)) + (((x - ((x.toUInt32 >>> ((1 : Int32).toUInt32 &&& Int32.toUInt32 31)).toInt32 &&& (1431655765 : Int32))).toUInt32 >>> ((2 : Int32).toUInt32 &&& Int32.toUInt32 31)).toInt32 &&& (858993459 : Int32))).toUInt32 >>> ((4 : Int32).toUInt32 &&& Int32.toUInt32 31)).toInt32) &&& (252645135 : Int32)) + ((((((x - ((x.toUInt32 >>> ((1 : Int32).toUInt32 &&& Int32.toUInt32 31)).toInt32 &&& (1431655765 : Int32))) &&& (858993459 : Int32)) + (((x - ((x.toUInt32 >>> ((1 : Int32).toUInt32 &&& Int32.toUInt32 31)).toInt32 &&& (1431655765 : Int32))).toUInt32 >>> ((2 : Int32).toUInt32 &&& Int32.toUInt32 31)).toInt32 &&& (858993459 : Int32))) + ((((x - ((x.toUInt32 >>> ((1 : Int32).toUInt32 &&& Int32.toUInt32 31)).toInt32 &&& (1431655765 : Int32))) &&& (858993459 : Int32)) + (((x - ((x.toUInt32 >>> ((1 : Int32).toUInt32 &&& Int32.toUInt32 31)).toInt32 &&& (1431655765 : Int32))).toUInt32 >>> ((2 : Int32).toUInt32 &&& Int32.toUInt32 31)).toInt32 &&& (858993459 : Int32))).toUInt32 >>> ((4 : Int32).toUInt32 &&& Int32.toUInt32 31)).toInt32) &&& (252645135 : Int32)).toUInt32 >>> ((8 : Int32).toUInt32 &&& Int32.toUInt32 31)).toInt32).toUInt32 >>> ((16 : Int32).toUInt32 &&& Int32.toUInt32 31)).toInt32) &&& (63 : Int32))
/-- how many of ten bits -/
def pc10 (x : Int32) : Nat → Int32
  | 0 => 0
  | n + 1 => pc10 x n + cond (bt x n) 1 0
theorem pcn_all : (List.range 1024).all (fun n => decide (pcn (Int32.ofNat n) = pc10 (Int32.ofNat n) 10)) = true := by decide +kernel
theorem low10 {x : Int32} (h : ∀ i : Nat, 10 ≤ i → bt x i = false) : ∃ n : Nat, n < 1024 ∧ x = Int32.ofNat n := by
  refine ⟨x.toBitVec.toNat, ?_, ?_⟩
  · exact Nat.lt_pow_two_of_testBit (n := 10) _ (fun i hi => h i hi)
  · apply Int32.toBitVec_inj.mp
    show x.toBitVec = BitVec.ofNat 32 x.toBitVec.toNat
    rw [BitVec.ofNat_toNat, BitVec.setWidth_eq]
theorem pcn_ok {x : Int32} (h : ∀ i : Nat, 10 ≤ i → bt x i = false) : pcn x = pc10 x 10 := by
  obtain ⟨n, hn, e⟩ := low10 h
  rw [e]
  exact of_decide_eq_true (List.all_eq_true.mp pcn_all n (List.mem_range.mpr hn))
section QBC
variable {H : Ho} {S : Zt} {P : List Zt} {L : Nat → Zt} {m : dM} {s : Nat} {x1 x2 : Int32}
theorem ea_bits {x : Int32} {Q : Int32 → dM → Prop} {M : dM} (h : ∀ i : Nat, 10 ≤ i → bt x i = false) (hQ : Q (pc10 x 10) M) : c_J6_bitCount 1 x M Q := by
  rw [← pcn_ok h] at hQ
  exact v_J6_bitCount hQ
theorem eb_bits {x : Int32} {Q : Int32 → dM → Prop} {M : dM} (hQ : Q (pc10 x 10) M) : c_X12_bits 1 x M Q := by
  have loop : ∀ (t i : Nat) (x2 : Int32), i + t = 10 → x2.toInt = (i : Int) → j_X12_bits_4 1 x (pc10 x i) x2 M Q := by
    intro t
    induction t with
    | zero =>
      intro i x2 hi h2
      have ei : i = 10 := by omega
      subst ei
      exact v_X12_bits_4 ⟨fun _ => hQ, fun q => by exfalso; omega⟩
    | succ t ih =>
      intro i x2 hi h2
      have e : ((x >>> (x2 &&& 31)) &&& (1 : Int32)) = cond (bt x i) 1 0 := by
        have b := bt_s (x := x) h2 (by omega)
        apply d_ce
        rw [b]
        cases bt x i <;> decide
      refine v_X12_bits_4 ⟨fun q => by exfalso; omega, fun _ => ?_⟩
      rw [e]
      exact ih (i + 1) _ (by omega) (d_inc h2 (by omega))
  exact v_X12_bits (loop 10 0 _ rfl (by decide))
/-- the hottest wire so far -/
def hotv (H : Ho) (S : Zt) (w : Nat) : Int32 := lod H (szG S) (onA H S (hod (szH S))) w - szR S w
def hot (H : Ho) (S : Zt) : Nat → Option (Nat × Int32)
  | 0 => none
  | w + 1 => cond (bt (szG S) w) (hot H S w) (match hot H S w with
    | none => some (w, hotv H S w)
    | some (b, v) => if v.toInt < (hotv H S w).toInt then some (w, hotv H S w) else some (b, v))
def aHot (H : Ho) (S : Zt) (x1 : Int32) : Int32 := if 0 ≤ x1.toInt ∧ x1.toInt ≤ 1 then (match hot H S (hoW H) with
    | none => -2000
    | some (b, v) => if x1.toInt = 0 then Int32.ofInt (b : Int) else v) else -1000
def Rhc (o : Option (Nat × Int32)) (x2 x3 : Int32) : Prop := match o with
  | none => x2.toInt = -1
  | some (b, v) => x2.toInt = (b : Int) ∧ x3 = v
def Rhr (o : Option (Nat × Int32)) (x3 x4 : Int32) : Prop := match o with
  | none => x3 = -2000 ∧ x4 = -2000
  | some (b, v) => x3.toInt = (b : Int) ∧ x4 = v
theorem ea_hottest {Q : Int32 → dM → Prop} (hK : KC H S P L m) (hO : zOk H S) (hQ : ∀ m' : dM, QC H S P L m m' → Q (aHot H S x1) m') : c_X11_hottest_0 5 x1 m Q := by
  have q0 := QC.rf hK
  have w10 := hK.1.1.2.1
  have hQ' : ∀ (v : Int32) (m' : dM), aHot H S x1 = v → QC H S P L m m' → Q v m' := fun v m' e q => by rw [← e]; exact hQ m' q
  have no : ¬ (0 ≤ x1.toInt ∧ x1.toInt ≤ 1) → j_X11_hottest_0_9 5 m Q := fun q => v_X11_hottest_0_9 (hQ' _ m (by unfold aHot; rw [if_neg q]) q0)
  refine v_X11_hottest_0 ⟨fun q => no (by omega), fun h0 => ⟨fun h1 => k_usesNow q0 hO (fun M q1 l1 => Wp.deep (y_putOn47 q1.2.1 q1.2.2.1 (hO.g1 hK.1.1) (fun M2 f2 w2 l2 d2 => ?_)) (Nat.le_of_ble_eq_true rfl)), fun q => no (by omega)⟩⟩
  have q2 := q1.sc f2 w2
  have e21 := w2.2.1.1.2.1.1
  have g3 : M2.1 47 3 = szG S := q2.2.2.1.1.2.2.2.1
  have eA : aHot H S x1 = (match hot H S (hoW H) with
    | none => -2000
    | some (b, v) => if x1.toInt = 0 then Int32.ofInt (b : Int) else v) := by unfold aHot; rw [if_pos ⟨h0, h1⟩]
  have loop : ∀ (t w : Nat) (x2 x3 x4 : Int32), w + t = hoW H → x4.toInt = (w : Int) → Rhc (hot H S w) x2 x3 → j_X11_hottest_0_42 5 x1 x2 x3 x4 M2 Q := by
    intro t
    induction t with
    | zero =>
      intro w x2 x3 x4 hw h4 hR
      have ew : w = hoW H := by omega
      subst ew
      refine v_X11_hottest_0_42 ⟨fun _ => ⟨fun ne => ⟨fun nz => hQ' _ M2 ?_ q2, fun z => hQ' _ M2 ?_ q2⟩, fun e => hQ' _ M2 ?_ q2⟩, fun q => by exfalso; omega⟩
      all_goals rw [eA]
      all_goals
        cases hh : hot H S (hoW H) with
        | none =>
          rewrite [hh] at hR
          have hR : x2.toInt = -1 := hR
          first | rfl | exact absurd hR ne
        | some p =>
          obtain ⟨b, v⟩ := p
          rewrite [hh] at hR
          have hR : x2.toInt = (b : Int) ∧ x3 = v := hR
          show (if x1.toInt = 0 then Int32.ofInt (b : Int) else v) = _
          first
            | (rw [if_neg nz]; exact hR.2.symm)
            | (rw [if_pos z]; exact ofI hR.1)
            | (exfalso; omega)
    | succ t ih =>
      intro w x2 x3 x4 hw h4 hR
      have on : ∀ y z : Int32, Rhc (hot H S (w + 1)) y z → j_X11_hottest_0_109 5 x1 y z x4 M2 Q := fun y z r => v_X11_hottest_0_109 (ih (w + 1) _ _ _ (by omega) (d_inc h4 (by omega)) r)
      have ev : M2.1 56 w - M2.1 48 w = hotv H S w := by rw [d2 w (by omega), (show M2.1 48 w = szR S w from q2.2.2.1.2.1 w (by omega))]; rfl
      have eS : hot H S (w + 1) = cond (bt (szG S) w) (hot H S w) (match hot H S w with
        | none => some (w, hotv H S w)
        | some (b, v) => if v.toInt < (hotv H S w).toInt then some (w, hotv H S w) else some (b, v)) := rfl
      refine v_X11_hottest_0_42 ⟨fun q => by exfalso; omega, fun _ => ⟨by omega, by omega, ?_⟩⟩
      rw [g3, d_cn h4, ev]
      refine Wp.deep (y_has h4 (by omega) (fun b => ⟨fun _ => on _ _ (by rw [eS, b]; exact hR), fun z => absurd z (by decide)⟩) (fun b => ⟨fun z => absurd rfl z, fun _ => ⟨fun e => v_X11_hottest_0_103 (on _ _ ?_), fun e => ⟨fun le => on _ _ ?_, fun lt' => v_X11_hottest_0_103 (on _ _ ?_)⟩⟩⟩)) (Nat.le_of_ble_eq_true rfl)
      all_goals rw [eS, b]
      all_goals
        cases hh : hot H S w with
        | none =>
          rewrite [hh] at hR
          have hR : x2.toInt = -1 := hR
          first
            | exact ⟨h4, rfl⟩
            | exact absurd hR e
        | some p =>
          obtain ⟨b', v⟩ := p
          rewrite [hh] at hR
          have hR : x2.toInt = (b' : Int) ∧ x3 = v := hR
          have e3 := hR.2
          subst e3
          show Rhc (if x3.toInt < (hotv H S w).toInt then some (w, hotv H S w) else some (b', x3)) _ _
          first
            | (exfalso; omega)
            | (rw [if_neg (by omega)]; exact ⟨hR.1, rfl⟩)
            | (rw [if_pos lt']; exact ⟨h4, rfl⟩)
  exact loop (hoW H) 0 _ _ _ (by omega) (by decide) (by show (-1 : Int32).toInt = -1; decide)
theorem eb_hottest {Q : Int32 → dM → Prop} (hK : KR H S P L s m) (hQ : ∀ m' : dM, RsF m m' → Q (aHot H S x1) m') : c_X12_hottest_70 7 x1 m Q := by
  have w10 := hK.1.1.2.1
  have hQ' : ∀ (v : Int32) (m' : dM), aHot H S x1 = v → RsF m m' → Q v m' := fun v m' e q => by rw [← e]; exact hQ m' q
  have i0 : (0 : Int32).toInt = 0 := by decide
  have i1 : (1 : Int32).toInt = 1 := by decide
  refine v_X12_hottest_70 (Wp.deep (y_in (fun h => ⟨fun _ => y_copies hK.1 hK.2.1 (fun M f cy _ _ => Wp.deep (y_onNow cy ?_) (Nat.le_of_ble_eq_true rfl)), fun z => absurd z (by decide)⟩) (fun h => ⟨fun z => absurd rfl z, fun _ => hQ' _ m (by unfold aHot; rw [if_neg (by omega)]) (RsF.rf m)⟩)) (Nat.le_of_ble_eq_true rfl))
  have a := cy.1.2.1.1
  have eA : aHot H S x1 = (match hot H S (hoW H) with
    | none => -2000
    | some (b, v) => if x1.toInt = 0 then Int32.ofInt (b : Int) else v) := by unfold aHot; rw [if_pos (by omega)]
  have m2 : (-2000 : Int32).toInt = -2000 := by decide
  have loop : ∀ (t w : Nat) (x3 x4 x5 : Int32), w + t = hoW H → x5.toInt = (w : Int) → Rhr (hot H S w) x3 x4 → j_X12_hottest_70_34 7 x1 (onA H S (hod (szH S))) x3 x4 x5 M Q := by
    intro t
    induction t with
    | zero =>
      intro w x3 x4 x5 hw h5 hR
      have ew : w = hoW H := by omega
      subst ew
      refine v_X12_hottest_70_34 ?_
      rw [d_cn a.1, cy.1.2.1.2.2.1.1, a.1]
      refine ⟨by omega, fun _ => ⟨fun nz => hQ' _ M ?_ f, fun z => hQ' _ M ?_ f⟩, fun q => by exfalso; omega⟩
      all_goals rw [eA]
      all_goals
        cases hh : hot H S (hoW H) with
        | none =>
          rewrite [hh] at hR
          have hR : x3 = -2000 ∧ x4 = -2000 := hR
          first | exact hR.2.symm | exact hR.1.symm
        | some p =>
          obtain ⟨b, v⟩ := p
          rewrite [hh] at hR
          have hR : x3.toInt = (b : Int) ∧ x4 = v := hR
          show (if x1.toInt = 0 then Int32.ofInt (b : Int) else v) = _
          first
            | (rw [if_neg nz]; exact hR.2.symm)
            | (rw [if_pos z]; exact ofI hR.1)
    | succ t ih =>
      intro w x3 x4 x5 hw h5 hR
      have on : ∀ y z : Int32, Rhr (hot H S (w + 1)) y z → j_X12_hottest_70_95 7 x1 (onA H S (hod (szH S))) y z x5 M Q := fun y z r => v_X12_hottest_70_95 (ih (w + 1) _ _ _ (by omega) (d_inc h5 (by omega)) r)
      have eS : hot H S (w + 1) = cond (bt (szG S) w) (hot H S w) (match hot H S w with
        | none => some (w, hotv H S w)
        | some (b, v) => if v.toInt < (hotv H S w).toInt then some (w, hotv H S w) else some (b, v)) := rfl
      have ev : lod H (szG S) (onA H S (hod (szH S))) w - M.1 108 w = hotv H S w := by rw [(cy.2.1.2.1 w (by omega)).1]; rfl
      refine v_X12_hottest_70_34 ?_
      rw [d_cn a.1, cy.1.2.1.2.2.1.1, a.1, d_cn h5]
      refine ⟨by omega, fun q => by exfalso; omega, fun _ => Wp.deep (y_loadBy cy.1 cy.2.2 h5 (by omega) ⟨by omega, ?_⟩) (Nat.le_of_ble_eq_true rfl)⟩
      rw [ev]
      refine Wp.deep (y_isWhole cy.1.2.1 (cy.2.1.rg (r := 0)) h5 (by omega) (fun b => ⟨fun z => absurd z (by decide), fun _ => ⟨fun n0 => v_X12_hottest_70_88 (on _ _ ?_), fun n0 => ⟨fun lt' => v_X12_hottest_70_88 (on _ _ ?_), fun le => on _ _ ?_⟩⟩⟩) (fun b => ⟨fun _ => on _ _ (by rw [eS, b]; exact hR), fun z => absurd rfl z⟩)) (Nat.le_of_ble_eq_true rfl)
      all_goals rw [eS, b]
      all_goals
        cases hh : hot H S w with
        | none =>
          rewrite [hh] at hR
          have hR : x3 = -2000 ∧ x4 = -2000 := hR
          first
            | exact ⟨h5, rfl⟩
            | (rw [hR.1] at n0; exfalso; omega)
        | some p =>
          obtain ⟨b', v⟩ := p
          rewrite [hh] at hR
          have hR : x3.toInt = (b' : Int) ∧ x4 = v := hR
          have e3 := hR.2
          subst e3
          show Rhr (if x4.toInt < (hotv H S w).toInt then some (w, hotv H S w) else some (b', x4)) _ _
          first
            | (exfalso; omega)
            | (rw [if_pos lt']; exact ⟨h5, rfl⟩)
            | (rw [if_neg (by omega)]; exact ⟨hR.1, rfl⟩)
  exact loop (hoW H) 0 _ _ _ (by omega) (by decide) ⟨rfl, rfl⟩
end QBC
