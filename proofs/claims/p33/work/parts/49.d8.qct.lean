/-! QUESTIONS, exactly: count -/
def whR (H : Ho) (S : Zt) : Nat → Int32
  | 0 => 0
  | w + 1 => whR H S w + cond (bt (szG S) w) 0 (szR S w)
/-- what a count tells; the tape's length, what was told, the slots held come from elsewhere -/
def aCnt (H : Ho) (S : Zt) (P : List Zt) (t9 t11 t12 x1 : Int32) : Int32 := if x1.toInt = 0 then Int32.ofInt (hoF H : Int) else if x1.toInt = 1 then Int32.ofInt (hoW H : Int) else if x1.toInt = 2 then Int32.ofInt (hoU H : Int) else if x1.toInt = 3 then szH S else if x1.toInt = 4 then szC S else if x1.toInt = 5 then szQ S else if x1.toInt = 6 then szG S else if x1.toInt = 7 then ltB H (szG S) else if x1.toInt = 8 then onA H S (hod (szH S)) else if x1.toInt = 9 then t9 else if x1.toInt = 10 then Int32.ofInt (P.length : Int) else if x1.toInt = 11 then t11 else if x1.toInt = 12 then t12 else if x1.toInt = 13 then bi (sgp H (hoE H) (szH S)) else if x1.toInt = 14 then szP S else if x1.toInt = 15 then whR H S (hoW H) else -1
def slc (m : dM) : Int32 := (bi (decide ((m.1 115 0).toInt ≠ 0)) + bi (decide ((m.1 115 1).toInt ≠ 0))) + bi (decide ((m.1 115 2).toInt ≠ 0))
theorem bs_self {x : Int32} {n : Nat} (h : ∀ i : Nat, bt x i = true → i < n) (hn : n ≤ 32) : bs (bt x) n = x := bt_ext (fun i _ => by
  rw [bt_bs _ hn]
  cases b : bt x i with
  | false => rw [Bool.and_false]
  | true => rw [decide_eq_true (h i b)]; rfl)
theorem slc_eq {m : dM} (hT : Rq m) (h3 : ∀ i : Nat, 3 ≤ i → bt (m.1 51 4) i = false) : pc10 (m.1 51 4) 10 = slc m := by
  have c := pc10_cut h3 7
  have c : pc10 (m.1 51 4) 10 = pc10 (m.1 51 4) 3 := c
  have e : ∀ i : Nat, (i = 0 ∨ i = 1 ∨ i = 2) → decide ((m.1 115 i).toInt ≠ 0) = bt (m.1 51 4) i := fun i hi => by
    have o := hT.2.2.2.2 i (by omega)
    rw [hb_bit _ i hi] at o
    cases b : bt (m.1 51 4) i with
    | true => exact decide_eq_true (o.mp b)
    | false => exact decide_eq_false (fun z => by have z : bt (m.1 51 4) i = true := o.mpr z; rw [b] at z; cases z)
  rw [c]
  unfold slc
  rw [e 0 (Or.inl rfl), e 1 (Or.inr (Or.inl rfl)), e 2 (Or.inr (Or.inr rfl))]
  show ((0 + cond (bt (m.1 51 4) 0) 1 0) + cond (bt (m.1 51 4) 1) 1 0) + cond (bt (m.1 51 4) 2) 1 0 = (cond (bt (m.1 51 4) 0) 1 0 + cond (bt (m.1 51 4) 1) 1 0) + cond (bt (m.1 51 4) 2) 1 0
  rw [Int32.zero_add]
section QCT
variable {H : Ho} {S : Zt} {P : List Zt} {L : Nat → Zt} {m : dM} {s : Nat} {x1 : Int32}
theorem ea_whole {Q : Int32 → dM → Prop} (hK : KC H S P L m) (hQ : Q (whR H S (hoW H)) m) : c_X11_wholeRatings_0 2 m Q := by
  have w10 := hK.1.1.2.1
  have e21 := hK.1.2.1.1.2.1.1
  have g3 : m.1 47 3 = szG S := hK.2.1.1.2.2.2.1
  have loop : ∀ (t w : Nat) (x2 : Int32), w + t = hoW H → x2.toInt = (w : Int) → j_X11_wholeRatings_0_4 2 (whR H S w) x2 m Q := by
    intro t
    induction t with
    | zero =>
      intro w x2 hw h2
      rw [show w = hoW H by omega]
      exact v_X11_wholeRatings_0_4 ⟨fun _ => hQ, fun q => by exfalso; omega⟩
    | succ t ih =>
      intro w x2 hw h2
      have n := ih (w + 1) _ (by omega) (d_inc h2 (by omega))
      rw [show whR H S (w + 1) = whR H S w + cond (bt (szG S) w) 0 (szR S w) from rfl] at n
      have er : m.1 48 w = szR S w := hK.2.1.2.1 w (by omega)
      refine v_X11_wholeRatings_0_4 ⟨fun q => by exfalso; omega, fun _ => ?_⟩
      rw [g3]
      refine y_has h2 (by omega) (fun b => ⟨fun z => absurd z (by decide), fun _ => ?_⟩) (fun b => ⟨fun _ => ⟨by omega, ?_⟩, fun z => absurd rfl z⟩)
      · rw [b, cond_true] at n
        exact n
      · rw [b, cond_false] at n
        rw [d_cn h2, er]
        exact n
  exact v_X11_wholeRatings_0 (loop (hoW H) 0 _ (by omega) (by decide))
theorem ea_count {Q : Int32 → dM → Prop} (hK : KC H S P L m) (hO : zOk H S) (hQ : ∀ m' : dM, QC H S P L m m' → Q (aCnt H S P (m.1 0 1) (m.1 67 3) (pc10 (m.1 51 4) 10) x1) m') : c_X11_count_0 5 x1 m Q := by
  have q0 := QC.rf hK
  have hQ' : ∀ (v : Int32) (m' : dM), aCnt H S P (m.1 0 1) (m.1 67 3) (pc10 (m.1 51 4) 10) x1 = v → QC H S P L m m' → Q v m' := fun v m' e q => by rw [← e]; exact hQ m' q
  have e2 := hK.1.2.1.2.2.2.2.2.1
  have z := hK.2.1.1
  obtain ⟨n, n1, n2, n3, n4⟩ := id hK.2.2.1
  refine v_X11_count_0 ⟨fun q => hQ' _ m ?_ q0, fun q => hQ' _ m ?_ q0, fun q => hQ' _ m ?_ q0, fun q => hQ' _ m ?_ q0, fun q => hQ' _ m ?_ q0, fun q => hQ' _ m ?_ q0, fun q => hQ' _ m ?_ q0, fun q => ?_, fun q => k_usesNow q0 hO (fun M q1 _ => hQ' _ M ?_ q1), fun q => hQ' _ m ?_ q0, fun q => hQ' _ m ?_ q0, fun q => hQ' _ m ?_ q0, fun q => Wp.deep (ea_bits (fun i hi => hK.2.2.2.1 i (by omega)) (hQ' _ m ?_ q0)) (Nat.le_of_ble_eq_true rfl), fun q => ?_, fun q => hQ' _ m ?_ q0, fun q => Wp.deep (ea_whole hK (hQ' _ m ?_ q0)) (Nat.le_of_ble_eq_true rfl), fun q => hQ' _ m ?_ q0⟩
  · unfold aCnt; rw [if_pos q]; exact ofI hK.1.2.1.1.1.1
  · unfold aCnt; rw [if_neg (by omega), if_pos q]; exact ofI hK.1.2.1.1.2.1.1
  · unfold aCnt; rw [if_neg (by omega), if_neg (by omega), if_pos q]; exact ofI hK.1.2.1.2.1
  · unfold aCnt; rw [if_neg (by omega), if_neg (by omega), if_neg (by omega), if_pos q]; exact z.1.symm
  · unfold aCnt; rw [if_neg (by omega), if_neg (by omega), if_neg (by omega), if_neg (by omega), if_pos q]; exact z.2.1.symm
  · unfold aCnt; rw [if_neg (by omega), if_neg (by omega), if_neg (by omega), if_neg (by omega), if_neg (by omega), if_pos q]; exact z.2.2.1.symm
  · unfold aCnt; rw [if_neg (by omega), if_neg (by omega), if_neg (by omega), if_neg (by omega), if_neg (by omega), if_neg (by omega), if_pos q]; exact z.2.2.2.1.symm
  · rw [z.2.2.2.1]
    refine Wp.deep (ea_lit hK.1 (hQ' _ m ?_ q0)) (Nat.le_of_ble_eq_true rfl)
    unfold aCnt; rw [if_neg (by omega), if_neg (by omega), if_neg (by omega), if_neg (by omega), if_neg (by omega), if_neg (by omega), if_neg (by omega), if_pos q]
  · unfold aCnt; rw [if_neg (by omega), if_neg (by omega), if_neg (by omega), if_neg (by omega), if_neg (by omega), if_neg (by omega), if_neg (by omega), if_neg (by omega), if_pos q]
  · unfold aCnt; rw [if_neg (by omega), if_neg (by omega), if_neg (by omega), if_neg (by omega), if_neg (by omega), if_neg (by omega), if_neg (by omega), if_neg (by omega), if_neg (by omega), if_pos q]
  · unfold aCnt; rw [if_neg (by omega), if_neg (by omega), if_neg (by omega), if_neg (by omega), if_neg (by omega), if_neg (by omega), if_neg (by omega), if_neg (by omega), if_neg (by omega), if_neg (by omega), if_pos q]; exact ofI n3
  · unfold aCnt; rw [if_neg (by omega), if_neg (by omega), if_neg (by omega), if_neg (by omega), if_neg (by omega), if_neg (by omega), if_neg (by omega), if_neg (by omega), if_neg (by omega), if_neg (by omega), if_neg (by omega), if_pos q]
  · unfold aCnt; rw [if_neg (by omega), if_neg (by omega), if_neg (by omega), if_neg (by omega), if_neg (by omega), if_neg (by omega), if_neg (by omega), if_neg (by omega), if_neg (by omega), if_neg (by omega), if_neg (by omega), if_neg (by omega), if_pos q]
  · rw [e2.2.2.2, z.1]
    refine v_X0_isSurge_54 (v_X0_lot (v_X0_stirred (v_X0_stirred ⟨fun q => absurd q (by decide), fun _ => ⟨by decide, ?_⟩⟩)))
    rw [e2.1]
    have eA : aCnt H S P (m.1 0 1) (m.1 67 3) (pc10 (m.1 51 4) 10) x1 = bi (sgp H (hoE H) (szH S)) := by unfold aCnt; rw [if_neg (by omega), if_neg (by omega), if_neg (by omega), if_neg (by omega), if_neg (by omega), if_neg (by omega), if_neg (by omega), if_neg (by omega), if_neg (by omega), if_neg (by omega), if_neg (by omega), if_neg (by omega), if_neg (by omega), if_pos q]
    refine ⟨fun a => ⟨fun _ => hQ' _ m ?_ q0, fun z => absurd rfl z⟩, fun a => ⟨fun z => absurd z (by decide), fun _ => hQ' _ m ?_ q0⟩⟩
    · have a : (hoS H).toInt ≤ (lot (mx (mx (hoE H) 129) ((4 : Int32) * szH S))).toInt := a
      rw [eA]
      unfold sgp
      rw [decide_eq_false (by omega)]
      rfl
    · have a : (lot (mx (mx (hoE H) 129) ((4 : Int32) * szH S))).toInt < (hoS H).toInt := a
      rw [eA]
      unfold sgp
      rw [decide_eq_true a]
      rfl
  · unfold aCnt; rw [if_neg (by omega), if_neg (by omega), if_neg (by omega), if_neg (by omega), if_neg (by omega), if_neg (by omega), if_neg (by omega), if_neg (by omega), if_neg (by omega), if_neg (by omega), if_neg (by omega), if_neg (by omega), if_neg (by omega), if_neg (by omega), if_pos q]; exact z.2.2.2.2.1.symm
  · unfold aCnt; rw [if_neg (by omega), if_neg (by omega), if_neg (by omega), if_neg (by omega), if_neg (by omega), if_neg (by omega), if_neg (by omega), if_neg (by omega), if_neg (by omega), if_neg (by omega), if_neg (by omega), if_neg (by omega), if_neg (by omega), if_neg (by omega), if_neg (by omega), if_pos q]
  · unfold aCnt; rw [if_neg (by omega), if_neg (by omega), if_neg (by omega), if_neg (by omega), if_neg (by omega), if_neg (by omega), if_neg (by omega), if_neg (by omega), if_neg (by omega), if_neg (by omega), if_neg (by omega), if_neg (by omega), if_neg (by omega), if_neg (by omega), if_neg (by omega), if_neg (by omega)]
theorem eb_gone {Q : Int32 → dM → Prop} {M : dM} (hK : KR H S P L s M) (hO : zOk H S) (hQ : Q (szG S) M) : c_X12_goneBits_70 1 M Q := by
  have w10 := hK.1.1.2.1
  have a := hK.1.2.1.1
  have loop : ∀ (t w : Nat) (x2 : Int32), w + t = hoW H → x2.toInt = (w : Int) → j_X12_goneBits_70_4 1 (bs (bt (szG S)) w) x2 M Q := by
    intro t
    induction t with
    | zero =>
      intro w x2 hw h2
      refine v_X12_goneBits_70_4 ?_
      rw [d_cn a.1, hK.1.2.1.2.2.1.1, a.1, show w = hoW H by omega, bs_self hO.2.2.1 (by omega)]
      exact ⟨by omega, fun _ => hQ, fun q => by exfalso; omega⟩
    | succ t ih =>
      intro w x2 hw h2
      have e10 := d_add (k := x2) (K := w) (x := (10 : Int32)) (i := 10) (by decide) h2 (by omega)
      have n := ih (w + 1) _ (by omega) (d_inc h2 (by omega))
      rw [show bs (bt (szG S)) (w + 1) = cond (bt (szG S) w) (bs (bt (szG S)) w ||| b1 w) (bs (bt (szG S)) w) from rfl] at n
      refine v_X12_goneBits_70_4 ?_
      rw [d_cn a.1, hK.1.2.1.2.2.1.1, a.1, d_cn e10, (hK.2.1.2.1 w (by omega)).2.1, b1_of h2]
      refine ⟨by omega, fun q => by exfalso; omega, fun _ => ⟨by omega, fun nb => v_X12_goneBits_70_36 ?_, fun bb => v_X12_goneBits_70_36 ?_⟩⟩
      · rw [bi_ne1 nb, cond_false] at n
        exact n
      · rw [bi_eq1 bb, cond_true] at n
        exact n
  exact v_X12_goneBits_70 (loop (hoW H) 0 _ (by omega) (by decide))
theorem eb_count {Q : Int32 → dM → Prop} (hK : KR H S P L s m) (hO : zOk H S) (hQ : ∀ m' : dM, RsF m m' → Q (aCnt H S P (m.1 70 2) (m.1 70 63) (slc m) x1) m') : c_X12_count_70 7 x1 m Q := by
  have w10 := hK.1.1.2.1
  have hQ' : ∀ (v : Int32) (m' : dM), aCnt H S P (m.1 70 2) (m.1 70 63) (slc m) x1 = v → RsF m m' → Q v m' := fun v m' e q => by rw [← e]; exact hQ m' q
  refine v_X12_count_70 (y_copies hK.1 hK.2.1 (fun M f cy a6 _ => ?_))
  have a := cy.1.2.1.1
  have hKM := hK.rs f
  have z := cy.2.1.1
  have r0 : ∀ v : Int32, aCnt H S P (m.1 70 2) (m.1 70 63) (slc m) x1 = v → Q v M := fun v e => hQ' v M e f
  have l228 : x1.toInt = 14 → ∀ (t w : Nat) (x3 : Int32), w + t = hoW H → x3.toInt = (w : Int) → j_X12_count_70_228 7 (bs (bt (szP S)) w) x3 M Q := by
    intro q t
    induction t with
    | zero =>
      intro w x3 hw h3
      refine v_X12_count_70_228 ?_
      rw [d_cn a.1, cy.1.2.1.2.2.1.1, a.1, show w = hoW H by omega, bs_self hO.2.2.2.1 (by omega)]
      exact ⟨by omega, fun _ => r0 _ (by unfold aCnt; rw [if_neg (by omega), if_neg (by omega), if_neg (by omega), if_neg (by omega), if_neg (by omega), if_neg (by omega), if_neg (by omega), if_neg (by omega), if_neg (by omega), if_neg (by omega), if_neg (by omega), if_neg (by omega), if_neg (by omega), if_neg (by omega), if_pos q]), fun q => by exfalso; omega⟩
    | succ t ih =>
      intro w x3 hw h3
      have e30 := d_add (k := x3) (K := w) (x := (30 : Int32)) (i := 30) (by decide) h3 (by omega)
      have n := ih (w + 1) _ (by omega) (d_inc h3 (by omega))
      have eb : bs (bt (szP S)) w ||| ((bi (bt (szP S) w)) <<< (x3 &&& 31)) = bs (bt (szP S)) (w + 1) := by
        show _ = cond (bt (szP S) w) (bs (bt (szP S)) w ||| b1 w) (bs (bt (szP S)) w)
        cases bt (szP S) w with
        | true =>
          have e1 : (bi true) <<< (x3 &&& 31) = b1 w := b1_of h3
          rw [e1]
          rfl
        | false =>
          have e1 : (bi false) <<< (x3 &&& 31) = 0 := Int32.zero_shiftLeft
          rw [e1, Int32.or_zero]
          rfl
      refine v_X12_count_70_228 ?_
      rw [d_cn a.1, cy.1.2.1.2.2.1.1, a.1, d_cn e30, (cy.2.1.2.1 w (by omega)).2.2.2, eb]
      exact ⟨by omega, fun q => by exfalso; omega, fun _ => ⟨by omega, n⟩⟩
  have l265 : x1.toInt = 15 → ∀ (t w : Nat) (x3 : Int32), w + t = hoW H → x3.toInt = (w : Int) → j_X12_count_70_265 7 (whR H S w) x3 M Q := by
    intro q t
    induction t with
    | zero =>
      intro w x3 hw h3
      refine v_X12_count_70_265 ?_
      rw [d_cn a.1, cy.1.2.1.2.2.1.1, a.1, show w = hoW H by omega]
      exact ⟨by omega, fun _ => r0 _ (by unfold aCnt; rw [if_neg (by omega), if_neg (by omega), if_neg (by omega), if_neg (by omega), if_neg (by omega), if_neg (by omega), if_neg (by omega), if_neg (by omega), if_neg (by omega), if_neg (by omega), if_neg (by omega), if_neg (by omega), if_neg (by omega), if_neg (by omega), if_neg (by omega), if_pos q]), fun q => by exfalso; omega⟩
    | succ t ih =>
      intro w x3 hw h3
      have n := ih (w + 1) _ (by omega) (d_inc h3 (by omega))
      rw [show whR H S (w + 1) = whR H S w + cond (bt (szG S) w) 0 (szR S w) from rfl] at n
      refine v_X12_count_70_265 ?_
      rw [d_cn a.1, cy.1.2.1.2.2.1.1, a.1]
      refine ⟨by omega, fun q => by exfalso; omega, fun _ => Wp.deep (y_isWhole cy.1.2.1 (cy.2.1.rg (r := 0)) h3 (by omega) (fun b => ⟨fun z => absurd z (by decide), fun _ => ⟨by omega, ?_⟩⟩) (fun b => ⟨fun _ => ?_, fun z => absurd rfl z⟩)) (Nat.le_of_ble_eq_true rfl)⟩
      · rw [b, cond_false] at n
        rw [d_cn h3, (cy.2.1.2.1 w (by omega)).1]
        exact v_X12_count_70_295 n
      · rw [b, cond_true, Int32.add_zero] at n
        exact v_X12_count_70_295 n
  have e115 : M.1 115 = m.1 115 := f.1 115 (by decide) (by decide) (by decide)
  have e702 : M.1 70 2 = m.1 70 2 := f.2.1 2 (by decide) (by decide) (by decide) (by decide)
  have e7063 : M.1 70 63 = m.1 70 63 := f.2.1 63 (by decide) (by decide) (by decide) (by decide)
  have sl : ∀ v : Int32, x1.toInt = 12 → slc m = v → Q v M := fun v q e => r0 v (by unfold aCnt; rw [if_neg (by omega), if_neg (by omega), if_neg (by omega), if_neg (by omega), if_neg (by omega), if_neg (by omega), if_neg (by omega), if_neg (by omega), if_neg (by omega), if_neg (by omega), if_neg (by omega), if_neg (by omega), if_pos q]; exact e)
  refine ⟨fun q => ⟨by omega, r0 _ ?_⟩, fun q => ⟨by omega, r0 _ ?_⟩, fun q => ⟨by omega, r0 _ ?_⟩, fun q => r0 _ ?_, fun q => r0 _ ?_, fun q => r0 _ ?_, fun q => Wp.deep (eb_gone hKM hO (r0 _ ?_)) (Nat.le_of_ble_eq_true rfl), fun q => Wp.deep (y_litBits cy.1 cy.2.2 (r0 _ ?_)) (Nat.le_of_ble_eq_true rfl), fun q => Wp.deep (y_onNow cy (r0 _ ?_)) (Nat.le_of_ble_eq_true rfl), fun q => r0 _ ?_, fun q => r0 _ ?_, fun q => r0 _ ?_, fun q => ?_, fun q => Wp.deep (y_isSurge cy.1 cy.2.1.1.1 ?_) (Nat.le_of_ble_eq_true rfl), fun q => l228 q (hoW H) 0 _ (by omega) (by decide), fun q => l265 q (hoW H) 0 _ (by omega) (by decide), fun q => r0 _ ?_⟩
  · unfold aCnt; rw [if_pos q]; rw [d_cn a.1]; exact ofI cy.1.2.1.2.1.1
  · unfold aCnt; rw [if_neg (by omega), if_pos q]; rw [d_cn a.1]; exact ofI cy.1.2.1.2.2.1.1
  · unfold aCnt; rw [if_neg (by omega), if_neg (by omega), if_pos q]; rw [d_cn a.1]; exact ofI cy.1.2.2.1
  · unfold aCnt; rw [if_neg (by omega), if_neg (by omega), if_neg (by omega), if_pos q]; exact z.1.symm
  · unfold aCnt; rw [if_neg (by omega), if_neg (by omega), if_neg (by omega), if_neg (by omega), if_pos q]; exact z.2.1.symm
  · unfold aCnt; rw [if_neg (by omega), if_neg (by omega), if_neg (by omega), if_neg (by omega), if_neg (by omega), if_pos q]; exact z.2.2.symm
  · unfold aCnt; rw [if_neg (by omega), if_neg (by omega), if_neg (by omega), if_neg (by omega), if_neg (by omega), if_neg (by omega), if_pos q]
  · unfold aCnt; rw [if_neg (by omega), if_neg (by omega), if_neg (by omega), if_neg (by omega), if_neg (by omega), if_neg (by omega), if_neg (by omega), if_pos q]; rfl
  · unfold aCnt; rw [if_neg (by omega), if_neg (by omega), if_neg (by omega), if_neg (by omega), if_neg (by omega), if_neg (by omega), if_neg (by omega), if_neg (by omega), if_pos q]
  · unfold aCnt; rw [if_neg (by omega), if_neg (by omega), if_neg (by omega), if_neg (by omega), if_neg (by omega), if_neg (by omega), if_neg (by omega), if_neg (by omega), if_neg (by omega), if_pos q]; exact e702.symm
  · unfold aCnt; rw [if_neg (by omega), if_neg (by omega), if_neg (by omega), if_neg (by omega), if_neg (by omega), if_neg (by omega), if_neg (by omega), if_neg (by omega), if_neg (by omega), if_neg (by omega), if_pos q]; exact ofI hKM.2.2.1.1
  · unfold aCnt; rw [if_neg (by omega), if_neg (by omega), if_neg (by omega), if_neg (by omega), if_neg (by omega), if_neg (by omega), if_neg (by omega), if_neg (by omega), if_neg (by omega), if_neg (by omega), if_neg (by omega), if_pos q]; exact e7063.symm
  · rw [e115]
    have d : ∀ (i : Nat), (m.1 115 i).toInt = 0 → bi (decide ((m.1 115 i).toInt ≠ 0)) = 0 := fun i h => by rw [decide_eq_false (fun w => w h)]; rfl
    have u : ∀ (i : Nat), (m.1 115 i).toInt ≠ 0 → bi (decide ((m.1 115 i).toInt ≠ 0)) = 1 := fun i h => by rw [decide_eq_true h]; rfl
    exact ⟨fun a0 => ⟨fun a1 => ⟨fun a2 => sl _ q (by unfold slc; rw [d 0 a0, d 1 a1, d 2 a2]), fun a2 => sl _ q (by unfold slc; rw [d 0 a0, d 1 a1, u 2 a2])⟩, fun a1 => ⟨fun a2 => sl _ q (by unfold slc; rw [d 0 a0, u 1 a1, d 2 a2]), fun a2 => sl _ q (by unfold slc; rw [d 0 a0, u 1 a1, u 2 a2])⟩⟩, fun a0 => ⟨fun a1 => ⟨fun a2 => sl _ q (by unfold slc; rw [u 0 a0, d 1 a1, d 2 a2]), fun a2 => sl _ q (by unfold slc; rw [u 0 a0, d 1 a1, u 2 a2])⟩, fun a1 => ⟨fun a2 => sl _ q (by unfold slc; rw [u 0 a0, u 1 a1, d 2 a2]), fun a2 => sl _ q (by unfold slc; rw [u 0 a0, u 1 a1, u 2 a2])⟩⟩⟩
  · rw [a6]
    exact ⟨fun z => r0 _ (by unfold aCnt; rw [if_neg (by omega), if_neg (by omega), if_neg (by omega), if_neg (by omega), if_neg (by omega), if_neg (by omega), if_neg (by omega), if_neg (by omega), if_neg (by omega), if_neg (by omega), if_neg (by omega), if_neg (by omega), if_neg (by omega), if_pos q]; exact bi_z z), fun z => r0 _ (by unfold aCnt; rw [if_neg (by omega), if_neg (by omega), if_neg (by omega), if_neg (by omega), if_neg (by omega), if_neg (by omega), if_neg (by omega), if_neg (by omega), if_neg (by omega), if_neg (by omega), if_neg (by omega), if_neg (by omega), if_neg (by omega), if_pos q]; exact bi_n z)⟩
  · unfold aCnt; rw [if_neg (by omega), if_neg (by omega), if_neg (by omega), if_neg (by omega), if_neg (by omega), if_neg (by omega), if_neg (by omega), if_neg (by omega), if_neg (by omega), if_neg (by omega), if_neg (by omega), if_neg (by omega), if_neg (by omega), if_neg (by omega), if_neg (by omega), if_neg (by omega)]
end QCT
