/-! QUESTIONS, exactly: hours tried; peak, first, thick -/
theorem z_of {x : Int32} (h : x.toInt = 0) : x = 0 := d_ce (h.trans ti_0.symm)
theorem i32_n {n : Nat} (h : n ≤ 1000000) : (Int32.ofInt (n : Int)).toInt = (n : Int) := Int32.toInt_ofInt_of_le (by omega) (by omega)
/-- alike as far as wires know of it -/
def Wl (S T : Zt) : Prop := szH S = szH T ∧ szG S = szG T ∧ szP S = szP T ∧ szA S = szA T ∧ szR S = szR T ∧ szE S = szE T
abbrev wgo (H : Ho) (T : Zt) (x : Int32) : Int32 := gng H T (onA H T (hod (szH T))) (hod (szH T)) x
section QTA
variable {H : Ho} {S T : Zt}
theorem Wl.rf (S : Zt) : Wl S S := ⟨rfl, rfl, rfl, rfl, rfl, rfl⟩
theorem Wl.p (h : Wl S T) : Wl S (pst H T) := ⟨h.1, h.2.1, h.2.2.1, h.2.2.2.1, h.2.2.2.2.1, h.2.2.2.2.2⟩
theorem Wl.on (h : Wl S T) {x : Int32} : onA H S x = onA H T x := by
  unfold onA
  exact bs_congr _ (fun u _ => by unfold onp; rw [h.2.2.2.1, h.2.1])
theorem Wl.gn (h : Wl S T) {on x more : Int32} : gng H S on x more = gng H T on x more := by
  unfold gng
  exact bs_congr _ (fun w _ => by unfold gop vGo; rw [h.1, h.2.1, h.2.2.1, h.2.2.2.2.1, h.2.2.2.2.2])
theorem Wl.go (h : Wl S T) {x : Int32} : wgo H S x = wgo H T x := by
  show gng H S (onA H S (hod (szH S))) (hod (szH S)) x = gng H T (onA H T (hod (szH T))) (hod (szH T)) x
  rw [h.gn, h.on, h.1]
theorem Wl.w (h : Wl S T) {x : Int32} : Wl (wsz H S x) (wsz H T x) := by
  have g : szG S ||| wgo H S x = szG T ||| wgo H T x := by rw [h.go, h.2.1]
  have g : szG S ||| gng H S (onA H S (hod (szH S))) (hod (szH S)) x = szG T ||| gng H T (onA H T (hod (szH T))) (hod (szH T)) x := g
  refine ⟨?_, g, h.2.2.1, h.2.2.2.1, h.2.2.2.2.1, ?_⟩
  · show szH S + 1 = szH T + 1
    rw [h.1]
  · show (fun w => if w < hoW H ∧ bt (szG S ||| gng H S (onA H S (hod (szH S))) (hod (szH S)) x) w = false then (if (szE S w + 1) < (999 : Int32) then (szE S w + 1) else 999) else szE S w) = (fun w => if w < hoW H ∧ bt (szG T ||| gng H T (onA H T (hod (szH T))) (hod (szH T)) x) w = false then (if (szE T w + 1) < (999 : Int32) then (szE T w + 1) else 999) else szE T w)
    rw [g, h.2.2.2.2.2]
def wtr (H : Ho) (S : Zt) : Nat → Zt
  | 0 => S
  | k + 1 => wsz H (wtr H S k) 0
theorem zOk.ws (hH : hOk H) (h : zOk H S) : ∀ k : Nat, zOk H (wtr H S k)
  | 0 => h
  | k + 1 => (zOk.ws hH h k).w hH _
def pkv (H : Ho) (S : Zt) (w k : Nat) : Int32 := lod H (szG (wtr H S k)) (onA H (wtr H S k) (hod (szH (wtr H S k)))) w
def pkB (H : Ho) (S : Zt) (w : Nat) : Nat → Int32 × Int32
  | 0 => (0, 0)
  | k + 1 => if (pkB H S w k).1.toInt < (pkv H S w k).toInt then (pkv H S w k, Int32.ofInt (k : Int)) else pkB H S w k
def aPk (H : Ho) (S : Zt) (x1 x2 x3 : Int32) : Int32 := if (0 ≤ x1.toInt ∧ x1.toInt < (hoW H : Int)) ∧ (1 ≤ x2.toInt ∧ x2.toInt ≤ 48) ∧ 0 ≤ x3.toInt ∧ x3.toInt ≤ 1 then (if x3.toInt = 1 then (pkB H S x1.toNatClampNeg x2.toNatClampNeg).2 else (pkB H S x1.toNatClampNeg x2.toNatClampNeg).1) else -1
/-- behind how many hours which wires go -/
def fgo (H : Ho) : Nat → Nat → Zt → Nat × Int32
  | 0, _, _ => (201, 0)
  | t + 1, i, T => if (wgo H T 0).toInt = 0 then fgo H t (i + 1) (wsz H T 0) else (i, wgo H T 0)
theorem fgo_s {t i : Nat} : fgo H (t + 1) i T = if (wgo H T 0).toInt = 0 then fgo H t (i + 1) (wsz H T 0) else (i, wgo H T 0) := rfl
theorem fgo_le : ∀ (t i : Nat) (T : Zt), i + t = 201 → (fgo H t i T).1 ≤ 201
  | 0, _, _, _ => Nat.le_refl _
  | t + 1, i, T, h => by
    rw [fgo_s]
    by_cases q : (wgo H T 0).toInt = 0
    · rw [if_pos q]; exact fgo_le t (i + 1) _ (by omega)
    · rw [if_neg q]
      show i ≤ 201
      omega
theorem fgo_hi (hw : hoW H ≤ 10) {j : Nat} (hj : 10 ≤ j) : ∀ (t i : Nat) (T : Zt), bt (fgo H t i T).2 j = false
  | 0, _, _ => bt_0
  | t + 1, i, T => by
    rw [fgo_s]
    by_cases q : (wgo H T 0).toInt = 0
    · rw [if_pos q]; exact fgo_hi hw hj t (i + 1) _
    · rw [if_neg q]; exact gng_hi hw hj
theorem fgo_nz : ∀ (t i : Nat) (T : Zt), (fgo H t i T).1 ≠ 201 → (fgo H t i T).2.toInt ≠ 0
  | 0, _, _, h => absurd rfl h
  | t + 1, i, T, h => by
    rw [fgo_s] at h ⊢
    by_cases q : (wgo H T 0).toInt = 0
    · rw [if_pos q] at h ⊢; exact fgo_nz t (i + 1) _ h
    · rw [if_neg q]; exact q
end QTA
/-- the r-th of the bits, from b on -/
def ithB (x : Int32) : Nat → Nat → Nat → Int32
  | 0, _, _ => -1
  | t + 1, b, r => cond (bt x b) (if r = 0 then Int32.ofInt (b : Int) else ithB x t (b + 1) (r - 1)) (ithB x t (b + 1) r)
theorem ithB_s {x : Int32} {t b r : Nat} : ithB x (t + 1) b r = cond (bt x b) (if r = 0 then Int32.ofInt (b : Int) else ithB x t (b + 1) (r - 1)) (ithB x t (b + 1) r) := rfl
theorem ithB_0 {x : Int32} (h : ∀ i : Nat, 10 ≤ i → bt x i = false) : ∀ (t b r : Nat), 10 ≤ b → ithB x t b r = -1
  | 0, _, _, _ => rfl
  | t + 1, b, r, hb => by
    rw [ithB_s, h b hb, cond_false]
    exact ithB_0 h t (b + 1) r (by omega)
theorem ithB_c {x : Int32} (h : ∀ i : Nat, 10 ≤ i → bt x i = false) : ∀ (t b r : Nat), b + t = 10 → ithB x (t + 22) b r = ithB x t b r
  | 0, b, r, hb => by
    rw [ithB_0 h (0 + 22) b r (by omega)]
    rfl
  | t + 1, b, r, hb => by
    rw [show t + 1 + 22 = (t + 22) + 1 by omega, ithB_s (t := t + 22), ithB_s (t := t), ithB_c h t (b + 1) (r - 1) (by omega), ithB_c h t (b + 1) r (by omega)]
section QTR
variable {H : Ho} {S : Zt} {P : List Zt} {L : Nat → Zt} {m : dM} {s : Nat} {x1 x2 x3 : Int32}
theorem ea_bitAt {x0 : Int32} {k : Nat} {Q : Int32 → dM → Prop} {M : dM} (h1 : x1.toInt = (k : Int)) (hk : k ≤ 3) (hQ : Q (ithB x0 32 0 k) M) : c_X11_bitAt 2 x0 x1 M Q := by
  have loop : ∀ (t b r : Nat) (x2 x3 : Int32), b + t = 32 → x3.toInt = (b : Int) → x2.toInt + (r : Int) = (k : Int) → 0 ≤ x2.toInt → Q (ithB x0 t b r) M → j_X11_bitAt_4 2 x0 x1 x2 x3 M Q := by
    intro t
    induction t with
    | zero => intro b r x2 x3 hb h3 h2 h20 hq; exact v_X11_bitAt_4 ⟨fun _ => hq, fun q => by exfalso; omega⟩
    | succ t ih =>
      intro b r x2 x3 hb h3 h2 h20 hq
      rw [ithB_s] at hq
      refine v_X11_bitAt_4 ⟨fun q => by exfalso; omega, fun _ => y_has h3 (by omega) (fun g => ⟨fun z => absurd z (by decide), fun _ => ⟨fun ne => v_X11_bitAt_28 ?_, fun e => ?_⟩⟩) (fun g => ⟨fun _ => v_X11_bitAt_28 ?_, fun z => absurd rfl z⟩)⟩
      · rw [g, cond_true, if_neg (by omega)] at hq
        have f := dAddE (X := x2.toInt) (Y := 1) (x := x2) (y := (1 : Int32)) rfl (by decide) (by omega) (by omega)
        exact ih (b + 1) (r - 1) _ _ (by omega) (d_inc h3 (by omega)) (by omega) (by omega) hq
      · rw [g, cond_true, if_pos (by omega), ofI h3] at hq
        exact hq
      · rw [g, cond_false] at hq
        exact ih (b + 1) r _ _ (by omega) (d_inc h3 (by omega)) h2 h20 hq
  exact v_X11_bitAt (loop 32 0 k _ _ rfl (by decide) (by have := ti_0; omega) (by decide) hQ)
theorem eb_low {x0 : Int32} {Q : Int32 → dM → Prop} {M : dM} (hx : ∃ j : Nat, j < 10 ∧ bt x0 j = true) (hQ : Q (ithB x0 10 0 0) M) : c_X12_lowestOf 7 x0 M Q := by
  have loop : ∀ (t b : Nat) (x1 : Int32), b + t = 10 → x1.toInt = (b : Int) → (∃ j : Nat, b ≤ j ∧ j < 10 ∧ bt x0 j = true) → Q (ithB x0 t b 0) M → j_X12_lowestOf_2 7 x0 x1 M Q := by
    intro t
    induction t with
    | zero => intro b x1 hb h1 hj hq; exfalso; obtain ⟨j, j1, j2, j3⟩ := hj; omega
    | succ t ih =>
      intro b x1 hb h1 hj hq
      rw [ithB_s] at hq
      refine v_X12_lowestOf_2 ⟨fun q => by exfalso; omega, fun _ => ?_⟩
      rw [bt_s h1 (by omega)]
      cases e : bt x0 b with
      | true =>
        rw [e, cond_true, if_pos rfl, ofI h1] at hq
        exact ⟨fun _ => v_X12_lowestOf_22 hq, fun q => absurd q (by decide)⟩
      | false =>
        rw [e, cond_false] at hq
        refine ⟨fun q => absurd rfl q, fun _ => ih (b + 1) _ (by omega) (d_inc h1 (by omega)) ?_ hq⟩
        obtain ⟨j, j1, j2, j3⟩ := hj
        refine ⟨j, ?_, j2, j3⟩
        by_cases q : j = b
        · rw [q, e] at j3; cases j3
        · omega
  obtain ⟨j, j2, j3⟩ := hx
  exact v_X12_lowestOf (loop 10 0 _ rfl (by decide) ⟨j, Nat.zero_le _, j2, j3⟩ hQ)
theorem e_still {Q : dM → Prop} {M : dM} (hK : KR H S P L s m) (hF : RsF m M) (hQ : ∀ m' : dM, RsF m m' → CY H S s m' → (m'.1 70 57).toInt ≠ 0 → Q m') : c_X12_copiesStill_70 7 M Q := by
  have hK' := hK.rs hF
  refine v_X12_copiesStill_70 (y_copies hK'.1 hK'.2.1 (fun M1 f cy _ _ => hQ _ ((hF.tr f).s70 (by decide)) ⟨cy.1.rs ((RsF.rf M1).s70 (by decide)), cy.2.1.of (dSet_k (by decide)), cy.2.2.of (dSet_k (by decide)) (dSet_k (by decide))⟩ (by rw [dSet_s]; decide)))
theorem e_hour {Q : dM → Prop} {M : dM} {T T0 : Zt} (hC : CY H T s M) (hO : zOk H T) (hF : RsF m M) (h57 : (M.1 70 57).toInt ≠ 0) (hw : Wl T0 T) (hQ : ∀ (T' : Zt) (m' : dM), RsF m m' → CY H T' s m' → zOk H T' → (m'.1 70 57).toInt ≠ 0 → Wl (wsz H T0 0) T' → m'.1 70 60 = wgo H T0 0 → Q m') : c_X12_hourGoes_70 6 M Q :=
  y_hourGoes hC.1 hC.2.1 hC.2.2 hO (fun M1 f1 W1 g1 Z1 L1 => by
    have e0 : mor H T M = 0 := by unfold mor; rw [decide_eq_true h57]; rfl
    rw [e0] at g1 Z1 L1
    exact hQ _ M1 (hF.tr f1.rs) ⟨W1, Z1, L1⟩ (zOk.hh hC.1.1 hO _) (by rw [f1.2.1 57 (by decide) (by decide)]; exact h57) hw.p.w (g1.trans (hw.go (H := H)).symm))
theorem ea_peak {Q : Int32 → dM → Prop} (hK : KC H S P L m) (hO : zOk H S) (hQ : ∀ m' : dM, QC H S P L m m' → Q (aPk H S x1 x2 x3) m') : c_X11_peak_0 7 x1 x2 x3 m Q := by
  have q0 := QC.rf hK
  have w10 := hK.1.1.2.1
  have hQ' : ∀ (v : Int32) (m' : dM), aPk H S x1 x2 x3 = v → QC H S P L m m' → Q v m' := fun v m' e q => by rw [← e]; exact hQ m' q
  have no : ¬ ((0 ≤ x1.toInt ∧ x1.toInt < (hoW H : Int)) ∧ (1 ≤ x2.toInt ∧ x2.toInt ≤ 48) ∧ 0 ≤ x3.toInt ∧ x3.toInt ≤ 1) → j_X11_peak_0_28 7 m Q := fun q => v_X11_peak_0_28 (hQ' _ m (by unfold aPk; rw [if_neg q]) q0)
  refine v_X11_peak_0 (Wp.deep (y_isWirec hK.1 (fun hu => ⟨fun z => absurd z (by decide), fun _ => ⟨fun q => no (by omega), fun a1 => ⟨fun q => no (by omega), fun a2 => ⟨fun q => no (by omega), fun a3 => ⟨fun a4 => ?_, fun q => no (by omega)⟩⟩⟩⟩⟩) (fun hu => ⟨fun _ => no (fun w => hu w.1), fun z => absurd rfl z⟩)) (Nat.le_of_ble_eq_true rfl))
  have hx := toNat_of hu.1
  have hn := toNat_of (x := x2) (by omega)
  have hwW : x1.toNatClampNeg < hoW H := by omega
  have eA : aPk H S x1 x2 x3 = (if x3.toInt = 1 then (pkB H S x1.toNatClampNeg x2.toNatClampNeg).2 else (pkB H S x1.toNatClampNeg x2.toNatClampNeg).1) := by unfold aPk; rw [if_pos ⟨hu, ⟨a1, a2⟩, a3, a4⟩]
  have go : ∀ y : Int32, (y.toInt = 0 → aPk H S x1 x2 x3 = (pkB H S x1.toNatClampNeg x2.toNatClampNeg).1) → (y.toInt ≠ 0 → aPk H S x1 x2 x3 = (pkB H S x1.toNatClampNeg x2.toNatClampNeg).2) → c_X1_peakOf_61_47 6 x1 x2 y m (fun r2 m2 => Q r2 m2) := fun y e0 e1 => by
    refine v_X1_peakOf_61_47 (Wp.deep (y_copy62 q0 (fun M q1 z1 => ?_)) (Nat.le_of_ble_eq_true rfl))
    have loop : ∀ (t i : Nat) (x7 : Int32) (M : dM), i + t = x2.toNatClampNeg → x7.toInt = (i : Int) → QC H S P L m M → CZ 62 M (wtr H S i) → j_X1_peakOf_61_47_17 6 x1 x2 y (pkB H S x1.toNatClampNeg i).1 (pkB H S x1.toNatClampNeg i).2 x7 M Q := by
      intro t
      induction t with
      | zero =>
        intro i x7 M hi h7 qM zM
        have ei : i = x2.toNatClampNeg := by omega
        rw [ei]
        exact v_X1_peakOf_61_47_17 ⟨fun _ => ⟨fun z => hQ' _ M (e0 z) qM, fun z => hQ' _ M (e1 z) qM⟩, fun q => by exfalso; omega⟩
      | succ t ih =>
        intro i x7 M hi h7 qM zM
        have zi := zOk.ws hK.1.1 hO i
        have eS : pkB H S x1.toNatClampNeg (i + 1) = if (pkB H S x1.toNatClampNeg i).1.toInt < (pkv H S x1.toNatClampNeg i).toInt then (pkv H S x1.toNatClampNeg i, Int32.ofInt (i : Int)) else pkB H S x1.toNatClampNeg i := rfl
        refine v_X1_peakOf_61_47_17 ⟨fun q => by exfalso; omega, fun _ => y_passWires62 qM.2.1 zM (zi.g1 hK.1.1) (fun M2 f2 w2 z2 d2 => ?_)⟩
        have ev : M2.1 56 x1.toNatClampNeg = pkv H S x1.toNatClampNeg i := d2 _ hwW
        have n := ih (i + 1) _ M2 (by omega) (d_inc h7 (by omega)) (qM.t62 f2 w2) z2
        rw [ev]
        refine ⟨by omega, fun le => v_X1_peakOf_61_47_65 ?_, fun l => ⟨by omega, v_X1_peakOf_61_47_65 ?_⟩⟩
        · rw [eS, if_neg (by omega)] at n
          exact n
        · rw [eS, if_pos l, ofI h7] at n
          exact n
    exact loop x2.toNatClampNeg 0 _ M (by omega) (by decide) q1 z1
  exact ⟨fun n => go _ (fun _ => by rw [eA, if_neg n]) (fun z => absurd rfl z), fun e => go _ (fun z => absurd z (by decide)) (fun _ => by rw [eA, if_pos e])⟩
theorem eb_peak {Q : Int32 → dM → Prop} (hK : KR H S P L s m) (hO : zOk H S) (hQ : ∀ m' : dM, RsF m m' → Q (aPk H S x1 x2 x3) m') : c_X12_peak_70 8 x1 x2 x3 m Q := by
  have w10 := hK.1.1.2.1
  have hQ' : ∀ (v : Int32) (m' : dM), aPk H S x1 x2 x3 = v → RsF m m' → Q v m' := fun v m' e q => by rw [← e]; exact hQ m' q
  have e0 := ti_0
  have e1 := ti_1
  have e48 := ti_48
  have em := ti_m1
  have no : ¬ ((0 ≤ x1.toInt ∧ x1.toInt < (hoW H : Int)) ∧ (1 ≤ x2.toInt ∧ x2.toInt ≤ 48) ∧ 0 ≤ x3.toInt ∧ x3.toInt ≤ 1) → j_X12_peak_70_27 8 m Q := fun q => v_X12_peak_70_27 (hQ' _ m (by unfold aPk; rw [if_neg q]) (RsF.rf m))
  refine v_X12_peak_70 (Wp.deep (y_isWire hK.1.2.1 (fun hu => ⟨fun z => absurd z (by decide), fun _ => Wp.deep (y_in (fun h2 => ⟨fun z => absurd z (by decide), fun _ => Wp.deep (y_in (fun h3 => ⟨fun _ => ?_, fun z => absurd z (by decide)⟩) (fun q => ⟨fun z => absurd rfl z, fun _ => no (by omega)⟩)) (Nat.le_of_ble_eq_true rfl)⟩) (fun q => ⟨fun _ => no (by omega), fun z => absurd rfl z⟩)) (Nat.le_of_ble_eq_true rfl)⟩) (fun hu => ⟨fun _ => no (fun w => hu w.1), fun z => absurd rfl z⟩)) (Nat.le_of_ble_eq_true rfl))
  have hx := toNat_of hu.1
  have hn := toNat_of (x := x2) (by omega)
  have eA : aPk H S x1 x2 x3 = (if x3.toInt = 1 then (pkB H S x1.toNatClampNeg x2.toNatClampNeg).2 else (pkB H S x1.toNatClampNeg x2.toNatClampNeg).1) := by unfold aPk; rw [if_pos (by omega)]
  refine e_still hK (RsF.rf m) (fun M f cy h57 => ?_)
  have vb : ∀ k : Nat, 0 ≤ (pkv H S x1.toNatClampNeg k).toInt := fun k => (lds_b hK.1.1 (hoU H) (Nat.le_refl _)).1
  have loop : ∀ (t i : Nat) (x4 x5 x6 : Int32) (T : Zt) (M : dM), i + t = x2.toNatClampNeg → x6.toInt = (i : Int) → ((i = 0 ∧ x4 = 0 ∧ x5 = -1) ∨ (0 < i ∧ x4 = (pkB H S x1.toNatClampNeg i).2 ∧ x5 = (pkB H S x1.toNatClampNeg i).1)) → RsF m M → CY H T s M → zOk H T → Wl (wtr H S i) T → (M.1 70 57).toInt ≠ 0 → j_X12_peak_70_42 8 x1 x2 x3 x4 x5 x6 M Q := by
    intro t
    induction t with
    | zero =>
      intro i x4 x5 x6 T M hi h6 hb fM cM hT hw h57
      have ei : i = x2.toNatClampNeg := by omega
      rcases hb with ⟨b1, _, _⟩ | ⟨_, b2, b3⟩
      · exfalso; omega
      · rw [ei] at b2 b3
        exact v_X12_peak_70_42 ⟨fun _ => ⟨fun n => hQ' _ M (by rw [eA, if_pos (by omega), b2]) fM, fun z => hQ' _ M (by rw [eA, if_neg (by omega), b3]) fM⟩, fun q => by exfalso; omega⟩
    | succ t ih =>
      intro i x4 x5 x6 T M hi h6 hb fM cM hT hw h57
      have ev : lod H (szG T) (onA H T (hod (szH T))) x1.toNatClampNeg = pkv H S x1.toNatClampNeg i := by
        unfold pkv
        rw [hw.on, hw.1, hw.2.1]
      have vi := vb i
      have eS : pkB H S x1.toNatClampNeg (i + 1) = if (pkB H S x1.toNatClampNeg i).1.toInt < (pkv H S x1.toNatClampNeg i).toInt then (pkv H S x1.toNatClampNeg i, Int32.ofInt (i : Int)) else pkB H S x1.toNatClampNeg i := rfl
      have on : ∀ y z : Int32, (y = (pkB H S x1.toNatClampNeg (i + 1)).2 ∧ z = (pkB H S x1.toNatClampNeg (i + 1)).1) → j_X12_peak_70_86 8 x1 x2 x3 y z x6 M Q := fun y z hyz => v_X12_peak_70_86 (Wp.deep (e_hour cM hT fM h57 hw (fun T' M1 f1 c1 h1 h57' w1 _ => ih (i + 1) _ _ _ T' M1 (by omega) (d_inc h6 (by omega)) (Or.inr ⟨by omega, hyz⟩) f1 c1 h1 w1 h57')) (Nat.le_of_ble_eq_true rfl))
      have up : x5.toInt < (pkv H S x1.toNatClampNeg i).toInt → j_X12_peak_70_86 8 x1 x2 x3 x6 (pkv H S x1.toNatClampNeg i) x6 M Q := fun l => on _ _ (by
        rcases hb with ⟨b1, b2, b3⟩ | ⟨b1, b2, b3⟩
        · have p0 : pkB H S x1.toNatClampNeg i = (0, 0) := by rw [b1]; rfl
          rw [eS, p0]
          by_cases q : (0 : Int32).toInt < (pkv H S x1.toNatClampNeg i).toInt
          · rw [if_pos q]; exact ⟨(ofI h6).symm, rfl⟩
          · rw [if_neg q]; exact ⟨z_of (by omega), z_of (by omega)⟩
        · rw [b3] at l
          rw [eS, if_pos l]; exact ⟨(ofI h6).symm, rfl⟩)
      have stay : (pkv H S x1.toNatClampNeg i).toInt ≤ x5.toInt → j_X12_peak_70_86 8 x1 x2 x3 x4 x5 x6 M Q := fun l => on _ _ (by
        rcases hb with ⟨b1, b2, b3⟩ | ⟨b1, b2, b3⟩
        · exfalso; rw [b3] at l; omega
        · rw [eS, if_neg (by rw [b3] at l; omega)]; exact ⟨b2, b3⟩)
      refine v_X12_peak_70_42 ⟨fun q => by exfalso; omega, fun _ => Wp.deep (y_isWhole cM.1.2.1 (cM.2.1.rg (r := 0)) hx (by omega) (fun g => ⟨fun z => absurd z (by decide), fun _ => Wp.deep (y_onNow cM (Wp.deep (y_loadBy cM.1 cM.2.2 hx (by omega) ?_) (Nat.le_of_ble_eq_true rfl))) (Nat.le_of_ble_eq_true rfl)⟩) (fun g => ⟨fun _ => ?_, fun z => absurd rfl z⟩)) (Nat.le_of_ble_eq_true rfl)⟩
      · rw [ev]; exact ⟨stay, up⟩
      · have e00 : pkv H S x1.toNatClampNeg i = 0 := by rw [← ev]; exact lod_gone hK.1.1 g
        rw [e00] at stay up
        exact ⟨fun q => stay (by omega), fun q => up (by omega)⟩
  exact loop x2.toNatClampNeg 0 _ _ _ S M (by omega) (by decide) (Or.inl ⟨rfl, rfl, rfl⟩) f cy hO (Wl.rf S) h57
theorem ea_till {Q : Int32 → dM → Prop} {T : Zt} {M : dM} (hq : QC H S P L m M) (hZ : CZ 62 M T) (hT : zOk H T) (hQ : ∀ m' : dM, QC H S P L m m' → m'.1 61 4 = (fgo H 200 1 T).2 → Q (Int32.ofInt ((fgo H 200 1 T).1 : Int)) m') : c_X1_trialTillGone_61 6 M Q := by
  have hH := hq.2.1.1
  have loop : ∀ (t i : Nat) (x1 : Int32) (T' : Zt) (M : dM), i + t = 201 → x1.toInt = (i : Int) → QC H S P L m M → CZ 62 M T' → zOk H T' → M.1 61 4 = 0 → fgo H t i T' = fgo H 200 1 T → j_X1_trialTillGone_61_7 6 x1 M Q := by
    intro t
    induction t with
    | zero =>
      intro i x1 T' M hi h1 qM zM hT' h4 e
      have e : ((201, 0) : Nat × Int32) = fgo H 200 1 T := e
      rw [← e] at hQ
      have h' : Q (Int32.ofInt ((201 : Nat) : Int)) M := hQ M qM h4
      rw [show Int32.ofInt ((201 : Nat) : Int) = 201 by decide] at h'
      exact v_X1_trialTillGone_61_7 ⟨fun _ => h', fun q => by exfalso; omega⟩
    | succ t ih =>
      intro i x1 T' M hi h1 qM zM hT' h4 e
      rw [fgo_s] at e
      refine v_X1_trialTillGone_61_7 ⟨fun q => by exfalso; omega, fun _ => y_passWires62 qM.2.1 zM (hT'.g1 hH) (fun M2 f2 w2 z2 _ => ⟨fun z => ?_, fun nz => ?_⟩)⟩
      · have z : (wgo H T' 0).toInt = 0 := z
        rw [if_pos z] at e
        exact ih (i + 1) _ _ _ (by omega) (d_inc h1 (by omega)) ((qM.t62 f2 w2).s61 (Or.inl rfl)) (z2.of (fun k a b => dSet_k (by omega))) (hT'.w hH _) (by rw [dSet_s]; exact z_of z) e
      · have nz : (wgo H T' 0).toInt ≠ 0 := nz
        rw [if_neg nz] at e
        rw [← e] at hQ
        have h' : Q (Int32.ofInt (i : Int)) (dSet M2 61 4 (wgo H T' 0)) := hQ _ ((qM.t62 f2 w2).s61 (Or.inl rfl)) (dSet_s _ _ _ _)
        rw [ofI h1] at h'
        exact h'
  exact v_X1_trialTillGone_61 (loop 200 1 _ T _ (by decide) (by decide) (hq.s61 (Or.inl rfl)) (hZ.of (fun k a b => dSet_k (by omega))) hT (dSet_s _ _ _ _) rfl)
theorem eb_fgo {Q : Int32 → dM → Prop} {M : dM} {T T0 : Zt} (hC : CY H T s M) (hO : zOk H T) (hF : RsF m M) (h57 : (M.1 70 57).toInt ≠ 0) (hw : Wl T0 T) (hQ : ∀ m' : dM, RsF m m' → ((fgo H 200 1 T0).1 ≠ 201 → m'.1 70 60 = (fgo H 200 1 T0).2) → Q (Int32.ofInt ((fgo H 200 1 T0).1 : Int)) m') : c_X12_firstGoing_70 7 M Q := by
  have loop : ∀ (t i : Nat) (x1 : Int32) (T' T0' : Zt) (M : dM), i + t = 201 → x1.toInt = (i : Int) → RsF m M → CY H T' s M → zOk H T' → (M.1 70 57).toInt ≠ 0 → Wl T0' T' → fgo H t i T0' = fgo H 200 1 T0 → j_X12_firstGoing_70_2 7 x1 M Q := by
    intro t
    induction t with
    | zero =>
      intro i x1 T' T0' M hi h1 fM cM hT' h57 hw' e
      have e : ((201, 0) : Nat × Int32) = fgo H 200 1 T0 := e
      rw [← e] at hQ
      have h' : Q (Int32.ofInt ((201 : Nat) : Int)) M := hQ M fM (fun n => absurd rfl n)
      rw [show Int32.ofInt ((201 : Nat) : Int) = 201 by decide] at h'
      exact v_X12_firstGoing_70_2 ⟨fun _ => h', fun q => by exfalso; omega⟩
    | succ t ih =>
      intro i x1 T' T0' M hi h1 fM cM hT' h57 hw' e
      rw [fgo_s] at e
      refine v_X12_firstGoing_70_2 ⟨fun q => by exfalso; omega, fun _ => e_hour cM hT' fM h57 hw' (fun T2 M1 f1 c1 k1 h57' w1 g1 => ?_)⟩
      rw [g1]
      refine ⟨fun z => ?_, fun nz => ?_⟩
      · rw [if_pos z] at e
        exact ih (i + 1) _ T2 _ M1 (by omega) (d_inc h1 (by omega)) f1 c1 k1 h57' w1 e
      · rw [if_neg nz] at e
        rw [← e] at hQ
        have h' : Q (Int32.ofInt (i : Int)) M1 := hQ M1 f1 (fun _ => g1)
        rw [ofI h1] at h'
        exact h'
  exact v_X12_firstGoing_70 (loop 200 1 _ T T0 M (by decide) (by decide) hF hC hO h57 hw rfl)
def aFst (H : Ho) (S : Zt) (x1 : Int32) : Int32 := if 0 ≤ x1.toInt ∧ x1.toInt ≤ 1 then (if (fgo H 200 1 S).1 = 201 then -2 else if x1.toInt = 0 then Int32.ofInt ((fgo H 200 1 S).1 : Int) else ithB (fgo H 200 1 S).2 10 0 0) else -1
theorem ea_first {Q : Int32 → dM → Prop} (hK : KC H S P L m) (hO : zOk H S) (hQ : ∀ m' : dM, QC H S P L m m' → Q (aFst H S x1) m') : c_X11_first_0 8 x1 m Q := by
  have q0 := QC.rf hK
  have w10 := hK.1.1.2.1
  have hQ' : ∀ (v : Int32) (m' : dM), aFst H S x1 = v → QC H S P L m m' → Q v m' := fun v m' e q => by rw [← e]; exact hQ m' q
  have no : ¬ (0 ≤ x1.toInt ∧ x1.toInt ≤ 1) → j_X11_first_0_9 8 m Q := fun q => v_X11_first_0_9 (hQ' _ m (by unfold aFst; rw [if_neg q]) q0)
  have fl := fgo_le (H := H) 200 1 S rfl
  have fi : (Int32.ofInt ((fgo H 200 1 S).1 : Int)).toInt = ((fgo H 200 1 S).1 : Int) := i32_n (by omega)
  refine v_X11_first_0 ⟨fun q => no (by omega), fun h0 => ⟨fun h1 => v_X1_firstGone_61_47 (Wp.deep (y_copy62 q0 (fun M q1 z1 => ea_till q1 z1 hO (fun M2 q2 e4 => ?_))) (Nat.le_of_ble_eq_true rfl)), fun q => no (by omega)⟩⟩
  have eA : aFst H S x1 = (if (fgo H 200 1 S).1 = 201 then -2 else if x1.toInt = 0 then Int32.ofInt ((fgo H 200 1 S).1 : Int) else ithB (fgo H 200 1 S).2 10 0 0) := by unfold aFst; rw [if_pos ⟨h0, h1⟩]
  rw [fi]
  refine ⟨fun le => ⟨fun n => v_X1_firstWire_61 (Wp.deep (ea_bitAt (k := 0) (by decide) (by decide) (hQ' _ M2 ?_ q2)) (Nat.le_of_ble_eq_true rfl)), fun z => hQ' _ M2 (by rw [eA, if_neg (by omega), if_pos z]) q2⟩, fun g => hQ' _ M2 (by rw [eA, if_pos (by omega)]) q2⟩
  rw [eA, if_neg (by omega), if_neg n, e4]
  exact (ithB_c (fun j hj => fgo_hi w10 hj 200 1 S) 10 0 0 rfl).symm
theorem eb_first {Q : Int32 → dM → Prop} (hK : KR H S P L s m) (hO : zOk H S) (hQ : ∀ m' : dM, RsF m m' → Q (aFst H S x1) m') : c_X12_first_70 8 x1 m Q := by
  have w10 := hK.1.1.2.1
  have hQ' : ∀ (v : Int32) (m' : dM), aFst H S x1 = v → RsF m m' → Q v m' := fun v m' e q => by rw [← e]; exact hQ m' q
  have e0 := ti_0
  have e1 := ti_1
  have fl := fgo_le (H := H) 200 1 S rfl
  have fi : (Int32.ofInt ((fgo H 200 1 S).1 : Int)).toInt = ((fgo H 200 1 S).1 : Int) := i32_n (by omega)
  refine v_X12_first_70 (Wp.deep (y_in (fun h => ⟨fun _ => e_still hK (RsF.rf m) (fun M f cy h57 => eb_fgo cy hO f h57 (Wl.rf S) (fun M2 f2 e60 => ?_)), fun z => absurd z (by decide)⟩) (fun q => ⟨fun z => absurd rfl z, fun _ => hQ' _ m (by unfold aFst; rw [if_neg (by omega)]) (RsF.rf m)⟩)) (Nat.le_of_ble_eq_true rfl))
  have eA : aFst H S x1 = (if (fgo H 200 1 S).1 = 201 then -2 else if x1.toInt = 0 then Int32.ofInt ((fgo H 200 1 S).1 : Int) else ithB (fgo H 200 1 S).2 10 0 0) := by unfold aFst; rw [if_pos (by omega)]
  rw [fi]
  refine ⟨fun ne => ⟨fun n => ?_, fun z => hQ' _ M2 (by rw [eA, if_neg (by omega), if_pos z]) f2⟩, fun g => hQ' _ M2 (by rw [eA, if_pos (by omega)]) f2⟩
  have n201 : (fgo H 200 1 S).1 ≠ 201 := fun q => ne (by rw [q]; rfl)
  rw [e60 n201]
  refine eb_low ?_ (hQ' _ M2 (by rw [eA, if_neg n201, if_neg n]) f2)
  have nz := fgo_nz (H := H) 200 1 S n201
  by_cases ex : ∃ j : Nat, j < 10 ∧ bt (fgo H 200 1 S).2 j = true
  · exact ex
  · exfalso
    apply nz
    have z : (fgo H 200 1 S).2 = 0 := bt_z (fun i _ => by
      by_cases q : i < 10
      · cases b : bt (fgo H 200 1 S).2 i with
        | false => rfl
        | true => exact absurd ⟨i, q, b⟩ ex
      · exact fgo_hi w10 (by omega) 200 1 S)
    rw [z]
    exact e0
/-- rated so much more -/
def thR (S : Zt) (k : Int32) (w : Nat) : Zt := setR S (upd (szR S) w (if szR S w + k < (99 : Int32) then szR S w + k else 99))
def thB (H : Ho) (S : Zt) (k : Int32) : Nat → Int32 × Nat
  | 0 => (-2, (fgo H 200 1 S).1)
  | w + 1 => cond (bt (szG S) w) (thB H S k w) (if (thB H S k w).2 < (fgo H 200 1 (thR S k w)).1 then (Int32.ofInt (w : Int), (fgo H 200 1 (thR S k w)).1) else thB H S k w)
def aTck (H : Ho) (S : Zt) (x1 : Int32) : Int32 := if 1 ≤ x1.toInt ∧ x1.toInt ≤ 20 then (thB H S x1 (hoW H)).1 else -1
theorem thR_ok {k : Int32} {w : Nat} (h1 : 1 ≤ k.toInt) (h2 : k.toInt ≤ 20) (hw : w < hoW H) (hO : zOk H S) : zOk H (thR S k w) := by
  obtain ⟨a, b, c, d, e, f, g⟩ := hO
  refine ⟨a, b, c, d, e, fun j hj => ?_, g⟩
  show 0 ≤ (upd (szR S) w (if szR S w + k < (99 : Int32) then szR S w + k else 99) j).toInt ∧ (upd (szR S) w (if szR S w + k < (99 : Int32) then szR S w + k else 99) j).toInt ≤ 99
  rw [upd_j]
  by_cases q3 : j = w
  · have lti : (szR S w + k < (99 : Int32)) ↔ (szR S w + k).toInt < (99 : Int32).toInt := Int32.lt_iff_toInt_lt
    have e9 := ti_99
    have fw := f w hw
    have fa := dAddE (X := (szR S w).toInt) (Y := k.toInt) (x := szR S w) (y := k) rfl rfl (by omega) (by omega)
    rw [if_pos q3]
    by_cases q : szR S w + k < (99 : Int32)
    · rw [if_pos q]
      have := lti.mp q
      omega
    · rw [if_neg q]; omega
  · rw [if_neg q3]; exact f j hj
theorem thB_s {k : Int32} {w : Nat} : thB H S k (w + 1) = cond (bt (szG S) w) (thB H S k w) (if (thB H S k w).2 < (fgo H 200 1 (thR S k w)).1 then (Int32.ofInt (w : Int), (fgo H 200 1 (thR S k w)).1) else thB H S k w) := rfl
theorem thB_le {k : Int32} : ∀ w : Nat, (thB H S k w).2 ≤ 201
  | 0 => fgo_le 200 1 S rfl
  | w + 1 => by
    rw [thB_s]
    cases bt (szG S) w with
    | true => exact thB_le w
    | false =>
      rw [cond_false]
      by_cases q : (thB H S k w).2 < (fgo H 200 1 (thR S k w)).1
      · rw [if_pos q]; exact fgo_le 200 1 (thR S k w) rfl
      · rw [if_neg q]; exact thB_le w
theorem thB_st {k : Int32} {w : Nat} (h : 200 < (thB H S k w).2) : ∀ j : Nat, thB H S k (w + j) = thB H S k w
  | 0 => rfl
  | j + 1 => by
    have ih := thB_st h j
    rw [show w + (j + 1) = (w + j) + 1 by omega, thB_s, ih]
    cases bt (szG S) (w + j) with
    | true => rfl
    | false =>
      rw [cond_false]
      have := fgo_le (H := H) 200 1 (thR S k (w + j)) rfl
      rw [if_neg (by omega)]
theorem ea_thick {Q : Int32 → dM → Prop} (hK : KC H S P L m) (hO : zOk H S) (hQ : ∀ m' : dM, QC H S P L m m' → Q (aTck H S x1) m') : c_X11_thick_0 8 x1 m Q := by
  have q0 := QC.rf hK
  have w10 := hK.1.1.2.1
  have hQ' : ∀ (v : Int32) (m' : dM), aTck H S x1 = v → QC H S P L m m' → Q v m' := fun v m' e q => by rw [← e]; exact hQ m' q
  have no : ¬ (1 ≤ x1.toInt ∧ x1.toInt ≤ 20) → j_X11_thick_0_11 8 m Q := fun q => v_X11_thick_0_11 (hQ' _ m (by unfold aTck; rw [if_neg q]) q0)
  refine v_X11_thick_0 ⟨fun q => no (by omega), fun h0 => ⟨fun h1 => ?_, fun q => no (by omega)⟩⟩
  have eA : aTck H S x1 = (thB H S x1 (hoW H)).1 := by unfold aTck; rw [if_pos ⟨h0, h1⟩]
  have loop : ∀ (t w : Nat) (x5 : Int32) (M : dM), w + t = hoW H → x5.toInt = (w : Int) → QC H S P L m M → j_X1_bestThicker_61_47_20 7 x1 (Int32.ofInt ((thB H S x1 w).2 : Int)) (thB H S x1 w).1 x5 M Q := by
    intro t
    induction t with
    | zero =>
      intro w x5 M hw h5 qM
      have e21 := qM.2.1.2.1.1.2.1.1
      have ew : w = hoW H := by omega
      rw [ew]
      exact v_X1_bestThicker_61_47_20 ⟨fun _ => v_X1_bestThicker_61_47_111 (hQ' _ M eA qM), fun q => by exfalso; omega⟩
    | succ t ih =>
      intro w x5 M hw h5 qM
      have e21 := qM.2.1.2.1.1.2.1.1
      have g3 : M.1 47 3 = szG S := qM.2.2.1.1.2.2.2.1
      have tl := thB_le (H := H) (S := S) (k := x1) w
      have ti : (Int32.ofInt ((thB H S x1 w).2 : Int)).toInt = ((thB H S x1 w).2 : Int) := i32_n (by omega)
      have n := ih (w + 1)
      rw [thB_s] at n
      refine v_X1_bestThicker_61_47_20 ?_
      rw [ti, g3]
      refine ⟨fun q => by exfalso; omega, fun _ => ⟨fun g => v_X1_bestThicker_61_47_111 (hQ' _ M ?_ qM), fun le => Wp.deep (y_has h5 (by omega) (fun b => ⟨fun _ => v_X1_bestThicker_61_47_105 ?_, fun z => absurd z (by decide)⟩) (fun b => ⟨fun z => absurd rfl z, fun _ => Wp.deep (y_copy62 qM (fun M3 q3 z3 => ⟨by omega, by omega, ?_⟩)) (Nat.le_of_ble_eq_true rfl)⟩)) (Nat.le_of_ble_eq_true rfl)⟩⟩
      · rw [eA]
        have st := thB_st (H := H) (S := S) (k := x1) (w := w) (by omega) (hoW H - w)
        rw [show w + (hoW H - w) = hoW H by omega] at st
        rw [st]
      · rw [b, cond_true] at n
        exact n _ M (by omega) (d_inc h5 (by omega)) qM
      · rw [b, cond_false] at n
        have er : M3.1 63 w = szR S w := z3.2.1 w (by omega)
        rw [d_cn h5, er]
        have hT : zOk H (thR S x1 w) := thR_ok h0 h1 (by omega) hO
        have q4 : QC H S P L m (dSet M3 63 w (if szR S w + x1 < (99 : Int32) then szR S w + x1 else 99)) := q3.t62 ((TyF.rf 62 M3).set (by decide) (Or.inr rfl)) (q3.2.1.ty (n := 62) (by decide) (Or.inr rfl))
        refine ea_till q4 (T := thR S x1 w) z3.r hT (fun M5 q5 _ => ?_)
        have fl := fgo_le (H := H) 200 1 (thR S x1 w) rfl
        rw [i32_n (n := (fgo H 200 1 (thR S x1 w)).1) (by omega)]
        refine ⟨fun le2 => v_X1_bestThicker_61_47_105 ?_, fun l2 => v_X1_bestThicker_61_47_105 ?_⟩
        · rw [if_neg (by omega)] at n
          exact n _ M5 (by omega) (d_inc h5 (by omega)) q5
        · rw [if_pos (by omega), ofI h5] at n
          exact n _ M5 (by omega) (d_inc h5 (by omega)) q5
  exact v_X1_bestThicker_61_47 (Wp.deep (y_copy62 q0 (fun M q1 z1 => ea_till q1 z1 hO (fun M2 q2 _ => loop (hoW H) 0 _ M2 (by omega) (by decide) q2))) (Nat.le_of_ble_eq_true rfl))
theorem eb_thick {Q : Int32 → dM → Prop} (hK : KR H S P L s m) (hO : zOk H S) (hQ : ∀ m' : dM, RsF m m' → Q (aTck H S x1) m') : c_X12_thick_70 8 x1 m Q := by
  have w10 := hK.1.1.2.1
  have hQ' : ∀ (v : Int32) (m' : dM), aTck H S x1 = v → RsF m m' → Q v m' := fun v m' e q => by rw [← e]; exact hQ m' q
  have e1 := ti_1
  have e20 := ti_20
  have e99 := ti_99
  refine v_X12_thick_70 (Wp.deep (y_in (fun h => ⟨fun _ => e_still hK (RsF.rf m) (fun M f cy h57 => eb_fgo cy hO f h57 (Wl.rf S) (fun M2 f2 _ => ?_)), fun z => absurd z (by decide)⟩) (fun q => ⟨fun z => absurd rfl z, fun _ => hQ' _ m (by unfold aTck; rw [if_neg (by omega)]) (RsF.rf m)⟩)) (Nat.le_of_ble_eq_true rfl))
  have eA : aTck H S x1 = (thB H S x1 (hoW H)).1 := by unfold aTck; rw [if_pos (by omega)]
  have loop : ∀ (t w : Nat) (x4 : Int32) (M : dM), w + t = hoW H → x4.toInt = (w : Int) → RsF m M → j_X12_thick_70_27 8 x1 (Int32.ofInt ((thB H S x1 w).2 : Int)) (thB H S x1 w).1 x4 M Q := by
    intro t
    induction t with
    | zero =>
      intro w x4 M hw h4 fM
      have hKM := hK.rs fM
      have a := hKM.1.2.1.1
      have ew : w = hoW H := by omega
      refine v_X12_thick_70_27 ?_
      rw [d_cn a.1, hKM.1.2.1.2.2.1.1, a.1, ew]
      exact ⟨by omega, fun _ => hQ' _ M eA fM, fun q => by exfalso; omega⟩
    | succ t ih =>
      intro w x4 M hw h4 fM
      have hKM := hK.rs fM
      have a := hKM.1.2.1.1
      have e10 := d_add (k := x4) (K := w) (x := (10 : Int32)) (i := 10) (by decide) h4 (by omega)
      have tl := thB_le (H := H) (S := S) (k := x1) w
      have ti : (Int32.ofInt ((thB H S x1 w).2 : Int)).toInt = ((thB H S x1 w).2 : Int) := i32_n (by omega)
      have n := ih (w + 1)
      rw [thB_s] at n
      have zg := (hKM.2.1.2.1 w (by omega)).2.1
      have r9 := hO.2.2.2.2.2.1 w (by omega)
      refine v_X12_thick_70_27 ?_
      rw [d_cn a.1, hKM.1.2.1.2.2.1.1, a.1, d_cn e10, zg, ti]
      refine ⟨by omega, fun q => by exfalso; omega, fun _ => ⟨by omega, fun nb => ?_, fun bb => v_X12_thick_70_105 ?_⟩⟩
      · rw [bi_ne1 nb, cond_false] at n
        refine e_still hK fM (fun M1 f1 cy1 h57 => ⟨by omega, ?_⟩)
        rw [d_cn h4, (cy1.2.1.2.1 w (by omega)).1]
        have fa := dAddE (X := (szR S w).toInt) (Y := x1.toInt) (x := szR S w) (y := x1) rfl rfl (by omega) (by omega)
        have wi : ∀ Q' : Int32 → dM → Prop, Q' (if szR S w + x1 < (99 : Int32) then szR S w + x1 else 99) M1 → c_X12_within 7 (szR S w + x1) (1 : Int32) (99 : Int32) M1 Q' := fun Q' hq => by
          have lti : (szR S w + x1 < (99 : Int32)) ↔ (szR S w + x1).toInt < (99 : Int32).toInt := Int32.lt_iff_toInt_lt
          refine Wp.deep (d := 1) (v_X12_within ⟨fun q => ⟨fun q2 => ?_, fun q2 => ?_⟩, fun q => by exfalso; omega⟩) (Nat.le_of_ble_eq_true rfl)
          · by_cases l : szR S w + x1 < (99 : Int32)
            · rw [if_pos l] at hq; exact hq
            · rw [if_neg l] at hq
              have : szR S w + x1 = 99 := d_ce (by
                have : ¬ (szR S w + x1).toInt < (99 : Int32).toInt := fun y => l (lti.mpr y)
                omega)
              rw [this]; exact hq
          · rw [if_neg (fun l => by have := lti.mp l; omega)] at hq
            exact hq
        refine wi _ ⟨by omega, ?_⟩
        have hT : zOk H (thR S x1 w) := thR_ok (by omega) (by omega) (by omega) hO
        have c2 : CY H (thR S x1 w) s (dSet M1 108 w (if szR S w + x1 < (99 : Int32) then szR S w + x1 else 99)) := ⟨cy1.1.rs (RsF.rf M1).set, cy1.2.1.r hK.1.1 (by omega), cy1.2.2.of (dSet_k (by decide)) (dSet_k (by decide))⟩
        refine eb_fgo c2 hT f1.set (by rw [dSet_k (by decide)]; exact h57) (Wl.rf _) (fun M3 f3 _ => ?_)
        have fl := fgo_le (H := H) 200 1 (thR S x1 w) rfl
        rw [i32_n (n := (fgo H 200 1 (thR S x1 w)).1) (by omega)]
        refine ⟨fun l2 => v_X12_thick_70_105 ?_, fun le2 => v_X12_thick_70_105 ?_⟩
        · rw [if_pos (by omega), ofI h4] at n
          exact n _ M3 (by omega) (d_inc h4 (by omega)) f3
        · rw [if_neg (by omega)] at n
          exact n _ M3 (by omega) (d_inc h4 (by omega)) f3
      · rw [bi_eq1 bb, cond_true] at n
        exact n _ M (by omega) (d_inc h4 (by omega)) fM
  exact loop (hoW H) 0 _ M2 (by omega) (by decide) f2
end QTR
