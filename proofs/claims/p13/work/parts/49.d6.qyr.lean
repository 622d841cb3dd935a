section
/-! QUESTIONS, exactly: year, together -/
/-- so many hours by this seed, and none goes -/
def clm (H : Ho) (e : Int32) : Nat → Zt → Bool
  | 0, _ => true
  | n + 1, T => if (wgo H T (sgA H e (szH T))).toInt = 0 then clm H e n (wsz H T (sgA H e (szH T))) else false
def yrS (H : Ho) (S : Zt) (n : Nat) : Nat → Int32
  | 0 => 0
  | k + 1 => yrS H S n k + bi (clm H (hoE H + Int32.ofInt (k : Int)) n S)
def aYr (H : Ho) (S : Zt) (x1 x2 : Int32) : Int32 := if (0 ≤ x1.toInt ∧ x1.toInt ≤ 72) ∧ 1 ≤ x2.toInt ∧ x2.toInt ≤ 20 then yrS H S x1.toNatClampNeg x2.toNatClampNeg else -1
section QYR
variable {H : Ho} {S : Zt} {P : List Zt} {L : Nat → Zt} {m : dM} {s : Nat} {x1 x2 x3 : Int32}
theorem clm_s {e : Int32} {n : Nat} {T : Zt} : clm H e (n + 1) T = if (wgo H T (sgA H e (szH T))).toInt = 0 then clm H e n (wsz H T (sgA H e (szH T))) else false := rfl
theorem yrS_s {n k : Nat} : yrS H S n (k + 1) = yrS H S n k + bi (clm H (hoE H + Int32.ofInt (k : Int)) n S) := rfl
theorem ea_calm {n : Nat} {Q : Int32 → dM → Prop} {M : dM} (hq : QC H S P L m M) (hO : zOk H S) (h1 : x1.toInt = (n : Int)) (hn : n ≤ 72) (hQ : ∀ m' : dM, QC H S P L m m' → Q (bi (clm H x3 n S)) m') : c_X1_isCalm_61_47 6 x1 x3 M Q := by
  have hH := hq.2.1.1
  have loop : ∀ (t i : Nat) (x4 : Int32) (T : Zt) (M : dM), i + t = n → x4.toInt = (i : Int) → QC H S P L m M → CZ 62 M T → zOk H T → clm H x3 t T = clm H x3 n S → j_X1_isCalm_61_47_11 6 x1 x3 x4 M Q := by
    intro t
    induction t with
    | zero =>
      intro i x4 T M hi h4 qM zM hT e
      have e : true = clm H x3 n S := e
      rw [← e] at hQ
      exact v_X1_isCalm_61_47_11 ⟨fun _ => hQ M qM, fun q => by exfalso; omega⟩
    | succ t ih =>
      intro i x4 T M hi h4 qM zM hT e
      rw [clm_s] at e
      refine v_X1_isCalm_61_47_11 ⟨fun q => by exfalso; omega, fun _ => ?_⟩
      rw [zM.1.1]
      refine Wp.deep (y_surgeOf qM.2.1.2.1 (y_passWires62 qM.2.1 zM (hT.g1 hH) (fun M2 f2 w2 z2 _ => ⟨fun z => ?_, fun nz => ?_⟩))) (Nat.le_of_ble_eq_true rfl)
      · have z : (wgo H T (sgA H x3 (szH T))).toInt = 0 := z
        rw [if_pos z] at e
        exact ih (i + 1) _ _ M2 (by omega) (d_inc h4 (by omega)) (qM.t62 f2 w2) z2 (hT.w hH _) e
      · have nz : (wgo H T (sgA H x3 (szH T))).toInt ≠ 0 := nz
        rw [if_neg nz] at e
        rw [← e] at hQ
        exact hQ M2 (qM.t62 f2 w2)
  exact v_X1_isCalm_61_47 (Wp.deep (y_copy62 hq (fun M1 q1 z1 => loop n 0 _ S M1 (by omega) (by decide) q1 z1 hO rfl)) (Nat.le_of_ble_eq_true rfl))
theorem ea_year {Q : Int32 → dM → Prop} (hK : KC H S P L m) (hO : zOk H S) (hQ : ∀ m' : dM, QC H S P L m m' → Q (aYr H S x1 x2) m') : c_X11_year_0 8 x1 x2 m Q := by
  have q0 := QC.rf hK
  have hQ' : ∀ (v : Int32) (m' : dM), aYr H S x1 x2 = v → QC H S P L m m' → Q v m' := fun v m' e q => by rw [← e]; exact hQ m' q
  have no : ¬ ((0 ≤ x1.toInt ∧ x1.toInt ≤ 72) ∧ 1 ≤ x2.toInt ∧ x2.toInt ≤ 20) → j_X11_year_0_21 8 m Q := fun q => v_X11_year_0_21 (hQ' _ m (by unfold aYr; rw [if_neg q]) q0)
  refine v_X11_year_0 ⟨fun q => no (by omega), fun p1 => ⟨fun q => no (by omega), fun p2 => ⟨fun q => no (by omega), fun p3 => ⟨fun p4 => ?_, fun q => no (by omega)⟩⟩⟩⟩
  have h1 := toNat_of p1
  have h2 := toNat_of (x := x2) (by omega)
  have eA : aYr H S x1 x2 = yrS H S x1.toNatClampNeg x2.toNatClampNeg := by unfold aYr; rw [if_pos ⟨⟨p1, p2⟩, p3, p4⟩]
  have loop : ∀ (t k : Nat) (x5 : Int32) (M : dM), k + t = x2.toNatClampNeg → x5.toInt = (k : Int) → QC H S P L m M → j_X1_calmSeeds_61_47_6 7 x1 x2 (yrS H S x1.toNatClampNeg k) x5 M Q := by
    intro t
    induction t with
    | zero =>
      intro k x5 M hk h5 qM
      have ek : k = x2.toNatClampNeg := by omega
      rw [ek]
      exact v_X1_calmSeeds_61_47_6 ⟨fun _ => hQ' _ M eA qM, fun q => by exfalso; omega⟩
    | succ t ih =>
      intro k x5 M hk h5 qM
      have n := ih (k + 1)
      rw [yrS_s, ofI h5] at n
      have e26 : M.1 2 6 = hoE H := qM.2.1.2.1.2.2.2.2.2.1.2.2.2
      refine v_X1_calmSeeds_61_47_6 ⟨fun q => by exfalso; omega, fun _ => ?_⟩
      rw [e26]
      refine ea_calm qM hO h1 (by omega) (fun M1 q1 => ⟨fun z => ?_, fun nz => ?_⟩)
      · rw [bi_eq0 z] at n
        exact n _ M1 (by omega) (d_inc h5 (by omega)) q1
      · rw [bi_ne0 nz] at n
        exact n _ M1 (by omega) (d_inc h5 (by omega)) q1
  exact v_X1_calmSeeds_61_47 (loop x2.toNatClampNeg 0 _ m (by omega) (by decide) q0)
theorem e_hourS {Q : dM → Prop} {M : dM} {T T0 : Zt} {e : Int32} (hC : CY H T s M) (hO : zOk H T) (hF : RsF m M) (h56 : M.1 70 56 = e) (h57 : M.1 70 57 = 0) (hw : Wl T0 T) (hQ : ∀ (T' : Zt) (m' : dM), RsF m m' → CY H T' s m' → zOk H T' → m'.1 70 56 = e → m'.1 70 57 = 0 → Wl (wsz H T0 (sgA H e (szH T0))) T' → m'.1 70 60 = wgo H T0 (sgA H e (szH T0)) → Q m') : c_X12_hourGoes_70 6 M Q :=
  y_hourGoes hC.1 hC.2.1 hC.2.2 hO (fun M1 f1 W1 g1 Z1 L1 => by
    have e0 : mor H T M = sgA H e (szH T0) := by
      unfold mor
      rw [h57, h56, decide_eq_false (fun q => q ti_0), cond_false, hw.1]
    rw [e0] at g1 Z1 L1
    exact hQ _ M1 (hF.tr f1.rs) ⟨W1, Z1, L1⟩ (zOk.hh hC.1.1 hO _) (by rw [f1.2.1 56 (by decide) (by decide)]; exact h56) (by rw [f1.2.1 57 (by decide) (by decide)]; exact h57) hw.p.w (g1.trans (hw.go (H := H)).symm))
theorem eb_year {Q : Int32 → dM → Prop} (hK : KR H S P L s m) (hO : zOk H S) (hQ : ∀ m' : dM, RsF m m' → Q (aYr H S x1 x2) m') : c_X12_year_70 7 x1 x2 m Q := by
  have hQ' : ∀ (v : Int32) (m' : dM), aYr H S x1 x2 = v → RsF m m' → Q v m' := fun v m' e q => by rw [← e]; exact hQ m' q
  have e1 := ti_1
  have e20 := ti_20
  have e0 := ti_0
  have no : ¬ ((0 ≤ x1.toInt ∧ x1.toInt ≤ 72) ∧ 1 ≤ x2.toInt ∧ x2.toInt ≤ 20) → j_X12_year_70_17 7 m Q := fun q => v_X12_year_70_17 (hQ' _ m (by unfold aYr; rw [if_neg q]) (RsF.rf m))
  refine v_X12_year_70 (Wp.deep (y_isLong (fun h => ⟨fun z => absurd z (by decide), fun _ => Wp.deep (y_in (fun h2 => ⟨fun _ => ?_, fun z => absurd z (by decide)⟩) (fun q => ⟨fun z => absurd rfl z, fun _ => no (by omega)⟩)) (Nat.le_of_ble_eq_true rfl)⟩) (fun q => ⟨fun _ => no (by omega), fun z => absurd rfl z⟩)) (Nat.le_of_ble_eq_true rfl))
  have h1 := toNat_of h.1
  have hx2 := toNat_of (x := x2) (by omega)
  have eA : aYr H S x1 x2 = yrS H S x1.toNatClampNeg x2.toNatClampNeg := by unfold aYr; rw [if_pos (by omega)]
  have l24 : ∀ (t k : Nat) (x4 : Int32) (M : dM), k + t = x2.toNatClampNeg → x4.toInt = (k : Int) → RsF m M → j_X12_year_70_24 7 x1 x2 (yrS H S x1.toNatClampNeg k) x4 M Q := by
    intro t
    induction t with
    | zero =>
      intro k x4 M hk h4 fM
      have ek : k = x2.toNatClampNeg := by omega
      rw [ek]
      exact v_X12_year_70_24 ⟨fun _ => hQ' _ M eA fM, fun q => by exfalso; omega⟩
    | succ t ih =>
      intro k x4 M hk h4 fM
      have hKM := hK.rs fM
      have n := ih (k + 1)
      rw [yrS_s, ofI h4] at n
      have l85 : ∀ (y : Int32) (M1 : dM), y = yrS H S x1.toNatClampNeg k + bi (clm H (hoE H + x4) x1.toNatClampNeg S) → RsF m M1 → j_X12_year_70_85 7 x1 x2 y x4 M1 Q := fun y M1 e f1 => by
        rw [e]
        exact v_X12_year_70_85 (n _ M1 (by omega) (d_inc h4 (by omega)) f1)
      have lz : clm H (hoE H + x4) x1.toNatClampNeg S = false → ∀ (t2 i : Nat) (x6 : Int32) (T : Zt) (M2 : dM), i + t2 = x1.toNatClampNeg → x6.toInt = (i : Int) → RsF m M2 → CY H T s M2 → zOk H T → j_X12_year_70_51 7 x1 x2 (yrS H S x1.toNatClampNeg k) x4 0 x6 M2 Q := by
        intro ef t2
        induction t2 with
        | zero =>
          intro i x6 T M2 hi h6 f2 c2 hT
          exact v_X12_year_70_51 ⟨fun _ => ⟨fun _ => l85 _ M2 (by rw [ef]; exact (Int32.add_zero _).symm) f2, fun z => absurd e0 z⟩, fun q => by exfalso; omega⟩
        | succ t2 ih2 =>
          intro i x6 T M2 hi h6 f2 c2 hT
          exact v_X12_year_70_51 ⟨fun q => by exfalso; omega, fun _ => r_hour c2 hT f2 (fun T' M3 f3 c3 h3 => ⟨fun _ => v_X12_year_70_71 (ih2 (i + 1) _ T' M3 (by omega) (d_inc h6 (by omega)) f3 c3 h3), fun _ => v_X12_year_70_71 (ih2 (i + 1) _ T' M3 (by omega) (d_inc h6 (by omega)) f3 c3 h3)⟩)⟩
      have l51 : ∀ (t2 i : Nat) (x6 : Int32) (T T0 : Zt) (M2 : dM), i + t2 = x1.toNatClampNeg → x6.toInt = (i : Int) → RsF m M2 → CY H T s M2 → zOk H T → M2.1 70 56 = hoE H + x4 → M2.1 70 57 = 0 → Wl T0 T → clm H (hoE H + x4) t2 T0 = clm H (hoE H + x4) x1.toNatClampNeg S → j_X12_year_70_51 7 x1 x2 (yrS H S x1.toNatClampNeg k) x4 1 x6 M2 Q := by
        intro t2
        induction t2 with
        | zero =>
          intro i x6 T T0 M2 hi h6 f2 c2 hT a6 a7 hw e
          have e : true = clm H (hoE H + x4) x1.toNatClampNeg S := e
          exact v_X12_year_70_51 ⟨fun _ => ⟨fun z => absurd z (by decide), fun _ => l85 _ M2 (by rw [← e]; rfl) f2⟩, fun q => by exfalso; omega⟩
        | succ t2 ih2 =>
          intro i x6 T T0 M2 hi h6 f2 c2 hT a6 a7 hw e
          rw [clm_s] at e
          refine v_X12_year_70_51 ⟨fun q => by exfalso; omega, fun _ => e_hourS c2 hT f2 a6 a7 hw (fun T' M3 f3 c3 h3 b6 b7 w3 g3 => ?_)⟩
          rw [g3]
          refine ⟨fun z => v_X12_year_70_71 ?_, fun nz => v_X12_year_70_71 ?_⟩
          · rw [if_pos z] at e
            exact ih2 (i + 1) _ T' _ M3 (by omega) (d_inc h6 (by omega)) f3 c3 h3 b6 b7 w3 e
          · rw [if_neg nz] at e
            exact lz e.symm t2 (i + 1) _ T' M3 (by omega) (d_inc h6 (by omega)) f3 c3 h3
      refine v_X12_year_70_24 ⟨fun q => by exfalso; omega, fun _ => y_copies hKM.1 hKM.2.1 (fun M1 f1 cy a6 a7 => ?_)⟩
      rw [a6]
      exact l51 x1.toNatClampNeg 0 _ S S _ (by omega) (by decide) ((fM.tr f1).s70 (by decide)) ⟨cy.1.rs ((RsF.rf M1).s70 (by decide)), cy.2.1.of (dSet_k (by decide)), cy.2.2.of (dSet_k (by decide)) (dSet_k (by decide))⟩ hO (dSet_s _ _ _ _) (by rw [dSet_j (by decide)]; exact a7) (Wl.rf S) rfl
  exact l24 x2.toNatClampNeg 0 _ m (by omega) (by decide) (RsF.rf m)
/-- the uses of flats that are lit -/
def ulB (H : Ho) (S : Zt) : Int32 := bs (fun u => lt H (szG S) (hoH H u)) (hoU H)
/-- the best of the first so many sets, and what it pays -/
def tgB (H : Ho) (S : Zt) : Nat → Int32 × Int32
  | 0 => (0, 0)
  | j + 1 => if (Int32.ofInt ((j + 1 : Nat) : Int) &&& (ulB H S ^^^ (-1 : Int32))).toInt = 0 ∧ (tgB H S j).2.toInt < (pyS H S (Int32.ofInt ((j + 1 : Nat) : Int)) (hoU H)).toInt ∧ (gng H S (Int32.ofInt ((j + 1 : Nat) : Int)) (hod (szH S)) 0).toInt = 0 then (Int32.ofInt ((j + 1 : Nat) : Int), pyS H S (Int32.ofInt ((j + 1 : Nat) : Int)) (hoU H)) else tgB H S j
def tgN (H : Ho) : Nat := (b1 (hoU H)).toNatClampNeg - 1
def aTg (H : Ho) (S : Zt) (x1 : Int32) : Int32 := if 0 ≤ x1.toInt ∧ x1.toInt ≤ 1 then (if x1.toInt = 0 then (tgB H S (tgN H)).2 else (tgB H S (tgN H)).1) else -1
theorem tgB_s {j : Nat} : tgB H S (j + 1) = if (Int32.ofInt ((j + 1 : Nat) : Int) &&& (ulB H S ^^^ (-1 : Int32))).toInt = 0 ∧ (tgB H S j).2.toInt < (pyS H S (Int32.ofInt ((j + 1 : Nat) : Int)) (hoU H)).toInt ∧ (gng H S (Int32.ofInt ((j + 1 : Nat) : Int)) (hod (szH S)) 0).toInt = 0 then (Int32.ofInt ((j + 1 : Nat) : Int), pyS H S (Int32.ofInt ((j + 1 : Nat) : Int)) (hoU H)) else tgB H S j := rfl
theorem pyS_0 : ∀ n : Nat, pyS H S 0 n = 0
  | 0 => rfl
  | n + 1 => by
    rw [show pyS H S 0 (n + 1) = cond (bt 0 n) (pyS H S 0 n + pyu H S n) (pyS H S 0 n) from rfl, bt_0, cond_false]
    exact pyS_0 n
theorem tgB_p : ∀ j : Nat, pyS H S (tgB H S j).1 (hoU H) = (tgB H S j).2
  | 0 => pyS_0 _
  | j + 1 => by
    rw [tgB_s]
    split
    · rfl
    · exact tgB_p j
theorem ea_payAll {Q : Int32 → dM → Prop} {M : dM} (hW : CW H M) (h66 : ∀ u : Nat, u < hoU H → M.1 66 u = pyu H S u) (hQ : Q (pyS H S x1 (hoU H)) M) : c_X1_payOfAll_61 2 x1 M Q := by
  have u8 := hW.1.2.2.1
  have e22 := hW.2.1.2.1
  have loop : ∀ (t u : Nat) (x3 : Int32), u + t = hoU H → x3.toInt = (u : Int) → j_X1_payOfAll_61_4 2 x1 (pyS H S x1 u) x3 M Q := by
    intro t
    induction t with
    | zero =>
      intro u x3 hu h3
      rw [show u = hoU H by omega]
      exact v_X1_payOfAll_61_4 ⟨fun _ => hQ, fun q => by exfalso; omega⟩
    | succ t ih =>
      intro u x3 hu h3
      have n := ih (u + 1) _ (by omega) (d_inc h3 (by omega))
      rw [show pyS H S x1 (u + 1) = cond (bt x1 u) (pyS H S x1 u + pyu H S u) (pyS H S x1 u) from rfl] at n
      refine v_X1_payOfAll_61_4 ⟨fun q => by exfalso; omega, fun _ => y_has h3 (by omega) (fun b => ⟨fun z => absurd z (by decide), fun _ => ⟨by omega, ?_⟩⟩) (fun b => ⟨fun _ => ?_, fun z => absurd rfl z⟩)⟩
      · rw [b, cond_true] at n
        rw [d_cn h3, h66 u (by omega)]
        exact n
      · rw [b, cond_false] at n
        rw [Int32.add_zero]
        exact n
  exact v_X1_payOfAll_61 (loop (hoU H) 0 _ (by omega) (by decide))
theorem ea_goingWith {on : Int32} {Q : Int32 → dM → Prop} {M : dM} (hq : QC H S P L m M) (hO : zOk H S) (hQ : ∀ m' : dM, QC H S P L m m' → m'.1 66 = M.1 66 → Q (gng H S on (hod (szH S)) 0) m') : c_X0_goingWith_54_47 5 on M Q := by
  refine v_X0_goingWith_54_47 (Wp.deep (y_putOn47 hq.2.1 hq.2.2.1 (hO.g1 hq.2.1.1) (fun M2 f2 w2 l2 d2 => v_X7_hourOfDay_47 ?_)) (Nat.le_of_ble_eq_true rfl))
  have q2 := hq.sc f2 w2
  rw [q2.2.2.1.1.1]
  exact y_going47 w2 q2.2.2.1 d2 (fun M3 f3 => hQ M3 (q2.va f3) ((f3.1 66 (by decide) (by decide) (by decide)).trans (f2.1 66 (by decide) (by decide) (by decide))))
theorem ea_together {Q : Int32 → dM → Prop} (hK : KC H S P L m) (hO : zOk H S) (hQ : ∀ m' : dM, QC H S P L m m' → Q (aTg H S x1) m') : c_X11_together_0 7 x1 m Q := by
  have q0 := QC.rf hK
  have f7 := hK.1.1.1
  have u8 := hK.1.1.2.2.1
  have hQ' : ∀ (v : Int32) (m' : dM), aTg H S x1 = v → QC H S P L m m' → Q v m' := fun v m' e q => by rw [← e]; exact hQ m' q
  have no : ¬ (0 ≤ x1.toInt ∧ x1.toInt ≤ 1) → j_X11_together_0_9 7 m Q := fun q => v_X11_together_0_9 (hQ' _ m (by unfold aTg; rw [if_neg q]) q0)
  refine v_X11_together_0 ⟨fun q => no (by omega), fun h0 => ⟨fun h1 => ?_, fun q => no (by omega)⟩⟩
  have eA : aTg H S x1 = (if x1.toInt = 0 then (tgB H S (tgN H)).2 else (tgB H S (tgN H)).1) := by unfold aTg; rw [if_pos ⟨h0, h1⟩]
  have b := b1_le (u := hoU H) (by omega)
  have bn := toNat_of (x := b1 (hoU H)) (by omega)
  have eN : tgN H + 1 = (b1 (hoU H)).toNatClampNeg := by unfold tgN; omega
  have fin : ∀ (M : dM), QC H S P L m M → (∀ u : Nat, u < hoU H → M.1 66 u = pyu H S u) → (x1.toInt ≠ 0 → Q (tgB H S (tgN H)).1 M) ∧ (x1.toInt = 0 → c_X1_payOfAll_61 6 (tgB H S (tgN H)).1 M (fun r2 m2 => Q r2 m2)) := fun M qM h66 => ⟨fun n => hQ' _ M (by rw [eA, if_neg n]) qM, fun z => Wp.deep (ea_payAll qM.2.1 h66 (hQ' _ M (by rw [eA, if_pos z, tgB_p]) qM)) (Nat.le_of_ble_eq_true rfl)⟩
  have l89 : ∀ (t j : Nat) (x6 : Int32) (M : dM), j + t = tgN H → x6.toInt = ((j + 1 : Nat) : Int) → QC H S P L m M → (∀ u : Nat, u < hoU H → M.1 66 u = pyu H S u) → j_X1_bestTogether_61_47_89 6 (ulB H S) (tgB H S j).1 (tgB H S j).2 x6 M (fun r1 m1 => (x1.toInt ≠ 0 → Q r1 m1) ∧ (x1.toInt = 0 → c_X1_payOfAll_61 6 r1 m1 (fun r2 m2 => Q r2 m2))) := by
    intro t
    induction t with
    | zero =>
      intro j x6 M hj h6 qM h66
      have ej : j = tgN H := by omega
      refine v_X1_bestTogether_61_47_89 ?_
      rw [b1_of qM.2.1.2.1.2.1, ej]
      exact ⟨fun _ => fin M qM h66, fun q => by exfalso; omega⟩
    | succ t ih =>
      intro j x6 M hj h6 qM h66
      have n := ih (j + 1)
      rw [tgB_s, ofI h6] at n
      refine v_X1_bestTogether_61_47_89 ?_
      rw [b1_of qM.2.1.2.1.2.1]
      refine ⟨fun q => by exfalso; omega, fun q => ⟨fun ns => v_X1_bestTogether_61_47_148 ?_, fun es => Wp.deep (ea_payAll qM.2.1 h66 ⟨fun le => v_X1_bestTogether_61_47_148 ?_, fun l => ea_goingWith qM hO (fun M2 q2 e66 => ⟨fun gn => v_X1_bestTogether_61_47_148 ?_, fun ge => Wp.deep (ea_payAll (S := S) q2.2.1 (fun u hu => by rw [e66]; exact h66 u hu) (v_X1_bestTogether_61_47_148 ?_)) (Nat.le_of_ble_eq_true rfl)⟩)⟩) (Nat.le_of_ble_eq_true rfl)⟩⟩
      · rw [if_neg (fun w => ns w.1)] at n
        exact n _ M (by omega) (d_inc h6 (by omega)) qM h66
      · rw [if_neg (fun w => by have := w.2.1; omega)] at n
        exact n _ M (by omega) (d_inc h6 (by omega)) qM h66
      · rw [if_neg (fun w => gn w.2.2)] at n
        exact n _ M2 (by omega) (d_inc h6 (by omega)) q2 (fun u hu => by rw [e66]; exact h66 u hu)
      · rw [if_pos ⟨es, l, ge⟩] at n
        exact n _ M2 (by omega) (d_inc h6 (by omega)) q2 (fun u hu => by rw [e66]; exact h66 u hu)
  refine v_X1_bestTogether_61_47 (Wp.deep (k_ways q0 hO (fun M q1 l1 => ?_)) (Nat.le_of_ble_eq_true rfl))
  have l17 : ∀ (t u : Nat) (x4 : Int32) (M' : dM), u + t = hoU H → x4.toInt = (u : Int) → QC H S P L m M' → (∀ v : Nat, v < u → M'.1 66 v = pyu H S v) → j_X1_bestTogether_61_47_17 6 (M.1 57 5) (bs (fun u => lt H (szG S) (hoH H u)) u) x4 M' (fun r1 m1 => (x1.toInt ≠ 0 → Q r1 m1) ∧ (x1.toInt = 0 → c_X1_payOfAll_61 6 r1 m1 (fun r2 m2 => Q r2 m2))) := by
    intro t
    induction t with
    | zero =>
      intro u x4 M' hu h4 qM h66
      have e22 := qM.2.1.2.1.2.1
      have eu : u = hoU H := by omega
      rw [eu] at h66 ⊢
      exact v_X1_bestTogether_61_47_17 ⟨fun _ => l89 (tgN H) 0 _ M' (by omega) (by decide) qM h66, fun q => by exfalso; omega⟩
    | succ t ih =>
      intro u x4 M' hu h4 qM h66
      have e22 := qM.2.1.2.1.2.1
      have ho := (hK.1.1.2.2.2.2.1 u (by omega)).1
      have lb := lt_bits l1 ho (by omega)
      have n := ih (u + 1)
      rw [show bs (fun u => lt H (szG S) (hoH H u)) (u + 1) = cond (lt H (szG S) (hoH H u)) (bs (fun u => lt H (szG S) (hoH H u)) u ||| b1 u) (bs (fun u => lt H (szG S) (hoH H u)) u) from rfl, ← lb] at n
      refine v_X1_bestTogether_61_47_17 ⟨fun q => by exfalso; omega, fun _ => Wp.deep (y_pay47 qM.2.1 qM.2.2.1 h4 (by omega) (fun M2 f2 => ⟨by omega, by omega, ?_⟩)) (Nat.le_of_ble_eq_true rfl)⟩
      have q2 : QC H S P L m (dSet M2 66 u (pyu H S u)) := (qM.va f2).s61 (Or.inr rfl)
      have h2 : ∀ v : Nat, v < u + 1 → (dSet M2 66 u (pyu H S u)).1 66 v = pyu H S v := fun v hv => by
        by_cases q : v = u
        · rw [q, dSet_s]
        · rw [dSet_j q, f2.1 66 (by decide) (by decide) (by decide)]; exact h66 v (by omega)
      have hh := ((qM.va f2).2.1.2.1.2.2.2.2.1 u (by omega)).1
      rw [d_cn h4, b1_of h4]
      refine Wp.deep (y_has hh (by omega) (fun g => ⟨fun z => absurd z (by decide), fun _ => ?_⟩) (fun g => ⟨fun _ => ?_, fun z => absurd rfl z⟩)) (Nat.le_of_ble_eq_true rfl)
      · rw [g, cond_true] at n
        exact n _ _ (by omega) (d_inc h4 (by omega)) q2 h2
      · rw [g, cond_false] at n
        rw [Int32.or_zero]
        exact n _ _ (by omega) (d_inc h4 (by omega)) q2 h2
  exact l17 (hoU H) 0 _ M (by omega) (by decide) q1 (fun v hv => absurd hv (Nat.not_lt_zero v))
theorem eb_together {Q : Int32 → dM → Prop} (hK : KR H S P L s m) (hQ : ∀ m' : dM, RsF m m' → Q (aTg H S x1) m') : c_X12_together_70 7 x1 m Q := by
  have u8 := hK.1.1.2.2.1
  have hQ' : ∀ (v : Int32) (m' : dM), aTg H S x1 = v → RsF m m' → Q v m' := fun v m' e q => by rw [← e]; exact hQ m' q
  have e0 := ti_0
  have e1 := ti_1
  refine v_X12_together_70 (Wp.deep (y_in (fun h => ⟨fun _ => y_copies hK.1 hK.2.1 (fun M f cy _ _ => Wp.deep (y_usesLit cy ?_) (Nat.le_of_ble_eq_true rfl)), fun z => absurd z (by decide)⟩) (fun q => ⟨fun z => absurd rfl z, fun _ => hQ' _ m (by unfold aTg; rw [if_neg (by omega)]) (RsF.rf m)⟩)) (Nat.le_of_ble_eq_true rfl))
  have eA : aTg H S x1 = (if x1.toInt = 0 then (tgB H S (tgN H)).2 else (tgB H S (tgN H)).1) := by unfold aTg; rw [if_pos (by omega)]
  have b := b1_le (u := hoU H) (by omega)
  have bn := toNat_of (x := b1 (hoU H)) (by omega)
  have eN : tgN H + 1 = (b1 (hoU H)).toNatClampNeg := by unfold tgN; omega
  have loop : ∀ (t j : Nat) (x5 : Int32) (M : dM), j + t = tgN H → x5.toInt = ((j + 1 : Nat) : Int) → RsF m M → CY H S s M → j_X12_together_70_28 7 x1 (ulB H S) (tgB H S j).1 (tgB H S j).2 x5 M Q := by
    intro t
    induction t with
    | zero =>
      intro j x5 M hj h5 fM cM
      have a := cM.1.2.1.1
      have ej : j = tgN H := by omega
      refine v_X12_together_70_28 ?_
      rw [d_cn a.1, b1_of cM.1.2.2.1, ej]
      exact ⟨by omega, fun _ => ⟨fun n => hQ' _ M (by rw [eA, if_neg n]) fM, fun z => hQ' _ M (by rw [eA, if_pos z]) fM⟩, fun q => by exfalso; omega⟩
    | succ t ih =>
      intro j x5 M hj h5 fM cM
      have a := cM.1.2.1.1
      have n := ih (j + 1)
      rw [tgB_s, ofI h5] at n
      refine v_X12_together_70_28 ?_
      rw [d_cn a.1, b1_of cM.1.2.2.1]
      refine ⟨by omega, fun q => by exfalso; omega, fun q => ⟨fun es => Wp.deep (y_paysAll cM.1 cM.2.1 (fun M1 f1 => ?_)) (Nat.le_of_ble_eq_true rfl), fun ns => v_X12_together_70_101 ?_⟩⟩
      · have c1 := cM.xa f1
        have eh : (M1.1 108 55) - (M1.1 108 55) / (24 : Int32) * (24 : Int32) = hod (szH S) := by rw [c1.2.1.1.1]; rfl
        rw [eh]
        refine ⟨fun le => v_X12_together_70_101 ?_, fun l => Wp.deep (y_goingBits c1.1 c1.2.1 c1.2.2 (fun M2 f2 => ⟨fun ge => v_X12_together_70_101 ?_, fun gn => v_X12_together_70_101 ?_⟩)) (Nat.le_of_ble_eq_true rfl)⟩
        · rw [if_neg (fun w => by have := w.2.1; omega)] at n
          exact n _ M1 (by omega) (d_inc h5 (by omega)) (fM.tr f1.rs) c1
        · rw [if_pos ⟨es, l, ge⟩] at n
          exact n _ M2 (by omega) (d_inc h5 (by omega)) ((fM.tr f1.rs).tr f2.rs) (c1.xa f2)
        · rw [if_neg (fun w => gn w.2.2)] at n
          exact n _ M2 (by omega) (d_inc h5 (by omega)) ((fM.tr f1.rs).tr f2.rs) (c1.xa f2)
      · rw [if_neg (fun w => ns w.1)] at n
        exact n _ M (by omega) (d_inc h5 (by omega)) fM cM
  exact loop (tgN H) 0 _ M (by omega) (by decide) f cy
end QYR
end
section
/-! QUESTIONS, exactly: when -/
/-- no wire goes in that hour with this use on too -/
def wok (H : Ho) (S : Zt) (u h : Nat) : Bool := decide ((gng H S (onA H S (Int32.ofInt (h : Int)) ||| b1 u) (Int32.ofInt (h : Int)) 0).toInt = 0)
def alr (p : Nat → Bool) : Nat → Nat → Bool
  | 0, _ => true
  | n + 1, h => p h && alr p n (h + 1)
def wnS (p : Nat → Bool) (l : Nat) : Nat → Nat → Int32
  | 0, _ => -2
  | t + 1, h => cond (alr p l h) (Int32.ofInt (h : Int)) (wnS p l t (h + 1))
theorem alr_iff {p : Nat → Bool} : ∀ (n h : Nat), alr p n h = true ↔ ∀ i : Nat, i < n → p (h + i) = true
  | 0, _ => ⟨fun _ i hi => absurd hi (Nat.not_lt_zero i), fun _ => rfl⟩
  | n + 1, h => by
    rw [show alr p (n + 1) h = (p h && alr p n (h + 1)) from rfl, Bool.and_eq_true, alr_iff n (h + 1)]
    constructor
    · intro q i hi
      cases i with
      | zero => exact q.1
      | succ i =>
        have := q.2 i (by omega)
        rw [show h + 1 + i = h + (i + 1) by omega] at this
        exact this
    · intro q
      refine ⟨q 0 (by omega), fun i hi => ?_⟩
      have := q (i + 1) (by omega)
      rw [show h + (i + 1) = h + 1 + i by omega] at this
      exact this
theorem alr_f {p : Nat → Bool} {n h j : Nat} (h1 : h ≤ j) (h2 : j < h + n) (hp : p j = false) : alr p n h = false := by
  cases e : alr p n h with
  | false => rfl
  | true =>
    have := (alr_iff n h).mp e (j - h) (by omega)
    rw [show h + (j - h) = j by omega, hp] at this
    cases this
theorem wnS_s {p : Nat → Bool} {l t h : Nat} : wnS p l (t + 1) h = cond (alr p l h) (Int32.ofInt (h : Int)) (wnS p l t (h + 1)) := rfl
theorem wnS_skip {p : Nat → Bool} {l N a : Nat} (h : alr p l a = false) : wnS p l (N - a) a = wnS p l (N - (a + 1)) (a + 1) := by
  by_cases q : a < N
  · have e : N - a = (N - (a + 1)) + 1 := by omega
    rw [e, wnS_s, h, cond_false]
  · have e1 : N - a = 0 := by omega
    have e2 : N - (a + 1) = 0 := by omega
    rw [e1, e2]
    rfl
theorem wnS_skips {p : Nat → Bool} {l N a : Nat} : ∀ k : Nat, (∀ j : Nat, a ≤ j → j < a + k → alr p l j = false) → wnS p l (N - a) a = wnS p l (N - (a + k)) (a + k)
  | 0, _ => rfl
  | k + 1, h => (wnS_skips k (fun j j1 j2 => h j j1 (by omega))).trans (wnS_skip (h (a + k) (by omega) (by omega)))
theorem wnS_hit {p : Nat → Bool} {l N a : Nat} (h : alr p l a = true) (hN : a < N) : wnS p l (N - a) a = Int32.ofInt (a : Int) := by
  have e : N - a = (N - (a + 1)) + 1 := by omega
  rw [e, wnS_s, h, cond_true]
section QWN
variable {H : Ho} {S : Zt} {P : List Zt} {L : Nat → Zt} {m : dM} {s : Nat} {x1 : Int32}
theorem gon1 {a b : Int32} : (a &&& (b ^^^ (-1 : Int32))) ||| b = a ||| b := bt_ext (fun i hi => by
  simp only [bt_or, bt_and, bt_xor, bt_m1 hi]
  cases bt a i <;> cases bt b i <;> rfl)
theorem lds_u {g a : Int32} {u w : Nat} (hu : u < 32) (h0 : wyV H g (hoH H u) = 0) : ∀ n : Nat, n ≤ 32 → lds H g (a ||| b1 u) w n = lds H g (a &&& (b1 u ^^^ (-1 : Int32))) w n
  | 0, _ => rfl
  | n + 1, hn => by
    rw [show lds H g (a ||| b1 u) w (n + 1) = lds H g (a ||| b1 u) w n + cond (bt (a ||| b1 u) n && bt (wyV H g (hoH H n)) w) (hoM H n) 0 from rfl, show lds H g (a &&& (b1 u ^^^ (-1 : Int32))) w (n + 1) = lds H g (a &&& (b1 u ^^^ (-1 : Int32))) w n + cond (bt (a &&& (b1 u ^^^ (-1 : Int32))) n && bt (wyV H g (hoH H n)) w) (hoM H n) 0 from rfl, lds_u hu h0 n (by omega)]
    by_cases q : n = u
    · rw [q, h0, bt_0, Bool.and_false, Bool.and_false]
    · rw [bt_off hu q, bt_or, bt_1 hu, decide_eq_false q, Bool.or_false]
theorem gon0 {a x y : Int32} {u : Nat} (hU : hoU H ≤ 8) (hu : u < 32) (h : lt H (szG S) (hoH H u) = false) : gng H S (a ||| b1 u) x y = gng H S (a &&& (b1 u ^^^ (-1 : Int32))) x y := by
  have h0 : wyV H (szG S) (hoH H u) = 0 := via_99 (by
    have := of_decide_eq_false h
    by_cases q : wyD H (szG S) (hoH H u) = 99
    · exact q
    · exact absurd q this)
  unfold gng
  refine bs_congr _ (fun w _ => ?_)
  have e : lod H (szG S) (a ||| b1 u) w = lod H (szG S) (a &&& (b1 u ^^^ (-1 : Int32))) w := lds_u hu h0 (hoU H) (by omega)
  unfold gop
  rw [e]
def whl (H : Ho) (u : Nat) : Nat := ((hoI H u).toInt - (hoO H u).toInt).toNat + 1
def aWn (H : Ho) (S : Zt) (x1 : Int32) : Int32 := if 0 ≤ x1.toInt ∧ x1.toInt < (hoU H : Int) then wnS (wok H S x1.toNatClampNeg) (whl H x1.toNatClampNeg) (25 - whl H x1.toNatClampNeg) 0 else -1
theorem ea_when {Q : Int32 → dM → Prop} (hK : KC H S P L m) (hO : zOk H S) (hB : ∀ u : Nat, u < hoU H → 0 ≤ (hoO H u).toInt ∧ (hoO H u).toInt ≤ (hoI H u).toInt ∧ (hoI H u).toInt ≤ 23) (hQ : ∀ m' : dM, QC H S P L m m' → Q (aWn H S x1) m') : c_X11_when_0 6 x1 m Q := by
  have q0 := QC.rf hK
  have u8 := hK.1.1.2.2.1
  have hQ' : ∀ (v : Int32) (m' : dM), aWn H S x1 = v → QC H S P L m m' → Q v m' := fun v m' e q => by rw [← e]; exact hQ m' q
  refine v_X11_when_0 (Wp.deep (y_isUsec hK.1 (fun hu => ⟨fun z => absurd z (by decide), fun _ => ?_⟩) (fun hu => ⟨fun _ => hQ' _ m (by unfold aWn; rw [if_neg hu]) q0, fun z => absurd rfl z⟩)) (Nat.le_of_ble_eq_true rfl))
  have hx := toNat_of hu.1
  have eA : aWn H S x1 = wnS (wok H S x1.toNatClampNeg) (whl H x1.toNatClampNeg) (25 - whl H x1.toNatClampNeg) 0 := by unfold aWn; rw [if_pos hu]
  generalize eu : x1.toNatClampNeg = u at hx eA
  have b := hB u (by omega)
  have el : ((whl H u : Nat) : Int) = (hoI H u).toInt - (hoO H u).toInt + 1 := by unfold whl; omega
  generalize whl H u = l at el eA
  have fl := dSubE (X := (hoI H u).toInt) (Y := (hoO H u).toInt) (x := hoI H u) (y := hoO H u) rfl rfl (by omega) (by omega)
  have fl2 := dAddE (X := (hoI H u).toInt - (hoO H u).toInt) (Y := 1) (x := hoI H u - hoO H u) (y := (1 : Int32)) fl (by decide) (by omega) (by omega)
  have e9 := (hK.1.2.1.2.2.2.2.1 u (by omega)).2.2.1
  have e10 := (hK.1.2.1.2.2.2.2.1 u (by omega)).2.2.2
  have loop : ∀ (t h c : Nat) (x4 x5 : Int32) (M : dM), h + t = 24 → x5.toInt = (h : Int) → x4.toInt = (c : Int) → c < l → c ≤ h → (∀ i : Nat, h - c ≤ i → i < h → wok H S u i = true) → wnS (wok H S u) l (25 - l - 0) 0 = wnS (wok H S u) l (25 - l - (h - c)) (h - c) → QC H S P L m M → j_X1_firstStart_61_47_28 5 x1 ((hoI H u - hoO H u) + (1 : Int32)) x4 x5 M Q := by
    intro t
    induction t with
    | zero =>
      intro h c x4 x5 M hh h5 h4 cl ch ok e qM
      refine v_X1_firstStart_61_47_28 ⟨fun _ => hQ' _ M ?_ qM, fun q => by exfalso; omega⟩
      have e0 : 25 - l - (h - c) = 0 := by omega
      rw [e0] at e
      rw [eA]
      exact e
    | succ t ih =>
      intro h c x4 x5 M hh h5 h4 cl ch ok e qM
      have f4 := d_inc h4 (by omega)
      have ew : wok H S u h = decide ((gng H S (onA H S x5 ||| b1 u) x5 0).toInt = 0) := by unfold wok; rw [ofI h5]
      refine v_X1_firstStart_61_47_28 ⟨fun q => by exfalso; omega, fun _ => Wp.deep (y_usesAt47 qM.2.1 qM.2.2.1 (hO.g1 hK.1.1) (fun M1 f1 w1 l1 => ?_)) (Nat.le_of_ble_eq_true rfl)⟩
      have q1 := qM.sc f1.sf w1
      rw [b1_of hx]
      refine Wp.deep (y_putOn47 w1 q1.2.2.1 (hO.g1 hK.1.1) (fun M2 f2 w2 l2 d2 => ?_)) (Nat.le_of_ble_eq_true rfl)
      have q2 := q1.sc f2 w2
      refine y_going47 w2 q2.2.2.1 d2 (fun M3 f3 => ⟨fun ne => ⟨fun _ => ?_, fun q => by exfalso; omega⟩, fun eq => ⟨fun lt' => ?_, fun ge => hQ' _ M3 ?_ (q2.va f3)⟩⟩)
      · rw [decide_eq_false ne] at ew
        refine ih (h + 1) 0 _ _ M3 (by omega) (d_inc h5 (by omega)) (by decide) (by omega) (by omega) (fun i i1 i2 => by omega) ?_ (q2.va f3)
        have sk := wnS_skips (p := wok H S u) (l := l) (N := 25 - l) (a := h - c) (c + 1) (fun j j1 j2 => alr_f (j := h) (by omega) (by omega) ew)
        rw [show h - c + (c + 1) = h + 1 by omega] at sk
        exact e.trans sk
      · rw [decide_eq_true eq] at ew
        refine ih (h + 1) (c + 1) _ _ M3 (by omega) (d_inc h5 (by omega)) f4 (by omega) (by omega) (fun i i1 i2 => ?_) ?_ (q2.va f3)
        · by_cases q : i = h
          · rw [q]; exact ew
          · exact ok i (by omega) (by omega)
        · rw [show h + 1 - (c + 1) = h - c by omega]
          exact e
      · rw [decide_eq_true eq] at ew
        have ec : c + 1 = l := by omega
        have al : alr (wok H S u) l (h - c) = true := (alr_iff l (h - c)).mpr (fun i hi => by
          by_cases q : h - c + i = h
          · rw [q]; exact ew
          · exact ok _ (by omega) (by omega))
        have hit := wnS_hit (N := 25 - l) al (by omega)
        rw [eA]
        refine (e.trans hit).trans ?_
        have g1 := dSubE (X := (h : Int)) (Y := (hoI H u).toInt - (hoO H u).toInt + 1) (x := x5) (y := (hoI H u - hoO H u) + (1 : Int32)) h5 fl2 (by omega) (by omega)
        have g2 := dAddE (X := (h : Int) - ((hoI H u).toInt - (hoO H u).toInt + 1)) (Y := 1) (x := x5 - ((hoI H u - hoO H u) + (1 : Int32))) (y := (1 : Int32)) g1 (by decide) (by omega) (by omega)
        exact ofI (by omega)
  refine v_X1_firstStart_61_47 ⟨by omega, by omega, ?_⟩
  rw [eu, e9, e10]
  exact loop 24 0 0 _ _ m (by decide) (by decide) (by decide) (by omega) (by omega) (fun i i1 i2 => by omega) rfl q0
theorem eb_when {Q : Int32 → dM → Prop} (hK : KR H S P L s m) (hB : ∀ u : Nat, u < hoU H → 0 ≤ (hoO H u).toInt ∧ (hoO H u).toInt ≤ (hoI H u).toInt ∧ (hoI H u).toInt ≤ 23) (hQ : ∀ m' : dM, RsF m m' → Q (aWn H S x1) m') : c_X12_when_70 7 x1 m Q := by
  obtain ⟨o1, o2, o3, o4, o5, o6⟩ := hK.1.1
  have hQ' : ∀ (v : Int32) (m' : dM), aWn H S x1 = v → RsF m m' → Q v m' := fun v m' e q => by rw [← e]; exact hQ m' q
  refine v_X12_when_70 (Wp.deep (y_isUser hK.1 (fun hu => ⟨fun _ => ?_, fun z => absurd z (by decide)⟩) (fun hu => ⟨fun z => absurd rfl z, fun _ => hQ' _ m (by unfold aWn; rw [if_neg hu]) (RsF.rf m)⟩)) (Nat.le_of_ble_eq_true rfl))
  have hx := toNat_of hu.1
  have eA : aWn H S x1 = wnS (wok H S x1.toNatClampNeg) (whl H x1.toNatClampNeg) (25 - whl H x1.toNatClampNeg) 0 := by unfold aWn; rw [if_pos hu]
  generalize x1.toNatClampNeg = u at hx eA
  refine y_copies hK.1 hK.2.1 (fun M f cy _ _ => ?_)
  have b := hB u (by omega)
  have c1 := (o5 u (by omega)).1
  have el : ((whl H u : Nat) : Int) = (hoI H u).toInt - (hoO H u).toInt + 1 := by unfold whl; omega
  generalize whl H u = l at el eA
  have idx : ∀ M : dM, CY H S s M → (((8 : Int32) * (M.1 70 18)) + x1).toInt = ((8 * s + u : Nat) : Int) := fun M cM => y_idx (C := 8) (c := (8 : Int32)) (by decide) cM.1.2.1.1.1 cM.1.2.1.1.2 hx (by decide) (by omega)
  have s1 := hK.1.2.1.1.2
  have fl := dSubE (X := (hoI H u).toInt) (Y := (hoO H u).toInt) (x := hoI H u) (y := hoO H u) rfl rfl (by omega) (by omega)
  have e0 := idx M cy
  obtain ⟨d1, d2, d3, d4⟩ := cy.1.2.2.2.2.2.1 u (by omega)
  rw [d_cn e0, d3, d4]
  refine ⟨by omega, by omega, ?_⟩
  have can : ∀ (h : Nat) (x3 : Int32) (M : dM) (Q' : Int32 → dM → Prop), x3.toInt = (h : Int) → h + l ≤ 24 → RsF m M → CY H S s M → (∀ M1 : dM, RsF m M1 → CY H S s M1 → Q' (bi (alr (wok H S u) l h)) M1) → c_X12_canBegin_70 6 x1 x3 M Q' := fun h x3 M Q' h3 hl fM cM hq => by
    have e1 := idx M cM
    obtain ⟨g1, g2, g3, g4⟩ := cM.1.2.2.2.2.2.1 u (by omega)
    have fs := dAddE (X := (h : Int)) (Y := (hoI H u).toInt - (hoO H u).toInt) (x := x3) (y := hoI H u - hoO H u) h3 fl (by omega) (by omega)
    refine v_X12_canBegin_70 ?_
    rw [d_cn e1, g3, g4]
    refine ⟨by omega, by omega, ?_⟩
    have l33 : ∀ (t2 i : Nat) (x4 : Int32) (M1 : dM), i + t2 = l → x4.toInt = ((h + i : Nat) : Int) → (∀ j : Nat, j < i → wok H S u (h + j) = true) → RsF m M1 → CY H S s M1 → j_X12_canBegin_70_33 6 x1 x3 (hoI H u - hoO H u) x4 M1 Q' := by
      intro t2
      induction t2 with
      | zero =>
        intro i x4 M1 hi h4 ok f1 c1'
        have al : alr (wok H S u) l h = true := (alr_iff l h).mpr (fun j hj => ok j (by omega))
        rw [al] at hq
        exact v_X12_canBegin_70_33 ⟨fun _ => hq M1 f1 c1', fun q => by exfalso; omega⟩
      | succ t2 ih2 =>
        intro i x4 M1 hi h4 ok f1 c1'
        have ew : wok H S u (h + i) = decide ((gng H S (onA H S x4 ||| b1 u) x4 0).toInt = 0) := by unfold wok; rw [ofI h4]
        have on : ∀ y : Int32, gng H S y x4 0 = gng H S (onA H S x4 ||| b1 u) x4 0 → j_X12_canBegin_70_75 6 x1 x3 (hoI H u - hoO H u) x4 y M1 Q' := fun y ey => by
          refine v_X12_canBegin_70_75 (y_goingBits c1'.1 c1'.2.1 c1'.2.2 (fun M2 f2 => ?_))
          rw [ey]
          refine ⟨fun z => ?_, fun nz => ?_⟩
          · rw [decide_eq_true z] at ew
            have h4' : (x4 + 1).toInt = ((h + i + 1 : Nat) : Int) := d_inc h4 (by omega)
            refine ih2 (i + 1) _ M2 (by omega) h4' (fun j hj => ?_) (f1.tr f2.rs) (c1'.xa f2)
            by_cases q : j = i
            · rw [q]; exact ew
            · exact ok j (by omega)
          · rw [decide_eq_false nz] at ew
            have al : alr (wok H S u) l h = false := alr_f (j := h + i) (by omega) (by omega) ew
            rw [al] at hq
            exact hq M2 (f1.tr f2.rs) (c1'.xa f2)
        refine v_X12_canBegin_70_33 ⟨fun q => by exfalso; omega, fun _ => Wp.deep (y_onAt c1'.1 c1'.2.1 c1'.2.2 ?_) (Nat.le_of_ble_eq_true rfl)⟩
        rw [b1_of hx]
        exact Wp.deep (y_flatAt c1'.1 hx (by omega) (fun r hr => Wp.deep (y_isLit c1'.2.2 hr (by omega) (fun g => ⟨fun z => absurd z (by decide), fun _ => on _ (by rw [gon1])⟩) (fun g => ⟨fun _ => on _ (gon0 o3 (by omega) g).symm, fun z => absurd rfl z⟩)) (Nat.le_of_ble_eq_true rfl))) (Nat.le_of_ble_eq_true rfl)
    exact l33 l 0 _ M (by omega) (by rw [h3]; rfl) (fun j hj => absurd hj (Nat.not_lt_zero j)) fM cM
  have l46 : ∀ (t h : Nat) (x3 : Int32) (M : dM), h + t = 25 → x3.toInt = (h : Int) → RsF m M → CY H S s M → wnS (wok H S u) l (25 - l - 0) 0 = wnS (wok H S u) l (25 - l - h) h → j_X12_when_70_46 7 x1 (hoI H u - hoO H u) x3 M Q := by
    intro t
    induction t with
    | zero =>
      intro h x3 M hh h3 fM cM e
      have fs := dAddE (X := (h : Int)) (Y := (hoI H u).toInt - (hoO H u).toInt) (x := x3) (y := hoI H u - hoO H u) h3 fl (by omega) (by omega)
      refine v_X12_when_70_46 ⟨fun _ => hQ' _ M ?_ fM, fun q => by exfalso; omega⟩
      have z0 : 25 - l - h = 0 := by omega
      rw [z0] at e
      rw [eA]
      exact e
    | succ t ih =>
      intro h x3 M hh h3 fM cM e
      have fs := dAddE (X := (h : Int)) (Y := (hoI H u).toInt - (hoO H u).toInt) (x := x3) (y := hoI H u - hoO H u) h3 fl (by omega) (by omega)
      refine v_X12_when_70_46 ⟨fun q => hQ' _ M ?_ fM, fun q => can h x3 M _ h3 (by omega) fM cM (fun M1 f1 c1' => ⟨fun z => ?_, fun nz => hQ' _ M1 ?_ f1⟩)⟩
      · have z0 : 25 - l - h = 0 := by omega
        rw [z0] at e
        rw [eA]
        exact e
      · exact ih (h + 1) _ M1 (by omega) (d_inc h3 (by omega)) f1 c1' (e.trans (wnS_skip (bi_eq0 z)))
      · have hit := wnS_hit (p := wok H S u) (l := l) (N := 25 - l) (bi_ne0 nz) (by omega)
        rw [eA]
        exact (e.trans hit).trans (ofI h3)
  exact l46 25 0 _ M (by decide) (by decide) f cy rfl
end QWN
end
section
/-! QUESTIONS, exactly: count -/
def whR (H : Ho) (S : Zt) : Nat → Int32
  | 0 => 0
  | w + 1 => whR H S w + cond (bt (szG S) w) 0 (szR S w)
/-- what a count tells; the tape's length, what was told, the slots held come from elsewhere -/
def aCnt (H : Ho) (S : Zt) (P : List Zt) (t9 t11 t12 x1 : Int32) : Int32 := if x1.toInt = 0 then Int32.ofInt (hoF H : Int) else if x1.toInt = 1 then Int32.ofInt (hoW H : Int) else if x1.toInt = 2 then Int32.ofInt (hoU H : Int) else if x1.toInt = 3 then szH S else if x1.toInt = 4 then szC S else if x1.toInt = 5 then szQ S else if x1.toInt = 6 then szG S else if x1.toInt = 7 then ltB H (szG S) else if x1.toInt = 8 then onA H S (hod (szH S)) else if x1.toInt = 9 then t9 else if x1.toInt = 10 then Int32.ofInt (P.length : Int) else if x1.toInt = 11 then t11 else if x1.toInt = 12 then t12 else if x1.toInt = 13 then bi (sgp H (hoE H) (szH S)) else if x1.toInt = 14 then szP S else if x1.toInt = 15 then whR H S (hoW H) else -1
def slc (m : dM) : Int32 := (bi (decide ((m.1 115 0).toInt ≠ 0)) + bi (decide ((m.1 115 1).toInt ≠ 0))) + bi (decide ((m.1 115 2).toInt ≠ 0))
theorem bs_self {x : Int32} {n : Nat} (h : ∀ i : Nat, bt x i = true → i < n) (hn : n ≤ 32) : bs (bt x) n = x := bt_ext (fun i _ => by
  rw [bt_bs _ hn]
  cases b : bt x i with
  | false => rw [Bool.and_false]
  | true => rw [decide_eq_true (h i b)]; rfl)
theorem slc_eq {m : dM} (hT : Rq m) (h3 : ∀ i : Nat, 3 ≤ i → bt (m.1 51 4) i = false) : pc10 (m.1 51 4) 10 = slc m := by
  have c := pc10_cut h3 7
  have c : pc10 (m.1 51 4) 10 = pc10 (m.1 51 4) 3 := c
  have e : ∀ i : Nat, (i = 0 ∨ i = 1 ∨ i = 2) → decide ((m.1 115 i).toInt ≠ 0) = bt (m.1 51 4) i := fun i hi => by
    have o := hT.2.2.2.2 i (by omega)
    rw [hb_bit _ i hi] at o
    cases b : bt (m.1 51 4) i with
    | true => exact decide_eq_true (o.mp b)
    | false => exact decide_eq_false (fun z => by have z : bt (m.1 51 4) i = true := o.mpr z; rw [b] at z; cases z)
  rw [c]
  unfold slc
  rw [e 0 (Or.inl rfl), e 1 (Or.inr (Or.inl rfl)), e 2 (Or.inr (Or.inr rfl))]
  show ((0 + cond (bt (m.1 51 4) 0) 1 0) + cond (bt (m.1 51 4) 1) 1 0) + cond (bt (m.1 51 4) 2) 1 0 = (cond (bt (m.1 51 4) 0) 1 0 + cond (bt (m.1 51 4) 1) 1 0) + cond (bt (m.1 51 4) 2) 1 0
  rw [Int32.zero_add]
section QCT
variable {H : Ho} {S : Zt} {P : List Zt} {L : Nat → Zt} {m : dM} {s : Nat} {x1 : Int32}
theorem ea_whole {Q : Int32 → dM → Prop} (hK : KC H S P L m) (hQ : Q (whR H S (hoW H)) m) : c_X11_wholeRatings_0 2 m Q := by
  have w10 := hK.1.1.2.1
  have e21 := hK.1.2.1.1.2.1.1
  have g3 : m.1 47 3 = szG S := hK.2.1.1.2.2.2.1
  have loop : ∀ (t w : Nat) (x2 : Int32), w + t = hoW H → x2.toInt = (w : Int) → j_X11_wholeRatings_0_4 2 (whR H S w) x2 m Q := by
    intro t
    induction t with
    | zero =>
      intro w x2 hw h2
      rw [show w = hoW H by omega]
      exact v_X11_wholeRatings_0_4 ⟨fun _ => hQ, fun q => by exfalso; omega⟩
    | succ t ih =>
      intro w x2 hw h2
      have n := ih (w + 1) _ (by omega) (d_inc h2 (by omega))
      rw [show whR H S (w + 1) = whR H S w + cond (bt (szG S) w) 0 (szR S w) from rfl] at n
      have er : m.1 48 w = szR S w := hK.2.1.2.1 w (by omega)
      refine v_X11_wholeRatings_0_4 ⟨fun q => by exfalso; omega, fun _ => ?_⟩
      rw [g3]
      refine y_has h2 (by omega) (fun b => ⟨fun z => absurd z (by decide), fun _ => ?_⟩) (fun b => ⟨fun _ => ⟨by omega, ?_⟩, fun z => absurd rfl z⟩)
      · rw [b, cond_true] at n
        exact n
      · rw [b, cond_false] at n
        rw [d_cn h2, er]
        exact n
  exact v_X11_wholeRatings_0 (loop (hoW H) 0 _ (by omega) (by decide))
theorem ea_count {Q : Int32 → dM → Prop} (hK : KC H S P L m) (hO : zOk H S) (hQ : ∀ m' : dM, QC H S P L m m' → Q (aCnt H S P (m.1 0 1) (m.1 67 3) (pc10 (m.1 51 4) 10) x1) m') : c_X11_count_0 5 x1 m Q := by
  have q0 := QC.rf hK
  have hQ' : ∀ (v : Int32) (m' : dM), aCnt H S P (m.1 0 1) (m.1 67 3) (pc10 (m.1 51 4) 10) x1 = v → QC H S P L m m' → Q v m' := fun v m' e q => by rw [← e]; exact hQ m' q
  have e2 := hK.1.2.1.2.2.2.2.2.1
  have z := hK.2.1.1
  obtain ⟨n, n1, n2, n3, n4⟩ := id hK.2.2.1
  refine v_X11_count_0 ⟨fun q => hQ' _ m ?_ q0, fun q => hQ' _ m ?_ q0, fun q => hQ' _ m ?_ q0, fun q => hQ' _ m ?_ q0, fun q => hQ' _ m ?_ q0, fun q => hQ' _ m ?_ q0, fun q => hQ' _ m ?_ q0, fun q => ?_, fun q => k_usesNow q0 hO (fun M q1 _ => hQ' _ M ?_ q1), fun q => hQ' _ m ?_ q0, fun q => hQ' _ m ?_ q0, fun q => hQ' _ m ?_ q0, fun q => Wp.deep (ea_bits (fun i hi => hK.2.2.2.1 i (by omega)) (hQ' _ m ?_ q0)) (Nat.le_of_ble_eq_true rfl), fun q => ?_, fun q => hQ' _ m ?_ q0, fun q => Wp.deep (ea_whole hK (hQ' _ m ?_ q0)) (Nat.le_of_ble_eq_true rfl), fun q => hQ' _ m ?_ q0⟩
  · unfold aCnt; rw [if_pos q]; exact ofI hK.1.2.1.1.1.1
  · unfold aCnt; rw [if_neg (by omega), if_pos q]; exact ofI hK.1.2.1.1.2.1.1
  · unfold aCnt; rw [if_neg (by omega), if_neg (by omega), if_pos q]; exact ofI hK.1.2.1.2.1
  · unfold aCnt; rw [if_neg (by omega), if_neg (by omega), if_neg (by omega), if_pos q]; exact z.1.symm
  · unfold aCnt; rw [if_neg (by omega), if_neg (by omega), if_neg (by omega), if_neg (by omega), if_pos q]; exact z.2.1.symm
  · unfold aCnt; rw [if_neg (by omega), if_neg (by omega), if_neg (by omega), if_neg (by omega), if_neg (by omega), if_pos q]; exact z.2.2.1.symm
  · unfold aCnt; rw [if_neg (by omega), if_neg (by omega), if_neg (by omega), if_neg (by omega), if_neg (by omega), if_neg (by omega), if_pos q]; exact z.2.2.2.1.symm
  · rw [z.2.2.2.1]
    refine Wp.deep (ea_lit hK.1 (hQ' _ m ?_ q0)) (Nat.le_of_ble_eq_true rfl)
    unfold aCnt; rw [if_neg (by omega), if_neg (by omega), if_neg (by omega), if_neg (by omega), if_neg (by omega), if_neg (by omega), if_neg (by omega), if_pos q]
  · unfold aCnt; rw [if_neg (by omega), if_neg (by omega), if_neg (by omega), if_neg (by omega), if_neg (by omega), if_neg (by omega), if_neg (by omega), if_neg (by omega), if_pos q]
  · unfold aCnt; rw [if_neg (by omega), if_neg (by omega), if_neg (by omega), if_neg (by omega), if_neg (by omega), if_neg (by omega), if_neg (by omega), if_neg (by omega), if_neg (by omega), if_pos q]
  · unfold aCnt; rw [if_neg (by omega), if_neg (by omega), if_neg (by omega), if_neg (by omega), if_neg (by omega), if_neg (by omega), if_neg (by omega), if_neg (by omega), if_neg (by omega), if_neg (by omega), if_pos q]; exact ofI n3
  · unfold aCnt; rw [if_neg (by omega), if_neg (by omega), if_neg (by omega), if_neg (by omega), if_neg (by omega), if_neg (by omega), if_neg (by omega), if_neg (by omega), if_neg (by omega), if_neg (by omega), if_neg (by omega), if_pos q]
  · unfold aCnt; rw [if_neg (by omega), if_neg (by omega), if_neg (by omega), if_neg (by omega), if_neg (by omega), if_neg (by omega), if_neg (by omega), if_neg (by omega), if_neg (by omega), if_neg (by omega), if_neg (by omega), if_neg (by omega), if_pos q]
  · rw [e2.2.2.2, z.1]
    refine v_X0_isSurge_54 (v_X0_lot (v_X0_stirred (v_X0_stirred ⟨fun q => absurd q (by decide), fun _ => ⟨by decide, ?_⟩⟩)))
    rw [e2.1]
    have eA : aCnt H S P (m.1 0 1) (m.1 67 3) (pc10 (m.1 51 4) 10) x1 = bi (sgp H (hoE H) (szH S)) := by unfold aCnt; rw [if_neg (by omega), if_neg (by omega), if_neg (by omega), if_neg (by omega), if_neg (by omega), if_neg (by omega), if_neg (by omega), if_neg (by omega), if_neg (by omega), if_neg (by omega), if_neg (by omega), if_neg (by omega), if_neg (by omega), if_pos q]
    refine ⟨fun a => ⟨fun _ => hQ' _ m ?_ q0, fun z => absurd rfl z⟩, fun a => ⟨fun z => absurd z (by decide), fun _ => hQ' _ m ?_ q0⟩⟩
    · have a : (hoS H).toInt ≤ (lot (mx (mx (hoE H) 129) ((4 : Int32) * szH S))).toInt := a
      rw [eA]
      unfold sgp
      rw [decide_eq_false (by omega)]
      rfl
    · have a : (lot (mx (mx (hoE H) 129) ((4 : Int32) * szH S))).toInt < (hoS H).toInt := a
      rw [eA]
      unfold sgp
      rw [decide_eq_true a]
      rfl
  · unfold aCnt; rw [if_neg (by omega), if_neg (by omega), if_neg (by omega), if_neg (by omega), if_neg (by omega), if_neg (by omega), if_neg (by omega), if_neg (by omega), if_neg (by omega), if_neg (by omega), if_neg (by omega), if_neg (by omega), if_neg (by omega), if_neg (by omega), if_pos q]; exact z.2.2.2.2.1.symm
  · unfold aCnt; rw [if_neg (by omega), if_neg (by omega), if_neg (by omega), if_neg (by omega), if_neg (by omega), if_neg (by omega), if_neg (by omega), if_neg (by omega), if_neg (by omega), if_neg (by omega), if_neg (by omega), if_neg (by omega), if_neg (by omega), if_neg (by omega), if_neg (by omega), if_pos q]
  · unfold aCnt; rw [if_neg (by omega), if_neg (by omega), if_neg (by omega), if_neg (by omega), if_neg (by omega), if_neg (by omega), if_neg (by omega), if_neg (by omega), if_neg (by omega), if_neg (by omega), if_neg (by omega), if_neg (by omega), if_neg (by omega), if_neg (by omega), if_neg (by omega), if_neg (by omega)]
theorem eb_gone {Q : Int32 → dM → Prop} {M : dM} (hK : KR H S P L s M) (hO : zOk H S) (hQ : Q (szG S) M) : c_X12_goneBits_70 1 M Q := by
  have w10 := hK.1.1.2.1
  have a := hK.1.2.1.1
  have loop : ∀ (t w : Nat) (x2 : Int32), w + t = hoW H → x2.toInt = (w : Int) → j_X12_goneBits_70_4 1 (bs (bt (szG S)) w) x2 M Q := by
    intro t
    induction t with
    | zero =>
      intro w x2 hw h2
      refine v_X12_goneBits_70_4 ?_
      rw [d_cn a.1, hK.1.2.1.2.2.1.1, a.1, show w = hoW H by omega, bs_self hO.2.2.1 (by omega)]
      exact ⟨by omega, fun _ => hQ, fun q => by exfalso; omega⟩
    | succ t ih =>
      intro w x2 hw h2
      have e10 := d_add (k := x2) (K := w) (x := (10 : Int32)) (i := 10) (by decide) h2 (by omega)
      have n := ih (w + 1) _ (by omega) (d_inc h2 (by omega))
      rw [show bs (bt (szG S)) (w + 1) = cond (bt (szG S) w) (bs (bt (szG S)) w ||| b1 w) (bs (bt (szG S)) w) from rfl] at n
      refine v_X12_goneBits_70_4 ?_
      rw [d_cn a.1, hK.1.2.1.2.2.1.1, a.1, d_cn e10, (hK.2.1.2.1 w (by omega)).2.1, b1_of h2]
      refine ⟨by omega, fun q => by exfalso; omega, fun _ => ⟨by omega, fun nb => v_X12_goneBits_70_36 ?_, fun bb => v_X12_goneBits_70_36 ?_⟩⟩
      · rw [bi_ne1 nb, cond_false] at n
        exact n
      · rw [bi_eq1 bb, cond_true] at n
        exact n
  exact v_X12_goneBits_70 (loop (hoW H) 0 _ (by omega) (by decide))
theorem eb_count {Q : Int32 → dM → Prop} (hK : KR H S P L s m) (hO : zOk H S) (hQ : ∀ m' : dM, RsF m m' → Q (aCnt H S P (m.1 70 2) (m.1 70 63) (slc m) x1) m') : c_X12_count_70 7 x1 m Q := by
  have w10 := hK.1.1.2.1
  have hQ' : ∀ (v : Int32) (m' : dM), aCnt H S P (m.1 70 2) (m.1 70 63) (slc m) x1 = v → RsF m m' → Q v m' := fun v m' e q => by rw [← e]; exact hQ m' q
  refine v_X12_count_70 (y_copies hK.1 hK.2.1 (fun M f cy a6 _ => ?_))
  have a := cy.1.2.1.1
  have hKM := hK.rs f
  have z := cy.2.1.1
  have r0 : ∀ v : Int32, aCnt H S P (m.1 70 2) (m.1 70 63) (slc m) x1 = v → Q v M := fun v e => hQ' v M e f
  have l228 : x1.toInt = 14 → ∀ (t w : Nat) (x3 : Int32), w + t = hoW H → x3.toInt = (w : Int) → j_X12_count_70_228 7 (bs (bt (szP S)) w) x3 M Q := by
    intro q t
    induction t with
    | zero =>
      intro w x3 hw h3
      refine v_X12_count_70_228 ?_
      rw [d_cn a.1, cy.1.2.1.2.2.1.1, a.1, show w = hoW H by omega, bs_self hO.2.2.2.1 (by omega)]
      exact ⟨by omega, fun _ => r0 _ (by unfold aCnt; rw [if_neg (by omega), if_neg (by omega), if_neg (by omega), if_neg (by omega), if_neg (by omega), if_neg (by omega), if_neg (by omega), if_neg (by omega), if_neg (by omega), if_neg (by omega), if_neg (by omega), if_neg (by omega), if_neg (by omega), if_neg (by omega), if_pos q]), fun q => by exfalso; omega⟩
    | succ t ih =>
      intro w x3 hw h3
      have e30 := d_add (k := x3) (K := w) (x := (30 : Int32)) (i := 30) (by decide) h3 (by omega)
      have n := ih (w + 1) _ (by omega) (d_inc h3 (by omega))
      have eb : bs (bt (szP S)) w ||| ((bi (bt (szP S) w)) <<< (x3 &&& 31)) = bs (bt (szP S)) (w + 1) := by
        show _ = cond (bt (szP S) w) (bs (bt (szP S)) w ||| b1 w) (bs (bt (szP S)) w)
        cases bt (szP S) w with
        | true =>
          have e1 : (bi true) <<< (x3 &&& 31) = b1 w := b1_of h3
          rw [e1]
          rfl
        | false =>
          have e1 : (bi false) <<< (x3 &&& 31) = 0 := Int32.zero_shiftLeft
          rw [e1, Int32.or_zero]
          rfl
      refine v_X12_count_70_228 ?_
      rw [d_cn a.1, cy.1.2.1.2.2.1.1, a.1, d_cn e30, (cy.2.1.2.1 w (by omega)).2.2.2, eb]
      exact ⟨by omega, fun q => by exfalso; omega, fun _ => ⟨by omega, n⟩⟩
  have l265 : x1.toInt = 15 → ∀ (t w : Nat) (x3 : Int32), w + t = hoW H → x3.toInt = (w : Int) → j_X12_count_70_265 7 (whR H S w) x3 M Q := by
    intro q t
    induction t with
    | zero =>
      intro w x3 hw h3
      refine v_X12_count_70_265 ?_
      rw [d_cn a.1, cy.1.2.1.2.2.1.1, a.1, show w = hoW H by omega]
      exact ⟨by omega, fun _ => r0 _ (by unfold aCnt; rw [if_neg (by omega), if_neg (by omega), if_neg (by omega), if_neg (by omega), if_neg (by omega), if_neg (by omega), if_neg (by omega), if_neg (by omega), if_neg (by omega), if_neg (by omega), if_neg (by omega), if_neg (by omega), if_neg (by omega), if_neg (by omega), if_neg (by omega), if_pos q]), fun q => by exfalso; omega⟩
    | succ t ih =>
      intro w x3 hw h3
      have n := ih (w + 1) _ (by omega) (d_inc h3 (by omega))
      rw [show whR H S (w + 1) = whR H S w + cond (bt (szG S) w) 0 (szR S w) from rfl] at n
      refine v_X12_count_70_265 ?_
      rw [d_cn a.1, cy.1.2.1.2.2.1.1, a.1]
      refine ⟨by omega, fun q => by exfalso; omega, fun _ => Wp.deep (y_isWhole cy.1.2.1 (cy.2.1.rg (r := 0)) h3 (by omega) (fun b => ⟨fun z => absurd z (by decide), fun _ => ⟨by omega, ?_⟩⟩) (fun b => ⟨fun _ => ?_, fun z => absurd rfl z⟩)) (Nat.le_of_ble_eq_true rfl)⟩
      · rw [b, cond_false] at n
        rw [d_cn h3, (cy.2.1.2.1 w (by omega)).1]
        exact v_X12_count_70_295 n
      · rw [b, cond_true, Int32.add_zero] at n
        exact v_X12_count_70_295 n
  have e115 : M.1 115 = m.1 115 := f.1 115 (by decide) (by decide) (by decide)
  have e702 : M.1 70 2 = m.1 70 2 := f.2.1 2 (by decide) (by decide) (by decide) (by decide)
  have e7063 : M.1 70 63 = m.1 70 63 := f.2.1 63 (by decide) (by decide) (by decide) (by decide)
  have sl : ∀ v : Int32, x1.toInt = 12 → slc m = v → Q v M := fun v q e => r0 v (by unfold aCnt; rw [if_neg (by omega), if_neg (by omega), if_neg (by omega), if_neg (by omega), if_neg (by omega), if_neg (by omega), if_neg (by omega), if_neg (by omega), if_neg (by omega), if_neg (by omega), if_neg (by omega), if_neg (by omega), if_pos q]; exact e)
  refine ⟨fun q => ⟨by omega, r0 _ ?_⟩, fun q => ⟨by omega, r0 _ ?_⟩, fun q => ⟨by omega, r0 _ ?_⟩, fun q => r0 _ ?_, fun q => r0 _ ?_, fun q => r0 _ ?_, fun q => Wp.deep (eb_gone hKM hO (r0 _ ?_)) (Nat.le_of_ble_eq_true rfl), fun q => Wp.deep (y_litBits cy.1 cy.2.2 (r0 _ ?_)) (Nat.le_of_ble_eq_true rfl), fun q => Wp.deep (y_onNow cy (r0 _ ?_)) (Nat.le_of_ble_eq_true rfl), fun q => r0 _ ?_, fun q => r0 _ ?_, fun q => r0 _ ?_, fun q => ?_, fun q => Wp.deep (y_isSurge cy.1 cy.2.1.1.1 ?_) (Nat.le_of_ble_eq_true rfl), fun q => l228 q (hoW H) 0 _ (by omega) (by decide), fun q => l265 q (hoW H) 0 _ (by omega) (by decide), fun q => r0 _ ?_⟩
  · unfold aCnt; rw [if_pos q]; rw [d_cn a.1]; exact ofI cy.1.2.1.2.1.1
  · unfold aCnt; rw [if_neg (by omega), if_pos q]; rw [d_cn a.1]; exact ofI cy.1.2.1.2.2.1.1
  · unfold aCnt; rw [if_neg (by omega), if_neg (by omega), if_pos q]; rw [d_cn a.1]; exact ofI cy.1.2.2.1
  · unfold aCnt; rw [if_neg (by omega), if_neg (by omega), if_neg (by omega), if_pos q]; exact z.1.symm
  · unfold aCnt; rw [if_neg (by omega), if_neg (by omega), if_neg (by omega), if_neg (by omega), if_pos q]; exact z.2.1.symm
  · unfold aCnt; rw [if_neg (by omega), if_neg (by omega), if_neg (by omega), if_neg (by omega), if_neg (by omega), if_pos q]; exact z.2.2.symm
  · unfold aCnt; rw [if_neg (by omega), if_neg (by omega), if_neg (by omega), if_neg (by omega), if_neg (by omega), if_neg (by omega), if_pos q]
  · unfold aCnt; rw [if_neg (by omega), if_neg (by omega), if_neg (by omega), if_neg (by omega), if_neg (by omega), if_neg (by omega), if_neg (by omega), if_pos q]; rfl
  · unfold aCnt; rw [if_neg (by omega), if_neg (by omega), if_neg (by omega), if_neg (by omega), if_neg (by omega), if_neg (by omega), if_neg (by omega), if_neg (by omega), if_pos q]
  · unfold aCnt; rw [if_neg (by omega), if_neg (by omega), if_neg (by omega), if_neg (by omega), if_neg (by omega), if_neg (by omega), if_neg (by omega), if_neg (by omega), if_neg (by omega), if_pos q]; exact e702.symm
  · unfold aCnt; rw [if_neg (by omega), if_neg (by omega), if_neg (by omega), if_neg (by omega), if_neg (by omega), if_neg (by omega), if_neg (by omega), if_neg (by omega), if_neg (by omega), if_neg (by omega), if_pos q]; exact ofI hKM.2.2.1.1
  · unfold aCnt; rw [if_neg (by omega), if_neg (by omega), if_neg (by omega), if_neg (by omega), if_neg (by omega), if_neg (by omega), if_neg (by omega), if_neg (by omega), if_neg (by omega), if_neg (by omega), if_neg (by omega), if_pos q]; exact e7063.symm
  · rw [e115]
    have d : ∀ (i : Nat), (m.1 115 i).toInt = 0 → bi (decide ((m.1 115 i).toInt ≠ 0)) = 0 := fun i h => by rw [decide_eq_false (fun w => w h)]; rfl
    have u : ∀ (i : Nat), (m.1 115 i).toInt ≠ 0 → bi (decide ((m.1 115 i).toInt ≠ 0)) = 1 := fun i h => by rw [decide_eq_true h]; rfl
    exact ⟨fun a0 => ⟨fun a1 => ⟨fun a2 => sl _ q (by unfold slc; rw [d 0 a0, d 1 a1, d 2 a2]), fun a2 => sl _ q (by unfold slc; rw [d 0 a0, d 1 a1, u 2 a2])⟩, fun a1 => ⟨fun a2 => sl _ q (by unfold slc; rw [d 0 a0, u 1 a1, d 2 a2]), fun a2 => sl _ q (by unfold slc; rw [d 0 a0, u 1 a1, u 2 a2])⟩⟩, fun a0 => ⟨fun a1 => ⟨fun a2 => sl _ q (by unfold slc; rw [u 0 a0, d 1 a1, d 2 a2]), fun a2 => sl _ q (by unfold slc; rw [u 0 a0, d 1 a1, u 2 a2])⟩, fun a1 => ⟨fun a2 => sl _ q (by unfold slc; rw [u 0 a0, u 1 a1, d 2 a2]), fun a2 => sl _ q (by unfold slc; rw [u 0 a0, u 1 a1, u 2 a2])⟩⟩⟩
  · rw [a6]
    exact ⟨fun z => r0 _ (by unfold aCnt; rw [if_neg (by omega), if_neg (by omega), if_neg (by omega), if_neg (by omega), if_neg (by omega), if_neg (by omega), if_neg (by omega), if_neg (by omega), if_neg (by omega), if_neg (by omega), if_neg (by omega), if_neg (by omega), if_neg (by omega), if_pos q]; exact bi_z z), fun z => r0 _ (by unfold aCnt; rw [if_neg (by omega), if_neg (by omega), if_neg (by omega), if_neg (by omega), if_neg (by omega), if_neg (by omega), if_neg (by omega), if_neg (by omega), if_neg (by omega), if_neg (by omega), if_neg (by omega), if_neg (by omega), if_neg (by omega), if_pos q]; exact bi_n z)⟩
  · unfold aCnt; rw [if_neg (by omega), if_neg (by omega), if_neg (by omega), if_neg (by omega), if_neg (by omega), if_neg (by omega), if_neg (by omega), if_neg (by omega), if_neg (by omega), if_neg (by omega), if_neg (by omega), if_neg (by omega), if_neg (by omega), if_neg (by omega), if_neg (by omega), if_neg (by omega)]
end QCT
end
section
/-! QUESTIONS, exactly: cut -/
/-- the first of a list of which this is so -/
def fd (p : Int32 → Bool) : List Int32 → Option Int32
  | [] => none
  | x :: l => cond (p x) (some x) (fd p l)
/-- sets of so many wires, from a number on, the first ones first -/
def zEL (nxt : Nat → List Int32) : Nat → Nat → List Int32
  | 0, _ => []
  | t + 1, v => (nxt (v + 1)).map (fun o => o ||| b1 v) ++ zEL nxt t (v + 1)
def zEN : Nat → Nat → List Int32
  | 0, _ => [0]
  | k + 1, w => zEL (zEN k) (10 - w) w
def zET : Nat → Nat → List Int32
  | 0, _ => []
  | t + 1, n => zEN n 0 ++ zET t (n + 1)
def cvt (o : Option Int32) : Int32 := match o with
  | none => -1
  | some x => x
theorem fd_s {p : Int32 → Bool} {x : Int32} {l : List Int32} : fd p (x :: l) = cond (p x) (some x) (fd p l) := rfl
theorem fd_app {p : Int32 → Bool} : ∀ (a b : List Int32), fd p (a ++ b) = (match fd p a with
    | none => fd p b
    | some x => some x)
  | [], b => rfl
  | x :: a, b => by
    rw [List.cons_append, fd_s, fd_s]
    cases p x with
    | true => rfl
    | false => rw [cond_false, cond_false]; exact fd_app a b
theorem fd_map {p : Int32 → Bool} {f : Int32 → Int32} : ∀ l : List Int32, fd p (l.map f) = (fd (fun x => p (f x)) l).map f
  | [] => rfl
  | x :: l => by
    rw [List.map_cons, fd_s, fd_s]
    cases p (f x) with
    | true => rfl
    | false => rw [cond_false, cond_false]; exact fd_map l
theorem fd_congr {p q : Int32 → Bool} : ∀ l : List Int32, (∀ x ∈ l, p x = q x) → fd p l = fd q l
  | [], _ => rfl
  | x :: l, h => by
    rw [fd_s, fd_s, h x (List.mem_cons_self ..), fd_congr l (fun y hy => h y (List.mem_cons_of_mem _ hy))]
theorem fd_none {p : Int32 → Bool} : ∀ l : List Int32, (∀ x ∈ l, p x = false) → fd p l = none
  | [], _ => rfl
  | x :: l, h => by
    rw [fd_s, h x (List.mem_cons_self ..), cond_false]
    exact fd_none l (fun y hy => h y (List.mem_cons_of_mem _ hy))
theorem fd_no {p : Int32 → Bool} : ∀ l : List Int32, fd p l = none → ∀ x ∈ l, p x = false
  | [], _, x, hx => absurd hx List.not_mem_nil
  | y :: l, h, x, hx => by
    rw [fd_s] at h
    cases e : p y with
    | true =>
      rw [e, cond_true] at h
      cases h
    | false =>
      rw [e, cond_false] at h
      rcases List.mem_cons.mp hx with q | q
      · rw [q]; exact e
      · exact fd_no l h x q
theorem fd_some {p : Int32 → Bool} {c : Int32} : ∀ l : List Int32, fd p l = some c → c ∈ l ∧ p c = true
  | [], h => by
    have h : (none : Option Int32) = some c := h
    cases h
  | y :: l, h => by
    rw [fd_s] at h
    cases e : p y with
    | true =>
      rw [e, cond_true] at h
      cases h
      exact ⟨List.mem_cons_self .., e⟩
    | false =>
      rw [e, cond_false] at h
      have := fd_some l h
      exact ⟨List.mem_cons_of_mem _ this.1, this.2⟩
theorem zEL_b {nxt : Nat → List Int32} (h : ∀ v : Nat, ∀ x ∈ nxt v, ∀ i : Nat, bt x i = true → v ≤ i ∧ i < 10) : ∀ (t v : Nat), v + t ≤ 10 → ∀ x ∈ zEL nxt t v, (∀ i : Nat, bt x i = true → v ≤ i ∧ i < 10) ∧ ∃ i : Nat, v ≤ i ∧ i < 10 ∧ bt x i = true
  | 0, v, _, x, hx => absurd hx List.not_mem_nil
  | t + 1, v, hv, x, hx => by
    have hx : x ∈ (nxt (v + 1)).map (fun o => o ||| b1 v) ++ zEL nxt t (v + 1) := hx
    rcases List.mem_append.mp hx with q | q
    · obtain ⟨o, ho, e⟩ := List.mem_map.mp q
      rw [← e]
      refine ⟨fun i hi => ?_, v, Nat.le_refl _, by omega, by rw [bt_or, bt_1 (by omega), decide_eq_true rfl, Bool.or_true]⟩
      rw [bt_or, bt_1 (by omega), Bool.or_eq_true, decide_eq_true_eq] at hi
      rcases hi with hi | hi
      · have := h (v + 1) o ho i hi
        omega
      · omega
    · have := zEL_b h t (v + 1) (by omega) x q
      refine ⟨fun i hi => by have := this.1 i hi; omega, ?_⟩
      obtain ⟨i, i1, i2, i3⟩ := this.2
      exact ⟨i, by omega, i2, i3⟩
theorem zEN_b : ∀ (k w : Nat), ∀ x ∈ zEN k w, ∀ i : Nat, bt x i = true → w ≤ i ∧ i < 10
  | 0, w, x, hx, i, hi => by
    have e : x = 0 := List.mem_singleton.mp hx
    rw [e, bt_0] at hi
    cases hi
  | k + 1, w, x, hx, i, hi => by
    by_cases q : w ≤ 10
    · exact (zEL_b (zEN_b k) (10 - w) w (by omega) x hx).1 i hi
    · have hx : x ∈ zEL (zEN k) (10 - w) w := hx
      rw [show 10 - w = 0 by omega] at hx
      exact absurd hx List.not_mem_nil
theorem zET_b : ∀ (t n : Nat), ∀ x ∈ zET t n, ∀ i : Nat, bt x i = true → i < 10
  | 0, n, x, hx, i, hi => absurd hx List.not_mem_nil
  | t + 1, n, x, hx, i, hi => by
    have hx : x ∈ zEN n 0 ++ zET t (n + 1) := hx
    rcases List.mem_append.mp hx with q | q
    · exact (zEN_b n 0 x q i hi).2
    · exact zET_b t (n + 1) x q i hi
theorem ne_m1 {x : Int32} (h : ∀ i : Nat, bt x i = true → i < 10) : x.toInt ≠ -1 := fun e => by
  have e : x = -1 := d_ce (e.trans ti_m1.symm)
  have := h 31 (by rw [e]; exact bt_m1 (by omega))
  omega
def ctp (H : Ho) (f : Nat) (g x : Int32) : Bool := decide (x &&& g = 0) && decide (∀ i : Nat, i < 10 → bt x i = true → i < hoW H) && !lt H (g ||| x) f
section QCU
variable {H : Ho} {S : Zt} {P : List Zt} {L : Nat → Zt} {m : dM} {s : Nat} {x1 x2 : Int32} {f : Nat}
theorem ctp_iff {g x : Int32} : ctp H f g x = true ↔ x &&& g = 0 ∧ (∀ i : Nat, i < 10 → bt x i = true → i < hoW H) ∧ lt H (g ||| x) f = false := by
  unfold ctp
  rw [Bool.and_eq_true, Bool.and_eq_true, decide_eq_true_eq, decide_eq_true_eq, Bool.not_eq_true', and_assoc]
theorem ctp_f {g x : Int32} (h : ¬ (x &&& g = 0 ∧ (∀ i : Nat, i < 10 → bt x i = true → i < hoW H) ∧ lt H (g ||| x) f = false)) : ctp H f g x = false := by
  cases e : ctp H f g x with
  | false => rfl
  | true => exact absurd (ctp_iff.mp e) h
theorem ctp_0 {g : Int32} : ctp H f g 0 = !lt H g f := by
  cases e : lt H g f with
  | true => exact ctp_f (fun w => by have := w.2.2; rw [Int32.or_zero, e] at this; cases this)
  | false => exact ctp_iff.mpr ⟨Int32.zero_and, (fun i _ hi => by rw [bt_0] at hi; cases hi), by rw [Int32.or_zero]; exact e⟩
theorem ctp_up {g o : Int32} {v : Nat} (hv : v < hoW H) (h10 : hoW H ≤ 10) (hg : bt g v = false) (ho : ∀ i : Nat, bt o i = true → v + 1 ≤ i ∧ i < 10) : ctp H f g (o ||| b1 v) = ctp H f (g ||| b1 v) o := by
  have e1 : ((o ||| b1 v) &&& g = 0) ↔ (o &&& (g ||| b1 v) = 0) := by
    have ov : bt o v = false := by
      cases b : bt o v with
      | false => rfl
      | true => have := ho v b; omega
    have e : (o ||| b1 v) &&& g = o &&& (g ||| b1 v) := bt_ext (fun i _ => by
      rw [bt_and, bt_and, bt_or, bt_or, bt_1 (by omega)]
      by_cases q : i = v
      · rw [q, decide_eq_true rfl, hg, ov]; rfl
      · rw [decide_eq_false q, Bool.or_false, Bool.or_false])
    rw [e]
  have e2 : (∀ i : Nat, i < 10 → bt (o ||| b1 v) i = true → i < hoW H) ↔ (∀ i : Nat, i < 10 → bt o i = true → i < hoW H) := by
    constructor
    · intro h i hi hb
      exact h i hi (by rw [bt_or, hb, Bool.true_or])
    · intro h i hi hb
      rw [bt_or, bt_1 (by omega), Bool.or_eq_true, decide_eq_true_eq] at hb
      rcases hb with hb | hb
      · exact h i hi hb
      · omega
  have e3 : g ||| (o ||| b1 v) = (g ||| b1 v) ||| o := bt_ext (fun i _ => by
    rw [bt_or, bt_or, bt_or, bt_or]
    cases bt g i <;> cases bt o i <;> cases bt (b1 v) i <;> rfl)
  cases q : ctp H f (g ||| b1 v) o with
  | true =>
    have w := ctp_iff.mp q
    exact ctp_iff.mpr ⟨e1.mpr w.1, e2.mpr w.2.1, by rw [e3]; exact w.2.2⟩
  | false =>
    refine ctp_f (fun w => ?_)
    have : ctp H f (g ||| b1 v) o = true := ctp_iff.mpr ⟨e1.mp w.1, e2.mp w.2.1, by rw [← e3]; exact w.2.2⟩
    rw [q] at this
    cases this
theorem ea_cutBy (hx : x1.toInt = (f : Int)) : ∀ (k w : Nat) (g x3 x4 : Int32) (M : dM) (Q : Int32 → dM → Prop), CW H M → f < hoF H → x3.toInt = (w : Int) → x4.toInt = (k : Int) → w ≤ 10 → k ≤ 3 → Q (cvt (fd (ctp H f g) (zEN k w))) M → c_X1_cutBy_2 (3 + k) x1 g x3 x4 M Q := by
  intro k
  induction k with
  | zero =>
    intro w g x3 x4 M Q hW hf h3 h4 hw hk hQ
    have f7 := hW.1.1
    have hQ : Q (cvt (cond (ctp H f g 0) (some 0) none)) M := hQ
    have lb : bt (ltB H g) f = lt H g f := by rw [bt_ltB f7, decide_eq_true hf, Bool.true_and]
    rw [ctp_0, ← lb] at hQ
    refine v_X1_cutBy_2 ⟨fun q => by exfalso; omega, fun _ => ea_lit hW (Wp.deep (d := 1) (y_has hx (by omega) (fun b => ⟨fun z => absurd z (by decide), fun _ => ?_⟩) (fun b => ⟨fun _ => ?_, fun z => absurd rfl z⟩)) (Nat.le_of_ble_eq_true rfl))⟩
    · rw [b] at hQ; exact hQ
    · rw [b] at hQ; exact hQ
  | succ k ih =>
    intro w g x3 x4 M Q hW hf h3 h4 hw hk hQ
    have w10 := hW.1.2.1
    have e21 := hW.2.1.1.2.1.1
    have fs := dSubE (X := x4.toInt) (Y := 1) (x := x4) (y := (1 : Int32)) rfl (by decide) (by omega) (by omega)
    have loop : ∀ (t v : Nat) (x5 : Int32), v + t = 10 → x5.toInt = (v : Int) → Q (cvt (fd (ctp H f g) (zEL (zEN k) t v))) M → j_X1_cutBy_2_26 (3 + (k + 1)) x1 g x4 x5 M Q := by
      intro t
      induction t with
      | zero => intro v x5 hv h5 hq; exact v_X1_cutBy_2_26 ⟨fun _ => hq, fun q => by exfalso; omega⟩
      | succ t ih2 =>
        intro v x5 hv h5 hq
        have off : (hoW H ≤ v) → fd (ctp H f g) (zEL (zEN k) (t + 1) v) = none := fun le => fd_none _ (fun x hx => ctp_f (fun z => by
          obtain ⟨i, i1, i2, i3⟩ := (zEL_b (zEN_b k) (t + 1) v (by omega) x hx).2
          have := z.2.1 i i2 i3
          omega))
        have eS : fd (ctp H f g) (zEL (zEN k) (t + 1) v) = match fd (ctp H f g) ((zEN k (v + 1)).map (fun o => o ||| b1 v)) with
          | none => fd (ctp H f g) (zEL (zEN k) t (v + 1))
          | some x => some x := fd_app _ _
        refine v_X1_cutBy_2_26 ⟨fun le => by rw [off (by omega)] at hq; exact hq, fun lv => ?_⟩
        rw [b1_of h5]
        refine Wp.deep (d := 1) (d' := 3 + k) (y_has h5 (by omega) (fun b => ⟨fun _ => v_X1_cutBy_2_79 (ih2 (v + 1) _ (by omega) (d_inc h5 (by omega)) ?_), fun z => absurd z (by decide)⟩) (fun b => ⟨fun z => absurd rfl z, fun _ => ih (v + 1) (g ||| b1 v) _ _ M _ hW hf (d_inc h5 (by omega)) (by omega) (by omega) (by omega) ?_⟩)) (show 1 ≤ 3 + k by omega)
        · have no : fd (ctp H f g) ((zEN k (v + 1)).map (fun o => o ||| b1 v)) = none := fd_none _ (fun x hx => ctp_f (fun z => by
            obtain ⟨o, ho, e⟩ := List.mem_map.mp hx
            have zz : bt (x &&& g) v = false := by rw [z.1, bt_0]
            rw [← e, bt_and, bt_or, bt_1 (by omega), decide_eq_true rfl, Bool.or_true, Bool.true_and, b] at zz
            cases zz))
          rw [eS, no] at hq
          exact hq
        · have mp : fd (ctp H f g) ((zEN k (v + 1)).map (fun o => o ||| b1 v)) = (fd (ctp H f (g ||| b1 v)) (zEN k (v + 1))).map (fun o => o ||| b1 v) := by
            rw [fd_map]
            exact congrArg _ (fd_congr _ (fun o ho => ctp_up (by omega) w10 b (zEN_b k (v + 1) o ho)))
          rw [eS, mp] at hq
          cases e : fd (ctp H f (g ||| b1 v)) (zEN k (v + 1)) with
          | none =>
            rw [e] at hq
            exact ⟨fun _ => v_X1_cutBy_2_79 (ih2 (v + 1) _ (by omega) (d_inc h5 (by omega)) hq), fun q => absurd ti_m1 q⟩
          | some y =>
            rw [e] at hq
            have ne : y.toInt ≠ -1 := ne_m1 (fun i hi => (zEN_b k (v + 1) y (fd_some _ e).1 i hi).2)
            exact ⟨fun q => absurd q ne, fun _ => hq⟩
    exact v_X1_cutBy_2 ⟨fun q => loop (10 - w) w _ (by omega) h3 hQ, fun q => by exfalso; omega⟩
def aCt (H : Ho) (S : Zt) (x1 x2 : Int32) : Int32 := if (0 ≤ x1.toInt ∧ x1.toInt < (hoF H : Int)) ∧ -1 ≤ x2.toInt ∧ x2.toInt ≤ 2 then (match fd (ctp H x1.toNatClampNeg (szG S)) (zET 4 0) with
    | none => -2
    | some y => if x2.toInt = -1 then pc10 y 10 else ithB y 10 0 x2.toNatClampNeg) else -1
theorem zET_n : ∀ x ∈ zET 4 0, 0 ≤ x.toInt ∧ (pc10 x 10).toInt ≤ 3 := by
  have h : (zET 4 0).all (fun x => decide (0 ≤ x.toInt ∧ (pc10 x 10).toInt ≤ 3)) = true := by decide +kernel
  exact fun x hx => of_decide_eq_true (List.all_eq_true.mp h x hx)
theorem ea_cut {Q : Int32 → dM → Prop} (hK : KC H S P L m) (hQ : ∀ m' : dM, QC H S P L m m' → Q (aCt H S x1 x2) m') : c_X11_cut_0 8 x1 x2 m Q := by
  have q0 := QC.rf hK
  have f7 := hK.1.1.1
  have g3 : m.1 47 3 = szG S := hK.2.1.1.2.2.2.1
  have hQ' : ∀ (v : Int32) (m' : dM), aCt H S x1 x2 = v → QC H S P L m m' → Q v m' := fun v m' e q => by rw [← e]; exact hQ m' q
  have no : ¬ ((0 ≤ x1.toInt ∧ x1.toInt < (hoF H : Int)) ∧ -1 ≤ x2.toInt ∧ x2.toInt ≤ 2) → j_X11_cut_0_18 8 m Q := fun q => v_X11_cut_0_18 (hQ' _ m (by unfold aCt; rw [if_neg q]) q0)
  refine v_X11_cut_0 (Wp.deep (y_isFlatc hK.1 (fun hu => ⟨fun z => absurd z (by decide), fun _ => ⟨fun q => no (by omega), fun p1 => ⟨fun p2 => ?_, fun q => no (by omega)⟩⟩⟩) (fun hu => ⟨fun _ => no (fun w => hu w.1), fun z => absurd rfl z⟩)) (Nat.le_of_ble_eq_true rfl))
  have hx := toNat_of hu.1
  have hf : x1.toNatClampNeg < hoF H := by omega
  have eA : aCt H S x1 x2 = (match fd (ctp H x1.toNatClampNeg (szG S)) (zET 4 0) with
    | none => -2
    | some y => if x2.toInt = -1 then pc10 y 10 else ithB y 10 0 x2.toNatClampNeg) := by unfold aCt; rw [if_pos (by omega)]
  have em := ti_m1
  have fin : ∀ o : Option Int32, o = fd (ctp H x1.toNatClampNeg (szG S)) (zET 4 0) → (0 ≤ (cvt o).toInt → (x2.toInt ≠ (-1) → c_X11_bitAt 7 (cvt o) x2 m (fun r3 m3 => Q r3 m3)) ∧ (x2.toInt = (-1) → c_J6_bitCount 7 (cvt o) m (fun r4 m4 => Q r4 m4))) ∧ ((cvt o).toInt < 0 → Q (-2 : Int32) m) := fun o eo => by
    rw [← eo] at eA
    cases o with
    | none =>
      refine ⟨fun q => ?_, fun _ => hQ' _ m eA q0⟩
      exfalso
      have q : 0 ≤ (-1 : Int32).toInt := q
      omega
    | some y =>
      have my := (fd_some _ eo.symm).1
      have b10 : ∀ i : Nat, 10 ≤ i → bt y i = false := fun i hi => by
        cases b : bt y i with
        | false => rfl
        | true => have := zET_b 4 0 y my i b; omega
      have y0 := (zET_n y my).1
      have eA : aCt H S x1 x2 = if x2.toInt = -1 then pc10 y 10 else ithB y 10 0 x2.toNatClampNeg := eA
      refine ⟨fun _ => ⟨fun ne => ?_, fun e => Wp.deep (ea_bits b10 (hQ' _ m (by rw [eA, if_pos e]; rfl) q0)) (Nat.le_of_ble_eq_true rfl)⟩, fun q => ?_⟩
      · have h2 := toNat_of (x := x2) (by omega)
        refine Wp.deep (ea_bitAt (k := x2.toNatClampNeg) h2 (by omega) (hQ' _ m ?_ q0)) (Nat.le_of_ble_eq_true rfl)
        rw [eA, if_neg ne]
        exact (ithB_c b10 10 0 x2.toNatClampNeg rfl).symm
      · exfalso
        have q : y.toInt < 0 := q
        omega
  have loop : ∀ (t n : Nat) (x3 : Int32), n + t = 4 → x3.toInt = (n : Int) → fd (ctp H x1.toNatClampNeg (szG S)) (zET t n) = fd (ctp H x1.toNatClampNeg (szG S)) (zET 4 0) → j_X1_leastCut_61_47_2 7 x1 x3 m (fun r2 m2 => (0 ≤ r2.toInt → (x2.toInt ≠ (-1) → c_X11_bitAt 7 r2 x2 m2 (fun r3 m3 => Q r3 m3)) ∧ (x2.toInt = (-1) → c_J6_bitCount 7 r2 m2 (fun r4 m4 => Q r4 m4))) ∧ (r2.toInt < 0 → Q (-2 : Int32) m2)) := by
    intro t
    induction t with
    | zero => intro n x3 hn h3 e; exact v_X1_leastCut_61_47_2 ⟨fun _ => fin none e, fun q => by exfalso; omega⟩
    | succ t ih =>
      intro n x3 hn h3 e
      have eS : fd (ctp H x1.toNatClampNeg (szG S)) (zET (t + 1) n) = match fd (ctp H x1.toNatClampNeg (szG S)) (zEN n 0) with
        | none => fd (ctp H x1.toNatClampNeg (szG S)) (zET t (n + 1))
        | some x => some x := fd_app _ _
      rw [eS] at e
      refine v_X1_leastCut_61_47_2 ⟨fun q => by exfalso; omega, fun _ => ?_⟩
      rw [g3]
      refine Wp.deep (d := 3 + n) (d' := 6) (ea_cutBy hx n 0 _ _ _ m _ hK.1 hf (by decide) h3 (by omega) (by omega) ?_) (show 3 + n ≤ 6 by omega)
      cases ee : fd (ctp H x1.toNatClampNeg (szG S)) (zEN n 0) with
      | none =>
        rw [ee] at e
        exact ⟨fun _ => ih (n + 1) _ (by omega) (d_inc h3 (by omega)) e, fun q => absurd em q⟩
      | some y =>
        rw [ee] at e
        have ne : y.toInt ≠ -1 := ne_m1 (fun i hi => (zEN_b n 0 y (fd_some _ ee).1 i hi).2)
        exact ⟨fun q => absurd q ne, fun _ => fin (some y) e⟩
  exact v_X1_leastCut_61_47 (loop 4 0 _ rfl (by decide) rfl)
end QCU
end
section
/-! QUESTIONS, exactly: cut, 2 -/
def kIt (x : Int32) (i : Nat) : Int := (ithB x 10 0 i).toInt
def erl (x y : Int32) : Bool := if kIt x 0 = kIt y 0 then (if kIt x 1 = kIt y 1 then (if kIt x 2 = kIt y 2 then false else decide (kIt x 2 < kIt y 2)) else decide (kIt x 1 < kIt y 1)) else decide (kIt x 0 < kIt y 0)
/-- the place of a set among the sets -/
def key (x : Int32) : Int := (pc10 x 10).toInt * 1331 + (kIt x 0 + 1) * 121 + (kIt x 1 + 1) * 11 + (kIt x 2 + 1)
theorem ithB_b {x : Int32} : ∀ (t b r : Nat), b + t ≤ 1000 → -1 ≤ (ithB x t b r).toInt ∧ (ithB x t b r).toInt < ((b + t : Nat) : Int)
  | 0, b, r, _ => by
    have := ti_m1
    show -1 ≤ (-1 : Int32).toInt ∧ (-1 : Int32).toInt < _
    omega
  | t + 1, b, r, h => by
    rw [ithB_s]
    cases bt x b with
    | false =>
      have := ithB_b (x := x) t (b + 1) r (by omega)
      rw [cond_false]
      omega
    | true =>
      rw [cond_true]
      by_cases q : r = 0
      · rw [if_pos q, i32_n (by omega)]; omega
      · have := ithB_b (x := x) t (b + 1) (r - 1) (by omega)
        rw [if_neg q]
        omega
theorem kIt_b (x : Int32) (i : Nat) : -1 ≤ kIt x i ∧ kIt x i ≤ 9 := by
  have := ithB_b (x := x) 10 0 i (by omega)
  unfold kIt
  omega
theorem erl_key {x y : Int32} (h : (pc10 x 10).toInt = (pc10 y 10).toInt) : erl x y = decide (key x < key y) := by
  have a0 := kIt_b x 0
  have a1 := kIt_b x 1
  have a2 := kIt_b x 2
  have b0 := kIt_b y 0
  have b1' := kIt_b y 1
  have b2 := kIt_b y 2
  unfold erl key
  by_cases q0 : kIt x 0 = kIt y 0
  · rw [if_pos q0]
    by_cases q1 : kIt x 1 = kIt y 1
    · rw [if_pos q1]
      by_cases q2 : kIt x 2 = kIt y 2
      · rw [if_pos q2]; exact (decide_eq_false (by omega)).symm
      · rw [if_neg q2]; exact decide_eq_decide.mpr (by omega)
    · rw [if_neg q1]; exact decide_eq_decide.mpr (by omega)
  · rw [if_neg q0]; exact decide_eq_decide.mpr (by omega)
theorem key_lt {x y : Int32} (h : (pc10 x 10).toInt < (pc10 y 10).toInt) : key x < key y := by
  have a0 := kIt_b x 0
  have a1 := kIt_b x 1
  have a2 := kIt_b x 2
  have b0 := kIt_b y 0
  have b1' := kIt_b y 1
  have b2 := kIt_b y 2
  unfold key
  omega
def Sd : List Int32 → Prop
  | [] => True
  | x :: l => (∀ y ∈ l, key x < key y) ∧ Sd l
def chk : Int → List Int32 → Bool
  | _, [] => true
  | k, x :: l => decide (k < key x) && chk (key x) l
theorem chk_ok : ∀ (l : List Int32) (k : Int), chk k l = true → (∀ y ∈ l, k < key y) ∧ Sd l
  | [], k, _ => ⟨fun y hy => absurd hy List.not_mem_nil, trivial⟩
  | x :: l, k, h => by
    have h : (decide (k < key x) && chk (key x) l) = true := h
    rw [Bool.and_eq_true, decide_eq_true_eq] at h
    have ih := chk_ok l (key x) h.2
    refine ⟨fun y hy => ?_, ih⟩
    rcases List.mem_cons.mp hy with q | q
    · rw [q]; exact h.1
    · have := ih.1 y q
      omega
theorem zET_sd : Sd (zET 4 0) := (chk_ok (zET 4 0) (-1) (by decide +kernel)).2
theorem fd_first {p : Int32 → Bool} {c : Int32} : ∀ l : List Int32, Sd l → fd p l = some c → ∀ x ∈ l, p x = true → x = c ∨ key c < key x
  | [], _, h, x, hx, _ => absurd hx List.not_mem_nil
  | y :: l, hs, h, x, hx, hp => by
    rw [fd_s] at h
    cases e : p y with
    | true =>
      rw [e, cond_true] at h
      cases h
      rcases List.mem_cons.mp hx with q | q
      · exact Or.inl q
      · exact Or.inr (hs.1 x q)
    | false =>
      rw [e, cond_false] at h
      rcases List.mem_cons.mp hx with q | q
      · rw [q, e] at hp; cases hp
      · exact fd_first l hs.2 h x q hp
theorem zET_all : ∀ n : Nat, n < 1024 → (pc10 (Int32.ofInt (n : Int)) 10).toInt ≤ 3 → Int32.ofInt (n : Int) ∈ zET 4 0 := by
  have h : (List.range 1024).all (fun n => decide (3 < (pc10 (Int32.ofInt (n : Int)) 10).toInt) || decide (Int32.ofInt (n : Int) ∈ zET 4 0)) = true := by decide +kernel
  intro n hn hp
  have := List.all_eq_true.mp h n (List.mem_range.mpr hn)
  rw [Bool.or_eq_true, decide_eq_true_eq, decide_eq_true_eq] at this
  rcases this with q | q
  · omega
  · exact q
theorem bt_ofI {n i : Nat} (hn : n < 1024) : bt (Int32.ofInt (n : Int)) i = n.testBit i := by
  have e : (Int32.ofInt (n : Int)).toBitVec = BitVec.ofNat 32 n := by
    apply BitVec.eq_of_toNat_eq
    show (BitVec.ofInt 32 (n : Int)).toNat = _
    rw [BitVec.ofInt_natCast]
  unfold bt
  rw [e, BitVec.getLsbD_ofNat]
  by_cases q : i < 32
  · rw [decide_eq_true q, Bool.true_and]
  · rw [decide_eq_false q, Bool.false_and]
    exact (Nat.testBit_lt_two_pow (Nat.lt_of_lt_of_le hn (Nat.pow_le_pow_right (show 0 < 2 by omega) (show 10 ≤ i by omega) : 2 ^ 10 ≤ 2 ^ i))).symm
theorem ofI_bits {x : Int32} {W : Nat} (hW : W ≤ 10) (h : ∀ i : Nat, bt x i = true → i < W) : ∃ n : Nat, n < 2 ^ W ∧ x = Int32.ofInt (n : Int) := by
  refine ⟨x.toBitVec.toNat, ?_, ?_⟩
  · exact Nat.lt_pow_two_of_testBit _ (fun i hi => by
      cases b : x.toBitVec.toNat.testBit i with
      | false => rfl
      | true => have := h i b; omega)
  · apply Int32.toBitVec_inj.mp
    apply BitVec.eq_of_toNat_eq
    show _ = (BitVec.ofInt 32 (x.toBitVec.toNat : Int)).toNat
    rw [BitVec.ofInt_natCast, BitVec.toNat_ofNat]
    exact (Nat.mod_eq_of_lt x.toBitVec.isLt).symm
def bet (o : Option Int32) (x : Int32) : Bool := match o with
  | none => true
  | some b => decide (key x < key b)
/-- the best set among the first so many -/
def rfB (H : Ho) (f : Nat) (g : Int32) : Nat → Option Int32
  | 0 => none
  | j + 1 => if ((pc10 (Int32.ofInt (j : Int)) 10).toInt ≤ 3 ∧ Int32.ofInt (j : Int) &&& g = 0 ∧ lt H (g ||| Int32.ofInt (j : Int)) f = false) ∧ bet (rfB H f g j) (Int32.ofInt (j : Int)) = true then some (Int32.ofInt (j : Int)) else rfB H f g j
section QCV
variable {H : Ho} {S : Zt} {P : List Zt} {L : Nat → Zt} {m : dM} {s : Nat} {x1 x2 : Int32} {f : Nat} {g : Int32}
theorem rfB_s {j : Nat} : rfB H f g (j + 1) = if ((pc10 (Int32.ofInt (j : Int)) 10).toInt ≤ 3 ∧ Int32.ofInt (j : Int) &&& g = 0 ∧ lt H (g ||| Int32.ofInt (j : Int)) f = false) ∧ bet (rfB H f g j) (Int32.ofInt (j : Int)) = true then some (Int32.ofInt (j : Int)) else rfB H f g j := rfl
/-- a set that may be told -/
def ctO (H : Ho) (f : Nat) (g x : Int32) : Prop := (pc10 x 10).toInt ≤ 3 ∧ x &&& g = 0 ∧ lt H (g ||| x) f = false
theorem rfB_inv : ∀ j : Nat, (rfB H f g j = none → ∀ i : Nat, i < j → ¬ ctO H f g (Int32.ofInt (i : Int))) ∧ ∀ b : Int32, rfB H f g j = some b → (∃ i : Nat, i < j ∧ b = Int32.ofInt (i : Int)) ∧ ctO H f g b ∧ ∀ i : Nat, i < j → ctO H f g (Int32.ofInt (i : Int)) → key b ≤ key (Int32.ofInt (i : Int))
  | 0 => ⟨fun _ i hi => absurd hi (Nat.not_lt_zero i), (fun b h => by have h : (none : Option Int32) = some b := h; cases h)⟩
  | j + 1 => by
    have ih := rfB_inv j
    rw [rfB_s]
    by_cases q : ((pc10 (Int32.ofInt (j : Int)) 10).toInt ≤ 3 ∧ Int32.ofInt (j : Int) &&& g = 0 ∧ lt H (g ||| Int32.ofInt (j : Int)) f = false) ∧ bet (rfB H f g j) (Int32.ofInt (j : Int)) = true
    · rw [if_pos q]
      refine ⟨(fun h => by cases h), fun b h => ?_⟩
      cases h
      refine ⟨⟨j, by omega, rfl⟩, q.1, fun i hi ho => ?_⟩
      by_cases e : i = j
      · rw [e]; exact Int.le_refl _
      · cases r : rfB H f g j with
        | none => exact absurd ho (ih.1 r i (by omega))
        | some b =>
          have k1 := (ih.2 b r).2.2 i (by omega) ho
          have k2 := q.2
          rw [r] at k2
          have k2 : key (Int32.ofInt (j : Int)) < key b := of_decide_eq_true k2
          omega
    · rw [if_neg q]
      refine ⟨fun h i hi ho => ?_, fun b h => ?_⟩
      · by_cases e : i = j
        · rw [e] at ho
          exact q ⟨ho, by rw [h]; rfl⟩
        · exact ih.1 h i (by omega) ho
      · obtain ⟨⟨i0, i1, i2⟩, c, d⟩ := ih.2 b h
        refine ⟨⟨i0, by omega, i2⟩, c, fun i hi ho => ?_⟩
        by_cases e : i = j
        · rw [e] at ho ⊢
          by_cases l : key (Int32.ofInt (j : Int)) < key b
          · exact absurd ⟨ho, by rw [h]; exact decide_eq_true l⟩ q
          · omega
        · exact d i (by omega) ho
theorem pw {W : Nat} (h : W ≤ 10) : (b1 W).toInt = ((2 ^ W : Nat) : Int) := by
  match W, h with
  | 0, _ | 1, _ | 2, _ | 3, _ | 4, _ | 5, _ | 6, _ | 7, _ | 8, _ | 9, _ | 10, _ => decide
  | W + 11, h => omega
theorem rfB_fd (h10 : hoW H ≤ 10) : rfB H f g (2 ^ hoW H) = fd (ctp H f g) (zET 4 0) := by
  have le : 2 ^ hoW H ≤ 1024 := (Nat.pow_le_pow_right (show 0 < 2 by omega) h10 : 2 ^ hoW H ≤ 2 ^ 10)
  have inv := rfB_inv (H := H) (f := f) (g := g) (2 ^ hoW H)
  have of : ∀ x : Int32, x ∈ zET 4 0 → ctp H f g x = true → ∃ n : Nat, n < 2 ^ hoW H ∧ x = Int32.ofInt (n : Int) ∧ ctO H f g x := fun x hx hp => by
    have w := ctp_iff.mp hp
    obtain ⟨n, n1, n2⟩ := ofI_bits h10 (x := x) (fun i hi => w.2.1 i (zET_b 4 0 x hx i hi) hi)
    exact ⟨n, n1, n2, (zET_n x hx).2, w.1, w.2.2⟩
  cases r : rfB H f g (2 ^ hoW H) with
  | none =>
    refine (fd_none _ (fun x hx => ?_)).symm
    cases e : ctp H f g x with
    | false => rfl
    | true =>
      obtain ⟨n, n1, n2, n3⟩ := of x hx e
      rw [n2] at n3
      exact absurd n3 (inv.1 r n n1)
  | some b =>
    obtain ⟨⟨i, i1, i2⟩, c, d⟩ := inv.2 b r
    have mb : b ∈ zET 4 0 := by rw [i2]; exact zET_all i (by omega) (by rw [← i2]; exact c.1)
    have pb : ctp H f g b = true := by
      have bw : ∀ k : Nat, k < 10 → bt b k = true → k < hoW H := fun k k1 k2 => by
        rw [i2, bt_ofI (by omega)] at k2
        by_cases q : k < hoW H
        · exact q
        · have : i.testBit k = false := Nat.testBit_lt_two_pow (Nat.lt_of_lt_of_le i1 (Nat.pow_le_pow_right (show 0 < 2 by omega) (show hoW H ≤ k by omega) : 2 ^ hoW H ≤ 2 ^ k))
          rw [this] at k2
          cases k2
      exact ctp_iff.mpr ⟨c.2.1, bw, c.2.2⟩
    cases e : fd (ctp H f g) (zET 4 0) with
    | none =>
      have := fd_no _ e b mb
      rw [pb] at this
      cases this
    | some y =>
      have fy := fd_some _ e
      obtain ⟨n, n1, n2, n3⟩ := of y fy.1 fy.2
      rcases fd_first _ zET_sd e b mb pb with q | q
      · rw [q]
      · rw [n2] at n3
        have := d n n1 n3
        rw [← n2] at this
        omega
theorem eb_ith {x0 : Int32} {k : Nat} {Q : Int32 → dM → Prop} {M : dM} (h1 : x1.toInt = (k : Int)) (hk : k ≤ 3) (hQ : Q (ithB x0 10 0 k) M) : c_X12_ithOf 1 x0 x1 M Q := by
  have loop : ∀ (t b r : Nat) (x2 x3 : Int32), b + t = 10 → x3.toInt = (b : Int) → x2.toInt + (r : Int) = (k : Int) → 0 ≤ x2.toInt → Q (ithB x0 t b r) M → j_X12_ithOf_4 1 x0 x1 x2 x3 M Q := by
    intro t
    induction t with
    | zero => intro b r x2 x3 hb h3 h2 h20 hq; exact v_X12_ithOf_4 ⟨fun _ => hq, fun q => by exfalso; omega⟩
    | succ t ih =>
      intro b r x2 x3 hb h3 h2 h20 hq
      rw [ithB_s] at hq
      refine v_X12_ithOf_4 ⟨fun q => by exfalso; omega, fun _ => ?_⟩
      rw [bt_s h3 (by omega)]
      cases e : bt x0 b with
      | true =>
        rw [e, cond_true] at hq
        refine ⟨fun _ => ⟨fun ne => v_X12_ithOf_31 ?_, fun ee => ?_⟩, fun q => absurd q (by decide)⟩
        · rw [if_neg (by omega)] at hq
          have fa := dAddE (X := x2.toInt) (Y := 1) (x := x2) (y := (1 : Int32)) rfl (by decide) (by omega) (by omega)
          exact ih (b + 1) (r - 1) _ _ (by omega) (d_inc h3 (by omega)) (by omega) (by omega) hq
        · rw [if_pos (by omega), ofI h3] at hq
          exact hq
      | false =>
        rw [e, cond_false] at hq
        exact ⟨fun q => absurd rfl q, fun _ => v_X12_ithOf_31 (ih (b + 1) r _ _ (by omega) (d_inc h3 (by omega)) h2 h20 hq)⟩
  exact v_X12_ithOf (loop 10 0 k _ _ rfl (by decide) (by have := ti_0; omega) (by decide) hQ)
theorem eb_earlier {x0 y0 : Int32} {Q : Int32 → dM → Prop} {M : dM} (hQ : Q (bi (erl x0 y0)) M) : c_X12_isEarlier 2 x0 y0 M Q := by
  have step : ∀ (i : Nat) (x2 : Int32), x2.toInt = (i : Int) → i < 3 → (kIt x0 i = kIt y0 i → j_X12_isEarlier_2 2 x0 y0 (x2 + (1 : Int32)) M Q) → (kIt x0 i ≠ kIt y0 i → Q (bi (decide (kIt x0 i < kIt y0 i))) M) → j_X12_isEarlier_2 2 x0 y0 x2 M Q := fun i x2 h2 hi he hn => by
    refine v_X12_isEarlier_2 ⟨fun q => by exfalso; omega, fun _ => eb_ith h2 (by omega) (eb_ith h2 (by omega) ⟨fun e => he e, fun ne => eb_ith h2 (by omega) (eb_ith h2 (by omega) ⟨fun le => ?_, fun l => ?_⟩)⟩)⟩
    · have := hn ne
      rw [decide_eq_false (by unfold kIt; omega)] at this
      exact this
    · have := hn ne
      rw [decide_eq_true (by unfold kIt; omega)] at this
      exact this
  unfold erl at hQ
  refine v_X12_isEarlier (step 0 _ (by decide) (by omega) (fun e0 => ?_) (fun n0 => by rw [if_neg n0] at hQ; exact hQ))
  rw [if_pos e0] at hQ
  refine step 1 _ (by decide) (by omega) (fun e1 => ?_) (fun n1 => by rw [if_neg n1] at hQ; exact hQ)
  rw [if_pos e1] at hQ
  refine step 2 _ (by decide) (by omega) (fun e2 => ?_) (fun n2 => by rw [if_neg n2] at hQ; exact hQ)
  rw [if_pos e2] at hQ
  exact v_X12_isEarlier_2 ⟨fun _ => hQ, fun q => absurd q (by decide)⟩
theorem eb_cut {Q : Int32 → dM → Prop} (hK : KR H S P L s m) (hO : zOk H S) (hQ : ∀ m' : dM, RsF m m' → Q (aCt H S x1 x2) m') : c_X12_cut_70 8 x1 x2 m Q := by
  have f7 := hK.1.1.1
  have w10 := hK.1.1.2.1
  have hQ' : ∀ (v : Int32) (m' : dM), aCt H S x1 x2 = v → RsF m m' → Q v m' := fun v m' e q => by rw [← e]; exact hQ m' q
  have em := ti_m1
  have e2 := ti_2
  have no : ¬ ((0 ≤ x1.toInt ∧ x1.toInt < (hoF H : Int)) ∧ -1 ≤ x2.toInt ∧ x2.toInt ≤ 2) → j_X12_cut_70_17 8 m Q := fun q => v_X12_cut_70_17 (hQ' _ m (by unfold aCt; rw [if_neg q]) (RsF.rf m))
  refine v_X12_cut_70 (Wp.deep (y_isFlatr hK.1 (fun hu => ⟨fun z => absurd z (by decide), fun _ => Wp.deep (y_in (fun h => ⟨fun _ => Wp.deep (eb_gone hK hO ?_) (Nat.le_of_ble_eq_true rfl), fun z => absurd z (by decide)⟩) (fun q => ⟨fun z => absurd rfl z, fun _ => no (by omega)⟩)) (Nat.le_of_ble_eq_true rfl)⟩) (fun hu => ⟨fun _ => no (fun w => hu w.1), fun z => absurd rfl z⟩)) (Nat.le_of_ble_eq_true rfl))
  have hx := toNat_of hu.1
  have eA : aCt H S x1 x2 = (match fd (ctp H x1.toNatClampNeg (szG S)) (zET 4 0) with
    | none => -2
    | some y => if x2.toInt = -1 then pc10 y 10 else ithB y 10 0 x2.toNatClampNeg) := by unfold aCt; exact if_pos (by omega)
  rw [← rfB_fd w10] at eA
  generalize x1.toNatClampNeg = f at hx eA
  have b := pw w10
  have le : 2 ^ hoW H ≤ 1024 := (Nat.pow_le_pow_right (show 0 < 2 by omega) w10 : 2 ^ hoW H ≤ 2 ^ 10)
  generalize 2 ^ hoW H = N at b le eA
  have bits : ∀ (y : Int32) (M : dM) (Q' : Int32 → dM → Prop), Q' (pc10 y 10) M → c_X12_bits 7 y M Q' := fun y M Q' h => Wp.deep (eb_bits h) (Nat.le_of_ble_eq_true rfl)
  have fin : ∀ (M : dM), RsF m M → (0 ≤ (cvt (rfB H f (szG S) N)).toInt → (x2.toInt ≠ (-1) → c_X12_ithOf 7 (cvt (rfB H f (szG S) N)) x2 M (fun r1 m1 => Q r1 m1)) ∧ (x2.toInt = (-1) → c_X12_bits 7 (cvt (rfB H f (szG S) N)) M (fun r2 m2 => Q r2 m2))) ∧ ((cvt (rfB H f (szG S) N)).toInt < 0 → Q (-2 : Int32) M) := fun M fM => by
    have inv := rfB_inv (H := H) (f := f) (g := szG S) N
    cases r : rfB H f (szG S) N with
    | none =>
      rw [r] at eA
      refine ⟨fun q => ?_, fun _ => hQ' _ M eA fM⟩
      exfalso
      have q : 0 ≤ (-1 : Int32).toInt := q
      omega
    | some y =>
      rw [r] at eA
      have eA : aCt H S x1 x2 = if x2.toInt = -1 then pc10 y 10 else ithB y 10 0 x2.toNatClampNeg := eA
      obtain ⟨⟨i, i1, i2⟩, _, _⟩ := inv.2 y r
      have iy : y.toInt = (i : Int) := by rw [i2]; exact i32_n (by omega)
      refine ⟨fun _ => ⟨fun ne => ?_, fun e => bits _ M _ (hQ' _ M (by rw [eA, if_pos e]; rfl) fM)⟩, fun q => ?_⟩
      · have h2 := toNat_of (x := x2) (by omega)
        exact Wp.deep (eb_ith h2 (by omega) (hQ' _ M (by rw [eA, if_neg ne]; rfl) fM)) (Nat.le_of_ble_eq_true rfl)
      · exfalso
        have q : y.toInt < 0 := q
        omega
  have loop : ∀ (t j : Nat) (x5 : Int32) (M : dM), j + t = N → x5.toInt = (j : Int) → RsF m M → j_X12_cut_70_30 8 x1 x2 (szG S) (cvt (rfB H f (szG S) j)) x5 M Q := by
    intro t
    induction t with
    | zero =>
      intro j x5 M hj h5 fM
      have hKM := hK.rs fM
      have a := hKM.1.2.1.1
      have ej : j = N := by omega
      refine v_X12_cut_70_30 ?_
      rw [d_cn a.1, b1_of hKM.1.2.1.2.2.1.1, ej]
      exact ⟨by omega, fun _ => fin M fM, fun q => by exfalso; omega⟩
    | succ t ih =>
      intro j x5 M hj h5 fM
      have hKM := hK.rs fM
      have a := hKM.1.2.1.1
      have n := ih (j + 1)
      rw [rfB_s, ofI h5] at n
      have inv := rfB_inv (H := H) (f := f) (g := szG S) j
      have keep : ∀ M1 : dM, RsF m M1 → ¬ (((pc10 x5 10).toInt ≤ 3 ∧ x5 &&& szG S = 0 ∧ lt H (szG S ||| x5) f = false) ∧ bet (rfB H f (szG S) j) x5 = true) → j_X12_cut_70_127 8 x1 x2 (szG S) (cvt (rfB H f (szG S) j)) x5 M1 Q := fun M1 f1 q => by
        rw [if_neg q] at n
        exact v_X12_cut_70_127 (n _ M1 (by omega) (d_inc h5 (by omega)) f1)
      have tr : (pc10 x5 10).toInt ≤ 3 → x5 &&& szG S = 0 → bet (rfB H f (szG S) j) x5 = true → j_X12_cut_70_109 8 x1 x2 (szG S) (cvt (rfB H f (szG S) j)) x5 M Q := fun q1 q2 q3 => v_X12_cut_70_109 (y_loses hK fM (fun M1 f1 W1 L1 => Wp.deep (y_isLit L1 hx (by omega) (fun g => ⟨fun _ => keep M1 f1 (fun w => by have := w.1.2.2; rw [g] at this; cases this), fun z => absurd z (by decide)⟩) (fun g => ⟨fun z => absurd rfl z, fun _ => by
        rw [if_pos ⟨⟨q1, q2, g⟩, q3⟩] at n
        exact v_X12_cut_70_127 (n _ M1 (by omega) (d_inc h5 (by omega)) f1)⟩)) (Nat.le_of_ble_eq_true rfl)))
      refine v_X12_cut_70_30 ?_
      rw [d_cn a.1, b1_of hKM.1.2.1.2.2.1.1]
      refine ⟨by omega, fun q => by exfalso; omega, fun _ => bits _ M _ ⟨fun g => keep M fM (fun w => by have := w.1.1; omega), fun le3 => ⟨fun z => ?_, fun nz => keep M fM (fun w => nz (by rw [w.1.2.1]; exact ti_0))⟩⟩⟩
      have z0 : x5 &&& szG S = 0 := z_of z
      cases r : rfB H f (szG S) j with
      | none =>
        rw [r] at keep tr
        refine ⟨fun _ => tr le3 z0 rfl, fun q => ?_⟩
        exfalso
        have q : 0 ≤ (-1 : Int32).toInt := q
        omega
      | some y =>
        rw [r] at keep tr
        obtain ⟨⟨i, i1, i2⟩, _, _⟩ := inv.2 y r
        have iy : y.toInt = (i : Int) := by rw [i2]; exact i32_n (by omega)
        refine ⟨fun q => ?_, fun _ => bits _ M _ (bits _ M _ ⟨fun l => keep M fM (fun w => ?_), fun le2 => bits _ M _ (bits _ M _ ⟨fun ne => tr le3 z0 ?_, fun ee => Wp.deep (eb_earlier ⟨fun e => tr le3 z0 ?_, fun e => keep M fM (fun w => ?_)⟩) (Nat.le_of_ble_eq_true rfl)⟩)⟩)⟩
        · exfalso
          have q : y.toInt < 0 := q
          omega
        · have k : key x5 < key y := of_decide_eq_true w.2
          have l : (pc10 y 10).toInt < (pc10 x5 10).toInt := l
          have := key_lt l
          omega
        · have ne : (pc10 x5 10).toInt ≠ (pc10 y 10).toInt := ne
          have le2 : (pc10 x5 10).toInt ≤ (pc10 y 10).toInt := le2
          exact decide_eq_true (key_lt (by omega))
        · have ee : (pc10 x5 10).toInt = (pc10 y 10).toInt := ee
          have e := bi_ne0 e
          have e : erl x5 y = true := e
          rw [erl_key ee] at e
          exact e
        · have ee : (pc10 x5 10).toInt = (pc10 y 10).toInt := ee
          have e := bi_eq0 e
          have e : erl x5 y = false := e
          rw [erl_key ee] at e
          have w2 : decide (key x5 < key y) = true := w.2
          rw [e] at w2
          cases w2
  exact loop N 0 _ m (by omega) (by decide) (RsF.rf m)
end QCV
end
section
/-! EVERY CALL OF BOTH KEEPS Ok (printed by wip/p34/mk50.py) -/
theorem a_X11_flat {x1 : Int32} {x2 : Int32} {m : dM} {Q : Int32 → dM → Prop} (hO : Ok m) (hQ : ∀ (r : Int32) (m' : dM), Ok m' ∧ Kp m m' → Q r m') : Wp 600 251 0 [oR 0, oI x1, oI x2, none] [] m (qI Q) := Wp.deep (s_X11_flat_0 hO.1 hO.2 (fun r m' I => hQ r m' ⟨Ok.of hO.1 I, Kp.of I⟩)) (Nat.le_of_ble_eq_true rfl)
theorem a_X11_wire {x1 : Int32} {x2 : Int32} {m : dM} {Q : Int32 → dM → Prop} (hO : Ok m) (hQ : ∀ (r : Int32) (m' : dM), Ok m' ∧ Kp m m' → Q r m') : Wp 600 252 0 [oR 0, oI x1, oI x2] [] m (qI Q) := Wp.deep (s_X11_wire_0 hO.1 hO.2 (fun r m' I => hQ r m' ⟨Ok.of hO.1 I, Kp.of I⟩)) (Nat.le_of_ble_eq_true rfl)
theorem a_X11_use {x1 : Int32} {x2 : Int32} {m : dM} {Q : Int32 → dM → Prop} (hO : Ok m) (hQ : ∀ (r : Int32) (m' : dM), Ok m' ∧ Kp m m' → Q r m') : Wp 600 253 0 [oR 0, oI x1, oI x2, none] [] m (qI Q) := Wp.deep (s_X11_use_0 hO.1 hO.2 (fun r m' I => hQ r m' ⟨Ok.of hO.1 I, Kp.of I⟩)) (Nat.le_of_ble_eq_true rfl)
theorem a_X11_agree {x1 : Int32} {x2 : Int32} {m : dM} {Q : Int32 → dM → Prop} (hO : Ok m) (h2 : 0 ≤ x2.toInt ∧ x2.toInt ≤ 1) (hQ : ∀ (r : Int32) (m' : dM), Ok m' ∧ Kp m m' → Q r m') : Wp 600 254 0 [oR 0, oI x1, oI x2] [] m (qI Q) := Wp.deep (s_X11_agree_0 hO.1 hO.2 h2 (fun r m' I _ => hQ r m' ⟨Ok.of hO.1 I, Kp.of I⟩)) (Nat.le_of_ble_eq_true rfl)
theorem a_X11_mend {x1 : Int32} {m : dM} {Q : Int32 → dM → Prop} (hO : Ok m) (hQ : ∀ (r : Int32) (m' : dM), Ok m' ∧ Kp m m' → Q r m') : Wp 600 255 0 [oR 0, oI x1, none] [] m (qI Q) := Wp.deep (s_X11_mend_0 hO.1 hO.2 (fun r m' I => hQ r m' ⟨Ok.of hO.1 I, Kp.of I⟩)) (Nat.le_of_ble_eq_true rfl)
theorem a_X11_thicken {x1 : Int32} {m : dM} {Q : Int32 → dM → Prop} (hO : Ok m) (hQ : ∀ (r : Int32) (m' : dM), Ok m' ∧ Kp m m' → Q r m') : Wp 600 256 0 [oR 0, oI x1, none] [] m (qI Q) := Wp.deep (s_X11_thicken_0 hO.1 hO.2 (fun r m' I => hQ r m' ⟨Ok.of hO.1 I, Kp.of I⟩)) (Nat.le_of_ble_eq_true rfl)
theorem a_X11_pin {x1 : Int32} {x2 : Int32} {m : dM} {Q : Int32 → dM → Prop} (hO : Ok m) (h2 : 0 ≤ x2.toInt ∧ x2.toInt ≤ 1) (hQ : ∀ (r : Int32) (m' : dM), Ok m' ∧ Kp m m' → Q r m') : Wp 600 257 0 [oR 0, oI x1, oI x2] [] m (qI Q) := Wp.deep (s_X11_pin_0 hO.1 hO.2 h2 (fun r m' I _ => hQ r m' ⟨Ok.of hO.1 I, Kp.of I⟩)) (Nat.le_of_ble_eq_true rfl)
theorem a_X11_hours {x1 : Int32} {m : dM} {Q : Int32 → dM → Prop} (hO : Ok m) (hQ : ∀ (r : Int32) (m' : dM), Ok m' ∧ Kp m m' → Q r m') : Wp 600 258 0 [oR 0, oI x1, none] [] m (qI Q) := Wp.deep (s_X11_hours_0 hO.1 hO.2 (fun r m' I => hQ r m' ⟨Ok.of hO.1 I, Kp.of I⟩)) (Nat.le_of_ble_eq_true rfl)
theorem a_X11_undo  {m : dM} {Q : Int32 → dM → Prop} (hO : Ok m) (hQ : ∀ (r : Int32) (m' : dM), Ok m' ∧ Kp m m' → Q r m') : Wp 600 259 0 [oR 0] [] m (qI Q) := Wp.deep (s_X11_undo_0 hO.1 hO.2 (fun r m' I _ => hQ r m' ⟨Ok.of hO.1 I, Kp.of I⟩)) (Nat.le_of_ble_eq_true rfl)
theorem a_X11_way {x1 : Int32} {x2 : Int32} {m : dM} {Q : Int32 → dM → Prop} (hO : Ok m) (hQ : ∀ (r : Int32) (m' : dM), Ok m' ∧ Kp m m' → Q r m') : Wp 600 260 0 [oR 0, oI x1, oI x2, none] [] m (qI Q) := Wp.deep (s_X11_way_0 hO.1 hO.2 (fun r m' I _ => hQ r m' ⟨Ok.of hO.1 I, Kp.of I⟩)) (Nat.le_of_ble_eq_true rfl)
theorem a_X11_peak {x1 : Int32} {x2 : Int32} {x3 : Int32} {m : dM} {Q : Int32 → dM → Prop} (hO : Ok m) (hQ : ∀ (r : Int32) (m' : dM), Ok m' ∧ Kp m m' → Q r m') : Wp 600 261 0 [oR 0, oI x1, oI x2, oI x3] [] m (qI Q) := Wp.deep (s_X11_peak_0 hO.1 hO.2 (fun r m' I _ => hQ r m' ⟨Ok.of hO.1 I, Kp.of I⟩)) (Nat.le_of_ble_eq_true rfl)
theorem a_X11_first {x1 : Int32} {m : dM} {Q : Int32 → dM → Prop} (hO : Ok m) (hQ : ∀ (r : Int32) (m' : dM), Ok m' ∧ Kp m m' → Q r m') : Wp 600 262 0 [oR 0, oI x1, none] [] m (qI Q) := Wp.deep (s_X11_first_0 hO.1 hO.2 (fun r m' I _ => hQ r m' ⟨Ok.of hO.1 I, Kp.of I⟩)) (Nat.le_of_ble_eq_true rfl)
theorem a_X11_together {x1 : Int32} {m : dM} {Q : Int32 → dM → Prop} (hO : Ok m) (hQ : ∀ (r : Int32) (m' : dM), Ok m' ∧ Kp m m' → Q r m') : Wp 600 263 0 [oR 0, oI x1, none] [] m (qI Q) := Wp.deep (s_X11_together_0 hO.1 hO.2 (fun r m' I => hQ r m' ⟨Ok.of hO.1 I, Kp.of I⟩)) (Nat.le_of_ble_eq_true rfl)
theorem a_X11_when {x1 : Int32} {m : dM} {Q : Int32 → dM → Prop} (hO : Ok m) (hQ : ∀ (r : Int32) (m' : dM), Ok m' ∧ Kp m m' → Q r m') : Wp 600 264 0 [oR 0, oI x1] [] m (qI Q) := Wp.deep (s_X11_when_0 hO.1 hO.2 (fun r m' I => hQ r m' ⟨Ok.of hO.1 I, Kp.of I⟩)) (Nat.le_of_ble_eq_true rfl)
theorem a_X11_thick {x1 : Int32} {m : dM} {Q : Int32 → dM → Prop} (hO : Ok m) (hQ : ∀ (r : Int32) (m' : dM), Ok m' ∧ Kp m m' → Q r m') : Wp 600 265 0 [oR 0, oI x1] [] m (qI Q) := Wp.deep (s_X11_thick_0 hO.1 hO.2 (fun r m' I _ => hQ r m' ⟨Ok.of hO.1 I, Kp.of I⟩)) (Nat.le_of_ble_eq_true rfl)
theorem a_X11_cut {x1 : Int32} {x2 : Int32} {m : dM} {Q : Int32 → dM → Prop} (hO : Ok m) (hQ : ∀ (r : Int32) (m' : dM), Ok m' ∧ Kp m m' → Q r m') : Wp 600 266 0 [oR 0, oI x1, oI x2, none] [] m (qI Q) := Wp.deep (s_X11_cut_0 hO.1 hO.2 (fun r _ => hQ r m ⟨hO, Kp.rf m⟩)) (Nat.le_of_ble_eq_true rfl)
theorem a_X11_share {x1 : Int32} {x2 : Int32} {m : dM} {Q : Int32 → dM → Prop} (hO : Ok m) (hQ : ∀ (r : Int32) (m' : dM), Ok m' ∧ Kp m m' → Q r m') : Wp 600 267 0 [oR 0, oI x1, oI x2, none] [] m (qI Q) := Wp.deep (s_X11_share_0 hO.1 hO.2 (fun r m' I => hQ r m' ⟨Ok.of hO.1 I, Kp.of I⟩)) (Nat.le_of_ble_eq_true rfl)
theorem a_X11_without {x1 : Int32} {m : dM} {Q : Int32 → dM → Prop} (hO : Ok m) (hQ : ∀ (r : Int32) (m' : dM), Ok m' ∧ Kp m m' → Q r m') : Wp 600 268 0 [oR 0, oI x1] [] m (qI Q) := Wp.deep (s_X11_without_0 hO.1 hO.2 (fun r => hQ r m ⟨hO, Kp.rf m⟩)) (Nat.le_of_ble_eq_true rfl)
theorem a_X11_needed  {m : dM} {Q : Int32 → dM → Prop} (hO : Ok m) (hQ : ∀ (r : Int32) (m' : dM), Ok m' ∧ Kp m m' → Q r m') : Wp 600 269 0 [oR 0, none, none, none] [] m (qI Q) := Wp.deep (s_X11_needed_0 hO.1 hO.2 (fun r => hQ r m ⟨hO, Kp.rf m⟩)) (Nat.le_of_ble_eq_true rfl)
theorem a_X11_hottest {x1 : Int32} {m : dM} {Q : Int32 → dM → Prop} (hO : Ok m) (hQ : ∀ (r : Int32) (m' : dM), Ok m' ∧ Kp m m' → Q r m') : Wp 600 270 0 [oR 0, oI x1, none, none, none, none] [] m (qI Q) := Wp.deep (s_X11_hottest_0 hO.1 hO.2 (fun r m' I => hQ r m' ⟨Ok.of hO.1 I, Kp.of I⟩)) (Nat.le_of_ble_eq_true rfl)
theorem a_X11_clash {x1 : Int32} {x2 : Int32} {m : dM} {Q : Int32 → dM → Prop} (hO : Ok m) (hQ : ∀ (r : Int32) (m' : dM), Ok m' ∧ Kp m m' → Q r m') : Wp 600 271 0 [oR 0, oI x1, oI x2] [] m (qI Q) := Wp.deep (s_X11_clash_0 hO.1 hO.2 (fun r m' I _ => hQ r m' ⟨Ok.of hO.1 I, Kp.of I⟩)) (Nat.le_of_ble_eq_true rfl)
theorem a_X11_then {x1 : Int32} {x2 : Int32} {m : dM} {Q : Int32 → dM → Prop} (hO : Ok m) (hQ : ∀ (r : Int32) (m' : dM), Ok m' ∧ Kp m m' → Q r m') : Wp 600 272 0 [oR 0, oI x1, oI x2, none] [] m (qI Q) := Wp.deep (s_X11_then_0 hO.1 hO.2 (fun r m' I => hQ r m' ⟨Ok.of hO.1 I, Kp.of I⟩)) (Nat.le_of_ble_eq_true rfl)
theorem a_X11_litIn {x1 : Int32} {x2 : Int32} {m : dM} {Q : Int32 → dM → Prop} (hO : Ok m) (hQ : ∀ (r : Int32) (m' : dM), Ok m' ∧ Kp m m' → Q r m') : Wp 600 273 0 [oR 0, oI x1, oI x2] [] m (qI Q) := Wp.deep (s_X11_litIn_0 hO.1 hO.2 (fun r m' I _ => hQ r m' ⟨Ok.of hO.1 I, Kp.of I⟩)) (Nat.le_of_ble_eq_true rfl)
theorem a_X11_year {x1 : Int32} {x2 : Int32} {m : dM} {Q : Int32 → dM → Prop} (hO : Ok m) (hQ : ∀ (r : Int32) (m' : dM), Ok m' ∧ Kp m m' → Q r m') : Wp 600 274 0 [oR 0, oI x1, oI x2] [] m (qI Q) := Wp.deep (s_X11_year_0 hO.1 hO.2 (fun r m' I => hQ r m' ⟨Ok.of hO.1 I, Kp.of I⟩)) (Nat.le_of_ble_eq_true rfl)
theorem a_X11_went {x1 : Int32} {x2 : Int32} {m : dM} {Q : Int32 → dM → Prop} (hO : Ok m) (hQ : ∀ (r : Int32) (m' : dM), Ok m' ∧ Kp m m' → Q r m') : Wp 600 277 0 [oR 0, oI x1, oI x2, none] [] m (qI Q) := Wp.deep (s_X11_went_0 hO.1 hO.2 (fun r => hQ r m ⟨hO, Kp.rf m⟩)) (Nat.le_of_ble_eq_true rfl)
theorem a_X11_ask {x1 : Int32} {m : dM} {Q : Int32 → dM → Prop} (hO : Ok m) (hQ : ∀ (r : Int32) (m' : dM), Ok m' ∧ Kp m m' → Q r m') : Wp 600 278 0 [oR 0, oI x1] [] m (qI Q) := Wp.deep (s_X11_ask_0 hO.1 hO.2 (fun r _ => hQ r m ⟨hO, Kp.rf m⟩)) (Nat.le_of_ble_eq_true rfl)
theorem a_X11_count {x1 : Int32} {m : dM} {Q : Int32 → dM → Prop} (hO : Ok m) (hQ : ∀ (r : Int32) (m' : dM), Ok m' ∧ Kp m m' → Q r m') : Wp 600 281 0 [oR 0, oI x1] [] m (qI Q) := Wp.deep (s_X11_count_0 hO.1 hO.2 (fun r m' I => hQ r m' ⟨Ok.of hO.1 I, Kp.of I⟩)) (Nat.le_of_ble_eq_true rfl)
theorem a_X12_flat {x1 : Int32} {x2 : Int32} {m : dM} {Q : Int32 → dM → Prop} (hO : Ok m) (hQ : ∀ (r : Int32) (m' : dM), Ok m' ∧ Kp m m' → Q r m') : Wp 600 69 0 [oR 70, oI x1, oI x2] [] m (qI Q) := Wp.deep (s_X12_flat_70 hO.1 hO.2 (fun r m' I => hQ r m' ⟨Ok.of hO.1 I, Kp.of I⟩)) (Nat.le_of_ble_eq_true rfl)
theorem a_X12_wire {x1 : Int32} {x2 : Int32} {m : dM} {Q : Int32 → dM → Prop} (hO : Ok m) (hQ : ∀ (r : Int32) (m' : dM), Ok m' ∧ Kp m m' → Q r m') : Wp 600 71 0 [oR 70, oI x1, oI x2] [] m (qI Q) := Wp.deep (s_X12_wire_70 hO.1 hO.2 (fun r m' I => hQ r m' ⟨Ok.of hO.1 I, Kp.of I⟩)) (Nat.le_of_ble_eq_true rfl)
theorem a_X12_use {x1 : Int32} {x2 : Int32} {m : dM} {Q : Int32 → dM → Prop} (hO : Ok m) (hQ : ∀ (r : Int32) (m' : dM), Ok m' ∧ Kp m m' → Q r m') : Wp 600 72 0 [oR 70, oI x1, oI x2] [] m (qI Q) := Wp.deep (s_X12_use_70 hO.1 hO.2 (fun r m' I => hQ r m' ⟨Ok.of hO.1 I, Kp.of I⟩)) (Nat.le_of_ble_eq_true rfl)
theorem a_X12_agree {x1 : Int32} {x2 : Int32} {m : dM} {Q : Int32 → dM → Prop} (hO : Ok m) (h2 : 0 ≤ x2.toInt ∧ x2.toInt ≤ 1) (hQ : ∀ (r : Int32) (m' : dM), Ok m' ∧ Kp m m' → Q r m') : Wp 600 74 0 [oR 70, oI x1, oI x2] [] m (qI Q) := Wp.deep (s_X12_agree_70 hO.1 hO.2 h2 (fun r m' I _ => hQ r m' ⟨Ok.of hO.1 I, Kp.of I⟩)) (Nat.le_of_ble_eq_true rfl)
theorem a_X12_mend {x1 : Int32} {m : dM} {Q : Int32 → dM → Prop} (hO : Ok m) (hQ : ∀ (r : Int32) (m' : dM), Ok m' ∧ Kp m m' → Q r m') : Wp 600 75 0 [oR 70, oI x1] [] m (qI Q) := Wp.deep (s_X12_mend_70 hO.1 hO.2 (fun r m' I => hQ r m' ⟨Ok.of hO.1 I, Kp.of I⟩)) (Nat.le_of_ble_eq_true rfl)
theorem a_X12_thicken {x1 : Int32} {m : dM} {Q : Int32 → dM → Prop} (hO : Ok m) (hQ : ∀ (r : Int32) (m' : dM), Ok m' ∧ Kp m m' → Q r m') : Wp 600 76 0 [oR 70, oI x1] [] m (qI Q) := Wp.deep (s_X12_thicken_70 hO.1 hO.2 (fun r m' I => hQ r m' ⟨Ok.of hO.1 I, Kp.of I⟩)) (Nat.le_of_ble_eq_true rfl)
theorem a_X12_pin {x1 : Int32} {x2 : Int32} {m : dM} {Q : Int32 → dM → Prop} (hO : Ok m) (h2 : 0 ≤ x2.toInt ∧ x2.toInt ≤ 1) (hQ : ∀ (r : Int32) (m' : dM), Ok m' ∧ Kp m m' → Q r m') : Wp 600 77 0 [oR 70, oI x1, oI x2] [] m (qI Q) := Wp.deep (s_X12_pin_70 hO.1 hO.2 h2 (fun r m' I _ => hQ r m' ⟨Ok.of hO.1 I, Kp.of I⟩)) (Nat.le_of_ble_eq_true rfl)
theorem a_X12_hours {x1 : Int32} {m : dM} {Q : Int32 → dM → Prop} (hO : Ok m) (hQ : ∀ (r : Int32) (m' : dM), Ok m' ∧ Kp m m' → Q r m') : Wp 600 79 0 [oR 70, oI x1] [] m (qI Q) := Wp.deep (s_X12_hours_70 hO.1 hO.2 (fun r m' I => hQ r m' ⟨Ok.of hO.1 I, Kp.of I⟩)) (Nat.le_of_ble_eq_true rfl)
theorem a_X12_undo  {m : dM} {Q : Int32 → dM → Prop} (hO : Ok m) (hQ : ∀ (r : Int32) (m' : dM), Ok m' ∧ Kp m m' → Q r m') : Wp 600 80 0 [oR 70, none] [] m (qI Q) := Wp.deep (s_X12_undo_70 hO.1 hO.2 (fun r m' I _ => hQ r m' ⟨Ok.of hO.1 I, Kp.of I⟩)) (Nat.le_of_ble_eq_true rfl)
theorem a_X12_way {x1 : Int32} {x2 : Int32} {m : dM} {Q : Int32 → dM → Prop} (hO : Ok m) (hQ : ∀ (r : Int32) (m' : dM), Ok m' ∧ Kp m m' → Q r m') : Wp 600 81 0 [oR 70, oI x1, oI x2, none, none] [] m (qI Q) := Wp.deep (s_X12_way_70 hO.1 hO.2 (fun r m' I => hQ r m' ⟨Ok.of hO.1 I, Kp.of I⟩)) (Nat.le_of_ble_eq_true rfl)
theorem a_X12_peak {x1 : Int32} {x2 : Int32} {x3 : Int32} {m : dM} {Q : Int32 → dM → Prop} (hO : Ok m) (hQ : ∀ (r : Int32) (m' : dM), Ok m' ∧ Kp m m' → Q r m') : Wp 600 83 0 [oR 70, oI x1, oI x2, oI x3, none, none, none, none] [] m (qI Q) := Wp.deep (s_X12_peak_70 hO.1 hO.2 (fun r m' I _ => hQ r m' ⟨Ok.of hO.1 I, Kp.of I⟩)) (Nat.le_of_ble_eq_true rfl)
theorem a_X12_first {x1 : Int32} {m : dM} {Q : Int32 → dM → Prop} (hO : Ok m) (hQ : ∀ (r : Int32) (m' : dM), Ok m' ∧ Kp m m' → Q r m') : Wp 600 86 0 [oR 70, oI x1, none] [] m (qI Q) := Wp.deep (s_X12_first_70 hO.1 hO.2 (fun r m' I _ => hQ r m' ⟨Ok.of hO.1 I, Kp.of I⟩)) (Nat.le_of_ble_eq_true rfl)
theorem a_X12_together {x1 : Int32} {m : dM} {Q : Int32 → dM → Prop} (hO : Ok m) (hQ : ∀ (r : Int32) (m' : dM), Ok m' ∧ Kp m m' → Q r m') : Wp 600 88 0 [oR 70, oI x1, none, none, none, none, none] [] m (qI Q) := Wp.deep (s_X12_together_70 hO.1 hO.2 (fun r m' I _ => hQ r m' ⟨Ok.of hO.1 I, Kp.of I⟩)) (Nat.le_of_ble_eq_true rfl)
theorem a_X12_when {x1 : Int32} {m : dM} {Q : Int32 → dM → Prop} (hO : Ok m) (hQ : ∀ (r : Int32) (m' : dM), Ok m' ∧ Kp m m' → Q r m') : Wp 600 90 0 [oR 70, oI x1, none, none] [] m (qI Q) := Wp.deep (s_X12_when_70 hO.1 hO.2 (fun r m' I _ => hQ r m' ⟨Ok.of hO.1 I, Kp.of I⟩)) (Nat.le_of_ble_eq_true rfl)
theorem a_X12_thick {x1 : Int32} {m : dM} {Q : Int32 → dM → Prop} (hO : Ok m) (hQ : ∀ (r : Int32) (m' : dM), Ok m' ∧ Kp m m' → Q r m') : Wp 600 91 0 [oR 70, oI x1, none, none, none, none] [] m (qI Q) := Wp.deep (s_X12_thick_70 hO.1 hO.2 (fun r m' I _ => hQ r m' ⟨Ok.of hO.1 I, Kp.of I⟩)) (Nat.le_of_ble_eq_true rfl)
theorem a_X12_cut {x1 : Int32} {x2 : Int32} {m : dM} {Q : Int32 → dM → Prop} (hO : Ok m) (hQ : ∀ (r : Int32) (m' : dM), Ok m' ∧ Kp m m' → Q r m') : Wp 600 96 0 [oR 70, oI x1, oI x2, none, none, none] [] m (qI Q) := Wp.deep (s_X12_cut_70 hO.1 hO.2 (fun r m' I => hQ r m' ⟨Ok.of hO.1 I, Kp.of I⟩)) (Nat.le_of_ble_eq_true rfl)
theorem a_X12_share {x1 : Int32} {x2 : Int32} {m : dM} {Q : Int32 → dM → Prop} (hO : Ok m) (hQ : ∀ (r : Int32) (m' : dM), Ok m' ∧ Kp m m' → Q r m') : Wp 600 97 0 [oR 70, oI x1, oI x2] [] m (qI Q) := Wp.deep (s_X12_share_70 hO.1 hO.2 (fun r m' I => hQ r m' ⟨Ok.of hO.1 I, Kp.of I⟩)) (Nat.le_of_ble_eq_true rfl)
theorem a_X12_without {x1 : Int32} {m : dM} {Q : Int32 → dM → Prop} (hO : Ok m) (hQ : ∀ (r : Int32) (m' : dM), Ok m' ∧ Kp m m' → Q r m') : Wp 600 99 0 [oR 70, oI x1] [] m (qI Q) := Wp.deep (s_X12_without_70 hO.1 hO.2 (fun r m' I => hQ r m' ⟨Ok.of hO.1 I, Kp.of I⟩)) (Nat.le_of_ble_eq_true rfl)
theorem a_X12_needed  {m : dM} {Q : Int32 → dM → Prop} (hO : Ok m) (hQ : ∀ (r : Int32) (m' : dM), Ok m' ∧ Kp m m' → Q r m') : Wp 600 100 0 [oR 70, none, none, none] [] m (qI Q) := Wp.deep (s_X12_needed_70 hO.1 hO.2 (fun r m' I => hQ r m' ⟨Ok.of hO.1 I, Kp.of I⟩)) (Nat.le_of_ble_eq_true rfl)
theorem a_X12_hottest {x1 : Int32} {m : dM} {Q : Int32 → dM → Prop} (hO : Ok m) (hQ : ∀ (r : Int32) (m' : dM), Ok m' ∧ Kp m m' → Q r m') : Wp 600 101 0 [oR 70, oI x1, none, none, none, none, none] [] m (qI Q) := Wp.deep (s_X12_hottest_70 hO.1 hO.2 (fun r m' I => hQ r m' ⟨Ok.of hO.1 I, Kp.of I⟩)) (Nat.le_of_ble_eq_true rfl)
theorem a_X12_clash {x1 : Int32} {x2 : Int32} {m : dM} {Q : Int32 → dM → Prop} (hO : Ok m) (hQ : ∀ (r : Int32) (m' : dM), Ok m' ∧ Kp m m' → Q r m') : Wp 600 102 0 [oR 70, oI x1, oI x2, none] [] m (qI Q) := Wp.deep (s_X12_clash_70 hO.1 hO.2 (fun r m' I => hQ r m' ⟨Ok.of hO.1 I, Kp.of I⟩)) (Nat.le_of_ble_eq_true rfl)
theorem a_X12_then {x1 : Int32} {x2 : Int32} {m : dM} {Q : Int32 → dM → Prop} (hO : Ok m) (hQ : ∀ (r : Int32) (m' : dM), Ok m' ∧ Kp m m' → Q r m') : Wp 600 103 0 [oR 70, oI x1, oI x2, none, none] [] m (qI Q) := Wp.deep (s_X12_then_70 hO.1 hO.2 (fun r m' I => hQ r m' ⟨Ok.of hO.1 I, Kp.of I⟩)) (Nat.le_of_ble_eq_true rfl)
theorem a_X12_litIn {x1 : Int32} {x2 : Int32} {m : dM} {Q : Int32 → dM → Prop} (hO : Ok m) (hQ : ∀ (r : Int32) (m' : dM), Ok m' ∧ Kp m m' → Q r m') : Wp 600 104 0 [oR 70, oI x1, oI x2] [] m (qI Q) := Wp.deep (s_X12_litIn_70 hO.1 hO.2 (fun r m' I _ => hQ r m' ⟨Ok.of hO.1 I, Kp.of I⟩)) (Nat.le_of_ble_eq_true rfl)
theorem a_X12_year {x1 : Int32} {x2 : Int32} {m : dM} {Q : Int32 → dM → Prop} (hO : Ok m) (hQ : ∀ (r : Int32) (m' : dM), Ok m' ∧ Kp m m' → Q r m') : Wp 600 105 0 [oR 70, oI x1, oI x2, none, none, none, none] [] m (qI Q) := Wp.deep (s_X12_year_70 hO.1 hO.2 (fun r m' I => hQ r m' ⟨Ok.of hO.1 I, Kp.of I⟩)) (Nat.le_of_ble_eq_true rfl)
theorem a_X12_went {x1 : Int32} {x2 : Int32} {m : dM} {Q : Int32 → dM → Prop} (hO : Ok m) (hQ : ∀ (r : Int32) (m' : dM), Ok m' ∧ Kp m m' → Q r m') : Wp 600 109 0 [oR 70, oI x1, oI x2, none] [] m (qI Q) := Wp.deep (s_X12_went_70 hO.1 hO.2 (fun r m' I => hQ r m' ⟨Ok.of hO.1 I, Kp.of I⟩)) (Nat.le_of_ble_eq_true rfl)
theorem a_X12_ask {x1 : Int32} {m : dM} {Q : Int32 → dM → Prop} (hO : Ok m) (hQ : ∀ (r : Int32) (m' : dM), Ok m' ∧ Kp m m' → Q r m') : Wp 600 110 0 [oR 70, oI x1, none, none, none, none, none, none] [] m (qI Q) := Wp.deep (s_X12_ask_70 hO.1 hO.2 (fun r m' I _ => hQ r m' ⟨Ok.of hO.1 I, Kp.of I⟩)) (Nat.le_of_ble_eq_true rfl)
theorem a_X12_count {x1 : Int32} {m : dM} {Q : Int32 → dM → Prop} (hO : Ok m) (hQ : ∀ (r : Int32) (m' : dM), Ok m' ∧ Kp m m' → Q r m') : Wp 600 113 0 [oR 70, oI x1, none, none] [] m (qI Q) := Wp.deep (s_X12_count_70 hO.1 hO.2 (fun r m' I => hQ r m' ⟨Ok.of hO.1 I, Kp.of I⟩)) (Nat.le_of_ble_eq_true rfl)
end
