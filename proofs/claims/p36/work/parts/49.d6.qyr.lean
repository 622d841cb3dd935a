section
/-! QUESTIONS, exactly: year, together -/
/-- so many hours by this seed, and none goes -/
def clm (H : Ho) (e : Int32) : Nat → Zt → Bool
  | 0, _ => true
  | n + 1, T => if (wgo H T (sgA H e (szH T))).toInt = 0 then clm H e n (wsz H T (sgA H e (szH T))) else false
def yrS (H : Ho) (S : Zt) (n : Nat) : Nat → Int32
  | 0 => 0
  | k + 1 => yrS H S n k + bi (clm H (hoE H + Int32.ofInt (k : Int)) n S)
def aYr (H : Ho) (S : Zt) (x1 x2 : Int32) : Int32 := if (0 ≤ x1.toInt ∧ x1.toInt ≤ 72) ∧ 1 ≤ x2.toInt ∧ x2.toInt ≤ 20 then yrS H S x1.toNatClampNeg x2.toNatClampNeg else -1
section QYR
variable {H : Ho} {S : Zt} {P : List Zt} {L : Nat → Zt} {m : dM} {s : Nat} {x1 x2 x3 : Int32}
theorem clm_s {e : Int32} {n : Nat} {T : Zt} : clm H e (n + 1) T = if (wgo H T (sgA H e (szH T))).toInt = 0 then clm H e n (wsz H T (sgA H e (szH T))) else false := rfl
theorem yrS_s {n k : Nat} : yrS H S n (k + 1) = yrS H S n k + bi (clm H (hoE H + Int32.ofInt (k : Int)) n S) := rfl
theorem ea_calm {n : Nat} {Q : Int32 → dM → Prop} {M : dM} (hq : QC H S P L m M) (hO : zOk H S) (h1 : x1.toInt = (n : Int)) (hn : n ≤ 72) (hQ : ∀ m' : dM, QC H S P L m m' → Q (bi (clm H x3 n S)) m') : c_X1_isCalm_61_47 6 x1 x3 M Q := by
  have hH := hq.2.1.1
  have loop : ∀ (t i : Nat) (x4 : Int32) (T : Zt) (M : dM), i + t = n → x4.toInt = (i : Int) → QC H S P L m M → CZ 62 M T → zOk H T → clm H x3 t T = clm H x3 n S → j_X1_isCalm_61_47_11 6 x1 x3 x4 M Q := by
    intro t
    induction t with
    | zero =>
      intro i x4 T M hi h4 qM zM hT e
      have e : true = clm H x3 n S := e
      rw [← e] at hQ
      exact v_X1_isCalm_61_47_11 ⟨fun _ => hQ M qM, fun q => by exfalso; omega⟩
    | succ t ih =>
      intro i x4 T M hi h4 qM zM hT e
      rw [clm_s] at e
      refine v_X1_isCalm_61_47_11 ⟨fun q => by exfalso; omega, fun _ => ?_⟩
      rw [zM.1.1]
      refine Wp.deep (y_surgeOf qM.2.1.2.1 (y_passWires62 qM.2.1 zM (hT.g1 hH) (fun M2 f2 w2 z2 _ => ⟨fun z => ?_, fun nz => ?_⟩))) (Nat.le_of_ble_eq_true rfl)
      · have z : (wgo H T (sgA H x3 (szH T))).toInt = 0 := z
        rw [if_pos z] at e
        exact ih (i + 1) _ _ M2 (by omega) (d_inc h4 (by omega)) (qM.t62 f2 w2) z2 (hT.w hH _) e
      · have nz : (wgo H T (sgA H x3 (szH T))).toInt ≠ 0 := nz
        rw [if_neg nz] at e
        rw [← e] at hQ
        exact hQ M2 (qM.t62 f2 w2)
  exact v_X1_isCalm_61_47 (Wp.deep (y_copy62 hq (fun M1 q1 z1 => loop n 0 _ S M1 (by omega) (by decide) q1 z1 hO rfl)) (Nat.le_of_ble_eq_true rfl))
theorem ea_year {Q : Int32 → dM → Prop} (hK : KC H S P L m) (hO : zOk H S) (hQ : ∀ m' : dM, QC H S P L m m' → Q (aYr H S x1 x2) m') : c_X11_year_0 8 x1 x2 m Q := by
  have q0 := QC.rf hK
  have hQ' : ∀ (v : Int32) (m' : dM), aYr H S x1 x2 = v → QC H S P L m m' → Q v m' := fun v m' e q => by rw [← e]; exact hQ m' q
  have no : ¬ ((0 ≤ x1.toInt ∧ x1.toInt ≤ 72) ∧ 1 ≤ x2.toInt ∧ x2.toInt ≤ 20) → j_X11_year_0_21 8 m Q := fun q => v_X11_year_0_21 (hQ' _ m (by unfold aYr; rw [if_neg q]) q0)
  refine v_X11_year_0 ⟨fun q => no (by omega), fun p1 => ⟨fun q => no (by omega), fun p2 => ⟨fun q => no (by omega), fun p3 => ⟨fun p4 => ?_, fun q => no (by omega)⟩⟩⟩⟩
  have h1 := toNat_of p1
  have h2 := toNat_of (x := x2) (by omega)
  have eA : aYr H S x1 x2 = yrS H S x1.toNatClampNeg x2.toNatClampNeg := by unfold aYr; rw [if_pos ⟨⟨p1, p2⟩, p3, p4⟩]
  have loop : ∀ (t k : Nat) (x5 : Int32) (M : dM), k + t = x2.toNatClampNeg → x5.toInt = (k : Int) → QC H S P L m M → j_X1_calmSeeds_61_47_6 7 x1 x2 (yrS H S x1.toNatClampNeg k) x5 M Q := by
    intro t
    induction t with
    | zero =>
      intro k x5 M hk h5 qM
      have ek : k = x2.toNatClampNeg := by omega
      rw [ek]
      exact v_X1_calmSeeds_61_47_6 ⟨fun _ => hQ' _ M eA qM, fun q => by exfalso; omega⟩
    | succ t ih =>
      intro k x5 M hk h5 qM
      have n := ih (k + 1)
      rw [yrS_s, ofI h5] at n
      have e26 : M.1 2 6 = hoE H := qM.2.1.2.1.2.2.2.2.2.1.2.2.2
      refine v_X1_calmSeeds_61_47_6 ⟨fun q => by exfalso; omega, fun _ => ?_⟩
      rw [e26]
      refine ea_calm qM hO h1 (by omega) (fun M1 q1 => ⟨fun z => ?_, fun nz => ?_⟩)
      · rw [bi_eq0 z] at n
        exact n _ M1 (by omega) (d_inc h5 (by omega)) q1
      · rw [bi_ne0 nz] at n
        exact n _ M1 (by omega) (d_inc h5 (by omega)) q1
  exact v_X1_calmSeeds_61_47 (loop x2.toNatClampNeg 0 _ m (by omega) (by decide) q0)
theorem e_hourS {Q : dM → Prop} {M : dM} {T T0 : Zt} {e : Int32} (hC : CY H T s M) (hO : zOk H T) (hF : RsF m M) (h56 : M.1 70 56 = e) (h57 : M.1 70 57 = 0) (hw : Wl T0 T) (hQ : ∀ (T' : Zt) (m' : dM), RsF m m' → CY H T' s m' → zOk H T' → m'.1 70 56 = e → m'.1 70 57 = 0 → Wl (wsz H T0 (sgA H e (szH T0))) T' → m'.1 70 60 = wgo H T0 (sgA H e (szH T0)) → Q m') : c_X12_hourGoes_70 6 M Q :=
  y_hourGoes hC.1 hC.2.1 hC.2.2 hO (fun M1 f1 W1 g1 Z1 L1 => by
    have e0 : mor H T M = sgA H e (szH T0) := by
      unfold mor
      rw [h57, h56, decide_eq_false (fun q => q ti_0), cond_false, hw.1]
    rw [e0] at g1 Z1 L1
    exact hQ _ M1 (hF.tr f1.rs) ⟨W1, Z1, L1⟩ (zOk.hh hC.1.1 hO _) (by rw [f1.2.1 56 (by decide) (by decide)]; exact h56) (by rw [f1.2.1 57 (by decide) (by decide)]; exact h57) hw.p.w (g1.trans (hw.go (H := H)).symm))
theorem eb_year {Q : Int32 → dM → Prop} (hK : KR H S P L s m) (hO : zOk H S) (hQ : ∀ m' : dM, RsF m m' → Q (aYr H S x1 x2) m') : c_X12_year_70 7 x1 x2 m Q := by
  have hQ' : ∀ (v : Int32) (m' : dM), aYr H S x1 x2 = v → RsF m m' → Q v m' := fun v m' e q => by rw [← e]; exact hQ m' q
  have e1 := ti_1
  have e20 := ti_20
  have e0 := ti_0
  have no : ¬ ((0 ≤ x1.toInt ∧ x1.toInt ≤ 72) ∧ 1 ≤ x2.toInt ∧ x2.toInt ≤ 20) → j_X12_year_70_17 7 m Q := fun q => v_X12_year_70_17 (hQ' _ m (by unfold aYr; rw [if_neg q]) (RsF.rf m))
  refine v_X12_year_70 (Wp.deep (y_isLong (fun h => ⟨fun z => absurd z (by decide), fun _ => Wp.deep (y_in (fun h2 => ⟨fun _ => ?_, fun z => absurd z (by decide)⟩) (fun q => ⟨fun z => absurd rfl z, fun _ => no (by omega)⟩)) (Nat.le_of_ble_eq_true rfl)⟩) (fun q => ⟨fun _ => no (by omega), fun z => absurd rfl z⟩)) (Nat.le_of_ble_eq_true rfl))
  have h1 := toNat_of h.1
  have hx2 := toNat_of (x := x2) (by omega)
  have eA : aYr H S x1 x2 = yrS H S x1.toNatClampNeg x2.toNatClampNeg := by unfold aYr; rw [if_pos (by omega)]
  have l24 : ∀ (t k : Nat) (x4 : Int32) (M : dM), k + t = x2.toNatClampNeg → x4.toInt = (k : Int) → RsF m M → j_X12_year_70_24 7 x1 x2 (yrS H S x1.toNatClampNeg k) x4 M Q := by
    intro t
    induction t with
    | zero =>
      intro k x4 M hk h4 fM
      have ek : k = x2.toNatClampNeg := by omega
      rw [ek]
      exact v_X12_year_70_24 ⟨fun _ => hQ' _ M eA fM, fun q => by exfalso; omega⟩
    | succ t ih =>
      intro k x4 M hk h4 fM
      have hKM := hK.rs fM
      have n := ih (k + 1)
      rw [yrS_s, ofI h4] at n
      have l85 : ∀ (y : Int32) (M1 : dM), y = yrS H S x1.toNatClampNeg k + bi (clm H (hoE H + x4) x1.toNatClampNeg S) → RsF m M1 → j_X12_year_70_85 7 x1 x2 y x4 M1 Q := fun y M1 e f1 => by
        rw [e]
        exact v_X12_year_70_85 (n _ M1 (by omega) (d_inc h4 (by omega)) f1)
      have lz : clm H (hoE H + x4) x1.toNatClampNeg S = false → ∀ (t2 i : Nat) (x6 : Int32) (T : Zt) (M2 : dM), i + t2 = x1.toNatClampNeg → x6.toInt = (i : Int) → RsF m M2 → CY H T s M2 → zOk H T → j_X12_year_70_51 7 x1 x2 (yrS H S x1.toNatClampNeg k) x4 0 x6 M2 Q := by
        intro ef t2
        induction t2 with
        | zero =>
          intro i x6 T M2 hi h6 f2 c2 hT
          exact v_X12_year_70_51 ⟨fun _ => ⟨fun _ => l85 _ M2 (by rw [ef]; exact (Int32.add_zero _).symm) f2, fun z => absurd e0 z⟩, fun q => by exfalso; omega⟩
        | succ t2 ih2 =>
          intro i x6 T M2 hi h6 f2 c2 hT
          exact v_X12_year_70_51 ⟨fun q => by exfalso; omega, fun _ => r_hour c2 hT f2 (fun T' M3 f3 c3 h3 => ⟨fun _ => v_X12_year_70_71 (ih2 (i + 1) _ T' M3 (by omega) (d_inc h6 (by omega)) f3 c3 h3), fun _ => v_X12_year_70_71 (ih2 (i + 1) _ T' M3 (by omega) (d_inc h6 (by omega)) f3 c3 h3)⟩)⟩
      have l51 : ∀ (t2 i : Nat) (x6 : Int32) (T T0 : Zt) (M2 : dM), i + t2 = x1.toNatClampNeg → x6.toInt = (i : Int) → RsF m M2 → CY H T s M2 → zOk H T → M2.1 70 56 = hoE H + x4 → M2.1 70 57 = 0 → Wl T0 T → clm H (hoE H + x4) t2 T0 = clm H (hoE H + x4) x1.toNatClampNeg S → j_X12_year_70_51 7 x1 x2 (yrS H S x1.toNatClampNeg k) x4 1 x6 M2 Q := by
        intro t2
        induction t2 with
        | zero =>
          intro i x6 T T0 M2 hi h6 f2 c2 hT a6 a7 hw e
          have e : true = clm H (hoE H + x4) x1.toNatClampNeg S := e
          exact v_X12_year_70_51 ⟨fun _ => ⟨fun z => absurd z (by decide), fun _ => l85 _ M2 (by rw [← e]; rfl) f2⟩, fun q => by exfalso; omega⟩
        | succ t2 ih2 =>
          intro i x6 T T0 M2 hi h6 f2 c2 hT a6 a7 hw e
          rw [clm_s] at e
          refine v_X12_year_70_51 ⟨fun q => by exfalso; omega, fun _ => e_hourS c2 hT f2 a6 a7 hw (fun T' M3 f3 c3 h3 b6 b7 w3 g3 => ?_)⟩
          rw [g3]
          refine ⟨fun z => v_X12_year_70_71 ?_, fun nz => v_X12_year_70_71 ?_⟩
          · rw [if_pos z] at e
            exact ih2 (i + 1) _ T' _ M3 (by omega) (d_inc h6 (by omega)) f3 c3 h3 b6 b7 w3 e
          · rw [if_neg nz] at e
            exact lz e.symm t2 (i + 1) _ T' M3 (by omega) (d_inc h6 (by omega)) f3 c3 h3
      refine v_X12_year_70_24 ⟨fun q => by exfalso; omega, fun _ => y_copies hKM.1 hKM.2.1 (fun M1 f1 cy a6 a7 => ?_)⟩
      rw [a6]
      exact l51 x1.toNatClampNeg 0 _ S S _ (by omega) (by decide) ((fM.tr f1).s70 (by decide)) ⟨cy.1.rs ((RsF.rf M1).s70 (by decide)), cy.2.1.of (dSet_k (by decide)), cy.2.2.of (dSet_k (by decide)) (dSet_k (by decide))⟩ hO (dSet_s _ _ _ _) (by rw [dSet_j (by decide)]; exact a7) (Wl.rf S) rfl
  exact l24 x2.toNatClampNeg 0 _ m (by omega) (by decide) (RsF.rf m)
/-- the uses of flats that are lit -/
def ulB (H : Ho) (S : Zt) : Int32 := bs (fun u => lt H (szG S) (hoH H u)) (hoU H)
/-- the best of the first so many sets, and what it pays -/
def tgB (H : Ho) (S : Zt) : Nat → Int32 × Int32
  | 0 => (0, 0)
  | j + 1 => if (Int32.ofInt ((j + 1 : Nat) : Int) &&& (ulB H S ^^^ (-1 : Int32))).toInt = 0 ∧ (tgB H S j).2.toInt < (pyS H S (Int32.ofInt ((j + 1 : Nat) : Int)) (hoU H)).toInt ∧ (gng H S (Int32.ofInt ((j + 1 : Nat) : Int)) (hod (szH S)) 0).toInt = 0 then (Int32.ofInt ((j + 1 : Nat) : Int), pyS H S (Int32.ofInt ((j + 1 : Nat) : Int)) (hoU H)) else tgB H S j
def tgN (H : Ho) : Nat := (b1 (hoU H)).toNatClampNeg - 1
def aTg (H : Ho) (S : Zt) (x1 : Int32) : Int32 := if 0 ≤ x1.toInt ∧ x1.toInt ≤ 1 then (if x1.toInt = 0 then (tgB H S (tgN H)).2 else (tgB H S (tgN H)).1) else -1
theorem tgB_s {j : Nat} : tgB H S (j + 1) = if (Int32.ofInt ((j + 1 : Nat) : Int) &&& (ulB H S ^^^ (-1 : Int32))).toInt = 0 ∧ (tgB H S j).2.toInt < (pyS H S (Int32.ofInt ((j + 1 : Nat) : Int)) (hoU H)).toInt ∧ (gng H S (Int32.ofInt ((j + 1 : Nat) : Int)) (hod (szH S)) 0).toInt = 0 then (Int32.ofInt ((j + 1 : Nat) : Int), pyS H S (Int32.ofInt ((j + 1 : Nat) : Int)) (hoU H)) else tgB H S j := rfl
theorem pyS_0 : ∀ n : Nat, pyS H S 0 n = 0
  | 0 => rfl
  | n + 1 => by
    rw [show pyS H S 0 (n + 1) = cond (bt 0 n) (pyS H S 0 n + pyu H S n) (pyS H S 0 n) from rfl, bt_0, cond_false]
    exact pyS_0 n
theorem tgB_p : ∀ j : Nat, pyS H S (tgB H S j).1 (hoU H) = (tgB H S j).2
  | 0 => pyS_0 _
  | j + 1 => by
    rw [tgB_s]
    split
    · rfl
    · exact tgB_p j
theorem ea_payAll {Q : Int32 → dM → Prop} {M : dM} (hW : CW H M) (h66 : ∀ u : Nat, u < hoU H → M.1 66 u = pyu H S u) (hQ : Q (pyS H S x1 (hoU H)) M) : c_X1_payOfAll_61 2 x1 M Q := by
  have u8 := hW.1.2.2.1
  have e22 := hW.2.1.2.1
  have loop : ∀ (t u : Nat) (x3 : Int32), u + t = hoU H → x3.toInt = (u : Int) → j_X1_payOfAll_61_4 2 x1 (pyS H S x1 u) x3 M Q := by
    intro t
    induction t with
    | zero =>
      intro u x3 hu h3
      rw [show u = hoU H by omega]
      exact v_X1_payOfAll_61_4 ⟨fun _ => hQ, fun q => by exfalso; omega⟩
    | succ t ih =>
      intro u x3 hu h3
      have n := ih (u + 1) _ (by omega) (d_inc h3 (by omega))
      rw [show pyS H S x1 (u + 1) = cond (bt x1 u) (pyS H S x1 u + pyu H S u) (pyS H S x1 u) from rfl] at n
      refine v_X1_payOfAll_61_4 ⟨fun q => by exfalso; omega, fun _ => y_has h3 (by omega) (fun b => ⟨fun z => absurd z (by decide), fun _ => ⟨by omega, ?_⟩⟩) (fun b => ⟨fun _ => ?_, fun z => absurd rfl z⟩)⟩
      · rw [b, cond_true] at n
        rw [d_cn h3, h66 u (by omega)]
        exact n
      · rw [b, cond_false] at n
        rw [Int32.add_zero]
        exact n
  exact v_X1_payOfAll_61 (loop (hoU H) 0 _ (by omega) (by decide))
theorem ea_goingWith {on : Int32} {Q : Int32 → dM → Prop} {M : dM} (hq : QC H S P L m M) (hO : zOk H S) (hQ : ∀ m' : dM, QC H S P L m m' → m'.1 66 = M.1 66 → Q (gng H S on (hod (szH S)) 0) m') : c_X0_goingWith_54_47 5 on M Q := by
  refine v_X0_goingWith_54_47 (Wp.deep (y_putOn47 hq.2.1 hq.2.2.1 (hO.g1 hq.2.1.1) (fun M2 f2 w2 l2 d2 => v_X7_hourOfDay_47 ?_)) (Nat.le_of_ble_eq_true rfl))
  have q2 := hq.sc f2 w2
  rw [q2.2.2.1.1.1]
  exact y_going47 w2 q2.2.2.1 d2 (fun M3 f3 => hQ M3 (q2.va f3) ((f3.1 66 (by decide) (by decide) (by decide)).trans (f2.1 66 (by decide) (by decide) (by decide))))
theorem ea_together {Q : Int32 → dM → Prop} (hK : KC H S P L m) (hO : zOk H S) (hQ : ∀ m' : dM, QC H S P L m m' → Q (aTg H S x1) m') : c_X11_together_0 7 x1 m Q := by
  have q0 := QC.rf hK
  have f7 := hK.1.1.1
  have u8 := hK.1.1.2.2.1
  have hQ' : ∀ (v : Int32) (m' : dM), aTg H S x1 = v → QC H S P L m m' → Q v m' := fun v m' e q => by rw [← e]; exact hQ m' q
  have no : ¬ (0 ≤ x1.toInt ∧ x1.toInt ≤ 1) → j_X11_together_0_9 7 m Q := fun q => v_X11_together_0_9 (hQ' _ m (by unfold aTg; rw [if_neg q]) q0)
  refine v_X11_together_0 ⟨fun q => no (by omega), fun h0 => ⟨fun h1 => ?_, fun q => no (by omega)⟩⟩
  have eA : aTg H S x1 = (if x1.toInt = 0 then (tgB H S (tgN H)).2 else (tgB H S (tgN H)).1) := by unfold aTg; rw [if_pos ⟨h0, h1⟩]
  have b := b1_le (u := hoU H) (by omega)
  have bn := toNat_of (x := b1 (hoU H)) (by omega)
  have eN : tgN H + 1 = (b1 (hoU H)).toNatClampNeg := by unfold tgN; omega
  have fin : ∀ (M : dM), QC H S P L m M → (∀ u : Nat, u < hoU H → M.1 66 u = pyu H S u) → (x1.toInt ≠ 0 → Q (tgB H S (tgN H)).1 M) ∧ (x1.toInt = 0 → c_X1_payOfAll_61 6 (tgB H S (tgN H)).1 M (fun r2 m2 => Q r2 m2)) := fun M qM h66 => ⟨fun n => hQ' _ M (by rw [eA, if_neg n]) qM, fun z => Wp.deep (ea_payAll qM.2.1 h66 (hQ' _ M (by rw [eA, if_pos z, tgB_p]) qM)) (Nat.le_of_ble_eq_true rfl)⟩
  have l89 : ∀ (t j : Nat) (x6 : Int32) (M : dM), j + t = tgN H → x6.toInt = ((j + 1 : Nat) : Int) → QC H S P L m M → (∀ u : Nat, u < hoU H → M.1 66 u = pyu H S u) → j_X1_bestTogether_61_47_89 6 (ulB H S) (tgB H S j).1 (tgB H S j).2 x6 M (fun r1 m1 => (x1.toInt ≠ 0 → Q r1 m1) ∧ (x1.toInt = 0 → c_X1_payOfAll_61 6 r1 m1 (fun r2 m2 => Q r2 m2))) := by
    intro t
    induction t with
    | zero =>
      intro j x6 M hj h6 qM h66
      have ej : j = tgN H := by omega
      refine v_X1_bestTogether_61_47_89 ?_
      rw [b1_of qM.2.1.2.1.2.1, ej]
      exact ⟨fun _ => fin M qM h66, fun q => by exfalso; omega⟩
    | succ t ih =>
      intro j x6 M hj h6 qM h66
      have n := ih (j + 1)
      rw [tgB_s, ofI h6] at n
      refine v_X1_bestTogether_61_47_89 ?_
      rw [b1_of qM.2.1.2.1.2.1]
      refine ⟨fun q => by exfalso; omega, fun q => ⟨fun ns => v_X1_bestTogether_61_47_148 ?_, fun es => Wp.deep (ea_payAll qM.2.1 h66 ⟨fun le => v_X1_bestTogether_61_47_148 ?_, fun l => ea_goingWith qM hO (fun M2 q2 e66 => ⟨fun gn => v_X1_bestTogether_61_47_148 ?_, fun ge => Wp.deep (ea_payAll (S := S) q2.2.1 (fun u hu => by rw [e66]; exact h66 u hu) (v_X1_bestTogether_61_47_148 ?_)) (Nat.le_of_ble_eq_true rfl)⟩)⟩) (Nat.le_of_ble_eq_true rfl)⟩⟩
      · rw [if_neg (fun w => ns w.1)] at n
        exact n _ M (by omega) (d_inc h6 (by omega)) qM h66
      · rw [if_neg (fun w => by have := w.2.1; omega)] at n
        exact n _ M (by omega) (d_inc h6 (by omega)) qM h66
      · rw [if_neg (fun w => gn w.2.2)] at n
        exact n _ M2 (by omega) (d_inc h6 (by omega)) q2 (fun u hu => by rw [e66]; exact h66 u hu)
      · rw [if_pos ⟨es, l, ge⟩] at n
        exact n _ M2 (by omega) (d_inc h6 (by omega)) q2 (fun u hu => by rw [e66]; exact h66 u hu)
  refine v_X1_bestTogether_61_47 (Wp.deep (k_ways q0 hO (fun M q1 l1 => ?_)) (Nat.le_of_ble_eq_true rfl))
  have l17 : ∀ (t u : Nat) (x4 : Int32) (M' : dM), u + t = hoU H → x4.toInt = (u : Int) → QC H S P L m M' → (∀ v : Nat, v < u → M'.1 66 v = pyu H S v) → j_X1_bestTogether_61_47_17 6 (M.1 57 5) (bs (fun u => lt H (szG S) (hoH H u)) u) x4 M' (fun r1 m1 => (x1.toInt ≠ 0 → Q r1 m1) ∧ (x1.toInt = 0 → c_X1_payOfAll_61 6 r1 m1 (fun r2 m2 => Q r2 m2))) := by
    intro t
    induction t with
    | zero =>
      intro u x4 M' hu h4 qM h66
      have e22 := qM.2.1.2.1.2.1
      have eu : u = hoU H := by omega
      rw [eu] at h66 ⊢
      exact v_X1_bestTogether_61_47_17 ⟨fun _ => l89 (tgN H) 0 _ M' (by omega) (by decide) qM h66, fun q => by exfalso; omega⟩
    | succ t ih =>
      intro u x4 M' hu h4 qM h66
      have e22 := qM.2.1.2.1.2.1
      have ho := (hK.1.1.2.2.2.2.1 u (by omega)).1
      have lb := lt_bits l1 ho (by omega)
      have n := ih (u + 1)
      rw [show bs (fun u => lt H (szG S) (hoH H u)) (u + 1) = cond (lt H (szG S) (hoH H u)) (bs (fun u => lt H (szG S) (hoH H u)) u ||| b1 u) (bs (fun u => lt H (szG S) (hoH H u)) u) from rfl, ← lb] at n
      refine v_X1_bestTogether_61_47_17 ⟨fun q => by exfalso; omega, fun _ => Wp.deep (y_pay47 qM.2.1 qM.2.2.1 h4 (by omega) (fun M2 f2 => ⟨by omega, by omega, ?_⟩)) (Nat.le_of_ble_eq_true rfl)⟩
      have q2 : QC H S P L m (dSet M2 66 u (pyu H S u)) := (qM.va f2).s61 (Or.inr rfl)
      have h2 : ∀ v : Nat, v < u + 1 → (dSet M2 66 u (pyu H S u)).1 66 v = pyu H S v := fun v hv => by
        by_cases q : v = u
        · rw [q, dSet_s]
        · rw [dSet_j q, f2.1 66 (by decide) (by decide) (by decide)]; exact h66 v (by omega)
      have hh := ((qM.va f2).2.1.2.1.2.2.2.2.1 u (by omega)).1
      rw [d_cn h4, b1_of h4]
      refine Wp.deep (y_has hh (by omega) (fun g => ⟨fun z => absurd z (by decide), fun _ => ?_⟩) (fun g => ⟨fun _ => ?_, fun z => absurd rfl z⟩)) (Nat.le_of_ble_eq_true rfl)
      · rw [g, cond_true] at n
        exact n _ _ (by omega) (d_inc h4 (by omega)) q2 h2
      · rw [g, cond_false] at n
        rw [Int32.or_zero]
        exact n _ _ (by omega) (d_inc h4 (by omega)) q2 h2
  exact l17 (hoU H) 0 _ M (by omega) (by decide) q1 (fun v hv => absurd hv (Nat.not_lt_zero v))
theorem eb_together {Q : Int32 → dM → Prop} (hK : KR H S P L s m) (hQ : ∀ m' : dM, RsF m m' → Q (aTg H S x1) m') : c_X12_together_70 7 x1 m Q := by
  have u8 := hK.1.1.2.2.1
  have hQ' : ∀ (v : Int32) (m' : dM), aTg H S x1 = v → RsF m m' → Q v m' := fun v m' e q => by rw [← e]; exact hQ m' q
  have e0 := ti_0
  have e1 := ti_1
  refine v_X12_together_70 (Wp.deep (y_in (fun h => ⟨fun _ => y_copies hK.1 hK.2.1 (fun M f cy _ _ => Wp.deep (y_usesLit cy ?_) (Nat.le_of_ble_eq_true rfl)), fun z => absurd z (by decide)⟩) (fun q => ⟨fun z => absurd rfl z, fun _ => hQ' _ m (by unfold aTg; rw [if_neg (by omega)]) (RsF.rf m)⟩)) (Nat.le_of_ble_eq_true rfl))
  have eA : aTg H S x1 = (if x1.toInt = 0 then (tgB H S (tgN H)).2 else (tgB H S (tgN H)).1) := by unfold aTg; rw [if_pos (by omega)]
  have b := b1_le (u := hoU H) (by omega)
  have bn := toNat_of (x := b1 (hoU H)) (by omega)
  have eN : tgN H + 1 = (b1 (hoU H)).toNatClampNeg := by unfold tgN; omega
  have loop : ∀ (t j : Nat) (x5 : Int32) (M : dM), j + t = tgN H → x5.toInt = ((j + 1 : Nat) : Int) → RsF m M → CY H S s M → j_X12_together_70_28 7 x1 (ulB H S) (tgB H S j).1 (tgB H S j).2 x5 M Q := by
    intro t
    induction t with
    | zero =>
      intro j x5 M hj h5 fM cM
      have a := cM.1.2.1.1
      have ej : j = tgN H := by omega
      refine v_X12_together_70_28 ?_
      rw [d_cn a.1, b1_of cM.1.2.2.1, ej]
      exact ⟨by omega, fun _ => ⟨fun n => hQ' _ M (by rw [eA, if_neg n]) fM, fun z => hQ' _ M (by rw [eA, if_pos z]) fM⟩, fun q => by exfalso; omega⟩
    | succ t ih =>
      intro j x5 M hj h5 fM cM
      have a := cM.1.2.1.1
      have n := ih (j + 1)
      rw [tgB_s, ofI h5] at n
      refine v_X12_together_70_28 ?_
      rw [d_cn a.1, b1_of cM.1.2.2.1]
      refine ⟨by omega, fun q => by exfalso; omega, fun q => ⟨fun es => Wp.deep (y_paysAll cM.1 cM.2.1 (fun M1 f1 => ?_)) (Nat.le_of_ble_eq_true rfl), fun ns => v_X12_together_70_101 ?_⟩⟩
      · have c1 := cM.xa f1
        have eh : (M1.1 108 55) - (M1.1 108 55) / (24 : Int32) * (24 : Int32) = hod (szH S) := by rw [c1.2.1.1.1]; rfl
        rw [eh]
        refine ⟨fun le => v_X12_together_70_101 ?_, fun l => Wp.deep (y_goingBits c1.1 c1.2.1 c1.2.2 (fun M2 f2 => ⟨fun ge => v_X12_together_70_101 ?_, fun gn => v_X12_together_70_101 ?_⟩)) (Nat.le_of_ble_eq_true rfl)⟩
        · rw [if_neg (fun w => by have := w.2.1; omega)] at n
          exact n _ M1 (by omega) (d_inc h5 (by omega)) (fM.tr f1.rs) c1
        · rw [if_pos ⟨es, l, ge⟩] at n
          exact n _ M2 (by omega) (d_inc h5 (by omega)) ((fM.tr f1.rs).tr f2.rs) (c1.xa f2)
        · rw [if_neg (fun w => gn w.2.2)] at n
          exact n _ M2 (by omega) (d_inc h5 (by omega)) ((fM.tr f1.rs).tr f2.rs) (c1.xa f2)
      · rw [if_neg (fun w => ns w.1)] at n
        exact n _ M (by omega) (d_inc h5 (by omega)) fM cM
  exact loop (tgN H) 0 _ M (by omega) (by decide) f cy
end QYR
end
section
/-! QUESTIONS, exactly: when -/
/-- no wire goes in that hour with this use on too -/
def wok (H : Ho) (S : Zt) (u h : Nat) : Bool := decide ((gng H S (onA H S (Int32.ofInt (h : Int)) ||| b1 u) (Int32.ofInt (h : Int)) 0).toInt = 0)
def alr (p : Nat → Bool) : Nat → Nat → Bool
  | 0, _ => true
  | n + 1, h => p h && alr p n (h + 1)
def wnS (p : Nat → Bool) (l : Nat) : Nat → Nat → Int32
  | 0, _ => -2
  | t + 1, h => cond (alr p l h) (Int32.ofInt (h : Int)) (wnS p l t (h + 1))
theorem alr_iff {p : Nat → Bool} : ∀ (n h : Nat), alr p n h = true ↔ ∀ i : Nat, i < n → p (h + i) = true
  | 0, _ => ⟨fun _ i hi => absurd hi (Nat.not_lt_zero i), fun _ => rfl⟩
  | n + 1, h => by
    rw [show alr p (n + 1) h = (p h && alr p n (h + 1)) from rfl, Bool.and_eq_true, alr_iff n (h + 1)]
    constructor
    · intro q i hi
      cases i with
      | zero => exact q.1
      | succ i =>
        have := q.2 i (by omega)
        rw [show h + 1 + i = h + (i + 1) by omega] at this
        exact this
    · intro q
      refine ⟨q 0 (by omega), fun i hi => ?_⟩
      have := q (i + 1) (by omega)
      rw [show h + (i + 1) = h + 1 + i by omega] at this
      exact this
theorem alr_f {p : Nat → Bool} {n h j : Nat} (h1 : h ≤ j) (h2 : j < h + n) (hp : p j = false) : alr p n h = false := by
  cases e : alr p n h with
  | false => rfl
  | true =>
    have := (alr_iff n h).mp e (j - h) (by omega)
    rw [show h + (j - h) = j by omega, hp] at this
    cases this
theorem wnS_s {p : Nat → Bool} {l t h : Nat} : wnS p l (t + 1) h = cond (alr p l h) (Int32.ofInt (h : Int)) (wnS p l t (h + 1)) := rfl
theorem wnS_skip {p : Nat → Bool} {l N a : Nat} (h : alr p l a = false) : wnS p l (N - a) a = wnS p l (N - (a + 1)) (a + 1) := by
  by_cases q : a < N
  · have e : N - a = (N - (a + 1)) + 1 := by omega
    rw [e, wnS_s, h, cond_false]
  · have e1 : N - a = 0 := by omega
    have e2 : N - (a + 1) = 0 := by omega
    rw [e1, e2]
    rfl
theorem wnS_skips {p : Nat → Bool} {l N a : Nat} : ∀ k : Nat, (∀ j : Nat, a ≤ j → j < a + k → alr p l j = false) → wnS p l (N - a) a = wnS p l (N - (a + k)) (a + k)
  | 0, _ => rfl
  | k + 1, h => (wnS_skips k (fun j j1 j2 => h j j1 (by omega))).trans (wnS_skip (h (a + k) (by omega) (by omega)))
theorem wnS_hit {p : Nat → Bool} {l N a : Nat} (h : alr p l a = true) (hN : a < N) : wnS p l (N - a) a = Int32.ofInt (a : Int) := by
  have e : N - a = (N - (a + 1)) + 1 := by omega
  rw [e, wnS_s, h, cond_true]
section QWN
variable {H : Ho} {S : Zt} {P : List Zt} {L : Nat → Zt} {m : dM} {s : Nat} {x1 : Int32}
theorem gon1 {a b : Int32} : (a &&& (b ^^^ (-1 : Int32))) ||| b = a ||| b := bt_ext (fun i hi => by
  simp only [bt_or, bt_and, bt_xor, bt_m1 hi]
  cases bt a i <;> cases bt b i <;> rfl)
theorem lds_u {g a : Int32} {u w : Nat} (hu : u < 32) (h0 : wyV H g (hoH H u) = 0) : ∀ n : Nat, n ≤ 32 → lds H g (a ||| b1 u) w n = lds H g (a &&& (b1 u ^^^ (-1 : Int32))) w n
  | 0, _ => rfl
  | n + 1, hn => by
    rw [show lds H g (a ||| b1 u) w (n + 1) = lds H g (a ||| b1 u) w n + cond (bt (a ||| b1 u) n && bt (wyV H g (hoH H n)) w) (hoM H n) 0 from rfl, show lds H g (a &&& (b1 u ^^^ (-1 : Int32))) w (n + 1) = lds H g (a &&& (b1 u ^^^ (-1 : Int32))) w n + cond (bt (a &&& (b1 u ^^^ (-1 : Int32))) n && bt (wyV H g (hoH H n)) w) (hoM H n) 0 from rfl, lds_u hu h0 n (by omega)]
    by_cases q : n = u
    · rw [q, h0, bt_0, Bool.and_false, Bool.and_false]
    · rw [bt_off hu q, bt_or, bt_1 hu, decide_eq_false q, Bool.or_false]
theorem gon0 {a x y : Int32} {u : Nat} (hU : hoU H ≤ 8) (hu : u < 32) (h : lt H (szG S) (hoH H u) = false) : gng H S (a ||| b1 u) x y = gng H S (a &&& (b1 u ^^^ (-1 : Int32))) x y := by
  have h0 : wyV H (szG S) (hoH H u) = 0 := via_99 (by
    have := of_decide_eq_false h
    by_cases q : wyD H (szG S) (hoH H u) = 99
    · exact q
    · exact absurd q this)
  unfold gng
  refine bs_congr _ (fun w _ => ?_)
  have e : lod H (szG S) (a ||| b1 u) w = lod H (szG S) (a &&& (b1 u ^^^ (-1 : Int32))) w := lds_u hu h0 (hoU H) (by omega)
  unfold gop
  rw [e]
def whl (H : Ho) (u : Nat) : Nat := ((hoI H u).toInt - (hoO H u).toInt).toNat + 1
def aWn (H : Ho) (S : Zt) (x1 : Int32) : Int32 := if 0 ≤ x1.toInt ∧ x1.toInt < (hoU H : Int) then wnS (wok H S x1.toNatClampNeg) (whl H x1.toNatClampNeg) (25 - whl H x1.toNatClampNeg) 0 else -1
theorem ea_when {Q : Int32 → dM → Prop} (hK : KC H S P L m) (hO : zOk H S) (hB : ∀ u : Nat, u < hoU H → 0 ≤ (hoO H u).toInt ∧ (hoO H u).toInt ≤ (hoI H u).toInt ∧ (hoI H u).toInt ≤ 23) (hQ : ∀ m' : dM, QC H S P L m m' → Q (aWn H S x1) m') : c_X11_when_0 6 x1 m Q := by
  have q0 := QC.rf hK
  have u8 := hK.1.1.2.2.1
  have hQ' : ∀ (v : Int32) (m' : dM), aWn H S x1 = v → QC H S P L m m' → Q v m' := fun v m' e q => by rw [← e]; exact hQ m' q
  refine v_X11_when_0 (Wp.deep (y_isUsec hK.1 (fun hu => ⟨fun z => absurd z (by decide), fun _ => ?_⟩) (fun hu => ⟨fun _ => hQ' _ m (by unfold aWn; rw [if_neg hu]) q0, fun z => absurd rfl z⟩)) (Nat.le_of_ble_eq_true rfl))
  have hx := toNat_of hu.1
  have eA : aWn H S x1 = wnS (wok H S x1.toNatClampNeg) (whl H x1.toNatClampNeg) (25 - whl H x1.toNatClampNeg) 0 := by unfold aWn; rw [if_pos hu]
  generalize eu : x1.toNatClampNeg = u at hx eA
  have b := hB u (by omega)
  have el : ((whl H u : Nat) : Int) = (hoI H u).toInt - (hoO H u).toInt + 1 := by unfold whl; omega
  generalize whl H u = l at el eA
  have fl := dSubE (X := (hoI H u).toInt) (Y := (hoO H u).toInt) (x := hoI H u) (y := hoO H u) rfl rfl (by omega) (by omega)
  have fl2 := dAddE (X := (hoI H u).toInt - (hoO H u).toInt) (Y := 1) (x := hoI H u - hoO H u) (y := (1 : Int32)) fl (by decide) (by omega) (by omega)
  have e9 := (hK.1.2.1.2.2.2.2.1 u (by omega)).2.2.1
  have e10 := (hK.1.2.1.2.2.2.2.1 u (by omega)).2.2.2
  have loop : ∀ (t h c : Nat) (x4 x5 : Int32) (M : dM), h + t = 24 → x5.toInt = (h : Int) → x4.toInt = (c : Int) → c < l → c ≤ h → (∀ i : Nat, h - c ≤ i → i < h → wok H S u i = true) → wnS (wok H S u) l (25 - l - 0) 0 = wnS (wok H S u) l (25 - l - (h - c)) (h - c) → QC H S P L m M → j_X1_firstStart_61_47_28 5 x1 ((hoI H u - hoO H u) + (1 : Int32)) x4 x5 M Q := by
    intro t
    induction t with
    | zero =>
      intro h c x4 x5 M hh h5 h4 cl ch ok e qM
      refine v_X1_firstStart_61_47_28 ⟨fun _ => hQ' _ M ?_ qM, fun q => by exfalso; omega⟩
      have e0 : 25 - l - (h - c) = 0 := by omega
      rw [e0] at e
      rw [eA]
      exact e
    | succ t ih =>
      intro h c x4 x5 M hh h5 h4 cl ch ok e qM
      have f4 := d_inc h4 (by omega)
      have ew : wok H S u h = decide ((gng H S (onA H S x5 ||| b1 u) x5 0).toInt = 0) := by unfold wok; rw [ofI h5]
      refine v_X1_firstStart_61_47_28 ⟨fun q => by exfalso; omega, fun _ => Wp.deep (y_usesAt47 qM.2.1 qM.2.2.1 (hO.g1 hK.1.1) (fun M1 f1 w1 l1 => ?_)) (Nat.le_of_ble_eq_true rfl)⟩
      have q1 := qM.sc f1.sf w1
      rw [b1_of hx]
      refine Wp.deep (y_putOn47 w1 q1.2.2.1 (hO.g1 hK.1.1) (fun M2 f2 w2 l2 d2 => ?_)) (Nat.le_of_ble_eq_true rfl)
      have q2 := q1.sc f2 w2
      refine y_going47 w2 q2.2.2.1 d2 (fun M3 f3 => ⟨fun ne => ⟨fun _ => ?_, fun q => by exfalso; omega⟩, fun eq => ⟨fun lt' => ?_, fun ge => hQ' _ M3 ?_ (q2.va f3)⟩⟩)
      · rw [decide_eq_false ne] at ew
        refine ih (h + 1) 0 _ _ M3 (by omega) (d_inc h5 (by omega)) (by decide) (by omega) (by omega) (fun i i1 i2 => by omega) ?_ (q2.va f3)
        have sk := wnS_skips (p := wok H S u) (l := l) (N := 25 - l) (a := h - c) (c + 1) (fun j j1 j2 => alr_f (j := h) (by omega) (by omega) ew)
        rw [show h - c + (c + 1) = h + 1 by omega] at sk
        exact e.trans sk
      · rw [decide_eq_true eq] at ew
        refine ih (h + 1) (c + 1) _ _ M3 (by omega) (d_inc h5 (by omega)) f4 (by omega) (by omega) (fun i i1 i2 => ?_) ?_ (q2.va f3)
        · by_cases q : i = h
          · rw [q]; exact ew
          · exact ok i (by omega) (by omega)
        · rw [show h + 1 - (c + 1) = h - c by omega]
          exact e
      · rw [decide_eq_true eq] at ew
        have ec : c + 1 = l := by omega
        have al : alr (wok H S u) l (h - c) = true := (alr_iff l (h - c)).mpr (fun i hi => by
          by_cases q : h - c + i = h
          · rw [q]; exact ew
          · exact ok _ (by omega) (by omega))
        have hit := wnS_hit (N := 25 - l) al (by omega)
        rw [eA]
        refine (e.trans hit).trans ?_
        have g1 := dSubE (X := (h : Int)) (Y := (hoI H u).toInt - (hoO H u).toInt + 1) (x := x5) (y := (hoI H u - hoO H u) + (1 : Int32)) h5 fl2 (by omega) (by omega)
        have g2 := dAddE (X := (h : Int) - ((hoI H u).toInt - (hoO H u).toInt + 1)) (Y := 1) (x := x5 - ((hoI H u - hoO H u) + (1 : Int32))) (y := (1 : Int32)) g1 (by decide) (by omega) (by omega)
        exact ofI (by omega)
  refine v_X1_firstStart_61_47 ⟨by omega, by omega, ?_⟩
  rw [eu, e9, e10]
  exact loop 24 0 0 _ _ m (by decide) (by decide) (by decide) (by omega) (by omega) (fun i i1 i2 => by omega) rfl q0
theorem eb_when {Q : Int32 → dM → Prop} (hK : KR H S P L s m) (hB : ∀ u : Nat, u < hoU H → 0 ≤ (hoO H u).toInt ∧ (hoO H u).toInt ≤ (hoI H u).toInt ∧ (hoI H u).toInt ≤ 23) (hQ : ∀ m' : dM, RsF m m' → Q (aWn H S x1) m') : c_X12_when_70 7 x1 m Q := by
  obtain ⟨o1, o2, o3, o4, o5, o6⟩ := hK.1.1
  have hQ' : ∀ (v : Int32) (m' : dM), aWn H S x1 = v → RsF m m' → Q v m' := fun v m' e q => by rw [← e]; exact hQ m' q
  refine v_X12_when_70 (Wp.deep (y_isUser hK.1 (fun hu => ⟨fun _ => ?_, fun z => absurd z (by decide)⟩) (fun hu => ⟨fun z => absurd rfl z, fun _ => hQ' _ m (by unfold aWn; rw [if_neg hu]) (RsF.rf m)⟩)) (Nat.le_of_ble_eq_true rfl))
  have hx := toNat_of hu.1
  have eA : aWn H S x1 = wnS (wok H S x1.toNatClampNeg) (whl H x1.toNatClampNeg) (25 - whl H x1.toNatClampNeg) 0 := by unfold aWn; rw [if_pos hu]
  generalize x1.toNatClampNeg = u at hx eA
  refine y_copies hK.1 hK.2.1 (fun M f cy _ _ => ?_)
  have b := hB u (by omega)
  have c1 := (o5 u (by omega)).1
  have el : ((whl H u : Nat) : Int) = (hoI H u).toInt - (hoO H u).toInt + 1 := by unfold whl; omega
  generalize whl H u = l at el eA
  have idx : ∀ M : dM, CY H S s M → (((8 : Int32) * (M.1 70 18)) + x1).toInt = ((8 * s + u : Nat) : Int) := fun M cM => y_idx (C := 8) (c := (8 : Int32)) (by decide) cM.1.2.1.1.1 cM.1.2.1.1.2 hx (by decide) (by omega)
  have s1 := hK.1.2.1.1.2
  have fl := dSubE (X := (hoI H u).toInt) (Y := (hoO H u).toInt) (x := hoI H u) (y := hoO H u) rfl rfl (by omega) (by omega)
  have e0 := idx M cy
  obtain ⟨d1, d2, d3, d4⟩ := cy.1.2.2.2.2.2.1 u (by omega)
  rw [d_cn e0, d3, d4]
  refine ⟨by omega, by omega, ?_⟩
  have can : ∀ (h : Nat) (x3 : Int32) (M : dM) (Q' : Int32 → dM → Prop), x3.toInt = (h : Int) → h + l ≤ 24 → RsF m M → CY H S s M → (∀ M1 : dM, RsF m M1 → CY H S s M1 → Q' (bi (alr (wok H S u) l h)) M1) → c_X12_canBegin_70 6 x1 x3 M Q' := fun h x3 M Q' h3 hl fM cM hq => by
    have e1 := idx M cM
    obtain ⟨g1, g2, g3, g4⟩ := cM.1.2.2.2.2.2.1 u (by omega)
    have fs := dAddE (X := (h : Int)) (Y := (hoI H u).toInt - (hoO H u).toInt) (x := x3) (y := hoI H u - hoO H u) h3 fl (by omega) (by omega)
    refine v_X12_canBegin_70 ?_
    rw [d_cn e1, g3, g4]
    refine ⟨by omega, by omega, ?_⟩
    have l33 : ∀ (t2 i : Nat) (x4 : Int32) (M1 : dM), i + t2 = l → x4.toInt = ((h + i : Nat) : Int) → (∀ j : Nat, j < i → wok H S u (h + j) = true) → RsF m M1 → CY H S s M1 → j_X12_canBegin_70_33 6 x1 x3 (hoI H u - hoO H u) x4 M1 Q' := by
      intro t2
      induction t2 with
      | zero =>
        intro i x4 M1 hi h4 ok f1 c1'
        have al : alr (wok H S u) l h = true := (alr_iff l h).mpr (fun j hj => ok j (by omega))
        rw [al] at hq
        exact v_X12_canBegin_70_33 ⟨fun _ => hq M1 f1 c1', fun q => by exfalso; omega⟩
      | succ t2 ih2 =>
        intro i x4 M1 hi h4 ok f1 c1'
        have ew : wok H S u (h + i) = decide ((gng H S (onA H S x4 ||| b1 u) x4 0).toInt = 0) := by unfold wok; rw [ofI h4]
        have on : ∀ y : Int32, gng H S y x4 0 = gng H S (onA H S x4 ||| b1 u) x4 0 → j_X12_canBegin_70_75 6 x1 x3 (hoI H u - hoO H u) x4 y M1 Q' := fun y ey => by
          refine v_X12_canBegin_70_75 (y_goingBits c1'.1 c1'.2.1 c1'.2.2 (fun M2 f2 => ?_))
          rw [ey]
          refine ⟨fun z => ?_, fun nz => ?_⟩
          · rw [decide_eq_true z] at ew
            have h4' : (x4 + 1).toInt = ((h + i + 1 : Nat) : Int) := d_inc h4 (by omega)
            refine ih2 (i + 1) _ M2 (by omega) h4' (fun j hj => ?_) (f1.tr f2.rs) (c1'.xa f2)
            by_cases q : j = i
            · rw [q]; exact ew
            · exact ok j (by omega)
          · rw [decide_eq_false nz] at ew
            have al : alr (wok H S u) l h = false := alr_f (j := h + i) (by omega) (by omega) ew
            rw [al] at hq
            exact hq M2 (f1.tr f2.rs) (c1'.xa f2)
        refine v_X12_canBegin_70_33 ⟨fun q => by exfalso; omega, fun _ => Wp.deep (y_onAt c1'.1 c1'.2.1 c1'.2.2 ?_) (Nat.le_of_ble_eq_true rfl)⟩
        rw [b1_of hx]
        exact Wp.deep (y_flatAt c1'.1 hx (by omega) (fun r hr => Wp.deep (y_isLit c1'.2.2 hr (by omega) (fun g => ⟨fun z => absurd z (by decide), fun _ => on _ (by rw [gon1])⟩) (fun g => ⟨fun _ => on _ (gon0 o3 (by omega) g).symm, fun z => absurd rfl z⟩)) (Nat.le_of_ble_eq_true rfl))) (Nat.le_of_ble_eq_true rfl)
    exact l33 l 0 _ M (by omega) (by rw [h3]; rfl) (fun j hj => absurd hj (Nat.not_lt_zero j)) fM cM
  have l46 : ∀ (t h : Nat) (x3 : Int32) (M : dM), h + t = 25 → x3.toInt = (h : Int) → RsF m M → CY H S s M → wnS (wok H S u) l (25 - l - 0) 0 = wnS (wok H S u) l (25 - l - h) h → j_X12_when_70_46 7 x1 (hoI H u - hoO H u) x3 M Q := by
    intro t
    induction t with
    | zero =>
      intro h x3 M hh h3 fM cM e
      have fs := dAddE (X := (h : Int)) (Y := (hoI H u).toInt - (hoO H u).toInt) (x := x3) (y := hoI H u - hoO H u) h3 fl (by omega) (by omega)
      refine v_X12_when_70_46 ⟨fun _ => hQ' _ M ?_ fM, fun q => by exfalso; omega⟩
      have z0 : 25 - l - h = 0 := by omega
      rw [z0] at e
      rw [eA]
      exact e
    | succ t ih =>
      intro h x3 M hh h3 fM cM e
      have fs := dAddE (X := (h : Int)) (Y := (hoI H u).toInt - (hoO H u).toInt) (x := x3) (y := hoI H u - hoO H u) h3 fl (by omega) (by omega)
      refine v_X12_when_70_46 ⟨fun q => hQ' _ M ?_ fM, fun q => can h x3 M _ h3 (by omega) fM cM (fun M1 f1 c1' => ⟨fun z => ?_, fun nz => hQ' _ M1 ?_ f1⟩)⟩
      · have z0 : 25 - l - h = 0 := by omega
        rw [z0] at e
        rw [eA]
        exact e
      · exact ih (h + 1) _ M1 (by omega) (d_inc h3 (by omega)) f1 c1' (e.trans (wnS_skip (bi_eq0 z)))
      · have hit := wnS_hit (p := wok H S u) (l := l) (N := 25 - l) (bi_ne0 nz) (by omega)
        rw [eA]
        exact (e.trans hit).trans (ofI h3)
  exact l46 25 0 _ M (by decide) (by decide) f cy rfl
end QWN
end
section
/-! QUESTIONS, exactly: count -/
def whR (H : Ho) (S : Zt) : Nat → Int32
  | 0 => 0
  | w + 1 => whR H S w + cond (bt (szG S) w) 0 (szR S w)
/-- what a count tells; the tape's length, what was told, the slots held come from elsewhere -/
def aCnt (H : Ho) (S : Zt) (P : List Zt) (t9 t11 t12 x1 : Int32) : Int32 := if x1.toInt = 0 then Int32.ofInt (hoF H : Int) else if x1.toInt = 1 then Int32.ofInt (hoW H : Int) else if x1.toInt = 2 then Int32.ofInt (hoU H : Int) else if x1.toInt = 3 then szH S else if x1.toInt = 4 then szC S else if x1.toInt = 5 then szQ S else if x1.toInt = 6 then szG S else if x1.toInt = 7 then ltB H (szG S) else if x1.toInt = 8 then onA H S (hod (szH S)) else if x1.toInt = 9 then t9 else if x1.toInt = 10 then Int32.ofInt (P.length : Int) else if x1.toInt = 11 then t11 else if x1.toInt = 12 then t12 else if x1.toInt = 13 then bi (sgp H (hoE H) (szH S)) else if x1.toInt = 14 then szP S else if x1.toInt = 15 then whR H S (hoW H) else -1
def slc (m : dM) : Int32 := (bi (decide ((m.1 115 0).toInt ≠ 0)) + bi (decide ((m.1 115 1).toInt ≠ 0))) + bi (decide ((m.1 115 2).toInt ≠ 0))
theorem bs_self {x : Int32} {n : Nat} (h : ∀ i : Nat, bt x i = true → i < n) (hn : n ≤ 32) : bs (bt x) n = x := bt_ext (fun i _ => by
  rw [bt_bs _ hn]
  cases b : bt x i with
  | false => rw [Bool.and_false]
  | true => rw [decide_eq_true (h i b)]; rfl)
theorem slc_eq {m : dM} (hT : Rq m) (h3 : ∀ i : Nat, 3 ≤ i → bt (m.1 51 4) i = false) : pc10 (m.1 51 4) 10 = slc m := by
  have c := pc10_cut h3 7
  have c : pc10 (m.1 51 4) 10 = pc10 (m.1 51 4) 3 := c
  have e : ∀ i : Nat, (i = 0 ∨ i = 1 ∨ i = 2) → decide ((m.1 115 i).toInt ≠ 0) = bt (m.1 51 4) i := fun i hi => by
    have o := hT.2.2.2.2 i (by omega)
    rw [hb_bit _ i hi] at o
    cases b : bt (m.1 51 4) i with
    | true => exact decide_eq_true (o.mp b)
    | false => exact decide_eq_false (fun z => by have z : bt (m.1 51 4) i = true := o.mpr z; rw [b] at z; cases z)
  rw [c]
  unfold slc
  rw [e 0 (Or.inl rfl), e 1 (Or.inr (Or.inl rfl)), e 2 (Or.inr (Or.inr rfl))]
  show ((0 + cond (bt (m.1 51 4) 0) 1 0) + cond (bt (m.1 51 4) 1) 1 0) + cond (bt (m.1 51 4) 2) 1 0 = (cond (bt (m.1 51 4) 0) 1 0 + cond (bt (m.1 51 4) 1) 1 0) + cond (bt (m.1 51 4) 2) 1 0
  rw [Int32.zero_add]
section QCT
variable {H : Ho} {S : Zt} {P : List Zt} {L : Nat → Zt} {m : dM} {s : Nat} {x1 : Int32}
theorem ea_whole {Q : Int32 → dM → Prop} (hK : KC H S P L m) (hQ : Q (whR H S (hoW H)) m) : c_X11_wholeRatings_0 2 m Q := by
  have w10 := hK.1.1.2.1
  have e21 := hK.1.2.1.1.2.1.1
  have g3 : m.1 47 3 = szG S := hK.2.1.1.2.2.2.1
  have loop : ∀ (t w : Nat) (x2 : Int32), w + t = hoW H → x2.toInt = (w : Int) → j_X11_wholeRatings_0_4 2 (whR H S w) x2 m Q := by
    intro t
    induction t with
    | zero =>
      intro w x2 hw h2
      rw [show w = hoW H by omega]
      exact v_X11_wholeRatings_0_4 ⟨fun _ => hQ, fun q => by exfalso; omega⟩
    | succ t ih =>
      intro w x2 hw h2
      have n := ih (w + 1) _ (by omega) (d_inc h2 (by omega))
      rw [show whR H S (w + 1) = whR H S w + cond (bt (szG S) w) 0 (szR S w) from rfl] at n
      have er : m.1 48 w = szR S w := hK.2.1.2.1 w (by omega)
      refine v_X11_wholeRatings_0_4 ⟨fun q => by exfalso; omega, fun _ => ?_⟩
      rw [g3]
      refine y_has h2 (by omega) (fun b => ⟨fun z => absurd z (by decide), fun _ => ?_⟩) (fun b => ⟨fun _ => ⟨by omega, ?_⟩, fun z => absurd rfl z⟩)
      · rw [b, cond_true] at n
        exact n
      · rw [b, cond_false] at n
        rw [d_cn h2, er]
        exact n
  exact v_X11_wholeRatings_0 (loop (hoW H) 0 _ (by omega) (by decide))
theorem ea_count {Q : Int32 → dM → Prop} (hK : KC H S P L m) (hO : zOk H S) (hQ : ∀ m' : dM, QC H S P L m m' → Q (aCnt H S P (m.1 0 1) (m.1 67 3) (pc10 (m.1 51 4) 10) x1) m') : c_X11_count_0 5 x1 m Q := by
  have q0 := QC.rf hK
  have hQ' : ∀ (v : Int32) (m' : dM), aCnt H S P (m.1 0 1) (m.1 67 3) (pc10 (m.1 51 4) 10) x1 = v → QC H S P L m m' → Q v m' := fun v m' e q => by rw [← e]; exact hQ m' q
  have e2 := hK.1.2.1.2.2.2.2.2.1
  have z := hK.2.1.1
  obtain ⟨n, n1, n2, n3, n4⟩ := id hK.2.2.1
  refine v_X11_count_0 ⟨fun q => hQ' _ m ?_ q0, fun q => hQ' _ m ?_ q0, fun q => hQ' _ m ?_ q0, fun q => hQ' _ m ?_ q0, fun q => hQ' _ m ?_ q0, fun q => hQ' _ m ?_ q0, fun q => hQ' _ m ?_ q0, fun q => ?_, fun q => k_usesNow q0 hO (fun M q1 _ => hQ' _ M ?_ q1), fun q => hQ' _ m ?_ q0, fun q => hQ' _ m ?_ q0, fun q => hQ' _ m ?_ q0, fun q => Wp.deep (ea_bits (fun i hi => hK.2.2.2.1 i (by omega)) (hQ' _ m ?_ q0)) (Nat.le_of_ble_eq_true rfl), fun q => ?_, fun q => hQ' _ m ?_ q0, fun q => Wp.deep (ea_whole hK (hQ' _ m ?_ q0)) (Nat.le_of_ble_eq_true rfl), fun q => hQ' _ m ?_ q0⟩
  · unfold aCnt; rw [if_pos q]; exact ofI hK.1.2.1.1.1.1
  · unfold aCnt; rw [if_neg (by omega), if_pos q]; exact ofI hK.1.2.1.1.2.1.1
  · unfold aCnt; rw [if_neg (by omega), if_neg (by omega), if_pos q]; exact ofI hK.1.2.1.2.1
  · unfold aCnt; rw [if_neg (by omega), if_neg (by omega), if_neg (by omega), if_pos q]; exact z.1.symm
  · unfold aCnt; rw [if_neg (by omega), if_neg (by omega), if_neg (by omega), if_neg (by omega), if_pos q]; exact z.2.1.symm
  · unfold aCnt; rw [if_neg (by omega), if_neg (by omega), if_neg (by omega), if_neg (by omega), if_neg (by omega), if_pos q]; exact z.2.2.1.symm
  · unfold aCnt; rw [if_neg (by omega), if_neg (by omega), if_neg (by omega), if_neg (by omega), if_neg (by omega), if_neg (by omega), if_pos q]; exact z.2.2.2.1.symm
  · rw [z.2.2.2.1]
    refine Wp.deep (ea_lit hK.1 (hQ' _ m ?_ q0)) (Nat.le_of_ble_eq_true rfl)
    unfold aCnt; rw [if_neg (by omega), if_neg (by omega), if_neg (by omega), if_neg (by omega), if_neg (by omega), if_neg (by omega), if_neg (by omega), if_pos q]
  · unfold aCnt; rw [if_neg (by omega), if_neg (by omega), if_neg (by omega), if_neg (by omega), if_neg (by omega), if_neg (by omega), if_neg (by omega), if_neg (by omega), if_pos q]
  · unfold aCnt; rw [if_neg (by omega), if_neg (by omega), if_neg (by omega), if_neg (by omega), if_neg (by omega), if_neg (by omega), if_neg (by omega), if_neg (by omega), if_neg (by omega), if_pos q]
  · unfold aCnt; rw [if_neg (by omega), if_neg (by omega), if_neg (by omega), if_neg (by omega), if_neg (by omega), if_neg (by omega), if_neg (by omega), if_neg (by omega), if_neg (by omega), if_neg (by omega), if_pos q]; exact ofI n3
  · unfold aCnt; rw [if_neg (by omega), if_neg (by omega), if_neg (by omega), if_neg (by omega), if_neg (by omega), if_neg (by omega), if_neg (by omega), if_neg (by omega), if_neg (by omega), if_neg (by omega), if_neg (by omega), if_pos q]
  · unfold aCnt; rw [if_neg (by omega), if_neg (by omega), if_neg (by omega), if_neg (by omega), if_neg (by omega), if_neg (by omega), if_neg (by omega), if_neg (by omega), if_neg (by omega), if_neg (by omega), if_neg (by omega), if_neg (by omega), if_pos q]
  · rw [e2.2.2.2, z.1]
    refine v_X0_isSurge_54 (v_X0_lot (v_X0_stirred (v_X0_stirred ⟨fun q => absurd q (by decide), fun _ => ⟨by decide, ?_⟩⟩)))
    rw [e2.1]
    have eA : aCnt H S P (m.1 0 1) (m.1 67 3) (pc10 (m.1 51 4) 10) x1 = bi (sgp H (hoE H) (szH S)) := by unfold aCnt; rw [if_neg (by omega), if_neg (by omega), if_neg (by omega), if_neg (by omega), if_neg (by omega), if_neg (by omega), if_neg (by omega), if_neg (by omega), if_neg (by omega), if_neg (by omega), if_neg (by omega), if_neg (by omega), if_neg (by omega), if_pos q]
    refine ⟨fun a => ⟨fun _ => hQ' _ m ?_ q0, fun z => absurd rfl z⟩, fun a => ⟨fun z => absurd z (by decide), fun _ => hQ' _ m ?_ q0⟩⟩
    · have a : (hoS H).toInt ≤ (lot (mx (mx (hoE H) 129) ((4 : Int32) * szH S))).toInt := a
      rw [eA]
      unfold sgp
      rw [decide_eq_false (by omega)]
      rfl
    · have a : (lot (mx (mx (hoE H) 129) ((4 : Int32) * szH S))).toInt < (hoS H).toInt := a
      rw [eA]
      unfold sgp
      rw [decide_eq_true a]
      rfl
  · unfold aCnt; rw [if_neg (by omega), if_neg (by omega), if_neg (by omega), if_neg (by omega), if_neg (by omega), if_neg (by omega), if_neg (by omega), if_neg (by omega), if_neg (by omega), if_neg (by omega), if_neg (by omega), if_neg (by omega), if_neg (by omega), if_neg (by omega), if_pos q]; exact z.2.2.2.2.1.symm
  · unfold aCnt; rw [if_neg (by omega), if_neg (by omega), if_neg (by omega), if_neg (by omega), if_neg (by omega), if_neg (by omega), if_neg (by omega), if_neg (by omega), if_neg (by omega), if_neg (by omega), if_neg (by omega), if_neg (by omega), if_neg (by omega), if_neg (by omega), if_neg (by omega), if_pos q]
  · unfold aCnt; rw [if_neg (by omega), if_neg (by omega), if_neg (by omega), if_neg (by omega), if_neg (by omega), if_neg (by omega), if_neg (by omega), if_neg (by omega), if_neg (by omega), if_neg (by omega), if_neg (by omega), if_neg (by omega), if_neg (by omega), if_neg (by omega), if_neg (by omega), if_neg (by omega)]
theorem eb_gone {Q : Int32 → dM → Prop} {M : dM} (hK : KR H S P L s M) (hO : zOk H S) (hQ : Q (szG S) M) : c_X12_goneBits_70 1 M Q := by
  have w10 := hK.1.1.2.1
  have a := hK.1.2.1.1
  have loop : ∀ (t w : Nat) (x2 : Int32), w + t = hoW H → x2.toInt = (w : Int) → j_X12_goneBits_70_4 1 (bs (bt (szG S)) w) x2 M Q := by
    intro t
    induction t with
    | zero =>
      intro w x2 hw h2
      refine v_X12_goneBits_70_4 ?_
      rw [d_cn a.1, hK.1.2.1.2.2.1.1, a.1, show w = hoW H by omega, bs_self hO.2.2.1 (by omega)]
      exact ⟨by omega, fun _ => hQ, fun q => by exfalso; omega⟩
    | succ t ih =>
      intro w x2 hw h2
      have e10 := d_add (k := x2) (K := w) (x := (10 : Int32)) (i := 10) (by decide) h2 (by omega)
      have n := ih (w + 1) _ (by omega) (d_inc h2 (by omega))
      rw [show bs (bt (szG S)) (w + 1) = cond (bt (szG S) w) (bs (bt (szG S)) w ||| b1 w) (bs (bt (szG S)) w) from rfl] at n
      refine v_X12_goneBits_70_4 ?_
      rw [d_cn a.1, hK.1.2.1.2.2.1.1, a.1, d_cn e10, (hK.2.1.2.1 w (by omega)).2.1, b1_of h2]
      refine ⟨by omega, fun q => by exfalso; omega, fun _ => ⟨by omega, fun nb => v_X12_goneBits_70_36 ?_, fun bb => v_X12_goneBits_70_36 ?_⟩⟩
      · rw [bi_ne1 nb, cond_false] at n
        exact n
      · rw [bi_eq1 bb, cond_true] at n
        exact n
  exact v_X12_goneBits_70 (loop (hoW H) 0 _ (by omega) (by decide))
theorem eb_count {Q : Int32 → dM → Prop} (hK : KR H S P L s m) (hO : zOk H S) (hQ : ∀ m' : dM, RsF m m' → Q (aCnt H S P (m.1 70 2) (m.1 70 63) (slc m) x1) m') : c_X12_count_70 7 x1 m Q := by
  have w10 := hK.1.1.2.1
  have hQ' : ∀ (v : Int32) (m' : dM), aCnt H S P (m.1 70 2) (m.1 70 63) (slc m) x1 = v → RsF m m' → Q v m' := fun v m' e q => by rw [← e]; exact hQ m' q
  refine v_X12_count_70 (y_copies hK.1 hK.2.1 (fun M f cy a6 _ => ?_))
  have a := cy.1.2.1.1
  have hKM := hK.rs f
  have z := cy.2.1.1
  have r0 : ∀ v : Int32, aCnt H S P (m.1 70 2) (m.1 70 63) (slc m) x1 = v → Q v M := fun v e => hQ' v M e f
  have l228 : x1.toInt = 14 → ∀ (t w : Nat) (x3 : Int32), w + t = hoW H → x3.toInt = (w : Int) → j_X12_count_70_228 7 (bs (bt (szP S)) w) x3 M Q := by
    intro q t
    induction t with
    | zero =>
      intro w x3 hw h3
      refine v_X12_count_70_228 ?_
      rw [d_cn a.1, cy.1.2.1.2.2.1.1, a.1, show w = hoW H by omega, bs_self hO.2.2.2.1 (by omega)]
      exact ⟨by omega, fun _ => r0 _ (by unfold aCnt; rw [if_neg (by omega), if_neg (by omega), if_neg (by omega), if_neg (by omega), if_neg (by omega), if_neg (by omega), if_neg (by omega), if_neg (by omega), if_neg (by omega), if_neg (by omega), if_neg (by omega), if_neg (by omega), if_neg (by omega), if_neg (by omega), if_pos q]), fun q => by exfalso; omega⟩
    | succ t ih =>
      intro w x3 hw h3
      have e30 := d_add (k := x3) (K := w) (x := (30 : Int32)) (i := 30) (by decide) h3 (by omega)
      have n := ih (w + 1) _ (by omega) (d_inc h3 (by omega))
      have eb : bs (bt (szP S)) w ||| ((bi (bt (szP S) w)) <<< (x3 &&& 31)) = bs (bt (szP S)) (w + 1) := by
        show _ = cond (bt (szP S) w) (bs (bt (szP S)) w ||| b1 w) (bs (bt (szP S)) w)
        cases bt (szP S) w with
        | true =>
          have e1 : (bi true) <<< (x3 &&& 31) = b1 w := b1_of h3
          rw [e1]
          rfl
        | false =>
          have e1 : (bi false) <<< (x3 &&& 31) = 0 := Int32.zero_shiftLeft
          rw [e1, Int32.or_zero]
          rfl
      refine v_X12_count_70_228 ?_
      rw [d_cn a.1, cy.1.2.1.2.2.1.1, a.1, d_cn e30, (cy.2.1.2.1 w (by omega)).2.2.2, eb]
      exact ⟨by omega, fun q => by exfalso; omega, fun _ => ⟨by omega, n⟩⟩
  have l265 : x1.toInt = 15 → ∀ (t w : Nat) (x3 : Int32), w + t = hoW H → x3.toInt = (w : Int) → j_X12_count_70_265 7 (whR H S w) x3 M Q := by
    intro q t
    induction t with
    | zero =>
      intro w x3 hw h3
      refine v_X12_count_70_265 ?_
      rw [d_cn a.1, cy.1.2.1.2.2.1.1, a.1, show w = hoW H by omega]
      exact ⟨by omega, fun _ => r0 _ (by unfold aCnt; rw [if_neg (by omega), if_neg (by omega), if_neg (by omega), if_neg (by omega), if_neg (by omega), if_neg (by omega), if_neg (by omega), if_neg (by omega), if_neg (by omega), if_neg (by omega), if_neg (by omega), if_neg (by omega), if_neg (by omega), if_neg (by omega), if_neg (by omega), if_pos q]), fun q => by exfalso; omega⟩
    | succ t ih =>
      intro w x3 hw h3
      have n := ih (w + 1) _ (by omega) (d_inc h3 (by omega))
      rw [show whR H S (w + 1) = whR H S w + cond (bt (szG S) w) 0 (szR S w) from rfl] at n
      refine v_X12_count_70_265 ?_
      rw [d_cn a.1, cy.1.2.1.2.2.1.1, a.1]
      refine ⟨by omega, fun q => by exfalso; omega, fun _ => Wp.deep (y_isWhole cy.1.2.1 (cy.2.1.rg (r := 0)) h3 (by omega) (fun b => ⟨fun z => absurd z (by decide), fun _ => ⟨by omega, ?_⟩⟩) (fun b => ⟨fun _ => ?_, fun z => absurd rfl z⟩)) (Nat.le_of_ble_eq_true rfl)⟩
      · rw [b, cond_false] at n
        rw [d_cn h3, (cy.2.1.2.1 w (by omega)).1]
        exact v_X12_count_70_295 n
      · rw [b, cond_true, Int32.add_zero] at n
        exact v_X12_count_70_295 n
  have e115 : M.1 115 = m.1 115 := f.1 115 (by decide) (by decide) (by decide)
  have e702 : M.1 70 2 = m.1 70 2 := f.2.1 2 (by decide) (by decide) (by decide) (by decide)
  have e7063 : M.1 70 63 = m.1 70 63 := f.2.1 63 (by decide) (by decide) (by decide) (by decide)
  have sl : ∀ v : Int32, x1.toInt = 12 → slc m = v → Q v M := fun v q e => r0 v (by unfold aCnt; rw [if_neg (by omega), if_neg (by omega), if_neg (by omega), if_neg (by omega), if_neg (by omega), if_neg (by omega), if_neg (by omega), if_neg (by omega), if_neg (by omega), if_neg (by omega), if_neg (by omega), if_neg (by omega), if_pos q]; exact e)
  refine ⟨fun q => ⟨by omega, r0 _ ?_⟩, fun q => ⟨by omega, r0 _ ?_⟩, fun q => ⟨by omega, r0 _ ?_⟩, fun q => r0 _ ?_, fun q => r0 _ ?_, fun q => r0 _ ?_, fun q => Wp.deep (eb_gone hKM hO (r0 _ ?_)) (Nat.le_of_ble_eq_true rfl), fun q => Wp.deep (y_litBits cy.1 cy.2.2 (r0 _ ?_)) (Nat.le_of_ble_eq_true rfl), fun q => Wp.deep (y_onNow cy (r0 _ ?_)) (Nat.le_of_ble_eq_true rfl), fun q => r0 _ ?_, fun q => r0 _ ?_, fun q => r0 _ ?_, fun q => ?_, fun q => Wp.deep (y_isSurge cy.1 cy.2.1.1.1 ?_) (Nat.le_of_ble_eq_true rfl), fun q => l228 q (hoW H) 0 _ (by omega) (by decide), fun q => l265 q (hoW H) 0 _ (by omega) (by decide), fun q => r0 _ ?_⟩
  · unfold aCnt; rw [if_pos q]; rw [d_cn a.1]; exact ofI cy.1.2.1.2.1.1
  · unfold aCnt; rw [if_neg (by omega), if_pos q]; rw [d_cn a.1]; exact ofI cy.1.2.1.2.2.1.1
  · unfold aCnt; rw [if_neg (by omega), if_neg (by omega), if_pos q]; rw [d_cn a.1]; exact ofI cy.1.2.2.1
  · unfold aCnt; rw [if_neg (by omega), if_neg (by omega), if_neg (by omega), if_pos q]; exact z.1.symm
  · unfold aCnt; rw [if_neg (by omega), if_neg (by omega), if_neg (by omega), if_neg (by omega), if_pos q]; exact z.2.1.symm
  · unfold aCnt; rw [if_neg (by omega), if_neg (by omega), if_neg (by omega), if_neg (by omega), if_neg (by omega), if_pos q]; exact z.2.2.symm
  · unfold aCnt; rw [if_neg (by omega), if_neg (by omega), if_neg (by omega), if_neg (by omega), if_neg (by omega), if_neg (by omega), if_pos q]
  · unfold aCnt; rw [if_neg (by omega), if_neg (by omega), if_neg (by omega), if_neg (by omega), if_neg (by omega), if_neg (by omega), if_neg (by omega), if_pos q]; rfl
  · unfold aCnt; rw [if_neg (by omega), if_neg (by omega), if_neg (by omega), if_neg (by omega), if_neg (by omega), if_neg (by omega), if_neg (by omega), if_neg (by omega), if_pos q]
  · unfold aCnt; rw [if_neg (by omega), if_neg (by omega), if_neg (by omega), if_neg (by omega), if_neg (by omega), if_neg (by omega), if_neg (by omega), if_neg (by omega), if_neg (by omega), if_pos q]; exact e702.symm
  · unfold aCnt; rw [if_neg (by omega), if_neg (by omega), if_neg (by omega), if_neg (by omega), if_neg (by omega), if_neg (by omega), if_neg (by omega), if_neg (by omega), if_neg (by omega), if_neg (by omega), if_pos q]; exact ofI hKM.2.2.1.1
  · unfold aCnt; rw [if_neg (by omega), if_neg (by omega), if_neg (by omega), if_neg (by omega), if_neg (by omega), if_neg (by omega), if_neg (by omega), if_neg (by omega), if_neg (by omega), if_neg (by omega), if_neg (by omega), if_pos q]; exact e7063.symm
  · rw [e115]
    have d : ∀ (i : Nat), (m.1 115 i).toInt = 0 → bi (decide ((m.1 115 i).toInt ≠ 0)) = 0 := fun i h => by rw [decide_eq_false (fun w => w h)]; rfl
    have u : ∀ (i : Nat), (m.1 115 i).toInt ≠ 0 → bi (decide ((m.1 115 i).toInt ≠ 0)) = 1 := fun i h => by rw [decide_eq_true h]; rfl
    exact ⟨fun a0 => ⟨fun a1 => ⟨fun a2 => sl _ q (by unfold slc; rw [d 0 a0, d 1 a1, d 2 a2]), fun a2 => sl _ q (by unfold slc; rw [d 0 a0, d 1 a1, u 2 a2])⟩, fun a1 => ⟨fun a2 => sl _ q (by unfold slc; rw [d 0 a0, u 1 a1, d 2 a2]), fun a2 => sl _ q (by unfold slc; rw [d 0 a0, u 1 a1, u 2 a2])⟩⟩, fun a0 => ⟨fun a1 => ⟨fun a2 => sl _ q (by unfold slc; rw [u 0 a0, d 1 a1, d 2 a2]), fun a2 => sl _ q (by unfold slc; rw [u 0 a0, d 1 a1, u 2 a2])⟩, fun a1 => ⟨fun a2 => sl _ q (by unfold slc; rw [u 0 a0, u 1 a1, d 2 a2]), fun a2 => sl _ q (by unfold slc; rw [u 0 a0, u 1 a1, u 2 a2])⟩⟩⟩
  · rw [a6]
    exact ⟨fun z => r0 _ (by unfold aCnt; rw [if_neg (by omega), if_neg (by omega), if_neg (by omega), if_neg (by omega), if_neg (by omega), if_neg (by omega), if_neg (by omega), if_neg (by omega), if_neg (by omega), if_neg (by omega), if_neg (by omega), if_neg (by omega), if_neg (by omega), if_pos q]; exact bi_z z), fun z => r0 _ (by unfold aCnt; rw [if_neg (by omega), if_neg (by omega), if_neg (by omega), if_neg (by omega), if_neg (by omega), if_neg (by omega), if_neg (by omega), if_neg (by omega), if_neg (by omega), if_neg (by omega), if_neg (by omega), if_neg (by omega), if_neg (by omega), if_pos q]; exact bi_n z)⟩
  · unfold aCnt; rw [if_neg (by omega), if_neg (by omega), if_neg (by omega), if_neg (by omega), if_neg (by omega), if_neg (by omega), if_neg (by omega), if_neg (by omega), if_neg (by omega), if_neg (by omega), if_neg (by omega), if_neg (by omega), if_neg (by omega), if_neg (by omega), if_neg (by omega), if_neg (by omega)]
end QCT
end
section
/-! QUESTIONS, exactly: cut -/
/-- the first of a list of which this is so -/
def fd (p : Int32 → Bool) : List Int32 → Option Int32
  | [] => none
  | x :: l => cond (p x) (some x) (fd p l)
/-- sets of so many wires, from a number on, the first ones first -/
def zEL (nxt : Nat → List Int32) : Nat → Nat → List Int32
  | 0, _ => []
  | t + 1, v => (nxt (v + 1)).map (fun o => o ||| b1 v) ++ zEL nxt t (v + 1)
def zEN : Nat → Nat → List Int32
  | 0, _ => [0]
  | k + 1, w => zEL (zEN k) (10 - w) w
def zET : Nat → Nat → List Int32
  | 0, _ => []
  | t + 1, n => zEN n 0 ++ zET t (n + 1)
def cvt (o : Option Int32) : Int32 := match o with
  | none => -1
  | some x => x
theorem fd_s {p : Int32 → Bool} {x : Int32} {l : List Int32} : fd p (x :: l) = cond (p x) (some x) (fd p l) := rfl
theorem fd_app {p : Int32 → Bool} : ∀ (a b : List Int32), fd p (a ++ b) = (match fd p a with
    | none => fd p b
    | some x => some x)
  | [], b => rfl
  | x :: a, b => by
    rw [List.cons_append, fd_s, fd_s]
    cases p x with
    | true => rfl
    | false => rw [cond_false, cond_false]; exact fd_app a b
theorem fd_map {p : Int32 → Bool} {f : Int32 → Int32} : ∀ l : List Int32, fd p (l.map f) = (fd (fun x => p (f x)) l).map f
  | [] => rfl
  | x :: l => by
    rw [List.map_cons, fd_s, fd_s]
    cases p (f x) with
    | true => rfl
    | false => rw [cond_false, cond_false]; exact fd_map l
theorem fd_congr {p q : Int32 → Bool} : ∀ l : List Int32, (∀ x ∈ l, p x = q x) → fd p l = fd q l
  | [], _ => rfl
  | x :: l, h => by
    rw [fd_s, fd_s, h x (List.mem_cons_self ..), fd_congr l (fun y hy => h y (List.mem_cons_of_mem _ hy))]
theorem fd_none {p : Int32 → Bool} : ∀ l : List Int32, (∀ x ∈ l, p x = false) → fd p l = none
  | [], _ => rfl
  | x :: l, h => by
    rw [fd_s, h x (List.mem_cons_self ..), cond_false]
    exact fd_none l (fun y hy => h y (List.mem_cons_of_mem _ hy))
theorem fd_no {p : Int32 → Bool} : ∀ l : List Int32, fd p l = none → ∀ x ∈ l, p x = false
  | [], _, x, hx => absurd hx List.not_mem_nil
  | y :: l, h, x, hx => by
    rw [fd_s] at h
    cases e : p y with
    | true =>
      rw [e, cond_true] at h
      cases h
    | false =>
      rw [e, cond_false] at h
      rcases List.mem_cons.mp hx with q | q
      · rw [q]; exact e
      · exact fd_no l h x q
theorem fd_some {p : Int32 → Bool} {c : Int32} : ∀ l : List Int32, fd p l = some c → c ∈ l ∧ p c = true
  | [], h => by
    have h : (none : Option Int32) = some c := h
    cases h
  | y :: l, h => by
    rw [fd_s] at h
    cases e : p y with
    | true =>
      rw [e, cond_true] at h
      cases h
      exact ⟨List.mem_cons_self .., e⟩
    | false =>
      rw [e, cond_false] at h
      have := fd_some l h
      exact ⟨List.mem_cons_of_mem _ this.1, this.2⟩
theorem zEL_b {nxt : Nat → List Int32} (h : ∀ v : Nat, ∀ x ∈ nxt v, ∀ i : Nat, bt x i = true → v ≤ i ∧ i < 10) : ∀ (t v : Nat), v + t ≤ 10 → ∀ x ∈ zEL nxt t v, (∀ i : Nat, bt x i = true → v ≤ i ∧ i < 10) ∧ ∃ i : Nat, v ≤ i ∧ i < 10 ∧ bt x i = true
  | 0, v, _, x, hx => absurd hx List.not_mem_nil
  | t + 1, v, hv, x, hx => by
    have hx : x ∈ (nxt (v + 1)).map (fun o => o ||| b1 v) ++ zEL nxt t (v + 1) := hx
    rcases List.mem_append.mp hx with q | q
    · obtain ⟨o, ho, e⟩ := List.mem_map.mp q
      rw [← e]
      refine ⟨fun i hi => ?_, v, Nat.le_refl _, by omega, by rw [bt_or, bt_1 (by omega), decide_eq_true rfl, Bool.or_true]⟩
      rw [bt_or, bt_1 (by omega), Bool.or_eq_true, decide_eq_true_eq] at hi
      rcases hi with hi | hi
      · have := h (v + 1) o ho i hi
        omega
      · omega
    · have := zEL_b h t (v + 1) (by omega) x q
      refine ⟨fun i hi => by have := this.1 i hi; omega, ?_⟩
      obtain ⟨i, i1, i2, i3⟩ := this.2
      exact ⟨i, by omega, i2, i3⟩
theorem zEN_b : ∀ (k w : Nat), ∀ x ∈ zEN k w, ∀ i : Nat, bt x i = true → w ≤ i ∧ i < 10
  | 0, w, x, hx, i, hi => by
    have e : x = 0 := List.mem_singleton.mp hx
    rw [e, bt_0] at hi
    cases hi
  | k + 1, w, x, hx, i, hi => by
    by_cases q : w ≤ 10
    · exact (zEL_b (zEN_b k) (10 - w) w (by omega) x hx).1 i hi
    · have hx : x ∈ zEL (zEN k) (10 - w) w := hx
      rw [show 10 - w = 0 by omega] at hx
      exact absurd hx List.not_mem_nil
theorem zET_b : ∀ (t n : Nat), ∀ x ∈ zET t n, ∀ i : Nat, bt x i = true → i < 10
  | 0, n, x, hx, i, hi => absurd hx List.not_mem_nil
  | t + 1, n, x, hx, i, hi => by
    have hx : x ∈ zEN n 0 ++ zET t (n + 1) := hx
    rcases List.mem_append.mp hx with q | q
    · exact (zEN_b n 0 x q i hi).2
    · exact zET_b t (n + 1) x q i hi
theorem ne_m1 {x : Int32} (h : ∀ i : Nat, bt x i = true → i < 10) : x.toInt ≠ -1 := fun e => by
  have e : x = -1 := d_ce (e.trans ti_m1.symm)
  have := h 31 (by rw [e]; exact bt_m1 (by omega))
  omega
def ctp (H : Ho) (f : Nat) (g x : Int32) : Bool := decide (x &&& g = 0) && decide (∀ i : Nat, i < 10 → bt x i = true → i < hoW H) && !lt H (g ||| x) f
section QCU
variable {H : Ho} {S : Zt} {P : List Zt} {L : Nat → Zt} {m : dM} {s : Nat} {x1 x2 : Int32} {f : Nat}
theorem ctp_iff {g x : Int32} : ctp H f g x = true ↔ x &&& g = 0 ∧ (∀ i : Nat, i < 10 → bt x i = true → i < hoW H) ∧ lt H (g ||| x) f = false := by
  unfold ctp
  rw [Bool.and_eq_true, Bool.and_eq_true, decide_eq_true_eq, decide_eq_true_eq, Bool.not_eq_true', and_assoc]
theorem ctp_f {g x : Int32} (h : ¬ (x &&& g = 0 ∧ (∀ i : Nat, i < 10 → bt x i = true → i < hoW H) ∧ lt H (g ||| x) f = false)) : ctp H f g x = false := by
  cases e : ctp H f g x with
  | false => rfl
  | true => exact absurd (ctp_iff.mp e) h
theorem ctp_0 {g : Int32} : ctp H f g 0 = !lt H g f := by
  cases e : lt H g f with
  | true => exact ctp_f (fun w => by have := w.2.2; rw [Int32.or_zero, e] at this; cases this)
  | false => exact ctp_iff.mpr ⟨Int32.zero_and, (fun i _ hi => by rw [bt_0] at hi; cases hi), by rw [Int32.or_zero]; exact e⟩
theorem ctp_up {g o : Int32} {v : Nat} (hv : v < hoW H) (h10 : hoW H ≤ 10) (hg : bt g v = false) (ho : ∀ i : Nat, bt o i = true → v + 1 ≤ i ∧ i < 10) : ctp H f g (o ||| b1 v) = ctp H f (g ||| b1 v) o := by
  have e1 : ((o ||| b1 v) &&& g = 0) ↔ (o &&& (g ||| b1 v) = 0) := by
    have ov : bt o v = false := by
      cases b : bt o v with
      | false => rfl
      | true => have := ho v b; omega
    have e : (o ||| b1 v) &&& g = o &&& (g ||| b1 v) := bt_ext (fun i _ => by
      rw [bt_and, bt_and, bt_or, bt_or, bt_1 (by omega)]
      by_cases q : i = v
      · rw [q, decide_eq_true rfl, hg, ov]; rfl
      · rw [decide_eq_false q, Bool.or_false, Bool.or_false])
    rw [e]
  have e2 : (∀ i : Nat, i < 10 → bt (o ||| b1 v) i = true → i < hoW H) ↔ (∀ i : Nat, i < 10 → bt o i = true → i < hoW H) := by
    constructor
    · intro h i hi hb
      exact h i hi (by rw [bt_or, hb, Bool.true_or])
    · intro h i hi hb
      rw [bt_or, bt_1 (by omega), Bool.or_eq_true, decide_eq_true_eq] at hb
      rcases hb with hb | hb
      · exact h i hi hb
      · omega
  have e3 : g ||| (o ||| b1 v) = (g ||| b1 v) ||| o := bt_ext (fun i _ => by
    rw [bt_or, bt_or, bt_or, bt_or]
    cases bt g i <;> cases bt o i <;> cases bt (b1 v) i <;> rfl)
  cases q : ctp H f (g ||| b1 v) o with
  | true =>
    have w := ctp_iff.mp q
    exact ctp_iff.mpr ⟨e1.mpr w.1, e2.mpr w.2.1, by rw [e3]; exact w.2.2⟩
  | false =>
    refine ctp_f (fun w => ?_)
    have : ctp H f (g ||| b1 v) o = true := ctp_iff.mpr ⟨e1.mp w.1, e2.mp w.2.1, by rw [← e3]; exact w.2.2⟩
    rw [q] at this
    cases this
theorem ea_cutBy (hx : x1.toInt = (f : Int)) : ∀ (k w : Nat) (g x3 x4 : Int32) (M : dM) (Q : Int32 → dM → Prop), CW H M → f < hoF H → x3.toInt = (w : Int) → x4.toInt = (k : Int) → w ≤ 10 → k ≤ 3 → Q (cvt (fd (ctp H f g) (zEN k w))) M → c_X1_cutBy_2 (3 + k) x1 g x3 x4 M Q := by
  intro k
  induction k with
  | zero =>
    intro w g x3 x4 M Q hW hf h3 h4 hw hk hQ
    have f7 := hW.1.1
    have hQ : Q (cvt (cond (ctp H f g 0) (some 0) none)) M := hQ
    have lb : bt (ltB H g) f = lt H g f := by rw [bt_ltB f7, decide_eq_true hf, Bool.true_and]
    rw [ctp_0, ← lb] at hQ
    refine v_X1_cutBy_2 ⟨fun q => by exfalso; omega, fun _ => ea_lit hW (Wp.deep (d := 1) (y_has hx (by omega) (fun b => ⟨fun z => absurd z (by decide), fun _ => ?_⟩) (fun b => ⟨fun _ => ?_, fun z => absurd rfl z⟩)) (Nat.le_of_ble_eq_true rfl))⟩
    · rw [b] at hQ; exact hQ
    · rw [b] at hQ; exact hQ
  | succ k ih =>
    intro w g x3 x4 M Q hW hf h3 h4 hw hk hQ
    have w10 := hW.1.2.1
    have e21 := hW.2.1.1.2.1.1
    have fs := dSubE (X := x4.toInt) (Y := 1) (x := x4) (y := (1 : Int32)) rfl (by decide) (by omega) (by omega)
    have loop : ∀ (t v : Nat) (x5 : Int32), v + t = 10 → x5.toInt = (v : Int) → Q (cvt (fd (ctp H f g) (zEL (zEN k) t v))) M → j_X1_cutBy_2_26 (3 + (k + 1)) x1 g x4 x5 M Q := by
      intro t
      induction t with
      | zero => intro v x5 hv h5 hq; exact v_X1_cutBy_2_26 ⟨fun _ => hq, fun q => by exfalso; omega⟩
      | succ t ih2 =>
        intro v x5 hv h5 hq
        have off : (hoW H ≤ v) → fd (ctp H f g) (zEL (zEN k) (t + 1) v) = none := fun le => fd_none _ (fun x hx => ctp_f (fun z => by
          obtain ⟨i, i1, i2, i3⟩ := (zEL_b (zEN_b k) (t + 1) v (by omega) x hx).2
          have := z.2.1 i i2 i3
          omega))
        have eS : fd (ctp H f g) (zEL (zEN k) (t + 1) v) = match fd (ctp H f g) ((zEN k (v + 1)).map (fun o => o ||| b1 v)) with
          | none => fd (ctp H f g) (zEL (zEN k) t (v + 1))
          | some x => some x := fd_app _ _
        refine v_X1_cutBy_2_26 ⟨fun le => by rw [off (by omega)] at hq; exact hq, fun lv => ?_⟩
        rw [b1_of h5]
        refine Wp.deep (d := 1) (d' := 3 + k) (y_has h5 (by omega) (fun b => ⟨fun _ => v_X1_cutBy_2_79 (ih2 (v + 1) _ (by omega) (d_inc h5 (by omega)) ?_), fun z => absurd z (by decide)⟩) (fun b => ⟨fun z => absurd rfl z, fun _ => ih (v + 1) (g ||| b1 v) _ _ M _ hW hf (d_inc h5 (by omega)) (by omega) (by omega) (by omega) ?_⟩)) (show 1 ≤ 3 + k by omega)
        · have no : fd (ctp H f g) ((zEN k (v + 1)).map (fun o => o ||| b1 v)) = none := fd_none _ (fun x hx => ctp_f (fun z => by
            obtain ⟨o, ho, e⟩ := List.mem_map.mp hx
            have zz : bt (x &&& g) v = false := by rw [z.1, bt_0]
            rw [← e, bt_and, bt_or, bt_1 (by omega), decide_eq_true rfl, Bool.or_true, Bool.true_and, b] at zz
            cases zz))
          rw [eS, no] at hq
          exact hq
        · have mp : fd (ctp H f g) ((zEN k (v + 1)).map (fun o => o ||| b1 v)) = (fd (ctp H f (g ||| b1 v)) (zEN k (v + 1))).map (fun o => o ||| b1 v) := by
            rw [fd_map]
            exact congrArg _ (fd_congr _ (fun o ho => ctp_up (by omega) w10 b (zEN_b k (v + 1) o ho)))
          rw [eS, mp] at hq
          cases e : fd (ctp H f (g ||| b1 v)) (zEN k (v + 1)) with
          | none =>
            rw [e] at hq
            exact ⟨fun _ => v_X1_cutBy_2_79 (ih2 (v + 1) _ (by omega) (d_inc h5 (by omega)) hq), fun q => absurd ti_m1 q⟩
          | some y =>
            rw [e] at hq
            have ne : y.toInt ≠ -1 := ne_m1 (fun i hi => (zEN_b k (v + 1) y (fd_some _ e).1 i hi).2)
            exact ⟨fun q => absurd q ne, fun _ => hq⟩
    exact v_X1_cutBy_2 ⟨fun q => loop (10 - w) w _ (by omega) h3 hQ, fun q => by exfalso; omega⟩
def aCt (H : Ho) (S : Zt) (x1 x2 : Int32) : Int32 := if (0 ≤ x1.toInt ∧ x1.toInt < (hoF H : Int)) ∧ -1 ≤ x2.toInt ∧ x2.toInt ≤ 2 then (match fd (ctp H x1.toNatClampNeg (szG S)) (zET 4 0) with
    | none => -2
    | some y => if x2.toInt = -1 then pc10 y 10 else ithB y 10 0 x2.toNatClampNeg) else -1
theorem zET_n : ∀ x ∈ zET 4 0, 0 ≤ x.toInt ∧ (pc10 x 10).toInt ≤ 3 := by
  have h : (zET 4 0).all (fun x => decide (0 ≤ x.toInt ∧ (pc10 x 10).toInt ≤ 3)) = true := by decide +kernel
  exact fun x hx => of_decide_eq_true (List.all_eq_true.mp h x hx)
theorem ea_cut {Q : Int32 → dM → Prop} (hK : KC H S P L m) (hQ : ∀ m' : dM, QC H S P L m m' → Q (aCt H S x1 x2) m') : c_X11_cut_0 8 x1 x2 m Q := by
  have q0 := QC.rf hK
  have f7 := hK.1.1.1
  have g3 : m.1 47 3 = szG S := hK.2.1.1.2.2.2.1
  have hQ' : ∀ (v : Int32) (m' : dM), aCt H S x1 x2 = v → QC H S P L m m' → Q v m' := fun v m' e q => by rw [← e]; exact hQ m' q
  have no : ¬ ((0 ≤ x1.toInt ∧ x1.toInt < (hoF H : Int)) ∧ -1 ≤ x2.toInt ∧ x2.toInt ≤ 2) → j_X11_cut_0_18 8 m Q := fun q => v_X11_cut_0_18 (hQ' _ m (by unfold aCt; rw [if_neg q]) q0)
  refine v_X11_cut_0 (Wp.deep (y_isFlatc hK.1 (fun hu => ⟨fun z => absurd z (by decide), fun _ => ⟨fun q => no (by omega), fun p1 => ⟨fun p2 => ?_, fun q => no (by omega)⟩⟩⟩) (fun hu => ⟨fun _ => no (fun w => hu w.1), fun z => absurd rfl z⟩)) (Nat.le_of_ble_eq_true rfl))
  have hx := toNat_of hu.1
  have hf : x1.toNatClampNeg < hoF H := by omega
  have eA : aCt H S x1 x2 = (match fd (ctp H x1.toNatClampNeg (szG S)) (zET 4 0) with
    | none => -2
    | some y => if x2.toInt = -1 then pc10 y 10 else ithB y 10 0 x2.toNatClampNeg) := by unfold aCt; rw [if_pos (by omega)]
  have em := ti_m1
  have fin : ∀ o : Option Int32, o = fd (ctp H x1.toNatClampNeg (szG S)) (zET 4 0) → (0 ≤ (cvt o).toInt → (x2.toInt ≠ (-1) → c_X11_bitAt 7 (cvt o) x2 m (fun r3 m3 => Q r3 m3)) ∧ (x2.toInt = (-1) → c_J6_bitCount 7 (cvt o) m (fun r4 m4 => Q r4 m4))) ∧ ((cvt o).toInt < 0 → Q (-2 : Int32) m) := fun o eo => by
    rw [← eo] at eA
    cases o with
    | none =>
      refine ⟨fun q => ?_, fun _ => hQ' _ m eA q0⟩
      exfalso
      have q : 0 ≤ (-1 : Int32).toInt := q
      omega
    | some y =>
      have my := (fd_some _ eo.symm).1
      have b10 : ∀ i : Nat, 10 ≤ i → bt y i = false := fun i hi => by
        cases b : bt y i with
        | false => rfl
        | true => have := zET_b 4 0 y my i b; omega
      have y0 := (zET_n y my).1
      have eA : aCt H S x1 x2 = if x2.toInt = -1 then pc10 y 10 else ithB y 10 0 x2.toNatClampNeg := eA
      refine ⟨fun _ => ⟨fun ne => ?_, fun e => Wp.deep (ea_bits b10 (hQ' _ m (by rw [eA, if_pos e]; rfl) q0)) (Nat.le_of_ble_eq_true rfl)⟩, fun q => ?_⟩
      · have h2 := toNat_of (x := x2) (by omega)
        refine Wp.deep (ea_bitAt (k := x2.toNatClampNeg) h2 (by omega) (hQ' _ m ?_ q0)) (Nat.le_of_ble_eq_true rfl)
        rw [eA, if_neg ne]
        exact (ithB_c b10 10 0 x2.toNatClampNeg rfl).symm
      · exfalso
        have q : y.toInt < 0 := q
        omega
  have loop : ∀ (t n : Nat) (x3 : Int32), n + t = 4 → x3.toInt = (n : Int) → fd (ctp H x1.toNatClampNeg (szG S)) (zET t n) = fd (ctp H x1.toNatClampNeg (szG S)) (zET 4 0) → j_X1_leastCut_61_47_2 7 x1 x3 m (fun r2 m2 => (0 ≤ r2.toInt → (x2.toInt ≠ (-1) → c_X11_bitAt 7 r2 x2 m2 (fun r3 m3 => Q r3 m3)) ∧ (x2.toInt = (-1) → c_J6_bitCount 7 r2 m2 (fun r4 m4 => Q r4 m4))) ∧ (r2.toInt < 0 → Q (-2 : Int32) m2)) := by
    intro t
    induction t with
    | zero => intro n x3 hn h3 e; exact v_X1_leastCut_61_47_2 ⟨fun _ => fin none e, fun q => by exfalso; omega⟩
    | succ t ih =>
      intro n x3 hn h3 e
      have eS : fd (ctp H x1.toNatClampNeg (szG S)) (zET (t + 1) n) = match fd (ctp H x1.toNatClampNeg (szG S)) (zEN n 0) with
        | none => fd (ctp H x1.toNatClampNeg (szG S)) (zET t (n + 1))
        | some x => some x := fd_app _ _
      rw [eS] at e
      refine v_X1_leastCut_61_47_2 ⟨fun q => by exfalso; omega, fun _ => ?_⟩
      rw [g3]
      refine Wp.deep (d := 3 + n) (d' := 6) (ea_cutBy hx n 0 _ _ _ m _ hK.1 hf (by decide) h3 (by omega) (by omega) ?_) (show 3 + n ≤ 6 by omega)
      cases ee : fd (ctp H x1.toNatClampNeg (szG S)) (zEN n 0) with
      | none =>
        rw [ee] at e
        exact ⟨fun _ => ih (n + 1) _ (by omega) (d_inc h3 (by omega)) e, fun q => absurd em q⟩
      | some y =>
        rw [ee] at e
        have ne : y.toInt ≠ -1 := ne_m1 (fun i hi => (zEN_b n 0 y (fd_some _ ee).1 i hi).2)
        exact ⟨fun q => absurd q ne, fun _ => fin (some y) e⟩
  exact v_X1_leastCut_61_47 (loop 4 0 _ rfl (by decide) rfl)
end QCU
end
section
/-! QUESTIONS, exactly: cut, 2 -/
def kIt (x : Int32) (i : Nat) : Int := (ithB x 10 0 i).toInt
def erl (x y : Int32) : Bool := if kIt x 0 = kIt y 0 then (if kIt x 1 = kIt y 1 then (if kIt x 2 = kIt y 2 then false else decide (kIt x 2 < kIt y 2)) else decide (kIt x 1 < kIt y 1)) else decide (kIt x 0 < kIt y 0)
/-- the place of a set among the sets -/
def key (x : Int32) : Int := (pc10 x 10).toInt * 1331 + (kIt x 0 + 1) * 121 + (kIt x 1 + 1) * 11 + (kIt x 2 + 1)
theorem ithB_b {x : Int32} : ∀ (t b r : Nat), b + t ≤ 1000 → -1 ≤ (ithB x t b r).toInt ∧ (ithB x t b r).toInt < ((b + t : Nat) : Int)
  | 0, b, r, _ => by
    have := ti_m1
    show -1 ≤ (-1 : Int32).toInt ∧ (-1 : Int32).toInt < _
    omega
  | t + 1, b, r, h => by
    rw [ithB_s]
    cases bt x b with
    | false =>
      have := ithB_b (x := x) t (b + 1) r (by omega)
      rw [cond_false]
      omega
    | true =>
      rw [cond_true]
      by_cases q : r = 0
      · rw [if_pos q, i32_n (by omega)]; omega
      · have := ithB_b (x := x) t (b + 1) (r - 1) (by omega)
        rw [if_neg q]
        omega
theorem kIt_b (x : Int32) (i : Nat) : -1 ≤ kIt x i ∧ kIt x i ≤ 9 := by
  have := ithB_b (x := x) 10 0 i (by omega)
  unfold kIt
  omega
theorem erl_key {x y : Int32} (h : (pc10 x 10).toInt = (pc10 y 10).toInt) : erl x y = decide (key x < key y) := by
  have a0 := kIt_b x 0
  have a1 := kIt_b x 1
  have a2 := kIt_b x 2
  have b0 := kIt_b y 0
  have b1' := kIt_b y 1
  have b2 := kIt_b y 2
  unfold erl key
  by_cases q0 : kIt x 0 = kIt y 0
  · rw [if_pos q0]
    by_cases q1 : kIt x 1 = kIt y 1
    · rw [if_pos q1]
      by_cases q2 : kIt x 2 = kIt y 2
      · rw [if_pos q2]; exact (decide_eq_false (by omega)).symm
      · rw [if_neg q2]; exact decide_eq_decide.mpr (by omega)
    · rw [if_neg q1]; exact decide_eq_decide.mpr (by omega)
  · rw [if_neg q0]; exact decide_eq_decide.mpr (by omega)
theorem key_lt {x y : Int32} (h : (pc10 x 10).toInt < (pc10 y 10).toInt) : key x < key y := by
  have a0 := kIt_b x 0
  have a1 := kIt_b x 1
  have a2 := kIt_b x 2
  have b0 := kIt_b y 0
  have b1' := kIt_b y 1
  have b2 := kIt_b y 2
  unfold key
  omega
def Sd : List Int32 → Prop
  | [] => True
  | x :: l => (∀ y ∈ l, key x < key y) ∧ Sd l
def chk : Int → List Int32 → Bool
  | _, [] => true
  | k, x :: l => decide (k < key x) && chk (key x) l
theorem chk_ok : ∀ (l : List Int32) (k : Int), chk k l = true → (∀ y ∈ l, k < key y) ∧ Sd l
  | [], k, _ => ⟨fun y hy => absurd hy List.not_mem_nil, trivial⟩
  | x :: l, k, h => by
    have h : (decide (k < key x) && chk (key x) l) = true := h
    rw [Bool.and_eq_true, decide_eq_true_eq] at h
    have ih := chk_ok l (key x) h.2
    refine ⟨fun y hy => ?_, ih⟩
    rcases List.mem_cons.mp hy with q | q
    · rw [q]; exact h.1
    · have := ih.1 y q
      omega
theorem zET_sd : Sd (zET 4 0) := (chk_ok (zET 4 0) (-1) (by decide +kernel)).2
theorem fd_first {p : Int32 → Bool} {c : Int32} : ∀ l : List Int32, Sd l → fd p l = some c → ∀ x ∈ l, p x = true → x = c ∨ key c < key x
  | [], _, h, x, hx, _ => absurd hx List.not_mem_nil
  | y :: l, hs, h, x, hx, hp => by
    rw [fd_s] at h
    cases e : p y with
    | true =>
      rw [e, cond_true] at h
      cases h
      rcases List.mem_cons.mp hx with q | q
      · exact Or.inl q
      · exact Or.inr (hs.1 x q)
    | false =>
      rw [e, cond_false] at h
      rcases List.mem_cons.mp hx with q | q
      · rw [q, e] at hp; cases hp
      · exact fd_first l hs.2 h x q hp
theorem zET_all : ∀ n : Nat, n < 1024 → (pc10 (Int32.ofInt (n : Int)) 10).toInt ≤ 3 → Int32.ofInt (n : Int) ∈ zET 4 0 := by
  have h : (List.range 1024).all (fun n => decide (3 < (pc10 (Int32.ofInt (n : Int)) 10).toInt) || decide (Int32.ofInt (n : Int) ∈ zET 4 0)) = true := by decide +kernel
  intro n hn hp
  have := List.all_eq_true.mp h n (List.mem_range.mpr hn)
  rw [Bool.or_eq_true, decide_eq_true_eq, decide_eq_true_eq] at this
  rcases this with q | q
  · omega
  · exact q
theorem bt_ofI {n i : Nat} (hn : n < 1024) : bt (Int32.ofInt (n : Int)) i = n.testBit i := by
  have e : (Int32.ofInt (n : Int)).toBitVec = BitVec.ofNat 32 n := by
    apply BitVec.eq_of_toNat_eq
    show (BitVec.ofInt 32 (n : Int)).toNat = _
    rw [BitVec.ofInt_natCast]
  unfold bt
  rw [e, BitVec.getLsbD_ofNat]
  by_cases q : i < 32
  · rw [decide_eq_true q, Bool.true_and]
  · rw [decide_eq_false q, Bool.false_and]
    exact (Nat.testBit_lt_two_pow (Nat.lt_of_lt_of_le hn (Nat.pow_le_pow_right (show 0 < 2 by omega) (show 10 ≤ i by omega) : 2 ^ 10 ≤ 2 ^ i))).symm
theorem ofI_bits {x : Int32} {W : Nat} (hW : W ≤ 10) (h : ∀ i : Nat, bt x i = true → i < W) : ∃ n : Nat, n < 2 ^ W ∧ x = Int32.ofInt (n : Int) := by
  refine ⟨x.toBitVec.toNat, ?_, ?_⟩
  · exact Nat.lt_pow_two_of_testBit _ (fun i hi => by
      cases b : x.toBitVec.toNat.testBit i with
      | false => rfl
      | true => have := h i b; omega)
  · apply Int32.toBitVec_inj.mp
    apply BitVec.eq_of_toNat_eq
    show _ = (BitVec.ofInt 32 (x.toBitVec.toNat : Int)).toNat
    rw [BitVec.ofInt_natCast, BitVec.toNat_ofNat]
    exact (Nat.mod_eq_of_lt x.toBitVec.isLt).symm
def bet (o : Option Int32) (x : Int32) : Bool := match o with
  | none => true
  | some b => decide (key x < key b)
/-- the best set among the first so many -/
def rfB (H : Ho) (f : Nat) (g : Int32) : Nat → Option Int32
  | 0 => none
  | j + 1 => if ((pc10 (Int32.ofInt (j : Int)) 10).toInt ≤ 3 ∧ Int32.ofInt (j : Int) &&& g = 0 ∧ lt H (g ||| Int32.ofInt (j : Int)) f = false) ∧ bet (rfB H f g j) (Int32.ofInt (j : Int)) = true then some (Int32.ofInt (j : Int)) else rfB H f g j
section QCV
variable {H : Ho} {S : Zt} {P : List Zt} {L : Nat → Zt} {m : dM} {s : Nat} {x1 x2 : Int32} {f : Nat} {g : Int32}
theorem rfB_s {j : Nat} : rfB H f g (j + 1) = if ((pc10 (Int32.ofInt (j : Int)) 10).toInt ≤ 3 ∧ Int32.ofInt (j : Int) &&& g = 0 ∧ lt H (g ||| Int32.ofInt (j : Int)) f = false) ∧ bet (rfB H f g j) (Int32.ofInt (j : Int)) = true then some (Int32.ofInt (j : Int)) else rfB H f g j := rfl
/-- a set that may be told -/
def ctO (H : Ho) (f : Nat) (g x : Int32) : Prop := (pc10 x 10).toInt ≤ 3 ∧ x &&& g = 0 ∧ lt H (g ||| x) f = false
theorem rfB_inv : ∀ j : Nat, (rfB H f g j = none → ∀ i : Nat, i < j → ¬ ctO H f g (Int32.ofInt (i : Int))) ∧ ∀ b : Int32, rfB H f g j = some b → (∃ i : Nat, i < j ∧ b = Int32.ofInt (i : Int)) ∧ ctO H f g b ∧ ∀ i : Nat, i < j → ctO H f g (Int32.ofInt (i : Int)) → key b ≤ key (Int32.ofInt (i : Int))
  | 0 => ⟨fun _ i hi => absurd hi (Nat.not_lt_zero i), (fun b h => by have h : (none : Option Int32) = some b := h; cases h)⟩
  | j + 1 => by
    have ih := rfB_inv j
    rw [rfB_s]
    by_cases q : ((pc10 (Int32.ofInt (j : Int)) 10).toInt ≤ 3 ∧ Int32.ofInt (j : Int) &&& g = 0 ∧ lt H (g ||| Int32.ofInt (j : Int)) f = false) ∧ bet (rfB H f g j) (Int32.ofInt (j : Int)) = true
    · rw [if_pos q]
      refine ⟨(fun h => by cases h), fun b h => ?_⟩
      cases h
      refine ⟨⟨j, by omega, rfl⟩, q.1, fun i hi ho => ?_⟩
      by_cases e : i = j
      · rw [e]; exact Int.le_refl _
      · cases r : rfB H f g j with
        | none => exact absurd ho (ih.1 r i (by omega))
        | some b =>
          have k1 := (ih.2 b r).2.2 i (by omega) ho
          have k2 := q.2
          rw [r] at k2
          have k2 : key (Int32.ofInt (j : Int)) < key b := of_decide_eq_true k2
          omega
    · rw [if_neg q]
      refine ⟨fun h i hi ho => ?_, fun b h => ?_⟩
      · by_cases e : i = j
        · rw [e] at ho
          exact q ⟨ho, by rw [h]; rfl⟩
        · exact ih.1 h i (by omega) ho
      · obtain ⟨⟨i0, i1, i2⟩, c, d⟩ := ih.2 b h
        refine ⟨⟨i0, by omega, i2⟩, c, fun i hi ho => ?_⟩
        by_cases e : i = j
        · rw [e] at ho ⊢
          by_cases l : key (Int32.ofInt (j : Int)) < key b
          · exact absurd ⟨ho, by rw [h]; exact decide_eq_true l⟩ q
          · omega
        · exact d i (by omega) ho
theorem pw {W : Nat} (h : W ≤ 10) : (b1 W).toInt = ((2 ^ W : Nat) : Int) := by
  match W, h with
  | 0, _ | 1, _ | 2, _ | 3, _ | 4, _ | 5, _ | 6, _ | 7, _ | 8, _ | 9, _ | 10, _ => decide
  | W + 11, h => omega
theorem rfB_fd (h10 : hoW H ≤ 10) : rfB H f g (2 ^ hoW H) = fd (ctp H f g) (zET 4 0) := by
  have le : 2 ^ hoW H ≤ 1024 := (Nat.pow_le_pow_right (show 0 < 2 by omega) h10 : 2 ^ hoW H ≤ 2 ^ 10)
  have inv := rfB_inv (H := H) (f := f) (g := g) (2 ^ hoW H)
  have of : ∀ x : Int32, x ∈ zET 4 0 → ctp H f g x = true → ∃ n : Nat, n < 2 ^ hoW H ∧ x = Int32.ofInt (n : Int) ∧ ctO H f g x := fun x hx hp => by
    have w := ctp_iff.mp hp
    obtain ⟨n, n1, n2⟩ := ofI_bits h10 (x := x) (fun i hi => w.2.1 i (zET_b 4 0 x hx i hi) hi)
    exact ⟨n, n1, n2, (zET_n x hx).2, w.1, w.2.2⟩
  cases r : rfB H f g (2 ^ hoW H) with
  | none =>
    refine (fd_none _ (fun x hx => ?_)).symm
    cases e : ctp H f g x with
    | false => rfl
    | true =>
      obtain ⟨n, n1, n2, n3⟩ := of x hx e
      rw [n2] at n3
      exact absurd n3 (inv.1 r n n1)
  | some b =>
    obtain ⟨⟨i, i1, i2⟩, c, d⟩ := inv.2 b r
    have mb : b ∈ zET 4 0 := by rw [i2]; exact zET_all i (by omega) (by rw [← i2]; exact c.1)
    have pb : ctp H f g b = true := by
      have bw : ∀ k : Nat, k < 10 → bt b k = true → k < hoW H := fun k k1 k2 => by
        rw [i2, bt_ofI (by omega)] at k2
        by_cases q : k < hoW H
        · exact q
        · have : i.testBit k = false := Nat.testBit_lt_two_pow (Nat.lt_of_lt_of_le i1 (Nat.pow_le_pow_right (show 0 < 2 by omega) (show hoW H ≤ k by omega) : 2 ^ hoW H ≤ 2 ^ k))
          rw [this] at k2
          cases k2
      exact ctp_iff.mpr ⟨c.2.1, bw, c.2.2⟩
    cases e : fd (ctp H f g) (zET 4 0) with
    | none =>
      have := fd_no _ e b mb
      rw [pb] at this
      cases this
    | some y =>
      have fy := fd_some _ e
      obtain ⟨n, n1, n2, n3⟩ := of y fy.1 fy.2
      rcases fd_first _ zET_sd e b mb pb with q | q
      · rw [q]
      · rw [n2] at n3
        have := d n n1 n3
        rw [← n2] at this
        omega
theorem eb_ith {x0 : Int32} {k : Nat} {Q : Int32 → dM → Prop} {M : dM} (h1 : x1.toInt = (k : Int)) (hk : k ≤ 3) (hQ : Q (ithB x0 10 0 k) M) : c_X12_ithOf 1 x0 x1 M Q := by
  have loop : ∀ (t b r : Nat) (x2 x3 : Int32), b + t = 10 → x3.toInt = (b : Int) → x2.toInt + (r : Int) = (k : Int) → 0 ≤ x2.toInt → Q (ithB x0 t b r) M → j_X12_ithOf_4 1 x0 x1 x2 x3 M Q := by
    intro t
    induction t with
    | zero => intro b r x2 x3 hb h3 h2 h20 hq; exact v_X12_ithOf_4 ⟨fun _ => hq, fun q => by exfalso; omega⟩
    | succ t ih =>
      intro b r x2 x3 hb h3 h2 h20 hq
      rw [ithB_s] at hq
      refine v_X12_ithOf_4 ⟨fun q => by exfalso; omega, fun _ => ?_⟩
      rw [bt_s h3 (by omega)]
      cases e : bt x0 b with
      | true =>
        rw [e, cond_true] at hq
        refine ⟨fun _ => ⟨fun ne => v_X12_ithOf_31 ?_, fun ee => ?_⟩, fun q => absurd q (by decide)⟩
        · rw [if_neg (by omega)] at hq
          have fa := dAddE (X := x2.toInt) (Y := 1) (x := x2) (y := (1 : Int32)) rfl (by decide) (by omega) (by omega)
          exact ih (b + 1) (r - 1) _ _ (by omega) (d_inc h3 (by omega)) (by omega) (by omega) hq
        · rw [if_pos (by omega), ofI h3] at hq
          exact hq
      | false =>
        rw [e, cond_false] at hq
        exact ⟨fun q => absurd rfl q, fun _ => v_X12_ithOf_31 (ih (b + 1) r _ _ (by omega) (d_inc h3 (by omega)) h2 h20 hq)⟩
  exact v_X12_ithOf (loop 10 0 k _ _ rfl (by decide) (by have := ti_0; omega) (by decide) hQ)
theorem eb_earlier {x0 y0 : Int32} {Q : Int32 → dM → Prop} {M : dM} (hQ : Q (bi (erl x0 y0)) M) : c_X12_isEarlier 2 x0 y0 M Q := by
  have step : ∀ (i : Nat) (x2 : Int32), x2.toInt = (i : Int) → i < 3 → (kIt x0 i = kIt y0 i → j_X12_isEarlier_2 2 x0 y0 (x2 + (1 : Int32)) M Q) → (kIt x0 i ≠ kIt y0 i → Q (bi (decide (kIt x0 i < kIt y0 i))) M) → j_X12_isEarlier_2 2 x0 y0 x2 M Q := fun i x2 h2 hi he hn => by
    refine v_X12_isEarlier_2 ⟨fun q => by exfalso; omega, fun _ => eb_ith h2 (by omega) (eb_ith h2 (by omega) ⟨fun e => he e, fun ne => eb_ith h2 (by omega) (eb_ith h2 (by omega) ⟨fun le => ?_, fun l => ?_⟩)⟩)⟩
    · have := hn ne
      rw [decide_eq_false (by unfold kIt; omega)] at this
      exact this
    · have := hn ne
      rw [decide_eq_true (by unfold kIt; omega)] at this
      exact this
  unfold erl at hQ
  refine v_X12_isEarlier (step 0 _ (by decide) (by omega) (fun e0 => ?_) (fun n0 => by rw [if_neg n0] at hQ; exact hQ))
  rw [if_pos e0] at hQ
  refine step 1 _ (by decide) (by omega) (fun e1 => ?_) (fun n1 => by rw [if_neg n1] at hQ; exact hQ)
  rw [if_pos e1] at hQ
  refine step 2 _ (by decide) (by omega) (fun e2 => ?_) (fun n2 => by rw [if_neg n2] at hQ; exact hQ)
  rw [if_pos e2] at hQ
  exact v_X12_isEarlier_2 ⟨fun _ => hQ, fun q => absurd q (by decide)⟩
theorem eb_cut {Q : Int32 → dM → Prop} (hK : KR H S P L s m) (hO : zOk H S) (hQ : ∀ m' : dM, RsF m m' → Q (aCt H S x1 x2) m') : c_X12_cut_70 8 x1 x2 m Q := by
  have f7 := hK.1.1.1
  have w10 := hK.1.1.2.1
  have hQ' : ∀ (v : Int32) (m' : dM), aCt H S x1 x2 = v → RsF m m' → Q v m' := fun v m' e q => by rw [← e]; exact hQ m' q
  have em := ti_m1
  have e2 := ti_2
  have no : ¬ ((0 ≤ x1.toInt ∧ x1.toInt < (hoF H : Int)) ∧ -1 ≤ x2.toInt ∧ x2.toInt ≤ 2) → j_X12_cut_70_17 8 m Q := fun q => v_X12_cut_70_17 (hQ' _ m (by unfold aCt; rw [if_neg q]) (RsF.rf m))
  refine v_X12_cut_70 (Wp.deep (y_isFlatr hK.1 (fun hu => ⟨fun z => absurd z (by decide), fun _ => Wp.deep (y_in (fun h => ⟨fun _ => Wp.deep (eb_gone hK hO ?_) (Nat.le_of_ble_eq_true rfl), fun z => absurd z (by decide)⟩) (fun q => ⟨fun z => absurd rfl z, fun _ => no (by omega)⟩)) (Nat.le_of_ble_eq_true rfl)⟩) (fun hu => ⟨fun _ => no (fun w => hu w.1), fun z => absurd rfl z⟩)) (Nat.le_of_ble_eq_true rfl))
  have hx := toNat_of hu.1
  have eA : aCt H S x1 x2 = (match fd (ctp H x1.toNatClampNeg (szG S)) (zET 4 0) with
    | none => -2
    | some y => if x2.toInt = -1 then pc10 y 10 else ithB y 10 0 x2.toNatClampNeg) := by unfold aCt; exact if_pos (by omega)
  rw [← rfB_fd w10] at eA
  generalize x1.toNatClampNeg = f at hx eA
  have b := pw w10
  have le : 2 ^ hoW H ≤ 1024 := (Nat.pow_le_pow_right (show 0 < 2 by omega) w10 : 2 ^ hoW H ≤ 2 ^ 10)
  generalize 2 ^ hoW H = N at b le eA
  have bits : ∀ (y : Int32) (M : dM) (Q' : Int32 → dM → Prop), Q' (pc10 y 10) M → c_X12_bits 7 y M Q' := fun y M Q' h => Wp.deep (eb_bits h) (Nat.le_of_ble_eq_true rfl)
  have fin : ∀ (M : dM), RsF m M → (0 ≤ (cvt (rfB H f (szG S) N)).toInt → (x2.toInt ≠ (-1) → c_X12_ithOf 7 (cvt (rfB H f (szG S) N)) x2 M (fun r1 m1 => Q r1 m1)) ∧ (x2.toInt = (-1) → c_X12_bits 7 (cvt (rfB H f (szG S) N)) M (fun r2 m2 => Q r2 m2))) ∧ ((cvt (rfB H f (szG S) N)).toInt < 0 → Q (-2 : Int32) M) := fun M fM => by
    have inv := rfB_inv (H := H) (f := f) (g := szG S) N
    cases r : rfB H f (szG S) N with
    | none =>
      rw [r] at eA
      refine ⟨fun q => ?_, fun _ => hQ' _ M eA fM⟩
      exfalso
      have q : 0 ≤ (-1 : Int32).toInt := q
      omega
    | some y =>
      rw [r] at eA
      have eA : aCt H S x1 x2 = if x2.toInt = -1 then pc10 y 10 else ithB y 10 0 x2.toNatClampNeg := eA
      obtain ⟨⟨i, i1, i2⟩, _, _⟩ := inv.2 y r
      have iy : y.toInt = (i : Int) := by rw [i2]; exact i32_n (by omega)
      refine ⟨fun _ => ⟨fun ne => ?_, fun e => bits _ M _ (hQ' _ M (by rw [eA, if_pos e]; rfl) fM)⟩, fun q => ?_⟩
      · have h2 := toNat_of (x := x2) (by omega)
        exact Wp.deep (eb_ith h2 (by omega) (hQ' _ M (by rw [eA, if_neg ne]; rfl) fM)) (Nat.le_of_ble_eq_true rfl)
      · exfalso
        have q : y.toInt < 0 := q
        omega
  have loop : ∀ (t j : Nat) (x5 : Int32) (M : dM), j + t = N → x5.toInt = (j : Int) → RsF m M → j_X12_cut_70_30 8 x1 x2 (szG S) (cvt (rfB H f (szG S) j)) x5 M Q := by
    intro t
    induction t with
    | zero =>
      intro j x5 M hj h5 fM
      have hKM := hK.rs fM
      have a := hKM.1.2.1.1
      have ej : j = N := by omega
      refine v_X12_cut_70_30 ?_
      rw [d_cn a.1, b1_of hKM.1.2.1.2.2.1.1, ej]
      exact ⟨by omega, fun _ => fin M fM, fun q => by exfalso; omega⟩
    | succ t ih =>
      intro j x5 M hj h5 fM
      have hKM := hK.rs fM
      have a := hKM.1.2.1.1
      have n := ih (j + 1)
      rw [rfB_s, ofI h5] at n
      have inv := rfB_inv (H := H) (f := f) (g := szG S) j
      have keep : ∀ M1 : dM, RsF m M1 → ¬ (((pc10 x5 10).toInt ≤ 3 ∧ x5 &&& szG S = 0 ∧ lt H (szG S ||| x5) f = false) ∧ bet (rfB H f (szG S) j) x5 = true) → j_X12_cut_70_127 8 x1 x2 (szG S) (cvt (rfB H f (szG S) j)) x5 M1 Q := fun M1 f1 q => by
        rw [if_neg q] at n
        exact v_X12_cut_70_127 (n _ M1 (by omega) (d_inc h5 (by omega)) f1)
      have tr : (pc10 x5 10).toInt ≤ 3 → x5 &&& szG S = 0 → bet (rfB H f (szG S) j) x5 = true → j_X12_cut_70_109 8 x1 x2 (szG S) (cvt (rfB H f (szG S) j)) x5 M Q := fun q1 q2 q3 => v_X12_cut_70_109 (y_loses hK fM (fun M1 f1 W1 L1 => Wp.deep (y_isLit L1 hx (by omega) (fun g => ⟨fun _ => keep M1 f1 (fun w => by have := w.1.2.2; rw [g] at this; cases this), fun z => absurd z (by decide)⟩) (fun g => ⟨fun z => absurd rfl z, fun _ => by
        rw [if_pos ⟨⟨q1, q2, g⟩, q3⟩] at n
        exact v_X12_cut_70_127 (n _ M1 (by omega) (d_inc h5 (by omega)) f1)⟩)) (Nat.le_of_ble_eq_true rfl)))
      refine v_X12_cut_70_30 ?_
      rw [d_cn a.1, b1_of hKM.1.2.1.2.2.1.1]
      refine ⟨by omega, fun q => by exfalso; omega, fun _ => bits _ M _ ⟨fun g => keep M fM (fun w => by have := w.1.1; omega), fun le3 => ⟨fun z => ?_, fun nz => keep M fM (fun w => nz (by rw [w.1.2.1]; exact ti_0))⟩⟩⟩
      have z0 : x5 &&& szG S = 0 := z_of z
      cases r : rfB H f (szG S) j with
      | none =>
        rw [r] at keep tr
        refine ⟨fun _ => tr le3 z0 rfl, fun q => ?_⟩
        exfalso
        have q : 0 ≤ (-1 : Int32).toInt := q
        omega
      | some y =>
        rw [r] at keep tr
        obtain ⟨⟨i, i1, i2⟩, _, _⟩ := inv.2 y r
        have iy : y.toInt = (i : Int) := by rw [i2]; exact i32_n (by omega)
        refine ⟨fun q => ?_, fun _ => bits _ M _ (bits _ M _ ⟨fun l => keep M fM (fun w => ?_), fun le2 => bits _ M _ (bits _ M _ ⟨fun ne => tr le3 z0 ?_, fun ee => Wp.deep (eb_earlier ⟨fun e => tr le3 z0 ?_, fun e => keep M fM (fun w => ?_)⟩) (Nat.le_of_ble_eq_true rfl)⟩)⟩)⟩
        · exfalso
          have q : y.toInt < 0 := q
          omega
        · have k : key x5 < key y := of_decide_eq_true w.2
          have l : (pc10 y 10).toInt < (pc10 x5 10).toInt := l
          have := key_lt l
          omega
        · have ne : (pc10 x5 10).toInt ≠ (pc10 y 10).toInt := ne
          have le2 : (pc10 x5 10).toInt ≤ (pc10 y 10).toInt := le2
          exact decide_eq_true (key_lt (by omega))
        · have ee : (pc10 x5 10).toInt = (pc10 y 10).toInt := ee
          have e := bi_ne0 e
          have e : erl x5 y = true := e
          rw [erl_key ee] at e
          exact e
        · have ee : (pc10 x5 10).toInt = (pc10 y 10).toInt := ee
          have e := bi_eq0 e
          have e : erl x5 y = false := e
          rw [erl_key ee] at e
          have w2 : decide (key x5 < key y) = true := w.2
          rw [e] at w2
          cases w2
  exact loop N 0 _ m (by omega) (by decide) (RsF.rf m)
end QCV
end
section
/-! EVERY CALL OF BOTH KEEPS Ok (printed by wip/p34/mk50.py) -/
theorem a_X11_flat {x1 : Int32} {x2 : Int32} {m : dM} {Q : Int32 → dM → Prop} (hO : Ok m) (hQ : ∀ (r : Int32) (m' : dM), Ok m' ∧ Kp m m' → Q r m') : Wp 600 251 0 [oR 0, oI x1, oI x2, none] [] m (qI Q) := Wp.deep (s_X11_flat_0 hO.1 hO.2 (fun r m' I => hQ r m' ⟨Ok.of hO.1 I, Kp.of I⟩)) (Nat.le_of_ble_eq_true rfl)
theorem a_X11_wire {x1 : Int32} {x2 : Int32} {m : dM} {Q : Int32 → dM → Prop} (hO : Ok m) (hQ : ∀ (r : Int32) (m' : dM), Ok m' ∧ Kp m m' → Q r m') : Wp 600 252 0 [oR 0, oI x1, oI x2] [] m (qI Q) := Wp.deep (s_X11_wire_0 hO.1 hO.2 (fun r m' I => hQ r m' ⟨Ok.of hO.1 I, Kp.of I⟩)) (Nat.le_of_ble_eq_true rfl)
theorem a_X11_use {x1 : Int32} {x2 : Int32} {m : dM} {Q : Int32 → dM → Prop} (hO : Ok m) (hQ : ∀ (r : Int32) (m' : dM), Ok m' ∧ Kp m m' → Q r m') : Wp 600 253 0 [oR 0, oI x1, oI x2, none] [] m (qI Q) := Wp.deep (s_X11_use_0 hO.1 hO.2 (fun r m' I => hQ r m' ⟨Ok.of hO.1 I, Kp.of I⟩)) (Nat.le_of_ble_eq_true rfl)
theorem a_X11_agree {x1 : Int32} {x2 : Int32} {m : dM} {Q : Int32 → dM → Prop} (hO : Ok m) (h2 : 0 ≤ x2.toInt ∧ x2.toInt ≤ 1) (hQ : ∀ (r : Int32) (m' : dM), Ok m' ∧ Kp m m' → Q r m') : Wp 600 254 0 [oR 0, oI x1, oI x2] [] m (qI Q) := Wp.deep (s_X11_agree_0 hO.1 hO.2 h2 (fun r m' I _ => hQ r m' ⟨Ok.of hO.1 I, Kp.of I⟩)) (Nat.le_of_ble_eq_true rfl)
theorem a_X11_mend {x1 : Int32} {m : dM} {Q : Int32 → dM → Prop} (hO : Ok m) (hQ : ∀ (r : Int32) (m' : dM), Ok m' ∧ Kp m m' → Q r m') : Wp 600 255 0 [oR 0, oI x1, none] [] m (qI Q) := Wp.deep (s_X11_mend_0 hO.1 hO.2 (fun r m' I => hQ r m' ⟨Ok.of hO.1 I, Kp.of I⟩)) (Nat.le_of_ble_eq_true rfl)
theorem a_X11_thicken {x1 : Int32} {m : dM} {Q : Int32 → dM → Prop} (hO : Ok m) (hQ : ∀ (r : Int32) (m' : dM), Ok m' ∧ Kp m m' → Q r m') : Wp 600 256 0 [oR 0, oI x1, none] [] m (qI Q) := Wp.deep (s_X11_thicken_0 hO.1 hO.2 (fun r m' I => hQ r m' ⟨Ok.of hO.1 I, Kp.of I⟩)) (Nat.le_of_ble_eq_true rfl)
theorem a_X11_pin {x1 : Int32} {x2 : Int32} {m : dM} {Q : Int32 → dM → Prop} (hO : Ok m) (h2 : 0 ≤ x2.toInt ∧ x2.toInt ≤ 1) (hQ : ∀ (r : Int32) (m' : dM), Ok m' ∧ Kp m m' → Q r m') : Wp 600 257 0 [oR 0, oI x1, oI x2] [] m (qI Q) := Wp.deep (s_X11_pin_0 hO.1 hO.2 h2 (fun r m' I _ => hQ r m' ⟨Ok.of hO.1 I, Kp.of I⟩)) (Nat.le_of_ble_eq_true rfl)
theorem a_X11_hours {x1 : Int32} {m : dM} {Q : Int32 → dM → Prop} (hO : Ok m) (hQ : ∀ (r : Int32) (m' : dM), Ok m' ∧ Kp m m' → Q r m') : Wp 600 258 0 [oR 0, oI x1, none] [] m (qI Q) := Wp.deep (s_X11_hours_0 hO.1 hO.2 (fun r m' I => hQ r m' ⟨Ok.of hO.1 I, Kp.of I⟩)) (Nat.le_of_ble_eq_true rfl)
theorem a_X11_undo  {m : dM} {Q : Int32 → dM → Prop} (hO : Ok m) (hQ : ∀ (r : Int32) (m' : dM), Ok m' ∧ Kp m m' → Q r m') : Wp 600 259 0 [oR 0] [] m (qI Q) := Wp.deep (s_X11_undo_0 hO.1 hO.2 (fun r m' I _ => hQ r m' ⟨Ok.of hO.1 I, Kp.of I⟩)) (Nat.le_of_ble_eq_true rfl)
theorem a_X11_way {x1 : Int32} {x2 : Int32} {m : dM} {Q : Int32 → dM → Prop} (hO : Ok m) (hQ : ∀ (r : Int32) (m' : dM), Ok m' ∧ Kp m m' → Q r m') : Wp 600 260 0 [oR 0, oI x1, oI x2, none] [] m (qI Q) := Wp.deep (s_X11_way_0 hO.1 hO.2 (fun r m' I _ => hQ r m' ⟨Ok.of hO.1 I, Kp.of I⟩)) (Nat.le_of_ble_eq_true rfl)
theorem a_X11_peak {x1 : Int32} {x2 : Int32} {x3 : Int32} {m : dM} {Q : Int32 → dM → Prop} (hO : Ok m) (hQ : ∀ (r : Int32) (m' : dM), Ok m' ∧ Kp m m' → Q r m') : Wp 600 261 0 [oR 0, oI x1, oI x2, oI x3] [] m (qI Q) := Wp.deep (s_X11_peak_0 hO.1 hO.2 (fun r m' I _ => hQ r m' ⟨Ok.of hO.1 I, Kp.of I⟩)) (Nat.le_of_ble_eq_true rfl)
theorem a_X11_first {x1 : Int32} {m : dM} {Q : Int32 → dM → Prop} (hO : Ok m) (hQ : ∀ (r : Int32) (m' : dM), Ok m' ∧ Kp m m' → Q r m') : Wp 600 262 0 [oR 0, oI x1, none] [] m (qI Q) := Wp.deep (s_X11_first_0 hO.1 hO.2 (fun r m' I _ => hQ r m' ⟨Ok.of hO.1 I, Kp.of I⟩)) (Nat.le_of_ble_eq_true rfl)
theorem a_X11_together {x1 : Int32} {m : dM} {Q : Int32 → dM → Prop} (hO : Ok m) (hQ : ∀ (r : Int32) (m' : dM), Ok m' ∧ Kp m m' → Q r m') : Wp 600 263 0 [oR 0, oI x1, none] [] m (qI Q) := Wp.deep (s_X11_together_0 hO.1 hO.2 (fun r m' I => hQ r m' ⟨Ok.of hO.1 I, Kp.of I⟩)) (Nat.le_of_ble_eq_true rfl)
theorem a_X11_when {x1 : Int32} {m : dM} {Q : Int32 → dM → Prop} (hO : Ok m) (hQ : ∀ (r : Int32) (m' : dM), Ok m' ∧ Kp m m' → Q r m') : Wp 600 264 0 [oR 0, oI x1] [] m (qI Q) := Wp.deep (s_X11_when_0 hO.1 hO.2 (fun r m' I => hQ r m' ⟨Ok.of hO.1 I, Kp.of I⟩)) (Nat.le_of_ble_eq_true rfl)
theorem a_X11_thick {x1 : Int32} {m : dM} {Q : Int32 → dM → Prop} (hO : Ok m) (hQ : ∀ (r : Int32) (m' : dM), Ok m' ∧ Kp m m' → Q r m') : Wp 600 265 0 [oR 0, oI x1] [] m (qI Q) := Wp.deep (s_X11_thick_0 hO.1 hO.2 (fun r m' I _ => hQ r m' ⟨Ok.of hO.1 I, Kp.of I⟩)) (Nat.le_of_ble_eq_true rfl)
theorem a_X11_cut {x1 : Int32} {x2 : Int32} {m : dM} {Q : Int32 → dM → Prop} (hO : Ok m) (hQ : ∀ (r : Int32) (m' : dM), Ok m' ∧ Kp m m' → Q r m') : Wp 600 266 0 [oR 0, oI x1, oI x2, none] [] m (qI Q) := Wp.deep (s_X11_cut_0 hO.1 hO.2 (fun r _ => hQ r m ⟨hO, Kp.rf m⟩)) (Nat.le_of_ble_eq_true rfl)
theorem a_X11_share {x1 : Int32} {x2 : Int32} {m : dM} {Q : Int32 → dM → Prop} (hO : Ok m) (hQ : ∀ (r : Int32) (m' : dM), Ok m' ∧ Kp m m' → Q r m') : Wp 600 267 0 [oR 0, oI x1, oI x2, none] [] m (qI Q) := Wp.deep (s_X11_share_0 hO.1 hO.2 (fun r m' I => hQ r m' ⟨Ok.of hO.1 I, Kp.of I⟩)) (Nat.le_of_ble_eq_true rfl)
theorem a_X11_without {x1 : Int32} {m : dM} {Q : Int32 → dM → Prop} (hO : Ok m) (hQ : ∀ (r : Int32) (m' : dM), Ok m' ∧ Kp m m' → Q r m') : Wp 600 268 0 [oR 0, oI x1] [] m (qI Q) := Wp.deep (s_X11_without_0 hO.1 hO.2 (fun r => hQ r m ⟨hO, Kp.rf m⟩)) (Nat.le_of_ble_eq_true rfl)
theorem a_X11_needed  {m : dM} {Q : Int32 → dM → Prop} (hO : Ok m) (hQ : ∀ (r : Int32) (m' : dM), Ok m' ∧ Kp m m' → Q r m') : Wp 600 269 0 [oR 0, none, none, none] [] m (qI Q) := Wp.deep (s_X11_needed_0 hO.1 hO.2 (fun r => hQ r m ⟨hO, Kp.rf m⟩)) (Nat.le_of_ble_eq_true rfl)
theorem a_X11_hottest {x1 : Int32} {m : dM} {Q : Int32 → dM → Prop} (hO : Ok m) (hQ : ∀ (r : Int32) (m' : dM), Ok m' ∧ Kp m m' → Q r m') : Wp 600 270 0 [oR 0, oI x1, none, none, none, none] [] m (qI Q) := Wp.deep (s_X11_hottest_0 hO.1 hO.2 (fun r m' I => hQ r m' ⟨Ok.of hO.1 I, Kp.of I⟩)) (Nat.le_of_ble_eq_true rfl)
theorem a_X11_clash {x1 : Int32} {x2 : Int32} {m : dM} {Q : Int32 → dM → Prop} (hO : Ok m) (hQ : ∀ (r : Int32) (m' : dM), Ok m' ∧ Kp m m' → Q r m') : Wp 600 271 0 [oR 0, oI x1, oI x2] [] m (qI Q) := Wp.deep (s_X11_clash_0 hO.1 hO.2 (fun r m' I _ => hQ r m' ⟨Ok.of hO.1 I, Kp.of I⟩)) (Nat.le_of_ble_eq_true rfl)
theorem a_X11_then {x1 : Int32} {x2 : Int32} {m : dM} {Q : Int32 → dM → Prop} (hO : Ok m) (hQ : ∀ (r : Int32) (m' : dM), Ok m' ∧ Kp m m' → Q r m') : Wp 600 272 0 [oR 0, oI x1, oI x2, none] [] m (qI Q) := Wp.deep (s_X11_then_0 hO.1 hO.2 (fun r m' I => hQ r m' ⟨Ok.of hO.1 I, Kp.of I⟩)) (Nat.le_of_ble_eq_true rfl)
theorem a_X11_litIn {x1 : Int32} {x2 : Int32} {m : dM} {Q : Int32 → dM → Prop} (hO : Ok m) (hQ : ∀ (r : Int32) (m' : dM), Ok m' ∧ Kp m m' → Q r m') : Wp 600 273 0 [oR 0, oI x1, oI x2] [] m (qI Q) := Wp.deep (s_X11_litIn_0 hO.1 hO.2 (fun r m' I _ => hQ r m' ⟨Ok.of hO.1 I, Kp.of I⟩)) (Nat.le_of_ble_eq_true rfl)
theorem a_X11_year {x1 : Int32} {x2 : Int32} {m : dM} {Q : Int32 → dM → Prop} (hO : Ok m) (hQ : ∀ (r : Int32) (m' : dM), Ok m' ∧ Kp m m' → Q r m') : Wp 600 274 0 [oR 0, oI x1, oI x2] [] m (qI Q) := Wp.deep (s_X11_year_0 hO.1 hO.2 (fun r m' I => hQ r m' ⟨Ok.of hO.1 I, Kp.of I⟩)) (Nat.le_of_ble_eq_true rfl)
theorem a_X11_went {x1 : Int32} {x2 : Int32} {m : dM} {Q : Int32 → dM → Prop} (hO : Ok m) (hQ : ∀ (r : Int32) (m' : dM), Ok m' ∧ Kp m m' → Q r m') : Wp 600 277 0 [oR 0, oI x1, oI x2, none] [] m (qI Q) := Wp.deep (s_X11_went_0 hO.1 hO.2 (fun r => hQ r m ⟨hO, Kp.rf m⟩)) (Nat.le_of_ble_eq_true rfl)
theorem a_X11_ask {x1 : Int32} {m : dM} {Q : Int32 → dM → Prop} (hO : Ok m) (hQ : ∀ (r : Int32) (m' : dM), Ok m' ∧ Kp m m' → Q r m') : Wp 600 278 0 [oR 0, oI x1] [] m (qI Q) := Wp.deep (s_X11_ask_0 hO.1 hO.2 (fun r _ => hQ r m ⟨hO, Kp.rf m⟩)) (Nat.le_of_ble_eq_true rfl)
theorem a_X11_count {x1 : Int32} {m : dM} {Q : Int32 → dM → Prop} (hO : Ok m) (hQ : ∀ (r : Int32) (m' : dM), Ok m' ∧ Kp m m' → Q r m') : Wp 600 281 0 [oR 0, oI x1] [] m (qI Q) := Wp.deep (s_X11_count_0 hO.1 hO.2 (fun r m' I => hQ r m' ⟨Ok.of hO.1 I, Kp.of I⟩)) (Nat.le_of_ble_eq_true rfl)
theorem a_X12_flat {x1 : Int32} {x2 : Int32} {m : dM} {Q : Int32 → dM → Prop} (hO : Ok m) (hQ : ∀ (r : Int32) (m' : dM), Ok m' ∧ Kp m m' → Q r m') : Wp 600 69 0 [oR 70, oI x1, oI x2] [] m (qI Q) := Wp.deep (s_X12_flat_70 hO.1 hO.2 (fun r m' I => hQ r m' ⟨Ok.of hO.1 I, Kp.of I⟩)) (Nat.le_of_ble_eq_true rfl)
theorem a_X12_wire {x1 : Int32} {x2 : Int32} {m : dM} {Q : Int32 → dM → Prop} (hO : Ok m) (hQ : ∀ (r : Int32) (m' : dM), Ok m' ∧ Kp m m' → Q r m') : Wp 600 71 0 [oR 70, oI x1, oI x2] [] m (qI Q) := Wp.deep (s_X12_wire_70 hO.1 hO.2 (fun r m' I => hQ r m' ⟨Ok.of hO.1 I, Kp.of I⟩)) (Nat.le_of_ble_eq_true rfl)
theorem a_X12_use {x1 : Int32} {x2 : Int32} {m : dM} {Q : Int32 → dM → Prop} (hO : Ok m) (hQ : ∀ (r : Int32) (m' : dM), Ok m' ∧ Kp m m' → Q r m') : Wp 600 72 0 [oR 70, oI x1, oI x2] [] m (qI Q) := Wp.deep (s_X12_use_70 hO.1 hO.2 (fun r m' I => hQ r m' ⟨Ok.of hO.1 I, Kp.of I⟩)) (Nat.le_of_ble_eq_true rfl)
theorem a_X12_agree {x1 : Int32} {x2 : Int32} {m : dM} {Q : Int32 → dM → Prop} (hO : Ok m) (h2 : 0 ≤ x2.toInt ∧ x2.toInt ≤ 1) (hQ : ∀ (r : Int32) (m' : dM), Ok m' ∧ Kp m m' → Q r m') : Wp 600 74 0 [oR 70, oI x1, oI x2] [] m (qI Q) := Wp.deep (s_X12_agree_70 hO.1 hO.2 h2 (fun r m' I _ => hQ r m' ⟨Ok.of hO.1 I, Kp.of I⟩)) (Nat.le_of_ble_eq_true rfl)
theorem a_X12_mend {x1 : Int32} {m : dM} {Q : Int32 → dM → Prop} (hO : Ok m) (hQ : ∀ (r : Int32) (m' : dM), Ok m' ∧ Kp m m' → Q r m') : Wp 600 75 0 [oR 70, oI x1] [] m (qI Q) := Wp.deep (s_X12_mend_70 hO.1 hO.2 (fun r m' I => hQ r m' ⟨Ok.of hO.1 I, Kp.of I⟩)) (Nat.le_of_ble_eq_true rfl)
theorem a_X12_thicken {x1 : Int32} {m : dM} {Q : Int32 → dM → Prop} (hO : Ok m) (hQ : ∀ (r : Int32) (m' : dM), Ok m' ∧ Kp m m' → Q r m') : Wp 600 76 0 [oR 70, oI x1] [] m (qI Q) := Wp.deep (s_X12_thicken_70 hO.1 hO.2 (fun r m' I => hQ r m' ⟨Ok.of hO.1 I, Kp.of I⟩)) (Nat.le_of_ble_eq_true rfl)
theorem a_X12_pin {x1 : Int32} {x2 : Int32} {m : dM} {Q : Int32 → dM → Prop} (hO : Ok m) (h2 : 0 ≤ x2.toInt ∧ x2.toInt ≤ 1) (hQ : ∀ (r : Int32) (m' : dM), Ok m' ∧ Kp m m' → Q r m') : Wp 600 77 0 [oR 70, oI x1, oI x2] [] m (qI Q) := Wp.deep (s_X12_pin_70 hO.1 hO.2 h2 (fun r m' I _ => hQ r m' ⟨Ok.of hO.1 I, Kp.of I⟩)) (Nat.le_of_ble_eq_true rfl)
theorem a_X12_hours {x1 : Int32} {m : dM} {Q : Int32 → dM → Prop} (hO : Ok m) (hQ : ∀ (r : Int32) (m' : dM), Ok m' ∧ Kp m m' → Q r m') : Wp 600 79 0 [oR 70, oI x1] [] m (qI Q) := Wp.deep (s_X12_hours_70 hO.1 hO.2 (fun r m' I => hQ r m' ⟨Ok.of hO.1 I, Kp.of I⟩)) (Nat.le_of_ble_eq_true rfl)
theorem a_X12_undo  {m : dM} {Q : Int32 → dM → Prop} (hO : Ok m) (hQ : ∀ (r : Int32) (m' : dM), Ok m' ∧ Kp m m' → Q r m') : Wp 600 80 0 [oR 70, none] [] m (qI Q) := Wp.deep (s_X12_undo_70 hO.1 hO.2 (fun r m' I _ => hQ r m' ⟨Ok.of hO.1 I, Kp.of I⟩)) (Nat.le_of_ble_eq_true rfl)
theorem a_X12_way {x1 : Int32} {x2 : Int32} {m : dM} {Q : Int32 → dM → Prop} (hO : Ok m) (hQ : ∀ (r : Int32) (m' : dM), Ok m' ∧ Kp m m' → Q r m') : Wp 600 81 0 [oR 70, oI x1, oI x2, none, none] [] m (qI Q) := Wp.deep (s_X12_way_70 hO.1 hO.2 (fun r m' I => hQ r m' ⟨Ok.of hO.1 I, Kp.of I⟩)) (Nat.le_of_ble_eq_true rfl)
theorem a_X12_peak {x1 : Int32} {x2 : Int32} {x3 : Int32} {m : dM} {Q : Int32 → dM → Prop} (hO : Ok m) (hQ : ∀ (r : Int32) (m' : dM), Ok m' ∧ Kp m m' → Q r m') : Wp 600 83 0 [oR 70, oI x1, oI x2, oI x3, none, none, none, none] [] m (qI Q) := Wp.deep (s_X12_peak_70 hO.1 hO.2 (fun r m' I _ => hQ r m' ⟨Ok.of hO.1 I, Kp.of I⟩)) (Nat.le_of_ble_eq_true rfl)
theorem a_X12_first {x1 : Int32} {m : dM} {Q : Int32 → dM → Prop} (hO : Ok m) (hQ : ∀ (r : Int32) (m' : dM), Ok m' ∧ Kp m m' → Q r m') : Wp 600 86 0 [oR 70, oI x1, none] [] m (qI Q) := Wp.deep (s_X12_first_70 hO.1 hO.2 (fun r m' I _ => hQ r m' ⟨Ok.of hO.1 I, Kp.of I⟩)) (Nat.le_of_ble_eq_true rfl)
theorem a_X12_together {x1 : Int32} {m : dM} {Q : Int32 → dM → Prop} (hO : Ok m) (hQ : ∀ (r : Int32) (m' : dM), Ok m' ∧ Kp m m' → Q r m') : Wp 600 88 0 [oR 70, oI x1, none, none, none, none, none] [] m (qI Q) := Wp.deep (s_X12_together_70 hO.1 hO.2 (fun r m' I _ => hQ r m' ⟨Ok.of hO.1 I, Kp.of I⟩)) (Nat.le_of_ble_eq_true rfl)
theorem a_X12_when {x1 : Int32} {m : dM} {Q : Int32 → dM → Prop} (hO : Ok m) (hQ : ∀ (r : Int32) (m' : dM), Ok m' ∧ Kp m m' → Q r m') : Wp 600 90 0 [oR 70, oI x1, none, none] [] m (qI Q) := Wp.deep (s_X12_when_70 hO.1 hO.2 (fun r m' I _ => hQ r m' ⟨Ok.of hO.1 I, Kp.of I⟩)) (Nat.le_of_ble_eq_true rfl)
theorem a_X12_thick {x1 : Int32} {m : dM} {Q : Int32 → dM → Prop} (hO : Ok m) (hQ : ∀ (r : Int32) (m' : dM), Ok m' ∧ Kp m m' → Q r m') : Wp 600 91 0 [oR 70, oI x1, none, none, none, none] [] m (qI Q) := Wp.deep (s_X12_thick_70 hO.1 hO.2 (fun r m' I _ => hQ r m' ⟨Ok.of hO.1 I, Kp.of I⟩)) (Nat.le_of_ble_eq_true rfl)
theorem a_X12_cut {x1 : Int32} {x2 : Int32} {m : dM} {Q : Int32 → dM → Prop} (hO : Ok m) (hQ : ∀ (r : Int32) (m' : dM), Ok m' ∧ Kp m m' → Q r m') : Wp 600 96 0 [oR 70, oI x1, oI x2, none, none, none] [] m (qI Q) := Wp.deep (s_X12_cut_70 hO.1 hO.2 (fun r m' I => hQ r m' ⟨Ok.of hO.1 I, Kp.of I⟩)) (Nat.le_of_ble_eq_true rfl)
theorem a_X12_share {x1 : Int32} {x2 : Int32} {m : dM} {Q : Int32 → dM → Prop} (hO : Ok m) (hQ : ∀ (r : Int32) (m' : dM), Ok m' ∧ Kp m m' → Q r m') : Wp 600 97 0 [oR 70, oI x1, oI x2] [] m (qI Q) := Wp.deep (s_X12_share_70 hO.1 hO.2 (fun r m' I => hQ r m' ⟨Ok.of hO.1 I, Kp.of I⟩)) (Nat.le_of_ble_eq_true rfl)
theorem a_X12_without {x1 : Int32} {m : dM} {Q : Int32 → dM → Prop} (hO : Ok m) (hQ : ∀ (r : Int32) (m' : dM), Ok m' ∧ Kp m m' → Q r m') : Wp 600 99 0 [oR 70, oI x1] [] m (qI Q) := Wp.deep (s_X12_without_70 hO.1 hO.2 (fun r m' I => hQ r m' ⟨Ok.of hO.1 I, Kp.of I⟩)) (Nat.le_of_ble_eq_true rfl)
theorem a_X12_needed  {m : dM} {Q : Int32 → dM → Prop} (hO : Ok m) (hQ : ∀ (r : Int32) (m' : dM), Ok m' ∧ Kp m m' → Q r m') : Wp 600 100 0 [oR 70, none, none, none] [] m (qI Q) := Wp.deep (s_X12_needed_70 hO.1 hO.2 (fun r m' I => hQ r m' ⟨Ok.of hO.1 I, Kp.of I⟩)) (Nat.le_of_ble_eq_true rfl)
theorem a_X12_hottest {x1 : Int32} {m : dM} {Q : Int32 → dM → Prop} (hO : Ok m) (hQ : ∀ (r : Int32) (m' : dM), Ok m' ∧ Kp m m' → Q r m') : Wp 600 101 0 [oR 70, oI x1, none, none, none, none, none] [] m (qI Q) := Wp.deep (s_X12_hottest_70 hO.1 hO.2 (fun r m' I => hQ r m' ⟨Ok.of hO.1 I, Kp.of I⟩)) (Nat.le_of_ble_eq_true rfl)
theorem a_X12_clash {x1 : Int32} {x2 : Int32} {m : dM} {Q : Int32 → dM → Prop} (hO : Ok m) (hQ : ∀ (r : Int32) (m' : dM), Ok m' ∧ Kp m m' → Q r m') : Wp 600 102 0 [oR 70, oI x1, oI x2, none] [] m (qI Q) := Wp.deep (s_X12_clash_70 hO.1 hO.2 (fun r m' I => hQ r m' ⟨Ok.of hO.1 I, Kp.of I⟩)) (Nat.le_of_ble_eq_true rfl)
theorem a_X12_then {x1 : Int32} {x2 : Int32} {m : dM} {Q : Int32 → dM → Prop} (hO : Ok m) (hQ : ∀ (r : Int32) (m' : dM), Ok m' ∧ Kp m m' → Q r m') : Wp 600 103 0 [oR 70, oI x1, oI x2, none, none] [] m (qI Q) := Wp.deep (s_X12_then_70 hO.1 hO.2 (fun r m' I => hQ r m' ⟨Ok.of hO.1 I, Kp.of I⟩)) (Nat.le_of_ble_eq_true rfl)
theorem a_X12_litIn {x1 : Int32} {x2 : Int32} {m : dM} {Q : Int32 → dM → Prop} (hO : Ok m) (hQ : ∀ (r : Int32) (m' : dM), Ok m' ∧ Kp m m' → Q r m') : Wp 600 104 0 [oR 70, oI x1, oI x2] [] m (qI Q) := Wp.deep (s_X12_litIn_70 hO.1 hO.2 (fun r m' I _ => hQ r m' ⟨Ok.of hO.1 I, Kp.of I⟩)) (Nat.le_of_ble_eq_true rfl)
theorem a_X12_year {x1 : Int32} {x2 : Int32} {m : dM} {Q : Int32 → dM → Prop} (hO : Ok m) (hQ : ∀ (r : Int32) (m' : dM), Ok m' ∧ Kp m m' → Q r m') : Wp 600 105 0 [oR 70, oI x1, oI x2, none, none, none, none] [] m (qI Q) := Wp.deep (s_X12_year_70 hO.1 hO.2 (fun r m' I => hQ r m' ⟨Ok.of hO.1 I, Kp.of I⟩)) (Nat.le_of_ble_eq_true rfl)
theorem a_X12_went {x1 : Int32} {x2 : Int32} {m : dM} {Q : Int32 → dM → Prop} (hO : Ok m) (hQ : ∀ (r : Int32) (m' : dM), Ok m' ∧ Kp m m' → Q r m') : Wp 600 109 0 [oR 70, oI x1, oI x2, none] [] m (qI Q) := Wp.deep (s_X12_went_70 hO.1 hO.2 (fun r m' I => hQ r m' ⟨Ok.of hO.1 I, Kp.of I⟩)) (Nat.le_of_ble_eq_true rfl)
theorem a_X12_ask {x1 : Int32} {m : dM} {Q : Int32 → dM → Prop} (hO : Ok m) (hQ : ∀ (r : Int32) (m' : dM), Ok m' ∧ Kp m m' → Q r m') : Wp 600 110 0 [oR 70, oI x1, none, none, none, none, none, none] [] m (qI Q) := Wp.deep (s_X12_ask_70 hO.1 hO.2 (fun r m' I _ => hQ r m' ⟨Ok.of hO.1 I, Kp.of I⟩)) (Nat.le_of_ble_eq_true rfl)
theorem a_X12_count {x1 : Int32} {m : dM} {Q : Int32 → dM → Prop} (hO : Ok m) (hQ : ∀ (r : Int32) (m' : dM), Ok m' ∧ Kp m m' → Q r m') : Wp 600 113 0 [oR 70, oI x1, none, none] [] m (qI Q) := Wp.deep (s_X12_count_70 hO.1 hO.2 (fun r m' I => hQ r m' ⟨Ok.of hO.1 I, Kp.of I⟩)) (Nat.le_of_ble_eq_true rfl)
end
section
/-! THE LAW: its instructions -/
theorem ld {ch : List (Nat × Instr × Nat)} (h : dCh code ch = true) (i : Nat) {en : Nat × Instr × Nat} (he : ch[i]? = some en) : decode code en.1 = .ok (en.2.1, en.2.2) := dCh_ok h en (List.mem_of_getElem? he)
def lC0 : List (Nat × Instr × Nat) := [(0, .new 7, 3), (3, .dup, 1), (4, .invokespecial 9, 3), (7, .astore_n 1, 1), (8, .new 10, 3), (11, .dup, 1), (12, .invokespecial 12, 3), (15, .astore_n 2, 1), (16, .iconst 0, 1), (17, .istore_n 3, 1), (18, .iload_n 3, 1), (19, .aload_n 0, 1), (20, .arraylength, 1), (21, .bipush 6, 2), (23, .isub, 1), (24, .if_icmp .gt 1173, 3), (27, .aload_n 0, 1), (28, .iload_n 3, 1), (29, .iaload, 1), (30, .bipush 63, 2), (32, .iand, 1), (33, .tableswitch 1158 0 34 #[155, 218, 241, 254, 267, 300, 333, 366, 415, 438, 461, 510, 533, 546, 579, 622, 645, 668, 691, 714, 747, 780, 803, 816, 839, 872, 905, 938, 971, 1020, 1033, 1066, 1089, 1112, 1135], 155)]
theorem lc0 : dCh code lC0 = true := by decide +kernel
def lC2 : List (Nat × Instr × Nat) := [(188, .aload_n 1, 1), (189, .aload_n 0, 1), (190, .iload_n 3, 1), (191, .iconst 1, 1)]
theorem lc2 : dCh code lC2 = true := by decide +kernel
def lC3 : List (Nat × Instr × Nat) := [(192, .iadd, 1), (193, .iaload, 1), (194, .aload_n 0, 1), (195, .iload_n 3, 1), (196, .iconst 2, 1), (197, .iadd, 1), (198, .iaload, 1), (199, .aload_n 0, 1), (200, .iload_n 3, 1), (201, .iconst 3, 1), (202, .iadd, 1), (203, .iaload, 1), (204, .aload_n 0, 1), (205, .iload_n 3, 1), (206, .iconst 4, 1), (207, .iadd, 1), (208, .iaload, 1), (209, .aload_n 0, 1), (210, .iload_n 3, 1), (211, .iconst 5, 1), (212, .iadd, 1), (213, .iaload, 1), (214, .invokevirtual 13, 3), (217, .pop, 1), (218, .aload_n 2, 1), (219, .aload_n 0, 1), (220, .iload_n 3, 1), (221, .iconst 1, 1), (222, .iadd, 1), (223, .iaload, 1), (224, .aload_n 0, 1), (225, .iload_n 3, 1), (226, .iconst 2, 1), (227, .iadd, 1), (228, .iaload, 1), (229, .aload_n 0, 1), (230, .iload_n 3, 1), (231, .iconst 3, 1), (232, .iadd, 1), (233, .iaload, 1), (234, .aload_n 0, 1), (235, .iload_n 3, 1), (236, .iconst 4, 1), (237, .iadd, 1), (238, .iaload, 1), (239, .aload_n 0, 1), (240, .iload_n 3, 1), (241, .iconst 5, 1), (242, .iadd, 1), (243, .iaload, 1), (244, .invokevirtual 17, 3), (247, .pop, 1), (248, .goto 943, 3), (251, .aload_n 1, 1), (252, .aload_n 0, 1), (253, .iload_n 3, 1), (254, .iconst 1, 1), (255, .iadd, 1)]
theorem lc3 : dCh code lC3 = true := by decide +kernel
def lC4 : List (Nat × Instr × Nat) := [(256, .iaload, 1), (257, .invokevirtual 18, 3), (260, .pop, 1), (261, .aload_n 2, 1), (262, .aload_n 0, 1), (263, .iload_n 3, 1), (264, .iconst 1, 1), (265, .iadd, 1), (266, .iaload, 1), (267, .invokevirtual 22, 3), (270, .pop, 1), (271, .goto 920, 3), (274, .aload_n 1, 1), (275, .invokevirtual 23, 3), (278, .pop, 1), (279, .aload_n 2, 1), (280, .invokevirtual 27, 3), (283, .pop, 1), (284, .goto 907, 3), (287, .aload_n 1, 1), (288, .invokevirtual 28, 3), (291, .pop, 1), (292, .aload_n 2, 1), (293, .invokevirtual 31, 3), (296, .pop, 1), (297, .goto 894, 3), (300, .aload_n 1, 1), (301, .aload_n 0, 1), (302, .iload_n 3, 1), (303, .iconst 1, 1), (304, .iadd, 1), (305, .iaload, 1), (306, .aload_n 0, 1), (307, .iload_n 3, 1), (308, .iconst 2, 1), (309, .iadd, 1), (310, .iaload, 1), (311, .invokevirtual 32, 3), (314, .pop, 1), (315, .aload_n 2, 1), (316, .aload_n 0, 1), (317, .iload_n 3, 1), (318, .iconst 1, 1), (319, .iadd, 1)]
theorem lc4 : dCh code lC4 = true := by decide +kernel
def lC5 : List (Nat × Instr × Nat) := [(320, .iaload, 1), (321, .aload_n 0, 1), (322, .iload_n 3, 1), (323, .iconst 2, 1), (324, .iadd, 1), (325, .iaload, 1), (326, .invokevirtual 36, 3), (329, .pop, 1), (330, .goto 861, 3), (333, .aload_n 1, 1), (334, .aload_n 0, 1), (335, .iload_n 3, 1), (336, .iconst 1, 1), (337, .iadd, 1), (338, .iaload, 1), (339, .aload_n 0, 1), (340, .iload_n 3, 1), (341, .iconst 2, 1), (342, .iadd, 1), (343, .iaload, 1), (344, .invokevirtual 37, 3), (347, .pop, 1), (348, .aload_n 2, 1), (349, .aload_n 0, 1), (350, .iload_n 3, 1), (351, .iconst 1, 1), (352, .iadd, 1), (353, .iaload, 1), (354, .aload_n 0, 1), (355, .iload_n 3, 1), (356, .iconst 2, 1), (357, .iadd, 1), (358, .iaload, 1), (359, .invokevirtual 40, 3), (362, .pop, 1), (363, .goto 828, 3), (366, .aload_n 1, 1), (367, .aload_n 0, 1), (368, .iload_n 3, 1), (369, .iconst 1, 1), (370, .iadd, 1), (371, .iaload, 1), (372, .aload_n 0, 1), (373, .iload_n 3, 1), (374, .iconst 2, 1), (375, .iadd, 1), (376, .iaload, 1), (377, .invokevirtual 41, 3), (380, .pop, 1), (381, .aload_n 2, 1), (382, .aload_n 0, 1), (383, .iload_n 3, 1)]
theorem lc5 : dCh code lC5 = true := by decide +kernel
def lC6 : List (Nat × Instr × Nat) := [(384, .iconst 1, 1), (385, .iadd, 1), (386, .iaload, 1), (387, .aload_n 0, 1), (388, .iload_n 3, 1), (389, .iconst 2, 1), (390, .iadd, 1), (391, .iaload, 1), (392, .invokevirtual 44, 3), (395, .pop, 1), (396, .goto 795, 3), (399, .aload_n 1, 1), (400, .aload_n 0, 1), (401, .iload_n 3, 1), (402, .iconst 1, 1), (403, .iadd, 1), (404, .iaload, 1), (405, .aload_n 0, 1), (406, .iload_n 3, 1), (407, .iconst 2, 1), (408, .iadd, 1), (409, .iaload, 1), (410, .ifCond .eq 7, 3), (413, .iconst 1, 1), (414, .goto 4, 3), (417, .iconst 0, 1), (418, .invokevirtual 45, 3), (421, .pop, 1), (422, .aload_n 2, 1), (423, .aload_n 0, 1), (424, .iload_n 3, 1), (425, .iconst 1, 1), (426, .iadd, 1), (427, .iaload, 1), (428, .aload_n 0, 1), (429, .iload_n 3, 1), (430, .iconst 2, 1), (431, .iadd, 1), (432, .iaload, 1), (433, .ifCond .eq 7, 3), (436, .iconst 1, 1), (437, .goto 4, 3), (440, .iconst 0, 1), (441, .invokevirtual 49, 3), (444, .pop, 1), (445, .goto 746, 3)]
theorem lc6 : dCh code lC6 = true := by decide +kernel
def lC7 : List (Nat × Instr × Nat) := [(448, .aload_n 1, 1), (449, .aload_n 0, 1), (450, .iload_n 3, 1), (451, .iconst 1, 1), (452, .iadd, 1), (453, .iaload, 1), (454, .invokevirtual 50, 3), (457, .pop, 1), (458, .aload_n 2, 1), (459, .aload_n 0, 1), (460, .iload_n 3, 1), (461, .iconst 1, 1), (462, .iadd, 1), (463, .iaload, 1), (464, .invokevirtual 53, 3), (467, .pop, 1), (468, .goto 723, 3), (471, .aload_n 1, 1), (472, .aload_n 0, 1), (473, .iload_n 3, 1), (474, .iconst 1, 1), (475, .iadd, 1), (476, .iaload, 1), (477, .invokevirtual 54, 3), (480, .pop, 1), (481, .aload_n 2, 1), (482, .aload_n 0, 1), (483, .iload_n 3, 1), (484, .iconst 1, 1), (485, .iadd, 1), (486, .iaload, 1), (487, .invokevirtual 57, 3), (490, .pop, 1), (491, .goto 700, 3), (494, .aload_n 1, 1), (495, .aload_n 0, 1), (496, .iload_n 3, 1), (497, .iconst 1, 1), (498, .iadd, 1), (499, .iaload, 1), (500, .aload_n 0, 1), (501, .iload_n 3, 1), (502, .iconst 2, 1), (503, .iadd, 1), (504, .iaload, 1), (505, .ifCond .eq 7, 3), (508, .iconst 1, 1), (509, .goto 4, 3)]
theorem lc7 : dCh code lC7 = true := by decide +kernel
def lC8 : List (Nat × Instr × Nat) := [(512, .iconst 0, 1), (513, .invokevirtual 58, 3), (516, .pop, 1), (517, .aload_n 2, 1), (518, .aload_n 0, 1), (519, .iload_n 3, 1), (520, .iconst 1, 1), (521, .iadd, 1), (522, .iaload, 1), (523, .aload_n 0, 1), (524, .iload_n 3, 1), (525, .iconst 2, 1), (526, .iadd, 1), (527, .iaload, 1), (528, .ifCond .eq 7, 3), (531, .iconst 1, 1), (532, .goto 4, 3), (535, .iconst 0, 1), (536, .invokevirtual 61, 3), (539, .pop, 1), (540, .goto 651, 3), (543, .aload_n 1, 1), (544, .aload_n 0, 1), (545, .iload_n 3, 1), (546, .iconst 1, 1), (547, .iadd, 1), (548, .iaload, 1), (549, .invokevirtual 62, 3), (552, .pop, 1), (553, .aload_n 2, 1), (554, .aload_n 0, 1), (555, .iload_n 3, 1), (556, .iconst 1, 1), (557, .iadd, 1), (558, .iaload, 1), (559, .invokevirtual 65, 3), (562, .pop, 1), (563, .goto 628, 3), (566, .aload_n 1, 1), (567, .invokevirtual 66, 3), (570, .pop, 1), (571, .aload_n 2, 1), (572, .invokevirtual 70, 3), (575, .pop, 1)]
theorem lc8 : dCh code lC8 = true := by decide +kernel
def lC9 : List (Nat × Instr × Nat) := [(576, .goto 615, 3), (579, .aload_n 1, 1), (580, .aload_n 0, 1), (581, .iload_n 3, 1), (582, .iconst 1, 1), (583, .iadd, 1), (584, .iaload, 1), (585, .aload_n 0, 1), (586, .iload_n 3, 1), (587, .iconst 2, 1), (588, .iadd, 1), (589, .iaload, 1), (590, .invokevirtual 71, 3), (593, .pop, 1), (594, .aload_n 2, 1), (595, .aload_n 0, 1), (596, .iload_n 3, 1), (597, .iconst 1, 1), (598, .iadd, 1), (599, .iaload, 1), (600, .aload_n 0, 1), (601, .iload_n 3, 1), (602, .iconst 2, 1), (603, .iadd, 1), (604, .iaload, 1), (605, .invokevirtual 74, 3), (608, .pop, 1), (609, .goto 582, 3), (612, .aload_n 1, 1), (613, .aload_n 0, 1), (614, .iload_n 3, 1), (615, .iconst 1, 1), (616, .iadd, 1), (617, .iaload, 1), (618, .aload_n 0, 1), (619, .iload_n 3, 1), (620, .iconst 2, 1), (621, .iadd, 1), (622, .iaload, 1), (623, .aload_n 0, 1), (624, .iload_n 3, 1), (625, .iconst 3, 1), (626, .iadd, 1), (627, .iaload, 1), (628, .invokevirtual 75, 3), (631, .pop, 1), (632, .aload_n 2, 1), (633, .aload_n 0, 1), (634, .iload_n 3, 1), (635, .iconst 1, 1), (636, .iadd, 1), (637, .iaload, 1), (638, .aload_n 0, 1), (639, .iload_n 3, 1)]
theorem lc9 : dCh code lC9 = true := by decide +kernel
def lC10 : List (Nat × Instr × Nat) := [(640, .iconst 2, 1), (641, .iadd, 1), (642, .iaload, 1), (643, .aload_n 0, 1), (644, .iload_n 3, 1), (645, .iconst 3, 1), (646, .iadd, 1), (647, .iaload, 1), (648, .invokevirtual 79, 3), (651, .pop, 1), (652, .goto 539, 3), (655, .aload_n 1, 1), (656, .aload_n 0, 1), (657, .iload_n 3, 1), (658, .iconst 1, 1), (659, .iadd, 1), (660, .iaload, 1), (661, .invokevirtual 80, 3), (664, .pop, 1), (665, .aload_n 2, 1), (666, .aload_n 0, 1), (667, .iload_n 3, 1), (668, .iconst 1, 1), (669, .iadd, 1), (670, .iaload, 1), (671, .invokevirtual 83, 3), (674, .pop, 1), (675, .goto 516, 3), (678, .aload_n 1, 1), (679, .aload_n 0, 1), (680, .iload_n 3, 1), (681, .iconst 1, 1), (682, .iadd, 1), (683, .iaload, 1), (684, .invokevirtual 84, 3), (687, .pop, 1), (688, .aload_n 2, 1), (689, .aload_n 0, 1), (690, .iload_n 3, 1), (691, .iconst 1, 1), (692, .iadd, 1), (693, .iaload, 1), (694, .invokevirtual 87, 3), (697, .pop, 1), (698, .goto 493, 3), (701, .aload_n 1, 1), (702, .aload_n 0, 1), (703, .iload_n 3, 1)]
theorem lc10 : dCh code lC10 = true := by decide +kernel
def lC11 : List (Nat × Instr × Nat) := [(704, .iconst 1, 1), (705, .iadd, 1), (706, .iaload, 1), (707, .invokevirtual 88, 3), (710, .pop, 1), (711, .aload_n 2, 1), (712, .aload_n 0, 1), (713, .iload_n 3, 1), (714, .iconst 1, 1), (715, .iadd, 1), (716, .iaload, 1), (717, .invokevirtual 91, 3), (720, .pop, 1), (721, .goto 470, 3), (724, .aload_n 1, 1), (725, .aload_n 0, 1), (726, .iload_n 3, 1), (727, .iconst 1, 1), (728, .iadd, 1), (729, .iaload, 1), (730, .invokevirtual 92, 3), (733, .pop, 1), (734, .aload_n 2, 1), (735, .aload_n 0, 1), (736, .iload_n 3, 1), (737, .iconst 1, 1), (738, .iadd, 1), (739, .iaload, 1), (740, .invokevirtual 95, 3), (743, .pop, 1), (744, .goto 447, 3), (747, .aload_n 1, 1), (748, .aload_n 0, 1), (749, .iload_n 3, 1), (750, .iconst 1, 1), (751, .iadd, 1), (752, .iaload, 1), (753, .aload_n 0, 1), (754, .iload_n 3, 1), (755, .iconst 2, 1), (756, .iadd, 1), (757, .iaload, 1), (758, .invokevirtual 96, 3), (761, .pop, 1), (762, .aload_n 2, 1), (763, .aload_n 0, 1), (764, .iload_n 3, 1), (765, .iconst 1, 1), (766, .iadd, 1), (767, .iaload, 1)]
theorem lc11 : dCh code lC11 = true := by decide +kernel
def lC12 : List (Nat × Instr × Nat) := [(768, .aload_n 0, 1), (769, .iload_n 3, 1), (770, .iconst 2, 1), (771, .iadd, 1), (772, .iaload, 1), (773, .invokevirtual 99, 3), (776, .pop, 1), (777, .goto 414, 3), (780, .aload_n 1, 1), (781, .aload_n 0, 1), (782, .iload_n 3, 1), (783, .iconst 1, 1), (784, .iadd, 1), (785, .iaload, 1), (786, .aload_n 0, 1), (787, .iload_n 3, 1), (788, .iconst 2, 1), (789, .iadd, 1), (790, .iaload, 1), (791, .invokevirtual 100, 3), (794, .pop, 1), (795, .aload_n 2, 1), (796, .aload_n 0, 1), (797, .iload_n 3, 1), (798, .iconst 1, 1), (799, .iadd, 1), (800, .iaload, 1), (801, .aload_n 0, 1), (802, .iload_n 3, 1), (803, .iconst 2, 1), (804, .iadd, 1), (805, .iaload, 1), (806, .invokevirtual 103, 3), (809, .pop, 1), (810, .goto 381, 3), (813, .aload_n 1, 1), (814, .aload_n 0, 1), (815, .iload_n 3, 1), (816, .iconst 1, 1), (817, .iadd, 1), (818, .iaload, 1), (819, .invokevirtual 104, 3), (822, .pop, 1), (823, .aload_n 2, 1), (824, .aload_n 0, 1), (825, .iload_n 3, 1), (826, .iconst 1, 1), (827, .iadd, 1), (828, .iaload, 1), (829, .invokevirtual 107, 3)]
theorem lc12 : dCh code lC12 = true := by decide +kernel
def lC13 : List (Nat × Instr × Nat) := [(832, .pop, 1), (833, .goto 358, 3), (836, .aload_n 1, 1), (837, .invokevirtual 108, 3), (840, .pop, 1), (841, .aload_n 2, 1), (842, .invokevirtual 111, 3), (845, .pop, 1), (846, .goto 345, 3), (849, .aload_n 1, 1), (850, .aload_n 0, 1), (851, .iload_n 3, 1), (852, .iconst 1, 1), (853, .iadd, 1), (854, .iaload, 1), (855, .invokevirtual 112, 3), (858, .pop, 1), (859, .aload_n 2, 1), (860, .aload_n 0, 1), (861, .iload_n 3, 1), (862, .iconst 1, 1), (863, .iadd, 1), (864, .iaload, 1), (865, .invokevirtual 115, 3), (868, .pop, 1), (869, .goto 322, 3), (872, .aload_n 1, 1), (873, .aload_n 0, 1), (874, .iload_n 3, 1), (875, .iconst 1, 1), (876, .iadd, 1), (877, .iaload, 1), (878, .aload_n 0, 1), (879, .iload_n 3, 1), (880, .iconst 2, 1), (881, .iadd, 1), (882, .iaload, 1), (883, .invokevirtual 116, 3), (886, .pop, 1), (887, .aload_n 2, 1), (888, .aload_n 0, 1), (889, .iload_n 3, 1), (890, .iconst 1, 1), (891, .iadd, 1), (892, .iaload, 1), (893, .aload_n 0, 1), (894, .iload_n 3, 1), (895, .iconst 2, 1)]
theorem lc13 : dCh code lC13 = true := by decide +kernel
def lC14 : List (Nat × Instr × Nat) := [(896, .iadd, 1), (897, .iaload, 1), (898, .invokevirtual 119, 3), (901, .pop, 1), (902, .goto 289, 3), (905, .aload_n 1, 1), (906, .aload_n 0, 1), (907, .iload_n 3, 1), (908, .iconst 1, 1), (909, .iadd, 1), (910, .iaload, 1), (911, .aload_n 0, 1), (912, .iload_n 3, 1), (913, .iconst 2, 1), (914, .iadd, 1), (915, .iaload, 1), (916, .invokevirtual 120, 3), (919, .pop, 1), (920, .aload_n 2, 1), (921, .aload_n 0, 1), (922, .iload_n 3, 1), (923, .iconst 1, 1), (924, .iadd, 1), (925, .iaload, 1), (926, .aload_n 0, 1), (927, .iload_n 3, 1), (928, .iconst 2, 1), (929, .iadd, 1), (930, .iaload, 1), (931, .invokevirtual 123, 3), (934, .pop, 1), (935, .goto 256, 3), (938, .aload_n 1, 1), (939, .aload_n 0, 1), (940, .iload_n 3, 1), (941, .iconst 1, 1), (942, .iadd, 1), (943, .iaload, 1), (944, .aload_n 0, 1), (945, .iload_n 3, 1), (946, .iconst 2, 1), (947, .iadd, 1), (948, .iaload, 1), (949, .invokevirtual 124, 3), (952, .pop, 1), (953, .aload_n 2, 1), (954, .aload_n 0, 1), (955, .iload_n 3, 1), (956, .iconst 1, 1), (957, .iadd, 1), (958, .iaload, 1), (959, .aload_n 0, 1)]
theorem lc14 : dCh code lC14 = true := by decide +kernel
def lC15 : List (Nat × Instr × Nat) := [(960, .iload_n 3, 1), (961, .iconst 2, 1), (962, .iadd, 1), (963, .iaload, 1), (964, .invokevirtual 127, 3), (967, .pop, 1), (968, .goto 223, 3), (971, .aload_n 1, 1), (972, .aload_n 0, 1), (973, .iload_n 3, 1), (974, .iconst 1, 1), (975, .iadd, 1), (976, .iaload, 1), (977, .aload_n 0, 1), (978, .iload_n 3, 1), (979, .iconst 2, 1), (980, .iadd, 1), (981, .iaload, 1), (982, .invokevirtual 128, 3), (985, .pop, 1), (986, .aload_n 2, 1), (987, .aload_n 0, 1), (988, .iload_n 3, 1), (989, .iconst 1, 1), (990, .iadd, 1), (991, .iaload, 1), (992, .aload_n 0, 1), (993, .iload_n 3, 1), (994, .iconst 2, 1), (995, .iadd, 1), (996, .iaload, 1), (997, .invokevirtual 131, 3), (1000, .pop, 1), (1001, .goto 190, 3), (1004, .aload_n 1, 1), (1005, .aload_n 0, 1), (1006, .iload_n 3, 1), (1007, .iconst 1, 1), (1008, .iadd, 1), (1009, .iaload, 1), (1010, .aload_n 0, 1), (1011, .iload_n 3, 1), (1012, .iconst 2, 1), (1013, .iadd, 1), (1014, .iaload, 1), (1015, .ifCond .eq 7, 3), (1018, .iconst 1, 1), (1019, .goto 4, 3), (1022, .iconst 0, 1), (1023, .invokevirtual 132, 3)]
theorem lc15 : dCh code lC15 = true := by decide +kernel
def lC16 : List (Nat × Instr × Nat) := [(1026, .pop, 1), (1027, .aload_n 2, 1), (1028, .aload_n 0, 1), (1029, .iload_n 3, 1), (1030, .iconst 1, 1), (1031, .iadd, 1), (1032, .iaload, 1), (1033, .aload_n 0, 1), (1034, .iload_n 3, 1), (1035, .iconst 2, 1), (1036, .iadd, 1), (1037, .iaload, 1), (1038, .ifCond .eq 7, 3), (1041, .iconst 1, 1), (1042, .goto 4, 3), (1045, .iconst 0, 1), (1046, .invokevirtual 136, 3), (1049, .pop, 1), (1050, .goto 141, 3), (1053, .aload_n 1, 1), (1054, .invokevirtual 137, 3), (1057, .pop, 1), (1058, .aload_n 2, 1), (1059, .invokevirtual 140, 3), (1062, .pop, 1), (1063, .goto 128, 3), (1066, .aload_n 1, 1), (1067, .aload_n 0, 1), (1068, .iload_n 3, 1), (1069, .iconst 1, 1), (1070, .iadd, 1), (1071, .iaload, 1), (1072, .aload_n 0, 1), (1073, .iload_n 3, 1), (1074, .iconst 2, 1), (1075, .iadd, 1), (1076, .iaload, 1), (1077, .invokevirtual 141, 3), (1080, .pop, 1), (1081, .aload_n 2, 1), (1082, .aload_n 0, 1), (1083, .iload_n 3, 1), (1084, .iconst 1, 1), (1085, .iadd, 1), (1086, .iaload, 1), (1087, .aload_n 0, 1)]
theorem lc16 : dCh code lC16 = true := by decide +kernel
def lC17 : List (Nat × Instr × Nat) := [(1088, .iload_n 3, 1), (1089, .iconst 2, 1), (1090, .iadd, 1), (1091, .iaload, 1), (1092, .invokevirtual 144, 3), (1095, .pop, 1), (1096, .goto 95, 3), (1099, .aload_n 1, 1), (1100, .aload_n 0, 1), (1101, .iload_n 3, 1), (1102, .iconst 1, 1), (1103, .iadd, 1), (1104, .iaload, 1), (1105, .invokevirtual 145, 3), (1108, .pop, 1), (1109, .aload_n 2, 1), (1110, .aload_n 0, 1), (1111, .iload_n 3, 1), (1112, .iconst 1, 1), (1113, .iadd, 1), (1114, .iaload, 1), (1115, .invokevirtual 148, 3), (1118, .pop, 1), (1119, .goto 72, 3), (1122, .aload_n 1, 1), (1123, .aload_n 0, 1), (1124, .iload_n 3, 1), (1125, .iconst 1, 1), (1126, .iadd, 1), (1127, .iaload, 1), (1128, .invokevirtual 149, 3), (1131, .pop, 1), (1132, .aload_n 2, 1), (1133, .aload_n 0, 1), (1134, .iload_n 3, 1), (1135, .iconst 1, 1), (1136, .iadd, 1), (1137, .iaload, 1), (1138, .invokevirtual 153, 3), (1141, .pop, 1), (1142, .goto 49, 3), (1145, .aload_n 1, 1), (1146, .aload_n 0, 1), (1147, .iload_n 3, 1), (1148, .iconst 1, 1), (1149, .iadd, 1), (1150, .iaload, 1), (1151, .invokevirtual 154, 3)]
theorem lc17 : dCh code lC17 = true := by decide +kernel
def lC18 : List (Nat × Instr × Nat) := [(1154, .pop, 1), (1155, .aload_n 2, 1), (1156, .aload_n 0, 1), (1157, .iload_n 3, 1), (1158, .iconst 1, 1), (1159, .iadd, 1), (1160, .iaload, 1), (1161, .invokevirtual 157, 3), (1164, .pop, 1), (1165, .goto 26, 3), (1168, .aload_n 1, 1), (1169, .aload_n 0, 1), (1170, .iload_n 3, 1), (1171, .iconst 1, 1), (1172, .iadd, 1), (1173, .iaload, 1), (1174, .invokevirtual 158, 3), (1177, .aload_n 2, 1), (1178, .aload_n 0, 1), (1179, .iload_n 3, 1), (1180, .iconst 1, 1), (1181, .iadd, 1), (1182, .iaload, 1), (1183, .invokevirtual 161, 3), (1186, .if_icmp .eq 5, 3), (1189, .iconst 0, 1), (1190, .ireturn, 1), (1191, .iinc 3 6, 3), (1194, .goto (-1176), 3), (1197, .iconst 1, 1), (1198, .ireturn, 1)]
theorem lc18 : dCh code lC18 = true := by decide +kernel
theorem dl_0 : decode code 0 = .ok (.new 7, 3) := ld lc0 0 (en := (0, .new 7, 3)) rfl
theorem dl_3 : decode code 3 = .ok (.dup, 1) := ld lc0 1 (en := (3, .dup, 1)) rfl
theorem dl_4 : decode code 4 = .ok (.invokespecial 9, 3) := ld lc0 2 (en := (4, .invokespecial 9, 3)) rfl
theorem dl_7 : decode code 7 = .ok (.astore_n 1, 1) := ld lc0 3 (en := (7, .astore_n 1, 1)) rfl
theorem dl_8 : decode code 8 = .ok (.new 10, 3) := ld lc0 4 (en := (8, .new 10, 3)) rfl
theorem dl_11 : decode code 11 = .ok (.dup, 1) := ld lc0 5 (en := (11, .dup, 1)) rfl
theorem dl_12 : decode code 12 = .ok (.invokespecial 12, 3) := ld lc0 6 (en := (12, .invokespecial 12, 3)) rfl
theorem dl_15 : decode code 15 = .ok (.astore_n 2, 1) := ld lc0 7 (en := (15, .astore_n 2, 1)) rfl
theorem dl_16 : decode code 16 = .ok (.iconst 0, 1) := ld lc0 8 (en := (16, .iconst 0, 1)) rfl
theorem dl_17 : decode code 17 = .ok (.istore_n 3, 1) := ld lc0 9 (en := (17, .istore_n 3, 1)) rfl
theorem dl_18 : decode code 18 = .ok (.iload_n 3, 1) := ld lc0 10 (en := (18, .iload_n 3, 1)) rfl
theorem dl_19 : decode code 19 = .ok (.aload_n 0, 1) := ld lc0 11 (en := (19, .aload_n 0, 1)) rfl
theorem dl_20 : decode code 20 = .ok (.arraylength, 1) := ld lc0 12 (en := (20, .arraylength, 1)) rfl
theorem dl_21 : decode code 21 = .ok (.bipush 6, 2) := ld lc0 13 (en := (21, .bipush 6, 2)) rfl
theorem dl_23 : decode code 23 = .ok (.isub, 1) := ld lc0 14 (en := (23, .isub, 1)) rfl
theorem dl_24 : decode code 24 = .ok (.if_icmp .gt 1173, 3) := ld lc0 15 (en := (24, .if_icmp .gt 1173, 3)) rfl
theorem dl_27 : decode code 27 = .ok (.aload_n 0, 1) := ld lc0 16 (en := (27, .aload_n 0, 1)) rfl
theorem dl_28 : decode code 28 = .ok (.iload_n 3, 1) := ld lc0 17 (en := (28, .iload_n 3, 1)) rfl
theorem dl_29 : decode code 29 = .ok (.iaload, 1) := ld lc0 18 (en := (29, .iaload, 1)) rfl
theorem dl_30 : decode code 30 = .ok (.bipush 63, 2) := ld lc0 19 (en := (30, .bipush 63, 2)) rfl
theorem dl_32 : decode code 32 = .ok (.iand, 1) := ld lc0 20 (en := (32, .iand, 1)) rfl
theorem dl_33 : decode code 33 = .ok (.tableswitch 1158 0 34 #[155, 218, 241, 254, 267, 300, 333, 366, 415, 438, 461, 510, 533, 546, 579, 622, 645, 668, 691, 714, 747, 780, 803, 816, 839, 872, 905, 938, 971, 1020, 1033, 1066, 1089, 1112, 1135], 155) := ld lc0 21 (en := (33, .tableswitch 1158 0 34 #[155, 218, 241, 254, 267, 300, 333, 366, 415, 438, 461, 510, 533, 546, 579, 622, 645, 668, 691, 714, 747, 780, 803, 816, 839, 872, 905, 938, 971, 1020, 1033, 1066, 1089, 1112, 1135], 155)) rfl
theorem dl_188 : decode code 188 = .ok (.aload_n 1, 1) := ld lc2 0 (en := (188, .aload_n 1, 1)) rfl
theorem dl_189 : decode code 189 = .ok (.aload_n 0, 1) := ld lc2 1 (en := (189, .aload_n 0, 1)) rfl
theorem dl_190 : decode code 190 = .ok (.iload_n 3, 1) := ld lc2 2 (en := (190, .iload_n 3, 1)) rfl
theorem dl_191 : decode code 191 = .ok (.iconst 1, 1) := ld lc2 3 (en := (191, .iconst 1, 1)) rfl
theorem dl_192 : decode code 192 = .ok (.iadd, 1) := ld lc3 0 (en := (192, .iadd, 1)) rfl
theorem dl_193 : decode code 193 = .ok (.iaload, 1) := ld lc3 1 (en := (193, .iaload, 1)) rfl
theorem dl_194 : decode code 194 = .ok (.aload_n 0, 1) := ld lc3 2 (en := (194, .aload_n 0, 1)) rfl
theorem dl_195 : decode code 195 = .ok (.iload_n 3, 1) := ld lc3 3 (en := (195, .iload_n 3, 1)) rfl
theorem dl_196 : decode code 196 = .ok (.iconst 2, 1) := ld lc3 4 (en := (196, .iconst 2, 1)) rfl
theorem dl_197 : decode code 197 = .ok (.iadd, 1) := ld lc3 5 (en := (197, .iadd, 1)) rfl
theorem dl_198 : decode code 198 = .ok (.iaload, 1) := ld lc3 6 (en := (198, .iaload, 1)) rfl
theorem dl_199 : decode code 199 = .ok (.aload_n 0, 1) := ld lc3 7 (en := (199, .aload_n 0, 1)) rfl
theorem dl_200 : decode code 200 = .ok (.iload_n 3, 1) := ld lc3 8 (en := (200, .iload_n 3, 1)) rfl
theorem dl_201 : decode code 201 = .ok (.iconst 3, 1) := ld lc3 9 (en := (201, .iconst 3, 1)) rfl
theorem dl_202 : decode code 202 = .ok (.iadd, 1) := ld lc3 10 (en := (202, .iadd, 1)) rfl
theorem dl_203 : decode code 203 = .ok (.iaload, 1) := ld lc3 11 (en := (203, .iaload, 1)) rfl
theorem dl_204 : decode code 204 = .ok (.aload_n 0, 1) := ld lc3 12 (en := (204, .aload_n 0, 1)) rfl
theorem dl_205 : decode code 205 = .ok (.iload_n 3, 1) := ld lc3 13 (en := (205, .iload_n 3, 1)) rfl
theorem dl_206 : decode code 206 = .ok (.iconst 4, 1) := ld lc3 14 (en := (206, .iconst 4, 1)) rfl
theorem dl_207 : decode code 207 = .ok (.iadd, 1) := ld lc3 15 (en := (207, .iadd, 1)) rfl
theorem dl_208 : decode code 208 = .ok (.iaload, 1) := ld lc3 16 (en := (208, .iaload, 1)) rfl
theorem dl_209 : decode code 209 = .ok (.aload_n 0, 1) := ld lc3 17 (en := (209, .aload_n 0, 1)) rfl
theorem dl_210 : decode code 210 = .ok (.iload_n 3, 1) := ld lc3 18 (en := (210, .iload_n 3, 1)) rfl
theorem dl_211 : decode code 211 = .ok (.iconst 5, 1) := ld lc3 19 (en := (211, .iconst 5, 1)) rfl
theorem dl_212 : decode code 212 = .ok (.iadd, 1) := ld lc3 20 (en := (212, .iadd, 1)) rfl
theorem dl_213 : decode code 213 = .ok (.iaload, 1) := ld lc3 21 (en := (213, .iaload, 1)) rfl
theorem dl_214 : decode code 214 = .ok (.invokevirtual 13, 3) := ld lc3 22 (en := (214, .invokevirtual 13, 3)) rfl
theorem dl_217 : decode code 217 = .ok (.pop, 1) := ld lc3 23 (en := (217, .pop, 1)) rfl
theorem dl_218 : decode code 218 = .ok (.aload_n 2, 1) := ld lc3 24 (en := (218, .aload_n 2, 1)) rfl
theorem dl_219 : decode code 219 = .ok (.aload_n 0, 1) := ld lc3 25 (en := (219, .aload_n 0, 1)) rfl
theorem dl_220 : decode code 220 = .ok (.iload_n 3, 1) := ld lc3 26 (en := (220, .iload_n 3, 1)) rfl
theorem dl_221 : decode code 221 = .ok (.iconst 1, 1) := ld lc3 27 (en := (221, .iconst 1, 1)) rfl
theorem dl_222 : decode code 222 = .ok (.iadd, 1) := ld lc3 28 (en := (222, .iadd, 1)) rfl
theorem dl_223 : decode code 223 = .ok (.iaload, 1) := ld lc3 29 (en := (223, .iaload, 1)) rfl
theorem dl_224 : decode code 224 = .ok (.aload_n 0, 1) := ld lc3 30 (en := (224, .aload_n 0, 1)) rfl
theorem dl_225 : decode code 225 = .ok (.iload_n 3, 1) := ld lc3 31 (en := (225, .iload_n 3, 1)) rfl
theorem dl_226 : decode code 226 = .ok (.iconst 2, 1) := ld lc3 32 (en := (226, .iconst 2, 1)) rfl
theorem dl_227 : decode code 227 = .ok (.iadd, 1) := ld lc3 33 (en := (227, .iadd, 1)) rfl
theorem dl_228 : decode code 228 = .ok (.iaload, 1) := ld lc3 34 (en := (228, .iaload, 1)) rfl
theorem dl_229 : decode code 229 = .ok (.aload_n 0, 1) := ld lc3 35 (en := (229, .aload_n 0, 1)) rfl
theorem dl_230 : decode code 230 = .ok (.iload_n 3, 1) := ld lc3 36 (en := (230, .iload_n 3, 1)) rfl
theorem dl_231 : decode code 231 = .ok (.iconst 3, 1) := ld lc3 37 (en := (231, .iconst 3, 1)) rfl
theorem dl_232 : decode code 232 = .ok (.iadd, 1) := ld lc3 38 (en := (232, .iadd, 1)) rfl
theorem dl_233 : decode code 233 = .ok (.iaload, 1) := ld lc3 39 (en := (233, .iaload, 1)) rfl
theorem dl_234 : decode code 234 = .ok (.aload_n 0, 1) := ld lc3 40 (en := (234, .aload_n 0, 1)) rfl
theorem dl_235 : decode code 235 = .ok (.iload_n 3, 1) := ld lc3 41 (en := (235, .iload_n 3, 1)) rfl
theorem dl_236 : decode code 236 = .ok (.iconst 4, 1) := ld lc3 42 (en := (236, .iconst 4, 1)) rfl
theorem dl_237 : decode code 237 = .ok (.iadd, 1) := ld lc3 43 (en := (237, .iadd, 1)) rfl
theorem dl_238 : decode code 238 = .ok (.iaload, 1) := ld lc3 44 (en := (238, .iaload, 1)) rfl
theorem dl_239 : decode code 239 = .ok (.aload_n 0, 1) := ld lc3 45 (en := (239, .aload_n 0, 1)) rfl
theorem dl_240 : decode code 240 = .ok (.iload_n 3, 1) := ld lc3 46 (en := (240, .iload_n 3, 1)) rfl
theorem dl_241 : decode code 241 = .ok (.iconst 5, 1) := ld lc3 47 (en := (241, .iconst 5, 1)) rfl
theorem dl_242 : decode code 242 = .ok (.iadd, 1) := ld lc3 48 (en := (242, .iadd, 1)) rfl
theorem dl_243 : decode code 243 = .ok (.iaload, 1) := ld lc3 49 (en := (243, .iaload, 1)) rfl
theorem dl_244 : decode code 244 = .ok (.invokevirtual 17, 3) := ld lc3 50 (en := (244, .invokevirtual 17, 3)) rfl
theorem dl_247 : decode code 247 = .ok (.pop, 1) := ld lc3 51 (en := (247, .pop, 1)) rfl
theorem dl_248 : decode code 248 = .ok (.goto 943, 3) := ld lc3 52 (en := (248, .goto 943, 3)) rfl
theorem dl_251 : decode code 251 = .ok (.aload_n 1, 1) := ld lc3 53 (en := (251, .aload_n 1, 1)) rfl
theorem dl_252 : decode code 252 = .ok (.aload_n 0, 1) := ld lc3 54 (en := (252, .aload_n 0, 1)) rfl
theorem dl_253 : decode code 253 = .ok (.iload_n 3, 1) := ld lc3 55 (en := (253, .iload_n 3, 1)) rfl
theorem dl_254 : decode code 254 = .ok (.iconst 1, 1) := ld lc3 56 (en := (254, .iconst 1, 1)) rfl
theorem dl_255 : decode code 255 = .ok (.iadd, 1) := ld lc3 57 (en := (255, .iadd, 1)) rfl
theorem dl_256 : decode code 256 = .ok (.iaload, 1) := ld lc4 0 (en := (256, .iaload, 1)) rfl
theorem dl_257 : decode code 257 = .ok (.invokevirtual 18, 3) := ld lc4 1 (en := (257, .invokevirtual 18, 3)) rfl
theorem dl_260 : decode code 260 = .ok (.pop, 1) := ld lc4 2 (en := (260, .pop, 1)) rfl
theorem dl_261 : decode code 261 = .ok (.aload_n 2, 1) := ld lc4 3 (en := (261, .aload_n 2, 1)) rfl
theorem dl_262 : decode code 262 = .ok (.aload_n 0, 1) := ld lc4 4 (en := (262, .aload_n 0, 1)) rfl
theorem dl_263 : decode code 263 = .ok (.iload_n 3, 1) := ld lc4 5 (en := (263, .iload_n 3, 1)) rfl
theorem dl_264 : decode code 264 = .ok (.iconst 1, 1) := ld lc4 6 (en := (264, .iconst 1, 1)) rfl
theorem dl_265 : decode code 265 = .ok (.iadd, 1) := ld lc4 7 (en := (265, .iadd, 1)) rfl
theorem dl_266 : decode code 266 = .ok (.iaload, 1) := ld lc4 8 (en := (266, .iaload, 1)) rfl
theorem dl_267 : decode code 267 = .ok (.invokevirtual 22, 3) := ld lc4 9 (en := (267, .invokevirtual 22, 3)) rfl
theorem dl_270 : decode code 270 = .ok (.pop, 1) := ld lc4 10 (en := (270, .pop, 1)) rfl
theorem dl_271 : decode code 271 = .ok (.goto 920, 3) := ld lc4 11 (en := (271, .goto 920, 3)) rfl
theorem dl_274 : decode code 274 = .ok (.aload_n 1, 1) := ld lc4 12 (en := (274, .aload_n 1, 1)) rfl
theorem dl_275 : decode code 275 = .ok (.invokevirtual 23, 3) := ld lc4 13 (en := (275, .invokevirtual 23, 3)) rfl
theorem dl_278 : decode code 278 = .ok (.pop, 1) := ld lc4 14 (en := (278, .pop, 1)) rfl
theorem dl_279 : decode code 279 = .ok (.aload_n 2, 1) := ld lc4 15 (en := (279, .aload_n 2, 1)) rfl
theorem dl_280 : decode code 280 = .ok (.invokevirtual 27, 3) := ld lc4 16 (en := (280, .invokevirtual 27, 3)) rfl
theorem dl_283 : decode code 283 = .ok (.pop, 1) := ld lc4 17 (en := (283, .pop, 1)) rfl
theorem dl_284 : decode code 284 = .ok (.goto 907, 3) := ld lc4 18 (en := (284, .goto 907, 3)) rfl
theorem dl_287 : decode code 287 = .ok (.aload_n 1, 1) := ld lc4 19 (en := (287, .aload_n 1, 1)) rfl
theorem dl_288 : decode code 288 = .ok (.invokevirtual 28, 3) := ld lc4 20 (en := (288, .invokevirtual 28, 3)) rfl
theorem dl_291 : decode code 291 = .ok (.pop, 1) := ld lc4 21 (en := (291, .pop, 1)) rfl
theorem dl_292 : decode code 292 = .ok (.aload_n 2, 1) := ld lc4 22 (en := (292, .aload_n 2, 1)) rfl
theorem dl_293 : decode code 293 = .ok (.invokevirtual 31, 3) := ld lc4 23 (en := (293, .invokevirtual 31, 3)) rfl
theorem dl_296 : decode code 296 = .ok (.pop, 1) := ld lc4 24 (en := (296, .pop, 1)) rfl
theorem dl_297 : decode code 297 = .ok (.goto 894, 3) := ld lc4 25 (en := (297, .goto 894, 3)) rfl
theorem dl_300 : decode code 300 = .ok (.aload_n 1, 1) := ld lc4 26 (en := (300, .aload_n 1, 1)) rfl
theorem dl_301 : decode code 301 = .ok (.aload_n 0, 1) := ld lc4 27 (en := (301, .aload_n 0, 1)) rfl
theorem dl_302 : decode code 302 = .ok (.iload_n 3, 1) := ld lc4 28 (en := (302, .iload_n 3, 1)) rfl
theorem dl_303 : decode code 303 = .ok (.iconst 1, 1) := ld lc4 29 (en := (303, .iconst 1, 1)) rfl
theorem dl_304 : decode code 304 = .ok (.iadd, 1) := ld lc4 30 (en := (304, .iadd, 1)) rfl
theorem dl_305 : decode code 305 = .ok (.iaload, 1) := ld lc4 31 (en := (305, .iaload, 1)) rfl
theorem dl_306 : decode code 306 = .ok (.aload_n 0, 1) := ld lc4 32 (en := (306, .aload_n 0, 1)) rfl
theorem dl_307 : decode code 307 = .ok (.iload_n 3, 1) := ld lc4 33 (en := (307, .iload_n 3, 1)) rfl
theorem dl_308 : decode code 308 = .ok (.iconst 2, 1) := ld lc4 34 (en := (308, .iconst 2, 1)) rfl
theorem dl_309 : decode code 309 = .ok (.iadd, 1) := ld lc4 35 (en := (309, .iadd, 1)) rfl
theorem dl_310 : decode code 310 = .ok (.iaload, 1) := ld lc4 36 (en := (310, .iaload, 1)) rfl
theorem dl_311 : decode code 311 = .ok (.invokevirtual 32, 3) := ld lc4 37 (en := (311, .invokevirtual 32, 3)) rfl
theorem dl_314 : decode code 314 = .ok (.pop, 1) := ld lc4 38 (en := (314, .pop, 1)) rfl
theorem dl_315 : decode code 315 = .ok (.aload_n 2, 1) := ld lc4 39 (en := (315, .aload_n 2, 1)) rfl
theorem dl_316 : decode code 316 = .ok (.aload_n 0, 1) := ld lc4 40 (en := (316, .aload_n 0, 1)) rfl
theorem dl_317 : decode code 317 = .ok (.iload_n 3, 1) := ld lc4 41 (en := (317, .iload_n 3, 1)) rfl
theorem dl_318 : decode code 318 = .ok (.iconst 1, 1) := ld lc4 42 (en := (318, .iconst 1, 1)) rfl
theorem dl_319 : decode code 319 = .ok (.iadd, 1) := ld lc4 43 (en := (319, .iadd, 1)) rfl
theorem dl_320 : decode code 320 = .ok (.iaload, 1) := ld lc5 0 (en := (320, .iaload, 1)) rfl
theorem dl_321 : decode code 321 = .ok (.aload_n 0, 1) := ld lc5 1 (en := (321, .aload_n 0, 1)) rfl
theorem dl_322 : decode code 322 = .ok (.iload_n 3, 1) := ld lc5 2 (en := (322, .iload_n 3, 1)) rfl
theorem dl_323 : decode code 323 = .ok (.iconst 2, 1) := ld lc5 3 (en := (323, .iconst 2, 1)) rfl
theorem dl_324 : decode code 324 = .ok (.iadd, 1) := ld lc5 4 (en := (324, .iadd, 1)) rfl
theorem dl_325 : decode code 325 = .ok (.iaload, 1) := ld lc5 5 (en := (325, .iaload, 1)) rfl
theorem dl_326 : decode code 326 = .ok (.invokevirtual 36, 3) := ld lc5 6 (en := (326, .invokevirtual 36, 3)) rfl
theorem dl_329 : decode code 329 = .ok (.pop, 1) := ld lc5 7 (en := (329, .pop, 1)) rfl
theorem dl_330 : decode code 330 = .ok (.goto 861, 3) := ld lc5 8 (en := (330, .goto 861, 3)) rfl
theorem dl_333 : decode code 333 = .ok (.aload_n 1, 1) := ld lc5 9 (en := (333, .aload_n 1, 1)) rfl
theorem dl_334 : decode code 334 = .ok (.aload_n 0, 1) := ld lc5 10 (en := (334, .aload_n 0, 1)) rfl
theorem dl_335 : decode code 335 = .ok (.iload_n 3, 1) := ld lc5 11 (en := (335, .iload_n 3, 1)) rfl
theorem dl_336 : decode code 336 = .ok (.iconst 1, 1) := ld lc5 12 (en := (336, .iconst 1, 1)) rfl
theorem dl_337 : decode code 337 = .ok (.iadd, 1) := ld lc5 13 (en := (337, .iadd, 1)) rfl
theorem dl_338 : decode code 338 = .ok (.iaload, 1) := ld lc5 14 (en := (338, .iaload, 1)) rfl
theorem dl_339 : decode code 339 = .ok (.aload_n 0, 1) := ld lc5 15 (en := (339, .aload_n 0, 1)) rfl
theorem dl_340 : decode code 340 = .ok (.iload_n 3, 1) := ld lc5 16 (en := (340, .iload_n 3, 1)) rfl
theorem dl_341 : decode code 341 = .ok (.iconst 2, 1) := ld lc5 17 (en := (341, .iconst 2, 1)) rfl
theorem dl_342 : decode code 342 = .ok (.iadd, 1) := ld lc5 18 (en := (342, .iadd, 1)) rfl
theorem dl_343 : decode code 343 = .ok (.iaload, 1) := ld lc5 19 (en := (343, .iaload, 1)) rfl
theorem dl_344 : decode code 344 = .ok (.invokevirtual 37, 3) := ld lc5 20 (en := (344, .invokevirtual 37, 3)) rfl
theorem dl_347 : decode code 347 = .ok (.pop, 1) := ld lc5 21 (en := (347, .pop, 1)) rfl
theorem dl_348 : decode code 348 = .ok (.aload_n 2, 1) := ld lc5 22 (en := (348, .aload_n 2, 1)) rfl
theorem dl_349 : decode code 349 = .ok (.aload_n 0, 1) := ld lc5 23 (en := (349, .aload_n 0, 1)) rfl
theorem dl_350 : decode code 350 = .ok (.iload_n 3, 1) := ld lc5 24 (en := (350, .iload_n 3, 1)) rfl
theorem dl_351 : decode code 351 = .ok (.iconst 1, 1) := ld lc5 25 (en := (351, .iconst 1, 1)) rfl
theorem dl_352 : decode code 352 = .ok (.iadd, 1) := ld lc5 26 (en := (352, .iadd, 1)) rfl
theorem dl_353 : decode code 353 = .ok (.iaload, 1) := ld lc5 27 (en := (353, .iaload, 1)) rfl
theorem dl_354 : decode code 354 = .ok (.aload_n 0, 1) := ld lc5 28 (en := (354, .aload_n 0, 1)) rfl
theorem dl_355 : decode code 355 = .ok (.iload_n 3, 1) := ld lc5 29 (en := (355, .iload_n 3, 1)) rfl
theorem dl_356 : decode code 356 = .ok (.iconst 2, 1) := ld lc5 30 (en := (356, .iconst 2, 1)) rfl
theorem dl_357 : decode code 357 = .ok (.iadd, 1) := ld lc5 31 (en := (357, .iadd, 1)) rfl
theorem dl_358 : decode code 358 = .ok (.iaload, 1) := ld lc5 32 (en := (358, .iaload, 1)) rfl
theorem dl_359 : decode code 359 = .ok (.invokevirtual 40, 3) := ld lc5 33 (en := (359, .invokevirtual 40, 3)) rfl
theorem dl_362 : decode code 362 = .ok (.pop, 1) := ld lc5 34 (en := (362, .pop, 1)) rfl
theorem dl_363 : decode code 363 = .ok (.goto 828, 3) := ld lc5 35 (en := (363, .goto 828, 3)) rfl
theorem dl_366 : decode code 366 = .ok (.aload_n 1, 1) := ld lc5 36 (en := (366, .aload_n 1, 1)) rfl
theorem dl_367 : decode code 367 = .ok (.aload_n 0, 1) := ld lc5 37 (en := (367, .aload_n 0, 1)) rfl
theorem dl_368 : decode code 368 = .ok (.iload_n 3, 1) := ld lc5 38 (en := (368, .iload_n 3, 1)) rfl
theorem dl_369 : decode code 369 = .ok (.iconst 1, 1) := ld lc5 39 (en := (369, .iconst 1, 1)) rfl
theorem dl_370 : decode code 370 = .ok (.iadd, 1) := ld lc5 40 (en := (370, .iadd, 1)) rfl
theorem dl_371 : decode code 371 = .ok (.iaload, 1) := ld lc5 41 (en := (371, .iaload, 1)) rfl
theorem dl_372 : decode code 372 = .ok (.aload_n 0, 1) := ld lc5 42 (en := (372, .aload_n 0, 1)) rfl
theorem dl_373 : decode code 373 = .ok (.iload_n 3, 1) := ld lc5 43 (en := (373, .iload_n 3, 1)) rfl
theorem dl_374 : decode code 374 = .ok (.iconst 2, 1) := ld lc5 44 (en := (374, .iconst 2, 1)) rfl
theorem dl_375 : decode code 375 = .ok (.iadd, 1) := ld lc5 45 (en := (375, .iadd, 1)) rfl
theorem dl_376 : decode code 376 = .ok (.iaload, 1) := ld lc5 46 (en := (376, .iaload, 1)) rfl
theorem dl_377 : decode code 377 = .ok (.invokevirtual 41, 3) := ld lc5 47 (en := (377, .invokevirtual 41, 3)) rfl
theorem dl_380 : decode code 380 = .ok (.pop, 1) := ld lc5 48 (en := (380, .pop, 1)) rfl
theorem dl_381 : decode code 381 = .ok (.aload_n 2, 1) := ld lc5 49 (en := (381, .aload_n 2, 1)) rfl
theorem dl_382 : decode code 382 = .ok (.aload_n 0, 1) := ld lc5 50 (en := (382, .aload_n 0, 1)) rfl
theorem dl_383 : decode code 383 = .ok (.iload_n 3, 1) := ld lc5 51 (en := (383, .iload_n 3, 1)) rfl
theorem dl_384 : decode code 384 = .ok (.iconst 1, 1) := ld lc6 0 (en := (384, .iconst 1, 1)) rfl
theorem dl_385 : decode code 385 = .ok (.iadd, 1) := ld lc6 1 (en := (385, .iadd, 1)) rfl
theorem dl_386 : decode code 386 = .ok (.iaload, 1) := ld lc6 2 (en := (386, .iaload, 1)) rfl
theorem dl_387 : decode code 387 = .ok (.aload_n 0, 1) := ld lc6 3 (en := (387, .aload_n 0, 1)) rfl
theorem dl_388 : decode code 388 = .ok (.iload_n 3, 1) := ld lc6 4 (en := (388, .iload_n 3, 1)) rfl
theorem dl_389 : decode code 389 = .ok (.iconst 2, 1) := ld lc6 5 (en := (389, .iconst 2, 1)) rfl
theorem dl_390 : decode code 390 = .ok (.iadd, 1) := ld lc6 6 (en := (390, .iadd, 1)) rfl
theorem dl_391 : decode code 391 = .ok (.iaload, 1) := ld lc6 7 (en := (391, .iaload, 1)) rfl
theorem dl_392 : decode code 392 = .ok (.invokevirtual 44, 3) := ld lc6 8 (en := (392, .invokevirtual 44, 3)) rfl
theorem dl_395 : decode code 395 = .ok (.pop, 1) := ld lc6 9 (en := (395, .pop, 1)) rfl
theorem dl_396 : decode code 396 = .ok (.goto 795, 3) := ld lc6 10 (en := (396, .goto 795, 3)) rfl
theorem dl_399 : decode code 399 = .ok (.aload_n 1, 1) := ld lc6 11 (en := (399, .aload_n 1, 1)) rfl
theorem dl_400 : decode code 400 = .ok (.aload_n 0, 1) := ld lc6 12 (en := (400, .aload_n 0, 1)) rfl
theorem dl_401 : decode code 401 = .ok (.iload_n 3, 1) := ld lc6 13 (en := (401, .iload_n 3, 1)) rfl
theorem dl_402 : decode code 402 = .ok (.iconst 1, 1) := ld lc6 14 (en := (402, .iconst 1, 1)) rfl
theorem dl_403 : decode code 403 = .ok (.iadd, 1) := ld lc6 15 (en := (403, .iadd, 1)) rfl
theorem dl_404 : decode code 404 = .ok (.iaload, 1) := ld lc6 16 (en := (404, .iaload, 1)) rfl
theorem dl_405 : decode code 405 = .ok (.aload_n 0, 1) := ld lc6 17 (en := (405, .aload_n 0, 1)) rfl
theorem dl_406 : decode code 406 = .ok (.iload_n 3, 1) := ld lc6 18 (en := (406, .iload_n 3, 1)) rfl
theorem dl_407 : decode code 407 = .ok (.iconst 2, 1) := ld lc6 19 (en := (407, .iconst 2, 1)) rfl
theorem dl_408 : decode code 408 = .ok (.iadd, 1) := ld lc6 20 (en := (408, .iadd, 1)) rfl
theorem dl_409 : decode code 409 = .ok (.iaload, 1) := ld lc6 21 (en := (409, .iaload, 1)) rfl
theorem dl_410 : decode code 410 = .ok (.ifCond .eq 7, 3) := ld lc6 22 (en := (410, .ifCond .eq 7, 3)) rfl
theorem dl_413 : decode code 413 = .ok (.iconst 1, 1) := ld lc6 23 (en := (413, .iconst 1, 1)) rfl
theorem dl_414 : decode code 414 = .ok (.goto 4, 3) := ld lc6 24 (en := (414, .goto 4, 3)) rfl
theorem dl_417 : decode code 417 = .ok (.iconst 0, 1) := ld lc6 25 (en := (417, .iconst 0, 1)) rfl
theorem dl_418 : decode code 418 = .ok (.invokevirtual 45, 3) := ld lc6 26 (en := (418, .invokevirtual 45, 3)) rfl
theorem dl_421 : decode code 421 = .ok (.pop, 1) := ld lc6 27 (en := (421, .pop, 1)) rfl
theorem dl_422 : decode code 422 = .ok (.aload_n 2, 1) := ld lc6 28 (en := (422, .aload_n 2, 1)) rfl
theorem dl_423 : decode code 423 = .ok (.aload_n 0, 1) := ld lc6 29 (en := (423, .aload_n 0, 1)) rfl
theorem dl_424 : decode code 424 = .ok (.iload_n 3, 1) := ld lc6 30 (en := (424, .iload_n 3, 1)) rfl
theorem dl_425 : decode code 425 = .ok (.iconst 1, 1) := ld lc6 31 (en := (425, .iconst 1, 1)) rfl
theorem dl_426 : decode code 426 = .ok (.iadd, 1) := ld lc6 32 (en := (426, .iadd, 1)) rfl
theorem dl_427 : decode code 427 = .ok (.iaload, 1) := ld lc6 33 (en := (427, .iaload, 1)) rfl
theorem dl_428 : decode code 428 = .ok (.aload_n 0, 1) := ld lc6 34 (en := (428, .aload_n 0, 1)) rfl
theorem dl_429 : decode code 429 = .ok (.iload_n 3, 1) := ld lc6 35 (en := (429, .iload_n 3, 1)) rfl
theorem dl_430 : decode code 430 = .ok (.iconst 2, 1) := ld lc6 36 (en := (430, .iconst 2, 1)) rfl
theorem dl_431 : decode code 431 = .ok (.iadd, 1) := ld lc6 37 (en := (431, .iadd, 1)) rfl
theorem dl_432 : decode code 432 = .ok (.iaload, 1) := ld lc6 38 (en := (432, .iaload, 1)) rfl
theorem dl_433 : decode code 433 = .ok (.ifCond .eq 7, 3) := ld lc6 39 (en := (433, .ifCond .eq 7, 3)) rfl
theorem dl_436 : decode code 436 = .ok (.iconst 1, 1) := ld lc6 40 (en := (436, .iconst 1, 1)) rfl
theorem dl_437 : decode code 437 = .ok (.goto 4, 3) := ld lc6 41 (en := (437, .goto 4, 3)) rfl
theorem dl_440 : decode code 440 = .ok (.iconst 0, 1) := ld lc6 42 (en := (440, .iconst 0, 1)) rfl
theorem dl_441 : decode code 441 = .ok (.invokevirtual 49, 3) := ld lc6 43 (en := (441, .invokevirtual 49, 3)) rfl
theorem dl_444 : decode code 444 = .ok (.pop, 1) := ld lc6 44 (en := (444, .pop, 1)) rfl
theorem dl_445 : decode code 445 = .ok (.goto 746, 3) := ld lc6 45 (en := (445, .goto 746, 3)) rfl
theorem dl_448 : decode code 448 = .ok (.aload_n 1, 1) := ld lc7 0 (en := (448, .aload_n 1, 1)) rfl
theorem dl_449 : decode code 449 = .ok (.aload_n 0, 1) := ld lc7 1 (en := (449, .aload_n 0, 1)) rfl
theorem dl_450 : decode code 450 = .ok (.iload_n 3, 1) := ld lc7 2 (en := (450, .iload_n 3, 1)) rfl
theorem dl_451 : decode code 451 = .ok (.iconst 1, 1) := ld lc7 3 (en := (451, .iconst 1, 1)) rfl
theorem dl_452 : decode code 452 = .ok (.iadd, 1) := ld lc7 4 (en := (452, .iadd, 1)) rfl
theorem dl_453 : decode code 453 = .ok (.iaload, 1) := ld lc7 5 (en := (453, .iaload, 1)) rfl
theorem dl_454 : decode code 454 = .ok (.invokevirtual 50, 3) := ld lc7 6 (en := (454, .invokevirtual 50, 3)) rfl
theorem dl_457 : decode code 457 = .ok (.pop, 1) := ld lc7 7 (en := (457, .pop, 1)) rfl
theorem dl_458 : decode code 458 = .ok (.aload_n 2, 1) := ld lc7 8 (en := (458, .aload_n 2, 1)) rfl
theorem dl_459 : decode code 459 = .ok (.aload_n 0, 1) := ld lc7 9 (en := (459, .aload_n 0, 1)) rfl
theorem dl_460 : decode code 460 = .ok (.iload_n 3, 1) := ld lc7 10 (en := (460, .iload_n 3, 1)) rfl
theorem dl_461 : decode code 461 = .ok (.iconst 1, 1) := ld lc7 11 (en := (461, .iconst 1, 1)) rfl
theorem dl_462 : decode code 462 = .ok (.iadd, 1) := ld lc7 12 (en := (462, .iadd, 1)) rfl
theorem dl_463 : decode code 463 = .ok (.iaload, 1) := ld lc7 13 (en := (463, .iaload, 1)) rfl
theorem dl_464 : decode code 464 = .ok (.invokevirtual 53, 3) := ld lc7 14 (en := (464, .invokevirtual 53, 3)) rfl
theorem dl_467 : decode code 467 = .ok (.pop, 1) := ld lc7 15 (en := (467, .pop, 1)) rfl
theorem dl_468 : decode code 468 = .ok (.goto 723, 3) := ld lc7 16 (en := (468, .goto 723, 3)) rfl
theorem dl_471 : decode code 471 = .ok (.aload_n 1, 1) := ld lc7 17 (en := (471, .aload_n 1, 1)) rfl
theorem dl_472 : decode code 472 = .ok (.aload_n 0, 1) := ld lc7 18 (en := (472, .aload_n 0, 1)) rfl
theorem dl_473 : decode code 473 = .ok (.iload_n 3, 1) := ld lc7 19 (en := (473, .iload_n 3, 1)) rfl
theorem dl_474 : decode code 474 = .ok (.iconst 1, 1) := ld lc7 20 (en := (474, .iconst 1, 1)) rfl
theorem dl_475 : decode code 475 = .ok (.iadd, 1) := ld lc7 21 (en := (475, .iadd, 1)) rfl
theorem dl_476 : decode code 476 = .ok (.iaload, 1) := ld lc7 22 (en := (476, .iaload, 1)) rfl
theorem dl_477 : decode code 477 = .ok (.invokevirtual 54, 3) := ld lc7 23 (en := (477, .invokevirtual 54, 3)) rfl
theorem dl_480 : decode code 480 = .ok (.pop, 1) := ld lc7 24 (en := (480, .pop, 1)) rfl
theorem dl_481 : decode code 481 = .ok (.aload_n 2, 1) := ld lc7 25 (en := (481, .aload_n 2, 1)) rfl
theorem dl_482 : decode code 482 = .ok (.aload_n 0, 1) := ld lc7 26 (en := (482, .aload_n 0, 1)) rfl
theorem dl_483 : decode code 483 = .ok (.iload_n 3, 1) := ld lc7 27 (en := (483, .iload_n 3, 1)) rfl
theorem dl_484 : decode code 484 = .ok (.iconst 1, 1) := ld lc7 28 (en := (484, .iconst 1, 1)) rfl
theorem dl_485 : decode code 485 = .ok (.iadd, 1) := ld lc7 29 (en := (485, .iadd, 1)) rfl
theorem dl_486 : decode code 486 = .ok (.iaload, 1) := ld lc7 30 (en := (486, .iaload, 1)) rfl
theorem dl_487 : decode code 487 = .ok (.invokevirtual 57, 3) := ld lc7 31 (en := (487, .invokevirtual 57, 3)) rfl
theorem dl_490 : decode code 490 = .ok (.pop, 1) := ld lc7 32 (en := (490, .pop, 1)) rfl
theorem dl_491 : decode code 491 = .ok (.goto 700, 3) := ld lc7 33 (en := (491, .goto 700, 3)) rfl
theorem dl_494 : decode code 494 = .ok (.aload_n 1, 1) := ld lc7 34 (en := (494, .aload_n 1, 1)) rfl
theorem dl_495 : decode code 495 = .ok (.aload_n 0, 1) := ld lc7 35 (en := (495, .aload_n 0, 1)) rfl
theorem dl_496 : decode code 496 = .ok (.iload_n 3, 1) := ld lc7 36 (en := (496, .iload_n 3, 1)) rfl
theorem dl_497 : decode code 497 = .ok (.iconst 1, 1) := ld lc7 37 (en := (497, .iconst 1, 1)) rfl
theorem dl_498 : decode code 498 = .ok (.iadd, 1) := ld lc7 38 (en := (498, .iadd, 1)) rfl
theorem dl_499 : decode code 499 = .ok (.iaload, 1) := ld lc7 39 (en := (499, .iaload, 1)) rfl
theorem dl_500 : decode code 500 = .ok (.aload_n 0, 1) := ld lc7 40 (en := (500, .aload_n 0, 1)) rfl
theorem dl_501 : decode code 501 = .ok (.iload_n 3, 1) := ld lc7 41 (en := (501, .iload_n 3, 1)) rfl
theorem dl_502 : decode code 502 = .ok (.iconst 2, 1) := ld lc7 42 (en := (502, .iconst 2, 1)) rfl
theorem dl_503 : decode code 503 = .ok (.iadd, 1) := ld lc7 43 (en := (503, .iadd, 1)) rfl
theorem dl_504 : decode code 504 = .ok (.iaload, 1) := ld lc7 44 (en := (504, .iaload, 1)) rfl
theorem dl_505 : decode code 505 = .ok (.ifCond .eq 7, 3) := ld lc7 45 (en := (505, .ifCond .eq 7, 3)) rfl
theorem dl_508 : decode code 508 = .ok (.iconst 1, 1) := ld lc7 46 (en := (508, .iconst 1, 1)) rfl
theorem dl_509 : decode code 509 = .ok (.goto 4, 3) := ld lc7 47 (en := (509, .goto 4, 3)) rfl
theorem dl_512 : decode code 512 = .ok (.iconst 0, 1) := ld lc8 0 (en := (512, .iconst 0, 1)) rfl
theorem dl_513 : decode code 513 = .ok (.invokevirtual 58, 3) := ld lc8 1 (en := (513, .invokevirtual 58, 3)) rfl
theorem dl_516 : decode code 516 = .ok (.pop, 1) := ld lc8 2 (en := (516, .pop, 1)) rfl
theorem dl_517 : decode code 517 = .ok (.aload_n 2, 1) := ld lc8 3 (en := (517, .aload_n 2, 1)) rfl
theorem dl_518 : decode code 518 = .ok (.aload_n 0, 1) := ld lc8 4 (en := (518, .aload_n 0, 1)) rfl
theorem dl_519 : decode code 519 = .ok (.iload_n 3, 1) := ld lc8 5 (en := (519, .iload_n 3, 1)) rfl
theorem dl_520 : decode code 520 = .ok (.iconst 1, 1) := ld lc8 6 (en := (520, .iconst 1, 1)) rfl
theorem dl_521 : decode code 521 = .ok (.iadd, 1) := ld lc8 7 (en := (521, .iadd, 1)) rfl
theorem dl_522 : decode code 522 = .ok (.iaload, 1) := ld lc8 8 (en := (522, .iaload, 1)) rfl
theorem dl_523 : decode code 523 = .ok (.aload_n 0, 1) := ld lc8 9 (en := (523, .aload_n 0, 1)) rfl
theorem dl_524 : decode code 524 = .ok (.iload_n 3, 1) := ld lc8 10 (en := (524, .iload_n 3, 1)) rfl
theorem dl_525 : decode code 525 = .ok (.iconst 2, 1) := ld lc8 11 (en := (525, .iconst 2, 1)) rfl
theorem dl_526 : decode code 526 = .ok (.iadd, 1) := ld lc8 12 (en := (526, .iadd, 1)) rfl
theorem dl_527 : decode code 527 = .ok (.iaload, 1) := ld lc8 13 (en := (527, .iaload, 1)) rfl
theorem dl_528 : decode code 528 = .ok (.ifCond .eq 7, 3) := ld lc8 14 (en := (528, .ifCond .eq 7, 3)) rfl
theorem dl_531 : decode code 531 = .ok (.iconst 1, 1) := ld lc8 15 (en := (531, .iconst 1, 1)) rfl
theorem dl_532 : decode code 532 = .ok (.goto 4, 3) := ld lc8 16 (en := (532, .goto 4, 3)) rfl
theorem dl_535 : decode code 535 = .ok (.iconst 0, 1) := ld lc8 17 (en := (535, .iconst 0, 1)) rfl
theorem dl_536 : decode code 536 = .ok (.invokevirtual 61, 3) := ld lc8 18 (en := (536, .invokevirtual 61, 3)) rfl
theorem dl_539 : decode code 539 = .ok (.pop, 1) := ld lc8 19 (en := (539, .pop, 1)) rfl
theorem dl_540 : decode code 540 = .ok (.goto 651, 3) := ld lc8 20 (en := (540, .goto 651, 3)) rfl
theorem dl_543 : decode code 543 = .ok (.aload_n 1, 1) := ld lc8 21 (en := (543, .aload_n 1, 1)) rfl
theorem dl_544 : decode code 544 = .ok (.aload_n 0, 1) := ld lc8 22 (en := (544, .aload_n 0, 1)) rfl
theorem dl_545 : decode code 545 = .ok (.iload_n 3, 1) := ld lc8 23 (en := (545, .iload_n 3, 1)) rfl
theorem dl_546 : decode code 546 = .ok (.iconst 1, 1) := ld lc8 24 (en := (546, .iconst 1, 1)) rfl
theorem dl_547 : decode code 547 = .ok (.iadd, 1) := ld lc8 25 (en := (547, .iadd, 1)) rfl
theorem dl_548 : decode code 548 = .ok (.iaload, 1) := ld lc8 26 (en := (548, .iaload, 1)) rfl
theorem dl_549 : decode code 549 = .ok (.invokevirtual 62, 3) := ld lc8 27 (en := (549, .invokevirtual 62, 3)) rfl
theorem dl_552 : decode code 552 = .ok (.pop, 1) := ld lc8 28 (en := (552, .pop, 1)) rfl
theorem dl_553 : decode code 553 = .ok (.aload_n 2, 1) := ld lc8 29 (en := (553, .aload_n 2, 1)) rfl
theorem dl_554 : decode code 554 = .ok (.aload_n 0, 1) := ld lc8 30 (en := (554, .aload_n 0, 1)) rfl
theorem dl_555 : decode code 555 = .ok (.iload_n 3, 1) := ld lc8 31 (en := (555, .iload_n 3, 1)) rfl
theorem dl_556 : decode code 556 = .ok (.iconst 1, 1) := ld lc8 32 (en := (556, .iconst 1, 1)) rfl
theorem dl_557 : decode code 557 = .ok (.iadd, 1) := ld lc8 33 (en := (557, .iadd, 1)) rfl
theorem dl_558 : decode code 558 = .ok (.iaload, 1) := ld lc8 34 (en := (558, .iaload, 1)) rfl
theorem dl_559 : decode code 559 = .ok (.invokevirtual 65, 3) := ld lc8 35 (en := (559, .invokevirtual 65, 3)) rfl
theorem dl_562 : decode code 562 = .ok (.pop, 1) := ld lc8 36 (en := (562, .pop, 1)) rfl
theorem dl_563 : decode code 563 = .ok (.goto 628, 3) := ld lc8 37 (en := (563, .goto 628, 3)) rfl
theorem dl_566 : decode code 566 = .ok (.aload_n 1, 1) := ld lc8 38 (en := (566, .aload_n 1, 1)) rfl
theorem dl_567 : decode code 567 = .ok (.invokevirtual 66, 3) := ld lc8 39 (en := (567, .invokevirtual 66, 3)) rfl
theorem dl_570 : decode code 570 = .ok (.pop, 1) := ld lc8 40 (en := (570, .pop, 1)) rfl
theorem dl_571 : decode code 571 = .ok (.aload_n 2, 1) := ld lc8 41 (en := (571, .aload_n 2, 1)) rfl
theorem dl_572 : decode code 572 = .ok (.invokevirtual 70, 3) := ld lc8 42 (en := (572, .invokevirtual 70, 3)) rfl
theorem dl_575 : decode code 575 = .ok (.pop, 1) := ld lc8 43 (en := (575, .pop, 1)) rfl
theorem dl_576 : decode code 576 = .ok (.goto 615, 3) := ld lc9 0 (en := (576, .goto 615, 3)) rfl
theorem dl_579 : decode code 579 = .ok (.aload_n 1, 1) := ld lc9 1 (en := (579, .aload_n 1, 1)) rfl
theorem dl_580 : decode code 580 = .ok (.aload_n 0, 1) := ld lc9 2 (en := (580, .aload_n 0, 1)) rfl
theorem dl_581 : decode code 581 = .ok (.iload_n 3, 1) := ld lc9 3 (en := (581, .iload_n 3, 1)) rfl
theorem dl_582 : decode code 582 = .ok (.iconst 1, 1) := ld lc9 4 (en := (582, .iconst 1, 1)) rfl
theorem dl_583 : decode code 583 = .ok (.iadd, 1) := ld lc9 5 (en := (583, .iadd, 1)) rfl
theorem dl_584 : decode code 584 = .ok (.iaload, 1) := ld lc9 6 (en := (584, .iaload, 1)) rfl
theorem dl_585 : decode code 585 = .ok (.aload_n 0, 1) := ld lc9 7 (en := (585, .aload_n 0, 1)) rfl
theorem dl_586 : decode code 586 = .ok (.iload_n 3, 1) := ld lc9 8 (en := (586, .iload_n 3, 1)) rfl
theorem dl_587 : decode code 587 = .ok (.iconst 2, 1) := ld lc9 9 (en := (587, .iconst 2, 1)) rfl
theorem dl_588 : decode code 588 = .ok (.iadd, 1) := ld lc9 10 (en := (588, .iadd, 1)) rfl
theorem dl_589 : decode code 589 = .ok (.iaload, 1) := ld lc9 11 (en := (589, .iaload, 1)) rfl
theorem dl_590 : decode code 590 = .ok (.invokevirtual 71, 3) := ld lc9 12 (en := (590, .invokevirtual 71, 3)) rfl
theorem dl_593 : decode code 593 = .ok (.pop, 1) := ld lc9 13 (en := (593, .pop, 1)) rfl
theorem dl_594 : decode code 594 = .ok (.aload_n 2, 1) := ld lc9 14 (en := (594, .aload_n 2, 1)) rfl
theorem dl_595 : decode code 595 = .ok (.aload_n 0, 1) := ld lc9 15 (en := (595, .aload_n 0, 1)) rfl
theorem dl_596 : decode code 596 = .ok (.iload_n 3, 1) := ld lc9 16 (en := (596, .iload_n 3, 1)) rfl
theorem dl_597 : decode code 597 = .ok (.iconst 1, 1) := ld lc9 17 (en := (597, .iconst 1, 1)) rfl
theorem dl_598 : decode code 598 = .ok (.iadd, 1) := ld lc9 18 (en := (598, .iadd, 1)) rfl
theorem dl_599 : decode code 599 = .ok (.iaload, 1) := ld lc9 19 (en := (599, .iaload, 1)) rfl
theorem dl_600 : decode code 600 = .ok (.aload_n 0, 1) := ld lc9 20 (en := (600, .aload_n 0, 1)) rfl
theorem dl_601 : decode code 601 = .ok (.iload_n 3, 1) := ld lc9 21 (en := (601, .iload_n 3, 1)) rfl
theorem dl_602 : decode code 602 = .ok (.iconst 2, 1) := ld lc9 22 (en := (602, .iconst 2, 1)) rfl
theorem dl_603 : decode code 603 = .ok (.iadd, 1) := ld lc9 23 (en := (603, .iadd, 1)) rfl
theorem dl_604 : decode code 604 = .ok (.iaload, 1) := ld lc9 24 (en := (604, .iaload, 1)) rfl
theorem dl_605 : decode code 605 = .ok (.invokevirtual 74, 3) := ld lc9 25 (en := (605, .invokevirtual 74, 3)) rfl
theorem dl_608 : decode code 608 = .ok (.pop, 1) := ld lc9 26 (en := (608, .pop, 1)) rfl
theorem dl_609 : decode code 609 = .ok (.goto 582, 3) := ld lc9 27 (en := (609, .goto 582, 3)) rfl
theorem dl_612 : decode code 612 = .ok (.aload_n 1, 1) := ld lc9 28 (en := (612, .aload_n 1, 1)) rfl
theorem dl_613 : decode code 613 = .ok (.aload_n 0, 1) := ld lc9 29 (en := (613, .aload_n 0, 1)) rfl
theorem dl_614 : decode code 614 = .ok (.iload_n 3, 1) := ld lc9 30 (en := (614, .iload_n 3, 1)) rfl
theorem dl_615 : decode code 615 = .ok (.iconst 1, 1) := ld lc9 31 (en := (615, .iconst 1, 1)) rfl
theorem dl_616 : decode code 616 = .ok (.iadd, 1) := ld lc9 32 (en := (616, .iadd, 1)) rfl
theorem dl_617 : decode code 617 = .ok (.iaload, 1) := ld lc9 33 (en := (617, .iaload, 1)) rfl
theorem dl_618 : decode code 618 = .ok (.aload_n 0, 1) := ld lc9 34 (en := (618, .aload_n 0, 1)) rfl
theorem dl_619 : decode code 619 = .ok (.iload_n 3, 1) := ld lc9 35 (en := (619, .iload_n 3, 1)) rfl
theorem dl_620 : decode code 620 = .ok (.iconst 2, 1) := ld lc9 36 (en := (620, .iconst 2, 1)) rfl
theorem dl_621 : decode code 621 = .ok (.iadd, 1) := ld lc9 37 (en := (621, .iadd, 1)) rfl
theorem dl_622 : decode code 622 = .ok (.iaload, 1) := ld lc9 38 (en := (622, .iaload, 1)) rfl
theorem dl_623 : decode code 623 = .ok (.aload_n 0, 1) := ld lc9 39 (en := (623, .aload_n 0, 1)) rfl
theorem dl_624 : decode code 624 = .ok (.iload_n 3, 1) := ld lc9 40 (en := (624, .iload_n 3, 1)) rfl
theorem dl_625 : decode code 625 = .ok (.iconst 3, 1) := ld lc9 41 (en := (625, .iconst 3, 1)) rfl
theorem dl_626 : decode code 626 = .ok (.iadd, 1) := ld lc9 42 (en := (626, .iadd, 1)) rfl
theorem dl_627 : decode code 627 = .ok (.iaload, 1) := ld lc9 43 (en := (627, .iaload, 1)) rfl
theorem dl_628 : decode code 628 = .ok (.invokevirtual 75, 3) := ld lc9 44 (en := (628, .invokevirtual 75, 3)) rfl
theorem dl_631 : decode code 631 = .ok (.pop, 1) := ld lc9 45 (en := (631, .pop, 1)) rfl
theorem dl_632 : decode code 632 = .ok (.aload_n 2, 1) := ld lc9 46 (en := (632, .aload_n 2, 1)) rfl
theorem dl_633 : decode code 633 = .ok (.aload_n 0, 1) := ld lc9 47 (en := (633, .aload_n 0, 1)) rfl
theorem dl_634 : decode code 634 = .ok (.iload_n 3, 1) := ld lc9 48 (en := (634, .iload_n 3, 1)) rfl
theorem dl_635 : decode code 635 = .ok (.iconst 1, 1) := ld lc9 49 (en := (635, .iconst 1, 1)) rfl
theorem dl_636 : decode code 636 = .ok (.iadd, 1) := ld lc9 50 (en := (636, .iadd, 1)) rfl
theorem dl_637 : decode code 637 = .ok (.iaload, 1) := ld lc9 51 (en := (637, .iaload, 1)) rfl
theorem dl_638 : decode code 638 = .ok (.aload_n 0, 1) := ld lc9 52 (en := (638, .aload_n 0, 1)) rfl
theorem dl_639 : decode code 639 = .ok (.iload_n 3, 1) := ld lc9 53 (en := (639, .iload_n 3, 1)) rfl
theorem dl_640 : decode code 640 = .ok (.iconst 2, 1) := ld lc10 0 (en := (640, .iconst 2, 1)) rfl
theorem dl_641 : decode code 641 = .ok (.iadd, 1) := ld lc10 1 (en := (641, .iadd, 1)) rfl
theorem dl_642 : decode code 642 = .ok (.iaload, 1) := ld lc10 2 (en := (642, .iaload, 1)) rfl
theorem dl_643 : decode code 643 = .ok (.aload_n 0, 1) := ld lc10 3 (en := (643, .aload_n 0, 1)) rfl
theorem dl_644 : decode code 644 = .ok (.iload_n 3, 1) := ld lc10 4 (en := (644, .iload_n 3, 1)) rfl
theorem dl_645 : decode code 645 = .ok (.iconst 3, 1) := ld lc10 5 (en := (645, .iconst 3, 1)) rfl
theorem dl_646 : decode code 646 = .ok (.iadd, 1) := ld lc10 6 (en := (646, .iadd, 1)) rfl
theorem dl_647 : decode code 647 = .ok (.iaload, 1) := ld lc10 7 (en := (647, .iaload, 1)) rfl
theorem dl_648 : decode code 648 = .ok (.invokevirtual 79, 3) := ld lc10 8 (en := (648, .invokevirtual 79, 3)) rfl
theorem dl_651 : decode code 651 = .ok (.pop, 1) := ld lc10 9 (en := (651, .pop, 1)) rfl
theorem dl_652 : decode code 652 = .ok (.goto 539, 3) := ld lc10 10 (en := (652, .goto 539, 3)) rfl
theorem dl_655 : decode code 655 = .ok (.aload_n 1, 1) := ld lc10 11 (en := (655, .aload_n 1, 1)) rfl
theorem dl_656 : decode code 656 = .ok (.aload_n 0, 1) := ld lc10 12 (en := (656, .aload_n 0, 1)) rfl
theorem dl_657 : decode code 657 = .ok (.iload_n 3, 1) := ld lc10 13 (en := (657, .iload_n 3, 1)) rfl
theorem dl_658 : decode code 658 = .ok (.iconst 1, 1) := ld lc10 14 (en := (658, .iconst 1, 1)) rfl
theorem dl_659 : decode code 659 = .ok (.iadd, 1) := ld lc10 15 (en := (659, .iadd, 1)) rfl
theorem dl_660 : decode code 660 = .ok (.iaload, 1) := ld lc10 16 (en := (660, .iaload, 1)) rfl
theorem dl_661 : decode code 661 = .ok (.invokevirtual 80, 3) := ld lc10 17 (en := (661, .invokevirtual 80, 3)) rfl
theorem dl_664 : decode code 664 = .ok (.pop, 1) := ld lc10 18 (en := (664, .pop, 1)) rfl
theorem dl_665 : decode code 665 = .ok (.aload_n 2, 1) := ld lc10 19 (en := (665, .aload_n 2, 1)) rfl
theorem dl_666 : decode code 666 = .ok (.aload_n 0, 1) := ld lc10 20 (en := (666, .aload_n 0, 1)) rfl
theorem dl_667 : decode code 667 = .ok (.iload_n 3, 1) := ld lc10 21 (en := (667, .iload_n 3, 1)) rfl
theorem dl_668 : decode code 668 = .ok (.iconst 1, 1) := ld lc10 22 (en := (668, .iconst 1, 1)) rfl
theorem dl_669 : decode code 669 = .ok (.iadd, 1) := ld lc10 23 (en := (669, .iadd, 1)) rfl
theorem dl_670 : decode code 670 = .ok (.iaload, 1) := ld lc10 24 (en := (670, .iaload, 1)) rfl
theorem dl_671 : decode code 671 = .ok (.invokevirtual 83, 3) := ld lc10 25 (en := (671, .invokevirtual 83, 3)) rfl
theorem dl_674 : decode code 674 = .ok (.pop, 1) := ld lc10 26 (en := (674, .pop, 1)) rfl
theorem dl_675 : decode code 675 = .ok (.goto 516, 3) := ld lc10 27 (en := (675, .goto 516, 3)) rfl
theorem dl_678 : decode code 678 = .ok (.aload_n 1, 1) := ld lc10 28 (en := (678, .aload_n 1, 1)) rfl
theorem dl_679 : decode code 679 = .ok (.aload_n 0, 1) := ld lc10 29 (en := (679, .aload_n 0, 1)) rfl
theorem dl_680 : decode code 680 = .ok (.iload_n 3, 1) := ld lc10 30 (en := (680, .iload_n 3, 1)) rfl
theorem dl_681 : decode code 681 = .ok (.iconst 1, 1) := ld lc10 31 (en := (681, .iconst 1, 1)) rfl
theorem dl_682 : decode code 682 = .ok (.iadd, 1) := ld lc10 32 (en := (682, .iadd, 1)) rfl
theorem dl_683 : decode code 683 = .ok (.iaload, 1) := ld lc10 33 (en := (683, .iaload, 1)) rfl
theorem dl_684 : decode code 684 = .ok (.invokevirtual 84, 3) := ld lc10 34 (en := (684, .invokevirtual 84, 3)) rfl
theorem dl_687 : decode code 687 = .ok (.pop, 1) := ld lc10 35 (en := (687, .pop, 1)) rfl
theorem dl_688 : decode code 688 = .ok (.aload_n 2, 1) := ld lc10 36 (en := (688, .aload_n 2, 1)) rfl
theorem dl_689 : decode code 689 = .ok (.aload_n 0, 1) := ld lc10 37 (en := (689, .aload_n 0, 1)) rfl
theorem dl_690 : decode code 690 = .ok (.iload_n 3, 1) := ld lc10 38 (en := (690, .iload_n 3, 1)) rfl
theorem dl_691 : decode code 691 = .ok (.iconst 1, 1) := ld lc10 39 (en := (691, .iconst 1, 1)) rfl
theorem dl_692 : decode code 692 = .ok (.iadd, 1) := ld lc10 40 (en := (692, .iadd, 1)) rfl
theorem dl_693 : decode code 693 = .ok (.iaload, 1) := ld lc10 41 (en := (693, .iaload, 1)) rfl
theorem dl_694 : decode code 694 = .ok (.invokevirtual 87, 3) := ld lc10 42 (en := (694, .invokevirtual 87, 3)) rfl
theorem dl_697 : decode code 697 = .ok (.pop, 1) := ld lc10 43 (en := (697, .pop, 1)) rfl
theorem dl_698 : decode code 698 = .ok (.goto 493, 3) := ld lc10 44 (en := (698, .goto 493, 3)) rfl
theorem dl_701 : decode code 701 = .ok (.aload_n 1, 1) := ld lc10 45 (en := (701, .aload_n 1, 1)) rfl
theorem dl_702 : decode code 702 = .ok (.aload_n 0, 1) := ld lc10 46 (en := (702, .aload_n 0, 1)) rfl
theorem dl_703 : decode code 703 = .ok (.iload_n 3, 1) := ld lc10 47 (en := (703, .iload_n 3, 1)) rfl
theorem dl_704 : decode code 704 = .ok (.iconst 1, 1) := ld lc11 0 (en := (704, .iconst 1, 1)) rfl
theorem dl_705 : decode code 705 = .ok (.iadd, 1) := ld lc11 1 (en := (705, .iadd, 1)) rfl
theorem dl_706 : decode code 706 = .ok (.iaload, 1) := ld lc11 2 (en := (706, .iaload, 1)) rfl
theorem dl_707 : decode code 707 = .ok (.invokevirtual 88, 3) := ld lc11 3 (en := (707, .invokevirtual 88, 3)) rfl
theorem dl_710 : decode code 710 = .ok (.pop, 1) := ld lc11 4 (en := (710, .pop, 1)) rfl
theorem dl_711 : decode code 711 = .ok (.aload_n 2, 1) := ld lc11 5 (en := (711, .aload_n 2, 1)) rfl
theorem dl_712 : decode code 712 = .ok (.aload_n 0, 1) := ld lc11 6 (en := (712, .aload_n 0, 1)) rfl
theorem dl_713 : decode code 713 = .ok (.iload_n 3, 1) := ld lc11 7 (en := (713, .iload_n 3, 1)) rfl
theorem dl_714 : decode code 714 = .ok (.iconst 1, 1) := ld lc11 8 (en := (714, .iconst 1, 1)) rfl
theorem dl_715 : decode code 715 = .ok (.iadd, 1) := ld lc11 9 (en := (715, .iadd, 1)) rfl
theorem dl_716 : decode code 716 = .ok (.iaload, 1) := ld lc11 10 (en := (716, .iaload, 1)) rfl
theorem dl_717 : decode code 717 = .ok (.invokevirtual 91, 3) := ld lc11 11 (en := (717, .invokevirtual 91, 3)) rfl
theorem dl_720 : decode code 720 = .ok (.pop, 1) := ld lc11 12 (en := (720, .pop, 1)) rfl
theorem dl_721 : decode code 721 = .ok (.goto 470, 3) := ld lc11 13 (en := (721, .goto 470, 3)) rfl
theorem dl_724 : decode code 724 = .ok (.aload_n 1, 1) := ld lc11 14 (en := (724, .aload_n 1, 1)) rfl
theorem dl_725 : decode code 725 = .ok (.aload_n 0, 1) := ld lc11 15 (en := (725, .aload_n 0, 1)) rfl
theorem dl_726 : decode code 726 = .ok (.iload_n 3, 1) := ld lc11 16 (en := (726, .iload_n 3, 1)) rfl
theorem dl_727 : decode code 727 = .ok (.iconst 1, 1) := ld lc11 17 (en := (727, .iconst 1, 1)) rfl
theorem dl_728 : decode code 728 = .ok (.iadd, 1) := ld lc11 18 (en := (728, .iadd, 1)) rfl
theorem dl_729 : decode code 729 = .ok (.iaload, 1) := ld lc11 19 (en := (729, .iaload, 1)) rfl
theorem dl_730 : decode code 730 = .ok (.invokevirtual 92, 3) := ld lc11 20 (en := (730, .invokevirtual 92, 3)) rfl
theorem dl_733 : decode code 733 = .ok (.pop, 1) := ld lc11 21 (en := (733, .pop, 1)) rfl
theorem dl_734 : decode code 734 = .ok (.aload_n 2, 1) := ld lc11 22 (en := (734, .aload_n 2, 1)) rfl
theorem dl_735 : decode code 735 = .ok (.aload_n 0, 1) := ld lc11 23 (en := (735, .aload_n 0, 1)) rfl
theorem dl_736 : decode code 736 = .ok (.iload_n 3, 1) := ld lc11 24 (en := (736, .iload_n 3, 1)) rfl
theorem dl_737 : decode code 737 = .ok (.iconst 1, 1) := ld lc11 25 (en := (737, .iconst 1, 1)) rfl
theorem dl_738 : decode code 738 = .ok (.iadd, 1) := ld lc11 26 (en := (738, .iadd, 1)) rfl
theorem dl_739 : decode code 739 = .ok (.iaload, 1) := ld lc11 27 (en := (739, .iaload, 1)) rfl
theorem dl_740 : decode code 740 = .ok (.invokevirtual 95, 3) := ld lc11 28 (en := (740, .invokevirtual 95, 3)) rfl
theorem dl_743 : decode code 743 = .ok (.pop, 1) := ld lc11 29 (en := (743, .pop, 1)) rfl
theorem dl_744 : decode code 744 = .ok (.goto 447, 3) := ld lc11 30 (en := (744, .goto 447, 3)) rfl
theorem dl_747 : decode code 747 = .ok (.aload_n 1, 1) := ld lc11 31 (en := (747, .aload_n 1, 1)) rfl
theorem dl_748 : decode code 748 = .ok (.aload_n 0, 1) := ld lc11 32 (en := (748, .aload_n 0, 1)) rfl
theorem dl_749 : decode code 749 = .ok (.iload_n 3, 1) := ld lc11 33 (en := (749, .iload_n 3, 1)) rfl
theorem dl_750 : decode code 750 = .ok (.iconst 1, 1) := ld lc11 34 (en := (750, .iconst 1, 1)) rfl
theorem dl_751 : decode code 751 = .ok (.iadd, 1) := ld lc11 35 (en := (751, .iadd, 1)) rfl
theorem dl_752 : decode code 752 = .ok (.iaload, 1) := ld lc11 36 (en := (752, .iaload, 1)) rfl
theorem dl_753 : decode code 753 = .ok (.aload_n 0, 1) := ld lc11 37 (en := (753, .aload_n 0, 1)) rfl
theorem dl_754 : decode code 754 = .ok (.iload_n 3, 1) := ld lc11 38 (en := (754, .iload_n 3, 1)) rfl
theorem dl_755 : decode code 755 = .ok (.iconst 2, 1) := ld lc11 39 (en := (755, .iconst 2, 1)) rfl
theorem dl_756 : decode code 756 = .ok (.iadd, 1) := ld lc11 40 (en := (756, .iadd, 1)) rfl
theorem dl_757 : decode code 757 = .ok (.iaload, 1) := ld lc11 41 (en := (757, .iaload, 1)) rfl
theorem dl_758 : decode code 758 = .ok (.invokevirtual 96, 3) := ld lc11 42 (en := (758, .invokevirtual 96, 3)) rfl
theorem dl_761 : decode code 761 = .ok (.pop, 1) := ld lc11 43 (en := (761, .pop, 1)) rfl
theorem dl_762 : decode code 762 = .ok (.aload_n 2, 1) := ld lc11 44 (en := (762, .aload_n 2, 1)) rfl
theorem dl_763 : decode code 763 = .ok (.aload_n 0, 1) := ld lc11 45 (en := (763, .aload_n 0, 1)) rfl
theorem dl_764 : decode code 764 = .ok (.iload_n 3, 1) := ld lc11 46 (en := (764, .iload_n 3, 1)) rfl
theorem dl_765 : decode code 765 = .ok (.iconst 1, 1) := ld lc11 47 (en := (765, .iconst 1, 1)) rfl
theorem dl_766 : decode code 766 = .ok (.iadd, 1) := ld lc11 48 (en := (766, .iadd, 1)) rfl
theorem dl_767 : decode code 767 = .ok (.iaload, 1) := ld lc11 49 (en := (767, .iaload, 1)) rfl
theorem dl_768 : decode code 768 = .ok (.aload_n 0, 1) := ld lc12 0 (en := (768, .aload_n 0, 1)) rfl
theorem dl_769 : decode code 769 = .ok (.iload_n 3, 1) := ld lc12 1 (en := (769, .iload_n 3, 1)) rfl
theorem dl_770 : decode code 770 = .ok (.iconst 2, 1) := ld lc12 2 (en := (770, .iconst 2, 1)) rfl
theorem dl_771 : decode code 771 = .ok (.iadd, 1) := ld lc12 3 (en := (771, .iadd, 1)) rfl
theorem dl_772 : decode code 772 = .ok (.iaload, 1) := ld lc12 4 (en := (772, .iaload, 1)) rfl
theorem dl_773 : decode code 773 = .ok (.invokevirtual 99, 3) := ld lc12 5 (en := (773, .invokevirtual 99, 3)) rfl
theorem dl_776 : decode code 776 = .ok (.pop, 1) := ld lc12 6 (en := (776, .pop, 1)) rfl
theorem dl_777 : decode code 777 = .ok (.goto 414, 3) := ld lc12 7 (en := (777, .goto 414, 3)) rfl
theorem dl_780 : decode code 780 = .ok (.aload_n 1, 1) := ld lc12 8 (en := (780, .aload_n 1, 1)) rfl
theorem dl_781 : decode code 781 = .ok (.aload_n 0, 1) := ld lc12 9 (en := (781, .aload_n 0, 1)) rfl
theorem dl_782 : decode code 782 = .ok (.iload_n 3, 1) := ld lc12 10 (en := (782, .iload_n 3, 1)) rfl
theorem dl_783 : decode code 783 = .ok (.iconst 1, 1) := ld lc12 11 (en := (783, .iconst 1, 1)) rfl
theorem dl_784 : decode code 784 = .ok (.iadd, 1) := ld lc12 12 (en := (784, .iadd, 1)) rfl
theorem dl_785 : decode code 785 = .ok (.iaload, 1) := ld lc12 13 (en := (785, .iaload, 1)) rfl
theorem dl_786 : decode code 786 = .ok (.aload_n 0, 1) := ld lc12 14 (en := (786, .aload_n 0, 1)) rfl
theorem dl_787 : decode code 787 = .ok (.iload_n 3, 1) := ld lc12 15 (en := (787, .iload_n 3, 1)) rfl
theorem dl_788 : decode code 788 = .ok (.iconst 2, 1) := ld lc12 16 (en := (788, .iconst 2, 1)) rfl
theorem dl_789 : decode code 789 = .ok (.iadd, 1) := ld lc12 17 (en := (789, .iadd, 1)) rfl
theorem dl_790 : decode code 790 = .ok (.iaload, 1) := ld lc12 18 (en := (790, .iaload, 1)) rfl
theorem dl_791 : decode code 791 = .ok (.invokevirtual 100, 3) := ld lc12 19 (en := (791, .invokevirtual 100, 3)) rfl
theorem dl_794 : decode code 794 = .ok (.pop, 1) := ld lc12 20 (en := (794, .pop, 1)) rfl
theorem dl_795 : decode code 795 = .ok (.aload_n 2, 1) := ld lc12 21 (en := (795, .aload_n 2, 1)) rfl
theorem dl_796 : decode code 796 = .ok (.aload_n 0, 1) := ld lc12 22 (en := (796, .aload_n 0, 1)) rfl
theorem dl_797 : decode code 797 = .ok (.iload_n 3, 1) := ld lc12 23 (en := (797, .iload_n 3, 1)) rfl
theorem dl_798 : decode code 798 = .ok (.iconst 1, 1) := ld lc12 24 (en := (798, .iconst 1, 1)) rfl
theorem dl_799 : decode code 799 = .ok (.iadd, 1) := ld lc12 25 (en := (799, .iadd, 1)) rfl
theorem dl_800 : decode code 800 = .ok (.iaload, 1) := ld lc12 26 (en := (800, .iaload, 1)) rfl
theorem dl_801 : decode code 801 = .ok (.aload_n 0, 1) := ld lc12 27 (en := (801, .aload_n 0, 1)) rfl
theorem dl_802 : decode code 802 = .ok (.iload_n 3, 1) := ld lc12 28 (en := (802, .iload_n 3, 1)) rfl
theorem dl_803 : decode code 803 = .ok (.iconst 2, 1) := ld lc12 29 (en := (803, .iconst 2, 1)) rfl
theorem dl_804 : decode code 804 = .ok (.iadd, 1) := ld lc12 30 (en := (804, .iadd, 1)) rfl
theorem dl_805 : decode code 805 = .ok (.iaload, 1) := ld lc12 31 (en := (805, .iaload, 1)) rfl
theorem dl_806 : decode code 806 = .ok (.invokevirtual 103, 3) := ld lc12 32 (en := (806, .invokevirtual 103, 3)) rfl
theorem dl_809 : decode code 809 = .ok (.pop, 1) := ld lc12 33 (en := (809, .pop, 1)) rfl
theorem dl_810 : decode code 810 = .ok (.goto 381, 3) := ld lc12 34 (en := (810, .goto 381, 3)) rfl
theorem dl_813 : decode code 813 = .ok (.aload_n 1, 1) := ld lc12 35 (en := (813, .aload_n 1, 1)) rfl
theorem dl_814 : decode code 814 = .ok (.aload_n 0, 1) := ld lc12 36 (en := (814, .aload_n 0, 1)) rfl
theorem dl_815 : decode code 815 = .ok (.iload_n 3, 1) := ld lc12 37 (en := (815, .iload_n 3, 1)) rfl
theorem dl_816 : decode code 816 = .ok (.iconst 1, 1) := ld lc12 38 (en := (816, .iconst 1, 1)) rfl
theorem dl_817 : decode code 817 = .ok (.iadd, 1) := ld lc12 39 (en := (817, .iadd, 1)) rfl
theorem dl_818 : decode code 818 = .ok (.iaload, 1) := ld lc12 40 (en := (818, .iaload, 1)) rfl
theorem dl_819 : decode code 819 = .ok (.invokevirtual 104, 3) := ld lc12 41 (en := (819, .invokevirtual 104, 3)) rfl
theorem dl_822 : decode code 822 = .ok (.pop, 1) := ld lc12 42 (en := (822, .pop, 1)) rfl
theorem dl_823 : decode code 823 = .ok (.aload_n 2, 1) := ld lc12 43 (en := (823, .aload_n 2, 1)) rfl
theorem dl_824 : decode code 824 = .ok (.aload_n 0, 1) := ld lc12 44 (en := (824, .aload_n 0, 1)) rfl
theorem dl_825 : decode code 825 = .ok (.iload_n 3, 1) := ld lc12 45 (en := (825, .iload_n 3, 1)) rfl
theorem dl_826 : decode code 826 = .ok (.iconst 1, 1) := ld lc12 46 (en := (826, .iconst 1, 1)) rfl
theorem dl_827 : decode code 827 = .ok (.iadd, 1) := ld lc12 47 (en := (827, .iadd, 1)) rfl
theorem dl_828 : decode code 828 = .ok (.iaload, 1) := ld lc12 48 (en := (828, .iaload, 1)) rfl
theorem dl_829 : decode code 829 = .ok (.invokevirtual 107, 3) := ld lc12 49 (en := (829, .invokevirtual 107, 3)) rfl
theorem dl_832 : decode code 832 = .ok (.pop, 1) := ld lc13 0 (en := (832, .pop, 1)) rfl
theorem dl_833 : decode code 833 = .ok (.goto 358, 3) := ld lc13 1 (en := (833, .goto 358, 3)) rfl
theorem dl_836 : decode code 836 = .ok (.aload_n 1, 1) := ld lc13 2 (en := (836, .aload_n 1, 1)) rfl
theorem dl_837 : decode code 837 = .ok (.invokevirtual 108, 3) := ld lc13 3 (en := (837, .invokevirtual 108, 3)) rfl
theorem dl_840 : decode code 840 = .ok (.pop, 1) := ld lc13 4 (en := (840, .pop, 1)) rfl
theorem dl_841 : decode code 841 = .ok (.aload_n 2, 1) := ld lc13 5 (en := (841, .aload_n 2, 1)) rfl
theorem dl_842 : decode code 842 = .ok (.invokevirtual 111, 3) := ld lc13 6 (en := (842, .invokevirtual 111, 3)) rfl
theorem dl_845 : decode code 845 = .ok (.pop, 1) := ld lc13 7 (en := (845, .pop, 1)) rfl
theorem dl_846 : decode code 846 = .ok (.goto 345, 3) := ld lc13 8 (en := (846, .goto 345, 3)) rfl
theorem dl_849 : decode code 849 = .ok (.aload_n 1, 1) := ld lc13 9 (en := (849, .aload_n 1, 1)) rfl
theorem dl_850 : decode code 850 = .ok (.aload_n 0, 1) := ld lc13 10 (en := (850, .aload_n 0, 1)) rfl
theorem dl_851 : decode code 851 = .ok (.iload_n 3, 1) := ld lc13 11 (en := (851, .iload_n 3, 1)) rfl
theorem dl_852 : decode code 852 = .ok (.iconst 1, 1) := ld lc13 12 (en := (852, .iconst 1, 1)) rfl
theorem dl_853 : decode code 853 = .ok (.iadd, 1) := ld lc13 13 (en := (853, .iadd, 1)) rfl
theorem dl_854 : decode code 854 = .ok (.iaload, 1) := ld lc13 14 (en := (854, .iaload, 1)) rfl
theorem dl_855 : decode code 855 = .ok (.invokevirtual 112, 3) := ld lc13 15 (en := (855, .invokevirtual 112, 3)) rfl
theorem dl_858 : decode code 858 = .ok (.pop, 1) := ld lc13 16 (en := (858, .pop, 1)) rfl
theorem dl_859 : decode code 859 = .ok (.aload_n 2, 1) := ld lc13 17 (en := (859, .aload_n 2, 1)) rfl
theorem dl_860 : decode code 860 = .ok (.aload_n 0, 1) := ld lc13 18 (en := (860, .aload_n 0, 1)) rfl
theorem dl_861 : decode code 861 = .ok (.iload_n 3, 1) := ld lc13 19 (en := (861, .iload_n 3, 1)) rfl
theorem dl_862 : decode code 862 = .ok (.iconst 1, 1) := ld lc13 20 (en := (862, .iconst 1, 1)) rfl
theorem dl_863 : decode code 863 = .ok (.iadd, 1) := ld lc13 21 (en := (863, .iadd, 1)) rfl
theorem dl_864 : decode code 864 = .ok (.iaload, 1) := ld lc13 22 (en := (864, .iaload, 1)) rfl
theorem dl_865 : decode code 865 = .ok (.invokevirtual 115, 3) := ld lc13 23 (en := (865, .invokevirtual 115, 3)) rfl
theorem dl_868 : decode code 868 = .ok (.pop, 1) := ld lc13 24 (en := (868, .pop, 1)) rfl
theorem dl_869 : decode code 869 = .ok (.goto 322, 3) := ld lc13 25 (en := (869, .goto 322, 3)) rfl
theorem dl_872 : decode code 872 = .ok (.aload_n 1, 1) := ld lc13 26 (en := (872, .aload_n 1, 1)) rfl
theorem dl_873 : decode code 873 = .ok (.aload_n 0, 1) := ld lc13 27 (en := (873, .aload_n 0, 1)) rfl
theorem dl_874 : decode code 874 = .ok (.iload_n 3, 1) := ld lc13 28 (en := (874, .iload_n 3, 1)) rfl
theorem dl_875 : decode code 875 = .ok (.iconst 1, 1) := ld lc13 29 (en := (875, .iconst 1, 1)) rfl
theorem dl_876 : decode code 876 = .ok (.iadd, 1) := ld lc13 30 (en := (876, .iadd, 1)) rfl
theorem dl_877 : decode code 877 = .ok (.iaload, 1) := ld lc13 31 (en := (877, .iaload, 1)) rfl
theorem dl_878 : decode code 878 = .ok (.aload_n 0, 1) := ld lc13 32 (en := (878, .aload_n 0, 1)) rfl
theorem dl_879 : decode code 879 = .ok (.iload_n 3, 1) := ld lc13 33 (en := (879, .iload_n 3, 1)) rfl
theorem dl_880 : decode code 880 = .ok (.iconst 2, 1) := ld lc13 34 (en := (880, .iconst 2, 1)) rfl
theorem dl_881 : decode code 881 = .ok (.iadd, 1) := ld lc13 35 (en := (881, .iadd, 1)) rfl
theorem dl_882 : decode code 882 = .ok (.iaload, 1) := ld lc13 36 (en := (882, .iaload, 1)) rfl
theorem dl_883 : decode code 883 = .ok (.invokevirtual 116, 3) := ld lc13 37 (en := (883, .invokevirtual 116, 3)) rfl
theorem dl_886 : decode code 886 = .ok (.pop, 1) := ld lc13 38 (en := (886, .pop, 1)) rfl
theorem dl_887 : decode code 887 = .ok (.aload_n 2, 1) := ld lc13 39 (en := (887, .aload_n 2, 1)) rfl
theorem dl_888 : decode code 888 = .ok (.aload_n 0, 1) := ld lc13 40 (en := (888, .aload_n 0, 1)) rfl
theorem dl_889 : decode code 889 = .ok (.iload_n 3, 1) := ld lc13 41 (en := (889, .iload_n 3, 1)) rfl
theorem dl_890 : decode code 890 = .ok (.iconst 1, 1) := ld lc13 42 (en := (890, .iconst 1, 1)) rfl
theorem dl_891 : decode code 891 = .ok (.iadd, 1) := ld lc13 43 (en := (891, .iadd, 1)) rfl
theorem dl_892 : decode code 892 = .ok (.iaload, 1) := ld lc13 44 (en := (892, .iaload, 1)) rfl
theorem dl_893 : decode code 893 = .ok (.aload_n 0, 1) := ld lc13 45 (en := (893, .aload_n 0, 1)) rfl
theorem dl_894 : decode code 894 = .ok (.iload_n 3, 1) := ld lc13 46 (en := (894, .iload_n 3, 1)) rfl
theorem dl_895 : decode code 895 = .ok (.iconst 2, 1) := ld lc13 47 (en := (895, .iconst 2, 1)) rfl
theorem dl_896 : decode code 896 = .ok (.iadd, 1) := ld lc14 0 (en := (896, .iadd, 1)) rfl
theorem dl_897 : decode code 897 = .ok (.iaload, 1) := ld lc14 1 (en := (897, .iaload, 1)) rfl
theorem dl_898 : decode code 898 = .ok (.invokevirtual 119, 3) := ld lc14 2 (en := (898, .invokevirtual 119, 3)) rfl
theorem dl_901 : decode code 901 = .ok (.pop, 1) := ld lc14 3 (en := (901, .pop, 1)) rfl
theorem dl_902 : decode code 902 = .ok (.goto 289, 3) := ld lc14 4 (en := (902, .goto 289, 3)) rfl
theorem dl_905 : decode code 905 = .ok (.aload_n 1, 1) := ld lc14 5 (en := (905, .aload_n 1, 1)) rfl
theorem dl_906 : decode code 906 = .ok (.aload_n 0, 1) := ld lc14 6 (en := (906, .aload_n 0, 1)) rfl
theorem dl_907 : decode code 907 = .ok (.iload_n 3, 1) := ld lc14 7 (en := (907, .iload_n 3, 1)) rfl
theorem dl_908 : decode code 908 = .ok (.iconst 1, 1) := ld lc14 8 (en := (908, .iconst 1, 1)) rfl
theorem dl_909 : decode code 909 = .ok (.iadd, 1) := ld lc14 9 (en := (909, .iadd, 1)) rfl
theorem dl_910 : decode code 910 = .ok (.iaload, 1) := ld lc14 10 (en := (910, .iaload, 1)) rfl
theorem dl_911 : decode code 911 = .ok (.aload_n 0, 1) := ld lc14 11 (en := (911, .aload_n 0, 1)) rfl
theorem dl_912 : decode code 912 = .ok (.iload_n 3, 1) := ld lc14 12 (en := (912, .iload_n 3, 1)) rfl
theorem dl_913 : decode code 913 = .ok (.iconst 2, 1) := ld lc14 13 (en := (913, .iconst 2, 1)) rfl
theorem dl_914 : decode code 914 = .ok (.iadd, 1) := ld lc14 14 (en := (914, .iadd, 1)) rfl
theorem dl_915 : decode code 915 = .ok (.iaload, 1) := ld lc14 15 (en := (915, .iaload, 1)) rfl
theorem dl_916 : decode code 916 = .ok (.invokevirtual 120, 3) := ld lc14 16 (en := (916, .invokevirtual 120, 3)) rfl
theorem dl_919 : decode code 919 = .ok (.pop, 1) := ld lc14 17 (en := (919, .pop, 1)) rfl
theorem dl_920 : decode code 920 = .ok (.aload_n 2, 1) := ld lc14 18 (en := (920, .aload_n 2, 1)) rfl
theorem dl_921 : decode code 921 = .ok (.aload_n 0, 1) := ld lc14 19 (en := (921, .aload_n 0, 1)) rfl
theorem dl_922 : decode code 922 = .ok (.iload_n 3, 1) := ld lc14 20 (en := (922, .iload_n 3, 1)) rfl
theorem dl_923 : decode code 923 = .ok (.iconst 1, 1) := ld lc14 21 (en := (923, .iconst 1, 1)) rfl
theorem dl_924 : decode code 924 = .ok (.iadd, 1) := ld lc14 22 (en := (924, .iadd, 1)) rfl
theorem dl_925 : decode code 925 = .ok (.iaload, 1) := ld lc14 23 (en := (925, .iaload, 1)) rfl
theorem dl_926 : decode code 926 = .ok (.aload_n 0, 1) := ld lc14 24 (en := (926, .aload_n 0, 1)) rfl
theorem dl_927 : decode code 927 = .ok (.iload_n 3, 1) := ld lc14 25 (en := (927, .iload_n 3, 1)) rfl
theorem dl_928 : decode code 928 = .ok (.iconst 2, 1) := ld lc14 26 (en := (928, .iconst 2, 1)) rfl
theorem dl_929 : decode code 929 = .ok (.iadd, 1) := ld lc14 27 (en := (929, .iadd, 1)) rfl
theorem dl_930 : decode code 930 = .ok (.iaload, 1) := ld lc14 28 (en := (930, .iaload, 1)) rfl
theorem dl_931 : decode code 931 = .ok (.invokevirtual 123, 3) := ld lc14 29 (en := (931, .invokevirtual 123, 3)) rfl
theorem dl_934 : decode code 934 = .ok (.pop, 1) := ld lc14 30 (en := (934, .pop, 1)) rfl
theorem dl_935 : decode code 935 = .ok (.goto 256, 3) := ld lc14 31 (en := (935, .goto 256, 3)) rfl
theorem dl_938 : decode code 938 = .ok (.aload_n 1, 1) := ld lc14 32 (en := (938, .aload_n 1, 1)) rfl
theorem dl_939 : decode code 939 = .ok (.aload_n 0, 1) := ld lc14 33 (en := (939, .aload_n 0, 1)) rfl
theorem dl_940 : decode code 940 = .ok (.iload_n 3, 1) := ld lc14 34 (en := (940, .iload_n 3, 1)) rfl
theorem dl_941 : decode code 941 = .ok (.iconst 1, 1) := ld lc14 35 (en := (941, .iconst 1, 1)) rfl
theorem dl_942 : decode code 942 = .ok (.iadd, 1) := ld lc14 36 (en := (942, .iadd, 1)) rfl
theorem dl_943 : decode code 943 = .ok (.iaload, 1) := ld lc14 37 (en := (943, .iaload, 1)) rfl
theorem dl_944 : decode code 944 = .ok (.aload_n 0, 1) := ld lc14 38 (en := (944, .aload_n 0, 1)) rfl
theorem dl_945 : decode code 945 = .ok (.iload_n 3, 1) := ld lc14 39 (en := (945, .iload_n 3, 1)) rfl
theorem dl_946 : decode code 946 = .ok (.iconst 2, 1) := ld lc14 40 (en := (946, .iconst 2, 1)) rfl
theorem dl_947 : decode code 947 = .ok (.iadd, 1) := ld lc14 41 (en := (947, .iadd, 1)) rfl
theorem dl_948 : decode code 948 = .ok (.iaload, 1) := ld lc14 42 (en := (948, .iaload, 1)) rfl
theorem dl_949 : decode code 949 = .ok (.invokevirtual 124, 3) := ld lc14 43 (en := (949, .invokevirtual 124, 3)) rfl
theorem dl_952 : decode code 952 = .ok (.pop, 1) := ld lc14 44 (en := (952, .pop, 1)) rfl
theorem dl_953 : decode code 953 = .ok (.aload_n 2, 1) := ld lc14 45 (en := (953, .aload_n 2, 1)) rfl
theorem dl_954 : decode code 954 = .ok (.aload_n 0, 1) := ld lc14 46 (en := (954, .aload_n 0, 1)) rfl
theorem dl_955 : decode code 955 = .ok (.iload_n 3, 1) := ld lc14 47 (en := (955, .iload_n 3, 1)) rfl
theorem dl_956 : decode code 956 = .ok (.iconst 1, 1) := ld lc14 48 (en := (956, .iconst 1, 1)) rfl
theorem dl_957 : decode code 957 = .ok (.iadd, 1) := ld lc14 49 (en := (957, .iadd, 1)) rfl
theorem dl_958 : decode code 958 = .ok (.iaload, 1) := ld lc14 50 (en := (958, .iaload, 1)) rfl
theorem dl_959 : decode code 959 = .ok (.aload_n 0, 1) := ld lc14 51 (en := (959, .aload_n 0, 1)) rfl
theorem dl_960 : decode code 960 = .ok (.iload_n 3, 1) := ld lc15 0 (en := (960, .iload_n 3, 1)) rfl
theorem dl_961 : decode code 961 = .ok (.iconst 2, 1) := ld lc15 1 (en := (961, .iconst 2, 1)) rfl
theorem dl_962 : decode code 962 = .ok (.iadd, 1) := ld lc15 2 (en := (962, .iadd, 1)) rfl
theorem dl_963 : decode code 963 = .ok (.iaload, 1) := ld lc15 3 (en := (963, .iaload, 1)) rfl
theorem dl_964 : decode code 964 = .ok (.invokevirtual 127, 3) := ld lc15 4 (en := (964, .invokevirtual 127, 3)) rfl
theorem dl_967 : decode code 967 = .ok (.pop, 1) := ld lc15 5 (en := (967, .pop, 1)) rfl
theorem dl_968 : decode code 968 = .ok (.goto 223, 3) := ld lc15 6 (en := (968, .goto 223, 3)) rfl
theorem dl_971 : decode code 971 = .ok (.aload_n 1, 1) := ld lc15 7 (en := (971, .aload_n 1, 1)) rfl
theorem dl_972 : decode code 972 = .ok (.aload_n 0, 1) := ld lc15 8 (en := (972, .aload_n 0, 1)) rfl
theorem dl_973 : decode code 973 = .ok (.iload_n 3, 1) := ld lc15 9 (en := (973, .iload_n 3, 1)) rfl
theorem dl_974 : decode code 974 = .ok (.iconst 1, 1) := ld lc15 10 (en := (974, .iconst 1, 1)) rfl
theorem dl_975 : decode code 975 = .ok (.iadd, 1) := ld lc15 11 (en := (975, .iadd, 1)) rfl
theorem dl_976 : decode code 976 = .ok (.iaload, 1) := ld lc15 12 (en := (976, .iaload, 1)) rfl
theorem dl_977 : decode code 977 = .ok (.aload_n 0, 1) := ld lc15 13 (en := (977, .aload_n 0, 1)) rfl
theorem dl_978 : decode code 978 = .ok (.iload_n 3, 1) := ld lc15 14 (en := (978, .iload_n 3, 1)) rfl
theorem dl_979 : decode code 979 = .ok (.iconst 2, 1) := ld lc15 15 (en := (979, .iconst 2, 1)) rfl
theorem dl_980 : decode code 980 = .ok (.iadd, 1) := ld lc15 16 (en := (980, .iadd, 1)) rfl
theorem dl_981 : decode code 981 = .ok (.iaload, 1) := ld lc15 17 (en := (981, .iaload, 1)) rfl
theorem dl_982 : decode code 982 = .ok (.invokevirtual 128, 3) := ld lc15 18 (en := (982, .invokevirtual 128, 3)) rfl
theorem dl_985 : decode code 985 = .ok (.pop, 1) := ld lc15 19 (en := (985, .pop, 1)) rfl
theorem dl_986 : decode code 986 = .ok (.aload_n 2, 1) := ld lc15 20 (en := (986, .aload_n 2, 1)) rfl
theorem dl_987 : decode code 987 = .ok (.aload_n 0, 1) := ld lc15 21 (en := (987, .aload_n 0, 1)) rfl
theorem dl_988 : decode code 988 = .ok (.iload_n 3, 1) := ld lc15 22 (en := (988, .iload_n 3, 1)) rfl
theorem dl_989 : decode code 989 = .ok (.iconst 1, 1) := ld lc15 23 (en := (989, .iconst 1, 1)) rfl
theorem dl_990 : decode code 990 = .ok (.iadd, 1) := ld lc15 24 (en := (990, .iadd, 1)) rfl
theorem dl_991 : decode code 991 = .ok (.iaload, 1) := ld lc15 25 (en := (991, .iaload, 1)) rfl
theorem dl_992 : decode code 992 = .ok (.aload_n 0, 1) := ld lc15 26 (en := (992, .aload_n 0, 1)) rfl
theorem dl_993 : decode code 993 = .ok (.iload_n 3, 1) := ld lc15 27 (en := (993, .iload_n 3, 1)) rfl
theorem dl_994 : decode code 994 = .ok (.iconst 2, 1) := ld lc15 28 (en := (994, .iconst 2, 1)) rfl
theorem dl_995 : decode code 995 = .ok (.iadd, 1) := ld lc15 29 (en := (995, .iadd, 1)) rfl
theorem dl_996 : decode code 996 = .ok (.iaload, 1) := ld lc15 30 (en := (996, .iaload, 1)) rfl
theorem dl_997 : decode code 997 = .ok (.invokevirtual 131, 3) := ld lc15 31 (en := (997, .invokevirtual 131, 3)) rfl
theorem dl_1000 : decode code 1000 = .ok (.pop, 1) := ld lc15 32 (en := (1000, .pop, 1)) rfl
theorem dl_1001 : decode code 1001 = .ok (.goto 190, 3) := ld lc15 33 (en := (1001, .goto 190, 3)) rfl
theorem dl_1004 : decode code 1004 = .ok (.aload_n 1, 1) := ld lc15 34 (en := (1004, .aload_n 1, 1)) rfl
theorem dl_1005 : decode code 1005 = .ok (.aload_n 0, 1) := ld lc15 35 (en := (1005, .aload_n 0, 1)) rfl
theorem dl_1006 : decode code 1006 = .ok (.iload_n 3, 1) := ld lc15 36 (en := (1006, .iload_n 3, 1)) rfl
theorem dl_1007 : decode code 1007 = .ok (.iconst 1, 1) := ld lc15 37 (en := (1007, .iconst 1, 1)) rfl
theorem dl_1008 : decode code 1008 = .ok (.iadd, 1) := ld lc15 38 (en := (1008, .iadd, 1)) rfl
theorem dl_1009 : decode code 1009 = .ok (.iaload, 1) := ld lc15 39 (en := (1009, .iaload, 1)) rfl
theorem dl_1010 : decode code 1010 = .ok (.aload_n 0, 1) := ld lc15 40 (en := (1010, .aload_n 0, 1)) rfl
theorem dl_1011 : decode code 1011 = .ok (.iload_n 3, 1) := ld lc15 41 (en := (1011, .iload_n 3, 1)) rfl
theorem dl_1012 : decode code 1012 = .ok (.iconst 2, 1) := ld lc15 42 (en := (1012, .iconst 2, 1)) rfl
theorem dl_1013 : decode code 1013 = .ok (.iadd, 1) := ld lc15 43 (en := (1013, .iadd, 1)) rfl
theorem dl_1014 : decode code 1014 = .ok (.iaload, 1) := ld lc15 44 (en := (1014, .iaload, 1)) rfl
theorem dl_1015 : decode code 1015 = .ok (.ifCond .eq 7, 3) := ld lc15 45 (en := (1015, .ifCond .eq 7, 3)) rfl
theorem dl_1018 : decode code 1018 = .ok (.iconst 1, 1) := ld lc15 46 (en := (1018, .iconst 1, 1)) rfl
theorem dl_1019 : decode code 1019 = .ok (.goto 4, 3) := ld lc15 47 (en := (1019, .goto 4, 3)) rfl
theorem dl_1022 : decode code 1022 = .ok (.iconst 0, 1) := ld lc15 48 (en := (1022, .iconst 0, 1)) rfl
theorem dl_1023 : decode code 1023 = .ok (.invokevirtual 132, 3) := ld lc15 49 (en := (1023, .invokevirtual 132, 3)) rfl
theorem dl_1026 : decode code 1026 = .ok (.pop, 1) := ld lc16 0 (en := (1026, .pop, 1)) rfl
theorem dl_1027 : decode code 1027 = .ok (.aload_n 2, 1) := ld lc16 1 (en := (1027, .aload_n 2, 1)) rfl
theorem dl_1028 : decode code 1028 = .ok (.aload_n 0, 1) := ld lc16 2 (en := (1028, .aload_n 0, 1)) rfl
theorem dl_1029 : decode code 1029 = .ok (.iload_n 3, 1) := ld lc16 3 (en := (1029, .iload_n 3, 1)) rfl
theorem dl_1030 : decode code 1030 = .ok (.iconst 1, 1) := ld lc16 4 (en := (1030, .iconst 1, 1)) rfl
theorem dl_1031 : decode code 1031 = .ok (.iadd, 1) := ld lc16 5 (en := (1031, .iadd, 1)) rfl
theorem dl_1032 : decode code 1032 = .ok (.iaload, 1) := ld lc16 6 (en := (1032, .iaload, 1)) rfl
theorem dl_1033 : decode code 1033 = .ok (.aload_n 0, 1) := ld lc16 7 (en := (1033, .aload_n 0, 1)) rfl
theorem dl_1034 : decode code 1034 = .ok (.iload_n 3, 1) := ld lc16 8 (en := (1034, .iload_n 3, 1)) rfl
theorem dl_1035 : decode code 1035 = .ok (.iconst 2, 1) := ld lc16 9 (en := (1035, .iconst 2, 1)) rfl
theorem dl_1036 : decode code 1036 = .ok (.iadd, 1) := ld lc16 10 (en := (1036, .iadd, 1)) rfl
theorem dl_1037 : decode code 1037 = .ok (.iaload, 1) := ld lc16 11 (en := (1037, .iaload, 1)) rfl
theorem dl_1038 : decode code 1038 = .ok (.ifCond .eq 7, 3) := ld lc16 12 (en := (1038, .ifCond .eq 7, 3)) rfl
theorem dl_1041 : decode code 1041 = .ok (.iconst 1, 1) := ld lc16 13 (en := (1041, .iconst 1, 1)) rfl
theorem dl_1042 : decode code 1042 = .ok (.goto 4, 3) := ld lc16 14 (en := (1042, .goto 4, 3)) rfl
theorem dl_1045 : decode code 1045 = .ok (.iconst 0, 1) := ld lc16 15 (en := (1045, .iconst 0, 1)) rfl
theorem dl_1046 : decode code 1046 = .ok (.invokevirtual 136, 3) := ld lc16 16 (en := (1046, .invokevirtual 136, 3)) rfl
theorem dl_1049 : decode code 1049 = .ok (.pop, 1) := ld lc16 17 (en := (1049, .pop, 1)) rfl
theorem dl_1050 : decode code 1050 = .ok (.goto 141, 3) := ld lc16 18 (en := (1050, .goto 141, 3)) rfl
theorem dl_1053 : decode code 1053 = .ok (.aload_n 1, 1) := ld lc16 19 (en := (1053, .aload_n 1, 1)) rfl
theorem dl_1054 : decode code 1054 = .ok (.invokevirtual 137, 3) := ld lc16 20 (en := (1054, .invokevirtual 137, 3)) rfl
theorem dl_1057 : decode code 1057 = .ok (.pop, 1) := ld lc16 21 (en := (1057, .pop, 1)) rfl
theorem dl_1058 : decode code 1058 = .ok (.aload_n 2, 1) := ld lc16 22 (en := (1058, .aload_n 2, 1)) rfl
theorem dl_1059 : decode code 1059 = .ok (.invokevirtual 140, 3) := ld lc16 23 (en := (1059, .invokevirtual 140, 3)) rfl
theorem dl_1062 : decode code 1062 = .ok (.pop, 1) := ld lc16 24 (en := (1062, .pop, 1)) rfl
theorem dl_1063 : decode code 1063 = .ok (.goto 128, 3) := ld lc16 25 (en := (1063, .goto 128, 3)) rfl
theorem dl_1066 : decode code 1066 = .ok (.aload_n 1, 1) := ld lc16 26 (en := (1066, .aload_n 1, 1)) rfl
theorem dl_1067 : decode code 1067 = .ok (.aload_n 0, 1) := ld lc16 27 (en := (1067, .aload_n 0, 1)) rfl
theorem dl_1068 : decode code 1068 = .ok (.iload_n 3, 1) := ld lc16 28 (en := (1068, .iload_n 3, 1)) rfl
theorem dl_1069 : decode code 1069 = .ok (.iconst 1, 1) := ld lc16 29 (en := (1069, .iconst 1, 1)) rfl
theorem dl_1070 : decode code 1070 = .ok (.iadd, 1) := ld lc16 30 (en := (1070, .iadd, 1)) rfl
theorem dl_1071 : decode code 1071 = .ok (.iaload, 1) := ld lc16 31 (en := (1071, .iaload, 1)) rfl
theorem dl_1072 : decode code 1072 = .ok (.aload_n 0, 1) := ld lc16 32 (en := (1072, .aload_n 0, 1)) rfl
theorem dl_1073 : decode code 1073 = .ok (.iload_n 3, 1) := ld lc16 33 (en := (1073, .iload_n 3, 1)) rfl
theorem dl_1074 : decode code 1074 = .ok (.iconst 2, 1) := ld lc16 34 (en := (1074, .iconst 2, 1)) rfl
theorem dl_1075 : decode code 1075 = .ok (.iadd, 1) := ld lc16 35 (en := (1075, .iadd, 1)) rfl
theorem dl_1076 : decode code 1076 = .ok (.iaload, 1) := ld lc16 36 (en := (1076, .iaload, 1)) rfl
theorem dl_1077 : decode code 1077 = .ok (.invokevirtual 141, 3) := ld lc16 37 (en := (1077, .invokevirtual 141, 3)) rfl
theorem dl_1080 : decode code 1080 = .ok (.pop, 1) := ld lc16 38 (en := (1080, .pop, 1)) rfl
theorem dl_1081 : decode code 1081 = .ok (.aload_n 2, 1) := ld lc16 39 (en := (1081, .aload_n 2, 1)) rfl
theorem dl_1082 : decode code 1082 = .ok (.aload_n 0, 1) := ld lc16 40 (en := (1082, .aload_n 0, 1)) rfl
theorem dl_1083 : decode code 1083 = .ok (.iload_n 3, 1) := ld lc16 41 (en := (1083, .iload_n 3, 1)) rfl
theorem dl_1084 : decode code 1084 = .ok (.iconst 1, 1) := ld lc16 42 (en := (1084, .iconst 1, 1)) rfl
theorem dl_1085 : decode code 1085 = .ok (.iadd, 1) := ld lc16 43 (en := (1085, .iadd, 1)) rfl
theorem dl_1086 : decode code 1086 = .ok (.iaload, 1) := ld lc16 44 (en := (1086, .iaload, 1)) rfl
theorem dl_1087 : decode code 1087 = .ok (.aload_n 0, 1) := ld lc16 45 (en := (1087, .aload_n 0, 1)) rfl
theorem dl_1088 : decode code 1088 = .ok (.iload_n 3, 1) := ld lc17 0 (en := (1088, .iload_n 3, 1)) rfl
theorem dl_1089 : decode code 1089 = .ok (.iconst 2, 1) := ld lc17 1 (en := (1089, .iconst 2, 1)) rfl
theorem dl_1090 : decode code 1090 = .ok (.iadd, 1) := ld lc17 2 (en := (1090, .iadd, 1)) rfl
theorem dl_1091 : decode code 1091 = .ok (.iaload, 1) := ld lc17 3 (en := (1091, .iaload, 1)) rfl
theorem dl_1092 : decode code 1092 = .ok (.invokevirtual 144, 3) := ld lc17 4 (en := (1092, .invokevirtual 144, 3)) rfl
theorem dl_1095 : decode code 1095 = .ok (.pop, 1) := ld lc17 5 (en := (1095, .pop, 1)) rfl
theorem dl_1096 : decode code 1096 = .ok (.goto 95, 3) := ld lc17 6 (en := (1096, .goto 95, 3)) rfl
theorem dl_1099 : decode code 1099 = .ok (.aload_n 1, 1) := ld lc17 7 (en := (1099, .aload_n 1, 1)) rfl
theorem dl_1100 : decode code 1100 = .ok (.aload_n 0, 1) := ld lc17 8 (en := (1100, .aload_n 0, 1)) rfl
theorem dl_1101 : decode code 1101 = .ok (.iload_n 3, 1) := ld lc17 9 (en := (1101, .iload_n 3, 1)) rfl
theorem dl_1102 : decode code 1102 = .ok (.iconst 1, 1) := ld lc17 10 (en := (1102, .iconst 1, 1)) rfl
theorem dl_1103 : decode code 1103 = .ok (.iadd, 1) := ld lc17 11 (en := (1103, .iadd, 1)) rfl
theorem dl_1104 : decode code 1104 = .ok (.iaload, 1) := ld lc17 12 (en := (1104, .iaload, 1)) rfl
theorem dl_1105 : decode code 1105 = .ok (.invokevirtual 145, 3) := ld lc17 13 (en := (1105, .invokevirtual 145, 3)) rfl
theorem dl_1108 : decode code 1108 = .ok (.pop, 1) := ld lc17 14 (en := (1108, .pop, 1)) rfl
theorem dl_1109 : decode code 1109 = .ok (.aload_n 2, 1) := ld lc17 15 (en := (1109, .aload_n 2, 1)) rfl
theorem dl_1110 : decode code 1110 = .ok (.aload_n 0, 1) := ld lc17 16 (en := (1110, .aload_n 0, 1)) rfl
theorem dl_1111 : decode code 1111 = .ok (.iload_n 3, 1) := ld lc17 17 (en := (1111, .iload_n 3, 1)) rfl
theorem dl_1112 : decode code 1112 = .ok (.iconst 1, 1) := ld lc17 18 (en := (1112, .iconst 1, 1)) rfl
theorem dl_1113 : decode code 1113 = .ok (.iadd, 1) := ld lc17 19 (en := (1113, .iadd, 1)) rfl
theorem dl_1114 : decode code 1114 = .ok (.iaload, 1) := ld lc17 20 (en := (1114, .iaload, 1)) rfl
theorem dl_1115 : decode code 1115 = .ok (.invokevirtual 148, 3) := ld lc17 21 (en := (1115, .invokevirtual 148, 3)) rfl
theorem dl_1118 : decode code 1118 = .ok (.pop, 1) := ld lc17 22 (en := (1118, .pop, 1)) rfl
theorem dl_1119 : decode code 1119 = .ok (.goto 72, 3) := ld lc17 23 (en := (1119, .goto 72, 3)) rfl
theorem dl_1122 : decode code 1122 = .ok (.aload_n 1, 1) := ld lc17 24 (en := (1122, .aload_n 1, 1)) rfl
theorem dl_1123 : decode code 1123 = .ok (.aload_n 0, 1) := ld lc17 25 (en := (1123, .aload_n 0, 1)) rfl
theorem dl_1124 : decode code 1124 = .ok (.iload_n 3, 1) := ld lc17 26 (en := (1124, .iload_n 3, 1)) rfl
theorem dl_1125 : decode code 1125 = .ok (.iconst 1, 1) := ld lc17 27 (en := (1125, .iconst 1, 1)) rfl
theorem dl_1126 : decode code 1126 = .ok (.iadd, 1) := ld lc17 28 (en := (1126, .iadd, 1)) rfl
theorem dl_1127 : decode code 1127 = .ok (.iaload, 1) := ld lc17 29 (en := (1127, .iaload, 1)) rfl
theorem dl_1128 : decode code 1128 = .ok (.invokevirtual 149, 3) := ld lc17 30 (en := (1128, .invokevirtual 149, 3)) rfl
theorem dl_1131 : decode code 1131 = .ok (.pop, 1) := ld lc17 31 (en := (1131, .pop, 1)) rfl
theorem dl_1132 : decode code 1132 = .ok (.aload_n 2, 1) := ld lc17 32 (en := (1132, .aload_n 2, 1)) rfl
theorem dl_1133 : decode code 1133 = .ok (.aload_n 0, 1) := ld lc17 33 (en := (1133, .aload_n 0, 1)) rfl
theorem dl_1134 : decode code 1134 = .ok (.iload_n 3, 1) := ld lc17 34 (en := (1134, .iload_n 3, 1)) rfl
theorem dl_1135 : decode code 1135 = .ok (.iconst 1, 1) := ld lc17 35 (en := (1135, .iconst 1, 1)) rfl
theorem dl_1136 : decode code 1136 = .ok (.iadd, 1) := ld lc17 36 (en := (1136, .iadd, 1)) rfl
theorem dl_1137 : decode code 1137 = .ok (.iaload, 1) := ld lc17 37 (en := (1137, .iaload, 1)) rfl
theorem dl_1138 : decode code 1138 = .ok (.invokevirtual 153, 3) := ld lc17 38 (en := (1138, .invokevirtual 153, 3)) rfl
theorem dl_1141 : decode code 1141 = .ok (.pop, 1) := ld lc17 39 (en := (1141, .pop, 1)) rfl
theorem dl_1142 : decode code 1142 = .ok (.goto 49, 3) := ld lc17 40 (en := (1142, .goto 49, 3)) rfl
theorem dl_1145 : decode code 1145 = .ok (.aload_n 1, 1) := ld lc17 41 (en := (1145, .aload_n 1, 1)) rfl
theorem dl_1146 : decode code 1146 = .ok (.aload_n 0, 1) := ld lc17 42 (en := (1146, .aload_n 0, 1)) rfl
theorem dl_1147 : decode code 1147 = .ok (.iload_n 3, 1) := ld lc17 43 (en := (1147, .iload_n 3, 1)) rfl
theorem dl_1148 : decode code 1148 = .ok (.iconst 1, 1) := ld lc17 44 (en := (1148, .iconst 1, 1)) rfl
theorem dl_1149 : decode code 1149 = .ok (.iadd, 1) := ld lc17 45 (en := (1149, .iadd, 1)) rfl
theorem dl_1150 : decode code 1150 = .ok (.iaload, 1) := ld lc17 46 (en := (1150, .iaload, 1)) rfl
theorem dl_1151 : decode code 1151 = .ok (.invokevirtual 154, 3) := ld lc17 47 (en := (1151, .invokevirtual 154, 3)) rfl
theorem dl_1154 : decode code 1154 = .ok (.pop, 1) := ld lc18 0 (en := (1154, .pop, 1)) rfl
theorem dl_1155 : decode code 1155 = .ok (.aload_n 2, 1) := ld lc18 1 (en := (1155, .aload_n 2, 1)) rfl
theorem dl_1156 : decode code 1156 = .ok (.aload_n 0, 1) := ld lc18 2 (en := (1156, .aload_n 0, 1)) rfl
theorem dl_1157 : decode code 1157 = .ok (.iload_n 3, 1) := ld lc18 3 (en := (1157, .iload_n 3, 1)) rfl
theorem dl_1158 : decode code 1158 = .ok (.iconst 1, 1) := ld lc18 4 (en := (1158, .iconst 1, 1)) rfl
theorem dl_1159 : decode code 1159 = .ok (.iadd, 1) := ld lc18 5 (en := (1159, .iadd, 1)) rfl
theorem dl_1160 : decode code 1160 = .ok (.iaload, 1) := ld lc18 6 (en := (1160, .iaload, 1)) rfl
theorem dl_1161 : decode code 1161 = .ok (.invokevirtual 157, 3) := ld lc18 7 (en := (1161, .invokevirtual 157, 3)) rfl
theorem dl_1164 : decode code 1164 = .ok (.pop, 1) := ld lc18 8 (en := (1164, .pop, 1)) rfl
theorem dl_1165 : decode code 1165 = .ok (.goto 26, 3) := ld lc18 9 (en := (1165, .goto 26, 3)) rfl
theorem dl_1168 : decode code 1168 = .ok (.aload_n 1, 1) := ld lc18 10 (en := (1168, .aload_n 1, 1)) rfl
theorem dl_1169 : decode code 1169 = .ok (.aload_n 0, 1) := ld lc18 11 (en := (1169, .aload_n 0, 1)) rfl
theorem dl_1170 : decode code 1170 = .ok (.iload_n 3, 1) := ld lc18 12 (en := (1170, .iload_n 3, 1)) rfl
theorem dl_1171 : decode code 1171 = .ok (.iconst 1, 1) := ld lc18 13 (en := (1171, .iconst 1, 1)) rfl
theorem dl_1172 : decode code 1172 = .ok (.iadd, 1) := ld lc18 14 (en := (1172, .iadd, 1)) rfl
theorem dl_1173 : decode code 1173 = .ok (.iaload, 1) := ld lc18 15 (en := (1173, .iaload, 1)) rfl
theorem dl_1174 : decode code 1174 = .ok (.invokevirtual 158, 3) := ld lc18 16 (en := (1174, .invokevirtual 158, 3)) rfl
theorem dl_1177 : decode code 1177 = .ok (.aload_n 2, 1) := ld lc18 17 (en := (1177, .aload_n 2, 1)) rfl
theorem dl_1178 : decode code 1178 = .ok (.aload_n 0, 1) := ld lc18 18 (en := (1178, .aload_n 0, 1)) rfl
theorem dl_1179 : decode code 1179 = .ok (.iload_n 3, 1) := ld lc18 19 (en := (1179, .iload_n 3, 1)) rfl
theorem dl_1180 : decode code 1180 = .ok (.iconst 1, 1) := ld lc18 20 (en := (1180, .iconst 1, 1)) rfl
theorem dl_1181 : decode code 1181 = .ok (.iadd, 1) := ld lc18 21 (en := (1181, .iadd, 1)) rfl
theorem dl_1182 : decode code 1182 = .ok (.iaload, 1) := ld lc18 22 (en := (1182, .iaload, 1)) rfl
theorem dl_1183 : decode code 1183 = .ok (.invokevirtual 161, 3) := ld lc18 23 (en := (1183, .invokevirtual 161, 3)) rfl
theorem dl_1186 : decode code 1186 = .ok (.if_icmp .eq 5, 3) := ld lc18 24 (en := (1186, .if_icmp .eq 5, 3)) rfl
theorem dl_1189 : decode code 1189 = .ok (.iconst 0, 1) := ld lc18 25 (en := (1189, .iconst 0, 1)) rfl
theorem dl_1190 : decode code 1190 = .ok (.ireturn, 1) := ld lc18 26 (en := (1190, .ireturn, 1)) rfl
theorem dl_1191 : decode code 1191 = .ok (.iinc 3 6, 3) := ld lc18 27 (en := (1191, .iinc 3 6, 3)) rfl
theorem dl_1194 : decode code 1194 = .ok (.goto (-1176), 3) := ld lc18 28 (en := (1194, .goto (-1176), 3)) rfl
theorem dl_1197 : decode code 1197 = .ok (.iconst 1, 1) := ld lc18 29 (en := (1197, .iconst 1, 1)) rfl
theorem dl_1198 : decode code 1198 = .ok (.ireturn, 1) := ld lc18 30 (en := (1198, .ireturn, 1)) rfl
end
section
/-! BOTH, CALL BY CALL -/
def Bt (m : dM) : Prop := Ok m ∧ Rq m ∧ Fr m
/-- behind the class's call: it has moved, the reference not yet -/
def Md (f : Ho → Zt → List Zt → An) (r : Int32) (m : dM) : Prop := Ok m ∧ Rq m ∧ ∃ (H : Ho) (S : Zt) (P : List Zt) (J : Nat → Zt) (s : Nat), hBo H ∧ zOk H S ∧ (∀ T : Zt, T ∈ P → zOk H T) ∧ (∀ i : Nat, zOk H (J i)) ∧ Zb H (f H S P).2.1 (f H S P).2.2 J H S P J s m ∧ r = (f H S P).1
def fOk (f : Ho → Zt → List Zt → An) : Prop := ∀ (H : Ho) (S : Zt) (P : List Zt), hOk H → zOk H S → (∀ T : Zt, T ∈ P → zOk H T) → zOk H (f H S P).2.1 ∧ ∀ T : Zt, T ∈ (f H S P).2.2 → zOk H T
section BTC
variable {m : dM} {x1 x2 x3 : Int32}
theorem pKeep_ok {H : Ho} {S : Zt} {P : List Zt} (h : zOk H S) (hP : ∀ T : Zt, T ∈ P → zOk H T) : ∀ T : Zt, T ∈ pKeep S P → zOk H T := fun T hT => by
  unfold pKeep at hT
  have := List.mem_of_mem_take hT
  rcases List.mem_cons.mp this with e | e
  · rw [e]; exact h
  · exact hP T e
theorem fk_agr : fOk (fun H S P => aAgr H S P x1 x2) := fun H S P hO h hP => by
  refine ⟨h.agr hO, ?_⟩
  show ∀ T : Zt, T ∈ (aAgr H S P x1 x2).2.2 → zOk H T
  unfold aAgr
  split
  · exact pKeep_ok h hP
  · exact hP
theorem fk_pin : fOk (fun H S P => aPin H S P x1 x2) := fun H S P hO h hP => by
  refine ⟨h.pin hO, ?_⟩
  show ∀ T : Zt, T ∈ (aPin H S P x1 x2).2.2 → zOk H T
  unfold aPin
  split
  · exact pKeep_ok h hP
  · exact hP
theorem fk_mnd : fOk (fun H S P => aMnd H S P x1) := fun H S P hO h hP => by
  refine ⟨h.mnd, ?_⟩
  show ∀ T : Zt, T ∈ (aMnd H S P x1).2.2 → zOk H T
  unfold aMnd
  split
  · split
    · exact pKeep_ok h hP
    · exact hP
  · exact hP
theorem fk_thk : fOk (fun H S P => aThk H S P x1) := fun H S P hO h hP => by
  refine ⟨h.thk, ?_⟩
  show ∀ T : Zt, T ∈ (aThk H S P x1).2.2 → zOk H T
  unfold aThk
  split
  · split
    · exact pKeep_ok h hP
    · exact hP
  · exact hP
theorem fk_hrs : fOk (fun H S P => aHrs H S P x1) := fun H S P hO h hP => by
  refine ⟨h.hrs hO, ?_⟩
  show ∀ T : Zt, T ∈ (aHrs H S P x1).2.2 → zOk H T
  unfold aHrs
  split
  · split
    · exact hP
    · exact pKeep_ok h hP
  · exact hP
theorem fk_und : fOk (fun _ S P => aUnd S P) := fun H S P hO h hP => by
  cases P with
  | nil => exact ⟨h, fun T hT => absurd hT (List.not_mem_nil)⟩
  | cons T P' => exact ⟨hP T (List.mem_cons_self ..), fun T' hT => hP T' (List.mem_cons_of_mem _ hT)⟩
theorem w1_use (hB : Bt m) : c_X11_use_0 600 x1 x2 m (fun _ m' => Bt m') := by
  obtain ⟨hO, hT, H, S, P, J, s, hb, hz, hP, hJ, hk, hr⟩ := hB
  have h := both (a_X11_use (x1 := x1) (x2 := x2) (Q := fun _ m' => Ok m' ∧ Kp m m') hO (fun r m' O => O)) (k_use (x1 := x1) (x2 := x2) (Q := fun _ m' => Zb H S P J H S P J s m') hk hz (fun r m' q => ⟨q.2, hr.cc q.1⟩)) (fun r m1 m2 q z => z.sm q)
  exact h.mono (fun v m1 ⟨r, er, ⟨O1, k1⟩, z⟩ => ⟨r, er, O1, hT.kp k1, H, S, P, J, s, hb, hz, hP, hJ, z⟩)
theorem w2_use (hB : Bt m) : c_X12_use_70 600 x1 x2 m (fun _ m' => Bt m') := by
  obtain ⟨hO, hT, H, S, P, J, s, hb, hz, hP, hJ, hk, hr⟩ := hB
  have h := both (a_X12_use (x1 := x1) (x2 := x2) (Q := fun _ m' => Ok m' ∧ Kp m m') hO (fun r m' O => O)) (r_use (x1 := x1) (x2 := x2) (Q := fun _ m' => Zb H S P J H S P J s m') hr (fun r m' q => ⟨hk.rc q.rc, hr.rs q⟩)) (fun r m1 m2 q z => z.sm q)
  exact h.mono (fun v m1 ⟨r, er, ⟨O1, k1⟩, z⟩ => ⟨r, er, O1, hT.kp k1, H, S, P, J, s, hb, hz, hP, hJ, z⟩)
theorem w1_went (hB : Bt m) : c_X11_went_0 600 x1 x2 m (fun _ m' => Bt m') := by
  obtain ⟨hO, hT, H, S, P, J, s, hb, hz, hP, hJ, hk, hr⟩ := hB
  have h := both (a_X11_went (x1 := x1) (x2 := x2) (Q := fun _ m' => Ok m' ∧ Kp m m') hO (fun r m' O => O)) (k_went (x1 := x1) (x2 := x2) (Q := fun _ m' => Zb H S P J H S P J s m') hk (hO.s (k := 67) (j := 3) rfl).2 (fun r m' q => ⟨q.2, hr.cc q.1⟩)) (fun r m1 m2 q z => z.sm q)
  exact h.mono (fun v m1 ⟨r, er, ⟨O1, k1⟩, z⟩ => ⟨r, er, O1, hT.kp k1, H, S, P, J, s, hb, hz, hP, hJ, z⟩)
theorem w2_went (hB : Bt m) : c_X12_went_70 600 x1 x2 m (fun _ m' => Bt m') := by
  obtain ⟨hO, hT, H, S, P, J, s, hb, hz, hP, hJ, hk, hr⟩ := hB
  have h := both (a_X12_went (x1 := x1) (x2 := x2) (Q := fun _ m' => Ok m' ∧ Kp m m') hO (fun r m' O => O)) (r_went (x1 := x1) (x2 := x2) (Q := fun _ m' => Zb H S P J H S P J s m') hr (hO.s (k := 70) (j := 63) rfl).2 (fun r m' q => ⟨hk.rc q.rc, hr.rs q⟩)) (fun r m1 m2 q z => z.sm q)
  exact h.mono (fun v m1 ⟨r, er, ⟨O1, k1⟩, z⟩ => ⟨r, er, O1, hT.kp k1, H, S, P, J, s, hb, hz, hP, hJ, z⟩)
theorem w1_ask (hB : Bt m) : c_X11_ask_0 600 x1 m (fun _ m' => Bt m') := by
  obtain ⟨hO, hT, H, S, P, J, s, hb, hz, hP, hJ, hk, hr⟩ := hB
  have h := both (a_X11_ask (x1 := x1) (Q := fun _ m' => Ok m' ∧ Kp m m') hO (fun r m' O => O)) (k_ask (x1 := x1) (Q := fun _ m' => Zb H S P J H S P J s m') hk (hO.s (k := 67) (j := 3) rfl).2 (fun r m' q => ⟨q.2, hr.cc q.1⟩)) (fun r m1 m2 q z => z.sm q)
  exact h.mono (fun v m1 ⟨r, er, ⟨O1, k1⟩, z⟩ => ⟨r, er, O1, hT.kp k1, H, S, P, J, s, hb, hz, hP, hJ, z⟩)
theorem w2_ask (hB : Bt m) : c_X12_ask_70 600 x1 m (fun _ m' => Bt m') := by
  obtain ⟨hO, hT, H, S, P, J, s, hb, hz, hP, hJ, hk, hr⟩ := hB
  have h := both (a_X12_ask (x1 := x1) (Q := fun _ m' => Ok m' ∧ Kp m m') hO (fun r m' O => O)) (r_ask (x1 := x1) (Q := fun _ m' => Zb H S P J H S P J s m') hr (hO.s (k := 70) (j := 63) rfl).2 (fun r m' q => ⟨hk.rc q.rc, hr.rs q⟩)) (fun r m1 m2 q z => z.sm q)
  exact h.mono (fun v m1 ⟨r, er, ⟨O1, k1⟩, z⟩ => ⟨r, er, O1, hT.kp k1, H, S, P, J, s, hb, hz, hP, hJ, z⟩)
theorem w1_flat (hB : Bt m) : c_X11_flat_0 600 x1 x2 m (fun r m' => Md (fun H S P => (aFlt H S x1 x2, S, P)) r m') := by
  obtain ⟨hO, hT, H, S, P, J, s, hb, hz, hP, hJ, hk, hr⟩ := hB
  have h := both (a_X11_flat (x1 := x1) (x2 := x2) (Q := fun _ m' => Ok m' ∧ Kp m m') hO (fun r m' O => O)) (ea_flat (x1 := x1) (x2 := x2) (Q := fun r m' => Zb H S P J H S P J s m' ∧ r = aFlt H S x1 x2) hk hz (fun m' q => ⟨⟨q.2, hr.cc q.1⟩, rfl⟩)) (fun r m1 m2 q z => ⟨z.1.sm q, z.2⟩)
  exact h.mono (fun v m1 ⟨r, er, ⟨O1, k1⟩, z, e⟩ => ⟨r, er, O1, hT.kp k1, H, S, P, J, s, hb, hz, hP, hJ, z, e⟩)
theorem w2_flat {r1 : Int32} (hB : Md (fun H S P => (aFlt H S x1 x2, S, P)) r1 m) : c_X12_flat_70 600 x1 x2 m (fun r m' => Bt m' ∧ r1 = r) := by
  obtain ⟨hO, hT, H, S, P, J, s, hb, hz, hP, hJ, ⟨hk, hr⟩, e1⟩ := hB
  have hk : KC H S P J m := hk
  have h := both (a_X12_flat (x1 := x1) (x2 := x2) (Q := fun _ m' => Ok m' ∧ Kp m m') hO (fun r m' O => O)) (eb_flat (x1 := x1) (x2 := x2) (Q := fun r m' => Zb H S P J H S P J s m' ∧ r = aFlt H S x1 x2) hr (fun m' q => ⟨⟨hk.rc q.rc, hr.rs q⟩, rfl⟩)) (fun r m1 m2 q z => ⟨z.1.sm q, z.2⟩)
  exact h.mono (fun v m1 ⟨r, er, ⟨O1, k1⟩, z, e⟩ => ⟨r, er, ⟨O1, hT.kp k1, H, S, P, J, s, hb, hz, hP, hJ, z⟩, e1.trans e.symm⟩)
theorem w1_wire (hB : Bt m) : c_X11_wire_0 600 x1 x2 m (fun r m' => Md (fun H S P => (aWir H S x1 x2, S, P)) r m') := by
  obtain ⟨hO, hT, H, S, P, J, s, hb, hz, hP, hJ, hk, hr⟩ := hB
  have h := both (a_X11_wire (x1 := x1) (x2 := x2) (Q := fun _ m' => Ok m' ∧ Kp m m') hO (fun r m' O => O)) (ea_wire (x1 := x1) (x2 := x2) (Q := fun r m' => Zb H S P J H S P J s m' ∧ r = aWir H S x1 x2) hk hz (fun m' q => ⟨⟨q.2, hr.cc q.1⟩, rfl⟩)) (fun r m1 m2 q z => ⟨z.1.sm q, z.2⟩)
  exact h.mono (fun v m1 ⟨r, er, ⟨O1, k1⟩, z, e⟩ => ⟨r, er, O1, hT.kp k1, H, S, P, J, s, hb, hz, hP, hJ, z, e⟩)
theorem w2_wire {r1 : Int32} (hB : Md (fun H S P => (aWir H S x1 x2, S, P)) r1 m) : c_X12_wire_70 600 x1 x2 m (fun r m' => Bt m' ∧ r1 = r) := by
  obtain ⟨hO, hT, H, S, P, J, s, hb, hz, hP, hJ, ⟨hk, hr⟩, e1⟩ := hB
  have hk : KC H S P J m := hk
  have h := both (a_X12_wire (x1 := x1) (x2 := x2) (Q := fun _ m' => Ok m' ∧ Kp m m') hO (fun r m' O => O)) (eb_wire (x1 := x1) (x2 := x2) (Q := fun r m' => Zb H S P J H S P J s m' ∧ r = aWir H S x1 x2) hr (fun m' q => ⟨⟨hk.rc q.rc, hr.rs q⟩, rfl⟩)) (fun r m1 m2 q z => ⟨z.1.sm q, z.2⟩)
  exact h.mono (fun v m1 ⟨r, er, ⟨O1, k1⟩, z, e⟩ => ⟨r, er, ⟨O1, hT.kp k1, H, S, P, J, s, hb, hz, hP, hJ, z⟩, e1.trans e.symm⟩)
theorem w1_way (hB : Bt m) : c_X11_way_0 600 x1 x2 m (fun r m' => Md (fun H S P => (aWay H S x1 x2, S, P)) r m') := by
  obtain ⟨hO, hT, H, S, P, J, s, hb, hz, hP, hJ, hk, hr⟩ := hB
  have h := both (a_X11_way (x1 := x1) (x2 := x2) (Q := fun _ m' => Ok m' ∧ Kp m m') hO (fun r m' O => O)) (ea_way (x1 := x1) (x2 := x2) (Q := fun r m' => Zb H S P J H S P J s m' ∧ r = aWay H S x1 x2) hk hz (fun m' q => ⟨⟨q.2, hr.cc q.1⟩, rfl⟩)) (fun r m1 m2 q z => ⟨z.1.sm q, z.2⟩)
  exact h.mono (fun v m1 ⟨r, er, ⟨O1, k1⟩, z, e⟩ => ⟨r, er, O1, hT.kp k1, H, S, P, J, s, hb, hz, hP, hJ, z, e⟩)
theorem w2_way {r1 : Int32} (hB : Md (fun H S P => (aWay H S x1 x2, S, P)) r1 m) : c_X12_way_70 600 x1 x2 m (fun r m' => Bt m' ∧ r1 = r) := by
  obtain ⟨hO, hT, H, S, P, J, s, hb, hz, hP, hJ, ⟨hk, hr⟩, e1⟩ := hB
  have hk : KC H S P J m := hk
  have h := both (a_X12_way (x1 := x1) (x2 := x2) (Q := fun _ m' => Ok m' ∧ Kp m m') hO (fun r m' O => O)) (eb_way (x1 := x1) (x2 := x2) (Q := fun r m' => Zb H S P J H S P J s m' ∧ r = aWay H S x1 x2) hr (fun m' q => ⟨⟨hk.rc q.rc, hr.rs q⟩, rfl⟩)) (fun r m1 m2 q z => ⟨z.1.sm q, z.2⟩)
  exact h.mono (fun v m1 ⟨r, er, ⟨O1, k1⟩, z, e⟩ => ⟨r, er, ⟨O1, hT.kp k1, H, S, P, J, s, hb, hz, hP, hJ, z⟩, e1.trans e.symm⟩)
theorem w1_peak (hB : Bt m) : c_X11_peak_0 600 x1 x2 x3 m (fun r m' => Md (fun H S P => (aPk H S x1 x2 x3, S, P)) r m') := by
  obtain ⟨hO, hT, H, S, P, J, s, hb, hz, hP, hJ, hk, hr⟩ := hB
  have h := both (a_X11_peak (x1 := x1) (x2 := x2) (x3 := x3) (Q := fun _ m' => Ok m' ∧ Kp m m') hO (fun r m' O => O)) (ea_peak (x1 := x1) (x2 := x2) (x3 := x3) (Q := fun r m' => Zb H S P J H S P J s m' ∧ r = aPk H S x1 x2 x3) hk hz (fun m' q => ⟨⟨q.2, hr.cc q.1⟩, rfl⟩)) (fun r m1 m2 q z => ⟨z.1.sm q, z.2⟩)
  exact h.mono (fun v m1 ⟨r, er, ⟨O1, k1⟩, z, e⟩ => ⟨r, er, O1, hT.kp k1, H, S, P, J, s, hb, hz, hP, hJ, z, e⟩)
theorem w2_peak {r1 : Int32} (hB : Md (fun H S P => (aPk H S x1 x2 x3, S, P)) r1 m) : c_X12_peak_70 600 x1 x2 x3 m (fun r m' => Bt m' ∧ r1 = r) := by
  obtain ⟨hO, hT, H, S, P, J, s, hb, hz, hP, hJ, ⟨hk, hr⟩, e1⟩ := hB
  have hk : KC H S P J m := hk
  have h := both (a_X12_peak (x1 := x1) (x2 := x2) (x3 := x3) (Q := fun _ m' => Ok m' ∧ Kp m m') hO (fun r m' O => O)) (eb_peak (x1 := x1) (x2 := x2) (x3 := x3) (Q := fun r m' => Zb H S P J H S P J s m' ∧ r = aPk H S x1 x2 x3) hr hz (fun m' q => ⟨⟨hk.rc q.rc, hr.rs q⟩, rfl⟩)) (fun r m1 m2 q z => ⟨z.1.sm q, z.2⟩)
  exact h.mono (fun v m1 ⟨r, er, ⟨O1, k1⟩, z, e⟩ => ⟨r, er, ⟨O1, hT.kp k1, H, S, P, J, s, hb, hz, hP, hJ, z⟩, e1.trans e.symm⟩)
theorem w1_first (hB : Bt m) : c_X11_first_0 600 x1 m (fun r m' => Md (fun H S P => (aFst H S x1, S, P)) r m') := by
  obtain ⟨hO, hT, H, S, P, J, s, hb, hz, hP, hJ, hk, hr⟩ := hB
  have h := both (a_X11_first (x1 := x1) (Q := fun _ m' => Ok m' ∧ Kp m m') hO (fun r m' O => O)) (ea_first (x1 := x1) (Q := fun r m' => Zb H S P J H S P J s m' ∧ r = aFst H S x1) hk hz (fun m' q => ⟨⟨q.2, hr.cc q.1⟩, rfl⟩)) (fun r m1 m2 q z => ⟨z.1.sm q, z.2⟩)
  exact h.mono (fun v m1 ⟨r, er, ⟨O1, k1⟩, z, e⟩ => ⟨r, er, O1, hT.kp k1, H, S, P, J, s, hb, hz, hP, hJ, z, e⟩)
theorem w2_first {r1 : Int32} (hB : Md (fun H S P => (aFst H S x1, S, P)) r1 m) : c_X12_first_70 600 x1 m (fun r m' => Bt m' ∧ r1 = r) := by
  obtain ⟨hO, hT, H, S, P, J, s, hb, hz, hP, hJ, ⟨hk, hr⟩, e1⟩ := hB
  have hk : KC H S P J m := hk
  have h := both (a_X12_first (x1 := x1) (Q := fun _ m' => Ok m' ∧ Kp m m') hO (fun r m' O => O)) (eb_first (x1 := x1) (Q := fun r m' => Zb H S P J H S P J s m' ∧ r = aFst H S x1) hr hz (fun m' q => ⟨⟨hk.rc q.rc, hr.rs q⟩, rfl⟩)) (fun r m1 m2 q z => ⟨z.1.sm q, z.2⟩)
  exact h.mono (fun v m1 ⟨r, er, ⟨O1, k1⟩, z, e⟩ => ⟨r, er, ⟨O1, hT.kp k1, H, S, P, J, s, hb, hz, hP, hJ, z⟩, e1.trans e.symm⟩)
theorem w1_together (hB : Bt m) : c_X11_together_0 600 x1 m (fun r m' => Md (fun H S P => (aTg H S x1, S, P)) r m') := by
  obtain ⟨hO, hT, H, S, P, J, s, hb, hz, hP, hJ, hk, hr⟩ := hB
  have h := both (a_X11_together (x1 := x1) (Q := fun _ m' => Ok m' ∧ Kp m m') hO (fun r m' O => O)) (ea_together (x1 := x1) (Q := fun r m' => Zb H S P J H S P J s m' ∧ r = aTg H S x1) hk hz (fun m' q => ⟨⟨q.2, hr.cc q.1⟩, rfl⟩)) (fun r m1 m2 q z => ⟨z.1.sm q, z.2⟩)
  exact h.mono (fun v m1 ⟨r, er, ⟨O1, k1⟩, z, e⟩ => ⟨r, er, O1, hT.kp k1, H, S, P, J, s, hb, hz, hP, hJ, z, e⟩)
theorem w2_together {r1 : Int32} (hB : Md (fun H S P => (aTg H S x1, S, P)) r1 m) : c_X12_together_70 600 x1 m (fun r m' => Bt m' ∧ r1 = r) := by
  obtain ⟨hO, hT, H, S, P, J, s, hb, hz, hP, hJ, ⟨hk, hr⟩, e1⟩ := hB
  have hk : KC H S P J m := hk
  have h := both (a_X12_together (x1 := x1) (Q := fun _ m' => Ok m' ∧ Kp m m') hO (fun r m' O => O)) (eb_together (x1 := x1) (Q := fun r m' => Zb H S P J H S P J s m' ∧ r = aTg H S x1) hr (fun m' q => ⟨⟨hk.rc q.rc, hr.rs q⟩, rfl⟩)) (fun r m1 m2 q z => ⟨z.1.sm q, z.2⟩)
  exact h.mono (fun v m1 ⟨r, er, ⟨O1, k1⟩, z, e⟩ => ⟨r, er, ⟨O1, hT.kp k1, H, S, P, J, s, hb, hz, hP, hJ, z⟩, e1.trans e.symm⟩)
theorem w1_when (hB : Bt m) : c_X11_when_0 600 x1 m (fun r m' => Md (fun H S P => (aWn H S x1, S, P)) r m') := by
  obtain ⟨hO, hT, H, S, P, J, s, hb, hz, hP, hJ, hk, hr⟩ := hB
  have h := both (a_X11_when (x1 := x1) (Q := fun _ m' => Ok m' ∧ Kp m m') hO (fun r m' O => O)) (ea_when (x1 := x1) (Q := fun r m' => Zb H S P J H S P J s m' ∧ r = aWn H S x1) hk hz hb (fun m' q => ⟨⟨q.2, hr.cc q.1⟩, rfl⟩)) (fun r m1 m2 q z => ⟨z.1.sm q, z.2⟩)
  exact h.mono (fun v m1 ⟨r, er, ⟨O1, k1⟩, z, e⟩ => ⟨r, er, O1, hT.kp k1, H, S, P, J, s, hb, hz, hP, hJ, z, e⟩)
theorem w2_when {r1 : Int32} (hB : Md (fun H S P => (aWn H S x1, S, P)) r1 m) : c_X12_when_70 600 x1 m (fun r m' => Bt m' ∧ r1 = r) := by
  obtain ⟨hO, hT, H, S, P, J, s, hb, hz, hP, hJ, ⟨hk, hr⟩, e1⟩ := hB
  have hk : KC H S P J m := hk
  have h := both (a_X12_when (x1 := x1) (Q := fun _ m' => Ok m' ∧ Kp m m') hO (fun r m' O => O)) (eb_when (x1 := x1) (Q := fun r m' => Zb H S P J H S P J s m' ∧ r = aWn H S x1) hr hb (fun m' q => ⟨⟨hk.rc q.rc, hr.rs q⟩, rfl⟩)) (fun r m1 m2 q z => ⟨z.1.sm q, z.2⟩)
  exact h.mono (fun v m1 ⟨r, er, ⟨O1, k1⟩, z, e⟩ => ⟨r, er, ⟨O1, hT.kp k1, H, S, P, J, s, hb, hz, hP, hJ, z⟩, e1.trans e.symm⟩)
theorem w1_thick (hB : Bt m) : c_X11_thick_0 600 x1 m (fun r m' => Md (fun H S P => (aTck H S x1, S, P)) r m') := by
  obtain ⟨hO, hT, H, S, P, J, s, hb, hz, hP, hJ, hk, hr⟩ := hB
  have h := both (a_X11_thick (x1 := x1) (Q := fun _ m' => Ok m' ∧ Kp m m') hO (fun r m' O => O)) (ea_thick (x1 := x1) (Q := fun r m' => Zb H S P J H S P J s m' ∧ r = aTck H S x1) hk hz (fun m' q => ⟨⟨q.2, hr.cc q.1⟩, rfl⟩)) (fun r m1 m2 q z => ⟨z.1.sm q, z.2⟩)
  exact h.mono (fun v m1 ⟨r, er, ⟨O1, k1⟩, z, e⟩ => ⟨r, er, O1, hT.kp k1, H, S, P, J, s, hb, hz, hP, hJ, z, e⟩)
theorem w2_thick {r1 : Int32} (hB : Md (fun H S P => (aTck H S x1, S, P)) r1 m) : c_X12_thick_70 600 x1 m (fun r m' => Bt m' ∧ r1 = r) := by
  obtain ⟨hO, hT, H, S, P, J, s, hb, hz, hP, hJ, ⟨hk, hr⟩, e1⟩ := hB
  have hk : KC H S P J m := hk
  have h := both (a_X12_thick (x1 := x1) (Q := fun _ m' => Ok m' ∧ Kp m m') hO (fun r m' O => O)) (eb_thick (x1 := x1) (Q := fun r m' => Zb H S P J H S P J s m' ∧ r = aTck H S x1) hr hz (fun m' q => ⟨⟨hk.rc q.rc, hr.rs q⟩, rfl⟩)) (fun r m1 m2 q z => ⟨z.1.sm q, z.2⟩)
  exact h.mono (fun v m1 ⟨r, er, ⟨O1, k1⟩, z, e⟩ => ⟨r, er, ⟨O1, hT.kp k1, H, S, P, J, s, hb, hz, hP, hJ, z⟩, e1.trans e.symm⟩)
theorem w1_cut (hB : Bt m) : c_X11_cut_0 600 x1 x2 m (fun r m' => Md (fun H S P => (aCt H S x1 x2, S, P)) r m') := by
  obtain ⟨hO, hT, H, S, P, J, s, hb, hz, hP, hJ, hk, hr⟩ := hB
  have h := both (a_X11_cut (x1 := x1) (x2 := x2) (Q := fun _ m' => Ok m' ∧ Kp m m') hO (fun r m' O => O)) (ea_cut (x1 := x1) (x2 := x2) (Q := fun r m' => Zb H S P J H S P J s m' ∧ r = aCt H S x1 x2) hk (fun m' q => ⟨⟨q.2, hr.cc q.1⟩, rfl⟩)) (fun r m1 m2 q z => ⟨z.1.sm q, z.2⟩)
  exact h.mono (fun v m1 ⟨r, er, ⟨O1, k1⟩, z, e⟩ => ⟨r, er, O1, hT.kp k1, H, S, P, J, s, hb, hz, hP, hJ, z, e⟩)
theorem w2_cut {r1 : Int32} (hB : Md (fun H S P => (aCt H S x1 x2, S, P)) r1 m) : c_X12_cut_70 600 x1 x2 m (fun r m' => Bt m' ∧ r1 = r) := by
  obtain ⟨hO, hT, H, S, P, J, s, hb, hz, hP, hJ, ⟨hk, hr⟩, e1⟩ := hB
  have hk : KC H S P J m := hk
  have h := both (a_X12_cut (x1 := x1) (x2 := x2) (Q := fun _ m' => Ok m' ∧ Kp m m') hO (fun r m' O => O)) (eb_cut (x1 := x1) (x2 := x2) (Q := fun r m' => Zb H S P J H S P J s m' ∧ r = aCt H S x1 x2) hr hz (fun m' q => ⟨⟨hk.rc q.rc, hr.rs q⟩, rfl⟩)) (fun r m1 m2 q z => ⟨z.1.sm q, z.2⟩)
  exact h.mono (fun v m1 ⟨r, er, ⟨O1, k1⟩, z, e⟩ => ⟨r, er, ⟨O1, hT.kp k1, H, S, P, J, s, hb, hz, hP, hJ, z⟩, e1.trans e.symm⟩)
theorem w1_share (hB : Bt m) : c_X11_share_0 600 x1 x2 m (fun r m' => Md (fun H S P => (aShr H S x1 x2, S, P)) r m') := by
  obtain ⟨hO, hT, H, S, P, J, s, hb, hz, hP, hJ, hk, hr⟩ := hB
  have h := both (a_X11_share (x1 := x1) (x2 := x2) (Q := fun _ m' => Ok m' ∧ Kp m m') hO (fun r m' O => O)) (ea_share (x1 := x1) (x2 := x2) (Q := fun r m' => Zb H S P J H S P J s m' ∧ r = aShr H S x1 x2) hk hz (fun m' q => ⟨⟨q.2, hr.cc q.1⟩, rfl⟩)) (fun r m1 m2 q z => ⟨z.1.sm q, z.2⟩)
  exact h.mono (fun v m1 ⟨r, er, ⟨O1, k1⟩, z, e⟩ => ⟨r, er, O1, hT.kp k1, H, S, P, J, s, hb, hz, hP, hJ, z, e⟩)
theorem w2_share {r1 : Int32} (hB : Md (fun H S P => (aShr H S x1 x2, S, P)) r1 m) : c_X12_share_70 600 x1 x2 m (fun r m' => Bt m' ∧ r1 = r) := by
  obtain ⟨hO, hT, H, S, P, J, s, hb, hz, hP, hJ, ⟨hk, hr⟩, e1⟩ := hB
  have hk : KC H S P J m := hk
  have h := both (a_X12_share (x1 := x1) (x2 := x2) (Q := fun _ m' => Ok m' ∧ Kp m m') hO (fun r m' O => O)) (eb_share (x1 := x1) (x2 := x2) (Q := fun r m' => Zb H S P J H S P J s m' ∧ r = aShr H S x1 x2) hr (fun m' q => ⟨⟨hk.rc q.rc, hr.rs q⟩, rfl⟩)) (fun r m1 m2 q z => ⟨z.1.sm q, z.2⟩)
  exact h.mono (fun v m1 ⟨r, er, ⟨O1, k1⟩, z, e⟩ => ⟨r, er, ⟨O1, hT.kp k1, H, S, P, J, s, hb, hz, hP, hJ, z⟩, e1.trans e.symm⟩)
theorem w1_without (hB : Bt m) : c_X11_without_0 600 x1 m (fun r m' => Md (fun H S P => (aWo H S x1, S, P)) r m') := by
  obtain ⟨hO, hT, H, S, P, J, s, hb, hz, hP, hJ, hk, hr⟩ := hB
  have h := both (a_X11_without (x1 := x1) (Q := fun _ m' => Ok m' ∧ Kp m m') hO (fun r m' O => O)) (ea_without (x1 := x1) (Q := fun r m' => Zb H S P J H S P J s m' ∧ r = aWo H S x1) hk (fun m' q => ⟨⟨q.2, hr.cc q.1⟩, rfl⟩)) (fun r m1 m2 q z => ⟨z.1.sm q, z.2⟩)
  exact h.mono (fun v m1 ⟨r, er, ⟨O1, k1⟩, z, e⟩ => ⟨r, er, O1, hT.kp k1, H, S, P, J, s, hb, hz, hP, hJ, z, e⟩)
theorem w2_without {r1 : Int32} (hB : Md (fun H S P => (aWo H S x1, S, P)) r1 m) : c_X12_without_70 600 x1 m (fun r m' => Bt m' ∧ r1 = r) := by
  obtain ⟨hO, hT, H, S, P, J, s, hb, hz, hP, hJ, ⟨hk, hr⟩, e1⟩ := hB
  have hk : KC H S P J m := hk
  have h := both (a_X12_without (x1 := x1) (Q := fun _ m' => Ok m' ∧ Kp m m') hO (fun r m' O => O)) (eb_without (x1 := x1) (Q := fun r m' => Zb H S P J H S P J s m' ∧ r = aWo H S x1) hr (fun m' q => ⟨⟨hk.rc q.rc, hr.rs q⟩, rfl⟩)) (fun r m1 m2 q z => ⟨z.1.sm q, z.2⟩)
  exact h.mono (fun v m1 ⟨r, er, ⟨O1, k1⟩, z, e⟩ => ⟨r, er, ⟨O1, hT.kp k1, H, S, P, J, s, hb, hz, hP, hJ, z⟩, e1.trans e.symm⟩)
theorem w1_needed (hB : Bt m) : c_X11_needed_0 600  m (fun r m' => Md (fun H S P => (bs (ndp H S) (hoW H), S, P)) r m') := by
  obtain ⟨hO, hT, H, S, P, J, s, hb, hz, hP, hJ, hk, hr⟩ := hB
  have h := both (a_X11_needed (Q := fun _ m' => Ok m' ∧ Kp m m') hO (fun r m' O => O)) (ea_needed (Q := fun r m' => Zb H S P J H S P J s m' ∧ r = bs (ndp H S) (hoW H)) hk (fun m' q => ⟨⟨q.2, hr.cc q.1⟩, rfl⟩)) (fun r m1 m2 q z => ⟨z.1.sm q, z.2⟩)
  exact h.mono (fun v m1 ⟨r, er, ⟨O1, k1⟩, z, e⟩ => ⟨r, er, O1, hT.kp k1, H, S, P, J, s, hb, hz, hP, hJ, z, e⟩)
theorem w2_needed {r1 : Int32} (hB : Md (fun H S P => (bs (ndp H S) (hoW H), S, P)) r1 m) : c_X12_needed_70 600  m (fun r m' => Bt m' ∧ r1 = r) := by
  obtain ⟨hO, hT, H, S, P, J, s, hb, hz, hP, hJ, ⟨hk, hr⟩, e1⟩ := hB
  have hk : KC H S P J m := hk
  have h := both (a_X12_needed (Q := fun _ m' => Ok m' ∧ Kp m m') hO (fun r m' O => O)) (eb_needed (Q := fun r m' => Zb H S P J H S P J s m' ∧ r = bs (ndp H S) (hoW H)) hr (fun m' q => ⟨⟨hk.rc q.rc, hr.rs q⟩, rfl⟩)) (fun r m1 m2 q z => ⟨z.1.sm q, z.2⟩)
  exact h.mono (fun v m1 ⟨r, er, ⟨O1, k1⟩, z, e⟩ => ⟨r, er, ⟨O1, hT.kp k1, H, S, P, J, s, hb, hz, hP, hJ, z⟩, e1.trans e.symm⟩)
theorem w1_hottest (hB : Bt m) : c_X11_hottest_0 600 x1 m (fun r m' => Md (fun H S P => (aHot H S x1, S, P)) r m') := by
  obtain ⟨hO, hT, H, S, P, J, s, hb, hz, hP, hJ, hk, hr⟩ := hB
  have h := both (a_X11_hottest (x1 := x1) (Q := fun _ m' => Ok m' ∧ Kp m m') hO (fun r m' O => O)) (ea_hottest (x1 := x1) (Q := fun r m' => Zb H S P J H S P J s m' ∧ r = aHot H S x1) hk hz (fun m' q => ⟨⟨q.2, hr.cc q.1⟩, rfl⟩)) (fun r m1 m2 q z => ⟨z.1.sm q, z.2⟩)
  exact h.mono (fun v m1 ⟨r, er, ⟨O1, k1⟩, z, e⟩ => ⟨r, er, O1, hT.kp k1, H, S, P, J, s, hb, hz, hP, hJ, z, e⟩)
theorem w2_hottest {r1 : Int32} (hB : Md (fun H S P => (aHot H S x1, S, P)) r1 m) : c_X12_hottest_70 600 x1 m (fun r m' => Bt m' ∧ r1 = r) := by
  obtain ⟨hO, hT, H, S, P, J, s, hb, hz, hP, hJ, ⟨hk, hr⟩, e1⟩ := hB
  have hk : KC H S P J m := hk
  have h := both (a_X12_hottest (x1 := x1) (Q := fun _ m' => Ok m' ∧ Kp m m') hO (fun r m' O => O)) (eb_hottest (x1 := x1) (Q := fun r m' => Zb H S P J H S P J s m' ∧ r = aHot H S x1) hr (fun m' q => ⟨⟨hk.rc q.rc, hr.rs q⟩, rfl⟩)) (fun r m1 m2 q z => ⟨z.1.sm q, z.2⟩)
  exact h.mono (fun v m1 ⟨r, er, ⟨O1, k1⟩, z, e⟩ => ⟨r, er, ⟨O1, hT.kp k1, H, S, P, J, s, hb, hz, hP, hJ, z⟩, e1.trans e.symm⟩)
theorem w1_clash (hB : Bt m) : c_X11_clash_0 600 x1 x2 m (fun r m' => Md (fun H S P => (aCls H S x1 x2, S, P)) r m') := by
  obtain ⟨hO, hT, H, S, P, J, s, hb, hz, hP, hJ, hk, hr⟩ := hB
  have h := both (a_X11_clash (x1 := x1) (x2 := x2) (Q := fun _ m' => Ok m' ∧ Kp m m') hO (fun r m' O => O)) (ea_clash (x1 := x1) (x2 := x2) (Q := fun r m' => Zb H S P J H S P J s m' ∧ r = aCls H S x1 x2) hk hz (fun m' q => ⟨⟨q.2, hr.cc q.1⟩, rfl⟩)) (fun r m1 m2 q z => ⟨z.1.sm q, z.2⟩)
  exact h.mono (fun v m1 ⟨r, er, ⟨O1, k1⟩, z, e⟩ => ⟨r, er, O1, hT.kp k1, H, S, P, J, s, hb, hz, hP, hJ, z, e⟩)
theorem w2_clash {r1 : Int32} (hB : Md (fun H S P => (aCls H S x1 x2, S, P)) r1 m) : c_X12_clash_70 600 x1 x2 m (fun r m' => Bt m' ∧ r1 = r) := by
  obtain ⟨hO, hT, H, S, P, J, s, hb, hz, hP, hJ, ⟨hk, hr⟩, e1⟩ := hB
  have hk : KC H S P J m := hk
  have h := both (a_X12_clash (x1 := x1) (x2 := x2) (Q := fun _ m' => Ok m' ∧ Kp m m') hO (fun r m' O => O)) (eb_clash (x1 := x1) (x2 := x2) (Q := fun r m' => Zb H S P J H S P J s m' ∧ r = aCls H S x1 x2) hr (fun m' q => ⟨⟨hk.rc q.rc, hr.rs q⟩, rfl⟩)) (fun r m1 m2 q z => ⟨z.1.sm q, z.2⟩)
  exact h.mono (fun v m1 ⟨r, er, ⟨O1, k1⟩, z, e⟩ => ⟨r, er, ⟨O1, hT.kp k1, H, S, P, J, s, hb, hz, hP, hJ, z⟩, e1.trans e.symm⟩)
theorem w1_then (hB : Bt m) : c_X11_then_0 600 x1 x2 m (fun r m' => Md (fun H S P => (aThn H S x1 x2, S, P)) r m') := by
  obtain ⟨hO, hT, H, S, P, J, s, hb, hz, hP, hJ, hk, hr⟩ := hB
  have h := both (a_X11_then (x1 := x1) (x2 := x2) (Q := fun _ m' => Ok m' ∧ Kp m m') hO (fun r m' O => O)) (ea_then (x1 := x1) (x2 := x2) (Q := fun r m' => Zb H S P J H S P J s m' ∧ r = aThn H S x1 x2) hk hz (fun m' q => ⟨⟨q.2, hr.cc q.1⟩, rfl⟩)) (fun r m1 m2 q z => ⟨z.1.sm q, z.2⟩)
  exact h.mono (fun v m1 ⟨r, er, ⟨O1, k1⟩, z, e⟩ => ⟨r, er, O1, hT.kp k1, H, S, P, J, s, hb, hz, hP, hJ, z, e⟩)
theorem w2_then {r1 : Int32} (hB : Md (fun H S P => (aThn H S x1 x2, S, P)) r1 m) : c_X12_then_70 600 x1 x2 m (fun r m' => Bt m' ∧ r1 = r) := by
  obtain ⟨hO, hT, H, S, P, J, s, hb, hz, hP, hJ, ⟨hk, hr⟩, e1⟩ := hB
  have hk : KC H S P J m := hk
  have h := both (a_X12_then (x1 := x1) (x2 := x2) (Q := fun _ m' => Ok m' ∧ Kp m m') hO (fun r m' O => O)) (eb_then (x1 := x1) (x2 := x2) (Q := fun r m' => Zb H S P J H S P J s m' ∧ r = aThn H S x1 x2) hr hz (fun m' q => ⟨⟨hk.rc q.rc, hr.rs q⟩, rfl⟩)) (fun r m1 m2 q z => ⟨z.1.sm q, z.2⟩)
  exact h.mono (fun v m1 ⟨r, er, ⟨O1, k1⟩, z, e⟩ => ⟨r, er, ⟨O1, hT.kp k1, H, S, P, J, s, hb, hz, hP, hJ, z⟩, e1.trans e.symm⟩)
theorem w1_litIn (hB : Bt m) : c_X11_litIn_0 600 x1 x2 m (fun r m' => Md (fun H S P => (aLin H S x1 x2, S, P)) r m') := by
  obtain ⟨hO, hT, H, S, P, J, s, hb, hz, hP, hJ, hk, hr⟩ := hB
  have h := both (a_X11_litIn (x1 := x1) (x2 := x2) (Q := fun _ m' => Ok m' ∧ Kp m m') hO (fun r m' O => O)) (ea_litIn (x1 := x1) (x2 := x2) (Q := fun r m' => Zb H S P J H S P J s m' ∧ r = aLin H S x1 x2) hk hz (fun m' q => ⟨⟨q.2, hr.cc q.1⟩, rfl⟩)) (fun r m1 m2 q z => ⟨z.1.sm q, z.2⟩)
  exact h.mono (fun v m1 ⟨r, er, ⟨O1, k1⟩, z, e⟩ => ⟨r, er, O1, hT.kp k1, H, S, P, J, s, hb, hz, hP, hJ, z, e⟩)
theorem w2_litIn {r1 : Int32} (hB : Md (fun H S P => (aLin H S x1 x2, S, P)) r1 m) : c_X12_litIn_70 600 x1 x2 m (fun r m' => Bt m' ∧ r1 = r) := by
  obtain ⟨hO, hT, H, S, P, J, s, hb, hz, hP, hJ, ⟨hk, hr⟩, e1⟩ := hB
  have hk : KC H S P J m := hk
  have h := both (a_X12_litIn (x1 := x1) (x2 := x2) (Q := fun _ m' => Ok m' ∧ Kp m m') hO (fun r m' O => O)) (eb_litIn (x1 := x1) (x2 := x2) (Q := fun r m' => Zb H S P J H S P J s m' ∧ r = aLin H S x1 x2) hr hz (fun m' q => ⟨⟨hk.rc q.rc, hr.rs q⟩, rfl⟩)) (fun r m1 m2 q z => ⟨z.1.sm q, z.2⟩)
  exact h.mono (fun v m1 ⟨r, er, ⟨O1, k1⟩, z, e⟩ => ⟨r, er, ⟨O1, hT.kp k1, H, S, P, J, s, hb, hz, hP, hJ, z⟩, e1.trans e.symm⟩)
theorem w1_year (hB : Bt m) : c_X11_year_0 600 x1 x2 m (fun r m' => Md (fun H S P => (aYr H S x1 x2, S, P)) r m') := by
  obtain ⟨hO, hT, H, S, P, J, s, hb, hz, hP, hJ, hk, hr⟩ := hB
  have h := both (a_X11_year (x1 := x1) (x2 := x2) (Q := fun _ m' => Ok m' ∧ Kp m m') hO (fun r m' O => O)) (ea_year (x1 := x1) (x2 := x2) (Q := fun r m' => Zb H S P J H S P J s m' ∧ r = aYr H S x1 x2) hk hz (fun m' q => ⟨⟨q.2, hr.cc q.1⟩, rfl⟩)) (fun r m1 m2 q z => ⟨z.1.sm q, z.2⟩)
  exact h.mono (fun v m1 ⟨r, er, ⟨O1, k1⟩, z, e⟩ => ⟨r, er, O1, hT.kp k1, H, S, P, J, s, hb, hz, hP, hJ, z, e⟩)
theorem w2_year {r1 : Int32} (hB : Md (fun H S P => (aYr H S x1 x2, S, P)) r1 m) : c_X12_year_70 600 x1 x2 m (fun r m' => Bt m' ∧ r1 = r) := by
  obtain ⟨hO, hT, H, S, P, J, s, hb, hz, hP, hJ, ⟨hk, hr⟩, e1⟩ := hB
  have hk : KC H S P J m := hk
  have h := both (a_X12_year (x1 := x1) (x2 := x2) (Q := fun _ m' => Ok m' ∧ Kp m m') hO (fun r m' O => O)) (eb_year (x1 := x1) (x2 := x2) (Q := fun r m' => Zb H S P J H S P J s m' ∧ r = aYr H S x1 x2) hr hz (fun m' q => ⟨⟨hk.rc q.rc, hr.rs q⟩, rfl⟩)) (fun r m1 m2 q z => ⟨z.1.sm q, z.2⟩)
  exact h.mono (fun v m1 ⟨r, er, ⟨O1, k1⟩, z, e⟩ => ⟨r, er, ⟨O1, hT.kp k1, H, S, P, J, s, hb, hz, hP, hJ, z⟩, e1.trans e.symm⟩)
/-- behind the class's count -/
def Mc (x1 : Int32) (r : Int32) (m : dM) : Prop := Ok m ∧ Rq m ∧ ∃ (H : Ho) (S : Zt) (P : List Zt) (J : Nat → Zt) (s : Nat), hBo H ∧ zOk H S ∧ (∀ T : Zt, T ∈ P → zOk H T) ∧ (∀ i : Nat, zOk H (J i)) ∧ Zb H S P J H S P J s m ∧ r = aCnt H S P (m.1 70 2) (m.1 70 63) (slc m) x1
theorem w1_count (hB : Bt m) : c_X11_count_0 600 x1 m (fun r m' => Mc x1 r m') := by
  obtain ⟨hO, hT, H, S, P, J, s, hb, hz, hP, hJ, hk, hr⟩ := hB
  have h := both (a_X11_count (x1 := x1) (Q := fun _ m' => Ok m' ∧ Kp m m') hO (fun r m' O => O)) (ea_count (x1 := x1) (Q := fun r m' => Zb H S P J H S P J s m' ∧ r = aCnt H S P (m.1 0 1) (m.1 67 3) (pc10 (m.1 51 4) 10) x1) hk hz (fun m' q => ⟨⟨q.2, hr.cc q.1⟩, rfl⟩)) (fun r m1 m2 q z => ⟨z.1.sm q, z.2⟩)
  refine h.mono (fun v m1 w => ?_)
  obtain ⟨r, er, ⟨O1, k1⟩, z, e⟩ := w
  refine ⟨r, er, O1, hT.kp k1, H, S, P, J, s, hb, hz, hP, hJ, z, ?_⟩
  have e9 : m.1 0 1 = m.1 70 2 := d_ce hT.1.1
  have e11 : m.1 67 3 = m.1 70 63 := d_ce hT.2.2.1
  have sl : slc m1 = slc m := by unfold slc; rw [k1 115 0 rfl, k1 115 1 rfl, k1 115 2 rfl]
  rw [e, e9, e11, slc_eq hT hk.2.2.2.1, k1 70 2 rfl, k1 70 63 rfl, sl]
theorem w2_count {r1 : Int32} (hB : Mc x1 r1 m) : c_X12_count_70 600 x1 m (fun r m' => Bt m' ∧ r1 = r) := by
  obtain ⟨hO, hT, H, S, P, J, s, hb, hz, hP, hJ, ⟨hk, hr⟩, e1⟩ := hB
  have h := both (a_X12_count (x1 := x1) (Q := fun _ m' => Ok m' ∧ Kp m m') hO (fun r m' O => O)) (eb_count (x1 := x1) (Q := fun r m' => Zb H S P J H S P J s m' ∧ r = aCnt H S P (m.1 70 2) (m.1 70 63) (slc m) x1) hr hz (fun m' q => ⟨⟨hk.rc q.rc, hr.rs q⟩, rfl⟩)) (fun r m1 m2 q z => ⟨z.1.sm q, z.2⟩)
  exact h.mono (fun v m1 ⟨r, er, ⟨O1, k1⟩, z, e⟩ => ⟨r, er, ⟨O1, hT.kp k1, H, S, P, J, s, hb, hz, hP, hJ, z⟩, e1.trans e.symm⟩)
theorem w1_agree (hB : Bt m) (h2 : x2 = 0 ∨ x2 = 1) : c_X11_agree_0 600 x1 x2 m (fun r m' => Md (fun H S P => aAgr H S P x1 x2) r m') := by
  obtain ⟨hO, hT, H, S, P, J, s, hb, hz, hP, hJ, hk, hr⟩ := hB
  have h := both (a_X11_agree (x1 := x1) (x2 := x2) (Q := fun _ m' => Ok m' ∧ Kp m m') hO (by rcases h2 with e | e <;> (rw [e]; decide)) (fun r m' O => O)) (p_agree (x1 := x1) (x2 := x2) (Q := fun r m' => Zb H (aAgr H S P x1 x2).2.1 (aAgr H S P x1 x2).2.2 J H S P J s m' ∧ r = (aAgr H S P x1 x2).1) hk (fun m' q k => ⟨⟨k, hr.cc q⟩, rfl⟩)) (fun r m1 m2 q z => ⟨z.1.sm q, z.2⟩)
  exact h.mono (fun v m1 ⟨r, er, ⟨O1, k1⟩, z, e⟩ => ⟨r, er, O1, hT.kp k1, H, S, P, J, s, hb, hz, hP, hJ, z, e⟩)
theorem w2_agree {r1 : Int32} (hB : Md (fun H S P => aAgr H S P x1 x2) r1 m) (h2 : x2 = 0 ∨ x2 = 1) : c_X12_agree_70 600 x1 x2 m (fun r m' => Bt m' ∧ r1 = r) := by
  obtain ⟨hO, hT, H, S, P, J, s, hb, hz, hP, hJ, ⟨hk, hr⟩, e1⟩ := hB
  have ok := fk_agr (x1 := x1) (x2 := x2) H S P hr.1.1 hz hP
  have h := both (a_X12_agree (x1 := x1) (x2 := x2) (Q := fun _ m' => Ok m' ∧ Kp m m') hO (by rcases h2 with e | e <;> (rw [e]; decide)) (fun r m' O => O)) (q_agree (x1 := x1) (x2 := x2) (Q := fun r m' => Zb H (aAgr H S P x1 x2).2.1 (aAgr H S P x1 x2).2.2 J H (aAgr H S P x1 x2).2.1 (aAgr H S P x1 x2).2.2 J s m' ∧ r = (aAgr H S P x1 x2).1) hr h2 (fun m' q k => ⟨⟨hk.rc q, k⟩, rfl⟩)) (fun r m1 m2 q z => ⟨z.1.sm q, z.2⟩)
  exact h.mono (fun v m1 ⟨r, er, ⟨O1, k1⟩, z, e⟩ => ⟨r, er, ⟨O1, hT.kp k1, H, _, _, J, s, hb, ok.1, ok.2, hJ, z⟩, e1.trans e.symm⟩)
theorem w1_pin (hB : Bt m) (h2 : x2 = 0 ∨ x2 = 1) : c_X11_pin_0 600 x1 x2 m (fun r m' => Md (fun H S P => aPin H S P x1 x2) r m') := by
  obtain ⟨hO, hT, H, S, P, J, s, hb, hz, hP, hJ, hk, hr⟩ := hB
  have h := both (a_X11_pin (x1 := x1) (x2 := x2) (Q := fun _ m' => Ok m' ∧ Kp m m') hO (by rcases h2 with e | e <;> (rw [e]; decide)) (fun r m' O => O)) (p_pin (x1 := x1) (x2 := x2) (Q := fun r m' => Zb H (aPin H S P x1 x2).2.1 (aPin H S P x1 x2).2.2 J H S P J s m' ∧ r = (aPin H S P x1 x2).1) hk (fun m' q k => ⟨⟨k, hr.cc q⟩, rfl⟩)) (fun r m1 m2 q z => ⟨z.1.sm q, z.2⟩)
  exact h.mono (fun v m1 ⟨r, er, ⟨O1, k1⟩, z, e⟩ => ⟨r, er, O1, hT.kp k1, H, S, P, J, s, hb, hz, hP, hJ, z, e⟩)
theorem w2_pin {r1 : Int32} (hB : Md (fun H S P => aPin H S P x1 x2) r1 m) (h2 : x2 = 0 ∨ x2 = 1) : c_X12_pin_70 600 x1 x2 m (fun r m' => Bt m' ∧ r1 = r) := by
  obtain ⟨hO, hT, H, S, P, J, s, hb, hz, hP, hJ, ⟨hk, hr⟩, e1⟩ := hB
  have ok := fk_pin (x1 := x1) (x2 := x2) H S P hr.1.1 hz hP
  have h := both (a_X12_pin (x1 := x1) (x2 := x2) (Q := fun _ m' => Ok m' ∧ Kp m m') hO (by rcases h2 with e | e <;> (rw [e]; decide)) (fun r m' O => O)) (q_pin (x1 := x1) (x2 := x2) (Q := fun r m' => Zb H (aPin H S P x1 x2).2.1 (aPin H S P x1 x2).2.2 J H (aPin H S P x1 x2).2.1 (aPin H S P x1 x2).2.2 J s m' ∧ r = (aPin H S P x1 x2).1) hr h2 (fun m' q k => ⟨⟨hk.rc q, k⟩, rfl⟩)) (fun r m1 m2 q z => ⟨z.1.sm q, z.2⟩)
  exact h.mono (fun v m1 ⟨r, er, ⟨O1, k1⟩, z, e⟩ => ⟨r, er, ⟨O1, hT.kp k1, H, _, _, J, s, hb, ok.1, ok.2, hJ, z⟩, e1.trans e.symm⟩)
theorem w1_mend (hB : Bt m) : c_X11_mend_0 600 x1 m (fun r m' => Md (fun H S P => aMnd H S P x1) r m') := by
  obtain ⟨hO, hT, H, S, P, J, s, hb, hz, hP, hJ, hk, hr⟩ := hB
  have h := both (a_X11_mend (x1 := x1) (Q := fun _ m' => Ok m' ∧ Kp m m') hO (fun r m' O => O)) (p_mend (x1 := x1) (Q := fun r m' => Zb H (aMnd H S P x1).2.1 (aMnd H S P x1).2.2 J H S P J s m' ∧ r = (aMnd H S P x1).1) hk (fun m' q k => ⟨⟨k, hr.cc q⟩, rfl⟩)) (fun r m1 m2 q z => ⟨z.1.sm q, z.2⟩)
  exact h.mono (fun v m1 ⟨r, er, ⟨O1, k1⟩, z, e⟩ => ⟨r, er, O1, hT.kp k1, H, S, P, J, s, hb, hz, hP, hJ, z, e⟩)
theorem w2_mend {r1 : Int32} (hB : Md (fun H S P => aMnd H S P x1) r1 m) : c_X12_mend_70 600 x1 m (fun r m' => Bt m' ∧ r1 = r) := by
  obtain ⟨hO, hT, H, S, P, J, s, hb, hz, hP, hJ, ⟨hk, hr⟩, e1⟩ := hB
  have ok := fk_mnd (x1 := x1) H S P hr.1.1 hz hP
  have h := both (a_X12_mend (x1 := x1) (Q := fun _ m' => Ok m' ∧ Kp m m') hO (fun r m' O => O)) (q_mend (x1 := x1) (Q := fun r m' => Zb H (aMnd H S P x1).2.1 (aMnd H S P x1).2.2 J H (aMnd H S P x1).2.1 (aMnd H S P x1).2.2 J s m' ∧ r = (aMnd H S P x1).1) hr (fun m' q k => ⟨⟨hk.rc q, k⟩, rfl⟩)) (fun r m1 m2 q z => ⟨z.1.sm q, z.2⟩)
  exact h.mono (fun v m1 ⟨r, er, ⟨O1, k1⟩, z, e⟩ => ⟨r, er, ⟨O1, hT.kp k1, H, _, _, J, s, hb, ok.1, ok.2, hJ, z⟩, e1.trans e.symm⟩)
theorem w1_thicken (hB : Bt m) : c_X11_thicken_0 600 x1 m (fun r m' => Md (fun H S P => aThk H S P x1) r m') := by
  obtain ⟨hO, hT, H, S, P, J, s, hb, hz, hP, hJ, hk, hr⟩ := hB
  have h := both (a_X11_thicken (x1 := x1) (Q := fun _ m' => Ok m' ∧ Kp m m') hO (fun r m' O => O)) (p_thicken (x1 := x1) (Q := fun r m' => Zb H (aThk H S P x1).2.1 (aThk H S P x1).2.2 J H S P J s m' ∧ r = (aThk H S P x1).1) hk (fun m' q k => ⟨⟨k, hr.cc q⟩, rfl⟩)) (fun r m1 m2 q z => ⟨z.1.sm q, z.2⟩)
  exact h.mono (fun v m1 ⟨r, er, ⟨O1, k1⟩, z, e⟩ => ⟨r, er, O1, hT.kp k1, H, S, P, J, s, hb, hz, hP, hJ, z, e⟩)
theorem w2_thicken {r1 : Int32} (hB : Md (fun H S P => aThk H S P x1) r1 m) : c_X12_thicken_70 600 x1 m (fun r m' => Bt m' ∧ r1 = r) := by
  obtain ⟨hO, hT, H, S, P, J, s, hb, hz, hP, hJ, ⟨hk, hr⟩, e1⟩ := hB
  have ok := fk_thk (x1 := x1) H S P hr.1.1 hz hP
  have h := both (a_X12_thicken (x1 := x1) (Q := fun _ m' => Ok m' ∧ Kp m m') hO (fun r m' O => O)) (q_thicken (x1 := x1) (Q := fun r m' => Zb H (aThk H S P x1).2.1 (aThk H S P x1).2.2 J H (aThk H S P x1).2.1 (aThk H S P x1).2.2 J s m' ∧ r = (aThk H S P x1).1) hr hz (fun m' q k => ⟨⟨hk.rc q, k⟩, rfl⟩)) (fun r m1 m2 q z => ⟨z.1.sm q, z.2⟩)
  exact h.mono (fun v m1 ⟨r, er, ⟨O1, k1⟩, z, e⟩ => ⟨r, er, ⟨O1, hT.kp k1, H, _, _, J, s, hb, ok.1, ok.2, hJ, z⟩, e1.trans e.symm⟩)
theorem w1_hours (hB : Bt m) : c_X11_hours_0 600 x1 m (fun r m' => Md (fun H S P => aHrs H S P x1) r m') := by
  obtain ⟨hO, hT, H, S, P, J, s, hb, hz, hP, hJ, hk, hr⟩ := hB
  have h := both (a_X11_hours (x1 := x1) (Q := fun _ m' => Ok m' ∧ Kp m m') hO (fun r m' O => O)) (p_hours (x1 := x1) (Q := fun r m' => Zb H (aHrs H S P x1).2.1 (aHrs H S P x1).2.2 J H S P J s m' ∧ r = (aHrs H S P x1).1) hk hz (fun m' q k => ⟨⟨k, hr.cc q⟩, rfl⟩)) (fun r m1 m2 q z => ⟨z.1.sm q, z.2⟩)
  exact h.mono (fun v m1 ⟨r, er, ⟨O1, k1⟩, z, e⟩ => ⟨r, er, O1, hT.kp k1, H, S, P, J, s, hb, hz, hP, hJ, z, e⟩)
theorem w2_hours {r1 : Int32} (hB : Md (fun H S P => aHrs H S P x1) r1 m) : c_X12_hours_70 600 x1 m (fun r m' => Bt m' ∧ r1 = r) := by
  obtain ⟨hO, hT, H, S, P, J, s, hb, hz, hP, hJ, ⟨hk, hr⟩, e1⟩ := hB
  have ok := fk_hrs (x1 := x1) H S P hr.1.1 hz hP
  have h := both (a_X12_hours (x1 := x1) (Q := fun _ m' => Ok m' ∧ Kp m m') hO (fun r m' O => O)) (q_hours (x1 := x1) (Q := fun r m' => Zb H (aHrs H S P x1).2.1 (aHrs H S P x1).2.2 J H (aHrs H S P x1).2.1 (aHrs H S P x1).2.2 J s m' ∧ r = (aHrs H S P x1).1) hr hz (fun m' q k => ⟨⟨hk.rc q, k⟩, rfl⟩)) (fun r m1 m2 q z => ⟨z.1.sm q, z.2⟩)
  exact h.mono (fun v m1 ⟨r, er, ⟨O1, k1⟩, z, e⟩ => ⟨r, er, ⟨O1, hT.kp k1, H, _, _, J, s, hb, ok.1, ok.2, hJ, z⟩, e1.trans e.symm⟩)
theorem w1_undo (hB : Bt m) : c_X11_undo_0 600  m (fun r m' => Md (fun _ S P => aUnd S P) r m') := by
  obtain ⟨hO, hT, H, S, P, J, s, hb, hz, hP, hJ, hk, hr⟩ := hB
  have h := both (a_X11_undo (Q := fun _ m' => Ok m' ∧ Kp m m') hO (fun r m' O => O)) (p_undo (Q := fun r m' => Zb H (aUnd S P).2.1 (aUnd S P).2.2 J H S P J s m' ∧ r = (aUnd S P).1) hk (fun m' q k => ⟨⟨k, hr.cc q⟩, rfl⟩)) (fun r m1 m2 q z => ⟨z.1.sm q, z.2⟩)
  exact h.mono (fun v m1 ⟨r, er, ⟨O1, k1⟩, z, e⟩ => ⟨r, er, O1, hT.kp k1, H, S, P, J, s, hb, hz, hP, hJ, z, e⟩)
theorem w2_undo {r1 : Int32} (hB : Md (fun _ S P => aUnd S P) r1 m) : c_X12_undo_70 600  m (fun r m' => Bt m' ∧ r1 = r) := by
  obtain ⟨hO, hT, H, S, P, J, s, hb, hz, hP, hJ, ⟨hk, hr⟩, e1⟩ := hB
  have ok := fk_und H S P hr.1.1 hz hP
  have h := both (a_X12_undo (Q := fun _ m' => Ok m' ∧ Kp m m') hO (fun r m' O => O)) (q_undo (Q := fun r m' => Zb H (aUnd S P).2.1 (aUnd S P).2.2 J H (aUnd S P).2.1 (aUnd S P).2.2 J s m' ∧ r = (aUnd S P).1) hr (fun m' q k => ⟨⟨hk.rc q, k⟩, rfl⟩)) (fun r m1 m2 q z => ⟨z.1.sm q, z.2⟩)
  exact h.mono (fun v m1 ⟨r, er, ⟨O1, k1⟩, z, e⟩ => ⟨r, er, ⟨O1, hT.kp k1, H, _, _, J, s, hb, ok.1, ok.2, hJ, z⟩, e1.trans e.symm⟩)
/-! calls that leave house and state, and hold, restore -/
theorem Fr.on {m m' : dM} (h : Fr m) (e : ∀ k j : Nat, (2 ≤ k ∧ k ≤ 60) ∨ (80 ≤ k ∧ k ≤ 103) ∨ k = 107 ∨ k = 111 ∨ k = 115 ∨ k = 116 → m'.1 k j = m.1 k j) (e18 : m'.1 70 18 = m.1 70 18) (e61 : m'.1 70 61 = m.1 70 61) : Fr m' := by
  obtain ⟨H, S, P, J, s, hb, hz, hP, hJ, hk, hr⟩ := h
  exact ⟨H, S, P, J, s, hb, hz, hP, hJ, hk.fr (fun k h1 h2 => funext fun j => e k j (by omega)), hr.fr (fun k hk => funext fun j => e k j (by omega)) e18 e61⟩
def Mw (E : Int32 → dM → Prop) (m : dM) (r : Int32) (m' : dM) : Prop := Ok m' ∧ E r m' ∧ Bt m ∧ Fr m'
theorem w1_feed {x1 x2 x3 x4 x5' : Int32} (hB : Bt m) : c_X11_feed_0 600 x1 x2 x3 x4 x5' m (fun r m' => Mw (E11f (x5 x1 x2 x3 x4 x5') m) m r m') := by
  refine Wp.deep (b_X11_feed hB.1 (fun r m' h => ⟨h.1, h.2, hB, ?_⟩)) (Nat.le_of_ble_eq_true rfl)
  rcases h.2 with ⟨_, t, _, _, y⟩ | ⟨_, _, y⟩
  · exact hB.2.2.on (fun k j q => y.2.1 k j (by omega) (by omega)) (y.2.1 70 18 (by decide) (by decide)) (y.2.1 70 61 (by decide) (by decide))
  · rw [y]; exact hB.2.2
theorem w2_feed {x1 x2 x3 x4 x5' r1 : Int32} {m0 : dM} (hM : Mw (E11f (x5 x1 x2 x3 x4 x5') m0) m0 r1 m) : c_X12_feed_70 600 x1 x2 x3 x4 x5' m (fun r m' => Bt m' ∧ r1 = r) := by
  obtain ⟨hO, E, hB, hF⟩ := hM
  refine Wp.deep (b_X12_feed hO (fun r m' h => ?_)) (Nat.le_of_ble_eq_true rfl)
  have j := j_feed hB.2.1 E h.2
  refine ⟨⟨h.1, j.1, ?_⟩, j.2⟩
  rcases h.2 with ⟨_, t, _, _, y⟩ | ⟨_, _, y⟩
  · exact hF.on (fun k j q => y.2.1 k j (by omega) (by omega)) (y.2.1 70 18 (by decide) (by decide)) (y.2.1 70 61 (by decide) (by decide))
  · rw [y]; exact hF
theorem w1_back (hB : Bt m) : c_X11_back_0 600 x1 m (fun r m' => Mw (E11b x1 m) m r m') := by
  refine Wp.deep (b_X11_back hB.1 (fun r m' h => ⟨h.1, h.2, hB, ?_⟩)) (Nat.le_of_ble_eq_true rfl)
  have y := h.2.1.1
  exact hB.2.2.on (fun k j q => y k j (by omega) (by omega)) (y 70 18 (by decide) (by decide)) (y 70 61 (by decide) (by decide))
theorem w2_back {r1 : Int32} {m0 : dM} (hM : Mw (E11b x1 m0) m0 r1 m) : c_X12_back_70 600 x1 m (fun r m' => Bt m' ∧ r1 = r) := by
  obtain ⟨hO, E, hB, hF⟩ := hM
  refine Wp.deep (b_X12_back hO (fun r m' h => ?_)) (Nat.le_of_ble_eq_true rfl)
  have j := j_back hB.2.1 E h.2
  have y := h.2.1.1
  exact ⟨⟨h.1, j.1, hF.on (fun k j q => y k j (by omega) (by omega)) (y 70 18 (by decide) (by decide)) (y 70 61 (by decide) (by decide))⟩, j.2⟩
theorem w1_tell (hB : Bt m) (h2 : x2 = 0 ∨ x2 = 1) : c_X11_tell_0 600 x1 x2 m (fun r m' => Mw (E11t x1 m) m r m') := by
  refine Wp.deep (z_X11_tell hB.1 h2 (fun r m' h => ⟨h.1, h.2, hB, ?_⟩)) (Nat.le_of_ble_eq_true rfl)
  rcases h.2 with ⟨_, _, _, y⟩ | ⟨_, _, y⟩
  · exact hB.2.2.on (fun k j q => y k j (by omega) (by omega) (by omega)) (y 70 18 (by decide) (by decide) (by decide)) (y 70 61 (by decide) (by decide) (by decide))
  · rw [y]; exact hB.2.2
theorem w2_tell {r1 : Int32} {m0 : dM} (hM : Mw (E11t x1 m0) m0 r1 m) : c_X12_tell_70 600 x1 x2 m (fun r m' => Bt m' ∧ r1 = r) := by
  obtain ⟨hO, E, hB, hF⟩ := hM
  refine Wp.deep (z_X12_tell hO (fun r m' h => ?_)) (Nat.le_of_ble_eq_true rfl)
  have j := j_tell hB.1 hB.2.1 E h.2
  refine ⟨⟨h.1, j.1, ?_⟩, j.2⟩
  rcases h.2 with ⟨_, _, _, y⟩ | ⟨_, _, y⟩
  · exact hF.on (fun k j q => y k j (by omega) (by omega) (by omega)) (y 70 18 (by decide) (by decide) (by decide)) (y 70 61 (by decide) (by decide) (by decide))
  · rw [y]; exact hF
theorem w1_forget (hB : Bt m) : c_X11_forget_0 600 m (fun r m' => Mw (E11o m) m r m') := by
  refine Wp.deep (z_X11_forget hB.1 (fun r m' h => ⟨h.1, h.2, hB, ?_⟩)) (Nat.le_of_ble_eq_true rfl)
  have y := h.2.2.2
  exact hB.2.2.on (fun k j q => y k j (by omega)) (y 70 18 (by decide)) (y 70 61 (by decide))
theorem w2_forget {r1 : Int32} {m0 : dM} (hM : Mw (E11o m0) m0 r1 m) : c_X12_forget_70 600 m (fun r m' => Bt m' ∧ r1 = r) := by
  obtain ⟨hO, E, hB, hF⟩ := hM
  refine Wp.deep (z_X12_forget hO (fun r m' h => ?_)) (Nat.le_of_ble_eq_true rfl)
  have j := j_forget hB.2.1 E h.2
  have y := h.2.2.2
  exact ⟨⟨h.1, j.1, hF.on (fun k j q => y k j (by omega)) (y 70 18 (by decide)) (y 70 61 (by decide))⟩, j.2⟩
theorem w1_place (hB : Bt m) : c_X11_place_0 600 m (fun r m' => Mw (E11p m) m r m') := by
  refine Wp.deep (z_X11_place hB.1 (fun r m' h => ⟨h.1, h.2, hB, ?_⟩)) (Nat.le_of_ble_eq_true rfl)
  rw [h.2.2]; exact hB.2.2
theorem w2_place {r1 : Int32} {m0 : dM} (hM : Mw (E11p m0) m0 r1 m) : c_X12_place_70 600 m (fun r m' => Bt m' ∧ r1 = r) := by
  obtain ⟨hO, E, hB, hF⟩ := hM
  refine Wp.deep (z_X12_place hO (fun r m' h => ?_)) (Nat.le_of_ble_eq_true rfl)
  have j := j_place hB.2.1 E h.2
  exact ⟨⟨h.1, j.1, by rw [h.2.2]; exact hF⟩, j.2⟩
/-- hold -/
def Mh (x1 : Int32) (m : dM) (r : Int32) (m' : dM) : Prop := Ok m' ∧ E11h x1 m r m' ∧ Rq m ∧ ∃ (H : Ho) (S : Zt) (P : List Zt) (J : Nat → Zt) (s : Nat), hBo H ∧ zOk H S ∧ (∀ T : Zt, T ∈ P → zOk H T) ∧ (∀ i : Nat, zOk H (J i)) ∧ Zb H S P (lHold J S x1) H S P J s m'
theorem w1_hold (hB : Bt m) : c_X11_hold_0 600 x1 m (fun r m' => Mh x1 m r m') := by
  obtain ⟨hO, hT, H, S, P, J, s, hb, hz, hP, hJ, hk, hr⟩ := hB
  have h := both (z_X11_hold (x1 := x1) (Q := fun r m' => Ok m' ∧ E11h x1 m r m') hO (fun r m' O => O)) (p_hold (x1 := x1) (Q := fun _ m' => Zb H S P (lHold J S x1) H S P J s m') hk (fun r m' q k => ⟨k, hr.cc q⟩)) (fun r m1 m2 q z => z.sm q)
  exact Wp.deep (h.mono (fun v m1 ⟨r, er, ⟨O1, k1⟩, z⟩ => ⟨r, er, O1, k1, hT, H, S, P, J, s, hb, hz, hP, hJ, z⟩)) (Nat.le_of_ble_eq_true rfl)
theorem w2_hold {r1 : Int32} {m0 : dM} (hM : Mh x1 m0 r1 m) : c_X12_hold_70 600 x1 m (fun r m' => Bt m' ∧ r1 = r) := by
  obtain ⟨hO, E, hT, H, S, P, J, s, hb, hz, hP, hJ, hk, hr⟩ := hM
  have h := both (z_X12_hold (x1 := x1) (Q := fun r m' => Ok m' ∧ E12h x1 m r m') hO (fun r m' O => O)) (q_hold (x1 := x1) (Q := fun _ m' => Zb H S P (lHold J S x1) H S P (lHold J S x1) s m') hr (fun r m' q k => ⟨hk.rc q, k⟩)) (fun r m1 m2 q z => z.sm q)
  refine Wp.deep (h.mono (fun v m1 ⟨r, er, ⟨O1, k1⟩, z⟩ => ?_)) (Nat.le_of_ble_eq_true rfl)
  have j := j_hold hT E k1
  refine ⟨r, er, ⟨O1, j.1, H, S, P, lHold J S x1, s, hb, hz, hP, fun i => ?_, z⟩, j.2⟩
  unfold lHold
  split
  · exact hz
  · exact hJ i
/-- restore -/
def Ms (x1 : Int32) (m : dM) (r : Int32) (m' : dM) : Prop := Ok m' ∧ E11s x1 m r m' ∧ Rq m ∧ ∃ (H : Ho) (S : Zt) (P : List Zt) (J : Nat → Zt) (s : Nat), hBo H ∧ zOk H S ∧ (∀ T : Zt, T ∈ P → zOk H T) ∧ (∀ i : Nat, zOk H (J i)) ∧ Zb H (aRes S P J x1 (bt (m.1 51 4) x1.toNatClampNeg)).1 (aRes S P J x1 (bt (m.1 51 4) x1.toNatClampNeg)).2 J H S P J s m'
theorem w1_restore (hB : Bt m) : c_X11_restore_0 600 x1 m (fun r m' => Ms x1 m r m') := by
  obtain ⟨hO, hT, H, S, P, J, s, hb, hz, hP, hJ, hk, hr⟩ := hB
  have h := both (z_X11_restore (x1 := x1) (Q := fun r m' => Ok m' ∧ E11s x1 m r m') hO (fun r m' O => O)) (p_restore (x1 := x1) (Q := fun _ m' => Zb H (aRes S P J x1 (bt (m.1 51 4) x1.toNatClampNeg)).1 (aRes S P J x1 (bt (m.1 51 4) x1.toNatClampNeg)).2 J H S P J s m') hk (fun r m' q k => ⟨k, hr.cc q⟩)) (fun r m1 m2 q z => z.sm q)
  exact Wp.deep (h.mono (fun v m1 ⟨r, er, ⟨O1, k1⟩, z⟩ => ⟨r, er, O1, k1, hT, H, S, P, J, s, hb, hz, hP, hJ, z⟩)) (Nat.le_of_ble_eq_true rfl)
theorem w2_restore {r1 : Int32} {m0 : dM} (hM : Ms x1 m0 r1 m) : c_X12_restore_70 600 x1 m (fun r m' => Bt m' ∧ r1 = r) := by
  obtain ⟨hO, E, hT, H, S, P, J, s, hb, hz, hP, hJ, hk, hr⟩ := hM
  have hh : (0 ≤ x1.toInt ∧ x1.toInt < 3) → ((m.1 115 x1.toNatClampNeg).toInt ≠ 0 ↔ bt (m0.1 51 4) x1.toNatClampNeg = true) := fun q => by
    have c := d_cl (x := x1) q.1
    have o := hT.2.2.2.2 x1.toNatClampNeg (by omega)
    rw [E.1 115 _ rfl, ← o]
    exact hb_bit _ _ (by omega)
  have ok : zOk H (aRes S P J x1 (bt (m0.1 51 4) x1.toNatClampNeg)).1 ∧ ∀ T : Zt, T ∈ (aRes S P J x1 (bt (m0.1 51 4) x1.toNatClampNeg)).2 → zOk H T := by
    unfold aRes
    split
    · exact ⟨hJ _, fun T hT => absurd hT (List.not_mem_nil)⟩
    · exact ⟨hz, hP⟩
  have h := both (z_X12_restore (x1 := x1) (Q := fun r m' => Ok m' ∧ E12s x1 m r m') hO (fun r m' O => O)) (q_restore (x1 := x1) (Q := fun _ m' => Zb H (aRes S P J x1 (bt (m0.1 51 4) x1.toNatClampNeg)).1 (aRes S P J x1 (bt (m0.1 51 4) x1.toNatClampNeg)).2 J H (aRes S P J x1 (bt (m0.1 51 4) x1.toNatClampNeg)).1 (aRes S P J x1 (bt (m0.1 51 4) x1.toNatClampNeg)).2 J s m') hr hh (fun r m' q k => ⟨hk.rc q, k⟩)) (fun r m1 m2 q z => z.sm q)
  refine Wp.deep (h.mono (fun v m1 ⟨r, er, ⟨O1, k1⟩, z⟩ => ?_)) (Nat.le_of_ble_eq_true rfl)
  have j := j_restore hT E k1
  exact ⟨r, er, ⟨O1, j.1, H, _, _, J, s, hb, ok.1, ok.2, hJ, z⟩, j.2⟩
/-- read -/
def Mr (m : dM) (r : Int32) (m' : dM) : Prop := Ok m' ∧ E11r m r m' ∧ Rq m ∧ ∃ (H : Ho) (S : Zt) (P : List Zt) (J : Nat → Zt) (s : Nat), hBo H ∧ zOk H S ∧ (∀ T : Zt, T ∈ P → zOk H T) ∧ (∀ i : Nat, zOk H (J i)) ∧ RdK (bT m 1 (m.1 0 1).toInt) (m.1 0 1).toInt.toNat H S P J m' ∧ KR H S P J s m'
theorem RdK.sm {B : Nat → Int32} {n : Nat} {H : Ho} {S : Zt} {P : List Zt} {J : Nat → Zt} {m1 m2 : dM} (h : RdK B n H S P J m2) (q : Sm m1 m2) : RdK B n H S P J m1 := ⟨fun z => by obtain ⟨R, a, b⟩ := h.1 z; exact ⟨R, a, b.sm q⟩, fun z => (h.2 z).sm q⟩
theorem RdK.rc {B : Nat → Int32} {n : Nat} {H : Ho} {S : Zt} {P : List Zt} {J : Nat → Zt} {m1 m2 : dM} (h : RdK B n H S P J m1) (q : RcF m1 m2) : RdK B n H S P J m2 := ⟨fun z => by obtain ⟨R, a, b⟩ := h.1 z; exact ⟨R, a, b.rc q⟩, fun z => (h.2 z).rc q⟩
theorem RdQ.sm {K : Nat → Int} {V : Nat → Int64} {L s : Nat} {H : Ho} {S : Zt} {P : List Zt} {J : Nat → Zt} {m1 m2 : dM} (h : RdQ K V L s H S P J m2) (q : Sm m1 m2) : RdQ K V L s H S P J m1 := ⟨fun z R J' hR => (h.1 z R J' hR).sm q, fun z => (h.2 z).sm q⟩
theorem w1_read (hB : Bt m) : c_X11_read_0 600 m (fun r m' => Mr m r m') := by
  obtain ⟨hO, hT, H, S, P, J, s, hb, hz, hP, hJ, hk, hr⟩ := hB
  have b := hO.s (k := 0) (j := 1) rfl
  have hn : (m.1 0 1).toInt = ((m.1 0 1).toInt.toNat : Int) := by omega
  have hL : GL m := ⟨hO.w (k := 29) (j := 1) rfl, fun j => hO.w (k := 36) (j := j) rfl⟩
  have h := both (z_X11_read (Q := fun r m' => Ok m' ∧ E11r m r m') hO (fun r m' O => O)) (p_read (B := bT m 1 (m.1 0 1).toInt) (n := (m.1 0 1).toInt.toNat) (Q := fun _ m' => RdK (bT m 1 (m.1 0 1).toInt) (m.1 0 1).toInt.toNat H S P J m' ∧ KR H S P J s m') hL hk hn (by omega) (fun i => by
    unfold bT
    by_cases q : (i : Int) < (m.1 0 1).toInt
    · rw [if_pos q, if_pos (by omega)]
    · rw [if_neg q, if_neg (by omega)]) (fun r m' d k => ⟨k, hr.fr (fun k hk => d.1 k (by omega)) (by rw [d.1 70 (by omega)]) (by rw [d.1 70 (by omega)])⟩)) (fun r m1 m2 q z => ⟨z.1.sm q, z.2.sm q⟩)
  exact Wp.deep (h.mono (fun v m1 ⟨r, er, ⟨O1, k1⟩, z⟩ => ⟨r, er, O1, k1, hT, H, S, P, J, s, hb, hz, hP, hJ, z⟩)) (Nat.le_of_ble_eq_true rfl)
theorem w2_read {r1 : Int32} {m0 : dM} (hM : Mr m0 r1 m) : c_X12_read_70 600 m (fun r m' => Bt m' ∧ r1 = r) := by
  obtain ⟨hO, E, hT, H, S, P, J, s, hb, hz, hP, hJ, hk, hr⟩ := hM
  obtain ⟨e, hb'⟩ := hT.1
  have hE := E
  unfold E11r at hE
  have a2 : m.1 70 2 = m0.1 70 2 := hE.2.1 2 (by decide)
  have eB : bT m 71 (m.1 70 2).toInt = bT m0 1 (m0.1 0 1).toInt := by
    funext i
    unfold bT
    rw [a2, hE.1 71 (by decide), ← e]
    by_cases q : (i : Int) < (m0.1 0 1).toInt
    · rw [if_pos q, if_pos q]; exact (hb' i q).symm
    · rw [if_neg q, if_neg q]
  have b := hO.s (k := 70) (j := 2) rfl
  have en : (m.1 70 2).toInt = (m0.1 0 1).toInt := by rw [a2, ← e]
  have h18 : (m.1 70 18).toInt = (s : Int) ∧ s ≤ 1 := hr.1.2.1.1
  have hg : ∀ k : Nat, k < 4 → gLw m.1 s (m.1 95 (4 * s + k)).toInt (m.1 96 (4 * s + k)).toInt := fun k hk4 => by
    have g := hO.1.2.2.2.2 k hk4
    have eL : gL m.1 = s := by unfold gL; omega
    rw [eL] at g
    exact g
  have h := both (z_X12_read (Q := fun r m' => Ok m' ∧ E12r m r m') hO (fun r m' O => O)) (x_read (L := s) (s := 1 - s) (B := bT m0 1 (m0.1 0 1).toInt) (n := (m0.1 0 1).toInt.toNat) (Q := fun _ m' => RdK (bT m0 1 (m0.1 0 1).toInt) (m0.1 0 1).toInt.toNat H S P J m' ∧ RdQ (tK (bT m0 1 (m0.1 0 1).toInt) (m0.1 0 1).toInt.toNat) (tV (bT m0 1 (m0.1 0 1).toInt) (m0.1 0 1).toInt.toNat) s (1 - s) H S P J m') (fun i h => tV9 h) (by omega) h18.1 (by omega) (by omega) (fun i => by
    rw [← eB]
    unfold bT
    by_cases q : (i : Int) < (m.1 70 2).toInt
    · rw [if_pos q, if_pos (by omega)]
    · rw [if_neg q, if_neg (by omega)]) hr hg (fun r m' d k => ⟨hk.rc d, k⟩)) (fun r m1 m2 q z => ⟨z.1.sm q, z.2.sm q⟩)
  refine Wp.deep (h.mono (fun v m1 ⟨r, er, ⟨O1, k1⟩, z1, z2⟩ => ?_)) (Nat.le_of_ble_eq_true rfl)
  have j := j_read hT E k1
  refine ⟨r, er, ⟨O1, j.1, ?_⟩, j.2⟩
  by_cases q : (rdR (tK (bT m0 1 (m0.1 0 1).toInt) (m0.1 0 1).toInt.toNat) (tV (bT m0 1 (m0.1 0 1).toInt) (m0.1 0 1).toInt.toNat)).1.1 = 0
  · obtain ⟨R, hR, kc⟩ := z1.1 q
    have k51 : m1.1 51 4 = 0 := by
      have k1' := k1
      unfold E12r at k1'
      rw [k1'.1.2.2.2.1]
      exact (hE.2.2.2.2.2.1 q).2.1
    have kr := z2.1 q R (fun _ => sz0 (rdH (bT m0 1 (m0.1 0 1).toInt) (m0.1 0 1).toInt.toNat) R) hR
    have hM := MI_rd q
    have h8 := kc.1.1.2.2.1
    have hz' := sz0_ok (Ds := rdL (bT m0 1 (m0.1 0 1).toInt) (m0.1 0 1).toInt.toNat) hM h8 hR
    exact ⟨rdH (bT m0 1 (m0.1 0 1).toInt) (m0.1 0 1).toInt.toNat, sz0 (rdH (bT m0 1 (m0.1 0 1).toInt) (m0.1 0 1).toInt.toNat) R, [], fun _ => sz0 (rdH (bT m0 1 (m0.1 0 1).toInt) (m0.1 0 1).toInt.toNat) R, 1 - s, hoX_b hM, hz', fun T hT => absurd hT (List.not_mem_nil), fun _ => hz', ⟨kc.1, kc.2.1, kc.2.2.1, fun i hi => by rw [k51, bt_0], fun i hi hb => by rw [k51, bt_0] at hb; cases hb⟩, kr⟩
  · exact ⟨H, S, P, J, s, hb, hz, hP, hJ, z1.2 q, z2.2 q⟩
end BTC
end
section
/-! THE CLAIM OUT OF ONE WALK OF THE LAW'S BODY. Your part is whole_start (and what it stands on); all else here is the same for every law, but numbers. -/
def R_law : String := "FuseTreatyLaw"
def lw_P (b : Addr) (xs : List Int32) (args : Array Value) (s : State) : Prop := args = #[.ref b] ∧ s.IntsAt b xs ∧ xs.length ≤ 3072 ∧ (Jvm.Cond.and given_1 narrow_1).before args s = true
def lw_Q (_ : Array Value) (s : State) (o : Outcome) (t : State) : Prop := o = .returned (some (.int 1)) ∧ Framed s o t [] 600000 7302250
def lw_Z (below : List Frame) (a : Array Value) (s : State) : State → Prop := fun t => ∃ o, t.status = .running ∧ Ended t below o ∧ lw_Q a s o t
/-- the law's own end, with 1 on the stack, nothing written that was there before, its room as the claim has it -/
theorem lw_ret {p : Program} {l : Launch} {e : Env} {s : State} {m : MethodId} {below : List Frame} {meth : Method} {c : Code} {b : Nat} (hx : p.tables.exec = Jvm.exec) (hb : c.code = code) (hr : meth.sig.returnType = ret) (hlocks : meth.locks = false) {pc : Nat} {H : Heap} {ls : Array Slot} (hdg : decode code pc = .ok (.ireturn, 1)) : W p l e room_1 s m #[Value.ref b] below meth c H [] 600000 7302250 (lw_Z below #[Value.ref b] s) (F0 m pc ls [.int 1]) := by
  intro T hT X
  obtain ⟨fs, hret, hrun, hended, hW, hframe⟩ := X.leave (v := some (.int 1)) (hlocks := hlocks) (fun h => by rw [hr] at h; cases h)
  have hmeth' : T.vm.method? m = some meth := X.method'
  refine ⟨T.setFrames fs, ?_, .returned (some (.int 1)), hrun, hended, rfl, ⟨_, rfl⟩, hW, hframe⟩
  jvm_step X.here [X.here.top, hx, hb, hdg, hmeth', hr, ret, narrow_b1]
  (try refine ⟨rfl, ?_⟩); (try refine ⟨rfl, ?_⟩)
  first | (intro acts; rw [hret _ acts rfl rfl rfl]) | rw [hret _ _ rfl rfl rfl]
  exact Steps.refl _
/-- what holds at the law's entry: the machine, the code, the tables' words (any of lw_tbl by 'hts w (by decide +kernel)'), the script of L ints xs at the cell b, what the Statement gives of the start (any of its parts by flat_of_before) -/
def lw_At (p : Program) (s : State) (m : MethodId) (meth : Method) (c : Code) (b L : Nat) (xs : Nat → Int32) : Prop :=
  p.tables.exec = Jvm.exec ∧ c.code = code ∧ meth.sig.returnType = ret ∧ c.maxLocals = 4 ∧ s.vm.findClass R_law = some m.cls ∧ (∀ w ∈ lw_tbl, w.before #[Value.ref b] s = true) ∧ va_X b L xs s s.heap ∧ b < s.heap.size ∧ meth.locks = false ∧ (Jvm.Cond.and given_1 narrow_1).before #[Value.ref b] s = true
end
section
section LAW
variable {p : Program} {l : Launch} {e : Env} {s : State} {m : MethodId} {below : List Frame} {meth : Method} {c : Code} {b L : Nat} {xs : Nat → Int32} {adK adV : Nat → Nat} {D : va_G}
/-- the law's own: the machine, the code, the words, the script, what lies outside -/
def lX (p : Program) (s : State) (m : MethodId) (meth : Method) (c : Code) (b L : Nat) (xs : Nat → Int32) (adK adV : Nat → Nat) : Prop := lw_At p s m meth c b L xs ∧ eXt tNs s ∧ tFz adK adV (fun q => s.heap.size ≤ q) s s.heap
/-- the world between calls -/
def lWc (D : va_G) (s : State) (mm : dM) (H : Heap) (locs : List Loc) (ws : va_W) (tys : List (ClassId × FieldType)) : Prop := va_K D tCl tys s ∧ va_P D tCl ws H ∧ va_D (fun q => s.heap.size ≤ q) ws ∧ va_S (fun q => s.heap.size ≤ q) s.heap H locs ∧ eAll (cCk (ws.map Prod.fst) tys) (dHp mm) ws
theorem lgt {s : State} {args : Array Value} (h : ∀ w ∈ lw_tbl, w.before args s = true) : ∀ w ∈ lw_g, w.before args s = true := fun w hw => h w (List.mem_filter.mp hw).1
theorem ofI6 : ∀ k : Nat, k < 6 → (Int32.ofInt (k : Int)).toInt = (k : Int) := by decide
theorem law_arg {H : Heap} {locs : List Loc} {cs sl pc k : Nat} {i : Int32} {ls : Array Slot} {rest : List Value} {ax am : Nat} {Q : State → Prop} (C0 : lX p s m meth c b L xs adK adV) (hS : va_S (fun q => s.heap.size ≤ q) s.heap H locs) (hl : lv_has ls 4 [(0, .ref b), (1, .ref ax), (2, .ref am), (3, .int i)]) (hi : 0 ≤ i.toInt ∧ i.toInt + 6 ≤ L ∧ L ≤ 3072) (hk : k < 6) (d1 : decode code pc = .ok (.aload_n 0, 1)) (d2 : decode code (pc + 1) = .ok (.iload_n 3, 1)) (d3 : decode code (pc + 2) = .ok (.iconst (k : Int), 1)) (d4 : decode code (pc + 3) = .ok (.iadd, 1)) (d5 : decode code (pc + 4) = .ok (.iaload, 1))
    (kk : W p l e room_1 s m #[Value.ref b] below meth c H locs cs sl Q (F0 m (pc + 5) ls (.int (xs (i + Int32.ofInt (k : Int)).toNatClampNeg) :: rest))) : W p l e room_1 s m #[Value.ref b] below meth c H locs cs sl Q (F0 m pc ls rest) := by
  obtain ⟨⟨hx, hb, hr, hml, hown, hts, hX, hbl, hlocks, hgv⟩, hXt, hFz⟩ := C0
  have hbA : ¬ (fun q : Nat => s.heap.size ≤ q) b := Nat.not_le.mpr hbl
  refine lv_aload_n hx hb d1 rfl (lv_at hl 0 rfl) ?_
  refine lv_iload_n hx hb d2 rfl (lv_at hl 3 rfl) ?_
  refine lv_iconst hx hb d3 rfl ?_
  refine lv_iadd hx hb d4 ?_
  have f := dAddE (X := i.toInt) (Y := (k : Int)) (x := i) (y := Int32.ofInt (k : Int)) rfl (ofI6 k hk) (by omega) (by omega)
  exact va_sld hx hb hX hbl hbA hS (vp_in_iff.mpr ⟨by omega, by omega⟩) d5 kk
/-- the locals of a call: what the contract names is there -/
theorem lo_at : ∀ (as : List cV) (j i : Nat), (as.all fun v => Nat.beq (cCat v) 1) = true → ∀ v, as[i]? = some v → cGet (cArgs j as) (j + i) = some v
  | [], j, i, _, v, h => by simp at h
  | w :: as, j, i, hc, v, h => by
    simp only [List.all_cons, Bool.and_eq_true] at hc
    have e := Nat.eq_of_beq_eq_true hc.1
    have e2 : Nat.beq (cCat w) 2 = false := by rw [e]; rfl
    match i, h with
    | 0, h =>
      cases h
      show cond (Nat.beq j j) (some w) _ = some w
      rw [Nat.beq_refl]
      rfl
    | i + 1, h =>
      have hb : Nat.beq j (j + (i + 1)) = false := by
        cases hq : Nat.beq j (j + (i + 1)) with
        | false => rfl
        | true =>
          have := Nat.eq_of_beq_eq_true hq
          omega
      show cond (Nat.beq j (j + (i + 1))) (some w) (cGet (cArgs (cond (Nat.beq (cCat w) 2) (j + 2) (j + 1)) as) (j + (i + 1))) = some v
      rw [hb, e2, show j + (i + 1) = j + 1 + i by omega]
      exact lo_at as (j + 1) i hc.2 v h
theorem lo_args {as : List cV} {n : Nat} (hc : (as.all fun v => Nat.beq (cCat v) 1) = true) : dLo (List.map some as ++ List.replicate n none) (cArgs 0 as) := by
  intro i v h
  by_cases hi : i < as.length
  · rw [List.getElem?_append_left (by rw [List.length_map]; exact hi), List.getElem?_map] at h
    cases hq : as[i]? with
    | none => rw [hq] at h; cases h
    | some w =>
      rw [hq] at h
      have e : w = v := Option.some.inj (Option.some.inj h)
      subst e
      have := lo_at as 0 i hc w hq
      rw [Nat.zero_add] at this
      exact this
  · rw [List.getElem?_append_right (by rw [List.length_map]; omega), List.getElem?_replicate] at h
    split at h
    · cases h
    · cases h
theorem law_callC {mm : dM} {Qm : Int32 → dM → Prop} {H : Heap} {locs : List Loc} {ws : va_W} {tys : List (ClassId × FieldType)} {ls : Array Slot} {cs sl pc ix k a bm d0 : Nat} {l1 : dL} {as : List cV} {vs rest : List Value} {N : eM} {Y : eY} {T : u_T} {NN : Nat} {Q : State → Prop} (C0 : lX p s m meth c b L xs adK adV) (hW : lWc D s mm H locs ws tys) (hsz : ls.size = 4) (hwp : Wp 600 bm 0 l1 [] mm (qI Qm)) {nn : Nat} (hl1 : l1 = List.map some (.inr (.inr (some k)) :: as) ++ List.replicate nn none) (hcat : ((.inr (.inr (some k)) :: as : List cV).all fun v => Nat.beq (cCat v) 1) = true) (hca : cCats (.inr (.inr (some k)) :: as) ≤ N.2.1) (hN : tMs[bm]? = some N) (hY : tYs[bm]? = some Y) (hn0 : N.2.2.1 = 0) (hn1 : N.2.2.2.1 = 0) (hnp : vs.length = N.2.2.2.2.2)
    (w1 : Cond.methodLink R_law ix Y.1 ∈ lw_g) (w2 : Cond.instanceMethod Y.1 ∈ lw_g) (w3 : Cond.selects Y.1.cls Y.1 Y.1 ∈ lw_g) (hcl : tCl[d0]? = some (Y.1.cls, T, NN)) (hsh : ∃ fs, (dHp mm)[k]? = some (.inl (d0, fs))) (ha : (ws.map Prod.fst)[k]? = some a) (has : eAll (cOk (ws.map Prod.fst)) as vs) (hcr : (rest.map fun v => v.category).sum ≤ 8) (hcs : cs ≤ 600000) (hsl : sl ≤ 7302250) (hdg : decode code pc = .ok (.invokevirtual ix, 3))
    (kk : ∀ (r : Int32) (m' : dM) (H1 : Heap) (locs1 : List Loc) (ws' : va_W) (tys' : List (ClassId × FieldType)), Qm r m' → ws'.map Prod.fst = ws.map Prod.fst → lWc D s m' H1 locs1 ws' tys' → W p l e room_1 s m #[Value.ref b] below meth c H1 locs1 cs sl Q (F0 m (pc + 3) ls (.int r :: rest))) : W p l e room_1 s m #[Value.ref b] below meth c H locs cs sl Q (F0 m pc ls (vs.reverse ++ .ref a :: rest)) := by
  obtain ⟨⟨hx, hb, hr, hml, hown, hts0, hX, hbl, hlocks, hgv⟩, hXt, hFz⟩ := C0
  have hts := lgt hts0
  obtain ⟨hK, hP, hD, hS, hh⟩ := hW
  have hok : eMok tCl lw_g tNs tMs tYs N Y := by
    obtain ⟨Y', g1, g2⟩ := eAll_get tOk hN
    have e1 := Option.some.inj (g1.symm.trans hY)
    subst e1
    exact g2
  obtain ⟨-, hcode, hini, -, hdd, hnl, -⟩ := hok
  have hA1 : ∀ q, va_A ws H.size q → s.heap.size ≤ q := by
    intro q hq
    rcases hq with ⟨k, e9, hk⟩ | hq
    · exact hD.2 k (q, e9) hk
    · exact Nat.le_trans hS.1 hq
  have hlo : dLo l1 (cArgs 0 (.inr (.inr (some k)) :: as)) := by rw [hl1]; exact lo_args hcat
  obtain ⟨v, m', hrun0, r, rfl, hqm⟩ := hwp _ hlo
  have hcon : cCon (tFz adK adV) l tCl lw_g tNs tMs tYs 600 bm (.inr (.inr (some k)) :: as) (dHp mm) (some (.inl r)) (dHp m') := cRun_con (tFzOk adK adV) tOk lw_g_good tKl hN hca hrun0
  have hM := hcon N Y hN hY D ws tys (.ref a :: vs) H.size hh ⟨⟨a, ha, rfl⟩, has⟩
  have hPre : ∀ U : State, U.heap = H → s.WarmedH U.vm → ePc (tFz adK adV) tCl tNs D ws tys (.ref a :: vs) H.size (Value.ref a :: vs).toArray U := fun U hU hW => ⟨rfl, by rw [hU], by rw [hU]; exact hP, va_K.moved hW.alike hK, hD.weaken (fun _ _ _ _ => trivial), hXt.warm hW, by rw [hU]; exact (tFzOk adK adV).1 _ _ s U s.heap H hFz hW hS.2.1 hA1⟩
  obtain ⟨fs0, hsh⟩ := hsh
  obtain ⟨⟨q, e9⟩, he, fs, hf, -⟩ := eAll_get hh hsh
  have hf : e9 = .inr (d0, fs) := hf
  subst hf
  have e1 := eAd_at he ha
  subst e1
  have hrun := va_runV (R := room_1) (p := p) (e := e) (below := below) (meth := meth) (locs := locs) (cells := cs) (slots := sl) (g := F0 m pc ls (vs.reverse ++ .ref a :: rest)) (As := vs) (rest := rest) ⟨hx, hb, hml, hown, hts⟩ hM ⟨callB_of _ hts (jG hcode) rfl rfl rfl (hts _ hini) (hts _ w1) hdd ⟨by show 600 + 1 ≤ 2048; omega, by show 8 + (N.2.1 + 11) + 128 * 600 ≤ 84000; omega⟩, hts _ w2, hts _ w3⟩ ⟨ePc_blind (tFzOk adK adV), va_recv hK hP hcl he, hPre⟩ rfl hnp hsz rfl (by show 2 * 0 + _ ≤ 8; omega) hdg ⟨by rw [hn0]; exact hcs, by rw [hn1]; exact hsl⟩
  rw [hn0, hn1] at hrun
  refine cBack hrun hS hA1 (fun w ws' tys' H1 locs1 hov hpre' hh' hP' hK' hD' hS' => ?_)
  cases w with
  | none => exact hov.elim
  | some w =>
    have hw : w = .int r := hov
    subst hw
    exact kk r m' H1 locs1 ws' tys' hqm hpre' ⟨hK', hP', hD', hS', by rw [hpre']; exact hh'⟩
end LAW
end
section
/-! THE LAW, a case each -/
def Rf (m : dM) : Prop := Rq m ∧ Fr m
section LWC
variable {p : Program} {l : Launch} {e : Env} {s : State} {m : MethodId} {below : List Frame} {meth : Method} {c : Code} {b L : Nat} {xs : Nat → Int32} {adK adV : Nat → Nat} {D : va_G} {i : Int32} {Q : State → Prop}
theorem law_feed (C0 : lX p s m meth c b L xs adK adV) {mm : dM} {H : Heap} {locs : List Loc} {ws : va_W} {tys : List (ClassId × FieldType)} {ls : Array Slot} {ax am cs sl : Nat} (hO : Ok mm) (hT : Rf mm) (hW : lWc D s mm H locs ws tys) (hax : (ws.map Prod.fst)[0]? = some ax) (ham : (ws.map Prod.fst)[70]? = some am) (hl : lv_has ls 4 [(0, .ref b), (1, .ref ax), (2, .ref am), (3, .int i)]) (hi : 0 ≤ i.toInt ∧ i.toInt + 6 ≤ L ∧ L ≤ 3072) (hcs : cs ≤ 600000) (hsl : sl ≤ 7302250) (KE : ∀ (m2 : dM) (H2 : Heap) (locs2 : List Loc) (ws2 : va_W) (tys2 : List (ClassId × FieldType)), Ok m2 → Rf m2 → ws2.map Prod.fst = ws.map Prod.fst → lWc D s m2 H2 locs2 ws2 tys2 → W p l e room_1 s m #[Value.ref b] below meth c H2 locs2 cs sl Q (F0 m 1191 ls [])) : W p l e room_1 s m #[Value.ref b] below meth c H locs cs sl Q (F0 m 188 ls []) := by
  obtain ⟨⟨hx, hb, -, -, -, -, -, -, -, -⟩, -, -⟩ := id C0
  refine lv_aload_n hx hb dl_188 rfl (lv_at hl 1 rfl) ?_
  refine law_arg (k := 1) C0 hW.2.2.2.1 hl hi (by decide) dl_189 dl_190 dl_191 dl_192 dl_193 ?_
  refine law_arg (k := 2) C0 hW.2.2.2.1 hl hi (by decide) dl_194 dl_195 dl_196 dl_197 dl_198 ?_
  refine law_arg (k := 3) C0 hW.2.2.2.1 hl hi (by decide) dl_199 dl_200 dl_201 dl_202 dl_203 ?_
  refine law_arg (k := 4) C0 hW.2.2.2.1 hl hi (by decide) dl_204 dl_205 dl_206 dl_207 dl_208 ?_
  refine law_arg (k := 5) C0 hW.2.2.2.1 hl hi (by decide) dl_209 dl_210 dl_211 dl_212 dl_213 ?_
  refine law_callC (N := tM243) (Y := tY243) (mm := mm) (Qm := fun r m' => Mw (E11f (x5 (xs (i + Int32.ofInt ((1 : Nat) : Int)).toNatClampNeg) (xs (i + Int32.ofInt ((2 : Nat) : Int)).toNatClampNeg) (xs (i + Int32.ofInt ((3 : Nat) : Int)).toNatClampNeg) (xs (i + Int32.ofInt ((4 : Nat) : Int)).toNatClampNeg) (xs (i + Int32.ofInt ((5 : Nat) : Int)).toNatClampNeg)) mm) mm r m') (as := [.inl (xs (i + Int32.ofInt ((1 : Nat) : Int)).toNatClampNeg), .inl (xs (i + Int32.ofInt ((2 : Nat) : Int)).toNatClampNeg), .inl (xs (i + Int32.ofInt ((3 : Nat) : Int)).toNatClampNeg), .inl (xs (i + Int32.ofInt ((4 : Nat) : Int)).toNatClampNeg), .inl (xs (i + Int32.ofInt ((5 : Nat) : Int)).toNatClampNeg)]) (vs := [.int (xs (i + Int32.ofInt ((1 : Nat) : Int)).toNatClampNeg), .int (xs (i + Int32.ofInt ((2 : Nat) : Int)).toNatClampNeg), .int (xs (i + Int32.ofInt ((3 : Nat) : Int)).toNatClampNeg), .int (xs (i + Int32.ofInt ((4 : Nat) : Int)).toNatClampNeg), .int (xs (i + Int32.ofInt ((5 : Nat) : Int)).toNatClampNeg)]) (rest := []) C0 hW hl.1 (w1_feed ⟨hO, hT⟩) (nn := 0) rfl rfl (Nat.le_of_ble_eq_true rfl) rfl rfl rfl rfl rfl (kIs_ok (c := 3067) (by decide +kernel)) (kIs_ok (c := 3068) (by decide +kernel)) (kIs_ok (c := 3069) (by decide +kernel)) (d0 := 11) rfl ⟨_, rfl⟩ hax ⟨rfl, ⟨rfl, ⟨rfl, ⟨rfl, ⟨rfl, trivial⟩⟩⟩⟩⟩ (Nat.le_of_ble_eq_true rfl) hcs hsl dl_214 (fun r1 m1 H1 locs1 ws1 tys1 O1 hp1 hW1 => ?_)
  refine lv_pop hx hb dl_217 rfl ?_
  refine lv_aload_n hx hb dl_218 rfl (lv_at hl 2 rfl) ?_
  refine law_arg (k := 1) C0 hW1.2.2.2.1 hl hi (by decide) dl_219 dl_220 dl_221 dl_222 dl_223 ?_
  refine law_arg (k := 2) C0 hW1.2.2.2.1 hl hi (by decide) dl_224 dl_225 dl_226 dl_227 dl_228 ?_
  refine law_arg (k := 3) C0 hW1.2.2.2.1 hl hi (by decide) dl_229 dl_230 dl_231 dl_232 dl_233 ?_
  refine law_arg (k := 4) C0 hW1.2.2.2.1 hl hi (by decide) dl_234 dl_235 dl_236 dl_237 dl_238 ?_
  refine law_arg (k := 5) C0 hW1.2.2.2.1 hl hi (by decide) dl_239 dl_240 dl_241 dl_242 dl_243 ?_
  refine law_callC (N := tM1) (Y := tY1) (mm := m1) (Qm := fun r m' => Bt m' ∧ r1 = r) (as := [.inl (xs (i + Int32.ofInt ((1 : Nat) : Int)).toNatClampNeg), .inl (xs (i + Int32.ofInt ((2 : Nat) : Int)).toNatClampNeg), .inl (xs (i + Int32.ofInt ((3 : Nat) : Int)).toNatClampNeg), .inl (xs (i + Int32.ofInt ((4 : Nat) : Int)).toNatClampNeg), .inl (xs (i + Int32.ofInt ((5 : Nat) : Int)).toNatClampNeg)]) (vs := [.int (xs (i + Int32.ofInt ((1 : Nat) : Int)).toNatClampNeg), .int (xs (i + Int32.ofInt ((2 : Nat) : Int)).toNatClampNeg), .int (xs (i + Int32.ofInt ((3 : Nat) : Int)).toNatClampNeg), .int (xs (i + Int32.ofInt ((4 : Nat) : Int)).toNatClampNeg), .int (xs (i + Int32.ofInt ((5 : Nat) : Int)).toNatClampNeg)]) (rest := []) C0 hW1 hl.1 (w2_feed O1) (nn := 0) rfl rfl (Nat.le_of_ble_eq_true rfl) rfl rfl rfl rfl rfl (kIs_ok (c := 6238) (by decide +kernel)) (kIs_ok (c := 6239) (by decide +kernel)) (kIs_ok (c := 7000) (by decide +kernel)) (d0 := 12) rfl ⟨_, rfl⟩ (by rw [hp1]; exact ham) ⟨rfl, ⟨rfl, ⟨rfl, ⟨rfl, ⟨rfl, trivial⟩⟩⟩⟩⟩ (Nat.le_of_ble_eq_true rfl) hcs hsl dl_244 (fun r2 m2 H2 locs2 ws2 tys2 O2 hp2 hW2 => ?_)
  obtain ⟨B2, e12⟩ := O2
  refine lv_pop hx hb dl_247 rfl ?_
  refine lv_goto (tgt := 1191) hx hb dl_248 (by decide) ?_
  exact KE m2 H2 locs2 ws2 tys2 B2.1 B2.2 (hp2.trans hp1) hW2
theorem law_back (C0 : lX p s m meth c b L xs adK adV) {mm : dM} {H : Heap} {locs : List Loc} {ws : va_W} {tys : List (ClassId × FieldType)} {ls : Array Slot} {ax am cs sl : Nat} (hO : Ok mm) (hT : Rf mm) (hW : lWc D s mm H locs ws tys) (hax : (ws.map Prod.fst)[0]? = some ax) (ham : (ws.map Prod.fst)[70]? = some am) (hl : lv_has ls 4 [(0, .ref b), (1, .ref ax), (2, .ref am), (3, .int i)]) (hi : 0 ≤ i.toInt ∧ i.toInt + 6 ≤ L ∧ L ≤ 3072) (hcs : cs ≤ 600000) (hsl : sl ≤ 7302250) (KE : ∀ (m2 : dM) (H2 : Heap) (locs2 : List Loc) (ws2 : va_W) (tys2 : List (ClassId × FieldType)), Ok m2 → Rf m2 → ws2.map Prod.fst = ws.map Prod.fst → lWc D s m2 H2 locs2 ws2 tys2 → W p l e room_1 s m #[Value.ref b] below meth c H2 locs2 cs sl Q (F0 m 1191 ls [])) : W p l e room_1 s m #[Value.ref b] below meth c H locs cs sl Q (F0 m 251 ls []) := by
  obtain ⟨⟨hx, hb, -, -, -, -, -, -, -, -⟩, -, -⟩ := id C0
  refine lv_aload_n hx hb dl_251 rfl (lv_at hl 1 rfl) ?_
  refine law_arg (k := 1) C0 hW.2.2.2.1 hl hi (by decide) dl_252 dl_253 dl_254 dl_255 dl_256 ?_
  refine law_callC (N := tM245) (Y := tY245) (mm := mm) (Qm := fun r m' => Mw (E11b (xs (i + Int32.ofInt ((1 : Nat) : Int)).toNatClampNeg) mm) mm r m') (as := [.inl (xs (i + Int32.ofInt ((1 : Nat) : Int)).toNatClampNeg)]) (vs := [.int (xs (i + Int32.ofInt ((1 : Nat) : Int)).toNatClampNeg)]) (rest := []) C0 hW hl.1 (w1_back ⟨hO, hT⟩) (nn := 0) rfl rfl (Nat.le_of_ble_eq_true rfl) rfl rfl rfl rfl rfl (kIs_ok (c := 3075) (by decide +kernel)) (kIs_ok (c := 3076) (by decide +kernel)) (kIs_ok (c := 3077) (by decide +kernel)) (d0 := 11) rfl ⟨_, rfl⟩ hax ⟨rfl, trivial⟩ (Nat.le_of_ble_eq_true rfl) hcs hsl dl_257 (fun r1 m1 H1 locs1 ws1 tys1 O1 hp1 hW1 => ?_)
  refine lv_pop hx hb dl_260 rfl ?_
  refine lv_aload_n hx hb dl_261 rfl (lv_at hl 2 rfl) ?_
  refine law_arg (k := 1) C0 hW1.2.2.2.1 hl hi (by decide) dl_262 dl_263 dl_264 dl_265 dl_266 ?_
  refine law_callC (N := tM3) (Y := tY3) (mm := m1) (Qm := fun r m' => Bt m' ∧ r1 = r) (as := [.inl (xs (i + Int32.ofInt ((1 : Nat) : Int)).toNatClampNeg)]) (vs := [.int (xs (i + Int32.ofInt ((1 : Nat) : Int)).toNatClampNeg)]) (rest := []) C0 hW1 hl.1 (w2_back O1) (nn := 0) rfl rfl (Nat.le_of_ble_eq_true rfl) rfl rfl rfl rfl rfl (kIs_ok (c := 7006) (by decide +kernel)) (kIs_ok (c := 7007) (by decide +kernel)) (kIs_ok (c := 7008) (by decide +kernel)) (d0 := 12) rfl ⟨_, rfl⟩ (by rw [hp1]; exact ham) ⟨rfl, trivial⟩ (Nat.le_of_ble_eq_true rfl) hcs hsl dl_267 (fun r2 m2 H2 locs2 ws2 tys2 O2 hp2 hW2 => ?_)
  obtain ⟨B2, e12⟩ := O2
  refine lv_pop hx hb dl_270 rfl ?_
  refine lv_goto (tgt := 1191) hx hb dl_271 (by decide) ?_
  exact KE m2 H2 locs2 ws2 tys2 B2.1 B2.2 (hp2.trans hp1) hW2
theorem law_read (C0 : lX p s m meth c b L xs adK adV) {mm : dM} {H : Heap} {locs : List Loc} {ws : va_W} {tys : List (ClassId × FieldType)} {ls : Array Slot} {ax am cs sl : Nat} (hO : Ok mm) (hT : Rf mm) (hW : lWc D s mm H locs ws tys) (hax : (ws.map Prod.fst)[0]? = some ax) (ham : (ws.map Prod.fst)[70]? = some am) (hl : lv_has ls 4 [(0, .ref b), (1, .ref ax), (2, .ref am), (3, .int i)]) (hi : 0 ≤ i.toInt ∧ i.toInt + 6 ≤ L ∧ L ≤ 3072) (hcs : cs ≤ 600000) (hsl : sl ≤ 7302250) (KE : ∀ (m2 : dM) (H2 : Heap) (locs2 : List Loc) (ws2 : va_W) (tys2 : List (ClassId × FieldType)), Ok m2 → Rf m2 → ws2.map Prod.fst = ws.map Prod.fst → lWc D s m2 H2 locs2 ws2 tys2 → W p l e room_1 s m #[Value.ref b] below meth c H2 locs2 cs sl Q (F0 m 1191 ls [])) : W p l e room_1 s m #[Value.ref b] below meth c H locs cs sl Q (F0 m 274 ls []) := by
  obtain ⟨⟨hx, hb, -, -, -, -, -, -, -, -⟩, -, -⟩ := id C0
  refine lv_aload_n hx hb dl_274 rfl (lv_at hl 1 rfl) ?_
  refine law_callC (N := tM246) (Y := tY246) (mm := mm) (Qm := fun r m' => Mr mm r m') (as := []) (vs := []) (rest := []) C0 hW hl.1 (w1_read ⟨hO, hT⟩) (nn := 1) rfl rfl (Nat.le_of_ble_eq_true rfl) rfl rfl rfl rfl rfl (kIs_ok (c := 3079) (by decide +kernel)) (kIs_ok (c := 3080) (by decide +kernel)) (kIs_ok (c := 3081) (by decide +kernel)) (d0 := 11) rfl ⟨_, rfl⟩ hax trivial (Nat.le_of_ble_eq_true rfl) hcs hsl dl_275 (fun r1 m1 H1 locs1 ws1 tys1 O1 hp1 hW1 => ?_)
  refine lv_pop hx hb dl_278 rfl ?_
  refine lv_aload_n hx hb dl_279 rfl (lv_at hl 2 rfl) ?_
  refine law_callC (N := tM18) (Y := tY18) (mm := m1) (Qm := fun r m' => Bt m' ∧ r1 = r) (as := []) (vs := []) (rest := []) C0 hW1 hl.1 (w2_read O1) (nn := 1) rfl rfl (Nat.le_of_ble_eq_true rfl) rfl rfl rfl rfl rfl (kIs_ok (c := 7010) (by decide +kernel)) (kIs_ok (c := 7011) (by decide +kernel)) (kIs_ok (c := 7012) (by decide +kernel)) (d0 := 12) rfl ⟨_, rfl⟩ (by rw [hp1]; exact ham) trivial (Nat.le_of_ble_eq_true rfl) hcs hsl dl_280 (fun r2 m2 H2 locs2 ws2 tys2 O2 hp2 hW2 => ?_)
  obtain ⟨B2, e12⟩ := O2
  refine lv_pop hx hb dl_283 rfl ?_
  refine lv_goto (tgt := 1191) hx hb dl_284 (by decide) ?_
  exact KE m2 H2 locs2 ws2 tys2 B2.1 B2.2 (hp2.trans hp1) hW2
theorem law_place (C0 : lX p s m meth c b L xs adK adV) {mm : dM} {H : Heap} {locs : List Loc} {ws : va_W} {tys : List (ClassId × FieldType)} {ls : Array Slot} {ax am cs sl : Nat} (hO : Ok mm) (hT : Rf mm) (hW : lWc D s mm H locs ws tys) (hax : (ws.map Prod.fst)[0]? = some ax) (ham : (ws.map Prod.fst)[70]? = some am) (hl : lv_has ls 4 [(0, .ref b), (1, .ref ax), (2, .ref am), (3, .int i)]) (hi : 0 ≤ i.toInt ∧ i.toInt + 6 ≤ L ∧ L ≤ 3072) (hcs : cs ≤ 600000) (hsl : sl ≤ 7302250) (KE : ∀ (m2 : dM) (H2 : Heap) (locs2 : List Loc) (ws2 : va_W) (tys2 : List (ClassId × FieldType)), Ok m2 → Rf m2 → ws2.map Prod.fst = ws.map Prod.fst → lWc D s m2 H2 locs2 ws2 tys2 → W p l e room_1 s m #[Value.ref b] below meth c H2 locs2 cs sl Q (F0 m 1191 ls [])) : W p l e room_1 s m #[Value.ref b] below meth c H locs cs sl Q (F0 m 287 ls []) := by
  obtain ⟨⟨hx, hb, -, -, -, -, -, -, -, -⟩, -, -⟩ := id C0
  refine lv_aload_n hx hb dl_287 rfl (lv_at hl 1 rfl) ?_
  refine law_callC (N := tM247) (Y := tY247) (mm := mm) (Qm := fun r m' => Mw (E11p mm) mm r m') (as := []) (vs := []) (rest := []) C0 hW hl.1 (w1_place ⟨hO, hT⟩) (nn := 0) rfl rfl (Nat.le_of_ble_eq_true rfl) rfl rfl rfl rfl rfl (kIs_ok (c := 4061) (by decide +kernel)) (kIs_ok (c := 4062) (by decide +kernel)) (kIs_ok (c := 4063) (by decide +kernel)) (d0 := 11) rfl ⟨_, rfl⟩ hax trivial (Nat.le_of_ble_eq_true rfl) hcs hsl dl_288 (fun r1 m1 H1 locs1 ws1 tys1 O1 hp1 hW1 => ?_)
  refine lv_pop hx hb dl_291 rfl ?_
  refine lv_aload_n hx hb dl_292 rfl (lv_at hl 2 rfl) ?_
  refine law_callC (N := tM19) (Y := tY19) (mm := m1) (Qm := fun r m' => Bt m' ∧ r1 = r) (as := []) (vs := []) (rest := []) C0 hW1 hl.1 (w2_place O1) (nn := 0) rfl rfl (Nat.le_of_ble_eq_true rfl) rfl rfl rfl rfl rfl (kIs_ok (c := 7116) (by decide +kernel)) (kIs_ok (c := 7117) (by decide +kernel)) (kIs_ok (c := 7118) (by decide +kernel)) (d0 := 12) rfl ⟨_, rfl⟩ (by rw [hp1]; exact ham) trivial (Nat.le_of_ble_eq_true rfl) hcs hsl dl_293 (fun r2 m2 H2 locs2 ws2 tys2 O2 hp2 hW2 => ?_)
  obtain ⟨B2, e12⟩ := O2
  refine lv_pop hx hb dl_296 rfl ?_
  refine lv_goto (tgt := 1191) hx hb dl_297 (by decide) ?_
  exact KE m2 H2 locs2 ws2 tys2 B2.1 B2.2 (hp2.trans hp1) hW2
theorem law_flat (C0 : lX p s m meth c b L xs adK adV) {mm : dM} {H : Heap} {locs : List Loc} {ws : va_W} {tys : List (ClassId × FieldType)} {ls : Array Slot} {ax am cs sl : Nat} (hO : Ok mm) (hT : Rf mm) (hW : lWc D s mm H locs ws tys) (hax : (ws.map Prod.fst)[0]? = some ax) (ham : (ws.map Prod.fst)[70]? = some am) (hl : lv_has ls 4 [(0, .ref b), (1, .ref ax), (2, .ref am), (3, .int i)]) (hi : 0 ≤ i.toInt ∧ i.toInt + 6 ≤ L ∧ L ≤ 3072) (hcs : cs ≤ 600000) (hsl : sl ≤ 7302250) (KE : ∀ (m2 : dM) (H2 : Heap) (locs2 : List Loc) (ws2 : va_W) (tys2 : List (ClassId × FieldType)), Ok m2 → Rf m2 → ws2.map Prod.fst = ws.map Prod.fst → lWc D s m2 H2 locs2 ws2 tys2 → W p l e room_1 s m #[Value.ref b] below meth c H2 locs2 cs sl Q (F0 m 1191 ls [])) : W p l e room_1 s m #[Value.ref b] below meth c H locs cs sl Q (F0 m 300 ls []) := by
  obtain ⟨⟨hx, hb, -, -, -, -, -, -, -, -⟩, -, -⟩ := id C0
  refine lv_aload_n hx hb dl_300 rfl (lv_at hl 1 rfl) ?_
  refine law_arg (k := 1) C0 hW.2.2.2.1 hl hi (by decide) dl_301 dl_302 dl_303 dl_304 dl_305 ?_
  refine law_arg (k := 2) C0 hW.2.2.2.1 hl hi (by decide) dl_306 dl_307 dl_308 dl_309 dl_310 ?_
  refine law_callC (N := tM251) (Y := tY251) (mm := mm) (Qm := fun r m' => Md (fun H S P => (aFlt H S (xs (i + Int32.ofInt ((1 : Nat) : Int)).toNatClampNeg) (xs (i + Int32.ofInt ((2 : Nat) : Int)).toNatClampNeg), S, P)) r m') (as := [.inl (xs (i + Int32.ofInt ((1 : Nat) : Int)).toNatClampNeg), .inl (xs (i + Int32.ofInt ((2 : Nat) : Int)).toNatClampNeg)]) (vs := [.int (xs (i + Int32.ofInt ((1 : Nat) : Int)).toNatClampNeg), .int (xs (i + Int32.ofInt ((2 : Nat) : Int)).toNatClampNeg)]) (rest := []) C0 hW hl.1 (w1_flat ⟨hO, hT⟩) (nn := 1) rfl rfl (Nat.le_of_ble_eq_true rfl) rfl rfl rfl rfl rfl (kIs_ok (c := 4065) (by decide +kernel)) (kIs_ok (c := 4066) (by decide +kernel)) (kIs_ok (c := 4067) (by decide +kernel)) (d0 := 11) rfl ⟨_, rfl⟩ hax ⟨rfl, ⟨rfl, trivial⟩⟩ (Nat.le_of_ble_eq_true rfl) hcs hsl dl_311 (fun r1 m1 H1 locs1 ws1 tys1 O1 hp1 hW1 => ?_)
  refine lv_pop hx hb dl_314 rfl ?_
  refine lv_aload_n hx hb dl_315 rfl (lv_at hl 2 rfl) ?_
  refine law_arg (k := 1) C0 hW1.2.2.2.1 hl hi (by decide) dl_316 dl_317 dl_318 dl_319 dl_320 ?_
  refine law_arg (k := 2) C0 hW1.2.2.2.1 hl hi (by decide) dl_321 dl_322 dl_323 dl_324 dl_325 ?_
  refine law_callC (N := tM69) (Y := tY69) (mm := m1) (Qm := fun r m' => Bt m' ∧ r1 = r) (as := [.inl (xs (i + Int32.ofInt ((1 : Nat) : Int)).toNatClampNeg), .inl (xs (i + Int32.ofInt ((2 : Nat) : Int)).toNatClampNeg)]) (vs := [.int (xs (i + Int32.ofInt ((1 : Nat) : Int)).toNatClampNeg), .int (xs (i + Int32.ofInt ((2 : Nat) : Int)).toNatClampNeg)]) (rest := []) C0 hW1 hl.1 (w2_flat O1) (nn := 0) rfl rfl (Nat.le_of_ble_eq_true rfl) rfl rfl rfl rfl rfl (kIs_ok (c := 7120) (by decide +kernel)) (kIs_ok (c := 7121) (by decide +kernel)) (kIs_ok (c := 7122) (by decide +kernel)) (d0 := 12) rfl ⟨_, rfl⟩ (by rw [hp1]; exact ham) ⟨rfl, ⟨rfl, trivial⟩⟩ (Nat.le_of_ble_eq_true rfl) hcs hsl dl_326 (fun r2 m2 H2 locs2 ws2 tys2 O2 hp2 hW2 => ?_)
  obtain ⟨B2, e12⟩ := O2
  refine lv_pop hx hb dl_329 rfl ?_
  refine lv_goto (tgt := 1191) hx hb dl_330 (by decide) ?_
  exact KE m2 H2 locs2 ws2 tys2 B2.1 B2.2 (hp2.trans hp1) hW2
theorem law_wire (C0 : lX p s m meth c b L xs adK adV) {mm : dM} {H : Heap} {locs : List Loc} {ws : va_W} {tys : List (ClassId × FieldType)} {ls : Array Slot} {ax am cs sl : Nat} (hO : Ok mm) (hT : Rf mm) (hW : lWc D s mm H locs ws tys) (hax : (ws.map Prod.fst)[0]? = some ax) (ham : (ws.map Prod.fst)[70]? = some am) (hl : lv_has ls 4 [(0, .ref b), (1, .ref ax), (2, .ref am), (3, .int i)]) (hi : 0 ≤ i.toInt ∧ i.toInt + 6 ≤ L ∧ L ≤ 3072) (hcs : cs ≤ 600000) (hsl : sl ≤ 7302250) (KE : ∀ (m2 : dM) (H2 : Heap) (locs2 : List Loc) (ws2 : va_W) (tys2 : List (ClassId × FieldType)), Ok m2 → Rf m2 → ws2.map Prod.fst = ws.map Prod.fst → lWc D s m2 H2 locs2 ws2 tys2 → W p l e room_1 s m #[Value.ref b] below meth c H2 locs2 cs sl Q (F0 m 1191 ls [])) : W p l e room_1 s m #[Value.ref b] below meth c H locs cs sl Q (F0 m 333 ls []) := by
  obtain ⟨⟨hx, hb, -, -, -, -, -, -, -, -⟩, -, -⟩ := id C0
  refine lv_aload_n hx hb dl_333 rfl (lv_at hl 1 rfl) ?_
  refine law_arg (k := 1) C0 hW.2.2.2.1 hl hi (by decide) dl_334 dl_335 dl_336 dl_337 dl_338 ?_
  refine law_arg (k := 2) C0 hW.2.2.2.1 hl hi (by decide) dl_339 dl_340 dl_341 dl_342 dl_343 ?_
  refine law_callC (N := tM252) (Y := tY252) (mm := mm) (Qm := fun r m' => Md (fun H S P => (aWir H S (xs (i + Int32.ofInt ((1 : Nat) : Int)).toNatClampNeg) (xs (i + Int32.ofInt ((2 : Nat) : Int)).toNatClampNeg), S, P)) r m') (as := [.inl (xs (i + Int32.ofInt ((1 : Nat) : Int)).toNatClampNeg), .inl (xs (i + Int32.ofInt ((2 : Nat) : Int)).toNatClampNeg)]) (vs := [.int (xs (i + Int32.ofInt ((1 : Nat) : Int)).toNatClampNeg), .int (xs (i + Int32.ofInt ((2 : Nat) : Int)).toNatClampNeg)]) (rest := []) C0 hW hl.1 (w1_wire ⟨hO, hT⟩) (nn := 0) rfl rfl (Nat.le_of_ble_eq_true rfl) rfl rfl rfl rfl rfl (kIs_ok (c := 4139) (by decide +kernel)) (kIs_ok (c := 4140) (by decide +kernel)) (kIs_ok (c := 4141) (by decide +kernel)) (d0 := 11) rfl ⟨_, rfl⟩ hax ⟨rfl, ⟨rfl, trivial⟩⟩ (Nat.le_of_ble_eq_true rfl) hcs hsl dl_344 (fun r1 m1 H1 locs1 ws1 tys1 O1 hp1 hW1 => ?_)
  refine lv_pop hx hb dl_347 rfl ?_
  refine lv_aload_n hx hb dl_348 rfl (lv_at hl 2 rfl) ?_
  refine law_arg (k := 1) C0 hW1.2.2.2.1 hl hi (by decide) dl_349 dl_350 dl_351 dl_352 dl_353 ?_
  refine law_arg (k := 2) C0 hW1.2.2.2.1 hl hi (by decide) dl_354 dl_355 dl_356 dl_357 dl_358 ?_
  refine law_callC (N := tM71) (Y := tY71) (mm := m1) (Qm := fun r m' => Bt m' ∧ r1 = r) (as := [.inl (xs (i + Int32.ofInt ((1 : Nat) : Int)).toNatClampNeg), .inl (xs (i + Int32.ofInt ((2 : Nat) : Int)).toNatClampNeg)]) (vs := [.int (xs (i + Int32.ofInt ((1 : Nat) : Int)).toNatClampNeg), .int (xs (i + Int32.ofInt ((2 : Nat) : Int)).toNatClampNeg)]) (rest := []) C0 hW1 hl.1 (w2_wire O1) (nn := 0) rfl rfl (Nat.le_of_ble_eq_true rfl) rfl rfl rfl rfl rfl (kIs_ok (c := 7198) (by decide +kernel)) (kIs_ok (c := 7199) (by decide +kernel)) (kIs_ok (c := 7200) (by decide +kernel)) (d0 := 12) rfl ⟨_, rfl⟩ (by rw [hp1]; exact ham) ⟨rfl, ⟨rfl, trivial⟩⟩ (Nat.le_of_ble_eq_true rfl) hcs hsl dl_359 (fun r2 m2 H2 locs2 ws2 tys2 O2 hp2 hW2 => ?_)
  obtain ⟨B2, e12⟩ := O2
  refine lv_pop hx hb dl_362 rfl ?_
  refine lv_goto (tgt := 1191) hx hb dl_363 (by decide) ?_
  exact KE m2 H2 locs2 ws2 tys2 B2.1 B2.2 (hp2.trans hp1) hW2
theorem law_use (C0 : lX p s m meth c b L xs adK adV) {mm : dM} {H : Heap} {locs : List Loc} {ws : va_W} {tys : List (ClassId × FieldType)} {ls : Array Slot} {ax am cs sl : Nat} (hO : Ok mm) (hT : Rf mm) (hW : lWc D s mm H locs ws tys) (hax : (ws.map Prod.fst)[0]? = some ax) (ham : (ws.map Prod.fst)[70]? = some am) (hl : lv_has ls 4 [(0, .ref b), (1, .ref ax), (2, .ref am), (3, .int i)]) (hi : 0 ≤ i.toInt ∧ i.toInt + 6 ≤ L ∧ L ≤ 3072) (hcs : cs ≤ 600000) (hsl : sl ≤ 7302250) (KE : ∀ (m2 : dM) (H2 : Heap) (locs2 : List Loc) (ws2 : va_W) (tys2 : List (ClassId × FieldType)), Ok m2 → Rf m2 → ws2.map Prod.fst = ws.map Prod.fst → lWc D s m2 H2 locs2 ws2 tys2 → W p l e room_1 s m #[Value.ref b] below meth c H2 locs2 cs sl Q (F0 m 1191 ls [])) : W p l e room_1 s m #[Value.ref b] below meth c H locs cs sl Q (F0 m 366 ls []) := by
  obtain ⟨⟨hx, hb, -, -, -, -, -, -, -, -⟩, -, -⟩ := id C0
  refine lv_aload_n hx hb dl_366 rfl (lv_at hl 1 rfl) ?_
  refine law_arg (k := 1) C0 hW.2.2.2.1 hl hi (by decide) dl_367 dl_368 dl_369 dl_370 dl_371 ?_
  refine law_arg (k := 2) C0 hW.2.2.2.1 hl hi (by decide) dl_372 dl_373 dl_374 dl_375 dl_376 ?_
  refine law_callC (N := tM253) (Y := tY253) (mm := mm) (Qm := fun _ m' => Bt m') (as := [.inl (xs (i + Int32.ofInt ((1 : Nat) : Int)).toNatClampNeg), .inl (xs (i + Int32.ofInt ((2 : Nat) : Int)).toNatClampNeg)]) (vs := [.int (xs (i + Int32.ofInt ((1 : Nat) : Int)).toNatClampNeg), .int (xs (i + Int32.ofInt ((2 : Nat) : Int)).toNatClampNeg)]) (rest := []) C0 hW hl.1 (w1_use ⟨hO, hT⟩) (nn := 1) rfl rfl (Nat.le_of_ble_eq_true rfl) rfl rfl rfl rfl rfl (kIs_ok (c := 4172) (by decide +kernel)) (kIs_ok (c := 4173) (by decide +kernel)) (kIs_ok (c := 4174) (by decide +kernel)) (d0 := 11) rfl ⟨_, rfl⟩ hax ⟨rfl, ⟨rfl, trivial⟩⟩ (Nat.le_of_ble_eq_true rfl) hcs hsl dl_377 (fun r1 m1 H1 locs1 ws1 tys1 O1 hp1 hW1 => ?_)
  refine lv_pop hx hb dl_380 rfl ?_
  refine lv_aload_n hx hb dl_381 rfl (lv_at hl 2 rfl) ?_
  refine law_arg (k := 1) C0 hW1.2.2.2.1 hl hi (by decide) dl_382 dl_383 dl_384 dl_385 dl_386 ?_
  refine law_arg (k := 2) C0 hW1.2.2.2.1 hl hi (by decide) dl_387 dl_388 dl_389 dl_390 dl_391 ?_
  refine law_callC (N := tM72) (Y := tY72) (mm := m1) (Qm := fun _ m' => Bt m') (as := [.inl (xs (i + Int32.ofInt ((1 : Nat) : Int)).toNatClampNeg), .inl (xs (i + Int32.ofInt ((2 : Nat) : Int)).toNatClampNeg)]) (vs := [.int (xs (i + Int32.ofInt ((1 : Nat) : Int)).toNatClampNeg), .int (xs (i + Int32.ofInt ((2 : Nat) : Int)).toNatClampNeg)]) (rest := []) C0 hW1 hl.1 (w2_use O1) (nn := 0) rfl rfl (Nat.le_of_ble_eq_true rfl) rfl rfl rfl rfl rfl (kIs_ok (c := 7214) (by decide +kernel)) (kIs_ok (c := 7215) (by decide +kernel)) (kIs_ok (c := 7216) (by decide +kernel)) (d0 := 12) rfl ⟨_, rfl⟩ (by rw [hp1]; exact ham) ⟨rfl, ⟨rfl, trivial⟩⟩ (Nat.le_of_ble_eq_true rfl) hcs hsl dl_392 (fun r2 m2 H2 locs2 ws2 tys2 O2 hp2 hW2 => ?_)
  have B2 : Bt m2 := O2
  refine lv_pop hx hb dl_395 rfl ?_
  refine lv_goto (tgt := 1191) hx hb dl_396 (by decide) ?_
  exact KE m2 H2 locs2 ws2 tys2 B2.1 B2.2 (hp2.trans hp1) hW2
theorem law_agree0 (C0 : lX p s m meth c b L xs adK adV) (hz : xs (i + Int32.ofInt ((2 : Nat) : Int)).toNatClampNeg = 0) {mm : dM} {H : Heap} {locs : List Loc} {ws : va_W} {tys : List (ClassId × FieldType)} {ls : Array Slot} {ax am cs sl : Nat} (hO : Ok mm) (hT : Rf mm) (hW : lWc D s mm H locs ws tys) (hax : (ws.map Prod.fst)[0]? = some ax) (ham : (ws.map Prod.fst)[70]? = some am) (hl : lv_has ls 4 [(0, .ref b), (1, .ref ax), (2, .ref am), (3, .int i)]) (hi : 0 ≤ i.toInt ∧ i.toInt + 6 ≤ L ∧ L ≤ 3072) (hcs : cs ≤ 600000) (hsl : sl ≤ 7302250) (KE : ∀ (m2 : dM) (H2 : Heap) (locs2 : List Loc) (ws2 : va_W) (tys2 : List (ClassId × FieldType)), Ok m2 → Rf m2 → ws2.map Prod.fst = ws.map Prod.fst → lWc D s m2 H2 locs2 ws2 tys2 → W p l e room_1 s m #[Value.ref b] below meth c H2 locs2 cs sl Q (F0 m 1191 ls [])) : W p l e room_1 s m #[Value.ref b] below meth c H locs cs sl Q (F0 m 399 ls []) := by
  obtain ⟨⟨hx, hb, -, -, -, -, -, -, -, -⟩, -, -⟩ := id C0
  refine lv_aload_n hx hb dl_399 rfl (lv_at hl 1 rfl) ?_
  refine law_arg (k := 1) C0 hW.2.2.2.1 hl hi (by decide) dl_400 dl_401 dl_402 dl_403 dl_404 ?_
  refine law_arg (k := 2) C0 hW.2.2.2.1 hl hi (by decide) dl_405 dl_406 dl_407 dl_408 dl_409 ?_
  refine lv_if_eq (tgt := 417) hx hb dl_410 (by decide) (fun _ => ?_) (fun q => absurd hz q)
  refine lv_iconst (v := 0) hx hb dl_417 (by decide) ?_
  refine law_callC (N := tM254) (Y := tY254) (mm := mm) (Qm := fun r m' => Md (fun H S P => aAgr H S P (xs (i + Int32.ofInt ((1 : Nat) : Int)).toNatClampNeg) ((0 : Int32))) r m') (as := [.inl (xs (i + Int32.ofInt ((1 : Nat) : Int)).toNatClampNeg), .inl ((0 : Int32))]) (vs := [.int (xs (i + Int32.ofInt ((1 : Nat) : Int)).toNatClampNeg), .int ((0 : Int32))]) (rest := []) C0 hW hl.1 (w1_agree ⟨hO, hT⟩ (by decide)) (nn := 0) rfl rfl (Nat.le_of_ble_eq_true rfl) rfl rfl rfl rfl rfl (kIs_ok (c := 4184) (by decide +kernel)) (kIs_ok (c := 4185) (by decide +kernel)) (kIs_ok (c := 4186) (by decide +kernel)) (d0 := 11) rfl ⟨_, rfl⟩ hax ⟨rfl, ⟨rfl, trivial⟩⟩ (Nat.le_of_ble_eq_true rfl) hcs hsl dl_418 (fun r1 m1 H1 locs1 ws1 tys1 O1 hp1 hW1 => ?_)
  refine lv_pop hx hb dl_421 rfl ?_
  refine lv_aload_n hx hb dl_422 rfl (lv_at hl 2 rfl) ?_
  refine law_arg (k := 1) C0 hW1.2.2.2.1 hl hi (by decide) dl_423 dl_424 dl_425 dl_426 dl_427 ?_
  refine law_arg (k := 2) C0 hW1.2.2.2.1 hl hi (by decide) dl_428 dl_429 dl_430 dl_431 dl_432 ?_
  refine lv_if_eq (tgt := 440) hx hb dl_433 (by decide) (fun _ => ?_) (fun q => absurd hz q)
  refine lv_iconst (v := 0) hx hb dl_440 (by decide) ?_
  refine law_callC (N := tM74) (Y := tY74) (mm := m1) (Qm := fun r m' => Bt m' ∧ r1 = r) (as := [.inl (xs (i + Int32.ofInt ((1 : Nat) : Int)).toNatClampNeg), .inl ((0 : Int32))]) (vs := [.int (xs (i + Int32.ofInt ((1 : Nat) : Int)).toNatClampNeg), .int ((0 : Int32))]) (rest := []) C0 hW1 hl.1 (w2_agree O1 (by decide)) (nn := 0) rfl rfl (Nat.le_of_ble_eq_true rfl) rfl rfl rfl rfl rfl (kIs_ok (c := 7226) (by decide +kernel)) (kIs_ok (c := 7227) (by decide +kernel)) (kIs_ok (c := 7228) (by decide +kernel)) (d0 := 12) rfl ⟨_, rfl⟩ (by rw [hp1]; exact ham) ⟨rfl, ⟨rfl, trivial⟩⟩ (Nat.le_of_ble_eq_true rfl) hcs hsl dl_441 (fun r2 m2 H2 locs2 ws2 tys2 O2 hp2 hW2 => ?_)
  obtain ⟨B2, e12⟩ := O2
  refine lv_pop hx hb dl_444 rfl ?_
  refine lv_goto (tgt := 1191) hx hb dl_445 (by decide) ?_
  exact KE m2 H2 locs2 ws2 tys2 B2.1 B2.2 (hp2.trans hp1) hW2
theorem law_agree1 (C0 : lX p s m meth c b L xs adK adV) (hz : ¬ xs (i + Int32.ofInt ((2 : Nat) : Int)).toNatClampNeg = 0) {mm : dM} {H : Heap} {locs : List Loc} {ws : va_W} {tys : List (ClassId × FieldType)} {ls : Array Slot} {ax am cs sl : Nat} (hO : Ok mm) (hT : Rf mm) (hW : lWc D s mm H locs ws tys) (hax : (ws.map Prod.fst)[0]? = some ax) (ham : (ws.map Prod.fst)[70]? = some am) (hl : lv_has ls 4 [(0, .ref b), (1, .ref ax), (2, .ref am), (3, .int i)]) (hi : 0 ≤ i.toInt ∧ i.toInt + 6 ≤ L ∧ L ≤ 3072) (hcs : cs ≤ 600000) (hsl : sl ≤ 7302250) (KE : ∀ (m2 : dM) (H2 : Heap) (locs2 : List Loc) (ws2 : va_W) (tys2 : List (ClassId × FieldType)), Ok m2 → Rf m2 → ws2.map Prod.fst = ws.map Prod.fst → lWc D s m2 H2 locs2 ws2 tys2 → W p l e room_1 s m #[Value.ref b] below meth c H2 locs2 cs sl Q (F0 m 1191 ls [])) : W p l e room_1 s m #[Value.ref b] below meth c H locs cs sl Q (F0 m 399 ls []) := by
  obtain ⟨⟨hx, hb, -, -, -, -, -, -, -, -⟩, -, -⟩ := id C0
  refine lv_aload_n hx hb dl_399 rfl (lv_at hl 1 rfl) ?_
  refine law_arg (k := 1) C0 hW.2.2.2.1 hl hi (by decide) dl_400 dl_401 dl_402 dl_403 dl_404 ?_
  refine law_arg (k := 2) C0 hW.2.2.2.1 hl hi (by decide) dl_405 dl_406 dl_407 dl_408 dl_409 ?_
  refine lv_if_eq (tgt := 417) hx hb dl_410 (by decide) (fun q => absurd q hz) (fun _ => ?_)
  refine lv_iconst (v := 1) hx hb dl_413 (by decide) ?_
  refine lv_goto (tgt := 418) hx hb dl_414 (by decide) ?_
  refine law_callC (N := tM254) (Y := tY254) (mm := mm) (Qm := fun r m' => Md (fun H S P => aAgr H S P (xs (i + Int32.ofInt ((1 : Nat) : Int)).toNatClampNeg) ((1 : Int32))) r m') (as := [.inl (xs (i + Int32.ofInt ((1 : Nat) : Int)).toNatClampNeg), .inl ((1 : Int32))]) (vs := [.int (xs (i + Int32.ofInt ((1 : Nat) : Int)).toNatClampNeg), .int ((1 : Int32))]) (rest := []) C0 hW hl.1 (w1_agree ⟨hO, hT⟩ (by decide)) (nn := 0) rfl rfl (Nat.le_of_ble_eq_true rfl) rfl rfl rfl rfl rfl (kIs_ok (c := 4184) (by decide +kernel)) (kIs_ok (c := 4185) (by decide +kernel)) (kIs_ok (c := 4186) (by decide +kernel)) (d0 := 11) rfl ⟨_, rfl⟩ hax ⟨rfl, ⟨rfl, trivial⟩⟩ (Nat.le_of_ble_eq_true rfl) hcs hsl dl_418 (fun r1 m1 H1 locs1 ws1 tys1 O1 hp1 hW1 => ?_)
  refine lv_pop hx hb dl_421 rfl ?_
  refine lv_aload_n hx hb dl_422 rfl (lv_at hl 2 rfl) ?_
  refine law_arg (k := 1) C0 hW1.2.2.2.1 hl hi (by decide) dl_423 dl_424 dl_425 dl_426 dl_427 ?_
  refine law_arg (k := 2) C0 hW1.2.2.2.1 hl hi (by decide) dl_428 dl_429 dl_430 dl_431 dl_432 ?_
  refine lv_if_eq (tgt := 440) hx hb dl_433 (by decide) (fun q => absurd q hz) (fun _ => ?_)
  refine lv_iconst (v := 1) hx hb dl_436 (by decide) ?_
  refine lv_goto (tgt := 441) hx hb dl_437 (by decide) ?_
  refine law_callC (N := tM74) (Y := tY74) (mm := m1) (Qm := fun r m' => Bt m' ∧ r1 = r) (as := [.inl (xs (i + Int32.ofInt ((1 : Nat) : Int)).toNatClampNeg), .inl ((1 : Int32))]) (vs := [.int (xs (i + Int32.ofInt ((1 : Nat) : Int)).toNatClampNeg), .int ((1 : Int32))]) (rest := []) C0 hW1 hl.1 (w2_agree O1 (by decide)) (nn := 0) rfl rfl (Nat.le_of_ble_eq_true rfl) rfl rfl rfl rfl rfl (kIs_ok (c := 7226) (by decide +kernel)) (kIs_ok (c := 7227) (by decide +kernel)) (kIs_ok (c := 7228) (by decide +kernel)) (d0 := 12) rfl ⟨_, rfl⟩ (by rw [hp1]; exact ham) ⟨rfl, ⟨rfl, trivial⟩⟩ (Nat.le_of_ble_eq_true rfl) hcs hsl dl_441 (fun r2 m2 H2 locs2 ws2 tys2 O2 hp2 hW2 => ?_)
  obtain ⟨B2, e12⟩ := O2
  refine lv_pop hx hb dl_444 rfl ?_
  refine lv_goto (tgt := 1191) hx hb dl_445 (by decide) ?_
  exact KE m2 H2 locs2 ws2 tys2 B2.1 B2.2 (hp2.trans hp1) hW2
theorem law_mend (C0 : lX p s m meth c b L xs adK adV) {mm : dM} {H : Heap} {locs : List Loc} {ws : va_W} {tys : List (ClassId × FieldType)} {ls : Array Slot} {ax am cs sl : Nat} (hO : Ok mm) (hT : Rf mm) (hW : lWc D s mm H locs ws tys) (hax : (ws.map Prod.fst)[0]? = some ax) (ham : (ws.map Prod.fst)[70]? = some am) (hl : lv_has ls 4 [(0, .ref b), (1, .ref ax), (2, .ref am), (3, .int i)]) (hi : 0 ≤ i.toInt ∧ i.toInt + 6 ≤ L ∧ L ≤ 3072) (hcs : cs ≤ 600000) (hsl : sl ≤ 7302250) (KE : ∀ (m2 : dM) (H2 : Heap) (locs2 : List Loc) (ws2 : va_W) (tys2 : List (ClassId × FieldType)), Ok m2 → Rf m2 → ws2.map Prod.fst = ws.map Prod.fst → lWc D s m2 H2 locs2 ws2 tys2 → W p l e room_1 s m #[Value.ref b] below meth c H2 locs2 cs sl Q (F0 m 1191 ls [])) : W p l e room_1 s m #[Value.ref b] below meth c H locs cs sl Q (F0 m 448 ls []) := by
  obtain ⟨⟨hx, hb, -, -, -, -, -, -, -, -⟩, -, -⟩ := id C0
  refine lv_aload_n hx hb dl_448 rfl (lv_at hl 1 rfl) ?_
  refine law_arg (k := 1) C0 hW.2.2.2.1 hl hi (by decide) dl_449 dl_450 dl_451 dl_452 dl_453 ?_
  refine law_callC (N := tM255) (Y := tY255) (mm := mm) (Qm := fun r m' => Md (fun H S P => aMnd H S P (xs (i + Int32.ofInt ((1 : Nat) : Int)).toNatClampNeg)) r m') (as := [.inl (xs (i + Int32.ofInt ((1 : Nat) : Int)).toNatClampNeg)]) (vs := [.int (xs (i + Int32.ofInt ((1 : Nat) : Int)).toNatClampNeg)]) (rest := []) C0 hW hl.1 (w1_mend ⟨hO, hT⟩) (nn := 1) rfl rfl (Nat.le_of_ble_eq_true rfl) rfl rfl rfl rfl rfl (kIs_ok (c := 4197) (by decide +kernel)) (kIs_ok (c := 4198) (by decide +kernel)) (kIs_ok (c := 4199) (by decide +kernel)) (d0 := 11) rfl ⟨_, rfl⟩ hax ⟨rfl, trivial⟩ (Nat.le_of_ble_eq_true rfl) hcs hsl dl_454 (fun r1 m1 H1 locs1 ws1 tys1 O1 hp1 hW1 => ?_)
  refine lv_pop hx hb dl_457 rfl ?_
  refine lv_aload_n hx hb dl_458 rfl (lv_at hl 2 rfl) ?_
  refine law_arg (k := 1) C0 hW1.2.2.2.1 hl hi (by decide) dl_459 dl_460 dl_461 dl_462 dl_463 ?_
  refine law_callC (N := tM75) (Y := tY75) (mm := m1) (Qm := fun r m' => Bt m' ∧ r1 = r) (as := [.inl (xs (i + Int32.ofInt ((1 : Nat) : Int)).toNatClampNeg)]) (vs := [.int (xs (i + Int32.ofInt ((1 : Nat) : Int)).toNatClampNeg)]) (rest := []) C0 hW1 hl.1 (w2_mend O1) (nn := 0) rfl rfl (Nat.le_of_ble_eq_true rfl) rfl rfl rfl rfl rfl (kIs_ok (c := 7234) (by decide +kernel)) (kIs_ok (c := 7235) (by decide +kernel)) (kIs_ok (c := 7236) (by decide +kernel)) (d0 := 12) rfl ⟨_, rfl⟩ (by rw [hp1]; exact ham) ⟨rfl, trivial⟩ (Nat.le_of_ble_eq_true rfl) hcs hsl dl_464 (fun r2 m2 H2 locs2 ws2 tys2 O2 hp2 hW2 => ?_)
  obtain ⟨B2, e12⟩ := O2
  refine lv_pop hx hb dl_467 rfl ?_
  refine lv_goto (tgt := 1191) hx hb dl_468 (by decide) ?_
  exact KE m2 H2 locs2 ws2 tys2 B2.1 B2.2 (hp2.trans hp1) hW2
theorem law_thicken (C0 : lX p s m meth c b L xs adK adV) {mm : dM} {H : Heap} {locs : List Loc} {ws : va_W} {tys : List (ClassId × FieldType)} {ls : Array Slot} {ax am cs sl : Nat} (hO : Ok mm) (hT : Rf mm) (hW : lWc D s mm H locs ws tys) (hax : (ws.map Prod.fst)[0]? = some ax) (ham : (ws.map Prod.fst)[70]? = some am) (hl : lv_has ls 4 [(0, .ref b), (1, .ref ax), (2, .ref am), (3, .int i)]) (hi : 0 ≤ i.toInt ∧ i.toInt + 6 ≤ L ∧ L ≤ 3072) (hcs : cs ≤ 600000) (hsl : sl ≤ 7302250) (KE : ∀ (m2 : dM) (H2 : Heap) (locs2 : List Loc) (ws2 : va_W) (tys2 : List (ClassId × FieldType)), Ok m2 → Rf m2 → ws2.map Prod.fst = ws.map Prod.fst → lWc D s m2 H2 locs2 ws2 tys2 → W p l e room_1 s m #[Value.ref b] below meth c H2 locs2 cs sl Q (F0 m 1191 ls [])) : W p l e room_1 s m #[Value.ref b] below meth c H locs cs sl Q (F0 m 471 ls []) := by
  obtain ⟨⟨hx, hb, -, -, -, -, -, -, -, -⟩, -, -⟩ := id C0
  refine lv_aload_n hx hb dl_471 rfl (lv_at hl 1 rfl) ?_
  refine law_arg (k := 1) C0 hW.2.2.2.1 hl hi (by decide) dl_472 dl_473 dl_474 dl_475 dl_476 ?_
  refine law_callC (N := tM256) (Y := tY256) (mm := mm) (Qm := fun r m' => Md (fun H S P => aThk H S P (xs (i + Int32.ofInt ((1 : Nat) : Int)).toNatClampNeg)) r m') (as := [.inl (xs (i + Int32.ofInt ((1 : Nat) : Int)).toNatClampNeg)]) (vs := [.int (xs (i + Int32.ofInt ((1 : Nat) : Int)).toNatClampNeg)]) (rest := []) C0 hW hl.1 (w1_thicken ⟨hO, hT⟩) (nn := 1) rfl rfl (Nat.le_of_ble_eq_true rfl) rfl rfl rfl rfl rfl (kIs_ok (c := 4201) (by decide +kernel)) (kIs_ok (c := 4202) (by decide +kernel)) (kIs_ok (c := 4203) (by decide +kernel)) (d0 := 11) rfl ⟨_, rfl⟩ hax ⟨rfl, trivial⟩ (Nat.le_of_ble_eq_true rfl) hcs hsl dl_477 (fun r1 m1 H1 locs1 ws1 tys1 O1 hp1 hW1 => ?_)
  refine lv_pop hx hb dl_480 rfl ?_
  refine lv_aload_n hx hb dl_481 rfl (lv_at hl 2 rfl) ?_
  refine law_arg (k := 1) C0 hW1.2.2.2.1 hl hi (by decide) dl_482 dl_483 dl_484 dl_485 dl_486 ?_
  refine law_callC (N := tM76) (Y := tY76) (mm := m1) (Qm := fun r m' => Bt m' ∧ r1 = r) (as := [.inl (xs (i + Int32.ofInt ((1 : Nat) : Int)).toNatClampNeg)]) (vs := [.int (xs (i + Int32.ofInt ((1 : Nat) : Int)).toNatClampNeg)]) (rest := []) C0 hW1 hl.1 (w2_thicken O1) (nn := 0) rfl rfl (Nat.le_of_ble_eq_true rfl) rfl rfl rfl rfl rfl (kIs_ok (c := 7238) (by decide +kernel)) (kIs_ok (c := 7239) (by decide +kernel)) (kIs_ok (c := 8000) (by decide +kernel)) (d0 := 12) rfl ⟨_, rfl⟩ (by rw [hp1]; exact ham) ⟨rfl, trivial⟩ (Nat.le_of_ble_eq_true rfl) hcs hsl dl_487 (fun r2 m2 H2 locs2 ws2 tys2 O2 hp2 hW2 => ?_)
  obtain ⟨B2, e12⟩ := O2
  refine lv_pop hx hb dl_490 rfl ?_
  refine lv_goto (tgt := 1191) hx hb dl_491 (by decide) ?_
  exact KE m2 H2 locs2 ws2 tys2 B2.1 B2.2 (hp2.trans hp1) hW2
theorem law_pin0 (C0 : lX p s m meth c b L xs adK adV) (hz : xs (i + Int32.ofInt ((2 : Nat) : Int)).toNatClampNeg = 0) {mm : dM} {H : Heap} {locs : List Loc} {ws : va_W} {tys : List (ClassId × FieldType)} {ls : Array Slot} {ax am cs sl : Nat} (hO : Ok mm) (hT : Rf mm) (hW : lWc D s mm H locs ws tys) (hax : (ws.map Prod.fst)[0]? = some ax) (ham : (ws.map Prod.fst)[70]? = some am) (hl : lv_has ls 4 [(0, .ref b), (1, .ref ax), (2, .ref am), (3, .int i)]) (hi : 0 ≤ i.toInt ∧ i.toInt + 6 ≤ L ∧ L ≤ 3072) (hcs : cs ≤ 600000) (hsl : sl ≤ 7302250) (KE : ∀ (m2 : dM) (H2 : Heap) (locs2 : List Loc) (ws2 : va_W) (tys2 : List (ClassId × FieldType)), Ok m2 → Rf m2 → ws2.map Prod.fst = ws.map Prod.fst → lWc D s m2 H2 locs2 ws2 tys2 → W p l e room_1 s m #[Value.ref b] below meth c H2 locs2 cs sl Q (F0 m 1191 ls [])) : W p l e room_1 s m #[Value.ref b] below meth c H locs cs sl Q (F0 m 494 ls []) := by
  obtain ⟨⟨hx, hb, -, -, -, -, -, -, -, -⟩, -, -⟩ := id C0
  refine lv_aload_n hx hb dl_494 rfl (lv_at hl 1 rfl) ?_
  refine law_arg (k := 1) C0 hW.2.2.2.1 hl hi (by decide) dl_495 dl_496 dl_497 dl_498 dl_499 ?_
  refine law_arg (k := 2) C0 hW.2.2.2.1 hl hi (by decide) dl_500 dl_501 dl_502 dl_503 dl_504 ?_
  refine lv_if_eq (tgt := 512) hx hb dl_505 (by decide) (fun _ => ?_) (fun q => absurd hz q)
  refine lv_iconst (v := 0) hx hb dl_512 (by decide) ?_
  refine law_callC (N := tM257) (Y := tY257) (mm := mm) (Qm := fun r m' => Md (fun H S P => aPin H S P (xs (i + Int32.ofInt ((1 : Nat) : Int)).toNatClampNeg) ((0 : Int32))) r m') (as := [.inl (xs (i + Int32.ofInt ((1 : Nat) : Int)).toNatClampNeg), .inl ((0 : Int32))]) (vs := [.int (xs (i + Int32.ofInt ((1 : Nat) : Int)).toNatClampNeg), .int ((0 : Int32))]) (rest := []) C0 hW hl.1 (w1_pin ⟨hO, hT⟩ (by decide)) (nn := 0) rfl rfl (Nat.le_of_ble_eq_true rfl) rfl rfl rfl rfl rfl (kIs_ok (c := 4205) (by decide +kernel)) (kIs_ok (c := 4206) (by decide +kernel)) (kIs_ok (c := 4207) (by decide +kernel)) (d0 := 11) rfl ⟨_, rfl⟩ hax ⟨rfl, ⟨rfl, trivial⟩⟩ (Nat.le_of_ble_eq_true rfl) hcs hsl dl_513 (fun r1 m1 H1 locs1 ws1 tys1 O1 hp1 hW1 => ?_)
  refine lv_pop hx hb dl_516 rfl ?_
  refine lv_aload_n hx hb dl_517 rfl (lv_at hl 2 rfl) ?_
  refine law_arg (k := 1) C0 hW1.2.2.2.1 hl hi (by decide) dl_518 dl_519 dl_520 dl_521 dl_522 ?_
  refine law_arg (k := 2) C0 hW1.2.2.2.1 hl hi (by decide) dl_523 dl_524 dl_525 dl_526 dl_527 ?_
  refine lv_if_eq (tgt := 535) hx hb dl_528 (by decide) (fun _ => ?_) (fun q => absurd hz q)
  refine lv_iconst (v := 0) hx hb dl_535 (by decide) ?_
  refine law_callC (N := tM77) (Y := tY77) (mm := m1) (Qm := fun r m' => Bt m' ∧ r1 = r) (as := [.inl (xs (i + Int32.ofInt ((1 : Nat) : Int)).toNatClampNeg), .inl ((0 : Int32))]) (vs := [.int (xs (i + Int32.ofInt ((1 : Nat) : Int)).toNatClampNeg), .int ((0 : Int32))]) (rest := []) C0 hW1 hl.1 (w2_pin O1 (by decide)) (nn := 0) rfl rfl (Nat.le_of_ble_eq_true rfl) rfl rfl rfl rfl rfl (kIs_ok (c := 8002) (by decide +kernel)) (kIs_ok (c := 8003) (by decide +kernel)) (kIs_ok (c := 8004) (by decide +kernel)) (d0 := 12) rfl ⟨_, rfl⟩ (by rw [hp1]; exact ham) ⟨rfl, ⟨rfl, trivial⟩⟩ (Nat.le_of_ble_eq_true rfl) hcs hsl dl_536 (fun r2 m2 H2 locs2 ws2 tys2 O2 hp2 hW2 => ?_)
  obtain ⟨B2, e12⟩ := O2
  refine lv_pop hx hb dl_539 rfl ?_
  refine lv_goto (tgt := 1191) hx hb dl_540 (by decide) ?_
  exact KE m2 H2 locs2 ws2 tys2 B2.1 B2.2 (hp2.trans hp1) hW2
theorem law_pin1 (C0 : lX p s m meth c b L xs adK adV) (hz : ¬ xs (i + Int32.ofInt ((2 : Nat) : Int)).toNatClampNeg = 0) {mm : dM} {H : Heap} {locs : List Loc} {ws : va_W} {tys : List (ClassId × FieldType)} {ls : Array Slot} {ax am cs sl : Nat} (hO : Ok mm) (hT : Rf mm) (hW : lWc D s mm H locs ws tys) (hax : (ws.map Prod.fst)[0]? = some ax) (ham : (ws.map Prod.fst)[70]? = some am) (hl : lv_has ls 4 [(0, .ref b), (1, .ref ax), (2, .ref am), (3, .int i)]) (hi : 0 ≤ i.toInt ∧ i.toInt + 6 ≤ L ∧ L ≤ 3072) (hcs : cs ≤ 600000) (hsl : sl ≤ 7302250) (KE : ∀ (m2 : dM) (H2 : Heap) (locs2 : List Loc) (ws2 : va_W) (tys2 : List (ClassId × FieldType)), Ok m2 → Rf m2 → ws2.map Prod.fst = ws.map Prod.fst → lWc D s m2 H2 locs2 ws2 tys2 → W p l e room_1 s m #[Value.ref b] below meth c H2 locs2 cs sl Q (F0 m 1191 ls [])) : W p l e room_1 s m #[Value.ref b] below meth c H locs cs sl Q (F0 m 494 ls []) := by
  obtain ⟨⟨hx, hb, -, -, -, -, -, -, -, -⟩, -, -⟩ := id C0
  refine lv_aload_n hx hb dl_494 rfl (lv_at hl 1 rfl) ?_
  refine law_arg (k := 1) C0 hW.2.2.2.1 hl hi (by decide) dl_495 dl_496 dl_497 dl_498 dl_499 ?_
  refine law_arg (k := 2) C0 hW.2.2.2.1 hl hi (by decide) dl_500 dl_501 dl_502 dl_503 dl_504 ?_
  refine lv_if_eq (tgt := 512) hx hb dl_505 (by decide) (fun q => absurd q hz) (fun _ => ?_)
  refine lv_iconst (v := 1) hx hb dl_508 (by decide) ?_
  refine lv_goto (tgt := 513) hx hb dl_509 (by decide) ?_
  refine law_callC (N := tM257) (Y := tY257) (mm := mm) (Qm := fun r m' => Md (fun H S P => aPin H S P (xs (i + Int32.ofInt ((1 : Nat) : Int)).toNatClampNeg) ((1 : Int32))) r m') (as := [.inl (xs (i + Int32.ofInt ((1 : Nat) : Int)).toNatClampNeg), .inl ((1 : Int32))]) (vs := [.int (xs (i + Int32.ofInt ((1 : Nat) : Int)).toNatClampNeg), .int ((1 : Int32))]) (rest := []) C0 hW hl.1 (w1_pin ⟨hO, hT⟩ (by decide)) (nn := 0) rfl rfl (Nat.le_of_ble_eq_true rfl) rfl rfl rfl rfl rfl (kIs_ok (c := 4205) (by decide +kernel)) (kIs_ok (c := 4206) (by decide +kernel)) (kIs_ok (c := 4207) (by decide +kernel)) (d0 := 11) rfl ⟨_, rfl⟩ hax ⟨rfl, ⟨rfl, trivial⟩⟩ (Nat.le_of_ble_eq_true rfl) hcs hsl dl_513 (fun r1 m1 H1 locs1 ws1 tys1 O1 hp1 hW1 => ?_)
  refine lv_pop hx hb dl_516 rfl ?_
  refine lv_aload_n hx hb dl_517 rfl (lv_at hl 2 rfl) ?_
  refine law_arg (k := 1) C0 hW1.2.2.2.1 hl hi (by decide) dl_518 dl_519 dl_520 dl_521 dl_522 ?_
  refine law_arg (k := 2) C0 hW1.2.2.2.1 hl hi (by decide) dl_523 dl_524 dl_525 dl_526 dl_527 ?_
  refine lv_if_eq (tgt := 535) hx hb dl_528 (by decide) (fun q => absurd q hz) (fun _ => ?_)
  refine lv_iconst (v := 1) hx hb dl_531 (by decide) ?_
  refine lv_goto (tgt := 536) hx hb dl_532 (by decide) ?_
  refine law_callC (N := tM77) (Y := tY77) (mm := m1) (Qm := fun r m' => Bt m' ∧ r1 = r) (as := [.inl (xs (i + Int32.ofInt ((1 : Nat) : Int)).toNatClampNeg), .inl ((1 : Int32))]) (vs := [.int (xs (i + Int32.ofInt ((1 : Nat) : Int)).toNatClampNeg), .int ((1 : Int32))]) (rest := []) C0 hW1 hl.1 (w2_pin O1 (by decide)) (nn := 0) rfl rfl (Nat.le_of_ble_eq_true rfl) rfl rfl rfl rfl rfl (kIs_ok (c := 8002) (by decide +kernel)) (kIs_ok (c := 8003) (by decide +kernel)) (kIs_ok (c := 8004) (by decide +kernel)) (d0 := 12) rfl ⟨_, rfl⟩ (by rw [hp1]; exact ham) ⟨rfl, ⟨rfl, trivial⟩⟩ (Nat.le_of_ble_eq_true rfl) hcs hsl dl_536 (fun r2 m2 H2 locs2 ws2 tys2 O2 hp2 hW2 => ?_)
  obtain ⟨B2, e12⟩ := O2
  refine lv_pop hx hb dl_539 rfl ?_
  refine lv_goto (tgt := 1191) hx hb dl_540 (by decide) ?_
  exact KE m2 H2 locs2 ws2 tys2 B2.1 B2.2 (hp2.trans hp1) hW2
theorem law_hours (C0 : lX p s m meth c b L xs adK adV) {mm : dM} {H : Heap} {locs : List Loc} {ws : va_W} {tys : List (ClassId × FieldType)} {ls : Array Slot} {ax am cs sl : Nat} (hO : Ok mm) (hT : Rf mm) (hW : lWc D s mm H locs ws tys) (hax : (ws.map Prod.fst)[0]? = some ax) (ham : (ws.map Prod.fst)[70]? = some am) (hl : lv_has ls 4 [(0, .ref b), (1, .ref ax), (2, .ref am), (3, .int i)]) (hi : 0 ≤ i.toInt ∧ i.toInt + 6 ≤ L ∧ L ≤ 3072) (hcs : cs ≤ 600000) (hsl : sl ≤ 7302250) (KE : ∀ (m2 : dM) (H2 : Heap) (locs2 : List Loc) (ws2 : va_W) (tys2 : List (ClassId × FieldType)), Ok m2 → Rf m2 → ws2.map Prod.fst = ws.map Prod.fst → lWc D s m2 H2 locs2 ws2 tys2 → W p l e room_1 s m #[Value.ref b] below meth c H2 locs2 cs sl Q (F0 m 1191 ls [])) : W p l e room_1 s m #[Value.ref b] below meth c H locs cs sl Q (F0 m 543 ls []) := by
  obtain ⟨⟨hx, hb, -, -, -, -, -, -, -, -⟩, -, -⟩ := id C0
  refine lv_aload_n hx hb dl_543 rfl (lv_at hl 1 rfl) ?_
  refine law_arg (k := 1) C0 hW.2.2.2.1 hl hi (by decide) dl_544 dl_545 dl_546 dl_547 dl_548 ?_
  refine law_callC (N := tM258) (Y := tY258) (mm := mm) (Qm := fun r m' => Md (fun H S P => aHrs H S P (xs (i + Int32.ofInt ((1 : Nat) : Int)).toNatClampNeg)) r m') (as := [.inl (xs (i + Int32.ofInt ((1 : Nat) : Int)).toNatClampNeg)]) (vs := [.int (xs (i + Int32.ofInt ((1 : Nat) : Int)).toNatClampNeg)]) (rest := []) C0 hW hl.1 (w1_hours ⟨hO, hT⟩) (nn := 1) rfl rfl (Nat.le_of_ble_eq_true rfl) rfl rfl rfl rfl rfl (kIs_ok (c := 4209) (by decide +kernel)) (kIs_ok (c := 4210) (by decide +kernel)) (kIs_ok (c := 4211) (by decide +kernel)) (d0 := 11) rfl ⟨_, rfl⟩ hax ⟨rfl, trivial⟩ (Nat.le_of_ble_eq_true rfl) hcs hsl dl_549 (fun r1 m1 H1 locs1 ws1 tys1 O1 hp1 hW1 => ?_)
  refine lv_pop hx hb dl_552 rfl ?_
  refine lv_aload_n hx hb dl_553 rfl (lv_at hl 2 rfl) ?_
  refine law_arg (k := 1) C0 hW1.2.2.2.1 hl hi (by decide) dl_554 dl_555 dl_556 dl_557 dl_558 ?_
  refine law_callC (N := tM79) (Y := tY79) (mm := m1) (Qm := fun r m' => Bt m' ∧ r1 = r) (as := [.inl (xs (i + Int32.ofInt ((1 : Nat) : Int)).toNatClampNeg)]) (vs := [.int (xs (i + Int32.ofInt ((1 : Nat) : Int)).toNatClampNeg)]) (rest := []) C0 hW1 hl.1 (w2_hours O1) (nn := 0) rfl rfl (Nat.le_of_ble_eq_true rfl) rfl rfl rfl rfl rfl (kIs_ok (c := 8006) (by decide +kernel)) (kIs_ok (c := 8007) (by decide +kernel)) (kIs_ok (c := 8008) (by decide +kernel)) (d0 := 12) rfl ⟨_, rfl⟩ (by rw [hp1]; exact ham) ⟨rfl, trivial⟩ (Nat.le_of_ble_eq_true rfl) hcs hsl dl_559 (fun r2 m2 H2 locs2 ws2 tys2 O2 hp2 hW2 => ?_)
  obtain ⟨B2, e12⟩ := O2
  refine lv_pop hx hb dl_562 rfl ?_
  refine lv_goto (tgt := 1191) hx hb dl_563 (by decide) ?_
  exact KE m2 H2 locs2 ws2 tys2 B2.1 B2.2 (hp2.trans hp1) hW2
theorem law_undo (C0 : lX p s m meth c b L xs adK adV) {mm : dM} {H : Heap} {locs : List Loc} {ws : va_W} {tys : List (ClassId × FieldType)} {ls : Array Slot} {ax am cs sl : Nat} (hO : Ok mm) (hT : Rf mm) (hW : lWc D s mm H locs ws tys) (hax : (ws.map Prod.fst)[0]? = some ax) (ham : (ws.map Prod.fst)[70]? = some am) (hl : lv_has ls 4 [(0, .ref b), (1, .ref ax), (2, .ref am), (3, .int i)]) (hi : 0 ≤ i.toInt ∧ i.toInt + 6 ≤ L ∧ L ≤ 3072) (hcs : cs ≤ 600000) (hsl : sl ≤ 7302250) (KE : ∀ (m2 : dM) (H2 : Heap) (locs2 : List Loc) (ws2 : va_W) (tys2 : List (ClassId × FieldType)), Ok m2 → Rf m2 → ws2.map Prod.fst = ws.map Prod.fst → lWc D s m2 H2 locs2 ws2 tys2 → W p l e room_1 s m #[Value.ref b] below meth c H2 locs2 cs sl Q (F0 m 1191 ls [])) : W p l e room_1 s m #[Value.ref b] below meth c H locs cs sl Q (F0 m 566 ls []) := by
  obtain ⟨⟨hx, hb, -, -, -, -, -, -, -, -⟩, -, -⟩ := id C0
  refine lv_aload_n hx hb dl_566 rfl (lv_at hl 1 rfl) ?_
  refine law_callC (N := tM259) (Y := tY259) (mm := mm) (Qm := fun r m' => Md (fun _ S P => aUnd S P) r m') (as := []) (vs := []) (rest := []) C0 hW hl.1 (w1_undo ⟨hO, hT⟩) (nn := 0) rfl rfl (Nat.le_of_ble_eq_true rfl) rfl rfl rfl rfl rfl (kIs_ok (c := 5008) (by decide +kernel)) (kIs_ok (c := 5009) (by decide +kernel)) (kIs_ok (c := 5010) (by decide +kernel)) (d0 := 11) rfl ⟨_, rfl⟩ hax trivial (Nat.le_of_ble_eq_true rfl) hcs hsl dl_567 (fun r1 m1 H1 locs1 ws1 tys1 O1 hp1 hW1 => ?_)
  refine lv_pop hx hb dl_570 rfl ?_
  refine lv_aload_n hx hb dl_571 rfl (lv_at hl 2 rfl) ?_
  refine law_callC (N := tM80) (Y := tY80) (mm := m1) (Qm := fun r m' => Bt m' ∧ r1 = r) (as := []) (vs := []) (rest := []) C0 hW1 hl.1 (w2_undo O1) (nn := 1) rfl rfl (Nat.le_of_ble_eq_true rfl) rfl rfl rfl rfl rfl (kIs_ok (c := 8043) (by decide +kernel)) (kIs_ok (c := 8044) (by decide +kernel)) (kIs_ok (c := 8045) (by decide +kernel)) (d0 := 12) rfl ⟨_, rfl⟩ (by rw [hp1]; exact ham) trivial (Nat.le_of_ble_eq_true rfl) hcs hsl dl_572 (fun r2 m2 H2 locs2 ws2 tys2 O2 hp2 hW2 => ?_)
  obtain ⟨B2, e12⟩ := O2
  refine lv_pop hx hb dl_575 rfl ?_
  refine lv_goto (tgt := 1191) hx hb dl_576 (by decide) ?_
  exact KE m2 H2 locs2 ws2 tys2 B2.1 B2.2 (hp2.trans hp1) hW2
theorem law_way (C0 : lX p s m meth c b L xs adK adV) {mm : dM} {H : Heap} {locs : List Loc} {ws : va_W} {tys : List (ClassId × FieldType)} {ls : Array Slot} {ax am cs sl : Nat} (hO : Ok mm) (hT : Rf mm) (hW : lWc D s mm H locs ws tys) (hax : (ws.map Prod.fst)[0]? = some ax) (ham : (ws.map Prod.fst)[70]? = some am) (hl : lv_has ls 4 [(0, .ref b), (1, .ref ax), (2, .ref am), (3, .int i)]) (hi : 0 ≤ i.toInt ∧ i.toInt + 6 ≤ L ∧ L ≤ 3072) (hcs : cs ≤ 600000) (hsl : sl ≤ 7302250) (KE : ∀ (m2 : dM) (H2 : Heap) (locs2 : List Loc) (ws2 : va_W) (tys2 : List (ClassId × FieldType)), Ok m2 → Rf m2 → ws2.map Prod.fst = ws.map Prod.fst → lWc D s m2 H2 locs2 ws2 tys2 → W p l e room_1 s m #[Value.ref b] below meth c H2 locs2 cs sl Q (F0 m 1191 ls [])) : W p l e room_1 s m #[Value.ref b] below meth c H locs cs sl Q (F0 m 579 ls []) := by
  obtain ⟨⟨hx, hb, -, -, -, -, -, -, -, -⟩, -, -⟩ := id C0
  refine lv_aload_n hx hb dl_579 rfl (lv_at hl 1 rfl) ?_
  refine law_arg (k := 1) C0 hW.2.2.2.1 hl hi (by decide) dl_580 dl_581 dl_582 dl_583 dl_584 ?_
  refine law_arg (k := 2) C0 hW.2.2.2.1 hl hi (by decide) dl_585 dl_586 dl_587 dl_588 dl_589 ?_
  refine law_callC (N := tM260) (Y := tY260) (mm := mm) (Qm := fun r m' => Md (fun H S P => (aWay H S (xs (i + Int32.ofInt ((1 : Nat) : Int)).toNatClampNeg) (xs (i + Int32.ofInt ((2 : Nat) : Int)).toNatClampNeg), S, P)) r m') (as := [.inl (xs (i + Int32.ofInt ((1 : Nat) : Int)).toNatClampNeg), .inl (xs (i + Int32.ofInt ((2 : Nat) : Int)).toNatClampNeg)]) (vs := [.int (xs (i + Int32.ofInt ((1 : Nat) : Int)).toNatClampNeg), .int (xs (i + Int32.ofInt ((2 : Nat) : Int)).toNatClampNeg)]) (rest := []) C0 hW hl.1 (w1_way ⟨hO, hT⟩) (nn := 1) rfl rfl (Nat.le_of_ble_eq_true rfl) rfl rfl rfl rfl rfl (kIs_ok (c := 5020) (by decide +kernel)) (kIs_ok (c := 5021) (by decide +kernel)) (kIs_ok (c := 5022) (by decide +kernel)) (d0 := 11) rfl ⟨_, rfl⟩ hax ⟨rfl, ⟨rfl, trivial⟩⟩ (Nat.le_of_ble_eq_true rfl) hcs hsl dl_590 (fun r1 m1 H1 locs1 ws1 tys1 O1 hp1 hW1 => ?_)
  refine lv_pop hx hb dl_593 rfl ?_
  refine lv_aload_n hx hb dl_594 rfl (lv_at hl 2 rfl) ?_
  refine law_arg (k := 1) C0 hW1.2.2.2.1 hl hi (by decide) dl_595 dl_596 dl_597 dl_598 dl_599 ?_
  refine law_arg (k := 2) C0 hW1.2.2.2.1 hl hi (by decide) dl_600 dl_601 dl_602 dl_603 dl_604 ?_
  refine law_callC (N := tM81) (Y := tY81) (mm := m1) (Qm := fun r m' => Bt m' ∧ r1 = r) (as := [.inl (xs (i + Int32.ofInt ((1 : Nat) : Int)).toNatClampNeg), .inl (xs (i + Int32.ofInt ((2 : Nat) : Int)).toNatClampNeg)]) (vs := [.int (xs (i + Int32.ofInt ((1 : Nat) : Int)).toNatClampNeg), .int (xs (i + Int32.ofInt ((2 : Nat) : Int)).toNatClampNeg)]) (rest := []) C0 hW1 hl.1 (w2_way O1) (nn := 2) rfl rfl (Nat.le_of_ble_eq_true rfl) rfl rfl rfl rfl rfl (kIs_ok (c := 8047) (by decide +kernel)) (kIs_ok (c := 8048) (by decide +kernel)) (kIs_ok (c := 8049) (by decide +kernel)) (d0 := 12) rfl ⟨_, rfl⟩ (by rw [hp1]; exact ham) ⟨rfl, ⟨rfl, trivial⟩⟩ (Nat.le_of_ble_eq_true rfl) hcs hsl dl_605 (fun r2 m2 H2 locs2 ws2 tys2 O2 hp2 hW2 => ?_)
  obtain ⟨B2, e12⟩ := O2
  refine lv_pop hx hb dl_608 rfl ?_
  refine lv_goto (tgt := 1191) hx hb dl_609 (by decide) ?_
  exact KE m2 H2 locs2 ws2 tys2 B2.1 B2.2 (hp2.trans hp1) hW2
theorem law_peak (C0 : lX p s m meth c b L xs adK adV) {mm : dM} {H : Heap} {locs : List Loc} {ws : va_W} {tys : List (ClassId × FieldType)} {ls : Array Slot} {ax am cs sl : Nat} (hO : Ok mm) (hT : Rf mm) (hW : lWc D s mm H locs ws tys) (hax : (ws.map Prod.fst)[0]? = some ax) (ham : (ws.map Prod.fst)[70]? = some am) (hl : lv_has ls 4 [(0, .ref b), (1, .ref ax), (2, .ref am), (3, .int i)]) (hi : 0 ≤ i.toInt ∧ i.toInt + 6 ≤ L ∧ L ≤ 3072) (hcs : cs ≤ 600000) (hsl : sl ≤ 7302250) (KE : ∀ (m2 : dM) (H2 : Heap) (locs2 : List Loc) (ws2 : va_W) (tys2 : List (ClassId × FieldType)), Ok m2 → Rf m2 → ws2.map Prod.fst = ws.map Prod.fst → lWc D s m2 H2 locs2 ws2 tys2 → W p l e room_1 s m #[Value.ref b] below meth c H2 locs2 cs sl Q (F0 m 1191 ls [])) : W p l e room_1 s m #[Value.ref b] below meth c H locs cs sl Q (F0 m 612 ls []) := by
  obtain ⟨⟨hx, hb, -, -, -, -, -, -, -, -⟩, -, -⟩ := id C0
  refine lv_aload_n hx hb dl_612 rfl (lv_at hl 1 rfl) ?_
  refine law_arg (k := 1) C0 hW.2.2.2.1 hl hi (by decide) dl_613 dl_614 dl_615 dl_616 dl_617 ?_
  refine law_arg (k := 2) C0 hW.2.2.2.1 hl hi (by decide) dl_618 dl_619 dl_620 dl_621 dl_622 ?_
  refine law_arg (k := 3) C0 hW.2.2.2.1 hl hi (by decide) dl_623 dl_624 dl_625 dl_626 dl_627 ?_
  refine law_callC (N := tM261) (Y := tY261) (mm := mm) (Qm := fun r m' => Md (fun H S P => (aPk H S (xs (i + Int32.ofInt ((1 : Nat) : Int)).toNatClampNeg) (xs (i + Int32.ofInt ((2 : Nat) : Int)).toNatClampNeg) (xs (i + Int32.ofInt ((3 : Nat) : Int)).toNatClampNeg), S, P)) r m') (as := [.inl (xs (i + Int32.ofInt ((1 : Nat) : Int)).toNatClampNeg), .inl (xs (i + Int32.ofInt ((2 : Nat) : Int)).toNatClampNeg), .inl (xs (i + Int32.ofInt ((3 : Nat) : Int)).toNatClampNeg)]) (vs := [.int (xs (i + Int32.ofInt ((1 : Nat) : Int)).toNatClampNeg), .int (xs (i + Int32.ofInt ((2 : Nat) : Int)).toNatClampNeg), .int (xs (i + Int32.ofInt ((3 : Nat) : Int)).toNatClampNeg)]) (rest := []) C0 hW hl.1 (w1_peak ⟨hO, hT⟩) (nn := 0) rfl rfl (Nat.le_of_ble_eq_true rfl) rfl rfl rfl rfl rfl (kIs_ok (c := 5028) (by decide +kernel)) (kIs_ok (c := 5029) (by decide +kernel)) (kIs_ok (c := 5030) (by decide +kernel)) (d0 := 11) rfl ⟨_, rfl⟩ hax ⟨rfl, ⟨rfl, ⟨rfl, trivial⟩⟩⟩ (Nat.le_of_ble_eq_true rfl) hcs hsl dl_628 (fun r1 m1 H1 locs1 ws1 tys1 O1 hp1 hW1 => ?_)
  refine lv_pop hx hb dl_631 rfl ?_
  refine lv_aload_n hx hb dl_632 rfl (lv_at hl 2 rfl) ?_
  refine law_arg (k := 1) C0 hW1.2.2.2.1 hl hi (by decide) dl_633 dl_634 dl_635 dl_636 dl_637 ?_
  refine law_arg (k := 2) C0 hW1.2.2.2.1 hl hi (by decide) dl_638 dl_639 dl_640 dl_641 dl_642 ?_
  refine law_arg (k := 3) C0 hW1.2.2.2.1 hl hi (by decide) dl_643 dl_644 dl_645 dl_646 dl_647 ?_
  refine law_callC (N := tM83) (Y := tY83) (mm := m1) (Qm := fun r m' => Bt m' ∧ r1 = r) (as := [.inl (xs (i + Int32.ofInt ((1 : Nat) : Int)).toNatClampNeg), .inl (xs (i + Int32.ofInt ((2 : Nat) : Int)).toNatClampNeg), .inl (xs (i + Int32.ofInt ((3 : Nat) : Int)).toNatClampNeg)]) (vs := [.int (xs (i + Int32.ofInt ((1 : Nat) : Int)).toNatClampNeg), .int (xs (i + Int32.ofInt ((2 : Nat) : Int)).toNatClampNeg), .int (xs (i + Int32.ofInt ((3 : Nat) : Int)).toNatClampNeg)]) (rest := []) C0 hW1 hl.1 (w2_peak O1) (nn := 4) rfl rfl (Nat.le_of_ble_eq_true rfl) rfl rfl rfl rfl rfl (kIs_ok (c := 8051) (by decide +kernel)) (kIs_ok (c := 8052) (by decide +kernel)) (kIs_ok (c := 8053) (by decide +kernel)) (d0 := 12) rfl ⟨_, rfl⟩ (by rw [hp1]; exact ham) ⟨rfl, ⟨rfl, ⟨rfl, trivial⟩⟩⟩ (Nat.le_of_ble_eq_true rfl) hcs hsl dl_648 (fun r2 m2 H2 locs2 ws2 tys2 O2 hp2 hW2 => ?_)
  obtain ⟨B2, e12⟩ := O2
  refine lv_pop hx hb dl_651 rfl ?_
  refine lv_goto (tgt := 1191) hx hb dl_652 (by decide) ?_
  exact KE m2 H2 locs2 ws2 tys2 B2.1 B2.2 (hp2.trans hp1) hW2
theorem law_first (C0 : lX p s m meth c b L xs adK adV) {mm : dM} {H : Heap} {locs : List Loc} {ws : va_W} {tys : List (ClassId × FieldType)} {ls : Array Slot} {ax am cs sl : Nat} (hO : Ok mm) (hT : Rf mm) (hW : lWc D s mm H locs ws tys) (hax : (ws.map Prod.fst)[0]? = some ax) (ham : (ws.map Prod.fst)[70]? = some am) (hl : lv_has ls 4 [(0, .ref b), (1, .ref ax), (2, .ref am), (3, .int i)]) (hi : 0 ≤ i.toInt ∧ i.toInt + 6 ≤ L ∧ L ≤ 3072) (hcs : cs ≤ 600000) (hsl : sl ≤ 7302250) (KE : ∀ (m2 : dM) (H2 : Heap) (locs2 : List Loc) (ws2 : va_W) (tys2 : List (ClassId × FieldType)), Ok m2 → Rf m2 → ws2.map Prod.fst = ws.map Prod.fst → lWc D s m2 H2 locs2 ws2 tys2 → W p l e room_1 s m #[Value.ref b] below meth c H2 locs2 cs sl Q (F0 m 1191 ls [])) : W p l e room_1 s m #[Value.ref b] below meth c H locs cs sl Q (F0 m 655 ls []) := by
  obtain ⟨⟨hx, hb, -, -, -, -, -, -, -, -⟩, -, -⟩ := id C0
  refine lv_aload_n hx hb dl_655 rfl (lv_at hl 1 rfl) ?_
  refine law_arg (k := 1) C0 hW.2.2.2.1 hl hi (by decide) dl_656 dl_657 dl_658 dl_659 dl_660 ?_
  refine law_callC (N := tM262) (Y := tY262) (mm := mm) (Qm := fun r m' => Md (fun H S P => (aFst H S (xs (i + Int32.ofInt ((1 : Nat) : Int)).toNatClampNeg), S, P)) r m') (as := [.inl (xs (i + Int32.ofInt ((1 : Nat) : Int)).toNatClampNeg)]) (vs := [.int (xs (i + Int32.ofInt ((1 : Nat) : Int)).toNatClampNeg)]) (rest := []) C0 hW hl.1 (w1_first ⟨hO, hT⟩) (nn := 1) rfl rfl (Nat.le_of_ble_eq_true rfl) rfl rfl rfl rfl rfl (kIs_ok (c := 5041) (by decide +kernel)) (kIs_ok (c := 5042) (by decide +kernel)) (kIs_ok (c := 5043) (by decide +kernel)) (d0 := 11) rfl ⟨_, rfl⟩ hax ⟨rfl, trivial⟩ (Nat.le_of_ble_eq_true rfl) hcs hsl dl_661 (fun r1 m1 H1 locs1 ws1 tys1 O1 hp1 hW1 => ?_)
  refine lv_pop hx hb dl_664 rfl ?_
  refine lv_aload_n hx hb dl_665 rfl (lv_at hl 2 rfl) ?_
  refine law_arg (k := 1) C0 hW1.2.2.2.1 hl hi (by decide) dl_666 dl_667 dl_668 dl_669 dl_670 ?_
  refine law_callC (N := tM86) (Y := tY86) (mm := m1) (Qm := fun r m' => Bt m' ∧ r1 = r) (as := [.inl (xs (i + Int32.ofInt ((1 : Nat) : Int)).toNatClampNeg)]) (vs := [.int (xs (i + Int32.ofInt ((1 : Nat) : Int)).toNatClampNeg)]) (rest := []) C0 hW1 hl.1 (w2_first O1) (nn := 1) rfl rfl (Nat.le_of_ble_eq_true rfl) rfl rfl rfl rfl rfl (kIs_ok (c := 8059) (by decide +kernel)) (kIs_ok (c := 8060) (by decide +kernel)) (kIs_ok (c := 8061) (by decide +kernel)) (d0 := 12) rfl ⟨_, rfl⟩ (by rw [hp1]; exact ham) ⟨rfl, trivial⟩ (Nat.le_of_ble_eq_true rfl) hcs hsl dl_671 (fun r2 m2 H2 locs2 ws2 tys2 O2 hp2 hW2 => ?_)
  obtain ⟨B2, e12⟩ := O2
  refine lv_pop hx hb dl_674 rfl ?_
  refine lv_goto (tgt := 1191) hx hb dl_675 (by decide) ?_
  exact KE m2 H2 locs2 ws2 tys2 B2.1 B2.2 (hp2.trans hp1) hW2
theorem law_together (C0 : lX p s m meth c b L xs adK adV) {mm : dM} {H : Heap} {locs : List Loc} {ws : va_W} {tys : List (ClassId × FieldType)} {ls : Array Slot} {ax am cs sl : Nat} (hO : Ok mm) (hT : Rf mm) (hW : lWc D s mm H locs ws tys) (hax : (ws.map Prod.fst)[0]? = some ax) (ham : (ws.map Prod.fst)[70]? = some am) (hl : lv_has ls 4 [(0, .ref b), (1, .ref ax), (2, .ref am), (3, .int i)]) (hi : 0 ≤ i.toInt ∧ i.toInt + 6 ≤ L ∧ L ≤ 3072) (hcs : cs ≤ 600000) (hsl : sl ≤ 7302250) (KE : ∀ (m2 : dM) (H2 : Heap) (locs2 : List Loc) (ws2 : va_W) (tys2 : List (ClassId × FieldType)), Ok m2 → Rf m2 → ws2.map Prod.fst = ws.map Prod.fst → lWc D s m2 H2 locs2 ws2 tys2 → W p l e room_1 s m #[Value.ref b] below meth c H2 locs2 cs sl Q (F0 m 1191 ls [])) : W p l e room_1 s m #[Value.ref b] below meth c H locs cs sl Q (F0 m 678 ls []) := by
  obtain ⟨⟨hx, hb, -, -, -, -, -, -, -, -⟩, -, -⟩ := id C0
  refine lv_aload_n hx hb dl_678 rfl (lv_at hl 1 rfl) ?_
  refine law_arg (k := 1) C0 hW.2.2.2.1 hl hi (by decide) dl_679 dl_680 dl_681 dl_682 dl_683 ?_
  refine law_callC (N := tM263) (Y := tY263) (mm := mm) (Qm := fun r m' => Md (fun H S P => (aTg H S (xs (i + Int32.ofInt ((1 : Nat) : Int)).toNatClampNeg), S, P)) r m') (as := [.inl (xs (i + Int32.ofInt ((1 : Nat) : Int)).toNatClampNeg)]) (vs := [.int (xs (i + Int32.ofInt ((1 : Nat) : Int)).toNatClampNeg)]) (rest := []) C0 hW hl.1 (w1_together ⟨hO, hT⟩) (nn := 1) rfl rfl (Nat.le_of_ble_eq_true rfl) rfl rfl rfl rfl rfl (kIs_ok (c := 5060) (by decide +kernel)) (kIs_ok (c := 5061) (by decide +kernel)) (kIs_ok (c := 5062) (by decide +kernel)) (d0 := 11) rfl ⟨_, rfl⟩ hax ⟨rfl, trivial⟩ (Nat.le_of_ble_eq_true rfl) hcs hsl dl_684 (fun r1 m1 H1 locs1 ws1 tys1 O1 hp1 hW1 => ?_)
  refine lv_pop hx hb dl_687 rfl ?_
  refine lv_aload_n hx hb dl_688 rfl (lv_at hl 2 rfl) ?_
  refine law_arg (k := 1) C0 hW1.2.2.2.1 hl hi (by decide) dl_689 dl_690 dl_691 dl_692 dl_693 ?_
  refine law_callC (N := tM88) (Y := tY88) (mm := m1) (Qm := fun r m' => Bt m' ∧ r1 = r) (as := [.inl (xs (i + Int32.ofInt ((1 : Nat) : Int)).toNatClampNeg)]) (vs := [.int (xs (i + Int32.ofInt ((1 : Nat) : Int)).toNatClampNeg)]) (rest := []) C0 hW1 hl.1 (w2_together O1) (nn := 5) rfl rfl (Nat.le_of_ble_eq_true rfl) rfl rfl rfl rfl rfl (kIs_ok (c := 8070) (by decide +kernel)) (kIs_ok (c := 8071) (by decide +kernel)) (kIs_ok (c := 8072) (by decide +kernel)) (d0 := 12) rfl ⟨_, rfl⟩ (by rw [hp1]; exact ham) ⟨rfl, trivial⟩ (Nat.le_of_ble_eq_true rfl) hcs hsl dl_694 (fun r2 m2 H2 locs2 ws2 tys2 O2 hp2 hW2 => ?_)
  obtain ⟨B2, e12⟩ := O2
  refine lv_pop hx hb dl_697 rfl ?_
  refine lv_goto (tgt := 1191) hx hb dl_698 (by decide) ?_
  exact KE m2 H2 locs2 ws2 tys2 B2.1 B2.2 (hp2.trans hp1) hW2
theorem law_when (C0 : lX p s m meth c b L xs adK adV) {mm : dM} {H : Heap} {locs : List Loc} {ws : va_W} {tys : List (ClassId × FieldType)} {ls : Array Slot} {ax am cs sl : Nat} (hO : Ok mm) (hT : Rf mm) (hW : lWc D s mm H locs ws tys) (hax : (ws.map Prod.fst)[0]? = some ax) (ham : (ws.map Prod.fst)[70]? = some am) (hl : lv_has ls 4 [(0, .ref b), (1, .ref ax), (2, .ref am), (3, .int i)]) (hi : 0 ≤ i.toInt ∧ i.toInt + 6 ≤ L ∧ L ≤ 3072) (hcs : cs ≤ 600000) (hsl : sl ≤ 7302250) (KE : ∀ (m2 : dM) (H2 : Heap) (locs2 : List Loc) (ws2 : va_W) (tys2 : List (ClassId × FieldType)), Ok m2 → Rf m2 → ws2.map Prod.fst = ws.map Prod.fst → lWc D s m2 H2 locs2 ws2 tys2 → W p l e room_1 s m #[Value.ref b] below meth c H2 locs2 cs sl Q (F0 m 1191 ls [])) : W p l e room_1 s m #[Value.ref b] below meth c H locs cs sl Q (F0 m 701 ls []) := by
  obtain ⟨⟨hx, hb, -, -, -, -, -, -, -, -⟩, -, -⟩ := id C0
  refine lv_aload_n hx hb dl_701 rfl (lv_at hl 1 rfl) ?_
  refine law_arg (k := 1) C0 hW.2.2.2.1 hl hi (by decide) dl_702 dl_703 dl_704 dl_705 dl_706 ?_
  refine law_callC (N := tM264) (Y := tY264) (mm := mm) (Qm := fun r m' => Md (fun H S P => (aWn H S (xs (i + Int32.ofInt ((1 : Nat) : Int)).toNatClampNeg), S, P)) r m') (as := [.inl (xs (i + Int32.ofInt ((1 : Nat) : Int)).toNatClampNeg)]) (vs := [.int (xs (i + Int32.ofInt ((1 : Nat) : Int)).toNatClampNeg)]) (rest := []) C0 hW hl.1 (w1_when ⟨hO, hT⟩) (nn := 0) rfl rfl (Nat.le_of_ble_eq_true rfl) rfl rfl rfl rfl rfl (kIs_ok (c := 5077) (by decide +kernel)) (kIs_ok (c := 5078) (by decide +kernel)) (kIs_ok (c := 5079) (by decide +kernel)) (d0 := 11) rfl ⟨_, rfl⟩ hax ⟨rfl, trivial⟩ (Nat.le_of_ble_eq_true rfl) hcs hsl dl_707 (fun r1 m1 H1 locs1 ws1 tys1 O1 hp1 hW1 => ?_)
  refine lv_pop hx hb dl_710 rfl ?_
  refine lv_aload_n hx hb dl_711 rfl (lv_at hl 2 rfl) ?_
  refine law_arg (k := 1) C0 hW1.2.2.2.1 hl hi (by decide) dl_712 dl_713 dl_714 dl_715 dl_716 ?_
  refine law_callC (N := tM90) (Y := tY90) (mm := m1) (Qm := fun r m' => Bt m' ∧ r1 = r) (as := [.inl (xs (i + Int32.ofInt ((1 : Nat) : Int)).toNatClampNeg)]) (vs := [.int (xs (i + Int32.ofInt ((1 : Nat) : Int)).toNatClampNeg)]) (rest := []) C0 hW1 hl.1 (w2_when O1) (nn := 2) rfl rfl (Nat.le_of_ble_eq_true rfl) rfl rfl rfl rfl rfl (kIs_ok (c := 8078) (by decide +kernel)) (kIs_ok (c := 8079) (by decide +kernel)) (kIs_ok (c := 8080) (by decide +kernel)) (d0 := 12) rfl ⟨_, rfl⟩ (by rw [hp1]; exact ham) ⟨rfl, trivial⟩ (Nat.le_of_ble_eq_true rfl) hcs hsl dl_717 (fun r2 m2 H2 locs2 ws2 tys2 O2 hp2 hW2 => ?_)
  obtain ⟨B2, e12⟩ := O2
  refine lv_pop hx hb dl_720 rfl ?_
  refine lv_goto (tgt := 1191) hx hb dl_721 (by decide) ?_
  exact KE m2 H2 locs2 ws2 tys2 B2.1 B2.2 (hp2.trans hp1) hW2
theorem law_thick (C0 : lX p s m meth c b L xs adK adV) {mm : dM} {H : Heap} {locs : List Loc} {ws : va_W} {tys : List (ClassId × FieldType)} {ls : Array Slot} {ax am cs sl : Nat} (hO : Ok mm) (hT : Rf mm) (hW : lWc D s mm H locs ws tys) (hax : (ws.map Prod.fst)[0]? = some ax) (ham : (ws.map Prod.fst)[70]? = some am) (hl : lv_has ls 4 [(0, .ref b), (1, .ref ax), (2, .ref am), (3, .int i)]) (hi : 0 ≤ i.toInt ∧ i.toInt + 6 ≤ L ∧ L ≤ 3072) (hcs : cs ≤ 600000) (hsl : sl ≤ 7302250) (KE : ∀ (m2 : dM) (H2 : Heap) (locs2 : List Loc) (ws2 : va_W) (tys2 : List (ClassId × FieldType)), Ok m2 → Rf m2 → ws2.map Prod.fst = ws.map Prod.fst → lWc D s m2 H2 locs2 ws2 tys2 → W p l e room_1 s m #[Value.ref b] below meth c H2 locs2 cs sl Q (F0 m 1191 ls [])) : W p l e room_1 s m #[Value.ref b] below meth c H locs cs sl Q (F0 m 724 ls []) := by
  obtain ⟨⟨hx, hb, -, -, -, -, -, -, -, -⟩, -, -⟩ := id C0
  refine lv_aload_n hx hb dl_724 rfl (lv_at hl 1 rfl) ?_
  refine law_arg (k := 1) C0 hW.2.2.2.1 hl hi (by decide) dl_725 dl_726 dl_727 dl_728 dl_729 ?_
  refine law_callC (N := tM265) (Y := tY265) (mm := mm) (Qm := fun r m' => Md (fun H S P => (aTck H S (xs (i + Int32.ofInt ((1 : Nat) : Int)).toNatClampNeg), S, P)) r m') (as := [.inl (xs (i + Int32.ofInt ((1 : Nat) : Int)).toNatClampNeg)]) (vs := [.int (xs (i + Int32.ofInt ((1 : Nat) : Int)).toNatClampNeg)]) (rest := []) C0 hW hl.1 (w1_thick ⟨hO, hT⟩) (nn := 0) rfl rfl (Nat.le_of_ble_eq_true rfl) rfl rfl rfl rfl rfl (kIs_ok (c := 5088) (by decide +kernel)) (kIs_ok (c := 5089) (by decide +kernel)) (kIs_ok (c := 5090) (by decide +kernel)) (d0 := 11) rfl ⟨_, rfl⟩ hax ⟨rfl, trivial⟩ (Nat.le_of_ble_eq_true rfl) hcs hsl dl_730 (fun r1 m1 H1 locs1 ws1 tys1 O1 hp1 hW1 => ?_)
  refine lv_pop hx hb dl_733 rfl ?_
  refine lv_aload_n hx hb dl_734 rfl (lv_at hl 2 rfl) ?_
  refine law_arg (k := 1) C0 hW1.2.2.2.1 hl hi (by decide) dl_735 dl_736 dl_737 dl_738 dl_739 ?_
  refine law_callC (N := tM91) (Y := tY91) (mm := m1) (Qm := fun r m' => Bt m' ∧ r1 = r) (as := [.inl (xs (i + Int32.ofInt ((1 : Nat) : Int)).toNatClampNeg)]) (vs := [.int (xs (i + Int32.ofInt ((1 : Nat) : Int)).toNatClampNeg)]) (rest := []) C0 hW1 hl.1 (w2_thick O1) (nn := 4) rfl rfl (Nat.le_of_ble_eq_true rfl) rfl rfl rfl rfl rfl (kIs_ok (c := 8086) (by decide +kernel)) (kIs_ok (c := 8087) (by decide +kernel)) (kIs_ok (c := 8088) (by decide +kernel)) (d0 := 12) rfl ⟨_, rfl⟩ (by rw [hp1]; exact ham) ⟨rfl, trivial⟩ (Nat.le_of_ble_eq_true rfl) hcs hsl dl_740 (fun r2 m2 H2 locs2 ws2 tys2 O2 hp2 hW2 => ?_)
  obtain ⟨B2, e12⟩ := O2
  refine lv_pop hx hb dl_743 rfl ?_
  refine lv_goto (tgt := 1191) hx hb dl_744 (by decide) ?_
  exact KE m2 H2 locs2 ws2 tys2 B2.1 B2.2 (hp2.trans hp1) hW2
theorem law_cut (C0 : lX p s m meth c b L xs adK adV) {mm : dM} {H : Heap} {locs : List Loc} {ws : va_W} {tys : List (ClassId × FieldType)} {ls : Array Slot} {ax am cs sl : Nat} (hO : Ok mm) (hT : Rf mm) (hW : lWc D s mm H locs ws tys) (hax : (ws.map Prod.fst)[0]? = some ax) (ham : (ws.map Prod.fst)[70]? = some am) (hl : lv_has ls 4 [(0, .ref b), (1, .ref ax), (2, .ref am), (3, .int i)]) (hi : 0 ≤ i.toInt ∧ i.toInt + 6 ≤ L ∧ L ≤ 3072) (hcs : cs ≤ 600000) (hsl : sl ≤ 7302250) (KE : ∀ (m2 : dM) (H2 : Heap) (locs2 : List Loc) (ws2 : va_W) (tys2 : List (ClassId × FieldType)), Ok m2 → Rf m2 → ws2.map Prod.fst = ws.map Prod.fst → lWc D s m2 H2 locs2 ws2 tys2 → W p l e room_1 s m #[Value.ref b] below meth c H2 locs2 cs sl Q (F0 m 1191 ls [])) : W p l e room_1 s m #[Value.ref b] below meth c H locs cs sl Q (F0 m 747 ls []) := by
  obtain ⟨⟨hx, hb, -, -, -, -, -, -, -, -⟩, -, -⟩ := id C0
  refine lv_aload_n hx hb dl_747 rfl (lv_at hl 1 rfl) ?_
  refine law_arg (k := 1) C0 hW.2.2.2.1 hl hi (by decide) dl_748 dl_749 dl_750 dl_751 dl_752 ?_
  refine law_arg (k := 2) C0 hW.2.2.2.1 hl hi (by decide) dl_753 dl_754 dl_755 dl_756 dl_757 ?_
  refine law_callC (N := tM266) (Y := tY266) (mm := mm) (Qm := fun r m' => Md (fun H S P => (aCt H S (xs (i + Int32.ofInt ((1 : Nat) : Int)).toNatClampNeg) (xs (i + Int32.ofInt ((2 : Nat) : Int)).toNatClampNeg), S, P)) r m') (as := [.inl (xs (i + Int32.ofInt ((1 : Nat) : Int)).toNatClampNeg), .inl (xs (i + Int32.ofInt ((2 : Nat) : Int)).toNatClampNeg)]) (vs := [.int (xs (i + Int32.ofInt ((1 : Nat) : Int)).toNatClampNeg), .int (xs (i + Int32.ofInt ((2 : Nat) : Int)).toNatClampNeg)]) (rest := []) C0 hW hl.1 (w1_cut ⟨hO, hT⟩) (nn := 1) rfl rfl (Nat.le_of_ble_eq_true rfl) rfl rfl rfl rfl rfl (kIs_ok (c := 5097) (by decide +kernel)) (kIs_ok (c := 5098) (by decide +kernel)) (kIs_ok (c := 5099) (by decide +kernel)) (d0 := 11) rfl ⟨_, rfl⟩ hax ⟨rfl, ⟨rfl, trivial⟩⟩ (Nat.le_of_ble_eq_true rfl) hcs hsl dl_758 (fun r1 m1 H1 locs1 ws1 tys1 O1 hp1 hW1 => ?_)
  refine lv_pop hx hb dl_761 rfl ?_
  refine lv_aload_n hx hb dl_762 rfl (lv_at hl 2 rfl) ?_
  refine law_arg (k := 1) C0 hW1.2.2.2.1 hl hi (by decide) dl_763 dl_764 dl_765 dl_766 dl_767 ?_
  refine law_arg (k := 2) C0 hW1.2.2.2.1 hl hi (by decide) dl_768 dl_769 dl_770 dl_771 dl_772 ?_
  refine law_callC (N := tM96) (Y := tY96) (mm := m1) (Qm := fun r m' => Bt m' ∧ r1 = r) (as := [.inl (xs (i + Int32.ofInt ((1 : Nat) : Int)).toNatClampNeg), .inl (xs (i + Int32.ofInt ((2 : Nat) : Int)).toNatClampNeg)]) (vs := [.int (xs (i + Int32.ofInt ((1 : Nat) : Int)).toNatClampNeg), .int (xs (i + Int32.ofInt ((2 : Nat) : Int)).toNatClampNeg)]) (rest := []) C0 hW1 hl.1 (w2_cut O1) (nn := 3) rfl rfl (Nat.le_of_ble_eq_true rfl) rfl rfl rfl rfl rfl (kIs_ok (c := 8090) (by decide +kernel)) (kIs_ok (c := 8091) (by decide +kernel)) (kIs_ok (c := 8092) (by decide +kernel)) (d0 := 12) rfl ⟨_, rfl⟩ (by rw [hp1]; exact ham) ⟨rfl, ⟨rfl, trivial⟩⟩ (Nat.le_of_ble_eq_true rfl) hcs hsl dl_773 (fun r2 m2 H2 locs2 ws2 tys2 O2 hp2 hW2 => ?_)
  obtain ⟨B2, e12⟩ := O2
  refine lv_pop hx hb dl_776 rfl ?_
  refine lv_goto (tgt := 1191) hx hb dl_777 (by decide) ?_
  exact KE m2 H2 locs2 ws2 tys2 B2.1 B2.2 (hp2.trans hp1) hW2
theorem law_share (C0 : lX p s m meth c b L xs adK adV) {mm : dM} {H : Heap} {locs : List Loc} {ws : va_W} {tys : List (ClassId × FieldType)} {ls : Array Slot} {ax am cs sl : Nat} (hO : Ok mm) (hT : Rf mm) (hW : lWc D s mm H locs ws tys) (hax : (ws.map Prod.fst)[0]? = some ax) (ham : (ws.map Prod.fst)[70]? = some am) (hl : lv_has ls 4 [(0, .ref b), (1, .ref ax), (2, .ref am), (3, .int i)]) (hi : 0 ≤ i.toInt ∧ i.toInt + 6 ≤ L ∧ L ≤ 3072) (hcs : cs ≤ 600000) (hsl : sl ≤ 7302250) (KE : ∀ (m2 : dM) (H2 : Heap) (locs2 : List Loc) (ws2 : va_W) (tys2 : List (ClassId × FieldType)), Ok m2 → Rf m2 → ws2.map Prod.fst = ws.map Prod.fst → lWc D s m2 H2 locs2 ws2 tys2 → W p l e room_1 s m #[Value.ref b] below meth c H2 locs2 cs sl Q (F0 m 1191 ls [])) : W p l e room_1 s m #[Value.ref b] below meth c H locs cs sl Q (F0 m 780 ls []) := by
  obtain ⟨⟨hx, hb, -, -, -, -, -, -, -, -⟩, -, -⟩ := id C0
  refine lv_aload_n hx hb dl_780 rfl (lv_at hl 1 rfl) ?_
  refine law_arg (k := 1) C0 hW.2.2.2.1 hl hi (by decide) dl_781 dl_782 dl_783 dl_784 dl_785 ?_
  refine law_arg (k := 2) C0 hW.2.2.2.1 hl hi (by decide) dl_786 dl_787 dl_788 dl_789 dl_790 ?_
  refine law_callC (N := tM267) (Y := tY267) (mm := mm) (Qm := fun r m' => Md (fun H S P => (aShr H S (xs (i + Int32.ofInt ((1 : Nat) : Int)).toNatClampNeg) (xs (i + Int32.ofInt ((2 : Nat) : Int)).toNatClampNeg), S, P)) r m') (as := [.inl (xs (i + Int32.ofInt ((1 : Nat) : Int)).toNatClampNeg), .inl (xs (i + Int32.ofInt ((2 : Nat) : Int)).toNatClampNeg)]) (vs := [.int (xs (i + Int32.ofInt ((1 : Nat) : Int)).toNatClampNeg), .int (xs (i + Int32.ofInt ((2 : Nat) : Int)).toNatClampNeg)]) (rest := []) C0 hW hl.1 (w1_share ⟨hO, hT⟩) (nn := 1) rfl rfl (Nat.le_of_ble_eq_true rfl) rfl rfl rfl rfl rfl (kIs_ok (c := 5120) (by decide +kernel)) (kIs_ok (c := 5121) (by decide +kernel)) (kIs_ok (c := 5122) (by decide +kernel)) (d0 := 11) rfl ⟨_, rfl⟩ hax ⟨rfl, ⟨rfl, trivial⟩⟩ (Nat.le_of_ble_eq_true rfl) hcs hsl dl_791 (fun r1 m1 H1 locs1 ws1 tys1 O1 hp1 hW1 => ?_)
  refine lv_pop hx hb dl_794 rfl ?_
  refine lv_aload_n hx hb dl_795 rfl (lv_at hl 2 rfl) ?_
  refine law_arg (k := 1) C0 hW1.2.2.2.1 hl hi (by decide) dl_796 dl_797 dl_798 dl_799 dl_800 ?_
  refine law_arg (k := 2) C0 hW1.2.2.2.1 hl hi (by decide) dl_801 dl_802 dl_803 dl_804 dl_805 ?_
  refine law_callC (N := tM97) (Y := tY97) (mm := m1) (Qm := fun r m' => Bt m' ∧ r1 = r) (as := [.inl (xs (i + Int32.ofInt ((1 : Nat) : Int)).toNatClampNeg), .inl (xs (i + Int32.ofInt ((2 : Nat) : Int)).toNatClampNeg)]) (vs := [.int (xs (i + Int32.ofInt ((1 : Nat) : Int)).toNatClampNeg), .int (xs (i + Int32.ofInt ((2 : Nat) : Int)).toNatClampNeg)]) (rest := []) C0 hW1 hl.1 (w2_share O1) (nn := 0) rfl rfl (Nat.le_of_ble_eq_true rfl) rfl rfl rfl rfl rfl (kIs_ok (c := 8111) (by decide +kernel)) (kIs_ok (c := 8112) (by decide +kernel)) (kIs_ok (c := 8113) (by decide +kernel)) (d0 := 12) rfl ⟨_, rfl⟩ (by rw [hp1]; exact ham) ⟨rfl, ⟨rfl, trivial⟩⟩ (Nat.le_of_ble_eq_true rfl) hcs hsl dl_806 (fun r2 m2 H2 locs2 ws2 tys2 O2 hp2 hW2 => ?_)
  obtain ⟨B2, e12⟩ := O2
  refine lv_pop hx hb dl_809 rfl ?_
  refine lv_goto (tgt := 1191) hx hb dl_810 (by decide) ?_
  exact KE m2 H2 locs2 ws2 tys2 B2.1 B2.2 (hp2.trans hp1) hW2
theorem law_without (C0 : lX p s m meth c b L xs adK adV) {mm : dM} {H : Heap} {locs : List Loc} {ws : va_W} {tys : List (ClassId × FieldType)} {ls : Array Slot} {ax am cs sl : Nat} (hO : Ok mm) (hT : Rf mm) (hW : lWc D s mm H locs ws tys) (hax : (ws.map Prod.fst)[0]? = some ax) (ham : (ws.map Prod.fst)[70]? = some am) (hl : lv_has ls 4 [(0, .ref b), (1, .ref ax), (2, .ref am), (3, .int i)]) (hi : 0 ≤ i.toInt ∧ i.toInt + 6 ≤ L ∧ L ≤ 3072) (hcs : cs ≤ 600000) (hsl : sl ≤ 7302250) (KE : ∀ (m2 : dM) (H2 : Heap) (locs2 : List Loc) (ws2 : va_W) (tys2 : List (ClassId × FieldType)), Ok m2 → Rf m2 → ws2.map Prod.fst = ws.map Prod.fst → lWc D s m2 H2 locs2 ws2 tys2 → W p l e room_1 s m #[Value.ref b] below meth c H2 locs2 cs sl Q (F0 m 1191 ls [])) : W p l e room_1 s m #[Value.ref b] below meth c H locs cs sl Q (F0 m 813 ls []) := by
  obtain ⟨⟨hx, hb, -, -, -, -, -, -, -, -⟩, -, -⟩ := id C0
  refine lv_aload_n hx hb dl_813 rfl (lv_at hl 1 rfl) ?_
  refine law_arg (k := 1) C0 hW.2.2.2.1 hl hi (by decide) dl_814 dl_815 dl_816 dl_817 dl_818 ?_
  refine law_callC (N := tM268) (Y := tY268) (mm := mm) (Qm := fun r m' => Md (fun H S P => (aWo H S (xs (i + Int32.ofInt ((1 : Nat) : Int)).toNatClampNeg), S, P)) r m') (as := [.inl (xs (i + Int32.ofInt ((1 : Nat) : Int)).toNatClampNeg)]) (vs := [.int (xs (i + Int32.ofInt ((1 : Nat) : Int)).toNatClampNeg)]) (rest := []) C0 hW hl.1 (w1_without ⟨hO, hT⟩) (nn := 0) rfl rfl (Nat.le_of_ble_eq_true rfl) rfl rfl rfl rfl rfl (kIs_ok (c := 5124) (by decide +kernel)) (kIs_ok (c := 5125) (by decide +kernel)) (kIs_ok (c := 5126) (by decide +kernel)) (d0 := 11) rfl ⟨_, rfl⟩ hax ⟨rfl, trivial⟩ (Nat.le_of_ble_eq_true rfl) hcs hsl dl_819 (fun r1 m1 H1 locs1 ws1 tys1 O1 hp1 hW1 => ?_)
  refine lv_pop hx hb dl_822 rfl ?_
  refine lv_aload_n hx hb dl_823 rfl (lv_at hl 2 rfl) ?_
  refine law_arg (k := 1) C0 hW1.2.2.2.1 hl hi (by decide) dl_824 dl_825 dl_826 dl_827 dl_828 ?_
  refine law_callC (N := tM99) (Y := tY99) (mm := m1) (Qm := fun r m' => Bt m' ∧ r1 = r) (as := [.inl (xs (i + Int32.ofInt ((1 : Nat) : Int)).toNatClampNeg)]) (vs := [.int (xs (i + Int32.ofInt ((1 : Nat) : Int)).toNatClampNeg)]) (rest := []) C0 hW1 hl.1 (w2_without O1) (nn := 0) rfl rfl (Nat.le_of_ble_eq_true rfl) rfl rfl rfl rfl rfl (kIs_ok (c := 8115) (by decide +kernel)) (kIs_ok (c := 8116) (by decide +kernel)) (kIs_ok (c := 8117) (by decide +kernel)) (d0 := 12) rfl ⟨_, rfl⟩ (by rw [hp1]; exact ham) ⟨rfl, trivial⟩ (Nat.le_of_ble_eq_true rfl) hcs hsl dl_829 (fun r2 m2 H2 locs2 ws2 tys2 O2 hp2 hW2 => ?_)
  obtain ⟨B2, e12⟩ := O2
  refine lv_pop hx hb dl_832 rfl ?_
  refine lv_goto (tgt := 1191) hx hb dl_833 (by decide) ?_
  exact KE m2 H2 locs2 ws2 tys2 B2.1 B2.2 (hp2.trans hp1) hW2
theorem law_needed (C0 : lX p s m meth c b L xs adK adV) {mm : dM} {H : Heap} {locs : List Loc} {ws : va_W} {tys : List (ClassId × FieldType)} {ls : Array Slot} {ax am cs sl : Nat} (hO : Ok mm) (hT : Rf mm) (hW : lWc D s mm H locs ws tys) (hax : (ws.map Prod.fst)[0]? = some ax) (ham : (ws.map Prod.fst)[70]? = some am) (hl : lv_has ls 4 [(0, .ref b), (1, .ref ax), (2, .ref am), (3, .int i)]) (hi : 0 ≤ i.toInt ∧ i.toInt + 6 ≤ L ∧ L ≤ 3072) (hcs : cs ≤ 600000) (hsl : sl ≤ 7302250) (KE : ∀ (m2 : dM) (H2 : Heap) (locs2 : List Loc) (ws2 : va_W) (tys2 : List (ClassId × FieldType)), Ok m2 → Rf m2 → ws2.map Prod.fst = ws.map Prod.fst → lWc D s m2 H2 locs2 ws2 tys2 → W p l e room_1 s m #[Value.ref b] below meth c H2 locs2 cs sl Q (F0 m 1191 ls [])) : W p l e room_1 s m #[Value.ref b] below meth c H locs cs sl Q (F0 m 836 ls []) := by
  obtain ⟨⟨hx, hb, -, -, -, -, -, -, -, -⟩, -, -⟩ := id C0
  refine lv_aload_n hx hb dl_836 rfl (lv_at hl 1 rfl) ?_
  refine law_callC (N := tM269) (Y := tY269) (mm := mm) (Qm := fun r m' => Md (fun H S P => (bs (ndp H S) (hoW H), S, P)) r m') (as := []) (vs := []) (rest := []) C0 hW hl.1 (w1_needed ⟨hO, hT⟩) (nn := 3) rfl rfl (Nat.le_of_ble_eq_true rfl) rfl rfl rfl rfl rfl (kIs_ok (c := 5133) (by decide +kernel)) (kIs_ok (c := 5134) (by decide +kernel)) (kIs_ok (c := 5135) (by decide +kernel)) (d0 := 11) rfl ⟨_, rfl⟩ hax trivial (Nat.le_of_ble_eq_true rfl) hcs hsl dl_837 (fun r1 m1 H1 locs1 ws1 tys1 O1 hp1 hW1 => ?_)
  refine lv_pop hx hb dl_840 rfl ?_
  refine lv_aload_n hx hb dl_841 rfl (lv_at hl 2 rfl) ?_
  refine law_callC (N := tM100) (Y := tY100) (mm := m1) (Qm := fun r m' => Bt m' ∧ r1 = r) (as := []) (vs := []) (rest := []) C0 hW1 hl.1 (w2_needed O1) (nn := 3) rfl rfl (Nat.le_of_ble_eq_true rfl) rfl rfl rfl rfl rfl (kIs_ok (c := 8127) (by decide +kernel)) (kIs_ok (c := 8128) (by decide +kernel)) (kIs_ok (c := 8129) (by decide +kernel)) (d0 := 12) rfl ⟨_, rfl⟩ (by rw [hp1]; exact ham) trivial (Nat.le_of_ble_eq_true rfl) hcs hsl dl_842 (fun r2 m2 H2 locs2 ws2 tys2 O2 hp2 hW2 => ?_)
  obtain ⟨B2, e12⟩ := O2
  refine lv_pop hx hb dl_845 rfl ?_
  refine lv_goto (tgt := 1191) hx hb dl_846 (by decide) ?_
  exact KE m2 H2 locs2 ws2 tys2 B2.1 B2.2 (hp2.trans hp1) hW2
theorem law_hottest (C0 : lX p s m meth c b L xs adK adV) {mm : dM} {H : Heap} {locs : List Loc} {ws : va_W} {tys : List (ClassId × FieldType)} {ls : Array Slot} {ax am cs sl : Nat} (hO : Ok mm) (hT : Rf mm) (hW : lWc D s mm H locs ws tys) (hax : (ws.map Prod.fst)[0]? = some ax) (ham : (ws.map Prod.fst)[70]? = some am) (hl : lv_has ls 4 [(0, .ref b), (1, .ref ax), (2, .ref am), (3, .int i)]) (hi : 0 ≤ i.toInt ∧ i.toInt + 6 ≤ L ∧ L ≤ 3072) (hcs : cs ≤ 600000) (hsl : sl ≤ 7302250) (KE : ∀ (m2 : dM) (H2 : Heap) (locs2 : List Loc) (ws2 : va_W) (tys2 : List (ClassId × FieldType)), Ok m2 → Rf m2 → ws2.map Prod.fst = ws.map Prod.fst → lWc D s m2 H2 locs2 ws2 tys2 → W p l e room_1 s m #[Value.ref b] below meth c H2 locs2 cs sl Q (F0 m 1191 ls [])) : W p l e room_1 s m #[Value.ref b] below meth c H locs cs sl Q (F0 m 849 ls []) := by
  obtain ⟨⟨hx, hb, -, -, -, -, -, -, -, -⟩, -, -⟩ := id C0
  refine lv_aload_n hx hb dl_849 rfl (lv_at hl 1 rfl) ?_
  refine law_arg (k := 1) C0 hW.2.2.2.1 hl hi (by decide) dl_850 dl_851 dl_852 dl_853 dl_854 ?_
  refine law_callC (N := tM270) (Y := tY270) (mm := mm) (Qm := fun r m' => Md (fun H S P => (aHot H S (xs (i + Int32.ofInt ((1 : Nat) : Int)).toNatClampNeg), S, P)) r m') (as := [.inl (xs (i + Int32.ofInt ((1 : Nat) : Int)).toNatClampNeg)]) (vs := [.int (xs (i + Int32.ofInt ((1 : Nat) : Int)).toNatClampNeg)]) (rest := []) C0 hW hl.1 (w1_hottest ⟨hO, hT⟩) (nn := 4) rfl rfl (Nat.le_of_ble_eq_true rfl) rfl rfl rfl rfl rfl (kIs_ok (c := 5137) (by decide +kernel)) (kIs_ok (c := 5138) (by decide +kernel)) (kIs_ok (c := 5139) (by decide +kernel)) (d0 := 11) rfl ⟨_, rfl⟩ hax ⟨rfl, trivial⟩ (Nat.le_of_ble_eq_true rfl) hcs hsl dl_855 (fun r1 m1 H1 locs1 ws1 tys1 O1 hp1 hW1 => ?_)
  refine lv_pop hx hb dl_858 rfl ?_
  refine lv_aload_n hx hb dl_859 rfl (lv_at hl 2 rfl) ?_
  refine law_arg (k := 1) C0 hW1.2.2.2.1 hl hi (by decide) dl_860 dl_861 dl_862 dl_863 dl_864 ?_
  refine law_callC (N := tM101) (Y := tY101) (mm := m1) (Qm := fun r m' => Bt m' ∧ r1 = r) (as := [.inl (xs (i + Int32.ofInt ((1 : Nat) : Int)).toNatClampNeg)]) (vs := [.int (xs (i + Int32.ofInt ((1 : Nat) : Int)).toNatClampNeg)]) (rest := []) C0 hW1 hl.1 (w2_hottest O1) (nn := 5) rfl rfl (Nat.le_of_ble_eq_true rfl) rfl rfl rfl rfl rfl (kIs_ok (c := 8131) (by decide +kernel)) (kIs_ok (c := 8132) (by decide +kernel)) (kIs_ok (c := 8133) (by decide +kernel)) (d0 := 12) rfl ⟨_, rfl⟩ (by rw [hp1]; exact ham) ⟨rfl, trivial⟩ (Nat.le_of_ble_eq_true rfl) hcs hsl dl_865 (fun r2 m2 H2 locs2 ws2 tys2 O2 hp2 hW2 => ?_)
  obtain ⟨B2, e12⟩ := O2
  refine lv_pop hx hb dl_868 rfl ?_
  refine lv_goto (tgt := 1191) hx hb dl_869 (by decide) ?_
  exact KE m2 H2 locs2 ws2 tys2 B2.1 B2.2 (hp2.trans hp1) hW2
theorem law_clash (C0 : lX p s m meth c b L xs adK adV) {mm : dM} {H : Heap} {locs : List Loc} {ws : va_W} {tys : List (ClassId × FieldType)} {ls : Array Slot} {ax am cs sl : Nat} (hO : Ok mm) (hT : Rf mm) (hW : lWc D s mm H locs ws tys) (hax : (ws.map Prod.fst)[0]? = some ax) (ham : (ws.map Prod.fst)[70]? = some am) (hl : lv_has ls 4 [(0, .ref b), (1, .ref ax), (2, .ref am), (3, .int i)]) (hi : 0 ≤ i.toInt ∧ i.toInt + 6 ≤ L ∧ L ≤ 3072) (hcs : cs ≤ 600000) (hsl : sl ≤ 7302250) (KE : ∀ (m2 : dM) (H2 : Heap) (locs2 : List Loc) (ws2 : va_W) (tys2 : List (ClassId × FieldType)), Ok m2 → Rf m2 → ws2.map Prod.fst = ws.map Prod.fst → lWc D s m2 H2 locs2 ws2 tys2 → W p l e room_1 s m #[Value.ref b] below meth c H2 locs2 cs sl Q (F0 m 1191 ls [])) : W p l e room_1 s m #[Value.ref b] below meth c H locs cs sl Q (F0 m 872 ls []) := by
  obtain ⟨⟨hx, hb, -, -, -, -, -, -, -, -⟩, -, -⟩ := id C0
  refine lv_aload_n hx hb dl_872 rfl (lv_at hl 1 rfl) ?_
  refine law_arg (k := 1) C0 hW.2.2.2.1 hl hi (by decide) dl_873 dl_874 dl_875 dl_876 dl_877 ?_
  refine law_arg (k := 2) C0 hW.2.2.2.1 hl hi (by decide) dl_878 dl_879 dl_880 dl_881 dl_882 ?_
  refine law_callC (N := tM271) (Y := tY271) (mm := mm) (Qm := fun r m' => Md (fun H S P => (aCls H S (xs (i + Int32.ofInt ((1 : Nat) : Int)).toNatClampNeg) (xs (i + Int32.ofInt ((2 : Nat) : Int)).toNatClampNeg), S, P)) r m') (as := [.inl (xs (i + Int32.ofInt ((1 : Nat) : Int)).toNatClampNeg), .inl (xs (i + Int32.ofInt ((2 : Nat) : Int)).toNatClampNeg)]) (vs := [.int (xs (i + Int32.ofInt ((1 : Nat) : Int)).toNatClampNeg), .int (xs (i + Int32.ofInt ((2 : Nat) : Int)).toNatClampNeg)]) (rest := []) C0 hW hl.1 (w1_clash ⟨hO, hT⟩) (nn := 0) rfl rfl (Nat.le_of_ble_eq_true rfl) rfl rfl rfl rfl rfl (kIs_ok (c := 5142) (by decide +kernel)) (kIs_ok (c := 5143) (by decide +kernel)) (kIs_ok (c := 5144) (by decide +kernel)) (d0 := 11) rfl ⟨_, rfl⟩ hax ⟨rfl, ⟨rfl, trivial⟩⟩ (Nat.le_of_ble_eq_true rfl) hcs hsl dl_883 (fun r1 m1 H1 locs1 ws1 tys1 O1 hp1 hW1 => ?_)
  refine lv_pop hx hb dl_886 rfl ?_
  refine lv_aload_n hx hb dl_887 rfl (lv_at hl 2 rfl) ?_
  refine law_arg (k := 1) C0 hW1.2.2.2.1 hl hi (by decide) dl_888 dl_889 dl_890 dl_891 dl_892 ?_
  refine law_arg (k := 2) C0 hW1.2.2.2.1 hl hi (by decide) dl_893 dl_894 dl_895 dl_896 dl_897 ?_
  refine law_callC (N := tM102) (Y := tY102) (mm := m1) (Qm := fun r m' => Bt m' ∧ r1 = r) (as := [.inl (xs (i + Int32.ofInt ((1 : Nat) : Int)).toNatClampNeg), .inl (xs (i + Int32.ofInt ((2 : Nat) : Int)).toNatClampNeg)]) (vs := [.int (xs (i + Int32.ofInt ((1 : Nat) : Int)).toNatClampNeg), .int (xs (i + Int32.ofInt ((2 : Nat) : Int)).toNatClampNeg)]) (rest := []) C0 hW1 hl.1 (w2_clash O1) (nn := 1) rfl rfl (Nat.le_of_ble_eq_true rfl) rfl rfl rfl rfl rfl (kIs_ok (c := 8135) (by decide +kernel)) (kIs_ok (c := 8136) (by decide +kernel)) (kIs_ok (c := 8137) (by decide +kernel)) (d0 := 12) rfl ⟨_, rfl⟩ (by rw [hp1]; exact ham) ⟨rfl, ⟨rfl, trivial⟩⟩ (Nat.le_of_ble_eq_true rfl) hcs hsl dl_898 (fun r2 m2 H2 locs2 ws2 tys2 O2 hp2 hW2 => ?_)
  obtain ⟨B2, e12⟩ := O2
  refine lv_pop hx hb dl_901 rfl ?_
  refine lv_goto (tgt := 1191) hx hb dl_902 (by decide) ?_
  exact KE m2 H2 locs2 ws2 tys2 B2.1 B2.2 (hp2.trans hp1) hW2
theorem law_then (C0 : lX p s m meth c b L xs adK adV) {mm : dM} {H : Heap} {locs : List Loc} {ws : va_W} {tys : List (ClassId × FieldType)} {ls : Array Slot} {ax am cs sl : Nat} (hO : Ok mm) (hT : Rf mm) (hW : lWc D s mm H locs ws tys) (hax : (ws.map Prod.fst)[0]? = some ax) (ham : (ws.map Prod.fst)[70]? = some am) (hl : lv_has ls 4 [(0, .ref b), (1, .ref ax), (2, .ref am), (3, .int i)]) (hi : 0 ≤ i.toInt ∧ i.toInt + 6 ≤ L ∧ L ≤ 3072) (hcs : cs ≤ 600000) (hsl : sl ≤ 7302250) (KE : ∀ (m2 : dM) (H2 : Heap) (locs2 : List Loc) (ws2 : va_W) (tys2 : List (ClassId × FieldType)), Ok m2 → Rf m2 → ws2.map Prod.fst = ws.map Prod.fst → lWc D s m2 H2 locs2 ws2 tys2 → W p l e room_1 s m #[Value.ref b] below meth c H2 locs2 cs sl Q (F0 m 1191 ls [])) : W p l e room_1 s m #[Value.ref b] below meth c H locs cs sl Q (F0 m 905 ls []) := by
  obtain ⟨⟨hx, hb, -, -, -, -, -, -, -, -⟩, -, -⟩ := id C0
  refine lv_aload_n hx hb dl_905 rfl (lv_at hl 1 rfl) ?_
  refine law_arg (k := 1) C0 hW.2.2.2.1 hl hi (by decide) dl_906 dl_907 dl_908 dl_909 dl_910 ?_
  refine law_arg (k := 2) C0 hW.2.2.2.1 hl hi (by decide) dl_911 dl_912 dl_913 dl_914 dl_915 ?_
  refine law_callC (N := tM272) (Y := tY272) (mm := mm) (Qm := fun r m' => Md (fun H S P => (aThn H S (xs (i + Int32.ofInt ((1 : Nat) : Int)).toNatClampNeg) (xs (i + Int32.ofInt ((2 : Nat) : Int)).toNatClampNeg), S, P)) r m') (as := [.inl (xs (i + Int32.ofInt ((1 : Nat) : Int)).toNatClampNeg), .inl (xs (i + Int32.ofInt ((2 : Nat) : Int)).toNatClampNeg)]) (vs := [.int (xs (i + Int32.ofInt ((1 : Nat) : Int)).toNatClampNeg), .int (xs (i + Int32.ofInt ((2 : Nat) : Int)).toNatClampNeg)]) (rest := []) C0 hW hl.1 (w1_then ⟨hO, hT⟩) (nn := 1) rfl rfl (Nat.le_of_ble_eq_true rfl) rfl rfl rfl rfl rfl (kIs_ok (c := 5151) (by decide +kernel)) (kIs_ok (c := 5152) (by decide +kernel)) (kIs_ok (c := 5153) (by decide +kernel)) (d0 := 11) rfl ⟨_, rfl⟩ hax ⟨rfl, ⟨rfl, trivial⟩⟩ (Nat.le_of_ble_eq_true rfl) hcs hsl dl_916 (fun r1 m1 H1 locs1 ws1 tys1 O1 hp1 hW1 => ?_)
  refine lv_pop hx hb dl_919 rfl ?_
  refine lv_aload_n hx hb dl_920 rfl (lv_at hl 2 rfl) ?_
  refine law_arg (k := 1) C0 hW1.2.2.2.1 hl hi (by decide) dl_921 dl_922 dl_923 dl_924 dl_925 ?_
  refine law_arg (k := 2) C0 hW1.2.2.2.1 hl hi (by decide) dl_926 dl_927 dl_928 dl_929 dl_930 ?_
  refine law_callC (N := tM103) (Y := tY103) (mm := m1) (Qm := fun r m' => Bt m' ∧ r1 = r) (as := [.inl (xs (i + Int32.ofInt ((1 : Nat) : Int)).toNatClampNeg), .inl (xs (i + Int32.ofInt ((2 : Nat) : Int)).toNatClampNeg)]) (vs := [.int (xs (i + Int32.ofInt ((1 : Nat) : Int)).toNatClampNeg), .int (xs (i + Int32.ofInt ((2 : Nat) : Int)).toNatClampNeg)]) (rest := []) C0 hW1 hl.1 (w2_then O1) (nn := 2) rfl rfl (Nat.le_of_ble_eq_true rfl) rfl rfl rfl rfl rfl (kIs_ok (c := 8139) (by decide +kernel)) (kIs_ok (c := 8140) (by decide +kernel)) (kIs_ok (c := 8141) (by decide +kernel)) (d0 := 12) rfl ⟨_, rfl⟩ (by rw [hp1]; exact ham) ⟨rfl, ⟨rfl, trivial⟩⟩ (Nat.le_of_ble_eq_true rfl) hcs hsl dl_931 (fun r2 m2 H2 locs2 ws2 tys2 O2 hp2 hW2 => ?_)
  obtain ⟨B2, e12⟩ := O2
  refine lv_pop hx hb dl_934 rfl ?_
  refine lv_goto (tgt := 1191) hx hb dl_935 (by decide) ?_
  exact KE m2 H2 locs2 ws2 tys2 B2.1 B2.2 (hp2.trans hp1) hW2
theorem law_litIn (C0 : lX p s m meth c b L xs adK adV) {mm : dM} {H : Heap} {locs : List Loc} {ws : va_W} {tys : List (ClassId × FieldType)} {ls : Array Slot} {ax am cs sl : Nat} (hO : Ok mm) (hT : Rf mm) (hW : lWc D s mm H locs ws tys) (hax : (ws.map Prod.fst)[0]? = some ax) (ham : (ws.map Prod.fst)[70]? = some am) (hl : lv_has ls 4 [(0, .ref b), (1, .ref ax), (2, .ref am), (3, .int i)]) (hi : 0 ≤ i.toInt ∧ i.toInt + 6 ≤ L ∧ L ≤ 3072) (hcs : cs ≤ 600000) (hsl : sl ≤ 7302250) (KE : ∀ (m2 : dM) (H2 : Heap) (locs2 : List Loc) (ws2 : va_W) (tys2 : List (ClassId × FieldType)), Ok m2 → Rf m2 → ws2.map Prod.fst = ws.map Prod.fst → lWc D s m2 H2 locs2 ws2 tys2 → W p l e room_1 s m #[Value.ref b] below meth c H2 locs2 cs sl Q (F0 m 1191 ls [])) : W p l e room_1 s m #[Value.ref b] below meth c H locs cs sl Q (F0 m 938 ls []) := by
  obtain ⟨⟨hx, hb, -, -, -, -, -, -, -, -⟩, -, -⟩ := id C0
  refine lv_aload_n hx hb dl_938 rfl (lv_at hl 1 rfl) ?_
  refine law_arg (k := 1) C0 hW.2.2.2.1 hl hi (by decide) dl_939 dl_940 dl_941 dl_942 dl_943 ?_
  refine law_arg (k := 2) C0 hW.2.2.2.1 hl hi (by decide) dl_944 dl_945 dl_946 dl_947 dl_948 ?_
  refine law_callC (N := tM273) (Y := tY273) (mm := mm) (Qm := fun r m' => Md (fun H S P => (aLin H S (xs (i + Int32.ofInt ((1 : Nat) : Int)).toNatClampNeg) (xs (i + Int32.ofInt ((2 : Nat) : Int)).toNatClampNeg), S, P)) r m') (as := [.inl (xs (i + Int32.ofInt ((1 : Nat) : Int)).toNatClampNeg), .inl (xs (i + Int32.ofInt ((2 : Nat) : Int)).toNatClampNeg)]) (vs := [.int (xs (i + Int32.ofInt ((1 : Nat) : Int)).toNatClampNeg), .int (xs (i + Int32.ofInt ((2 : Nat) : Int)).toNatClampNeg)]) (rest := []) C0 hW hl.1 (w1_litIn ⟨hO, hT⟩) (nn := 0) rfl rfl (Nat.le_of_ble_eq_true rfl) rfl rfl rfl rfl rfl (kIs_ok (c := 5160) (by decide +kernel)) (kIs_ok (c := 5161) (by decide +kernel)) (kIs_ok (c := 5162) (by decide +kernel)) (d0 := 11) rfl ⟨_, rfl⟩ hax ⟨rfl, ⟨rfl, trivial⟩⟩ (Nat.le_of_ble_eq_true rfl) hcs hsl dl_949 (fun r1 m1 H1 locs1 ws1 tys1 O1 hp1 hW1 => ?_)
  refine lv_pop hx hb dl_952 rfl ?_
  refine lv_aload_n hx hb dl_953 rfl (lv_at hl 2 rfl) ?_
  refine law_arg (k := 1) C0 hW1.2.2.2.1 hl hi (by decide) dl_954 dl_955 dl_956 dl_957 dl_958 ?_
  refine law_arg (k := 2) C0 hW1.2.2.2.1 hl hi (by decide) dl_959 dl_960 dl_961 dl_962 dl_963 ?_
  refine law_callC (N := tM104) (Y := tY104) (mm := m1) (Qm := fun r m' => Bt m' ∧ r1 = r) (as := [.inl (xs (i + Int32.ofInt ((1 : Nat) : Int)).toNatClampNeg), .inl (xs (i + Int32.ofInt ((2 : Nat) : Int)).toNatClampNeg)]) (vs := [.int (xs (i + Int32.ofInt ((1 : Nat) : Int)).toNatClampNeg), .int (xs (i + Int32.ofInt ((2 : Nat) : Int)).toNatClampNeg)]) (rest := []) C0 hW1 hl.1 (w2_litIn O1) (nn := 0) rfl rfl (Nat.le_of_ble_eq_true rfl) rfl rfl rfl rfl rfl (kIs_ok (c := 8143) (by decide +kernel)) (kIs_ok (c := 8144) (by decide +kernel)) (kIs_ok (c := 8145) (by decide +kernel)) (d0 := 12) rfl ⟨_, rfl⟩ (by rw [hp1]; exact ham) ⟨rfl, ⟨rfl, trivial⟩⟩ (Nat.le_of_ble_eq_true rfl) hcs hsl dl_964 (fun r2 m2 H2 locs2 ws2 tys2 O2 hp2 hW2 => ?_)
  obtain ⟨B2, e12⟩ := O2
  refine lv_pop hx hb dl_967 rfl ?_
  refine lv_goto (tgt := 1191) hx hb dl_968 (by decide) ?_
  exact KE m2 H2 locs2 ws2 tys2 B2.1 B2.2 (hp2.trans hp1) hW2
theorem law_year (C0 : lX p s m meth c b L xs adK adV) {mm : dM} {H : Heap} {locs : List Loc} {ws : va_W} {tys : List (ClassId × FieldType)} {ls : Array Slot} {ax am cs sl : Nat} (hO : Ok mm) (hT : Rf mm) (hW : lWc D s mm H locs ws tys) (hax : (ws.map Prod.fst)[0]? = some ax) (ham : (ws.map Prod.fst)[70]? = some am) (hl : lv_has ls 4 [(0, .ref b), (1, .ref ax), (2, .ref am), (3, .int i)]) (hi : 0 ≤ i.toInt ∧ i.toInt + 6 ≤ L ∧ L ≤ 3072) (hcs : cs ≤ 600000) (hsl : sl ≤ 7302250) (KE : ∀ (m2 : dM) (H2 : Heap) (locs2 : List Loc) (ws2 : va_W) (tys2 : List (ClassId × FieldType)), Ok m2 → Rf m2 → ws2.map Prod.fst = ws.map Prod.fst → lWc D s m2 H2 locs2 ws2 tys2 → W p l e room_1 s m #[Value.ref b] below meth c H2 locs2 cs sl Q (F0 m 1191 ls [])) : W p l e room_1 s m #[Value.ref b] below meth c H locs cs sl Q (F0 m 971 ls []) := by
  obtain ⟨⟨hx, hb, -, -, -, -, -, -, -, -⟩, -, -⟩ := id C0
  refine lv_aload_n hx hb dl_971 rfl (lv_at hl 1 rfl) ?_
  refine law_arg (k := 1) C0 hW.2.2.2.1 hl hi (by decide) dl_972 dl_973 dl_974 dl_975 dl_976 ?_
  refine law_arg (k := 2) C0 hW.2.2.2.1 hl hi (by decide) dl_977 dl_978 dl_979 dl_980 dl_981 ?_
  refine law_callC (N := tM274) (Y := tY274) (mm := mm) (Qm := fun r m' => Md (fun H S P => (aYr H S (xs (i + Int32.ofInt ((1 : Nat) : Int)).toNatClampNeg) (xs (i + Int32.ofInt ((2 : Nat) : Int)).toNatClampNeg), S, P)) r m') (as := [.inl (xs (i + Int32.ofInt ((1 : Nat) : Int)).toNatClampNeg), .inl (xs (i + Int32.ofInt ((2 : Nat) : Int)).toNatClampNeg)]) (vs := [.int (xs (i + Int32.ofInt ((1 : Nat) : Int)).toNatClampNeg), .int (xs (i + Int32.ofInt ((2 : Nat) : Int)).toNatClampNeg)]) (rest := []) C0 hW hl.1 (w1_year ⟨hO, hT⟩) (nn := 0) rfl rfl (Nat.le_of_ble_eq_true rfl) rfl rfl rfl rfl rfl (kIs_ok (c := 5164) (by decide +kernel)) (kIs_ok (c := 5165) (by decide +kernel)) (kIs_ok (c := 5166) (by decide +kernel)) (d0 := 11) rfl ⟨_, rfl⟩ hax ⟨rfl, ⟨rfl, trivial⟩⟩ (Nat.le_of_ble_eq_true rfl) hcs hsl dl_982 (fun r1 m1 H1 locs1 ws1 tys1 O1 hp1 hW1 => ?_)
  refine lv_pop hx hb dl_985 rfl ?_
  refine lv_aload_n hx hb dl_986 rfl (lv_at hl 2 rfl) ?_
  refine law_arg (k := 1) C0 hW1.2.2.2.1 hl hi (by decide) dl_987 dl_988 dl_989 dl_990 dl_991 ?_
  refine law_arg (k := 2) C0 hW1.2.2.2.1 hl hi (by decide) dl_992 dl_993 dl_994 dl_995 dl_996 ?_
  refine law_callC (N := tM105) (Y := tY105) (mm := m1) (Qm := fun r m' => Bt m' ∧ r1 = r) (as := [.inl (xs (i + Int32.ofInt ((1 : Nat) : Int)).toNatClampNeg), .inl (xs (i + Int32.ofInt ((2 : Nat) : Int)).toNatClampNeg)]) (vs := [.int (xs (i + Int32.ofInt ((1 : Nat) : Int)).toNatClampNeg), .int (xs (i + Int32.ofInt ((2 : Nat) : Int)).toNatClampNeg)]) (rest := []) C0 hW1 hl.1 (w2_year O1) (nn := 4) rfl rfl (Nat.le_of_ble_eq_true rfl) rfl rfl rfl rfl rfl (kIs_ok (c := 8147) (by decide +kernel)) (kIs_ok (c := 8148) (by decide +kernel)) (kIs_ok (c := 8149) (by decide +kernel)) (d0 := 12) rfl ⟨_, rfl⟩ (by rw [hp1]; exact ham) ⟨rfl, ⟨rfl, trivial⟩⟩ (Nat.le_of_ble_eq_true rfl) hcs hsl dl_997 (fun r2 m2 H2 locs2 ws2 tys2 O2 hp2 hW2 => ?_)
  obtain ⟨B2, e12⟩ := O2
  refine lv_pop hx hb dl_1000 rfl ?_
  refine lv_goto (tgt := 1191) hx hb dl_1001 (by decide) ?_
  exact KE m2 H2 locs2 ws2 tys2 B2.1 B2.2 (hp2.trans hp1) hW2
theorem law_tell0 (C0 : lX p s m meth c b L xs adK adV) (hz : xs (i + Int32.ofInt ((2 : Nat) : Int)).toNatClampNeg = 0) {mm : dM} {H : Heap} {locs : List Loc} {ws : va_W} {tys : List (ClassId × FieldType)} {ls : Array Slot} {ax am cs sl : Nat} (hO : Ok mm) (hT : Rf mm) (hW : lWc D s mm H locs ws tys) (hax : (ws.map Prod.fst)[0]? = some ax) (ham : (ws.map Prod.fst)[70]? = some am) (hl : lv_has ls 4 [(0, .ref b), (1, .ref ax), (2, .ref am), (3, .int i)]) (hi : 0 ≤ i.toInt ∧ i.toInt + 6 ≤ L ∧ L ≤ 3072) (hcs : cs ≤ 600000) (hsl : sl ≤ 7302250) (KE : ∀ (m2 : dM) (H2 : Heap) (locs2 : List Loc) (ws2 : va_W) (tys2 : List (ClassId × FieldType)), Ok m2 → Rf m2 → ws2.map Prod.fst = ws.map Prod.fst → lWc D s m2 H2 locs2 ws2 tys2 → W p l e room_1 s m #[Value.ref b] below meth c H2 locs2 cs sl Q (F0 m 1191 ls [])) : W p l e room_1 s m #[Value.ref b] below meth c H locs cs sl Q (F0 m 1004 ls []) := by
  obtain ⟨⟨hx, hb, -, -, -, -, -, -, -, -⟩, -, -⟩ := id C0
  refine lv_aload_n hx hb dl_1004 rfl (lv_at hl 1 rfl) ?_
  refine law_arg (k := 1) C0 hW.2.2.2.1 hl hi (by decide) dl_1005 dl_1006 dl_1007 dl_1008 dl_1009 ?_
  refine law_arg (k := 2) C0 hW.2.2.2.1 hl hi (by decide) dl_1010 dl_1011 dl_1012 dl_1013 dl_1014 ?_
  refine lv_if_eq (tgt := 1022) hx hb dl_1015 (by decide) (fun _ => ?_) (fun q => absurd hz q)
  refine lv_iconst (v := 0) hx hb dl_1022 (by decide) ?_
  refine law_callC (N := tM275) (Y := tY275) (mm := mm) (Qm := fun r m' => Mw (E11t (xs (i + Int32.ofInt ((1 : Nat) : Int)).toNatClampNeg) mm) mm r m') (as := [.inl (xs (i + Int32.ofInt ((1 : Nat) : Int)).toNatClampNeg), .inl ((0 : Int32))]) (vs := [.int (xs (i + Int32.ofInt ((1 : Nat) : Int)).toNatClampNeg), .int ((0 : Int32))]) (rest := []) C0 hW hl.1 (w1_tell ⟨hO, hT⟩ (by decide)) (nn := 0) rfl rfl (Nat.le_of_ble_eq_true rfl) rfl rfl rfl rfl rfl (kIs_ok (c := 5177) (by decide +kernel)) (kIs_ok (c := 5178) (by decide +kernel)) (kIs_ok (c := 5179) (by decide +kernel)) (d0 := 11) rfl ⟨_, rfl⟩ hax ⟨rfl, ⟨rfl, trivial⟩⟩ (Nat.le_of_ble_eq_true rfl) hcs hsl dl_1023 (fun r1 m1 H1 locs1 ws1 tys1 O1 hp1 hW1 => ?_)
  refine lv_pop hx hb dl_1026 rfl ?_
  refine lv_aload_n hx hb dl_1027 rfl (lv_at hl 2 rfl) ?_
  refine law_arg (k := 1) C0 hW1.2.2.2.1 hl hi (by decide) dl_1028 dl_1029 dl_1030 dl_1031 dl_1032 ?_
  refine law_arg (k := 2) C0 hW1.2.2.2.1 hl hi (by decide) dl_1033 dl_1034 dl_1035 dl_1036 dl_1037 ?_
  refine lv_if_eq (tgt := 1045) hx hb dl_1038 (by decide) (fun _ => ?_) (fun q => absurd hz q)
  refine lv_iconst (v := 0) hx hb dl_1045 (by decide) ?_
  refine law_callC (N := tM106) (Y := tY106) (mm := m1) (Qm := fun r m' => Bt m' ∧ r1 = r) (as := [.inl (xs (i + Int32.ofInt ((1 : Nat) : Int)).toNatClampNeg), .inl ((0 : Int32))]) (vs := [.int (xs (i + Int32.ofInt ((1 : Nat) : Int)).toNatClampNeg), .int ((0 : Int32))]) (rest := []) C0 hW1 hl.1 (w2_tell O1) (nn := 0) rfl rfl (Nat.le_of_ble_eq_true rfl) rfl rfl rfl rfl rfl (kIs_ok (c := 8151) (by decide +kernel)) (kIs_ok (c := 8152) (by decide +kernel)) (kIs_ok (c := 8153) (by decide +kernel)) (d0 := 12) rfl ⟨_, rfl⟩ (by rw [hp1]; exact ham) ⟨rfl, ⟨rfl, trivial⟩⟩ (Nat.le_of_ble_eq_true rfl) hcs hsl dl_1046 (fun r2 m2 H2 locs2 ws2 tys2 O2 hp2 hW2 => ?_)
  obtain ⟨B2, e12⟩ := O2
  refine lv_pop hx hb dl_1049 rfl ?_
  refine lv_goto (tgt := 1191) hx hb dl_1050 (by decide) ?_
  exact KE m2 H2 locs2 ws2 tys2 B2.1 B2.2 (hp2.trans hp1) hW2
theorem law_tell1 (C0 : lX p s m meth c b L xs adK adV) (hz : ¬ xs (i + Int32.ofInt ((2 : Nat) : Int)).toNatClampNeg = 0) {mm : dM} {H : Heap} {locs : List Loc} {ws : va_W} {tys : List (ClassId × FieldType)} {ls : Array Slot} {ax am cs sl : Nat} (hO : Ok mm) (hT : Rf mm) (hW : lWc D s mm H locs ws tys) (hax : (ws.map Prod.fst)[0]? = some ax) (ham : (ws.map Prod.fst)[70]? = some am) (hl : lv_has ls 4 [(0, .ref b), (1, .ref ax), (2, .ref am), (3, .int i)]) (hi : 0 ≤ i.toInt ∧ i.toInt + 6 ≤ L ∧ L ≤ 3072) (hcs : cs ≤ 600000) (hsl : sl ≤ 7302250) (KE : ∀ (m2 : dM) (H2 : Heap) (locs2 : List Loc) (ws2 : va_W) (tys2 : List (ClassId × FieldType)), Ok m2 → Rf m2 → ws2.map Prod.fst = ws.map Prod.fst → lWc D s m2 H2 locs2 ws2 tys2 → W p l e room_1 s m #[Value.ref b] below meth c H2 locs2 cs sl Q (F0 m 1191 ls [])) : W p l e room_1 s m #[Value.ref b] below meth c H locs cs sl Q (F0 m 1004 ls []) := by
  obtain ⟨⟨hx, hb, -, -, -, -, -, -, -, -⟩, -, -⟩ := id C0
  refine lv_aload_n hx hb dl_1004 rfl (lv_at hl 1 rfl) ?_
  refine law_arg (k := 1) C0 hW.2.2.2.1 hl hi (by decide) dl_1005 dl_1006 dl_1007 dl_1008 dl_1009 ?_
  refine law_arg (k := 2) C0 hW.2.2.2.1 hl hi (by decide) dl_1010 dl_1011 dl_1012 dl_1013 dl_1014 ?_
  refine lv_if_eq (tgt := 1022) hx hb dl_1015 (by decide) (fun q => absurd q hz) (fun _ => ?_)
  refine lv_iconst (v := 1) hx hb dl_1018 (by decide) ?_
  refine lv_goto (tgt := 1023) hx hb dl_1019 (by decide) ?_
  refine law_callC (N := tM275) (Y := tY275) (mm := mm) (Qm := fun r m' => Mw (E11t (xs (i + Int32.ofInt ((1 : Nat) : Int)).toNatClampNeg) mm) mm r m') (as := [.inl (xs (i + Int32.ofInt ((1 : Nat) : Int)).toNatClampNeg), .inl ((1 : Int32))]) (vs := [.int (xs (i + Int32.ofInt ((1 : Nat) : Int)).toNatClampNeg), .int ((1 : Int32))]) (rest := []) C0 hW hl.1 (w1_tell ⟨hO, hT⟩ (by decide)) (nn := 0) rfl rfl (Nat.le_of_ble_eq_true rfl) rfl rfl rfl rfl rfl (kIs_ok (c := 5177) (by decide +kernel)) (kIs_ok (c := 5178) (by decide +kernel)) (kIs_ok (c := 5179) (by decide +kernel)) (d0 := 11) rfl ⟨_, rfl⟩ hax ⟨rfl, ⟨rfl, trivial⟩⟩ (Nat.le_of_ble_eq_true rfl) hcs hsl dl_1023 (fun r1 m1 H1 locs1 ws1 tys1 O1 hp1 hW1 => ?_)
  refine lv_pop hx hb dl_1026 rfl ?_
  refine lv_aload_n hx hb dl_1027 rfl (lv_at hl 2 rfl) ?_
  refine law_arg (k := 1) C0 hW1.2.2.2.1 hl hi (by decide) dl_1028 dl_1029 dl_1030 dl_1031 dl_1032 ?_
  refine law_arg (k := 2) C0 hW1.2.2.2.1 hl hi (by decide) dl_1033 dl_1034 dl_1035 dl_1036 dl_1037 ?_
  refine lv_if_eq (tgt := 1045) hx hb dl_1038 (by decide) (fun q => absurd q hz) (fun _ => ?_)
  refine lv_iconst (v := 1) hx hb dl_1041 (by decide) ?_
  refine lv_goto (tgt := 1046) hx hb dl_1042 (by decide) ?_
  refine law_callC (N := tM106) (Y := tY106) (mm := m1) (Qm := fun r m' => Bt m' ∧ r1 = r) (as := [.inl (xs (i + Int32.ofInt ((1 : Nat) : Int)).toNatClampNeg), .inl ((1 : Int32))]) (vs := [.int (xs (i + Int32.ofInt ((1 : Nat) : Int)).toNatClampNeg), .int ((1 : Int32))]) (rest := []) C0 hW1 hl.1 (w2_tell O1) (nn := 0) rfl rfl (Nat.le_of_ble_eq_true rfl) rfl rfl rfl rfl rfl (kIs_ok (c := 8151) (by decide +kernel)) (kIs_ok (c := 8152) (by decide +kernel)) (kIs_ok (c := 8153) (by decide +kernel)) (d0 := 12) rfl ⟨_, rfl⟩ (by rw [hp1]; exact ham) ⟨rfl, ⟨rfl, trivial⟩⟩ (Nat.le_of_ble_eq_true rfl) hcs hsl dl_1046 (fun r2 m2 H2 locs2 ws2 tys2 O2 hp2 hW2 => ?_)
  obtain ⟨B2, e12⟩ := O2
  refine lv_pop hx hb dl_1049 rfl ?_
  refine lv_goto (tgt := 1191) hx hb dl_1050 (by decide) ?_
  exact KE m2 H2 locs2 ws2 tys2 B2.1 B2.2 (hp2.trans hp1) hW2
theorem law_forget (C0 : lX p s m meth c b L xs adK adV) {mm : dM} {H : Heap} {locs : List Loc} {ws : va_W} {tys : List (ClassId × FieldType)} {ls : Array Slot} {ax am cs sl : Nat} (hO : Ok mm) (hT : Rf mm) (hW : lWc D s mm H locs ws tys) (hax : (ws.map Prod.fst)[0]? = some ax) (ham : (ws.map Prod.fst)[70]? = some am) (hl : lv_has ls 4 [(0, .ref b), (1, .ref ax), (2, .ref am), (3, .int i)]) (hi : 0 ≤ i.toInt ∧ i.toInt + 6 ≤ L ∧ L ≤ 3072) (hcs : cs ≤ 600000) (hsl : sl ≤ 7302250) (KE : ∀ (m2 : dM) (H2 : Heap) (locs2 : List Loc) (ws2 : va_W) (tys2 : List (ClassId × FieldType)), Ok m2 → Rf m2 → ws2.map Prod.fst = ws.map Prod.fst → lWc D s m2 H2 locs2 ws2 tys2 → W p l e room_1 s m #[Value.ref b] below meth c H2 locs2 cs sl Q (F0 m 1191 ls [])) : W p l e room_1 s m #[Value.ref b] below meth c H locs cs sl Q (F0 m 1053 ls []) := by
  obtain ⟨⟨hx, hb, -, -, -, -, -, -, -, -⟩, -, -⟩ := id C0
  refine lv_aload_n hx hb dl_1053 rfl (lv_at hl 1 rfl) ?_
  refine law_callC (N := tM276) (Y := tY276) (mm := mm) (Qm := fun r m' => Mw (E11o mm) mm r m') (as := []) (vs := []) (rest := []) C0 hW hl.1 (w1_forget ⟨hO, hT⟩) (nn := 1) rfl rfl (Nat.le_of_ble_eq_true rfl) rfl rfl rfl rfl rfl (kIs_ok (c := 5185) (by decide +kernel)) (kIs_ok (c := 5186) (by decide +kernel)) (kIs_ok (c := 5187) (by decide +kernel)) (d0 := 11) rfl ⟨_, rfl⟩ hax trivial (Nat.le_of_ble_eq_true rfl) hcs hsl dl_1054 (fun r1 m1 H1 locs1 ws1 tys1 O1 hp1 hW1 => ?_)
  refine lv_pop hx hb dl_1057 rfl ?_
  refine lv_aload_n hx hb dl_1058 rfl (lv_at hl 2 rfl) ?_
  refine law_callC (N := tM107) (Y := tY107) (mm := m1) (Qm := fun r m' => Bt m' ∧ r1 = r) (as := []) (vs := []) (rest := []) C0 hW1 hl.1 (w2_forget O1) (nn := 1) rfl rfl (Nat.le_of_ble_eq_true rfl) rfl rfl rfl rfl rfl (kIs_ok (c := 8155) (by decide +kernel)) (kIs_ok (c := 8156) (by decide +kernel)) (kIs_ok (c := 8157) (by decide +kernel)) (d0 := 12) rfl ⟨_, rfl⟩ (by rw [hp1]; exact ham) trivial (Nat.le_of_ble_eq_true rfl) hcs hsl dl_1059 (fun r2 m2 H2 locs2 ws2 tys2 O2 hp2 hW2 => ?_)
  obtain ⟨B2, e12⟩ := O2
  refine lv_pop hx hb dl_1062 rfl ?_
  refine lv_goto (tgt := 1191) hx hb dl_1063 (by decide) ?_
  exact KE m2 H2 locs2 ws2 tys2 B2.1 B2.2 (hp2.trans hp1) hW2
theorem law_went (C0 : lX p s m meth c b L xs adK adV) {mm : dM} {H : Heap} {locs : List Loc} {ws : va_W} {tys : List (ClassId × FieldType)} {ls : Array Slot} {ax am cs sl : Nat} (hO : Ok mm) (hT : Rf mm) (hW : lWc D s mm H locs ws tys) (hax : (ws.map Prod.fst)[0]? = some ax) (ham : (ws.map Prod.fst)[70]? = some am) (hl : lv_has ls 4 [(0, .ref b), (1, .ref ax), (2, .ref am), (3, .int i)]) (hi : 0 ≤ i.toInt ∧ i.toInt + 6 ≤ L ∧ L ≤ 3072) (hcs : cs ≤ 600000) (hsl : sl ≤ 7302250) (KE : ∀ (m2 : dM) (H2 : Heap) (locs2 : List Loc) (ws2 : va_W) (tys2 : List (ClassId × FieldType)), Ok m2 → Rf m2 → ws2.map Prod.fst = ws.map Prod.fst → lWc D s m2 H2 locs2 ws2 tys2 → W p l e room_1 s m #[Value.ref b] below meth c H2 locs2 cs sl Q (F0 m 1191 ls [])) : W p l e room_1 s m #[Value.ref b] below meth c H locs cs sl Q (F0 m 1066 ls []) := by
  obtain ⟨⟨hx, hb, -, -, -, -, -, -, -, -⟩, -, -⟩ := id C0
  refine lv_aload_n hx hb dl_1066 rfl (lv_at hl 1 rfl) ?_
  refine law_arg (k := 1) C0 hW.2.2.2.1 hl hi (by decide) dl_1067 dl_1068 dl_1069 dl_1070 dl_1071 ?_
  refine law_arg (k := 2) C0 hW.2.2.2.1 hl hi (by decide) dl_1072 dl_1073 dl_1074 dl_1075 dl_1076 ?_
  refine law_callC (N := tM277) (Y := tY277) (mm := mm) (Qm := fun _ m' => Bt m') (as := [.inl (xs (i + Int32.ofInt ((1 : Nat) : Int)).toNatClampNeg), .inl (xs (i + Int32.ofInt ((2 : Nat) : Int)).toNatClampNeg)]) (vs := [.int (xs (i + Int32.ofInt ((1 : Nat) : Int)).toNatClampNeg), .int (xs (i + Int32.ofInt ((2 : Nat) : Int)).toNatClampNeg)]) (rest := []) C0 hW hl.1 (w1_went ⟨hO, hT⟩) (nn := 1) rfl rfl (Nat.le_of_ble_eq_true rfl) rfl rfl rfl rfl rfl (kIs_ok (c := 5189) (by decide +kernel)) (kIs_ok (c := 5190) (by decide +kernel)) (kIs_ok (c := 5191) (by decide +kernel)) (d0 := 11) rfl ⟨_, rfl⟩ hax ⟨rfl, ⟨rfl, trivial⟩⟩ (Nat.le_of_ble_eq_true rfl) hcs hsl dl_1077 (fun r1 m1 H1 locs1 ws1 tys1 O1 hp1 hW1 => ?_)
  refine lv_pop hx hb dl_1080 rfl ?_
  refine lv_aload_n hx hb dl_1081 rfl (lv_at hl 2 rfl) ?_
  refine law_arg (k := 1) C0 hW1.2.2.2.1 hl hi (by decide) dl_1082 dl_1083 dl_1084 dl_1085 dl_1086 ?_
  refine law_arg (k := 2) C0 hW1.2.2.2.1 hl hi (by decide) dl_1087 dl_1088 dl_1089 dl_1090 dl_1091 ?_
  refine law_callC (N := tM109) (Y := tY109) (mm := m1) (Qm := fun _ m' => Bt m') (as := [.inl (xs (i + Int32.ofInt ((1 : Nat) : Int)).toNatClampNeg), .inl (xs (i + Int32.ofInt ((2 : Nat) : Int)).toNatClampNeg)]) (vs := [.int (xs (i + Int32.ofInt ((1 : Nat) : Int)).toNatClampNeg), .int (xs (i + Int32.ofInt ((2 : Nat) : Int)).toNatClampNeg)]) (rest := []) C0 hW1 hl.1 (w2_went O1) (nn := 1) rfl rfl (Nat.le_of_ble_eq_true rfl) rfl rfl rfl rfl rfl (kIs_ok (c := 8159) (by decide +kernel)) (kIs_ok (c := 8160) (by decide +kernel)) (kIs_ok (c := 8161) (by decide +kernel)) (d0 := 12) rfl ⟨_, rfl⟩ (by rw [hp1]; exact ham) ⟨rfl, ⟨rfl, trivial⟩⟩ (Nat.le_of_ble_eq_true rfl) hcs hsl dl_1092 (fun r2 m2 H2 locs2 ws2 tys2 O2 hp2 hW2 => ?_)
  have B2 : Bt m2 := O2
  refine lv_pop hx hb dl_1095 rfl ?_
  refine lv_goto (tgt := 1191) hx hb dl_1096 (by decide) ?_
  exact KE m2 H2 locs2 ws2 tys2 B2.1 B2.2 (hp2.trans hp1) hW2
theorem law_ask (C0 : lX p s m meth c b L xs adK adV) {mm : dM} {H : Heap} {locs : List Loc} {ws : va_W} {tys : List (ClassId × FieldType)} {ls : Array Slot} {ax am cs sl : Nat} (hO : Ok mm) (hT : Rf mm) (hW : lWc D s mm H locs ws tys) (hax : (ws.map Prod.fst)[0]? = some ax) (ham : (ws.map Prod.fst)[70]? = some am) (hl : lv_has ls 4 [(0, .ref b), (1, .ref ax), (2, .ref am), (3, .int i)]) (hi : 0 ≤ i.toInt ∧ i.toInt + 6 ≤ L ∧ L ≤ 3072) (hcs : cs ≤ 600000) (hsl : sl ≤ 7302250) (KE : ∀ (m2 : dM) (H2 : Heap) (locs2 : List Loc) (ws2 : va_W) (tys2 : List (ClassId × FieldType)), Ok m2 → Rf m2 → ws2.map Prod.fst = ws.map Prod.fst → lWc D s m2 H2 locs2 ws2 tys2 → W p l e room_1 s m #[Value.ref b] below meth c H2 locs2 cs sl Q (F0 m 1191 ls [])) : W p l e room_1 s m #[Value.ref b] below meth c H locs cs sl Q (F0 m 1099 ls []) := by
  obtain ⟨⟨hx, hb, -, -, -, -, -, -, -, -⟩, -, -⟩ := id C0
  refine lv_aload_n hx hb dl_1099 rfl (lv_at hl 1 rfl) ?_
  refine law_arg (k := 1) C0 hW.2.2.2.1 hl hi (by decide) dl_1100 dl_1101 dl_1102 dl_1103 dl_1104 ?_
  refine law_callC (N := tM278) (Y := tY278) (mm := mm) (Qm := fun _ m' => Bt m') (as := [.inl (xs (i + Int32.ofInt ((1 : Nat) : Int)).toNatClampNeg)]) (vs := [.int (xs (i + Int32.ofInt ((1 : Nat) : Int)).toNatClampNeg)]) (rest := []) C0 hW hl.1 (w1_ask ⟨hO, hT⟩) (nn := 0) rfl rfl (Nat.le_of_ble_eq_true rfl) rfl rfl rfl rfl rfl (kIs_ok (c := 5203) (by decide +kernel)) (kIs_ok (c := 5204) (by decide +kernel)) (kIs_ok (c := 5205) (by decide +kernel)) (d0 := 11) rfl ⟨_, rfl⟩ hax ⟨rfl, trivial⟩ (Nat.le_of_ble_eq_true rfl) hcs hsl dl_1105 (fun r1 m1 H1 locs1 ws1 tys1 O1 hp1 hW1 => ?_)
  refine lv_pop hx hb dl_1108 rfl ?_
  refine lv_aload_n hx hb dl_1109 rfl (lv_at hl 2 rfl) ?_
  refine law_arg (k := 1) C0 hW1.2.2.2.1 hl hi (by decide) dl_1110 dl_1111 dl_1112 dl_1113 dl_1114 ?_
  refine law_callC (N := tM110) (Y := tY110) (mm := m1) (Qm := fun _ m' => Bt m') (as := [.inl (xs (i + Int32.ofInt ((1 : Nat) : Int)).toNatClampNeg)]) (vs := [.int (xs (i + Int32.ofInt ((1 : Nat) : Int)).toNatClampNeg)]) (rest := []) C0 hW1 hl.1 (w2_ask O1) (nn := 6) rfl rfl (Nat.le_of_ble_eq_true rfl) rfl rfl rfl rfl rfl (kIs_ok (c := 8167) (by decide +kernel)) (kIs_ok (c := 8168) (by decide +kernel)) (kIs_ok (c := 8169) (by decide +kernel)) (d0 := 12) rfl ⟨_, rfl⟩ (by rw [hp1]; exact ham) ⟨rfl, trivial⟩ (Nat.le_of_ble_eq_true rfl) hcs hsl dl_1115 (fun r2 m2 H2 locs2 ws2 tys2 O2 hp2 hW2 => ?_)
  have B2 : Bt m2 := O2
  refine lv_pop hx hb dl_1118 rfl ?_
  refine lv_goto (tgt := 1191) hx hb dl_1119 (by decide) ?_
  exact KE m2 H2 locs2 ws2 tys2 B2.1 B2.2 (hp2.trans hp1) hW2
theorem law_hold (C0 : lX p s m meth c b L xs adK adV) {mm : dM} {H : Heap} {locs : List Loc} {ws : va_W} {tys : List (ClassId × FieldType)} {ls : Array Slot} {ax am cs sl : Nat} (hO : Ok mm) (hT : Rf mm) (hW : lWc D s mm H locs ws tys) (hax : (ws.map Prod.fst)[0]? = some ax) (ham : (ws.map Prod.fst)[70]? = some am) (hl : lv_has ls 4 [(0, .ref b), (1, .ref ax), (2, .ref am), (3, .int i)]) (hi : 0 ≤ i.toInt ∧ i.toInt + 6 ≤ L ∧ L ≤ 3072) (hcs : cs ≤ 600000) (hsl : sl ≤ 7302250) (KE : ∀ (m2 : dM) (H2 : Heap) (locs2 : List Loc) (ws2 : va_W) (tys2 : List (ClassId × FieldType)), Ok m2 → Rf m2 → ws2.map Prod.fst = ws.map Prod.fst → lWc D s m2 H2 locs2 ws2 tys2 → W p l e room_1 s m #[Value.ref b] below meth c H2 locs2 cs sl Q (F0 m 1191 ls [])) : W p l e room_1 s m #[Value.ref b] below meth c H locs cs sl Q (F0 m 1122 ls []) := by
  obtain ⟨⟨hx, hb, -, -, -, -, -, -, -, -⟩, -, -⟩ := id C0
  refine lv_aload_n hx hb dl_1122 rfl (lv_at hl 1 rfl) ?_
  refine law_arg (k := 1) C0 hW.2.2.2.1 hl hi (by decide) dl_1123 dl_1124 dl_1125 dl_1126 dl_1127 ?_
  refine law_callC (N := tM279) (Y := tY279) (mm := mm) (Qm := fun r m' => Mh (xs (i + Int32.ofInt ((1 : Nat) : Int)).toNatClampNeg) mm r m') (as := [.inl (xs (i + Int32.ofInt ((1 : Nat) : Int)).toNatClampNeg)]) (vs := [.int (xs (i + Int32.ofInt ((1 : Nat) : Int)).toNatClampNeg)]) (rest := []) C0 hW hl.1 (w1_hold ⟨hO, hT⟩) (nn := 0) rfl rfl (Nat.le_of_ble_eq_true rfl) rfl rfl rfl rfl rfl (kIs_ok (c := 5219) (by decide +kernel)) (kIs_ok (c := 5220) (by decide +kernel)) (kIs_ok (c := 5221) (by decide +kernel)) (d0 := 11) rfl ⟨_, rfl⟩ hax ⟨rfl, trivial⟩ (Nat.le_of_ble_eq_true rfl) hcs hsl dl_1128 (fun r1 m1 H1 locs1 ws1 tys1 O1 hp1 hW1 => ?_)
  refine lv_pop hx hb dl_1131 rfl ?_
  refine lv_aload_n hx hb dl_1132 rfl (lv_at hl 2 rfl) ?_
  refine law_arg (k := 1) C0 hW1.2.2.2.1 hl hi (by decide) dl_1133 dl_1134 dl_1135 dl_1136 dl_1137 ?_
  refine law_callC (N := tM111) (Y := tY111) (mm := m1) (Qm := fun r m' => Bt m' ∧ r1 = r) (as := [.inl (xs (i + Int32.ofInt ((1 : Nat) : Int)).toNatClampNeg)]) (vs := [.int (xs (i + Int32.ofInt ((1 : Nat) : Int)).toNatClampNeg)]) (rest := []) C0 hW1 hl.1 (w2_hold O1) (nn := 1) rfl rfl (Nat.le_of_ble_eq_true rfl) rfl rfl rfl rfl rfl (kIs_ok (c := 8171) (by decide +kernel)) (kIs_ok (c := 8172) (by decide +kernel)) (kIs_ok (c := 8173) (by decide +kernel)) (d0 := 12) rfl ⟨_, rfl⟩ (by rw [hp1]; exact ham) ⟨rfl, trivial⟩ (Nat.le_of_ble_eq_true rfl) hcs hsl dl_1138 (fun r2 m2 H2 locs2 ws2 tys2 O2 hp2 hW2 => ?_)
  obtain ⟨B2, e12⟩ := O2
  refine lv_pop hx hb dl_1141 rfl ?_
  refine lv_goto (tgt := 1191) hx hb dl_1142 (by decide) ?_
  exact KE m2 H2 locs2 ws2 tys2 B2.1 B2.2 (hp2.trans hp1) hW2
theorem law_restore (C0 : lX p s m meth c b L xs adK adV) {mm : dM} {H : Heap} {locs : List Loc} {ws : va_W} {tys : List (ClassId × FieldType)} {ls : Array Slot} {ax am cs sl : Nat} (hO : Ok mm) (hT : Rf mm) (hW : lWc D s mm H locs ws tys) (hax : (ws.map Prod.fst)[0]? = some ax) (ham : (ws.map Prod.fst)[70]? = some am) (hl : lv_has ls 4 [(0, .ref b), (1, .ref ax), (2, .ref am), (3, .int i)]) (hi : 0 ≤ i.toInt ∧ i.toInt + 6 ≤ L ∧ L ≤ 3072) (hcs : cs ≤ 600000) (hsl : sl ≤ 7302250) (KE : ∀ (m2 : dM) (H2 : Heap) (locs2 : List Loc) (ws2 : va_W) (tys2 : List (ClassId × FieldType)), Ok m2 → Rf m2 → ws2.map Prod.fst = ws.map Prod.fst → lWc D s m2 H2 locs2 ws2 tys2 → W p l e room_1 s m #[Value.ref b] below meth c H2 locs2 cs sl Q (F0 m 1191 ls [])) : W p l e room_1 s m #[Value.ref b] below meth c H locs cs sl Q (F0 m 1145 ls []) := by
  obtain ⟨⟨hx, hb, -, -, -, -, -, -, -, -⟩, -, -⟩ := id C0
  refine lv_aload_n hx hb dl_1145 rfl (lv_at hl 1 rfl) ?_
  refine law_arg (k := 1) C0 hW.2.2.2.1 hl hi (by decide) dl_1146 dl_1147 dl_1148 dl_1149 dl_1150 ?_
  refine law_callC (N := tM280) (Y := tY280) (mm := mm) (Qm := fun r m' => Ms (xs (i + Int32.ofInt ((1 : Nat) : Int)).toNatClampNeg) mm r m') (as := [.inl (xs (i + Int32.ofInt ((1 : Nat) : Int)).toNatClampNeg)]) (vs := [.int (xs (i + Int32.ofInt ((1 : Nat) : Int)).toNatClampNeg)]) (rest := []) C0 hW hl.1 (w1_restore ⟨hO, hT⟩) (nn := 0) rfl rfl (Nat.le_of_ble_eq_true rfl) rfl rfl rfl rfl rfl (kIs_ok (c := 5227) (by decide +kernel)) (kIs_ok (c := 5228) (by decide +kernel)) (kIs_ok (c := 5229) (by decide +kernel)) (d0 := 11) rfl ⟨_, rfl⟩ hax ⟨rfl, trivial⟩ (Nat.le_of_ble_eq_true rfl) hcs hsl dl_1151 (fun r1 m1 H1 locs1 ws1 tys1 O1 hp1 hW1 => ?_)
  refine lv_pop hx hb dl_1154 rfl ?_
  refine lv_aload_n hx hb dl_1155 rfl (lv_at hl 2 rfl) ?_
  refine law_arg (k := 1) C0 hW1.2.2.2.1 hl hi (by decide) dl_1156 dl_1157 dl_1158 dl_1159 dl_1160 ?_
  refine law_callC (N := tM112) (Y := tY112) (mm := m1) (Qm := fun r m' => Bt m' ∧ r1 = r) (as := [.inl (xs (i + Int32.ofInt ((1 : Nat) : Int)).toNatClampNeg)]) (vs := [.int (xs (i + Int32.ofInt ((1 : Nat) : Int)).toNatClampNeg)]) (rest := []) C0 hW1 hl.1 (w2_restore O1) (nn := 1) rfl rfl (Nat.le_of_ble_eq_true rfl) rfl rfl rfl rfl rfl (kIs_ok (c := 8175) (by decide +kernel)) (kIs_ok (c := 8176) (by decide +kernel)) (kIs_ok (c := 8177) (by decide +kernel)) (d0 := 12) rfl ⟨_, rfl⟩ (by rw [hp1]; exact ham) ⟨rfl, trivial⟩ (Nat.le_of_ble_eq_true rfl) hcs hsl dl_1161 (fun r2 m2 H2 locs2 ws2 tys2 O2 hp2 hW2 => ?_)
  obtain ⟨B2, e12⟩ := O2
  refine lv_pop hx hb dl_1164 rfl ?_
  refine lv_goto (tgt := 1191) hx hb dl_1165 (by decide) ?_
  exact KE m2 H2 locs2 ws2 tys2 B2.1 B2.2 (hp2.trans hp1) hW2
theorem law_count (C0 : lX p s m meth c b L xs adK adV) {mm : dM} {H : Heap} {locs : List Loc} {ws : va_W} {tys : List (ClassId × FieldType)} {ls : Array Slot} {ax am cs sl : Nat} (hO : Ok mm) (hT : Rf mm) (hW : lWc D s mm H locs ws tys) (hax : (ws.map Prod.fst)[0]? = some ax) (ham : (ws.map Prod.fst)[70]? = some am) (hl : lv_has ls 4 [(0, .ref b), (1, .ref ax), (2, .ref am), (3, .int i)]) (hi : 0 ≤ i.toInt ∧ i.toInt + 6 ≤ L ∧ L ≤ 3072) (hcs : cs ≤ 600000) (hsl : sl ≤ 7302250) (KE : ∀ (m2 : dM) (H2 : Heap) (locs2 : List Loc) (ws2 : va_W) (tys2 : List (ClassId × FieldType)), Ok m2 → Rf m2 → ws2.map Prod.fst = ws.map Prod.fst → lWc D s m2 H2 locs2 ws2 tys2 → W p l e room_1 s m #[Value.ref b] below meth c H2 locs2 cs sl Q (F0 m 1191 ls [])) : W p l e room_1 s m #[Value.ref b] below meth c H locs cs sl Q (F0 m 1168 ls []) := by
  obtain ⟨⟨hx, hb, -, -, -, -, -, -, -, -⟩, -, -⟩ := id C0
  refine lv_aload_n hx hb dl_1168 rfl (lv_at hl 1 rfl) ?_
  refine law_arg (k := 1) C0 hW.2.2.2.1 hl hi (by decide) dl_1169 dl_1170 dl_1171 dl_1172 dl_1173 ?_
  refine law_callC (N := tM281) (Y := tY281) (mm := mm) (Qm := fun r m' => Mc (xs (i + Int32.ofInt ((1 : Nat) : Int)).toNatClampNeg) r m') (as := [.inl (xs (i + Int32.ofInt ((1 : Nat) : Int)).toNatClampNeg)]) (vs := [.int (xs (i + Int32.ofInt ((1 : Nat) : Int)).toNatClampNeg)]) (rest := []) C0 hW hl.1 (w1_count ⟨hO, hT⟩) (nn := 0) rfl rfl (Nat.le_of_ble_eq_true rfl) rfl rfl rfl rfl rfl (kIs_ok (c := 5237) (by decide +kernel)) (kIs_ok (c := 5238) (by decide +kernel)) (kIs_ok (c := 5239) (by decide +kernel)) (d0 := 11) rfl ⟨_, rfl⟩ hax ⟨rfl, trivial⟩ (Nat.le_of_ble_eq_true rfl) hcs hsl dl_1174 (fun r1 m1 H1 locs1 ws1 tys1 O1 hp1 hW1 => ?_)
  refine lv_aload_n hx hb dl_1177 rfl (lv_at hl 2 rfl) ?_
  refine law_arg (k := 1) C0 hW1.2.2.2.1 hl hi (by decide) dl_1178 dl_1179 dl_1180 dl_1181 dl_1182 ?_
  refine law_callC (N := tM113) (Y := tY113) (mm := m1) (Qm := fun r m' => Bt m' ∧ r1 = r) (as := [.inl (xs (i + Int32.ofInt ((1 : Nat) : Int)).toNatClampNeg)]) (vs := [.int (xs (i + Int32.ofInt ((1 : Nat) : Int)).toNatClampNeg)]) (rest := [.int r1]) C0 hW1 hl.1 (w2_count O1) (nn := 2) rfl rfl (Nat.le_of_ble_eq_true rfl) rfl rfl rfl rfl rfl (kIs_ok (c := 8179) (by decide +kernel)) (kIs_ok (c := 8180) (by decide +kernel)) (kIs_ok (c := 8181) (by decide +kernel)) (d0 := 12) rfl ⟨_, rfl⟩ (by rw [hp1]; exact ham) ⟨rfl, trivial⟩ (Nat.le_of_ble_eq_true rfl) hcs hsl dl_1183 (fun r2 m2 H2 locs2 ws2 tys2 O2 hp2 hW2 => ?_)
  obtain ⟨B2, e12⟩ := O2
  exact lv_icmp_eq (tgt := 1191) hx hb dl_1186 (by decide) (fun _ => KE m2 H2 locs2 ws2 tys2 B2.1 B2.2 (hp2.trans hp1) hW2) (fun q => absurd e12 q)
end LWC
end
section
/-! THE LAW's loop -/
section LWL
variable {p : Program} {l : Launch} {e : Env} {s : State} {m : MethodId} {below : List Frame} {meth : Method} {c : Code} {b L : Nat} {xs : Nat → Int32} {adK adV : Nat → Nat} {D : va_G}
set_option maxHeartbeats 4000000 in
theorem law_loop (C0 : lX p s m meth c b L xs adK adV) (hL : L ≤ 3072) {ax am cs sl : Nat} (hcs : cs ≤ 600000) (hsl : sl ≤ 7302250) : ∀ (n : Nat) (i : Int32) (mm : dM) (H : Heap) (locs : List Loc) (ws : va_W) (tys : List (ClassId × FieldType)) (ls : Array Slot), Ok mm → Rf mm → lWc D s mm H locs ws tys → (ws.map Prod.fst)[0]? = some ax → (ws.map Prod.fst)[70]? = some am → lv_has ls 4 [(0, .ref b), (1, .ref ax), (2, .ref am), (3, .int i)] → 0 ≤ i.toInt ∧ i.toInt ≤ L → (L : Int) - i.toInt < n → W p l e room_1 s m #[Value.ref b] below meth c H locs cs sl (lw_Z below #[Value.ref b] s) (F0 m 18 ls []) := by
  intro n
  induction n with
  | zero => intro i mm H locs ws tys ls hO hT hW hax ham hl h0 hμ; exfalso; omega
  | succ n ih =>
    intro i mm H locs ws tys ls hO hT hW hax ham hl h0 hμ
    obtain ⟨⟨hx, hb, hr, hml, hown, hts, hX, hbl, hlocks, hgv⟩, hXt, hFz⟩ := id C0
    have hbA : ¬ (fun q : Nat => s.heap.size ≤ q) b := Nat.not_le.mpr hbl
    have hS := hW.2.2.2.1
    have eL : (Int32.ofNat L).toInt = (L : Int) := Int32.toInt_ofNat_of_lt (by omega)
    have f6 := dSubE (X := (L : Int)) (Y := 6) (x := Int32.ofNat L) (y := (6 : Int32)) eL (by decide) (by omega) (by omega)
    refine lv_iload_n hx hb dl_18 rfl (lv_at hl 3 rfl) ?_
    refine lv_aload_n hx hb dl_19 rfl (lv_at hl 0 rfl) ?_
    refine va_slen hx hb hX hbl hbA hS dl_20 ?_
    refine lv_bipush (v := 6) hx hb dl_21 (by decide) ?_
    refine lv_isub hx hb dl_23 ?_
    refine lv_icmp_gt (tgt := 1197) hx hb dl_24 (by decide) (fun _ => ?_) (fun q => ?_)
    · refine lv_iconst (v := 1) hx hb dl_1197 (by decide) ?_
      refine va_forget hS.2.2 (W.widen (k := 600000) (n := 7302250) hcs hsl ?_)
      exact lw_ret hx hb hr hlocks dl_1198
    · rw [Int32.lt_iff_toInt_lt] at q
      have hi : 0 ≤ i.toInt ∧ i.toInt + 6 ≤ L ∧ L ≤ 3072 := by omega
      have fi := dAddE (X := i.toInt) (Y := 6) (x := i) (y := (6 : Int32)) rfl (by decide) (by omega) (by omega)
      have KE : ∀ (m2 : dM) (H2 : Heap) (locs2 : List Loc) (ws2 : va_W) (tys2 : List (ClassId × FieldType)), Ok m2 → Rf m2 → ws2.map Prod.fst = ws.map Prod.fst → lWc D s m2 H2 locs2 ws2 tys2 → W p l e room_1 s m #[Value.ref b] below meth c H2 locs2 cs sl (lw_Z below #[Value.ref b] s) (F0 m 1191 ls []) := by
        intro m2 H2 locs2 ws2 tys2 O2 hT2 hp2 hW2
        refine lv_iinc (v := i + 6) (lv' := [(3, .int (i + 6)), (0, .ref b), (1, .ref ax), (2, .ref am)]) hx hb dl_1191 hl (k := 3) rfl rfl (by decide) rfl (fun ls2 hl2 => ?_)
        refine lv_goto (tgt := 18) hx hb dl_1194 (by decide) ?_
        have hl3 : lv_has ls2 4 [(0, .ref b), (1, .ref ax), (2, .ref am), (3, .int (i + 6))] := lv_sub hl2 [1, 2, 3, 0] rfl
        exact ih (i + 6) m2 H2 locs2 ws2 tys2 ls2 O2 hT2 hW2 (by rw [hp2]; exact hax) (by rw [hp2]; exact ham) hl3 (by omega) (by omega)
      refine lv_aload_n hx hb dl_27 rfl (lv_at hl 0 rfl) ?_
      refine lv_iload_n hx hb dl_28 rfl (lv_at hl 3 rfl) ?_
      refine va_sld hx hb hX hbl hbA hS (vp_in_iff.mpr ⟨by omega, by omega⟩) dl_29 ?_
      refine lv_bipush (v := 63) hx hb dl_30 (by decide) ?_
      refine lv_iand hx hb dl_32 ?_
      refine lv_topi (fun x0 _ => ?_)
      rcases (show (x0.toInt < 0 ∨ 34 < x0.toInt) ∨ x0.toInt = 0 ∨ x0.toInt = 1 ∨ x0.toInt = 2 ∨ x0.toInt = 3 ∨ x0.toInt = 4 ∨ x0.toInt = 5 ∨ x0.toInt = 6 ∨ x0.toInt = 7 ∨ x0.toInt = 8 ∨ x0.toInt = 9 ∨ x0.toInt = 10 ∨ x0.toInt = 11 ∨ x0.toInt = 12 ∨ x0.toInt = 13 ∨ x0.toInt = 14 ∨ x0.toInt = 15 ∨ x0.toInt = 16 ∨ x0.toInt = 17 ∨ x0.toInt = 18 ∨ x0.toInt = 19 ∨ x0.toInt = 20 ∨ x0.toInt = 21 ∨ x0.toInt = 22 ∨ x0.toInt = 23 ∨ x0.toInt = 24 ∨ x0.toInt = 25 ∨ x0.toInt = 26 ∨ x0.toInt = 27 ∨ x0.toInt = 28 ∨ x0.toInt = 29 ∨ x0.toInt = 30 ∨ x0.toInt = 31 ∨ x0.toInt = 32 ∨ x0.toInt = 33 ∨ x0.toInt = 34 by omega) with hj | hj | hj | hj | hj | hj | hj | hj | hj | hj | hj | hj | hj | hj | hj | hj | hj | hj | hj | hj | hj | hj | hj | hj | hj | hj | hj | hj | hj | hj | hj | hj | hj | hj | hj | hj
      · exact lv_tableOut (tgt := 1191) hx hb dl_33 hj (by decide) (KE mm H locs ws tys hO hT rfl hW)
      · exact lv_tableIn (tgt := 188) hx hb dl_33 (by omega) (by omega) (off := 155) (by rw [hj]; rfl) (by decide) (law_feed C0 hO hT hW hax ham hl hi hcs hsl KE)
      · exact lv_tableIn (tgt := 251) hx hb dl_33 (by omega) (by omega) (off := 218) (by rw [hj]; rfl) (by decide) (law_back C0 hO hT hW hax ham hl hi hcs hsl KE)
      · exact lv_tableIn (tgt := 274) hx hb dl_33 (by omega) (by omega) (off := 241) (by rw [hj]; rfl) (by decide) (law_read C0 hO hT hW hax ham hl hi hcs hsl KE)
      · exact lv_tableIn (tgt := 287) hx hb dl_33 (by omega) (by omega) (off := 254) (by rw [hj]; rfl) (by decide) (law_place C0 hO hT hW hax ham hl hi hcs hsl KE)
      · exact lv_tableIn (tgt := 300) hx hb dl_33 (by omega) (by omega) (off := 267) (by rw [hj]; rfl) (by decide) (law_flat C0 hO hT hW hax ham hl hi hcs hsl KE)
      · exact lv_tableIn (tgt := 333) hx hb dl_33 (by omega) (by omega) (off := 300) (by rw [hj]; rfl) (by decide) (law_wire C0 hO hT hW hax ham hl hi hcs hsl KE)
      · exact lv_tableIn (tgt := 366) hx hb dl_33 (by omega) (by omega) (off := 333) (by rw [hj]; rfl) (by decide) (law_use C0 hO hT hW hax ham hl hi hcs hsl KE)
      · refine lv_tableIn (tgt := 399) hx hb dl_33 (by omega) (by omega) (off := 366) (by rw [hj]; rfl) (by decide) ?_
        by_cases hz : xs (i + Int32.ofInt ((2 : Nat) : Int)).toNatClampNeg = 0
        · exact law_agree0 C0 hz hO hT hW hax ham hl hi hcs hsl KE
        · exact law_agree1 C0 hz hO hT hW hax ham hl hi hcs hsl KE
      · exact lv_tableIn (tgt := 448) hx hb dl_33 (by omega) (by omega) (off := 415) (by rw [hj]; rfl) (by decide) (law_mend C0 hO hT hW hax ham hl hi hcs hsl KE)
      · exact lv_tableIn (tgt := 471) hx hb dl_33 (by omega) (by omega) (off := 438) (by rw [hj]; rfl) (by decide) (law_thicken C0 hO hT hW hax ham hl hi hcs hsl KE)
      · refine lv_tableIn (tgt := 494) hx hb dl_33 (by omega) (by omega) (off := 461) (by rw [hj]; rfl) (by decide) ?_
        by_cases hz : xs (i + Int32.ofInt ((2 : Nat) : Int)).toNatClampNeg = 0
        · exact law_pin0 C0 hz hO hT hW hax ham hl hi hcs hsl KE
        · exact law_pin1 C0 hz hO hT hW hax ham hl hi hcs hsl KE
      · exact lv_tableIn (tgt := 543) hx hb dl_33 (by omega) (by omega) (off := 510) (by rw [hj]; rfl) (by decide) (law_hours C0 hO hT hW hax ham hl hi hcs hsl KE)
      · exact lv_tableIn (tgt := 566) hx hb dl_33 (by omega) (by omega) (off := 533) (by rw [hj]; rfl) (by decide) (law_undo C0 hO hT hW hax ham hl hi hcs hsl KE)
      · exact lv_tableIn (tgt := 579) hx hb dl_33 (by omega) (by omega) (off := 546) (by rw [hj]; rfl) (by decide) (law_way C0 hO hT hW hax ham hl hi hcs hsl KE)
      · exact lv_tableIn (tgt := 612) hx hb dl_33 (by omega) (by omega) (off := 579) (by rw [hj]; rfl) (by decide) (law_peak C0 hO hT hW hax ham hl hi hcs hsl KE)
      · exact lv_tableIn (tgt := 655) hx hb dl_33 (by omega) (by omega) (off := 622) (by rw [hj]; rfl) (by decide) (law_first C0 hO hT hW hax ham hl hi hcs hsl KE)
      · exact lv_tableIn (tgt := 678) hx hb dl_33 (by omega) (by omega) (off := 645) (by rw [hj]; rfl) (by decide) (law_together C0 hO hT hW hax ham hl hi hcs hsl KE)
      · exact lv_tableIn (tgt := 701) hx hb dl_33 (by omega) (by omega) (off := 668) (by rw [hj]; rfl) (by decide) (law_when C0 hO hT hW hax ham hl hi hcs hsl KE)
      · exact lv_tableIn (tgt := 724) hx hb dl_33 (by omega) (by omega) (off := 691) (by rw [hj]; rfl) (by decide) (law_thick C0 hO hT hW hax ham hl hi hcs hsl KE)
      · exact lv_tableIn (tgt := 747) hx hb dl_33 (by omega) (by omega) (off := 714) (by rw [hj]; rfl) (by decide) (law_cut C0 hO hT hW hax ham hl hi hcs hsl KE)
      · exact lv_tableIn (tgt := 780) hx hb dl_33 (by omega) (by omega) (off := 747) (by rw [hj]; rfl) (by decide) (law_share C0 hO hT hW hax ham hl hi hcs hsl KE)
      · exact lv_tableIn (tgt := 813) hx hb dl_33 (by omega) (by omega) (off := 780) (by rw [hj]; rfl) (by decide) (law_without C0 hO hT hW hax ham hl hi hcs hsl KE)
      · exact lv_tableIn (tgt := 836) hx hb dl_33 (by omega) (by omega) (off := 803) (by rw [hj]; rfl) (by decide) (law_needed C0 hO hT hW hax ham hl hi hcs hsl KE)
      · exact lv_tableIn (tgt := 849) hx hb dl_33 (by omega) (by omega) (off := 816) (by rw [hj]; rfl) (by decide) (law_hottest C0 hO hT hW hax ham hl hi hcs hsl KE)
      · exact lv_tableIn (tgt := 872) hx hb dl_33 (by omega) (by omega) (off := 839) (by rw [hj]; rfl) (by decide) (law_clash C0 hO hT hW hax ham hl hi hcs hsl KE)
      · exact lv_tableIn (tgt := 905) hx hb dl_33 (by omega) (by omega) (off := 872) (by rw [hj]; rfl) (by decide) (law_then C0 hO hT hW hax ham hl hi hcs hsl KE)
      · exact lv_tableIn (tgt := 938) hx hb dl_33 (by omega) (by omega) (off := 905) (by rw [hj]; rfl) (by decide) (law_litIn C0 hO hT hW hax ham hl hi hcs hsl KE)
      · exact lv_tableIn (tgt := 971) hx hb dl_33 (by omega) (by omega) (off := 938) (by rw [hj]; rfl) (by decide) (law_year C0 hO hT hW hax ham hl hi hcs hsl KE)
      · refine lv_tableIn (tgt := 1004) hx hb dl_33 (by omega) (by omega) (off := 971) (by rw [hj]; rfl) (by decide) ?_
        by_cases hz : xs (i + Int32.ofInt ((2 : Nat) : Int)).toNatClampNeg = 0
        · exact law_tell0 C0 hz hO hT hW hax ham hl hi hcs hsl KE
        · exact law_tell1 C0 hz hO hT hW hax ham hl hi hcs hsl KE
      · exact lv_tableIn (tgt := 1053) hx hb dl_33 (by omega) (by omega) (off := 1020) (by rw [hj]; rfl) (by decide) (law_forget C0 hO hT hW hax ham hl hi hcs hsl KE)
      · exact lv_tableIn (tgt := 1066) hx hb dl_33 (by omega) (by omega) (off := 1033) (by rw [hj]; rfl) (by decide) (law_went C0 hO hT hW hax ham hl hi hcs hsl KE)
      · exact lv_tableIn (tgt := 1099) hx hb dl_33 (by omega) (by omega) (off := 1066) (by rw [hj]; rfl) (by decide) (law_ask C0 hO hT hW hax ham hl hi hcs hsl KE)
      · exact lv_tableIn (tgt := 1122) hx hb dl_33 (by omega) (by omega) (off := 1089) (by rw [hj]; rfl) (by decide) (law_hold C0 hO hT hW hax ham hl hi hcs hsl KE)
      · exact lv_tableIn (tgt := 1145) hx hb dl_33 (by omega) (by omega) (off := 1112) (by rw [hj]; rfl) (by decide) (law_restore C0 hO hT hW hax ham hl hi hcs hsl KE)
      · exact lv_tableIn (tgt := 1168) hx hb dl_33 (by omega) (by omega) (off := 1135) (by rw [hj]; rfl) (by decide) (law_count C0 hO hT hW hax ham hl hi hcs hsl KE)
end LWL
end
section
/-- the world between calls, behind the starts -/
def lWd (D : va_G) (s : State) (σ : Nat → Int) (h : eH) (H : Heap) (locs : List Loc) (ws : va_W) (tys : List (ClassId × FieldType)) : Prop := va_K D tCl tys s ∧ va_P D tCl ws H ∧ va_D (fun q => s.heap.size ≤ q) ws ∧ va_S (fun q => s.heap.size ≤ q) s.heap H locs ∧ eAll (eCk (ws.map Prod.fst) σ tys) h ws
theorem lw_ad {ws ws' : va_W} {k a : Nat} (h : (ws.map Prod.fst)[k]? = some a) (hp : ∃ t, ws'.map Prod.fst = ws.map Prod.fst ++ t) : (ws'.map Prod.fst)[k]? = some a := by
  obtain ⟨t, ht⟩ := hp
  rw [ht, List.getElem?_append_left (List.getElem?_eq_some_iff.mp h).1]
  exact h
/-! THE LAW, from its entry -/
section LWS
variable {p : Program} {l : Launch} {e : Env} {s : State} {m : MethodId} {below : List Frame} {meth : Method} {c : Code} {b L : Nat} {xs : Nat → Int32} {adK adV : Nat → Nat} {D : va_G}
theorem law_init {sr : List (Int × Int)} {σ : Nat → Int} {H : Heap} {locs : List Loc} {ws : va_W} {tys : List (ClassId × FieldType)} {ls : Array Slot} {h : eH} {cs sl pc idx k a bm : Nat} {rest : List Value} {os : List (Option eV × eH)} {N : eM} {Y : eY} {Q : State → Prop} (hx : p.tables.exec = Jvm.exec) (hb : c.code = code) (hml : c.maxLocals = 4) (hown : s.vm.findClass R_law = some m.cls) (hts : ∀ w ∈ lw_g, w.before #[Value.ref b] s = true) (hXt : eXt tNs s) (hFz : tFz adK adV (fun q => s.heap.size ≤ q) s s.heap) (hs : eSg sr σ) (hW : lWd D s σ h H locs ws tys) (hsz : ls.size = 4) (hcon : eCon (tFz adK adV) l tCl lw_g tNs sr tMs tYs 600 bm [.inr (.inl (some k))] h os) (hN : tMs[bm]? = some N) (hY : tYs[bm]? = some Y) (hnp : N.2.2.2.2.2 = 0)
    (w1 : Cond.methodLink R_law idx Y.1 ∈ lw_g) (w2 : Y.1.name = "<init>") (w3 : Y.2.2 = none) (w4 : Cond.instanceMethod Y.1 ∈ lw_g) (ha : (ws.map Prod.fst)[k]? = some a) (hcr : (rest.map fun v : Value => v.category).sum ≤ 8) (hcs : cs + N.2.2.1 ≤ 600000) (hsl : sl + N.2.2.2.1 ≤ 7302250) (hdg : decode code pc = .ok (.invokespecial idx, 3))
    (kk : ∀ o ∈ os, ∀ (w : Option Value) (H1 : Heap) (locs1 : List Loc) (ws' : va_W) (tys' : List (ClassId × FieldType)), eOv (ws'.map Prod.fst) σ o.1 w → (∃ t, ws'.map Prod.fst = ws.map Prod.fst ++ t) → lWd D s σ o.2 H1 locs1 ws' tys' → W p l e room_1 s m #[Value.ref b] below meth c H1 locs1 (cs + N.2.2.1) (sl + N.2.2.2.1) Q (F0 m (pc + 3) ls (w.toList ++ rest))) : W p l e room_1 s m #[Value.ref b] below meth c H locs cs sl Q (F0 m pc ls (.ref a :: rest)) := by
  obtain ⟨hK, hP, hD, hS, hh⟩ := hW
  have hok : eMok tCl lw_g tNs tMs tYs N Y := by
    obtain ⟨Y', g1, g2⟩ := eAll_get tOk hN
    have e1 := Option.some.inj (g1.symm.trans hY)
    subst e1
    exact g2
  obtain ⟨-, hcode, hini, -, hdd, hnl, -⟩ := hok
  have hA1 : ∀ q, va_A ws H.size q → s.heap.size ≤ q := by
    intro q hq
    rcases hq with ⟨k, e9, hk⟩ | hq
    · exact hD.2 k (q, e9) hk
    · exact Nat.le_trans hS.1 hq
  have hM := hcon N Y hN hY D σ ws tys [.ref a] H.size hs hh ⟨⟨a, ha, rfl⟩, trivial⟩
  have hPre : ∀ U : State, U.heap = H → s.WarmedH U.vm → ePc (tFz adK adV) tCl tNs D ws tys [.ref a] H.size (Value.ref a :: []).toArray U := fun U hU hW => ⟨rfl, by rw [hU], by rw [hU]; exact hP, va_K.moved hW.alike hK, hD.weaken (fun _ _ _ _ => trivial), hXt.warm hW, by rw [hU]; exact (tFzOk adK adV).1 _ _ s U s.heap H hFz hW hS.2.1 hA1⟩
  rw [w3] at hM hcode
  rw [hnp] at hdd
  have hrun := va_runI (R := room_1) (p := p) (e := e) (below := below) (meth := meth) (locs := locs) (cells := cs) (slots := sl) (g := F0 m pc ls (.ref a :: rest)) (As := []) (rest := rest) ⟨hx, hb, hml, hown, hts⟩ hM ⟨callB_of _ hts (jG hcode) rfl rfl rfl (hts _ hini) (hts _ w1) hdd ⟨by show 600 + 1 ≤ 2048; omega, by show 8 + (N.2.1 + 11) + 128 * 600 ≤ 84000; omega⟩, w2, hts _ w4⟩ ⟨ePc_blind (tFzOk adK adV), hPre⟩ rfl rfl hsz rfl (by show 2 * 0 + _ ≤ 8; omega) hdg ⟨hcs, hsl⟩
  exact eBack hrun hS hA1 (fun o ho w ws' tys' H1 locs1 hov hpre' hh' hP' hK' hD' hS' => kk o ho w H1 locs1 ws' tys' hov hpre' ⟨hK', hP', hD', hS', hh'⟩)
theorem law_new {σ : Nat → Int} {H : Heap} {locs : List Loc} {ws : va_W} {tys : List (ClassId × FieldType)} {ls : Array Slot} {h : eH} {cs sl pc idx ci : Nat} {C : String} {T : u_T} {N : Nat} {fs : List eV} {rest : List Value} {Q : State → Prop} (hx : p.tables.exec = Jvm.exec) (hb : c.code = code) (hown : s.vm.findClass R_law = some m.cls) (hts : ∀ w ∈ lw_g, w.before #[Value.ref b] s = true) (h0 : σ 0 = 0) (hW : lWd D s σ h H locs ws tys) (hc : tCl[ci]? = some (C, T, N)) (hfs : tDf[ci]? = some fs) (w1 : Cond.classLink R_law idx C ∈ lw_g) (w2 : Cond.instantiable C N ∈ lw_g) (w3 : Cond.initialized C ∈ lw_g) (hcs : cs + 1 ≤ 600000) (hsl : sl + N ≤ 7302250) (hdg : decode code pc = .ok (.new idx, 3))
    (kk : ∀ (q : Nat) (H1 : Heap) (ws' : va_W), ws'.map Prod.fst = ws.map Prod.fst ++ [q] → lWd D s σ (h ++ [.inl (ci, fs)]) H1 locs ws' tys → W p l e room_1 s m #[Value.ref b] below meth c H1 locs (cs + 1) (sl + N) Q (F0 m (pc + 3) ls (.ref q :: rest))) : W p l e room_1 s m #[Value.ref b] below meth c H locs cs sl Q (F0 m pc ls rest) := by
  obtain ⟨hK, hP, hD, hS, hh⟩ := hW
  obtain ⟨hin1, ty, hty, hnm, hdf⟩ := tKl ci C T N hc
  obtain ⟨hlen, vs, hvs, hdv⟩ := hdf fs hfs
  refine va_new hx hb hts hin1 ty hty hown (hts _ w1) (hts _ w2) (hts _ w3) hK hP hD hS (fun _ z => z) hc hdv hcs hsl hdg (fun q H1 hP hD hS => ?_)
  have e1 : (ws ++ [(q, (.inr (ci, vs) : va_E))]).map Prod.fst = ws.map Prod.fst ++ [q] := by simp
  exact kk q H1 _ e1 ⟨hK, hP, hD, hS, eAll_app (eAll_mono (fun _ _ => eCk_ad ⟨[q], e1⟩ ⟨[], by simp⟩) hh) ⟨⟨vs, rfl, hvs _ _ h0⟩, trivial⟩⟩
theorem nsOk : ∀ q ∈ tNs, Cond.methodLinkNest q.1 q.2.1 q.2.2.1 q.2.2.2 ∈ lw_tbl := List.forall_mem_cons.mpr ⟨kW_ok (c := 1032) (by decide +kernel), List.forall_mem_cons.mpr ⟨kW_ok (c := 1038) (by decide +kernel), List.forall_mem_cons.mpr ⟨kW_ok (c := 2063) (by decide +kernel), List.forall_mem_cons.mpr ⟨kW_ok (c := 2118) (by decide +kernel), List.forall_mem_cons.mpr ⟨kW_ok (c := 2199) (by decide +kernel), List.forall_mem_cons.mpr ⟨kW_ok (c := 4082) (by decide +kernel), List.forall_mem_cons.mpr ⟨kW_ok (c := 4134) (by decide +kernel), List.forall_mem_cons.mpr ⟨kW_ok (c := 5057) (by decide +kernel), List.forall_mem_cons.mpr ⟨kW_ok (c := 5070) (by decide +kernel), List.forall_mem_cons.mpr ⟨kW_ok (c := 5112) (by decide +kernel), List.forall_mem_cons.mpr ⟨kW_ok (c := 5197) (by decide +kernel), List.forall_mem_cons.mpr ⟨kW_ok (c := 5235) (by decide +kernel), fun _ h => absurd h List.not_mem_nil⟩⟩⟩⟩⟩⟩⟩⟩⟩⟩⟩⟩
theorem avOk : Cond.arrayOver (.array .int) ∈ lw_tbl := kW_ok (c := 1043) (by decide +kernel)
def tTm : Nat → Term := fun _ => Term.string "FuseTreaty$Tokens" 29
theorem flE : ∀ j : Nat, j < 116 → (flatC (Jvm.Cond.and given_1 narrow_1))[13 + j]? = some (Cond.eq (.elem (.field (Term.string "FuseTreaty$Tokens" 29) "java/lang/String" "value" "[B") (.int (Int32.ofNat j))) (.int ((tByt.getD 0 []).getD j 0))) := by decide +kernel
theorem strOk : Cond.stringRef "FuseTreaty$Tokens" 29 tTx ∈ lw_tbl := kW_ok (c := 1174) (by decide +kernel)
theorem law_out {L : Nat} (C0 : lw_At p s m meth c b L xs) : ∃ adK adV : Nat → Nat, tFz adK adV (fun q => s.heap.size ≤ q) s s.heap := by
  obtain ⟨hx, hb, hr, hml, hown, hts, hX, hbl, hlocks, hgv⟩ := C0
  have hf := flat_of_before _ hgv
  have hA : ∀ a : Nat, a < s.heap.size → ¬ (fun q : Nat => s.heap.size ≤ q) a := fun a ha => Nat.not_le.mpr ha
  have i0 : ∀ i : Nat, i < 1 → i = 0 := fun i hi => by omega
  obtain ⟨adK, adV, h1, h2⟩ := vk_Sof (args := #[Value.ref b]) (s := s) (N := 1) (tm := tTm) (len := tLen) (byt := tByt) (A := fun q => s.heap.size ≤ q)
    (fun i hi => by rw [i0 i hi]; decide)
    (fun i hi => by rw [i0 i hi]; exact hf _ (List.mem_of_getElem? (i := 9) (by decide +kernel)))
    (fun i hi => by rw [i0 i hi]; exact hf _ (List.mem_of_getElem? (i := 10) (by decide +kernel)))
    (fun i hi => by rw [i0 i hi]; exact hf _ (List.mem_of_getElem? (i := 11) (by decide +kernel)))
    (fun i hi => by rw [i0 i hi]; exact hf _ (List.mem_of_getElem? (i := 12) (by decide +kernel)))
    (fun i hi j hj => by rw [i0 i hi] at hj ⊢; exact hf _ (List.mem_of_getElem? (flE j hj)))
    (fun i j hi hj hij => absurd ((i0 i hi).trans (i0 j hj).symm) hij) hA
  refine ⟨adK, adV, h1, ?_, ?_, ?_⟩
  · exact va_Zof (hts _ (kW_ok (c := 1184) (by decide +kernel))) (hts _ (kW_ok (c := 1005) (by decide +kernel))) (va_eqt (hf _ (List.mem_of_getElem? (i := 4) (by decide +kernel)))) hA
  · exact va_Zqof (hts _ (kW_ok (c := 1200) (by decide +kernel))) (hts _ (kW_ok (c := 1007) (by decide +kernel))) (hf _ (List.mem_of_getElem? (i := 5) (by decide +kernel))) hA
  · exact vk_R.of (hts _ strOk) (h2 0 (by decide))
theorem law_K {args : Array Value} (hts : ∀ w ∈ lw_g, w.before args s = true) : ∃ D : va_G, va_K D tCl [] s := by
  obtain ⟨c0, iS0, hKn0⟩ := u_known (C := RX0) (T := TX0) (N := 4) (n := 4) hts (tKl 0 _ _ _ rfl).1 (hts (.instantiable RX0 4) (kIs_ok (c := 2141) (by decide +kernel)))
  obtain ⟨c1, iS1, hKn1⟩ := u_known (C := RX1) (T := TX1) (N := 5) (n := 5) hts (tKl 1 _ _ _ rfl).1 (hts (.instantiable RX1 5) (kIs_ok (c := 2193) (by decide +kernel)))
  obtain ⟨c2, iS2, hKn2⟩ := u_known (C := RX2) (T := TX2) (N := 7) (n := 7) hts (tKl 2 _ _ _ rfl).1 (hts (.instantiable RX2 7) (kIs_ok (c := 2009) (by decide +kernel)))
  obtain ⟨c3, iS3, hKn3⟩ := u_known (C := RX3) (T := TX3) (N := 16) (n := 16) hts (tKl 3 _ _ _ rfl).1 (hts (.instantiable RX3 16) (kIs_ok (c := 1031) (by decide +kernel)))
  obtain ⟨c4, iS4, hKn4⟩ := u_known (C := RX4) (T := TX4) (N := 6) (n := 6) hts (tKl 4 _ _ _ rfl).1 (hts (.instantiable RX4 6) (kIs_ok (c := 1037) (by decide +kernel)))
  obtain ⟨c5, iS5, hKn5⟩ := u_known (C := RX5) (T := TX5) (N := 6) (n := 6) hts (tKl 5 _ _ _ rfl).1 (hts (.instantiable RX5 6) (kIs_ok (c := 2037) (by decide +kernel)))
  obtain ⟨c6, iS6, hKn6⟩ := u_known (C := RX6) (T := TX6) (N := 5) (n := 5) hts (tKl 6 _ _ _ rfl).1 (hts (.instantiable RX6 5) (kIs_ok (c := 2117) (by decide +kernel)))
  obtain ⟨c7, iS7, hKn7⟩ := u_known (C := RX7) (T := TX7) (N := 9) (n := 9) hts (tKl 7 _ _ _ rfl).1 (hts (.instantiable RX7 9) (kIs_ok (c := 2062) (by decide +kernel)))
  obtain ⟨c8, iS8, hKn8⟩ := u_known (C := RX8) (T := TX8) (N := 6) (n := 6) hts (tKl 8 _ _ _ rfl).1 (hts (.instantiable RX8 6) (kIs_ok (c := 1169) (by decide +kernel)))
  obtain ⟨c9, iS9, hKn9⟩ := u_known (C := RX9) (T := TX9) (N := 4) (n := 4) hts (tKl 9 _ _ _ rfl).1 (hts (.instantiable RX9 4) (kIs_ok (c := 2217) (by decide +kernel)))
  obtain ⟨c10, iS10, hKn10⟩ := u_known (C := RX10) (T := TX10) (N := 6) (n := 6) hts (tKl 10 _ _ _ rfl).1 (hts (.instantiable RX10 6) (kIs_ok (c := 2147) (by decide +kernel)))
  obtain ⟨c11, iS11, hKn11⟩ := u_known (C := RX11) (T := TX11) (N := 13) (n := 13) hts (tKl 11 _ _ _ rfl).1 (hts (.instantiable RX11 13) (kIs_ok (c := 1023) (by decide +kernel)))
  obtain ⟨c12, iS12, hKn12⟩ := u_known (C := RX12) (T := TX12) (N := 69) (n := 69) hts (tKl 12 _ _ _ rfl).1 (hts (.instantiable RX12 69) (kIs_ok (c := 6007) (by decide +kernel)))
  obtain ⟨dC, dI, hKc⟩ : ∃ (dC : Nat → ClassId) (dI : Nat → Nat → Nat), ∀ (k : Nat) (q : vw_C), tCl[k]? = some q → u_Kn s q.1 q.2.1 q.2.2 (dC k) (dI k) := by
    refine ⟨fun k => if k = 0 then c0 else if k = 1 then c1 else if k = 2 then c2 else if k = 3 then c3 else if k = 4 then c4 else if k = 5 then c5 else if k = 6 then c6 else if k = 7 then c7 else if k = 8 then c8 else if k = 9 then c9 else if k = 10 then c10 else if k = 11 then c11 else c12, fun k => if k = 0 then iS0 else if k = 1 then iS1 else if k = 2 then iS2 else if k = 3 then iS3 else if k = 4 then iS4 else if k = 5 then iS5 else if k = 6 then iS6 else if k = 7 then iS7 else if k = 8 then iS8 else if k = 9 then iS9 else if k = 10 then iS10 else if k = 11 then iS11 else iS12, ?_⟩
    intro k q hq
    match k, hq with
    | 0, hq => cases hq; exact hKn0
    | 1, hq => cases hq; exact hKn1
    | 2, hq => cases hq; exact hKn2
    | 3, hq => cases hq; exact hKn3
    | 4, hq => cases hq; exact hKn4
    | 5, hq => cases hq; exact hKn5
    | 6, hq => cases hq; exact hKn6
    | 7, hq => cases hq; exact hKn7
    | 8, hq => cases hq; exact hKn8
    | 9, hq => cases hq; exact hKn9
    | 10, hq => cases hq; exact hKn10
    | 11, hq => cases hq; exact hKn11
    | 12, hq => cases hq; exact hKn12
    | k + 13, hq => simp [tCl] at hq
  exact ⟨(dC, dI), hKc, fun k q h => by simp at h⟩
set_option maxHeartbeats 4000000 in
/-- THE LAW, from its entry -/
theorem whole_start {p : Program} {e : Env} {s : State} {m : MethodId} {below : List Frame} {meth : Method} {c : Code} (l : Launch) (hflags : l.flags = flags0) {b L : Nat} {xs : Nat → Int32} (hL : L ≤ 3072) (C0 : lw_At p s m meth c b L xs) : W p l e room_1 s m #[Value.ref b] below meth c s.heap [] 0 0 (lw_Z below #[Value.ref b] s) (entryFrame m ([Value.ref b] : List Value).toArray 4) := by
  obtain ⟨adK, adV, hFz⟩ := law_out C0
  obtain ⟨hx, hb, hr, hml, hown, hts0, hX, hbl, hlocks, hgv⟩ := id C0
  have hts := lgt hts0
  have hXt : eXt tNs s := ⟨fun q hq => va_Nw.of rfl (hts0 _ (nsOk q hq)), hts0 _ avOk⟩
  obtain ⟨D, hK⟩ := law_K hts
  have hbA : ¬ (fun q : Nat => s.heap.size ≤ q) b := Nat.not_le.mpr hbl
  have hs0 : eSg [(0, 0)] (fun _ => 0) := ⟨rfl, fun j q hq => by
    have hz : j < 1 := (List.getElem?_eq_some_iff.mp hq).1
    rw [show j = 0 by omega] at hq
    cases hq
    exact ⟨Int.le_refl _, Int.le_refl _⟩⟩
  have hW : lWd D s (fun _ => 0) [] s.heap [] [] [] := ⟨hK, fun k q h => by simp at h, ⟨fun i j p q h => by simp at h, fun k q h => by simp at h⟩, va_S.rf, trivial⟩
  have hl := lv_entry ([.ref b]) (n := 4) (Nat.le_of_ble_eq_true rfl)
  rw [lg_entry_eq]
  generalize (lg_sl ([.ref b]) ++ List.replicate (4 - (lg_sl ([.ref b])).length) Slot.unset).toArray = ls at hl ⊢
  have hl : lv_has ls 4 [(0, .ref b)] := hl
  refine law_new (σ := fun _ => 0) (ci := 11) (fs := (tDf[11]?).getD []) hx hb hown hts rfl hW rfl rfl (kIs_ok (c := 1022) (by decide +kernel)) (kIs_ok (c := 1023) (by decide +kernel)) (kIs_ok (c := 1001) (by decide +kernel)) (by omega) (by omega) dl_0 (fun q0 H1 ws1 ha1 hW1 => ?_)
  refine lv_dup hx hb dl_3 rfl ?_
  refine law_init (N := tM242) (Y := tY242) (adK := adK) (adV := adV) hx hb hml hown hts hXt hFz hs0 hW1 hl.1 (tInit1_ok l adK adV) rfl rfl rfl (kIs_ok (c := 1024) (by decide +kernel)) rfl rfl (kIs_ok (c := 1025) (by decide +kernel)) (by rw [ha1]; rfl) (Nat.le_of_ble_eq_true rfl) (by decide) (by decide) dl_4 (fun o ho w H2 locs2 ws2 tys2 hov2 hpre2 hW2 => ?_)
  rw [List.mem_singleton] at ho
  subst ho
  have hax : (ws2.map Prod.fst)[0]? = some q0 := lw_ad (by rw [ha1]; rfl) hpre2
  have hlen2 : ws2.length = 70 := by rw [← eAll_len hW2.2.2.2.2]; rfl
  cases w with
  | some w => exact hov2.elim
  | none =>
    refine lv_astore_n (lv' := [(1, .ref q0), (0, .ref b)]) hx hb dl_7 rfl hl (by decide) rfl (fun ls hl => ?_)
    refine law_new (σ := fun _ => 0) (ci := 12) (fs := (tDf[12]?).getD []) hx hb hown hts rfl hW2 rfl rfl (kIs_ok (c := 6006) (by decide +kernel)) (kIs_ok (c := 6007) (by decide +kernel)) (kIs_ok (c := 1019) (by decide +kernel)) (by decide) (by decide) dl_8 (fun q1 H3 ws3 ha3 hW3 => ?_)
    refine lv_dup hx hb dl_11 rfl ?_
    have ham3 : (ws3.map Prod.fst)[70]? = some q1 := by
      rw [ha3, List.getElem?_append_right (by rw [List.length_map, hlen2]; omega), List.length_map, hlen2]
      rfl
    refine law_init (N := tM0) (Y := tY0) (adK := adK) (adV := adV) hx hb hml hown hts hXt hFz hs0 hW3 hl.1 (tInit2_ok l adK adV) rfl rfl rfl (kIs_ok (c := 6008) (by decide +kernel)) rfl rfl (kIs_ok (c := 6009) (by decide +kernel)) ham3 (Nat.le_of_ble_eq_true rfl) (by decide) (by decide) dl_12 (fun o ho w H4 locs4 ws4 tys4 hov4 hpre4 hW4 => ?_)
    rw [List.mem_singleton] at ho
    subst ho
    have hax4 : (ws4.map Prod.fst)[0]? = some q0 := lw_ad (lw_ad hax ⟨_, ha3⟩) hpre4
    have ham4 : (ws4.map Prod.fst)[70]? = some q1 := lw_ad ham3 hpre4
    cases w with
    | some w => exact hov4.elim
    | none =>
      refine lv_astore_n (lv' := [(2, .ref q1), (1, .ref q0), (0, .ref b)]) hx hb dl_15 rfl hl (by decide) rfl (fun ls hl => ?_)
      refine lv_iconst (v := 0) hx hb dl_16 (by decide) ?_
      refine lv_istore_n (lv' := [(3, .int 0), (2, .ref q1), (1, .ref q0), (0, .ref b)]) hx hb dl_17 rfl hl (by decide) rfl (fun ls hl => ?_)
      have hl : lv_has ls 4 [(0, .ref b), (1, .ref q0), (2, .ref q1), (3, .int 0)] := lv_sub hl [3, 2, 1, 0] rfl
      obtain ⟨zc, zo, z1, z2⟩ := z_ok (σ := fun _ => 0) rfl hW4.2.2.2.2
      have hWc : lWc D s (zM ws4) H4 locs4 (zW ws4) tys4 := ⟨hW4.1, zW_P hW4.2.1, zW_D hW4.2.2.1, hW4.2.2.2.1, by rw [zW_fst]; exact zc⟩
      exact law_loop ⟨C0, hXt, hFz⟩ hL (by decide) (by decide) (L + 1) 0 (zM ws4) H4 locs4 (zW ws4) tys4 ls zo ⟨z_rq (σ := fun _ => 0) rfl hW4.2.2.2.2, z_fr (σ := fun _ => 0) rfl hW4.2.2.2.2⟩ hWc (by rw [zW_fst]; exact hax4) (by rw [zW_fst]; exact ham4) hl ⟨by decide, by show (0 : Int) ≤ L; omega⟩ (by show (L : Int) - 0 < ((L + 1 : Nat) : Int); omega)
end LWS
end
