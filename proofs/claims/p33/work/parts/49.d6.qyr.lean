/-! QUESTIONS, exactly: year, together -/
/-- so many hours by this seed, and none goes -/
def clm (H : Ho) (e : Int32) : Nat → Zt → Bool
  | 0, _ => true
  | n + 1, T => if (wgo H T (sgA H e (szH T))).toInt = 0 then clm H e n (wsz H T (sgA H e (szH T))) else false
def yrS (H : Ho) (S : Zt) (n : Nat) : Nat → Int32
  | 0 => 0
  | k + 1 => yrS H S n k + bi (clm H (hoE H + Int32.ofInt (k : Int)) n S)
def aYr (H : Ho) (S : Zt) (x1 x2 : Int32) : Int32 := if (0 ≤ x1.toInt ∧ x1.toInt ≤ 72) ∧ 1 ≤ x2.toInt ∧ x2.toInt ≤ 20 then yrS H S x1.toNatClampNeg x2.toNatClampNeg else -1
section QYR
variable {H : Ho} {S : Zt} {P : List Zt} {L : Nat → Zt} {m : dM} {s : Nat} {x1 x2 x3 : Int32}
theorem clm_s {e : Int32} {n : Nat} {T : Zt} : clm H e (n + 1) T = if (wgo H T (sgA H e (szH T))).toInt = 0 then clm H e n (wsz H T (sgA H e (szH T))) else false := rfl
theorem yrS_s {n k : Nat} : yrS H S n (k + 1) = yrS H S n k + bi (clm H (hoE H + Int32.ofInt (k : Int)) n S) := rfl
theorem ea_calm {n : Nat} {Q : Int32 → dM → Prop} {M : dM} (hq : QC H S P L m M) (hO : zOk H S) (h1 : x1.toInt = (n : Int)) (hn : n ≤ 72) (hQ : ∀ m' : dM, QC H S P L m m' → Q (bi (clm H x3 n S)) m') : c_X1_isCalm_61_47 6 x1 x3 M Q := by
  have hH := hq.2.1.1
  have loop : ∀ (t i : Nat) (x4 : Int32) (T : Zt) (M : dM), i + t = n → x4.toInt = (i : Int) → QC H S P L m M → CZ 62 M T → zOk H T → clm H x3 t T = clm H x3 n S → j_X1_isCalm_61_47_11 6 x1 x3 x4 M Q := by
    intro t
    induction t with
    | zero =>
      intro i x4 T M hi h4 qM zM hT e
      have e : true = clm H x3 n S := e
      rw [← e] at hQ
      exact v_X1_isCalm_61_47_11 ⟨fun _ => hQ M qM, fun q => by exfalso; omega⟩
    | succ t ih =>
      intro i x4 T M hi h4 qM zM hT e
      rw [clm_s] at e
      refine v_X1_isCalm_61_47_11 ⟨fun q => by exfalso; omega, fun _ => ?_⟩
      rw [zM.1.1]
      refine Wp.deep (y_surgeOf qM.2.1.2.1 (y_passWires62 qM.2.1 zM (hT.g1 hH) (fun M2 f2 w2 z2 _ => ⟨fun z => ?_, fun nz => ?_⟩))) (Nat.le_of_ble_eq_true rfl)
      · have z : (wgo H T (sgA H x3 (szH T))).toInt = 0 := z
        rw [if_pos z] at e
        exact ih (i + 1) _ _ M2 (by omega) (d_inc h4 (by omega)) (qM.t62 f2 w2) z2 (hT.w hH _) e
      · have nz : (wgo H T (sgA H x3 (szH T))).toInt ≠ 0 := nz
        rw [if_neg nz] at e
        rw [← e] at hQ
        exact hQ M2 (qM.t62 f2 w2)
  exact v_X1_isCalm_61_47 (Wp.deep (y_copy62 hq (fun M1 q1 z1 => loop n 0 _ S M1 (by omega) (by decide) q1 z1 hO rfl)) (Nat.le_of_ble_eq_true rfl))
theorem ea_year {Q : Int32 → dM → Prop} (hK : KC H S P L m) (hO : zOk H S) (hQ : ∀ m' : dM, QC H S P L m m' → Q (aYr H S x1 x2) m') : c_X11_year_0 8 x1 x2 m Q := by
  have q0 := QC.rf hK
  have hQ' : ∀ (v : Int32) (m' : dM), aYr H S x1 x2 = v → QC H S P L m m' → Q v m' := fun v m' e q => by rw [← e]; exact hQ m' q
  have no : ¬ ((0 ≤ x1.toInt ∧ x1.toInt ≤ 72) ∧ 1 ≤ x2.toInt ∧ x2.toInt ≤ 20) → j_X11_year_0_21 8 m Q := fun q => v_X11_year_0_21 (hQ' _ m (by unfold aYr; rw [if_neg q]) q0)
  refine v_X11_year_0 ⟨fun q => no (by omega), fun p1 => ⟨fun q => no (by omega), fun p2 => ⟨fun q => no (by omega), fun p3 => ⟨fun p4 => ?_, fun q => no (by omega)⟩⟩⟩⟩
  have h1 := toNat_of p1
  have h2 := toNat_of (x := x2) (by omega)
  have eA : aYr H S x1 x2 = yrS H S x1.toNatClampNeg x2.toNatClampNeg := by unfold aYr; rw [if_pos ⟨⟨p1, p2⟩, p3, p4⟩]
  have loop : ∀ (t k : Nat) (x5 : Int32) (M : dM), k + t = x2.toNatClampNeg → x5.toInt = (k : Int) → QC H S P L m M → j_X1_calmSeeds_61_47_6 7 x1 x2 (yrS H S x1.toNatClampNeg k) x5 M Q := by
    intro t
    induction t with
    | zero =>
      intro k x5 M hk h5 qM
      have ek : k = x2.toNatClampNeg := by omega
      rw [ek]
      exact v_X1_calmSeeds_61_47_6 ⟨fun _ => hQ' _ M eA qM, fun q => by exfalso; omega⟩
    | succ t ih =>
      intro k x5 M hk h5 qM
      have n := ih (k + 1)
      rw [yrS_s, ofI h5] at n
      have e26 : M.1 2 6 = hoE H := qM.2.1.2.1.2.2.2.2.2.1.2.2.2
      refine v_X1_calmSeeds_61_47_6 ⟨fun q => by exfalso; omega, fun _ => ?_⟩
      rw [e26]
      refine ea_calm qM hO h1 (by omega) (fun M1 q1 => ⟨fun z => ?_, fun nz => ?_⟩)
      · rw [bi_eq0 z] at n
        exact n _ M1 (by omega) (d_inc h5 (by omega)) q1
      · rw [bi_ne0 nz] at n
        exact n _ M1 (by omega) (d_inc h5 (by omega)) q1
  exact v_X1_calmSeeds_61_47 (loop x2.toNatClampNeg 0 _ m (by omega) (by decide) q0)
theorem e_hourS {Q : dM → Prop} {M : dM} {T T0 : Zt} {e : Int32} (hC : CY H T s M) (hO : zOk H T) (hF : RsF m M) (h56 : M.1 70 56 = e) (h57 : M.1 70 57 = 0) (hw : Wl T0 T) (hQ : ∀ (T' : Zt) (m' : dM), RsF m m' → CY H T' s m' → zOk H T' → m'.1 70 56 = e → m'.1 70 57 = 0 → Wl (wsz H T0 (sgA H e (szH T0))) T' → m'.1 70 60 = wgo H T0 (sgA H e (szH T0)) → Q m') : c_X12_hourGoes_70 6 M Q :=
  y_hourGoes hC.1 hC.2.1 hC.2.2 hO (fun M1 f1 W1 g1 Z1 L1 => by
    have e0 : mor H T M = sgA H e (szH T0) := by
      unfold mor
      rw [h57, h56, decide_eq_false (fun q => q ti_0), cond_false, hw.1]
    rw [e0] at g1 Z1 L1
    exact hQ _ M1 (hF.tr f1.rs) ⟨W1, Z1, L1⟩ (zOk.hh hC.1.1 hO _) (by rw [f1.2.1 56 (by decide) (by decide)]; exact h56) (by rw [f1.2.1 57 (by decide) (by decide)]; exact h57) hw.p.w (g1.trans (hw.go (H := H)).symm))
theorem eb_year {Q : Int32 → dM → Prop} (hK : KR H S P L s m) (hO : zOk H S) (hQ : ∀ m' : dM, RsF m m' → Q (aYr H S x1 x2) m') : c_X12_year_70 7 x1 x2 m Q := by
  have hQ' : ∀ (v : Int32) (m' : dM), aYr H S x1 x2 = v → RsF m m' → Q v m' := fun v m' e q => by rw [← e]; exact hQ m' q
  have e1 := ti_1
  have e20 := ti_20
  have e0 := ti_0
  have no : ¬ ((0 ≤ x1.toInt ∧ x1.toInt ≤ 72) ∧ 1 ≤ x2.toInt ∧ x2.toInt ≤ 20) → j_X12_year_70_17 7 m Q := fun q => v_X12_year_70_17 (hQ' _ m (by unfold aYr; rw [if_neg q]) (RsF.rf m))
  refine v_X12_year_70 (Wp.deep (y_isLong (fun h => ⟨fun z => absurd z (by decide), fun _ => Wp.deep (y_in (fun h2 => ⟨fun _ => ?_, fun z => absurd z (by decide)⟩) (fun q => ⟨fun z => absurd rfl z, fun _ => no (by omega)⟩)) (Nat.le_of_ble_eq_true rfl)⟩) (fun q => ⟨fun _ => no (by omega), fun z => absurd rfl z⟩)) (Nat.le_of_ble_eq_true rfl))
  have h1 := toNat_of h.1
  have hx2 := toNat_of (x := x2) (by omega)
  have eA : aYr H S x1 x2 = yrS H S x1.toNatClampNeg x2.toNatClampNeg := by unfold aYr; rw [if_pos (by omega)]
  have l24 : ∀ (t k : Nat) (x4 : Int32) (M : dM), k + t = x2.toNatClampNeg → x4.toInt = (k : Int) → RsF m M → j_X12_year_70_24 7 x1 x2 (yrS H S x1.toNatClampNeg k) x4 M Q := by
    intro t
    induction t with
    | zero =>
      intro k x4 M hk h4 fM
      have ek : k = x2.toNatClampNeg := by omega
      rw [ek]
      exact v_X12_year_70_24 ⟨fun _ => hQ' _ M eA fM, fun q => by exfalso; omega⟩
    | succ t ih =>
      intro k x4 M hk h4 fM
      have hKM := hK.rs fM
      have n := ih (k + 1)
      rw [yrS_s, ofI h4] at n
      have l85 : ∀ (y : Int32) (M1 : dM), y = yrS H S x1.toNatClampNeg k + bi (clm H (hoE H + x4) x1.toNatClampNeg S) → RsF m M1 → j_X12_year_70_85 7 x1 x2 y x4 M1 Q := fun y M1 e f1 => by
        rw [e]
        exact v_X12_year_70_85 (n _ M1 (by omega) (d_inc h4 (by omega)) f1)
      have lz : clm H (hoE H + x4) x1.toNatClampNeg S = false → ∀ (t2 i : Nat) (x6 : Int32) (T : Zt) (M2 : dM), i + t2 = x1.toNatClampNeg → x6.toInt = (i : Int) → RsF m M2 → CY H T s M2 → zOk H T → j_X12_year_70_51 7 x1 x2 (yrS H S x1.toNatClampNeg k) x4 0 x6 M2 Q := by
        intro ef t2
        induction t2 with
        | zero =>
          intro i x6 T M2 hi h6 f2 c2 hT
          exact v_X12_year_70_51 ⟨fun _ => ⟨fun _ => l85 _ M2 (by rw [ef]; exact (Int32.add_zero _).symm) f2, fun z => absurd e0 z⟩, fun q => by exfalso; omega⟩
        | succ t2 ih2 =>
          intro i x6 T M2 hi h6 f2 c2 hT
          exact v_X12_year_70_51 ⟨fun q => by exfalso; omega, fun _ => r_hour c2 hT f2 (fun T' M3 f3 c3 h3 => ⟨fun _ => v_X12_year_70_71 (ih2 (i + 1) _ T' M3 (by omega) (d_inc h6 (by omega)) f3 c3 h3), fun _ => v_X12_year_70_71 (ih2 (i + 1) _ T' M3 (by omega) (d_inc h6 (by omega)) f3 c3 h3)⟩)⟩
      have l51 : ∀ (t2 i : Nat) (x6 : Int32) (T T0 : Zt) (M2 : dM), i + t2 = x1.toNatClampNeg → x6.toInt = (i : Int) → RsF m M2 → CY H T s M2 → zOk H T → M2.1 70 56 = hoE H + x4 → M2.1 70 57 = 0 → Wl T0 T → clm H (hoE H + x4) t2 T0 = clm H (hoE H + x4) x1.toNatClampNeg S → j_X12_year_70_51 7 x1 x2 (yrS H S x1.toNatClampNeg k) x4 1 x6 M2 Q := by
        intro t2
        induction t2 with
        | zero =>
          intro i x6 T T0 M2 hi h6 f2 c2 hT a6 a7 hw e
          have e : true = clm H (hoE H + x4) x1.toNatClampNeg S := e
          exact v_X12_year_70_51 ⟨fun _ => ⟨fun z => absurd z (by decide), fun _ => l85 _ M2 (by rw [← e]; rfl) f2⟩, fun q => by exfalso; omega⟩
        | succ t2 ih2 =>
          intro i x6 T T0 M2 hi h6 f2 c2 hT a6 a7 hw e
          rw [clm_s] at e
          refine v_X12_year_70_51 ⟨fun q => by exfalso; omega, fun _ => e_hourS c2 hT f2 a6 a7 hw (fun T' M3 f3 c3 h3 b6 b7 w3 g3 => ?_)⟩
          rw [g3]
          refine ⟨fun z => v_X12_year_70_71 ?_, fun nz => v_X12_year_70_71 ?_⟩
          · rw [if_pos z] at e
            exact ih2 (i + 1) _ T' _ M3 (by omega) (d_inc h6 (by omega)) f3 c3 h3 b6 b7 w3 e
          · rw [if_neg nz] at e
            exact lz e.symm t2 (i + 1) _ T' M3 (by omega) (d_inc h6 (by omega)) f3 c3 h3
      refine v_X12_year_70_24 ⟨fun q => by exfalso; omega, fun _ => y_copies hKM.1 hKM.2.1 (fun M1 f1 cy a6 a7 => ?_)⟩
      rw [a6]
      exact l51 x1.toNatClampNeg 0 _ S S _ (by omega) (by decide) ((fM.tr f1).s70 (by decide)) ⟨cy.1.rs ((RsF.rf M1).s70 (by decide)), cy.2.1.of (dSet_k (by decide)), cy.2.2.of (dSet_k (by decide)) (dSet_k (by decide))⟩ hO (dSet_s _ _ _ _) (by rw [dSet_j (by decide)]; exact a7) (Wl.rf S) rfl
  exact l24 x2.toNatClampNeg 0 _ m (by omega) (by decide) (RsF.rf m)
/-- the uses of flats that are lit -/
def ulB (H : Ho) (S : Zt) : Int32 := bs (fun u => lt H (szG S) (hoH H u)) (hoU H)
/-- the best of the first so many sets, and what it pays -/
def tgB (H : Ho) (S : Zt) : Nat → Int32 × Int32
  | 0 => (0, 0)
  | j + 1 => if (Int32.ofInt ((j + 1 : Nat) : Int) &&& (ulB H S ^^^ (-1 : Int32))).toInt = 0 ∧ (tgB H S j).2.toInt < (pyS H S (Int32.ofInt ((j + 1 : Nat) : Int)) (hoU H)).toInt ∧ (gng H S (Int32.ofInt ((j + 1 : Nat) : Int)) (hod (szH S)) 0).toInt = 0 then (Int32.ofInt ((j + 1 : Nat) : Int), pyS H S (Int32.ofInt ((j + 1 : Nat) : Int)) (hoU H)) else tgB H S j
def tgN (H : Ho) : Nat := (b1 (hoU H)).toNatClampNeg - 1
def aTg (H : Ho) (S : Zt) (x1 : Int32) : Int32 := if 0 ≤ x1.toInt ∧ x1.toInt ≤ 1 then (if x1.toInt = 0 then (tgB H S (tgN H)).2 else (tgB H S (tgN H)).1) else -1
theorem tgB_s {j : Nat} : tgB H S (j + 1) = if (Int32.ofInt ((j + 1 : Nat) : Int) &&& (ulB H S ^^^ (-1 : Int32))).toInt = 0 ∧ (tgB H S j).2.toInt < (pyS H S (Int32.ofInt ((j + 1 : Nat) : Int)) (hoU H)).toInt ∧ (gng H S (Int32.ofInt ((j + 1 : Nat) : Int)) (hod (szH S)) 0).toInt = 0 then (Int32.ofInt ((j + 1 : Nat) : Int), pyS H S (Int32.ofInt ((j + 1 : Nat) : Int)) (hoU H)) else tgB H S j := rfl
theorem pyS_0 : ∀ n : Nat, pyS H S 0 n = 0
  | 0 => rfl
  | n + 1 => by
    rw [show pyS H S 0 (n + 1) = cond (bt 0 n) (pyS H S 0 n + pyu H S n) (pyS H S 0 n) from rfl, bt_0, cond_false]
    exact pyS_0 n
theorem tgB_p : ∀ j : Nat, pyS H S (tgB H S j).1 (hoU H) = (tgB H S j).2
  | 0 => pyS_0 _
  | j + 1 => by
    rw [tgB_s]
    split
    · rfl
    · exact tgB_p j
theorem ea_payAll {Q : Int32 → dM → Prop} {M : dM} (hW : CW H M) (h66 : ∀ u : Nat, u < hoU H → M.1 66 u = pyu H S u) (hQ : Q (pyS H S x1 (hoU H)) M) : c_X1_payOfAll_61 2 x1 M Q := by
  have u8 := hW.1.2.2.1
  have e22 := hW.2.1.2.1
  have loop : ∀ (t u : Nat) (x3 : Int32), u + t = hoU H → x3.toInt = (u : Int) → j_X1_payOfAll_61_4 2 x1 (pyS H S x1 u) x3 M Q := by
    intro t
    induction t with
    | zero =>
      intro u x3 hu h3
      rw [show u = hoU H by omega]
      exact v_X1_payOfAll_61_4 ⟨fun _ => hQ, fun q => by exfalso; omega⟩
    | succ t ih =>
      intro u x3 hu h3
      have n := ih (u + 1) _ (by omega) (d_inc h3 (by omega))
      rw [show pyS H S x1 (u + 1) = cond (bt x1 u) (pyS H S x1 u + pyu H S u) (pyS H S x1 u) from rfl] at n
      refine v_X1_payOfAll_61_4 ⟨fun q => by exfalso; omega, fun _ => y_has h3 (by omega) (fun b => ⟨fun z => absurd z (by decide), fun _ => ⟨by omega, ?_⟩⟩) (fun b => ⟨fun _ => ?_, fun z => absurd rfl z⟩)⟩
      · rw [b, cond_true] at n
        rw [d_cn h3, h66 u (by omega)]
        exact n
      · rw [b, cond_false] at n
        rw [Int32.add_zero]
        exact n
  exact v_X1_payOfAll_61 (loop (hoU H) 0 _ (by omega) (by decide))
theorem ea_goingWith {on : Int32} {Q : Int32 → dM → Prop} {M : dM} (hq : QC H S P L m M) (hO : zOk H S) (hQ : ∀ m' : dM, QC H S P L m m' → m'.1 66 = M.1 66 → Q (gng H S on (hod (szH S)) 0) m') : c_X0_goingWith_54_47 5 on M Q := by
  refine v_X0_goingWith_54_47 (Wp.deep (y_putOn47 hq.2.1 hq.2.2.1 (hO.g1 hq.2.1.1) (fun M2 f2 w2 l2 d2 => v_X7_hourOfDay_47 ?_)) (Nat.le_of_ble_eq_true rfl))
  have q2 := hq.sc f2 w2
  rw [q2.2.2.1.1.1]
  exact y_going47 w2 q2.2.2.1 d2 (fun M3 f3 => hQ M3 (q2.va f3) ((f3.1 66 (by decide) (by decide) (by decide)).trans (f2.1 66 (by decide) (by decide) (by decide))))
theorem ea_together {Q : Int32 → dM → Prop} (hK : KC H S P L m) (hO : zOk H S) (hQ : ∀ m' : dM, QC H S P L m m' → Q (aTg H S x1) m') : c_X11_together_0 7 x1 m Q := by
  have q0 := QC.rf hK
  have f7 := hK.1.1.1
  have u8 := hK.1.1.2.2.1
  have hQ' : ∀ (v : Int32) (m' : dM), aTg H S x1 = v → QC H S P L m m' → Q v m' := fun v m' e q => by rw [← e]; exact hQ m' q
  have no : ¬ (0 ≤ x1.toInt ∧ x1.toInt ≤ 1) → j_X11_together_0_9 7 m Q := fun q => v_X11_together_0_9 (hQ' _ m (by unfold aTg; rw [if_neg q]) q0)
  refine v_X11_together_0 ⟨fun q => no (by omega), fun h0 => ⟨fun h1 => ?_, fun q => no (by omega)⟩⟩
  have eA : aTg H S x1 = (if x1.toInt = 0 then (tgB H S (tgN H)).2 else (tgB H S (tgN H)).1) := by unfold aTg; rw [if_pos ⟨h0, h1⟩]
  have b := b1_le (u := hoU H) (by omega)
  have bn := toNat_of (x := b1 (hoU H)) (by omega)
  have eN : tgN H + 1 = (b1 (hoU H)).toNatClampNeg := by unfold tgN; omega
  have fin : ∀ (M : dM), QC H S P L m M → (∀ u : Nat, u < hoU H → M.1 66 u = pyu H S u) → (x1.toInt ≠ 0 → Q (tgB H S (tgN H)).1 M) ∧ (x1.toInt = 0 → c_X1_payOfAll_61 6 (tgB H S (tgN H)).1 M (fun r2 m2 => Q r2 m2)) := fun M qM h66 => ⟨fun n => hQ' _ M (by rw [eA, if_neg n]) qM, fun z => Wp.deep (ea_payAll qM.2.1 h66 (hQ' _ M (by rw [eA, if_pos z, tgB_p]) qM)) (Nat.le_of_ble_eq_true rfl)⟩
  have l89 : ∀ (t j : Nat) (x6 : Int32) (M : dM), j + t = tgN H → x6.toInt = ((j + 1 : Nat) : Int) → QC H S P L m M → (∀ u : Nat, u < hoU H → M.1 66 u = pyu H S u) → j_X1_bestTogether_61_47_89 6 (ulB H S) (tgB H S j).1 (tgB H S j).2 x6 M (fun r1 m1 => (x1.toInt ≠ 0 → Q r1 m1) ∧ (x1.toInt = 0 → c_X1_payOfAll_61 6 r1 m1 (fun r2 m2 => Q r2 m2))) := by
    intro t
    induction t with
    | zero =>
      intro j x6 M hj h6 qM h66
      have ej : j = tgN H := by omega
      refine v_X1_bestTogether_61_47_89 ?_
      rw [b1_of qM.2.1.2.1.2.1, ej]
      exact ⟨fun _ => fin M qM h66, fun q => by exfalso; omega⟩
    | succ t ih =>
      intro j x6 M hj h6 qM h66
      have n := ih (j + 1)
      rw [tgB_s, ofI h6] at n
      refine v_X1_bestTogether_61_47_89 ?_
      rw [b1_of qM.2.1.2.1.2.1]
      refine ⟨fun q => by exfalso; omega, fun q => ⟨fun ns => v_X1_bestTogether_61_47_148 ?_, fun es => Wp.deep (ea_payAll qM.2.1 h66 ⟨fun le => v_X1_bestTogether_61_47_148 ?_, fun l => ea_goingWith qM hO (fun M2 q2 e66 => ⟨fun gn => v_X1_bestTogether_61_47_148 ?_, fun ge => Wp.deep (ea_payAll (S := S) q2.2.1 (fun u hu => by rw [e66]; exact h66 u hu) (v_X1_bestTogether_61_47_148 ?_)) (Nat.le_of_ble_eq_true rfl)⟩)⟩) (Nat.le_of_ble_eq_true rfl)⟩⟩
      · rw [if_neg (fun w => ns w.1)] at n
        exact n _ M (by omega) (d_inc h6 (by omega)) qM h66
      · rw [if_neg (fun w => by have := w.2.1; omega)] at n
        exact n _ M (by omega) (d_inc h6 (by omega)) qM h66
      · rw [if_neg (fun w => gn w.2.2)] at n
        exact n _ M2 (by omega) (d_inc h6 (by omega)) q2 (fun u hu => by rw [e66]; exact h66 u hu)
      · rw [if_pos ⟨es, l, ge⟩] at n
        exact n _ M2 (by omega) (d_inc h6 (by omega)) q2 (fun u hu => by rw [e66]; exact h66 u hu)
  refine v_X1_bestTogether_61_47 (Wp.deep (k_ways q0 hO (fun M q1 l1 => ?_)) (Nat.le_of_ble_eq_true rfl))
  have l17 : ∀ (t u : Nat) (x4 : Int32) (M' : dM), u + t = hoU H → x4.toInt = (u : Int) → QC H S P L m M' → (∀ v : Nat, v < u → M'.1 66 v = pyu H S v) → j_X1_bestTogether_61_47_17 6 (M.1 57 5) (bs (fun u => lt H (szG S) (hoH H u)) u) x4 M' (fun r1 m1 => (x1.toInt ≠ 0 → Q r1 m1) ∧ (x1.toInt = 0 → c_X1_payOfAll_61 6 r1 m1 (fun r2 m2 => Q r2 m2))) := by
    intro t
    induction t with
    | zero =>
      intro u x4 M' hu h4 qM h66
      have e22 := qM.2.1.2.1.2.1
      have eu : u = hoU H := by omega
      rw [eu] at h66 ⊢
      exact v_X1_bestTogether_61_47_17 ⟨fun _ => l89 (tgN H) 0 _ M' (by omega) (by decide) qM h66, fun q => by exfalso; omega⟩
    | succ t ih =>
      intro u x4 M' hu h4 qM h66
      have e22 := qM.2.1.2.1.2.1
      have ho := (hK.1.1.2.2.2.2.1 u (by omega)).1
      have lb := lt_bits l1 ho (by omega)
      have n := ih (u + 1)
      rw [show bs (fun u => lt H (szG S) (hoH H u)) (u + 1) = cond (lt H (szG S) (hoH H u)) (bs (fun u => lt H (szG S) (hoH H u)) u ||| b1 u) (bs (fun u => lt H (szG S) (hoH H u)) u) from rfl, ← lb] at n
      refine v_X1_bestTogether_61_47_17 ⟨fun q => by exfalso; omega, fun _ => Wp.deep (y_pay47 qM.2.1 qM.2.2.1 h4 (by omega) (fun M2 f2 => ⟨by omega, by omega, ?_⟩)) (Nat.le_of_ble_eq_true rfl)⟩
      have q2 : QC H S P L m (dSet M2 66 u (pyu H S u)) := (qM.va f2).s61 (Or.inr rfl)
      have h2 : ∀ v : Nat, v < u + 1 → (dSet M2 66 u (pyu H S u)).1 66 v = pyu H S v := fun v hv => by
        by_cases q : v = u
        · rw [q, dSet_s]
        · rw [dSet_j q, f2.1 66 (by decide) (by decide) (by decide)]; exact h66 v (by omega)
      have hh := ((qM.va f2).2.1.2.1.2.2.2.2.1 u (by omega)).1
      rw [d_cn h4, b1_of h4]
      refine Wp.deep (y_has hh (by omega) (fun g => ⟨fun z => absurd z (by decide), fun _ => ?_⟩) (fun g => ⟨fun _ => ?_, fun z => absurd rfl z⟩)) (Nat.le_of_ble_eq_true rfl)
      · rw [g, cond_true] at n
        exact n _ _ (by omega) (d_inc h4 (by omega)) q2 h2
      · rw [g, cond_false] at n
        rw [Int32.or_zero]
        exact n _ _ (by omega) (d_inc h4 (by omega)) q2 h2
  exact l17 (hoU H) 0 _ M (by omega) (by decide) q1 (fun v hv => absurd hv (Nat.not_lt_zero v))
theorem eb_together {Q : Int32 → dM → Prop} (hK : KR H S P L s m) (hQ : ∀ m' : dM, RsF m m' → Q (aTg H S x1) m') : c_X12_together_70 7 x1 m Q := by
  have u8 := hK.1.1.2.2.1
  have hQ' : ∀ (v : Int32) (m' : dM), aTg H S x1 = v → RsF m m' → Q v m' := fun v m' e q => by rw [← e]; exact hQ m' q
  have e0 := ti_0
  have e1 := ti_1
  refine v_X12_together_70 (Wp.deep (y_in (fun h => ⟨fun _ => y_copies hK.1 hK.2.1 (fun M f cy _ _ => Wp.deep (y_usesLit cy ?_) (Nat.le_of_ble_eq_true rfl)), fun z => absurd z (by decide)⟩) (fun q => ⟨fun z => absurd rfl z, fun _ => hQ' _ m (by unfold aTg; rw [if_neg (by omega)]) (RsF.rf m)⟩)) (Nat.le_of_ble_eq_true rfl))
  have eA : aTg H S x1 = (if x1.toInt = 0 then (tgB H S (tgN H)).2 else (tgB H S (tgN H)).1) := by unfold aTg; rw [if_pos (by omega)]
  have b := b1_le (u := hoU H) (by omega)
  have bn := toNat_of (x := b1 (hoU H)) (by omega)
  have eN : tgN H + 1 = (b1 (hoU H)).toNatClampNeg := by unfold tgN; omega
  have loop : ∀ (t j : Nat) (x5 : Int32) (M : dM), j + t = tgN H → x5.toInt = ((j + 1 : Nat) : Int) → RsF m M → CY H S s M → j_X12_together_70_28 7 x1 (ulB H S) (tgB H S j).1 (tgB H S j).2 x5 M Q := by
    intro t
    induction t with
    | zero =>
      intro j x5 M hj h5 fM cM
      have a := cM.1.2.1.1
      have ej : j = tgN H := by omega
      refine v_X12_together_70_28 ?_
      rw [d_cn a.1, b1_of cM.1.2.2.1, ej]
      exact ⟨by omega, fun _ => ⟨fun n => hQ' _ M (by rw [eA, if_neg n]) fM, fun z => hQ' _ M (by rw [eA, if_pos z]) fM⟩, fun q => by exfalso; omega⟩
    | succ t ih =>
      intro j x5 M hj h5 fM cM
      have a := cM.1.2.1.1
      have n := ih (j + 1)
      rw [tgB_s, ofI h5] at n
      refine v_X12_together_70_28 ?_
      rw [d_cn a.1, b1_of cM.1.2.2.1]
      refine ⟨by omega, fun q => by exfalso; omega, fun q => ⟨fun es => Wp.deep (y_paysAll cM.1 cM.2.1 (fun M1 f1 => ?_)) (Nat.le_of_ble_eq_true rfl), fun ns => v_X12_together_70_101 ?_⟩⟩
      · have c1 := cM.xa f1
        have eh : (M1.1 108 55) - (M1.1 108 55) / (24 : Int32) * (24 : Int32) = hod (szH S) := by rw [c1.2.1.1.1]; rfl
        rw [eh]
        refine ⟨fun le => v_X12_together_70_101 ?_, fun l => Wp.deep (y_goingBits c1.1 c1.2.1 c1.2.2 (fun M2 f2 => ⟨fun ge => v_X12_together_70_101 ?_, fun gn => v_X12_together_70_101 ?_⟩)) (Nat.le_of_ble_eq_true rfl)⟩
        · rw [if_neg (fun w => by have := w.2.1; omega)] at n
          exact n _ M1 (by omega) (d_inc h5 (by omega)) (fM.tr f1.rs) c1
        · rw [if_pos ⟨es, l, ge⟩] at n
          exact n _ M2 (by omega) (d_inc h5 (by omega)) ((fM.tr f1.rs).tr f2.rs) (c1.xa f2)
        · rw [if_neg (fun w => gn w.2.2)] at n
          exact n _ M2 (by omega) (d_inc h5 (by omega)) ((fM.tr f1.rs).tr f2.rs) (c1.xa f2)
      · rw [if_neg (fun w => ns w.1)] at n
        exact n _ M (by omega) (d_inc h5 (by omega)) fM cM
  exact loop (tgN H) 0 _ M (by omega) (by decide) f cy
end QYR
