/-! THE CLASS: the calls that change how it stands -/
def setA (S : Zt) (x : Int32) : Zt := ((szH S, szC S, szQ S, szG S, szP S, x), szR S, szE S, szD S)
def setP (S : Zt) (x : Int32) : Zt := ((szH S, szC S, szQ S, szG S, x, szA S), szR S, szE S, szD S)
def setG (S : Zt) (x : Int32) : Zt := ((szH S, szC S, szQ S, x, szP S, szA S), szR S, szE S, szD S)
def setE (S : Zt) (a : Nat → Int32) : Zt := ((szH S, szC S, szQ S, szG S, szP S, szA S), szR S, a, szD S)
def setR (S : Zt) (a : Nat → Int32) : Zt := ((szH S, szC S, szQ S, szG S, szP S, szA S), a, szE S, szD S)
/-- what each call answers, how it stands then, what is kept -/
abbrev An : Type := Int32 × Zt × List Zt
def aAgr (H : Ho) (S : Zt) (P : List Zt) (x1 x2 : Int32) : An := if (0 ≤ x1.toInt ∧ x1.toInt < (hoU H : Int)) ∧ (bi (bt (szA S) x1.toNatClampNeg)).toInt ≠ x2.toInt then (1, setA S (szA S ^^^ b1 x1.toNatClampNeg), pKeep S P) else (0, S, P)
def aPin (H : Ho) (S : Zt) (P : List Zt) (x1 x2 : Int32) : An := if (0 ≤ x1.toInt ∧ x1.toInt < (hoW H : Int)) ∧ bt (szG S) x1.toNatClampNeg = false ∧ (bi (bt (szP S) x1.toNatClampNeg)).toInt ≠ x2.toInt then (1, setP S (szP S ^^^ b1 x1.toNatClampNeg), pKeep S P) else (0, S, P)
def mnd (S : Zt) (c : Int32) (w : Nat) : Zt := setE (setP (setG (setC S (szC S - c)) (szG S &&& (b1 w ^^^ (-1 : Int32)))) (szP S &&& (b1 w ^^^ (-1 : Int32)))) (upd (szE S) w 0)
def aMnd (H : Ho) (S : Zt) (P : List Zt) (x1 : Int32) : An := if 0 ≤ x1.toInt ∧ x1.toInt < (hoW H : Int) then (if bt (szG S) x1.toNatClampNeg = true ∧ (cst H S x1.toNatClampNeg).toInt ≤ (szC S).toInt then (szC S - cst H S x1.toNatClampNeg, mnd S (cst H S x1.toNatClampNeg) x1.toNatClampNeg, pKeep S P) else (-2, S, P)) else (-1, S, P)
def thk (S : Zt) (c : Int32) (w : Nat) : Zt := setR (setC S (szC S - c)) (upd (szR S) w (szR S w + 1))
def aThk (H : Ho) (S : Zt) (P : List Zt) (x1 : Int32) : An := if 0 ≤ x1.toInt ∧ x1.toInt < (hoW H : Int) then (if bt (szG S) x1.toNatClampNeg = false ∧ (szR S x1.toNatClampNeg).toInt < 99 ∧ (cst H S x1.toNatClampNeg).toInt ≤ (szC S).toInt then (szC S - cst H S x1.toNatClampNeg, thk S (cst H S x1.toNatClampNeg) x1.toNatClampNeg, pKeep S P) else (-2, S, P)) else (-1, S, P)
def itr (H : Ho) : Nat → Zt → Zt
  | 0, S => S
  | n + 1, S => itr H n (hst H S)
def aHrs (H : Ho) (S : Zt) (P : List Zt) (x1 : Int32) : An := if 0 ≤ x1.toInt ∧ x1.toInt ≤ 72 then (if x1.toInt = 0 then (szH S, S, P) else (szH (itr H x1.toNatClampNeg S), itr H x1.toNatClampNeg S, pKeep S P)) else (-1, S, P)
def aUnd (S : Zt) (P : List Zt) : An := match P with
  | [] => (0, S, [])
  | T :: P' => (1, T, P')
def CSl (m : dM) (L : Nat → Zt) : Prop := (∀ i : Nat, 3 ≤ i → bt (m.1 51 4) i = false) ∧ ∀ i : Nat, i < 3 → bt (m.1 51 4) i = true → CPz 53 m i (L i)
def KC (H : Ho) (S : Zt) (P : List Zt) (L : Nat → Zt) (m : dM) : Prop := CW H m ∧ CZ 47 m S ∧ CP m P ∧ CSl m L
def CcF (m0 m : dM) : Prop := (∀ k : Nat, 67 ≤ k → m.1 k = m0.1 k) ∧ m.2 = m0.2
theorem CcF.rf (m : dM) : CcF m m := ⟨fun _ _ => rfl, rfl⟩
theorem CcF.tr {a b c : dM} (h : CcF a b) (h' : CcF b c) : CcF a c := ⟨fun k q => (h'.1 k q).trans (h.1 k q), h'.2.trans h.2⟩
theorem ScF.cc {a b : dM} (h : ScF a b) : CcF a b := ⟨fun k q => h.1 k (by omega) (by omega) (by omega), h.2.2⟩
theorem TyF.cc {n : Nat} {a b : dM} (h : TyF n a b) (hn : n = 47 ∨ n = 62) : CcF a b := ⟨fun k q => h.1 k (by omega) (by omega) (by omega) (by omega), h.2.2⟩
theorem CcF.set {a b : dM} {k j : Nat} {v : Int32} (h : CcF a b) (hk : k < 67) : CcF a (dSet b k j v) := ⟨fun i q => by rw [dSet_k (by omega)]; exact h.1 i q, h.2⟩
section CCL
variable {H : Ho} {S : Zt} {P : List Zt} {L : Nat → Zt} {m : dM}
theorem CP.of {m' : dM} (h : CP m P) (e2 : m'.1 51 2 = m.1 51 2) (e3 : m'.1 51 3 = m.1 51 3) (e52 : m'.1 52 = m.1 52) : CP m' P := by
  obtain ⟨n, n1, n2, n3, n4, n5⟩ := h
  exact ⟨n, n1, by rw [e2]; exact n2, by rw [e3]; exact n3, n4, fun k T hT => (n5 k T hT).of (fun p _ _ => by rw [e52])⟩
theorem CSl.of {m' : dM} (h : CSl m L) (e4 : m'.1 51 4 = m.1 51 4) (e53 : m'.1 53 = m.1 53) : CSl m' L := ⟨fun i hi => by rw [e4]; exact h.1 i hi, fun i hi hb => by
  rw [e4] at hb
  exact (h.2 i hi hb).of (fun p _ _ => by rw [e53])⟩
theorem KC.sc {m' : dM} (h : KC H S P L m) (hF : ScF m m') (hW : CW H m') : KC H S P L m' := ⟨hW, h.2.1.sf hF (Or.inl rfl), h.2.2.1.of (by rw [hF.1 51 (by decide) (by decide) (by decide)]) (by rw [hF.1 51 (by decide) (by decide) (by decide)]) (hF.1 52 (by decide) (by decide) (by decide)), h.2.2.2.of (by rw [hF.1 51 (by decide) (by decide) (by decide)]) (hF.1 53 (by decide) (by decide) (by decide))⟩
theorem KC.va {m' : dM} (h : KC H S P L m) (hF : VaF m m') : KC H S P L m' := h.sc hF.sf (h.1.vf hF)
/-- behind what is kept -/
theorem KC.kp {M : dM} (h : KC H S P L m) (hk : ∀ a : Nat, a ≠ 51 → a ≠ 52 → M.1 a = m.1 a) (hj : ∀ j : Nat, j ≠ 2 → j ≠ 3 → M.1 51 j = m.1 51 j) (hP : CP M (pKeep S P)) : KC H S (pKeep S P) L M := ⟨⟨h.1.1, h.1.2.1.of (fun k a b _ => hk k (by omega) (by omega)), h.1.2.2.of (fun k a b => hk k (by omega) (by omega))⟩, h.2.1.of (fun k a b => hk k (by omega) (by omega)), hP, h.2.2.2.of (hj 4 (by decide) (by decide)) (hk 53 (by decide) (by decide))⟩
/-- how it stands has changed -/
theorem KC.st {M : dM} {T : Zt} (h : KC H S P L m) (e : ∀ k : Nat, (k < 47 ∨ 50 < k) → M.1 k = m.1 k) (hZ : CZ 47 M T) : KC H T P L M := ⟨⟨h.1.1, h.1.2.1.of (fun k a b _ => e k (by omega)), h.1.2.2.of (fun k a b => e k (by omega))⟩, hZ, h.2.2.1.of (by rw [e 51 (by omega)]) (by rw [e 51 (by omega)]) (e 52 (by omega)), h.2.2.2.of (by rw [e 51 (by omega)]) (e 53 (by omega))⟩
theorem CZ.a {n : Nat} {v : Int32} (h : CZ n m S) : CZ n (dSet m n 5 v) (setA S v) := by
  obtain ⟨⟨a0, a1, a2, a3, a4, a5⟩, b, c, d⟩ := h
  unfold CZ
  rw [dSet_k (show n + 1 ≠ n by omega), dSet_k (show n + 2 ≠ n by omega), dSet_k (show n + 3 ≠ n by omega), dSet_s, dSet_j (by decide), dSet_j (by decide), dSet_j (by decide), dSet_j (by decide), dSet_j (by decide)]
  exact ⟨⟨a0, a1, a2, a3, a4, rfl⟩, b, c, d⟩
theorem CZ.p {n : Nat} {v : Int32} (h : CZ n m S) : CZ n (dSet m n 4 v) (setP S v) := by
  obtain ⟨⟨a0, a1, a2, a3, a4, a5⟩, b, c, d⟩ := h
  unfold CZ
  rw [dSet_k (show n + 1 ≠ n by omega), dSet_k (show n + 2 ≠ n by omega), dSet_k (show n + 3 ≠ n by omega), dSet_s, dSet_j (by decide), dSet_j (by decide), dSet_j (by decide), dSet_j (by decide), dSet_j (by decide)]
  exact ⟨⟨a0, a1, a2, a3, rfl, a5⟩, b, c, d⟩
theorem CZ.g {n : Nat} {v : Int32} (h : CZ n m S) : CZ n (dSet m n 3 v) (setG S v) := by
  obtain ⟨⟨a0, a1, a2, a3, a4, a5⟩, b, c, d⟩ := h
  unfold CZ
  rw [dSet_k (show n + 1 ≠ n by omega), dSet_k (show n + 2 ≠ n by omega), dSet_k (show n + 3 ≠ n by omega), dSet_s, dSet_j (by decide), dSet_j (by decide), dSet_j (by decide), dSet_j (by decide), dSet_j (by decide)]
  exact ⟨⟨a0, a1, a2, rfl, a4, a5⟩, b, c, d⟩
theorem CZ.e {n w : Nat} {v : Int32} (h : CZ n m S) : CZ n (dSet m (n + 2) w v) (setE S (upd (szE S) w v)) := by
  obtain ⟨a, b, c, d⟩ := h
  unfold CZ
  rw [dSet_k (show n ≠ n + 2 by omega), dSet_k (show n + 1 ≠ n + 2 by omega), dSet_k (show n + 3 ≠ n + 2 by omega)]
  refine ⟨a, b, fun j hj => ?_, d⟩
  show _ = upd (szE S) w v j
  rw [dSet_f, upd_j, upd_j, c j hj]
theorem CZ.r {n w : Nat} {v : Int32} (h : CZ n m S) : CZ n (dSet m (n + 1) w v) (setR S (upd (szR S) w v)) := by
  obtain ⟨a, b, c, d⟩ := h
  unfold CZ
  rw [dSet_k (show n ≠ n + 1 by omega), dSet_k (show n + 2 ≠ n + 1 by omega), dSet_k (show n + 3 ≠ n + 1 by omega)]
  refine ⟨a, fun j hj => ?_, c, d⟩
  show _ = upd (szR S) w v j
  rw [dSet_f, upd_j, upd_j, b j hj]
theorem y_isWirec {x : Int32} {Q : Int32 → dM → Prop} (hW : CW H m) (hT : 0 ≤ x.toInt ∧ x.toInt < (hoW H : Int) → Q 1 m) (hF : ¬ (0 ≤ x.toInt ∧ x.toInt < (hoW H : Int)) → Q 0 m) : c_X11_isWire_0 1 x m Q := by
  have e := hW.2.1.1.2.1.1
  exact v_X11_isWire_0 ⟨fun q => v_X11_isWire_0_19 (hF (by omega)), fun q => ⟨fun q2 => v_X11_isWire_0_19 (hF (by omega)), fun q2 => hT (by omega)⟩⟩
theorem y_isUsec {x : Int32} {Q : Int32 → dM → Prop} (hW : CW H m) (hT : 0 ≤ x.toInt ∧ x.toInt < (hoU H : Int) → Q 1 m) (hF : ¬ (0 ≤ x.toInt ∧ x.toInt < (hoU H : Int)) → Q 0 m) : c_X11_isUse_0 1 x m Q := by
  have e := hW.2.1.2.1
  exact v_X11_isUse_0 ⟨fun q => v_X11_isUse_0_19 (hF (by omega)), fun q => ⟨fun q2 => v_X11_isUse_0_19 (hF (by omega)), fun q2 => hT (by omega)⟩⟩
theorem y_isFlatc {x : Int32} {Q : Int32 → dM → Prop} (hW : CW H m) (hT : 0 ≤ x.toInt ∧ x.toInt < (hoF H : Int) → Q 1 m) (hF : ¬ (0 ≤ x.toInt ∧ x.toInt < (hoF H : Int)) → Q 0 m) : c_X11_isFlat_0 1 x m Q := by
  have e := hW.2.1.1.1.1
  exact v_X11_isFlat_0 ⟨fun q => v_X11_isFlat_0_19 (hF (by omega)), fun q => ⟨fun q2 => v_X11_isFlat_0_19 (hF (by omega)), fun q2 => hT (by omega)⟩⟩
theorem toNat_of {x : Int32} (h : 0 ≤ x.toInt) : x.toInt = ((x.toNatClampNeg : Nat) : Int) := (d_cl h).symm
theorem p_agree {x1 x2 : Int32} {Q : Int32 → dM → Prop} (hK : KC H S P L m) (hQ : ∀ m' : dM, CcF m m' → KC H (aAgr H S P x1 x2).2.1 (aAgr H S P x1 x2).2.2 L m' → Q (aAgr H S P x1 x2).1 m') : c_X11_agree_0 3 x1 x2 m Q := by
  have o3 := hK.1.1.2.2.1
  have no : ¬ ((0 ≤ x1.toInt ∧ x1.toInt < (hoU H : Int)) ∧ (bi (bt (szA S) x1.toNatClampNeg)).toInt ≠ x2.toInt) → j_X11_agree_0_23 3 m Q := fun q => by
    have e : aAgr H S P x1 x2 = (0, S, P) := if_neg q
    rw [e] at hQ
    exact v_X11_agree_0_23 (hQ m (CcF.rf m) hK)
  refine v_X11_agree_0 (Wp.deep (y_isUsec hK.1 (fun hu => ⟨fun z => absurd z (by decide), fun _ => ?_⟩) (fun hu => ⟨fun _ => no (fun q => hu q.1), fun z => absurd rfl z⟩)) (Nat.le_of_ble_eq_true rfl))
  have hx := toNat_of hu.1
  generalize hn : x1.toNatClampNeg = u at *
  rw [hK.2.1.1.2.2.2.2.2]
  have go : (bi (bt (szA S) u)).toInt ≠ x2.toInt → c_X6_keep_51_47 2 m (fun m3 => Q (1 : Int32) (dSet m3 47 5 ((m3.1 47 5) ^^^ ((1 : Int32) <<< (x1 &&& 31))))) := fun ne => by
    have e : aAgr H S P x1 x2 = (1, setA S (szA S ^^^ b1 u), pKeep S P) := by
      unfold aAgr
      rw [hn]
      exact if_pos ⟨hu, ne⟩
    rw [e] at hQ
    refine y_keep hK.2.1 hK.2.2.1 (fun M a b c d => ?_)
    have hK1 := hK.kp a b d
    rw [b1_of hx, hK1.2.1.1.2.2.2.2.2]
    exact hQ _ (CcF.set ⟨fun k q => a k (by omega) (by omega), c⟩ (by decide)) (hK1.st (fun k q => dSet_k (by omega)) hK1.2.1.a)
  refine Wp.deep (y_has (x0 := szA S) hx (by omega) (fun g => ⟨fun ne => Wp.deep (go ?_) (Nat.le_of_ble_eq_true rfl), fun ee => no ?_⟩) (fun g => ⟨fun ne => Wp.deep (go ?_) (Nat.le_of_ble_eq_true rfl), fun ee => no ?_⟩)) (Nat.le_of_ble_eq_true rfl)
  · rw [g]; exact ne
  · rw [g]; exact fun q => q.2 ee
  · rw [g]; exact ne
  · rw [g]; exact fun q => q.2 ee
theorem p_pin {x1 x2 : Int32} {Q : Int32 → dM → Prop} (hK : KC H S P L m) (hQ : ∀ m' : dM, CcF m m' → KC H (aPin H S P x1 x2).2.1 (aPin H S P x1 x2).2.2 L m' → Q (aPin H S P x1 x2).1 m') : c_X11_pin_0 3 x1 x2 m Q := by
  have o2 := hK.1.1.2.1
  have no : ¬ ((0 ≤ x1.toInt ∧ x1.toInt < (hoW H : Int)) ∧ bt (szG S) x1.toNatClampNeg = false ∧ (bi (bt (szP S) x1.toNatClampNeg)).toInt ≠ x2.toInt) → j_X11_pin_0_37 3 m Q := fun q => by
    have e : aPin H S P x1 x2 = (0, S, P) := if_neg q
    rw [e] at hQ
    exact v_X11_pin_0_37 (hQ m (CcF.rf m) hK)
  refine v_X11_pin_0 (Wp.deep (y_isWirec hK.1 (fun hu => ⟨fun z => absurd z (by decide), fun _ => ?_⟩) (fun hu => ⟨fun _ => no (fun q => hu q.1), fun z => absurd rfl z⟩)) (Nat.le_of_ble_eq_true rfl))
  have hx := toNat_of hu.1
  generalize hn : x1.toNatClampNeg = u at *
  rw [hK.2.1.1.2.2.2.1]
  refine Wp.deep (y_has (x0 := szG S) hx (by omega) (fun gg => ⟨fun _ => no (fun q => by rw [gg] at q; cases q.2.1), fun z => absurd z (by decide)⟩) (fun gg => ⟨fun z => absurd rfl z, fun _ => ?_⟩)) (Nat.le_of_ble_eq_true rfl)
  rw [hK.2.1.1.2.2.2.2.1]
  have go : (bi (bt (szP S) u)).toInt ≠ x2.toInt → c_X6_keep_51_47 2 m (fun m3 => Q (1 : Int32) (dSet m3 47 4 ((m3.1 47 4) ^^^ ((1 : Int32) <<< (x1 &&& 31))))) := fun ne => by
    have e : aPin H S P x1 x2 = (1, setP S (szP S ^^^ b1 u), pKeep S P) := by
      unfold aPin
      rw [hn]
      exact if_pos ⟨hu, gg, ne⟩
    rw [e] at hQ
    refine y_keep hK.2.1 hK.2.2.1 (fun M a b c d => ?_)
    have hK1 := hK.kp a b d
    rw [b1_of hx, hK1.2.1.1.2.2.2.2.1]
    exact hQ _ (CcF.set ⟨fun k q => a k (by omega) (by omega), c⟩ (by decide)) (hK1.st (fun k q => dSet_k (by omega)) hK1.2.1.p)
  refine Wp.deep (y_has (x0 := szP S) hx (by omega) (fun g => ⟨fun ne => Wp.deep (go ?_) (Nat.le_of_ble_eq_true rfl), fun ee => no ?_⟩) (fun g => ⟨fun ne => Wp.deep (go ?_) (Nat.le_of_ble_eq_true rfl), fun ee => no ?_⟩)) (Nat.le_of_ble_eq_true rfl)
  · rw [g]; exact ne
  · rw [g]; exact fun q => q.2.2 ee
  · rw [g]; exact ne
  · rw [g]; exact fun q => q.2.2 ee
theorem p_mend {x1 : Int32} {Q : Int32 → dM → Prop} (hK : KC H S P L m) (hQ : ∀ m' : dM, CcF m m' → KC H (aMnd H S P x1).2.1 (aMnd H S P x1).2.2 L m' → Q (aMnd H S P x1).1 m') : c_X11_mend_0 5 x1 m Q := by
  have o2 := hK.1.1.2.1
  refine v_X11_mend_0 (Wp.deep (y_isWirec hK.1 (fun hu => ⟨fun _ => ?_, fun z => absurd z (by decide)⟩) (fun hu => ⟨fun z => absurd rfl z, fun _ => ?_⟩)) (Nat.le_of_ble_eq_true rfl))
  · have hx := toNat_of hu.1
    unfold aMnd at hQ
    rw [if_pos hu] at hQ
    generalize hn : x1.toNatClampNeg = w at *
    have hw : w < hoW H := by omega
    refine y_cost47 hK.1 hK.2.1 hx hw (fun M1 f1 => ?_)
    have hK1 := hK.va f1
    have no : ¬ (bt (szG S) w = true ∧ (cst H S w).toInt ≤ (szC S).toInt) → j_X11_mend_0_48 5 M1 Q := fun q => by
      rw [if_neg q] at hQ
      exact v_X11_mend_0_48 (hQ M1 f1.sf.cc hK1)
    rw [hK1.2.1.1.2.2.2.1]
    refine Wp.deep (y_has (x0 := szG S) hx (by omega) (fun g => ⟨fun z => absurd z (by decide), fun _ => ?_⟩) (fun g => ⟨fun _ => no (fun q => by rw [g] at q; cases q.1), fun z => absurd rfl z⟩)) (Nat.le_of_ble_eq_true rfl)
    rw [hK1.2.1.1.2.1]
    refine ⟨fun le => ?_, fun gt => no (fun q => by omega)⟩
    rw [if_pos ⟨g, le⟩] at hQ
    refine Wp.deep (y_keep hK1.2.1 hK1.2.2.1 (fun M a b c d => ?_)) (Nat.le_of_ble_eq_true rfl)
    have hK2 := hK1.kp a b d
    rw [b1_of hx, hK2.2.1.1.2.1, hK2.2.1.1.2.2.2.1, hK2.2.1.1.2.2.2.2.1]
    refine ⟨by omega, hQ _ (((((f1.sf.cc.tr ⟨fun k q => a k (by omega) (by omega), c⟩).set (by decide)).set (by decide)).set (by decide)).set (by decide)) (hK2.st (fun k q => by rw [dSet_k (by omega), dSet_k (by omega), dSet_k (by omega), dSet_k (by omega)]) ?_)⟩
    exact hK2.2.1.c.g.p.e
  · unfold aMnd at hQ
    rw [if_neg hu] at hQ
    exact hQ m (CcF.rf m) hK
theorem p_thicken {x1 : Int32} {Q : Int32 → dM → Prop} (hK : KC H S P L m) (hQ : ∀ m' : dM, CcF m m' → KC H (aThk H S P x1).2.1 (aThk H S P x1).2.2 L m' → Q (aThk H S P x1).1 m') : c_X11_thicken_0 5 x1 m Q := by
  have o2 := hK.1.1.2.1
  refine v_X11_thicken_0 (Wp.deep (y_isWirec hK.1 (fun hu => ⟨fun _ => ?_, fun z => absurd z (by decide)⟩) (fun hu => ⟨fun z => absurd rfl z, fun _ => ?_⟩)) (Nat.le_of_ble_eq_true rfl))
  · have hx := toNat_of hu.1
    unfold aThk at hQ
    rw [if_pos hu] at hQ
    generalize hn : x1.toNatClampNeg = w at *
    have hw : w < hoW H := by omega
    refine y_cost47 hK.1 hK.2.1 hx hw (fun M1 f1 => ?_)
    have hK1 := hK.va f1
    have no : ¬ (bt (szG S) w = false ∧ (szR S w).toInt < 99 ∧ (cst H S w).toInt ≤ (szC S).toInt) → j_X11_thicken_0_62 5 M1 Q := fun q => by
      rw [if_neg q] at hQ
      exact v_X11_thicken_0_62 (hQ M1 f1.sf.cc hK1)
    rw [hK1.2.1.1.2.2.2.1]
    refine Wp.deep (y_has (x0 := szG S) hx (by omega) (fun g => ⟨fun _ => no (fun q => by rw [g] at q; cases q.1), fun z => absurd z (by decide)⟩) (fun g => ⟨fun z => absurd rfl z, fun _ => ?_⟩)) (Nat.le_of_ble_eq_true rfl)
    rw [hK1.2.1.1.2.1, hK1.2.1.2.1 w (by omega)]
    refine ⟨by omega, fun ge => no (fun q => by omega), fun l99 => ⟨fun le => ?_, fun gt => no (fun q => by omega)⟩⟩
    rw [if_pos ⟨g, l99, le⟩] at hQ
    refine Wp.deep (y_keep hK1.2.1 hK1.2.2.1 (fun M a b c d => ?_)) (Nat.le_of_ble_eq_true rfl)
    have hK2 := hK1.kp a b d
    rw [hK2.2.1.1.2.1, hK2.2.1.2.1 w (by omega)]
    refine ⟨by omega, by omega, hQ _ (((f1.sf.cc.tr ⟨fun k q => a k (by omega) (by omega), c⟩).set (by decide)).set (by decide)) (hK2.st (fun k q => by rw [dSet_k (by omega), dSet_k (by omega)]) ?_)⟩
    exact hK2.2.1.c.r
  · unfold aThk at hQ
    rw [if_neg hu] at hQ
    exact hQ m (CcF.rf m) hK
end CCL
