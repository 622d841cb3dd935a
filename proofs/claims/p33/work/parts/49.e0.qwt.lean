/-! QUESTIONS, exactly: went, ask -/
def tso (H : Ho) (F B : Nat → Int32) (g : Int32) : Nat → Bool
  | 0 => true
  | k + 1 => tso H F B g k && decide ((bi (bt (ltB H g) (F k).toNatClampNeg)).toInt = (B k).toInt)
def sus (H : Ho) (S : Zt) (F B : Nat → Int32) (k w : Nat) : Bool := !bt (szG S) w && tso H F B (szG S ||| b1 w) k
def susB (H : Ho) (S : Zt) (F B : Nat → Int32) (k : Nat) : Int32 := bs (sus H S F B k) (hoW H)
/-- what was told, in the class's rows, in the reference's -/
def TC (F B : Nat → Int32) (n : Nat) (m : dM) : Prop := ∀ i : Nat, i < n → m.1 68 i = F i ∧ m.1 69 i = B i ∧ 0 ≤ (F i).toInt ∧ (F i).toInt < 32
def TR (F B : Nat → Int32) (n : Nat) (m : dM) : Prop := ∀ i : Nat, i < n → m.1 112 i = F i ∧ m.1 113 i = B i ∧ 0 ≤ (F i).toInt ∧ (F i).toInt < 32
def aWnt (H : Ho) (S : Zt) (F B : Nat → Int32) (n : Nat) (x1 x2 : Int32) : Int32 := if (0 ≤ x1.toInt ∧ x1.toInt ≤ (n : Int)) ∧ 0 ≤ x2.toInt ∧ x2.toInt ≤ 1 then (if x2.toInt = 0 then pc10 (susB H S F B x1.toNatClampNeg) 10 else susB H S F B x1.toNatClampNeg) else -1
section QWT
variable {H : Ho} {S : Zt} {P : List Zt} {L : Nat → Zt} {m : dM} {s : Nat} {x1 x2 : Int32} {F B : Nat → Int32} {k n : Nat}
theorem tso_f {g : Int32} {i : Nat} (h : tso H F B g i = false) : ∀ j : Nat, tso H F B g (i + j) = false
  | 0 => h
  | j + 1 => by
    show (tso H F B g (i + j) && _) = false
    rw [tso_f h j, Bool.false_and]
theorem susB_hi (hw : hoW H ≤ 10) {i : Nat} (hi : 10 ≤ i) : bt (susB H S F B k) i = false := by
  unfold susB
  rw [bt_bs _ (by omega), decide_eq_false (by omega), Bool.false_and]
theorem ea_isSo {g : Int32} {Q : Int32 → dM → Prop} {M : dM} (h67 : (M.1 67 3).toInt = (n : Int)) (hx : x2.toInt = (k : Int)) (hk : k ≤ n) (hn : n ≤ 20) (hT : TC F B n M) (hQ : Q (bi (tso H F B g k)) M) : c_X9_isSo_67 2 (ltB H g) x2 M Q := by
  have loop : ∀ (t i : Nat) (x3 : Int32), i + t = k → x3.toInt = (i : Int) → tso H F B g i = true → j_X9_isSo_67_2 2 (ltB H g) x2 x3 M Q := by
    intro t
    induction t with
    | zero =>
      intro i x3 hi h3 e
      rw [show k = i by omega, e] at hQ
      exact v_X9_isSo_67_2 ⟨fun _ => v_X9_isSo_67_42 hQ, fun q => by exfalso; omega⟩
    | succ t ih =>
      intro i x3 hi h3 e
      obtain ⟨t1, t2, t3, t4⟩ := hT i (by omega)
      have hf := toNat_of t3
      have eS : tso H F B g (i + 1) = (tso H F B g i && decide ((bi (bt (ltB H g) (F i).toNatClampNeg)).toInt = (B i).toInt)) := rfl
      have go : ∀ v : Int32, v = bi (bt (ltB H g) (F i).toNatClampNeg) → (v.toInt = (B i).toInt → j_X9_isSo_67_2 2 (ltB H g) x2 (x3 + (1 : Int32)) M Q) ∧ (v.toInt ≠ (B i).toInt → Q (0 : Int32) M) := fun v ev => by
        rw [ev]
        refine ⟨fun q => ih (i + 1) _ (by omega) (d_inc h3 (by omega)) (by rw [eS, e, decide_eq_true q]; rfl), fun q => ?_⟩
        have f0 : tso H F B g (i + 1) = false := by rw [eS, decide_eq_false q, Bool.and_false]
        have fk := tso_f f0 (k - (i + 1))
        rw [show i + 1 + (k - (i + 1)) = k by omega] at fk
        rw [fk] at hQ
        exact hQ
      refine v_X9_isSo_67_2 ⟨fun q => by exfalso; omega, fun _ => ⟨fun q => by exfalso; omega, fun _ => ⟨by omega, ?_⟩⟩⟩
      rw [d_cn h3, t1]
      refine y_has hf (by omega) (fun b => ?_) (fun b => ?_)
      · rw [t2]
        exact ⟨by omega, go 1 (by rw [b]; rfl)⟩
      · rw [t2]
        exact ⟨by omega, go 0 (by rw [b]; rfl)⟩
  exact v_X9_isSo_67 (loop k 0 _ (by omega) (by decide) rfl)
theorem ea_susp {Q : Int32 → dM → Prop} {M : dM} (hW : CW H M) (h67 : (M.1 67 3).toInt = (n : Int)) (hx : x2.toInt = (k : Int)) (hk : k ≤ n) (hn : n ≤ 20) (hT : TC F B n M) (hQ : Q (susB H S F B k) M) : c_X9_suspects_67 3 (szG S) x2 M Q := by
  have w10 := hW.1.2.1
  have e21 := hW.2.1.1.2.1.1
  have loop : ∀ (t w : Nat) (x4 : Int32), w + t = hoW H → x4.toInt = (w : Int) → j_X9_suspects_67_5 3 (szG S) x2 (bs (sus H S F B k) w) x4 M Q := by
    intro t
    induction t with
    | zero =>
      intro w x4 hw h4
      rw [show w = hoW H by omega]
      exact v_X9_suspects_67_5 ⟨fun _ => hQ, fun q => by exfalso; omega⟩
    | succ t ih =>
      intro w x4 hw h4
      have n' := ih (w + 1) _ (by omega) (d_inc h4 (by omega))
      rw [show bs (sus H S F B k) (w + 1) = cond (sus H S F B k w) (bs (sus H S F B k) w ||| b1 w) (bs (sus H S F B k) w) from rfl] at n'
      refine v_X9_suspects_67_5 ⟨fun q => by exfalso; omega, fun _ => ?_⟩
      rw [b1_of h4]
      refine Wp.deep (y_has h4 (by omega) (fun b => ⟨fun _ => v_X9_suspects_67_54 ?_, fun z => absurd z (by decide)⟩) (fun b => ⟨fun z => absurd rfl z, fun _ => ea_lit hW (ea_isSo h67 hx hk hn hT ⟨fun z => v_X9_suspects_67_54 ?_, fun z => v_X9_suspects_67_54 ?_⟩)⟩)) (Nat.le_of_ble_eq_true rfl)
      · have e : sus H S F B k w = false := by unfold sus; rw [b]; rfl
        rw [e, cond_false] at n'
        exact n'
      · have e : sus H S F B k w = false := by unfold sus; rw [b, bi_eq0 z]; rfl
        rw [e, cond_false] at n'
        exact n'
      · have e : sus H S F B k w = true := by unfold sus; rw [b, bi_ne0 z]; rfl
        rw [e, cond_true] at n'
        exact n'
  exact v_X9_suspects_67 (loop (hoW H) 0 _ (by omega) (by decide))
theorem ea_went {Q : Int32 → dM → Prop} (hK : KC H S P L m) (h67 : (m.1 67 3).toInt = (n : Int)) (hn : n ≤ 20) (hT : TC F B n m) (hQ : ∀ m' : dM, QC H S P L m m' → Q (aWnt H S F B n x1 x2) m') : c_X11_went_0 4 x1 x2 m Q := by
  have q0 := QC.rf hK
  have w10 := hK.1.1.2.1
  have g3 : m.1 47 3 = szG S := hK.2.1.1.2.2.2.1
  have hQ' : ∀ (v : Int32) (m' : dM), aWnt H S F B n x1 x2 = v → QC H S P L m m' → Q v m' := fun v m' e q => by rw [← e]; exact hQ m' q
  have no : ¬ ((0 ≤ x1.toInt ∧ x1.toInt ≤ (n : Int)) ∧ 0 ≤ x2.toInt ∧ x2.toInt ≤ 1) → j_X11_went_0_24 4 m Q := fun q => v_X11_went_0_24 (hQ' _ m (by unfold aWnt; rw [if_neg q]) q0)
  refine v_X11_went_0 ⟨fun q => no (by omega), fun p1 => ⟨fun q => no (by omega), fun p2 => ⟨fun q => no (by omega), fun p3 => ⟨fun p4 => ?_, fun q => no (by omega)⟩⟩⟩⟩
  have hx := toNat_of p1
  have eA : aWnt H S F B n x1 x2 = (if x2.toInt = 0 then pc10 (susB H S F B x1.toNatClampNeg) 10 else susB H S F B x1.toNatClampNeg) := by unfold aWnt; rw [if_pos (by omega)]
  rw [g3]
  exact ea_susp hK.1 h67 hx (by omega) hn hT ⟨fun ne => hQ' _ m (by rw [eA, if_neg ne]) q0, fun z => Wp.deep (ea_bits (fun i hi => susB_hi w10 hi) (hQ' _ m (by rw [eA, if_pos z]) q0)) (Nat.le_of_ble_eq_true rfl)⟩
theorem e_copies {Q : dM → Prop} (hW : RW H s m) (hZ : RZ H 107 m S) (hQ : ∀ m' : dM, RsF m m' → CY H S s m' → m'.1 114 = m.1 114 → Q m') : c_X12_copies_70 6 m Q := by
  have loop : ∀ (t i : Nat) (x1 : Int32) (M : dM), i + t = 58 → x1.toInt = (i : Int) → (∀ k : Nat, k ≠ 108 → M.1 k = m.1 k) → M.2 = m.2 → (∀ j : Nat, j < i → M.1 108 j = m.1 107 j) → j_X12_copies_70_2 6 x1 M Q := by
    intro t
    induction t with
    | zero =>
      intro i x1 M hi h1 hk h2 hv
      have F : RsF m M := ⟨fun k q1 q2 _ => hk k (by omega), fun j _ _ _ _ => by rw [hk 70 (by decide)], h2⟩
      have W := hW.rs F
      have a := W.2.1.1
      have Z : RZ H 108 M S := (hZ.f.of hW.1 (fun j hj => hv j (by omega))).z
      refine v_X12_copies_70_2 ⟨fun _ => ?_, fun q => by exfalso; omega⟩
      rw [d_cn a.1, W.2.2.2.2.2.2.1.2.2.2, a.1]
      refine ⟨by omega, ?_⟩
      have F2 : RsF m (dSet (dSet M 70 56 (hoE H)) 70 57 (0 : Int32)) := (F.s70 (by decide)).s70 (by decide)
      have Z2 : RZ H 108 (dSet (dSet M 70 56 (hoE H)) 70 57 (0 : Int32)) S := Z.of (by rw [dSet_k (by decide), dSet_k (by decide)])
      have W2 := hW.rs F2
      refine y_fillsWays (G := bt (szG S)) W2.2.1 (Z2.rg (r := 0)) (fun M3 f3 d3 v3 => hQ M3 (F2.tr f3.rs) ⟨W2.rs f3.rs, Z2.of (f3.1 108 (by decide) (by decide)), d3, v3⟩ ?_)
      rw [f3.1 114 (by decide) (by decide), dSet_k (by decide), dSet_k (by decide)]
      exact hk 114 (by decide)
    | succ t ih =>
      intro i x1 M hi h1 hk h2 hv
      refine v_X12_copies_70_2 ⟨fun q => by exfalso; omega, fun _ => ⟨by omega, by omega, ?_⟩⟩
      rw [d_cn h1]
      refine ih (i + 1) _ _ (by omega) (d_inc h1 (by omega)) (fun k q => by rw [dSet_k q]; exact hk k q) h2 (fun j hj => ?_)
      by_cases e : j = i
      · subst e; rw [dSet_s, hk 107 (by decide)]
      · rw [dSet_j e]; exact hv j (by omega)
  exact v_X12_copies_70 (loop 58 0 _ m rfl (by decide) (fun _ _ => rfl) rfl (fun j hj => absurd hj (Nat.not_lt_zero j)))
theorem e_loses {Q : dM → Prop} (hK : KR H S P L s m) (hQ : ∀ m' : dM, RsF m m' → RW H s m' → RL H (szG S ||| x1) m' → m'.1 114 = m.1 114 → Q m') : c_X12_loses_70 7 x1 m Q := by
  have w10 := hK.1.1.2.1
  refine v_X12_loses_70 (e_copies hK.1 hK.2.1 (fun M1 f1 cy e1 => ?_))
  have loop : ∀ (t i : Nat) (x2 : Int32) (M2 : dM), i + t = 10 → x2.toInt = (i : Int) → RsF m M2 → M2.1 114 = m.1 114 → (∀ w : Nat, w < hoW H → M2.1 108 (10 + w) = bi (bt (if w < i then szG S ||| x1 else szG S) w)) → j_X12_loses_70_6 7 x1 x2 M2 Q := by
    intro t
    induction t with
    | zero =>
      intro i x2 M2 hi h2 f2 e2 hv
      have W2 := hK.1.rs f2
      refine v_X12_loses_70_6 ⟨fun _ => Wp.deep (y_fillsWays (G := bt (szG S ||| x1)) W2.2.1 (fun w hw => ?_) (fun M3 f3 d3 v3 => hQ M3 (f2.tr f3.rs) (W2.rs f3.rs) ⟨d3, v3⟩ ((f3.1 114 (by decide) (by decide)).trans e2))) (Nat.le_of_ble_eq_true rfl), fun q => by exfalso; omega⟩
      rw [hv w hw, if_pos (by omega), bi_if]
    | succ t ih =>
      intro i x2 M2 hi h2 f2 e2 hv
      have e10 := d_add (k := x2) (K := i) (x := (10 : Int32)) (i := 10) (by decide) h2 (by omega)
      have on : ∀ M3 : dM, RsF m M3 → M3.1 114 = m.1 114 → (∀ w : Nat, w < hoW H → M3.1 108 (10 + w) = bi (bt (if w < i + 1 then szG S ||| x1 else szG S) w)) → j_X12_loses_70_31 7 x1 x2 M3 Q := fun M3 f3 e3 h3 => v_X12_loses_70_31 (ih (i + 1) _ M3 (by omega) (d_inc h2 (by omega)) f3 e3 h3)
      refine v_X12_loses_70_6 ⟨fun q => by exfalso; omega, fun _ => ?_⟩
      rw [bt_s h2 (by omega), d_cn e10]
      cases e : bt x1 i with
      | false =>
        refine ⟨fun _ => on M2 f2 e2 (fun w hw => ?_), fun q => absurd q (by decide)⟩
        rw [hv w hw]
        by_cases q : w = i
        · subst q
          rw [if_neg (by omega), if_pos (by omega), bt_or, e, Bool.or_false]
        · by_cases q2 : w < i
          · rw [if_pos q2, if_pos (by omega)]
          · rw [if_neg q2, if_neg (by omega)]
      | true =>
        refine ⟨fun q => absurd rfl q, fun _ => ⟨by omega, on _ f2.set (by rw [dSet_k (by decide)]; exact e2) (fun w hw => ?_)⟩⟩
        by_cases q : w = i
        · subst q
          rw [dSet_s, if_pos (by omega), bt_or, e, Bool.or_true]
          rfl
        · rw [dSet_j (by omega), hv w hw]
          by_cases q2 : w < i
          · rw [if_pos q2, if_pos (by omega)]
          · rw [if_neg q2, if_neg (by omega)]
  exact loop 10 0 _ M1 rfl (by decide) f1 e1 (fun w hw => by rw [if_neg (by omega)]; exact (cy.2.1.2.1 w hw).2.1)
theorem eb_wentBits {Q : Int32 → dM → Prop} (hK : KR H S P L s m) (hx : x1.toInt = (k : Int)) (hk : k ≤ n) (hn : n ≤ 20) (hT : TR F B n m) (hQ : ∀ m' : dM, RsF m m' → (∀ w : Nat, w < hoW H → bt (szG S) w = false → m'.1 114 w = ltB H (szG S ||| b1 w)) → Q (susB H S F B k) m') : c_X12_wentBits_70 8 x1 m Q := by
  have w10 := hK.1.1.2.1
  have loop : ∀ (t w : Nat) (x3 : Int32) (M : dM), w + t = hoW H → x3.toInt = (w : Int) → RsF m M → (∀ v : Nat, v < w → bt (szG S) v = false → M.1 114 v = ltB H (szG S ||| b1 v)) → j_X12_wentBits_70_4 8 x1 (bs (sus H S F B k) w) x3 M Q := by
    intro t
    induction t with
    | zero =>
      intro w x3 M hw h3 fM hv
      have hKM := hK.rs fM
      have a := hKM.1.2.1.1
      have ew : w = hoW H := by omega
      rw [ew] at hv
      refine v_X12_wentBits_70_4 ?_
      rw [d_cn a.1, hKM.1.2.1.2.2.1.1, a.1, ew]
      exact ⟨by omega, fun _ => hQ M fM hv, fun q => by exfalso; omega⟩
    | succ t ih =>
      intro w x3 M hw h3 fM hv
      have hKM := hK.rs fM
      have a := hKM.1.2.1.1
      have e10 := d_add (k := x3) (K := w) (x := (10 : Int32)) (i := 10) (by decide) h3 (by omega)
      have zg := (hKM.2.1.2.1 w (by omega)).2.1
      have n' := ih (w + 1)
      rw [show bs (sus H S F B k) (w + 1) = cond (sus H S F B k w) (bs (sus H S F B k) w ||| b1 w) (bs (sus H S F B k) w) from rfl] at n'
      refine v_X12_wentBits_70_4 ?_
      rw [d_cn a.1, hKM.1.2.1.2.2.1.1, a.1, d_cn e10, zg, b1_of h3]
      refine ⟨by omega, fun q => by exfalso; omega, fun _ => ⟨by omega, fun nb => e_loses hKM (fun M1 f1 W1 L1 e114 => Wp.deep (y_litBits W1 L1 ⟨by omega, ?_⟩) (Nat.le_of_ble_eq_true rfl)), fun bb => v_X12_wentBits_70_108 ?_⟩⟩
      · have b := bi_ne1 nb
        have fM1 := fM.tr f1
        have F2 : RsF m (dSet M1 114 w (ltB H (szG S ||| b1 w))) := ⟨fun k q1 q2 q3 => by rw [dSet_k q3]; exact fM1.1 k q1 q2 q3, fun j q1 q2 q3 q4 => by rw [dSet_k (by decide)]; exact fM1.2.1 j q1 q2 q3 q4, fM1.2.2⟩
        have hv2 : ∀ v : Nat, v < w + 1 → bt (szG S) v = false → (dSet M1 114 w (ltB H (szG S ||| b1 w))).1 114 v = ltB H (szG S ||| b1 v) := fun v h1 h2 => by
          by_cases q : v = w
          · rw [q, dSet_s]
          · rw [dSet_j q, e114]; exact hv v (by omega) h2
        have l56 : ∀ (t2 i : Nat) (x5 : Int32), i + t2 = k → x5.toInt = (i : Int) → j_X12_wentBits_70_56 8 x1 (bs (sus H S F B k) w) x3 (bi (tso H F B (szG S ||| b1 w) i)) x5 (dSet M1 114 w (ltB H (szG S ||| b1 w))) Q := by
          intro t2
          induction t2 with
          | zero =>
            intro i x5 hi h5
            have ei : i = k := by omega
            rw [ei]
            refine v_X12_wentBits_70_56 ?_
            rw [b1_of h3]
            refine ⟨fun _ => ⟨fun z => v_X12_wentBits_70_108 ?_, fun z => v_X12_wentBits_70_108 ?_⟩, fun q => by exfalso; omega⟩
            · have e : sus H S F B k w = false := by unfold sus; rw [b, bi_eq0 z]; rfl
              rw [e, cond_false] at n'
              exact n' _ _ (by omega) (d_inc h3 (by omega)) F2 hv2
            · have e : sus H S F B k w = true := by unfold sus; rw [b, bi_ne0 z]; rfl
              rw [e, cond_true] at n'
              exact n' _ _ (by omega) (d_inc h3 (by omega)) F2 hv2
          | succ t2 ih2 =>
            intro i x5 hi h5
            obtain ⟨t1, t2', t3, t4⟩ := hT i (by omega)
            have hf := toNat_of t3
            have u112 : (dSet M1 114 w (ltB H (szG S ||| b1 w))).1 112 i = F i := by rw [F2.1 112 (by decide) (by decide) (by decide)]; exact t1
            have u113 : (dSet M1 114 w (ltB H (szG S ||| b1 w))).1 113 i = B i := by rw [F2.1 113 (by decide) (by decide) (by decide)]; exact t2'
            have u114 : (dSet M1 114 w (ltB H (szG S ||| b1 w))).1 114 w = ltB H (szG S ||| b1 w) := dSet_s _ _ _ _
            have nn := ih2 (i + 1) _ (by omega) (d_inc h5 (by omega))
            rw [show tso H F B (szG S ||| b1 w) (i + 1) = (tso H F B (szG S ||| b1 w) i && decide ((bi (bt (ltB H (szG S ||| b1 w)) (F i).toNatClampNeg)).toInt = (B i).toInt)) from rfl] at nn
            refine v_X12_wentBits_70_56 ?_
            rw [d_cn h3, d_cn h5, u112, u113, u114, bt_s hf (by omega), ← bi_if]
            refine ⟨fun q => by exfalso; omega, fun _ => ⟨by omega, by omega, by omega, fun e => v_X12_wentBits_70_91 ?_, fun ne => v_X12_wentBits_70_91 ?_⟩⟩
            · rw [decide_eq_true e, Bool.and_true] at nn
              exact nn
            · rw [decide_eq_false ne, Bool.and_false] at nn
              exact nn
        rw [d_cn h3]
        exact l56 k 0 _ (by omega) (by decide)
      · have b := bi_eq1 bb
        have e : sus H S F B k w = false := by unfold sus; rw [b]; rfl
        rw [e, cond_false] at n'
        refine n' _ M (by omega) (d_inc h3 (by omega)) fM (fun v h1 h2 => ?_)
        by_cases q : v = w
        · rw [q, b] at h2; cases h2
        · exact hv v (by omega) h2
  exact v_X12_wentBits_70 (loop (hoW H) 0 _ m (by omega) (by decide) (RsF.rf m) (fun v h1 => absurd h1 (Nat.not_lt_zero v)))
theorem eb_went {Q : Int32 → dM → Prop} (hK : KR H S P L s m) (h63 : (m.1 70 63).toInt = (n : Int)) (hn : n ≤ 20) (hT : TR F B n m) (hQ : ∀ m' : dM, RsF m m' → Q (aWnt H S F B n x1 x2) m') : c_X12_went_70 9 x1 x2 m Q := by
  have hQ' : ∀ (v : Int32) (m' : dM), aWnt H S F B n x1 x2 = v → RsF m m' → Q v m' := fun v m' e q => by rw [← e]; exact hQ m' q
  have e0 := ti_0
  have e1 := ti_1
  have no : ¬ ((0 ≤ x1.toInt ∧ x1.toInt ≤ (n : Int)) ∧ 0 ≤ x2.toInt ∧ x2.toInt ≤ 1) → j_X12_went_70_21 9 m Q := fun q => v_X12_went_70_21 (hQ' _ m (by unfold aWnt; rw [if_neg q]) (RsF.rf m))
  refine v_X12_went_70 (Wp.deep (y_in (fun h => ⟨fun z => absurd z (by decide), fun _ => Wp.deep (y_in (fun h2 => ⟨fun _ => ?_, fun z => absurd z (by decide)⟩) (fun q => ⟨fun z => absurd rfl z, fun _ => no (by omega)⟩)) (Nat.le_of_ble_eq_true rfl)⟩) (fun q => ⟨fun _ => no (by omega), fun z => absurd rfl z⟩)) (Nat.le_of_ble_eq_true rfl))
  have hx := toNat_of (x := x1) (by omega)
  have eA : aWnt H S F B n x1 x2 = (if x2.toInt = 0 then pc10 (susB H S F B x1.toNatClampNeg) 10 else susB H S F B x1.toNatClampNeg) := by unfold aWnt; rw [if_pos (by omega)]
  exact eb_wentBits hK hx (by omega) hn hT (fun M f _ => ⟨fun ne => hQ' _ M (by rw [eA, if_neg ne]) f, fun z => Wp.deep (eb_bits (hQ' _ M (by rw [eA, if_pos z]) f)) (Nat.le_of_ble_eq_true rfl)⟩)
end QWT
