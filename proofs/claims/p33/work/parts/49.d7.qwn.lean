/-! QUESTIONS, exactly: when -/
/-- no wire goes in that hour with this use on too -/
def wok (H : Ho) (S : Zt) (u h : Nat) : Bool := decide ((gng H S (onA H S (Int32.ofInt (h : Int)) ||| b1 u) (Int32.ofInt (h : Int)) 0).toInt = 0)
def alr (p : Nat → Bool) : Nat → Nat → Bool
  | 0, _ => true
  | n + 1, h => p h && alr p n (h + 1)
def wnS (p : Nat → Bool) (l : Nat) : Nat → Nat → Int32
  | 0, _ => -2
  | t + 1, h => cond (alr p l h) (Int32.ofInt (h : Int)) (wnS p l t (h + 1))
theorem alr_iff {p : Nat → Bool} : ∀ (n h : Nat), alr p n h = true ↔ ∀ i : Nat, i < n → p (h + i) = true
  | 0, _ => ⟨fun _ i hi => absurd hi (Nat.not_lt_zero i), fun _ => rfl⟩
  | n + 1, h => by
    rw [show alr p (n + 1) h = (p h && alr p n (h + 1)) from rfl, Bool.and_eq_true, alr_iff n (h + 1)]
    constructor
    · intro q i hi
      cases i with
      | zero => exact q.1
      | succ i =>
        have := q.2 i (by omega)
        rw [show h + 1 + i = h + (i + 1) by omega] at this
        exact this
    · intro q
      refine ⟨q 0 (by omega), fun i hi => ?_⟩
      have := q (i + 1) (by omega)
      rw [show h + (i + 1) = h + 1 + i by omega] at this
      exact this
theorem alr_f {p : Nat → Bool} {n h j : Nat} (h1 : h ≤ j) (h2 : j < h + n) (hp : p j = false) : alr p n h = false := by
  cases e : alr p n h with
  | false => rfl
  | true =>
    have := (alr_iff n h).mp e (j - h) (by omega)
    rw [show h + (j - h) = j by omega, hp] at this
    cases this
theorem wnS_s {p : Nat → Bool} {l t h : Nat} : wnS p l (t + 1) h = cond (alr p l h) (Int32.ofInt (h : Int)) (wnS p l t (h + 1)) := rfl
theorem wnS_skip {p : Nat → Bool} {l N a : Nat} (h : alr p l a = false) : wnS p l (N - a) a = wnS p l (N - (a + 1)) (a + 1) := by
  by_cases q : a < N
  · have e : N - a = (N - (a + 1)) + 1 := by omega
    rw [e, wnS_s, h, cond_false]
  · have e1 : N - a = 0 := by omega
    have e2 : N - (a + 1) = 0 := by omega
    rw [e1, e2]
    rfl
theorem wnS_skips {p : Nat → Bool} {l N a : Nat} : ∀ k : Nat, (∀ j : Nat, a ≤ j → j < a + k → alr p l j = false) → wnS p l (N - a) a = wnS p l (N - (a + k)) (a + k)
  | 0, _ => rfl
  | k + 1, h => (wnS_skips k (fun j j1 j2 => h j j1 (by omega))).trans (wnS_skip (h (a + k) (by omega) (by omega)))
theorem wnS_hit {p : Nat → Bool} {l N a : Nat} (h : alr p l a = true) (hN : a < N) : wnS p l (N - a) a = Int32.ofInt (a : Int) := by
  have e : N - a = (N - (a + 1)) + 1 := by omega
  rw [e, wnS_s, h, cond_true]
section QWN
variable {H : Ho} {S : Zt} {P : List Zt} {L : Nat → Zt} {m : dM} {s : Nat} {x1 : Int32}
theorem gon1 {a b : Int32} : (a &&& (b ^^^ (-1 : Int32))) ||| b = a ||| b := bt_ext (fun i hi => by
  simp only [bt_or, bt_and, bt_xor, bt_m1 hi]
  cases bt a i <;> cases bt b i <;> rfl)
theorem lds_u {g a : Int32} {u w : Nat} (hu : u < 32) (h0 : wyV H g (hoH H u) = 0) : ∀ n : Nat, n ≤ 32 → lds H g (a ||| b1 u) w n = lds H g (a &&& (b1 u ^^^ (-1 : Int32))) w n
  | 0, _ => rfl
  | n + 1, hn => by
    rw [show lds H g (a ||| b1 u) w (n + 1) = lds H g (a ||| b1 u) w n + cond (bt (a ||| b1 u) n && bt (wyV H g (hoH H n)) w) (hoM H n) 0 from rfl, show lds H g (a &&& (b1 u ^^^ (-1 : Int32))) w (n + 1) = lds H g (a &&& (b1 u ^^^ (-1 : Int32))) w n + cond (bt (a &&& (b1 u ^^^ (-1 : Int32))) n && bt (wyV H g (hoH H n)) w) (hoM H n) 0 from rfl, lds_u hu h0 n (by omega)]
    by_cases q : n = u
    · rw [q, h0, bt_0, Bool.and_false, Bool.and_false]
    · rw [bt_off hu q, bt_or, bt_1 hu, decide_eq_false q, Bool.or_false]
theorem gon0 {a x y : Int32} {u : Nat} (hU : hoU H ≤ 8) (hu : u < 32) (h : lt H (szG S) (hoH H u) = false) : gng H S (a ||| b1 u) x y = gng H S (a &&& (b1 u ^^^ (-1 : Int32))) x y := by
  have h0 : wyV H (szG S) (hoH H u) = 0 := via_99 (by
    have := of_decide_eq_false h
    by_cases q : wyD H (szG S) (hoH H u) = 99
    · exact q
    · exact absurd q this)
  unfold gng
  refine bs_congr _ (fun w _ => ?_)
  have e : lod H (szG S) (a ||| b1 u) w = lod H (szG S) (a &&& (b1 u ^^^ (-1 : Int32))) w := lds_u hu h0 (hoU H) (by omega)
  unfold gop
  rw [e]
def whl (H : Ho) (u : Nat) : Nat := ((hoI H u).toInt - (hoO H u).toInt).toNat + 1
def aWn (H : Ho) (S : Zt) (x1 : Int32) : Int32 := if 0 ≤ x1.toInt ∧ x1.toInt < (hoU H : Int) then wnS (wok H S x1.toNatClampNeg) (whl H x1.toNatClampNeg) (25 - whl H x1.toNatClampNeg) 0 else -1
theorem ea_when {Q : Int32 → dM → Prop} (hK : KC H S P L m) (hO : zOk H S) (hB : ∀ u : Nat, u < hoU H → 0 ≤ (hoO H u).toInt ∧ (hoO H u).toInt ≤ (hoI H u).toInt ∧ (hoI H u).toInt ≤ 23) (hQ : ∀ m' : dM, QC H S P L m m' → Q (aWn H S x1) m') : c_X11_when_0 6 x1 m Q := by
  have q0 := QC.rf hK
  have u8 := hK.1.1.2.2.1
  have hQ' : ∀ (v : Int32) (m' : dM), aWn H S x1 = v → QC H S P L m m' → Q v m' := fun v m' e q => by rw [← e]; exact hQ m' q
  refine v_X11_when_0 (Wp.deep (y_isUsec hK.1 (fun hu => ⟨fun z => absurd z (by decide), fun _ => ?_⟩) (fun hu => ⟨fun _ => hQ' _ m (by unfold aWn; rw [if_neg hu]) q0, fun z => absurd rfl z⟩)) (Nat.le_of_ble_eq_true rfl))
  have hx := toNat_of hu.1
  have eA : aWn H S x1 = wnS (wok H S x1.toNatClampNeg) (whl H x1.toNatClampNeg) (25 - whl H x1.toNatClampNeg) 0 := by unfold aWn; rw [if_pos hu]
  generalize eu : x1.toNatClampNeg = u at hx eA
  have b := hB u (by omega)
  have el : ((whl H u : Nat) : Int) = (hoI H u).toInt - (hoO H u).toInt + 1 := by unfold whl; omega
  generalize whl H u = l at el eA
  have fl := dSubE (X := (hoI H u).toInt) (Y := (hoO H u).toInt) (x := hoI H u) (y := hoO H u) rfl rfl (by omega) (by omega)
  have fl2 := dAddE (X := (hoI H u).toInt - (hoO H u).toInt) (Y := 1) (x := hoI H u - hoO H u) (y := (1 : Int32)) fl (by decide) (by omega) (by omega)
  have e9 := (hK.1.2.1.2.2.2.2.1 u (by omega)).2.2.1
  have e10 := (hK.1.2.1.2.2.2.2.1 u (by omega)).2.2.2
  have loop : ∀ (t h c : Nat) (x4 x5 : Int32) (M : dM), h + t = 24 → x5.toInt = (h : Int) → x4.toInt = (c : Int) → c < l → c ≤ h → (∀ i : Nat, h - c ≤ i → i < h → wok H S u i = true) → wnS (wok H S u) l (25 - l - 0) 0 = wnS (wok H S u) l (25 - l - (h - c)) (h - c) → QC H S P L m M → j_X1_firstStart_61_47_28 5 x1 ((hoI H u - hoO H u) + (1 : Int32)) x4 x5 M Q := by
    intro t
    induction t with
    | zero =>
      intro h c x4 x5 M hh h5 h4 cl ch ok e qM
      refine v_X1_firstStart_61_47_28 ⟨fun _ => hQ' _ M ?_ qM, fun q => by exfalso; omega⟩
      have e0 : 25 - l - (h - c) = 0 := by omega
      rw [e0] at e
      rw [eA]
      exact e
    | succ t ih =>
      intro h c x4 x5 M hh h5 h4 cl ch ok e qM
      have f4 := d_inc h4 (by omega)
      have ew : wok H S u h = decide ((gng H S (onA H S x5 ||| b1 u) x5 0).toInt = 0) := by unfold wok; rw [ofI h5]
      refine v_X1_firstStart_61_47_28 ⟨fun q => by exfalso; omega, fun _ => Wp.deep (y_usesAt47 qM.2.1 qM.2.2.1 (hO.g1 hK.1.1) (fun M1 f1 w1 l1 => ?_)) (Nat.le_of_ble_eq_true rfl)⟩
      have q1 := qM.sc f1.sf w1
      rw [b1_of hx]
      refine Wp.deep (y_putOn47 w1 q1.2.2.1 (hO.g1 hK.1.1) (fun M2 f2 w2 l2 d2 => ?_)) (Nat.le_of_ble_eq_true rfl)
      have q2 := q1.sc f2 w2
      refine y_going47 w2 q2.2.2.1 d2 (fun M3 f3 => ⟨fun ne => ⟨fun _ => ?_, fun q => by exfalso; omega⟩, fun eq => ⟨fun lt' => ?_, fun ge => hQ' _ M3 ?_ (q2.va f3)⟩⟩)
      · rw [decide_eq_false ne] at ew
        refine ih (h + 1) 0 _ _ M3 (by omega) (d_inc h5 (by omega)) (by decide) (by omega) (by omega) (fun i i1 i2 => by omega) ?_ (q2.va f3)
        have sk := wnS_skips (p := wok H S u) (l := l) (N := 25 - l) (a := h - c) (c + 1) (fun j j1 j2 => alr_f (j := h) (by omega) (by omega) ew)
        rw [show h - c + (c + 1) = h + 1 by omega] at sk
        exact e.trans sk
      · rw [decide_eq_true eq] at ew
        refine ih (h + 1) (c + 1) _ _ M3 (by omega) (d_inc h5 (by omega)) f4 (by omega) (by omega) (fun i i1 i2 => ?_) ?_ (q2.va f3)
        · by_cases q : i = h
          · rw [q]; exact ew
          · exact ok i (by omega) (by omega)
        · rw [show h + 1 - (c + 1) = h - c by omega]
          exact e
      · rw [decide_eq_true eq] at ew
        have ec : c + 1 = l := by omega
        have al : alr (wok H S u) l (h - c) = true := (alr_iff l (h - c)).mpr (fun i hi => by
          by_cases q : h - c + i = h
          · rw [q]; exact ew
          · exact ok _ (by omega) (by omega))
        have hit := wnS_hit (N := 25 - l) al (by omega)
        rw [eA]
        refine (e.trans hit).trans ?_
        have g1 := dSubE (X := (h : Int)) (Y := (hoI H u).toInt - (hoO H u).toInt + 1) (x := x5) (y := (hoI H u - hoO H u) + (1 : Int32)) h5 fl2 (by omega) (by omega)
        have g2 := dAddE (X := (h : Int) - ((hoI H u).toInt - (hoO H u).toInt + 1)) (Y := 1) (x := x5 - ((hoI H u - hoO H u) + (1 : Int32))) (y := (1 : Int32)) g1 (by decide) (by omega) (by omega)
        exact ofI (by omega)
  refine v_X1_firstStart_61_47 ⟨by omega, by omega, ?_⟩
  rw [eu, e9, e10]
  exact loop 24 0 0 _ _ m (by decide) (by decide) (by decide) (by omega) (by omega) (fun i i1 i2 => by omega) rfl q0
theorem eb_when {Q : Int32 → dM → Prop} (hK : KR H S P L s m) (hB : ∀ u : Nat, u < hoU H → 0 ≤ (hoO H u).toInt ∧ (hoO H u).toInt ≤ (hoI H u).toInt ∧ (hoI H u).toInt ≤ 23) (hQ : ∀ m' : dM, RsF m m' → Q (aWn H S x1) m') : c_X12_when_70 7 x1 m Q := by
  obtain ⟨o1, o2, o3, o4, o5, o6⟩ := hK.1.1
  have hQ' : ∀ (v : Int32) (m' : dM), aWn H S x1 = v → RsF m m' → Q v m' := fun v m' e q => by rw [← e]; exact hQ m' q
  refine v_X12_when_70 (Wp.deep (y_isUser hK.1 (fun hu => ⟨fun _ => ?_, fun z => absurd z (by decide)⟩) (fun hu => ⟨fun z => absurd rfl z, fun _ => hQ' _ m (by unfold aWn; rw [if_neg hu]) (RsF.rf m)⟩)) (Nat.le_of_ble_eq_true rfl))
  have hx := toNat_of hu.1
  have eA : aWn H S x1 = wnS (wok H S x1.toNatClampNeg) (whl H x1.toNatClampNeg) (25 - whl H x1.toNatClampNeg) 0 := by unfold aWn; rw [if_pos hu]
  generalize x1.toNatClampNeg = u at hx eA
  refine y_copies hK.1 hK.2.1 (fun M f cy _ _ => ?_)
  have b := hB u (by omega)
  have c1 := (o5 u (by omega)).1
  have el : ((whl H u : Nat) : Int) = (hoI H u).toInt - (hoO H u).toInt + 1 := by unfold whl; omega
  generalize whl H u = l at el eA
  have idx : ∀ M : dM, CY H S s M → (((8 : Int32) * (M.1 70 18)) + x1).toInt = ((8 * s + u : Nat) : Int) := fun M cM => y_idx (C := 8) (c := (8 : Int32)) (by decide) cM.1.2.1.1.1 cM.1.2.1.1.2 hx (by decide) (by omega)
  have s1 := hK.1.2.1.1.2
  have fl := dSubE (X := (hoI H u).toInt) (Y := (hoO H u).toInt) (x := hoI H u) (y := hoO H u) rfl rfl (by omega) (by omega)
  have e0 := idx M cy
  obtain ⟨d1, d2, d3, d4⟩ := cy.1.2.2.2.2.2.1 u (by omega)
  rw [d_cn e0, d3, d4]
  refine ⟨by omega, by omega, ?_⟩
  have can : ∀ (h : Nat) (x3 : Int32) (M : dM) (Q' : Int32 → dM → Prop), x3.toInt = (h : Int) → h + l ≤ 24 → RsF m M → CY H S s M → (∀ M1 : dM, RsF m M1 → CY H S s M1 → Q' (bi (alr (wok H S u) l h)) M1) → c_X12_canBegin_70 6 x1 x3 M Q' := fun h x3 M Q' h3 hl fM cM hq => by
    have e1 := idx M cM
    obtain ⟨g1, g2, g3, g4⟩ := cM.1.2.2.2.2.2.1 u (by omega)
    have fs := dAddE (X := (h : Int)) (Y := (hoI H u).toInt - (hoO H u).toInt) (x := x3) (y := hoI H u - hoO H u) h3 fl (by omega) (by omega)
    refine v_X12_canBegin_70 ?_
    rw [d_cn e1, g3, g4]
    refine ⟨by omega, by omega, ?_⟩
    have l33 : ∀ (t2 i : Nat) (x4 : Int32) (M1 : dM), i + t2 = l → x4.toInt = ((h + i : Nat) : Int) → (∀ j : Nat, j < i → wok H S u (h + j) = true) → RsF m M1 → CY H S s M1 → j_X12_canBegin_70_33 6 x1 x3 (hoI H u - hoO H u) x4 M1 Q' := by
      intro t2
      induction t2 with
      | zero =>
        intro i x4 M1 hi h4 ok f1 c1'
        have al : alr (wok H S u) l h = true := (alr_iff l h).mpr (fun j hj => ok j (by omega))
        rw [al] at hq
        exact v_X12_canBegin_70_33 ⟨fun _ => hq M1 f1 c1', fun q => by exfalso; omega⟩
      | succ t2 ih2 =>
        intro i x4 M1 hi h4 ok f1 c1'
        have ew : wok H S u (h + i) = decide ((gng H S (onA H S x4 ||| b1 u) x4 0).toInt = 0) := by unfold wok; rw [ofI h4]
        have on : ∀ y : Int32, gng H S y x4 0 = gng H S (onA H S x4 ||| b1 u) x4 0 → j_X12_canBegin_70_75 6 x1 x3 (hoI H u - hoO H u) x4 y M1 Q' := fun y ey => by
          refine v_X12_canBegin_70_75 (y_goingBits c1'.1 c1'.2.1 c1'.2.2 (fun M2 f2 => ?_))
          rw [ey]
          refine ⟨fun z => ?_, fun nz => ?_⟩
          · rw [decide_eq_true z] at ew
            have h4' : (x4 + 1).toInt = ((h + i + 1 : Nat) : Int) := d_inc h4 (by omega)
            refine ih2 (i + 1) _ M2 (by omega) h4' (fun j hj => ?_) (f1.tr f2.rs) (c1'.xa f2)
            by_cases q : j = i
            · rw [q]; exact ew
            · exact ok j (by omega)
          · rw [decide_eq_false nz] at ew
            have al : alr (wok H S u) l h = false := alr_f (j := h + i) (by omega) (by omega) ew
            rw [al] at hq
            exact hq M2 (f1.tr f2.rs) (c1'.xa f2)
        refine v_X12_canBegin_70_33 ⟨fun q => by exfalso; omega, fun _ => Wp.deep (y_onAt c1'.1 c1'.2.1 c1'.2.2 ?_) (Nat.le_of_ble_eq_true rfl)⟩
        rw [b1_of hx]
        exact Wp.deep (y_flatAt c1'.1 hx (by omega) (fun r hr => Wp.deep (y_isLit c1'.2.2 hr (by omega) (fun g => ⟨fun z => absurd z (by decide), fun _ => on _ (by rw [gon1])⟩) (fun g => ⟨fun _ => on _ (gon0 o3 (by omega) g).symm, fun z => absurd rfl z⟩)) (Nat.le_of_ble_eq_true rfl))) (Nat.le_of_ble_eq_true rfl)
    exact l33 l 0 _ M (by omega) (by rw [h3]; rfl) (fun j hj => absurd hj (Nat.not_lt_zero j)) fM cM
  have l46 : ∀ (t h : Nat) (x3 : Int32) (M : dM), h + t = 25 → x3.toInt = (h : Int) → RsF m M → CY H S s M → wnS (wok H S u) l (25 - l - 0) 0 = wnS (wok H S u) l (25 - l - h) h → j_X12_when_70_46 7 x1 (hoI H u - hoO H u) x3 M Q := by
    intro t
    induction t with
    | zero =>
      intro h x3 M hh h3 fM cM e
      have fs := dAddE (X := (h : Int)) (Y := (hoI H u).toInt - (hoO H u).toInt) (x := x3) (y := hoI H u - hoO H u) h3 fl (by omega) (by omega)
      refine v_X12_when_70_46 ⟨fun _ => hQ' _ M ?_ fM, fun q => by exfalso; omega⟩
      have z0 : 25 - l - h = 0 := by omega
      rw [z0] at e
      rw [eA]
      exact e
    | succ t ih =>
      intro h x3 M hh h3 fM cM e
      have fs := dAddE (X := (h : Int)) (Y := (hoI H u).toInt - (hoO H u).toInt) (x := x3) (y := hoI H u - hoO H u) h3 fl (by omega) (by omega)
      refine v_X12_when_70_46 ⟨fun q => hQ' _ M ?_ fM, fun q => can h x3 M _ h3 (by omega) fM cM (fun M1 f1 c1' => ⟨fun z => ?_, fun nz => hQ' _ M1 ?_ f1⟩)⟩
      · have z0 : 25 - l - h = 0 := by omega
        rw [z0] at e
        rw [eA]
        exact e
      · exact ih (h + 1) _ M1 (by omega) (d_inc h3 (by omega)) f1 c1' (e.trans (wnS_skip (bi_eq0 z)))
      · have hit := wnS_hit (p := wok H S u) (l := l) (N := 25 - l) (bi_ne0 nz) (by omega)
        rw [eA]
        exact (e.trans hit).trans (ofI h3)
  exact l46 25 0 _ M (by decide) (by decide) f cy rfl
end QWN
