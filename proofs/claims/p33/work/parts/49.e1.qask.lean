/-! QUESTIONS, exactly: ask -/
/-- of those wires, how many leave that flat lit -/
def nLt (H : Ho) (S : Zt) (x : Int32) (f : Nat) : Nat → Int32
  | 0 => 0
  | w + 1 => nLt H S x f w + cond (bt x w && bt (ltB H (szG S ||| b1 w)) f) 1 0
def wrs (H : Ho) (S : Zt) (x : Int32) (f : Nat) : Int32 := if nLt H S x f (hoW H) < (pc10 x 10 - nLt H S x f (hoW H)) then (pc10 x 10 - nLt H S x f (hoW H)) else nLt H S x f (hoW H)
def asB (H : Ho) (S : Zt) (x : Int32) : Nat → Option (Nat × Int32)
  | 0 => none
  | f + 1 => match asB H S x f with
    | none => some (f, wrs H S x f)
    | some (b, l) => if (wrs H S x f).toInt < l.toInt then some (f, wrs H S x f) else some (b, l)
def asV (o : Option (Nat × Int32)) : Int32 := match o with
  | none => -2
  | some (b, _) => Int32.ofInt (b : Int)
def aAsk (H : Ho) (S : Zt) (F B : Nat → Int32) (n : Nat) (x1 : Int32) : Int32 := if 0 ≤ x1.toInt ∧ x1.toInt ≤ (n : Int) then (if (susB H S F B x1.toNatClampNeg).toInt = 0 then -2 else asV (asB H S (susB H S F B x1.toNatClampNeg) (hoF H))) else -1
def Rac (o : Option (Nat × Int32)) (x4 x5 : Int32) : Prop := match o with
  | none => x4 = -2 ∧ x5 = 2147483647
  | some (b, l) => x4.toInt = (b : Int) ∧ x5 = l
def Rar (o : Option (Nat × Int32)) (x3 x4 : Int32) : Prop := match o with
  | none => x3 = -2
  | some (b, l) => x3.toInt = (b : Int) ∧ x4 = l
theorem asV_c {o : Option (Nat × Int32)} {x4 x5 : Int32} (h : Rac o x4 x5) : asV o = x4 := by
  cases o with
  | none => exact h.1.symm
  | some p => obtain ⟨b, l⟩ := p; exact ofI h.1
theorem asV_r {o : Option (Nat × Int32)} {x3 x4 : Int32} (h : Rar o x3 x4) : asV o = x3 := by
  cases o with
  | none => exact h.symm
  | some p => obtain ⟨b, l⟩ := p; exact ofI h.1
theorem pc10_b {x : Int32} : ∀ n : Nat, n ≤ 1000 → 0 ≤ (pc10 x n).toInt ∧ (pc10 x n).toInt ≤ (n : Int)
  | 0, _ => by show 0 ≤ (0 : Int32).toInt ∧ (0 : Int32).toInt ≤ _; decide
  | n + 1, h => by
    have ih := pc10_b (x := x) n (by omega)
    rw [show pc10 x (n + 1) = pc10 x n + cond (bt x n) 1 0 from rfl]
    cases bt x n with
    | true =>
      rw [cond_true]
      have := dAddE (X := (pc10 x n).toInt) (Y := 1) (x := pc10 x n) (y := (1 : Int32)) rfl (by decide) (by omega) (by omega)
      omega
    | false => rw [cond_false, Int32.add_zero]; omega
section QAS
variable {H : Ho} {S : Zt} {P : List Zt} {L : Nat → Zt} {m : dM} {s : Nat} {x1 x2 : Int32} {F B : Nat → Int32} {k n : Nat}
theorem nLt_s {x : Int32} {f w : Nat} : nLt H S x f (w + 1) = nLt H S x f w + cond (bt x w && bt (ltB H (szG S ||| b1 w)) f) 1 0 := rfl
theorem nLt_b {x : Int32} {f : Nat} : ∀ w : Nat, w ≤ 1000 → 0 ≤ (nLt H S x f w).toInt ∧ (nLt H S x f w).toInt ≤ (w : Int)
  | 0, _ => by show 0 ≤ (0 : Int32).toInt ∧ (0 : Int32).toInt ≤ _; decide
  | w + 1, h => by
    have ih := nLt_b (x := x) (f := f) w (by omega)
    rw [nLt_s]
    cases (bt x w && bt (ltB H (szG S ||| b1 w)) f) with
    | true =>
      rw [cond_true]
      have := dAddE (X := (nLt H S x f w).toInt) (Y := 1) (x := nLt H S x f w) (y := (1 : Int32)) rfl (by decide) (by omega) (by omega)
      omega
    | false => rw [cond_false, Int32.add_zero]; omega
theorem asB_s {x : Int32} {f : Nat} : asB H S x (f + 1) = match asB H S x f with
    | none => some (f, wrs H S x f)
    | some (b, l) => if (wrs H S x f).toInt < l.toInt then some (f, wrs H S x f) else some (b, l) := rfl
theorem wrs_le {x : Int32} {f : Nat} (hw : hoW H ≤ 10) : (wrs H S x f).toInt ≤ 10 := by
  have a := pc10_b (x := x) 10 (by omega)
  have b := nLt_b (H := H) (S := S) (x := x) (f := f) (hoW H) (by omega)
  have d := dSubE (X := (pc10 x 10).toInt) (Y := (nLt H S x f (hoW H)).toInt) (x := pc10 x 10) (y := nLt H S x f (hoW H)) rfl rfl (by omega) (by omega)
  unfold wrs
  split
  · omega
  · omega
theorem ea_worst {x x3 : Int32} {f : Nat} {Q : Int32 → dM → Prop} {M : dM} (hW : CW H M) (hb : ∀ i : Nat, 10 ≤ i → bt x i = false) (h3 : x3.toInt = (f : Int)) (hf : f < 32) (hQ : Q (wrs H S x f) M) : c_X9_leftAtWorst_67 3 (szG S) x x3 M Q := by
  have w10 := hW.1.2.1
  have e21 := hW.2.1.1.2.1.1
  have loop : ∀ (t w : Nat) (x5 : Int32), w + t = hoW H → x5.toInt = (w : Int) → j_X9_leftAtWorst_67_6 3 (szG S) x x3 (nLt H S x f w) x5 M Q := by
    intro t
    induction t with
    | zero =>
      intro w x5 hw h5
      rw [show w = hoW H by omega]
      exact v_X9_leftAtWorst_67_6 ⟨fun _ => Wp.deep (ea_bits hb hQ) (Nat.le_of_ble_eq_true rfl), fun q => by exfalso; omega⟩
    | succ t ih =>
      intro w x5 hw h5
      have n' := ih (w + 1) _ (by omega) (d_inc h5 (by omega))
      rw [nLt_s] at n'
      refine v_X9_leftAtWorst_67_6 ⟨fun q => by exfalso; omega, fun _ => ?_⟩
      rw [b1_of h5]
      refine Wp.deep (y_has h5 (by omega) (fun b => ⟨fun z => absurd z (by decide), fun _ => ea_lit hW (Wp.deep (d := 1) (y_has h3 hf (fun c => ⟨fun z => absurd z (by decide), fun _ => ?_⟩) (fun c => ⟨fun _ => ?_, fun z => absurd rfl z⟩)) (Nat.le_of_ble_eq_true rfl))⟩) (fun b => ⟨fun _ => ?_, fun z => absurd rfl z⟩)) (Nat.le_of_ble_eq_true rfl)
      · rw [b, c] at n'; exact n'
      · rw [b, c] at n'; exact n'
      · rw [b] at n'; exact n'
  exact v_X9_leftAtWorst_67 (loop (hoW H) 0 _ (by omega) (by decide))
theorem ea_ask {Q : Int32 → dM → Prop} (hK : KC H S P L m) (h67 : (m.1 67 3).toInt = (n : Int)) (hn : n ≤ 20) (hT : TC F B n m) (hQ : ∀ m' : dM, QC H S P L m m' → Q (aAsk H S F B n x1) m') : c_X11_ask_0 5 x1 m Q := by
  have q0 := QC.rf hK
  have f7 := hK.1.1.1
  have w10 := hK.1.1.2.1
  have e20 := hK.1.2.1.1.1.1
  have g3 : m.1 47 3 = szG S := hK.2.1.1.2.2.2.1
  have hQ' : ∀ (v : Int32) (m' : dM), aAsk H S F B n x1 = v → QC H S P L m m' → Q v m' := fun v m' e q => by rw [← e]; exact hQ m' q
  have no : ¬ (0 ≤ x1.toInt ∧ x1.toInt ≤ (n : Int)) → j_X11_ask_0_15 5 m Q := fun q => v_X11_ask_0_15 (hQ' _ m (by unfold aAsk; rw [if_neg q]) q0)
  refine v_X11_ask_0 ⟨fun q => no (by omega), fun p1 => ⟨fun p2 => ?_, fun q => no (by omega)⟩⟩
  have hx := toNat_of p1
  have eA : aAsk H S F B n x1 = (if (susB H S F B x1.toNatClampNeg).toInt = 0 then -2 else asV (asB H S (susB H S F B x1.toNatClampNeg) (hoF H))) := by unfold aAsk; rw [if_pos (by omega)]
  rw [g3]
  refine v_X9_bestQuestion_67 (ea_susp hK.1 h67 hx (by omega) hn hT ?_)
  have hb : ∀ i : Nat, 10 ≤ i → bt (susB H S F B x1.toNatClampNeg) i = false := fun i hi => susB_hi w10 hi
  generalize susB H S F B x1.toNatClampNeg = x at eA hb ⊢
  by_cases nz : x.toInt = 0
  · rw [if_pos nz] at eA
    exact v_X9_bestQuestion_67_18 ⟨fun _ => v_X9_bestQuestion_67_65 (hQ' _ m eA q0), fun _ => ⟨fun _ => v_X9_bestQuestion_67_65 (hQ' _ m eA q0), fun q => absurd nz q⟩⟩
  · rw [if_neg nz] at eA
    have emx : (2147483647 : Int32).toInt = 2147483647 := ti_2147483647
    have loop : ∀ (t f : Nat) (x4 x5 x6 : Int32), f + t = hoF H → x6.toInt = (f : Int) → Rac (asB H S x f) x4 x5 → j_X9_bestQuestion_67_18 4 (szG S) x x4 x5 x6 m Q := by
      intro t
      induction t with
      | zero =>
        intro f x4 x5 x6 hf h6 hR
        rw [show f = hoF H by omega] at hR
        exact v_X9_bestQuestion_67_18 ⟨fun _ => v_X9_bestQuestion_67_65 (hQ' _ m (eA.trans (asV_c hR)) q0), fun q => by exfalso; omega⟩
      | succ t ih =>
        intro f x4 x5 x6 hf h6 hR
        have wl := wrs_le (S := S) (x := x) (f := f) w10
        have on : ∀ y z : Int32, Rac (asB H S x (f + 1)) y z → j_X9_bestQuestion_67_59 4 (szG S) x y z x6 m Q := fun y z r => v_X9_bestQuestion_67_59 (ih (f + 1) _ _ _ (by omega) (d_inc h6 (by omega)) r)
        refine v_X9_bestQuestion_67_18 ⟨fun q => by exfalso; omega, fun _ => ⟨fun q => absurd q nz, fun _ => ea_worst hK.1 hb h6 (by omega) ⟨fun le => on _ _ ?_, fun l => on _ _ ?_⟩⟩⟩
        all_goals rw [asB_s]
        all_goals
          cases hh : asB H S x f with
          | none =>
            rewrite [hh] at hR
            have hR : x4 = -2 ∧ x5 = 2147483647 := hR
            first
              | (exfalso; rw [hR.2] at le; omega)
              | exact ⟨h6, rfl⟩
          | some p =>
            obtain ⟨b, l'⟩ := p
            rewrite [hh] at hR
            have hR : x4.toInt = (b : Int) ∧ x5 = l' := hR
            have e5 := hR.2
            subst e5
            show Rac (if (wrs H S x f).toInt < x5.toInt then some (f, wrs H S x f) else some (b, x5)) _ _
            first
              | (rw [if_neg (by omega)]; exact ⟨hR.1, rfl⟩)
              | (rw [if_pos l]; exact ⟨h6, rfl⟩)
    exact loop (hoF H) 0 _ _ _ (by omega) (by decide) ⟨rfl, rfl⟩
theorem eb_ask {Q : Int32 → dM → Prop} (hK : KR H S P L s m) (h63 : (m.1 70 63).toInt = (n : Int)) (hn : n ≤ 20) (hT : TR F B n m) (hQ : ∀ m' : dM, RsF m m' → Q (aAsk H S F B n x1) m') : c_X12_ask_70 9 x1 m Q := by
  have f7 := hK.1.1.1
  have w10 := hK.1.1.2.1
  have hQ' : ∀ (v : Int32) (m' : dM), aAsk H S F B n x1 = v → RsF m m' → Q v m' := fun v m' e q => by rw [← e]; exact hQ m' q
  have e0 := ti_0
  have em2 := ti_m2
  refine v_X12_ask_70 (Wp.deep (y_in (fun h => ⟨fun _ => ?_, fun z => absurd z (by decide)⟩) (fun q => ⟨fun z => absurd rfl z, fun _ => hQ' _ m (by unfold aAsk; rw [if_neg (by omega)]) (RsF.rf m)⟩)) (Nat.le_of_ble_eq_true rfl))
  have hx := toNat_of (x := x1) (by omega)
  have eA : aAsk H S F B n x1 = (if (susB H S F B x1.toNatClampNeg).toInt = 0 then -2 else asV (asB H S (susB H S F B x1.toNatClampNeg) (hoF H))) := by unfold aAsk; rw [if_pos (by omega)]
  refine eb_wentBits hK hx (by omega) hn hT (fun M f hv => ?_)
  have hs : ∀ w : Nat, w < hoW H → bt (susB H S F B x1.toNatClampNeg) w = true → M.1 114 w = ltB H (szG S ||| b1 w) := fun w hw hb => hv w hw (by
    unfold susB at hb
    rw [bt_bs _ (by omega), decide_eq_true hw, Bool.true_and] at hb
    unfold sus at hb
    rw [Bool.and_eq_true] at hb
    cases e : bt (szG S) w with
    | false => rfl
    | true => rw [e] at hb; cases hb.1)
  generalize susB H S F B x1.toNatClampNeg = x at eA hs ⊢
  have hKM := hK.rs f
  have a := hKM.1.2.1.1
  by_cases nz : x.toInt = 0
  · rw [if_pos nz] at eA
    refine v_X12_ask_70_29 ?_
    exact ⟨by omega, fun _ => v_X12_ask_70_153 (hQ' _ M eA f), fun _ => ⟨fun _ => v_X12_ask_70_153 (hQ' _ M eA f), fun q => absurd nz q⟩⟩
  · rw [if_neg nz] at eA
    have loop : ∀ (t g : Nat) (x3 x4 x5 : Int32), g + t = hoF H → x5.toInt = (g : Int) → Rar (asB H S x g) x3 x4 → j_X12_ask_70_29 9 x x3 x4 x5 M Q := by
      intro t
      induction t with
      | zero =>
        intro g x3 x4 x5 hg h5 hR
        rw [show g = hoF H by omega] at hR
        refine v_X12_ask_70_29 ?_
        rw [d_cn a.1, hKM.1.2.1.2.1.1, a.1]
        exact ⟨by omega, fun _ => v_X12_ask_70_153 (hQ' _ M (eA.trans (asV_r hR)) f), fun q => by exfalso; omega⟩
      | succ t ih =>
        intro g x3 x4 x5 hg h5 hR
        have on : ∀ y z : Int32, Rar (asB H S x (g + 1)) y z → j_X12_ask_70_147 9 x y z x5 M Q := fun y z r => v_X12_ask_70_147 (ih (g + 1) _ _ _ (by omega) (d_inc h5 (by omega)) r)
        have fin : ∀ v : Int32, v = wrs H S x g → (x3.toInt < 0 → j_X12_ask_70_140 9 x x5 v M Q) ∧ (0 ≤ x3.toInt → (v.toInt < x4.toInt → j_X12_ask_70_140 9 x x5 v M Q) ∧ (x4.toInt ≤ v.toInt → j_X12_ask_70_147 9 x x3 x4 x5 M Q)) := fun v ev => by
          rw [ev]
          have up : ((x3.toInt < 0) ∨ (wrs H S x g).toInt < x4.toInt) → j_X12_ask_70_140 9 x x5 (wrs H S x g) M Q := fun q => v_X12_ask_70_140 (on _ _ (by
            rw [asB_s]
            cases hh : asB H S x g with
            | none => exact ⟨h5, rfl⟩
            | some p =>
              obtain ⟨b, l'⟩ := p
              rewrite [hh] at hR
              have hR : x3.toInt = (b : Int) ∧ x4 = l' := hR
              have e4 := hR.2
              subst e4
              show Rar (if (wrs H S x g).toInt < x4.toInt then some (g, wrs H S x g) else some (b, x4)) _ _
              rw [if_pos (by omega)]
              exact ⟨h5, rfl⟩))
          refine ⟨fun q => up (Or.inl q), fun q => ⟨fun l => up (Or.inr l), fun le => on _ _ ?_⟩⟩
          rw [asB_s]
          cases hh : asB H S x g with
          | none =>
            rewrite [hh] at hR
            have hR : x3 = -2 := hR
            exfalso
            rw [hR] at q
            omega
          | some p =>
            obtain ⟨b, l'⟩ := p
            rewrite [hh] at hR
            have hR : x3.toInt = (b : Int) ∧ x4 = l' := hR
            have e4 := hR.2
            subst e4
            show Rar (if (wrs H S x g).toInt < x4.toInt then some (g, wrs H S x g) else some (b, x4)) _ _
            rw [if_neg (by omega)]
            exact ⟨hR.1, rfl⟩
        have inner : ∀ (u w : Nat) (x7 : Int32), w + u = hoW H → x7.toInt = (w : Int) → j_X12_ask_70_53 9 x x3 x4 x5 (nLt H S x g w) x7 M Q := by
          intro u
          induction u with
          | zero =>
            intro w x7 hw h7
            rw [show w = hoW H by omega]
            have lti : (nLt H S x g (hoW H) < (pc10 x 10 - nLt H S x g (hoW H))) ↔ (nLt H S x g (hoW H)).toInt < (pc10 x 10 - nLt H S x g (hoW H)).toInt := Int32.lt_iff_toInt_lt
            refine v_X12_ask_70_53 ?_
            rw [d_cn a.1, hKM.1.2.1.2.2.1.1, a.1]
            refine ⟨by omega, fun _ => Wp.deep (eb_bits ⟨fun le => Wp.deep (eb_bits (fin _ ?_)) (Nat.le_of_ble_eq_true rfl), fun g' => fin _ ?_⟩) (Nat.le_of_ble_eq_true rfl), fun q => by exfalso; omega⟩
            · unfold wrs
              by_cases q : nLt H S x g (hoW H) < (pc10 x 10 - nLt H S x g (hoW H))
              · rw [if_pos q]
              · rw [if_neg q]
                exact d_ce (by
                  have : ¬ (nLt H S x g (hoW H)).toInt < (pc10 x 10 - nLt H S x g (hoW H)).toInt := fun z => q (lti.mpr z)
                  omega)
            · unfold wrs
              rw [if_neg (fun z => by have := lti.mp z; omega)]
          | succ u ih2 =>
            intro w x7 hw h7
            have n' := ih2 (w + 1) _ (by omega) (d_inc h7 (by omega))
            rw [nLt_s] at n'
            refine v_X12_ask_70_53 ?_
            rw [d_cn a.1, hKM.1.2.1.2.2.1.1, a.1, bt_s h7 (by omega), d_cn h7]
            refine ⟨by omega, fun q => by exfalso; omega, fun _ => ?_⟩
            cases e : bt x w with
            | false =>
              rw [e, Bool.false_and, cond_false, Int32.add_zero] at n'
              exact ⟨fun _ => v_X12_ask_70_94 n', fun q => absurd q (by decide)⟩
            | true =>
              rw [e, Bool.true_and] at n'
              refine ⟨fun q => absurd rfl q, fun _ => ⟨by omega, v_X12_ask_70_94 ?_⟩⟩
              rw [hs w (by omega) e]
              have ee : ((ltB H (szG S ||| b1 w) >>> (x5 &&& 31)) &&& (1 : Int32)) = cond (bt (ltB H (szG S ||| b1 w)) g) 1 0 := by
                apply d_ce
                rw [bt_s h5 (by omega)]
                cases bt (ltB H (szG S ||| b1 w)) g <;> decide
              rw [ee]
              exact n'
        refine v_X12_ask_70_29 ?_
        rw [d_cn a.1, hKM.1.2.1.2.1.1, a.1]
        exact ⟨by omega, fun q => by exfalso; omega, fun _ => ⟨fun q => absurd q nz, fun _ => inner (hoW H) 0 _ (by omega) (by decide)⟩⟩
    exact loop (hoF H) 0 _ _ _ (by omega) (by decide) rfl
end QAS
