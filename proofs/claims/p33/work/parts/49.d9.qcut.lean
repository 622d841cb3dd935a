/-! QUESTIONS, exactly: cut -/
/-- the first of a list of which this is so -/
def fd (p : Int32 → Bool) : List Int32 → Option Int32
  | [] => none
  | x :: l => cond (p x) (some x) (fd p l)
/-- sets of so many wires, from a number on, the first ones first -/
def zEL (nxt : Nat → List Int32) : Nat → Nat → List Int32
  | 0, _ => []
  | t + 1, v => (nxt (v + 1)).map (fun o => o ||| b1 v) ++ zEL nxt t (v + 1)
def zEN : Nat → Nat → List Int32
  | 0, _ => [0]
  | k + 1, w => zEL (zEN k) (10 - w) w
def zET : Nat → Nat → List Int32
  | 0, _ => []
  | t + 1, n => zEN n 0 ++ zET t (n + 1)
def cvt (o : Option Int32) : Int32 := match o with
  | none => -1
  | some x => x
theorem fd_s {p : Int32 → Bool} {x : Int32} {l : List Int32} : fd p (x :: l) = cond (p x) (some x) (fd p l) := rfl
theorem fd_app {p : Int32 → Bool} : ∀ (a b : List Int32), fd p (a ++ b) = (match fd p a with
    | none => fd p b
    | some x => some x)
  | [], b => rfl
  | x :: a, b => by
    rw [List.cons_append, fd_s, fd_s]
    cases p x with
    | true => rfl
    | false => rw [cond_false, cond_false]; exact fd_app a b
theorem fd_map {p : Int32 → Bool} {f : Int32 → Int32} : ∀ l : List Int32, fd p (l.map f) = (fd (fun x => p (f x)) l).map f
  | [] => rfl
  | x :: l => by
    rw [List.map_cons, fd_s, fd_s]
    cases p (f x) with
    | true => rfl
    | false => rw [cond_false, cond_false]; exact fd_map l
theorem fd_congr {p q : Int32 → Bool} : ∀ l : List Int32, (∀ x ∈ l, p x = q x) → fd p l = fd q l
  | [], _ => rfl
  | x :: l, h => by
    rw [fd_s, fd_s, h x (List.mem_cons_self ..), fd_congr l (fun y hy => h y (List.mem_cons_of_mem _ hy))]
theorem fd_none {p : Int32 → Bool} : ∀ l : List Int32, (∀ x ∈ l, p x = false) → fd p l = none
  | [], _ => rfl
  | x :: l, h => by
    rw [fd_s, h x (List.mem_cons_self ..), cond_false]
    exact fd_none l (fun y hy => h y (List.mem_cons_of_mem _ hy))
theorem fd_no {p : Int32 → Bool} : ∀ l : List Int32, fd p l = none → ∀ x ∈ l, p x = false
  | [], _, x, hx => absurd hx List.not_mem_nil
  | y :: l, h, x, hx => by
    rw [fd_s] at h
    cases e : p y with
    | true =>
      rw [e, cond_true] at h
      cases h
    | false =>
      rw [e, cond_false] at h
      rcases List.mem_cons.mp hx with q | q
      · rw [q]; exact e
      · exact fd_no l h x q
theorem fd_some {p : Int32 → Bool} {c : Int32} : ∀ l : List Int32, fd p l = some c → c ∈ l ∧ p c = true
  | [], h => by
    have h : (none : Option Int32) = some c := h
    cases h
  | y :: l, h => by
    rw [fd_s] at h
    cases e : p y with
    | true =>
      rw [e, cond_true] at h
      cases h
      exact ⟨List.mem_cons_self .., e⟩
    | false =>
      rw [e, cond_false] at h
      have := fd_some l h
      exact ⟨List.mem_cons_of_mem _ this.1, this.2⟩
theorem zEL_b {nxt : Nat → List Int32} (h : ∀ v : Nat, ∀ x ∈ nxt v, ∀ i : Nat, bt x i = true → v ≤ i ∧ i < 10) : ∀ (t v : Nat), v + t ≤ 10 → ∀ x ∈ zEL nxt t v, (∀ i : Nat, bt x i = true → v ≤ i ∧ i < 10) ∧ ∃ i : Nat, v ≤ i ∧ i < 10 ∧ bt x i = true
  | 0, v, _, x, hx => absurd hx List.not_mem_nil
  | t + 1, v, hv, x, hx => by
    have hx : x ∈ (nxt (v + 1)).map (fun o => o ||| b1 v) ++ zEL nxt t (v + 1) := hx
    rcases List.mem_append.mp hx with q | q
    · obtain ⟨o, ho, e⟩ := List.mem_map.mp q
      rw [← e]
      refine ⟨fun i hi => ?_, v, Nat.le_refl _, by omega, by rw [bt_or, bt_1 (by omega), decide_eq_true rfl, Bool.or_true]⟩
      rw [bt_or, bt_1 (by omega), Bool.or_eq_true, decide_eq_true_eq] at hi
      rcases hi with hi | hi
      · have := h (v + 1) o ho i hi
        omega
      · omega
    · have := zEL_b h t (v + 1) (by omega) x q
      refine ⟨fun i hi => by have := this.1 i hi; omega, ?_⟩
      obtain ⟨i, i1, i2, i3⟩ := this.2
      exact ⟨i, by omega, i2, i3⟩
theorem zEN_b : ∀ (k w : Nat), ∀ x ∈ zEN k w, ∀ i : Nat, bt x i = true → w ≤ i ∧ i < 10
  | 0, w, x, hx, i, hi => by
    have e : x = 0 := List.mem_singleton.mp hx
    rw [e, bt_0] at hi
    cases hi
  | k + 1, w, x, hx, i, hi => by
    by_cases q : w ≤ 10
    · exact (zEL_b (zEN_b k) (10 - w) w (by omega) x hx).1 i hi
    · have hx : x ∈ zEL (zEN k) (10 - w) w := hx
      rw [show 10 - w = 0 by omega] at hx
      exact absurd hx List.not_mem_nil
theorem zET_b : ∀ (t n : Nat), ∀ x ∈ zET t n, ∀ i : Nat, bt x i = true → i < 10
  | 0, n, x, hx, i, hi => absurd hx List.not_mem_nil
  | t + 1, n, x, hx, i, hi => by
    have hx : x ∈ zEN n 0 ++ zET t (n + 1) := hx
    rcases List.mem_append.mp hx with q | q
    · exact (zEN_b n 0 x q i hi).2
    · exact zET_b t (n + 1) x q i hi
theorem ne_m1 {x : Int32} (h : ∀ i : Nat, bt x i = true → i < 10) : x.toInt ≠ -1 := fun e => by
  have e : x = -1 := d_ce (e.trans ti_m1.symm)
  have := h 31 (by rw [e]; exact bt_m1 (by omega))
  omega
def ctp (H : Ho) (f : Nat) (g x : Int32) : Bool := decide (x &&& g = 0) && decide (∀ i : Nat, i < 10 → bt x i = true → i < hoW H) && !lt H (g ||| x) f
section QCU
variable {H : Ho} {S : Zt} {P : List Zt} {L : Nat → Zt} {m : dM} {s : Nat} {x1 x2 : Int32} {f : Nat}
theorem ctp_iff {g x : Int32} : ctp H f g x = true ↔ x &&& g = 0 ∧ (∀ i : Nat, i < 10 → bt x i = true → i < hoW H) ∧ lt H (g ||| x) f = false := by
  unfold ctp
  rw [Bool.and_eq_true, Bool.and_eq_true, decide_eq_true_eq, decide_eq_true_eq, Bool.not_eq_true', and_assoc]
theorem ctp_f {g x : Int32} (h : ¬ (x &&& g = 0 ∧ (∀ i : Nat, i < 10 → bt x i = true → i < hoW H) ∧ lt H (g ||| x) f = false)) : ctp H f g x = false := by
  cases e : ctp H f g x with
  | false => rfl
  | true => exact absurd (ctp_iff.mp e) h
theorem ctp_0 {g : Int32} : ctp H f g 0 = !lt H g f := by
  cases e : lt H g f with
  | true => exact ctp_f (fun w => by have := w.2.2; rw [Int32.or_zero, e] at this; cases this)
  | false => exact ctp_iff.mpr ⟨Int32.zero_and, (fun i _ hi => by rw [bt_0] at hi; cases hi), by rw [Int32.or_zero]; exact e⟩
theorem ctp_up {g o : Int32} {v : Nat} (hv : v < hoW H) (h10 : hoW H ≤ 10) (hg : bt g v = false) (ho : ∀ i : Nat, bt o i = true → v + 1 ≤ i ∧ i < 10) : ctp H f g (o ||| b1 v) = ctp H f (g ||| b1 v) o := by
  have e1 : ((o ||| b1 v) &&& g = 0) ↔ (o &&& (g ||| b1 v) = 0) := by
    have ov : bt o v = false := by
      cases b : bt o v with
      | false => rfl
      | true => have := ho v b; omega
    have e : (o ||| b1 v) &&& g = o &&& (g ||| b1 v) := bt_ext (fun i _ => by
      rw [bt_and, bt_and, bt_or, bt_or, bt_1 (by omega)]
      by_cases q : i = v
      · rw [q, decide_eq_true rfl, hg, ov]; rfl
      · rw [decide_eq_false q, Bool.or_false, Bool.or_false])
    rw [e]
  have e2 : (∀ i : Nat, i < 10 → bt (o ||| b1 v) i = true → i < hoW H) ↔ (∀ i : Nat, i < 10 → bt o i = true → i < hoW H) := by
    constructor
    · intro h i hi hb
      exact h i hi (by rw [bt_or, hb, Bool.true_or])
    · intro h i hi hb
      rw [bt_or, bt_1 (by omega), Bool.or_eq_true, decide_eq_true_eq] at hb
      rcases hb with hb | hb
      · exact h i hi hb
      · omega
  have e3 : g ||| (o ||| b1 v) = (g ||| b1 v) ||| o := bt_ext (fun i _ => by
    rw [bt_or, bt_or, bt_or, bt_or]
    cases bt g i <;> cases bt o i <;> cases bt (b1 v) i <;> rfl)
  cases q : ctp H f (g ||| b1 v) o with
  | true =>
    have w := ctp_iff.mp q
    exact ctp_iff.mpr ⟨e1.mpr w.1, e2.mpr w.2.1, by rw [e3]; exact w.2.2⟩
  | false =>
    refine ctp_f (fun w => ?_)
    have : ctp H f (g ||| b1 v) o = true := ctp_iff.mpr ⟨e1.mp w.1, e2.mp w.2.1, by rw [← e3]; exact w.2.2⟩
    rw [q] at this
    cases this
theorem ea_cutBy (hx : x1.toInt = (f : Int)) : ∀ (k w : Nat) (g x3 x4 : Int32) (M : dM) (Q : Int32 → dM → Prop), CW H M → f < hoF H → x3.toInt = (w : Int) → x4.toInt = (k : Int) → w ≤ 10 → k ≤ 3 → Q (cvt (fd (ctp H f g) (zEN k w))) M → c_X1_cutBy_2 (3 + k) x1 g x3 x4 M Q := by
  intro k
  induction k with
  | zero =>
    intro w g x3 x4 M Q hW hf h3 h4 hw hk hQ
    have f7 := hW.1.1
    have hQ : Q (cvt (cond (ctp H f g 0) (some 0) none)) M := hQ
    have lb : bt (ltB H g) f = lt H g f := by rw [bt_ltB f7, decide_eq_true hf, Bool.true_and]
    rw [ctp_0, ← lb] at hQ
    refine v_X1_cutBy_2 ⟨fun q => by exfalso; omega, fun _ => ea_lit hW (Wp.deep (d := 1) (y_has hx (by omega) (fun b => ⟨fun z => absurd z (by decide), fun _ => ?_⟩) (fun b => ⟨fun _ => ?_, fun z => absurd rfl z⟩)) (Nat.le_of_ble_eq_true rfl))⟩
    · rw [b] at hQ; exact hQ
    · rw [b] at hQ; exact hQ
  | succ k ih =>
    intro w g x3 x4 M Q hW hf h3 h4 hw hk hQ
    have w10 := hW.1.2.1
    have e21 := hW.2.1.1.2.1.1
    have fs := dSubE (X := x4.toInt) (Y := 1) (x := x4) (y := (1 : Int32)) rfl (by decide) (by omega) (by omega)
    have loop : ∀ (t v : Nat) (x5 : Int32), v + t = 10 → x5.toInt = (v : Int) → Q (cvt (fd (ctp H f g) (zEL (zEN k) t v))) M → j_X1_cutBy_2_26 (3 + (k + 1)) x1 g x4 x5 M Q := by
      intro t
      induction t with
      | zero => intro v x5 hv h5 hq; exact v_X1_cutBy_2_26 ⟨fun _ => hq, fun q => by exfalso; omega⟩
      | succ t ih2 =>
        intro v x5 hv h5 hq
        have off : (hoW H ≤ v) → fd (ctp H f g) (zEL (zEN k) (t + 1) v) = none := fun le => fd_none _ (fun x hx => ctp_f (fun z => by
          obtain ⟨i, i1, i2, i3⟩ := (zEL_b (zEN_b k) (t + 1) v (by omega) x hx).2
          have := z.2.1 i i2 i3
          omega))
        have eS : fd (ctp H f g) (zEL (zEN k) (t + 1) v) = match fd (ctp H f g) ((zEN k (v + 1)).map (fun o => o ||| b1 v)) with
          | none => fd (ctp H f g) (zEL (zEN k) t (v + 1))
          | some x => some x := fd_app _ _
        refine v_X1_cutBy_2_26 ⟨fun le => by rw [off (by omega)] at hq; exact hq, fun lv => ?_⟩
        rw [b1_of h5]
        refine Wp.deep (d := 1) (d' := 3 + k) (y_has h5 (by omega) (fun b => ⟨fun _ => v_X1_cutBy_2_79 (ih2 (v + 1) _ (by omega) (d_inc h5 (by omega)) ?_), fun z => absurd z (by decide)⟩) (fun b => ⟨fun z => absurd rfl z, fun _ => ih (v + 1) (g ||| b1 v) _ _ M _ hW hf (d_inc h5 (by omega)) (by omega) (by omega) (by omega) ?_⟩)) (show 1 ≤ 3 + k by omega)
        · have no : fd (ctp H f g) ((zEN k (v + 1)).map (fun o => o ||| b1 v)) = none := fd_none _ (fun x hx => ctp_f (fun z => by
            obtain ⟨o, ho, e⟩ := List.mem_map.mp hx
            have zz : bt (x &&& g) v = false := by rw [z.1, bt_0]
            rw [← e, bt_and, bt_or, bt_1 (by omega), decide_eq_true rfl, Bool.or_true, Bool.true_and, b] at zz
            cases zz))
          rw [eS, no] at hq
          exact hq
        · have mp : fd (ctp H f g) ((zEN k (v + 1)).map (fun o => o ||| b1 v)) = (fd (ctp H f (g ||| b1 v)) (zEN k (v + 1))).map (fun o => o ||| b1 v) := by
            rw [fd_map]
            exact congrArg _ (fd_congr _ (fun o ho => ctp_up (by omega) w10 b (zEN_b k (v + 1) o ho)))
          rw [eS, mp] at hq
          cases e : fd (ctp H f (g ||| b1 v)) (zEN k (v + 1)) with
          | none =>
            rw [e] at hq
            exact ⟨fun _ => v_X1_cutBy_2_79 (ih2 (v + 1) _ (by omega) (d_inc h5 (by omega)) hq), fun q => absurd ti_m1 q⟩
          | some y =>
            rw [e] at hq
            have ne : y.toInt ≠ -1 := ne_m1 (fun i hi => (zEN_b k (v + 1) y (fd_some _ e).1 i hi).2)
            exact ⟨fun q => absurd q ne, fun _ => hq⟩
    exact v_X1_cutBy_2 ⟨fun q => loop (10 - w) w _ (by omega) h3 hQ, fun q => by exfalso; omega⟩
def aCt (H : Ho) (S : Zt) (x1 x2 : Int32) : Int32 := if (0 ≤ x1.toInt ∧ x1.toInt < (hoF H : Int)) ∧ -1 ≤ x2.toInt ∧ x2.toInt ≤ 2 then (match fd (ctp H x1.toNatClampNeg (szG S)) (zET 4 0) with
    | none => -2
    | some y => if x2.toInt = -1 then pc10 y 10 else ithB y 10 0 x2.toNatClampNeg) else -1
theorem zET_n : ∀ x ∈ zET 4 0, 0 ≤ x.toInt ∧ (pc10 x 10).toInt ≤ 3 := by
  have h : (zET 4 0).all (fun x => decide (0 ≤ x.toInt ∧ (pc10 x 10).toInt ≤ 3)) = true := by decide +kernel
  exact fun x hx => of_decide_eq_true (List.all_eq_true.mp h x hx)
theorem ea_cut {Q : Int32 → dM → Prop} (hK : KC H S P L m) (hQ : ∀ m' : dM, QC H S P L m m' → Q (aCt H S x1 x2) m') : c_X11_cut_0 8 x1 x2 m Q := by
  have q0 := QC.rf hK
  have f7 := hK.1.1.1
  have g3 : m.1 47 3 = szG S := hK.2.1.1.2.2.2.1
  have hQ' : ∀ (v : Int32) (m' : dM), aCt H S x1 x2 = v → QC H S P L m m' → Q v m' := fun v m' e q => by rw [← e]; exact hQ m' q
  have no : ¬ ((0 ≤ x1.toInt ∧ x1.toInt < (hoF H : Int)) ∧ -1 ≤ x2.toInt ∧ x2.toInt ≤ 2) → j_X11_cut_0_18 8 m Q := fun q => v_X11_cut_0_18 (hQ' _ m (by unfold aCt; rw [if_neg q]) q0)
  refine v_X11_cut_0 (Wp.deep (y_isFlatc hK.1 (fun hu => ⟨fun z => absurd z (by decide), fun _ => ⟨fun q => no (by omega), fun p1 => ⟨fun p2 => ?_, fun q => no (by omega)⟩⟩⟩) (fun hu => ⟨fun _ => no (fun w => hu w.1), fun z => absurd rfl z⟩)) (Nat.le_of_ble_eq_true rfl))
  have hx := toNat_of hu.1
  have hf : x1.toNatClampNeg < hoF H := by omega
  have eA : aCt H S x1 x2 = (match fd (ctp H x1.toNatClampNeg (szG S)) (zET 4 0) with
    | none => -2
    | some y => if x2.toInt = -1 then pc10 y 10 else ithB y 10 0 x2.toNatClampNeg) := by unfold aCt; rw [if_pos (by omega)]
  have em := ti_m1
  have fin : ∀ o : Option Int32, o = fd (ctp H x1.toNatClampNeg (szG S)) (zET 4 0) → (0 ≤ (cvt o).toInt → (x2.toInt ≠ (-1) → c_X11_bitAt 7 (cvt o) x2 m (fun r3 m3 => Q r3 m3)) ∧ (x2.toInt = (-1) → c_J6_bitCount 7 (cvt o) m (fun r4 m4 => Q r4 m4))) ∧ ((cvt o).toInt < 0 → Q (-2 : Int32) m) := fun o eo => by
    rw [← eo] at eA
    cases o with
    | none =>
      refine ⟨fun q => ?_, fun _ => hQ' _ m eA q0⟩
      exfalso
      have q : 0 ≤ (-1 : Int32).toInt := q
      omega
    | some y =>
      have my := (fd_some _ eo.symm).1
      have b10 : ∀ i : Nat, 10 ≤ i → bt y i = false := fun i hi => by
        cases b : bt y i with
        | false => rfl
        | true => have := zET_b 4 0 y my i b; omega
      have y0 := (zET_n y my).1
      have eA : aCt H S x1 x2 = if x2.toInt = -1 then pc10 y 10 else ithB y 10 0 x2.toNatClampNeg := eA
      refine ⟨fun _ => ⟨fun ne => ?_, fun e => Wp.deep (ea_bits b10 (hQ' _ m (by rw [eA, if_pos e]; rfl) q0)) (Nat.le_of_ble_eq_true rfl)⟩, fun q => ?_⟩
      · have h2 := toNat_of (x := x2) (by omega)
        refine Wp.deep (ea_bitAt (k := x2.toNatClampNeg) h2 (by omega) (hQ' _ m ?_ q0)) (Nat.le_of_ble_eq_true rfl)
        rw [eA, if_neg ne]
        exact (ithB_c b10 10 0 x2.toNatClampNeg rfl).symm
      · exfalso
        have q : y.toInt < 0 := q
        omega
  have loop : ∀ (t n : Nat) (x3 : Int32), n + t = 4 → x3.toInt = (n : Int) → fd (ctp H x1.toNatClampNeg (szG S)) (zET t n) = fd (ctp H x1.toNatClampNeg (szG S)) (zET 4 0) → j_X1_leastCut_61_47_2 7 x1 x3 m (fun r2 m2 => (0 ≤ r2.toInt → (x2.toInt ≠ (-1) → c_X11_bitAt 7 r2 x2 m2 (fun r3 m3 => Q r3 m3)) ∧ (x2.toInt = (-1) → c_J6_bitCount 7 r2 m2 (fun r4 m4 => Q r4 m4))) ∧ (r2.toInt < 0 → Q (-2 : Int32) m2)) := by
    intro t
    induction t with
    | zero => intro n x3 hn h3 e; exact v_X1_leastCut_61_47_2 ⟨fun _ => fin none e, fun q => by exfalso; omega⟩
    | succ t ih =>
      intro n x3 hn h3 e
      have eS : fd (ctp H x1.toNatClampNeg (szG S)) (zET (t + 1) n) = match fd (ctp H x1.toNatClampNeg (szG S)) (zEN n 0) with
        | none => fd (ctp H x1.toNatClampNeg (szG S)) (zET t (n + 1))
        | some x => some x := fd_app _ _
      rw [eS] at e
      refine v_X1_leastCut_61_47_2 ⟨fun q => by exfalso; omega, fun _ => ?_⟩
      rw [g3]
      refine Wp.deep (d := 3 + n) (d' := 6) (ea_cutBy hx n 0 _ _ _ m _ hK.1 hf (by decide) h3 (by omega) (by omega) ?_) (show 3 + n ≤ 6 by omega)
      cases ee : fd (ctp H x1.toNatClampNeg (szG S)) (zEN n 0) with
      | none =>
        rw [ee] at e
        exact ⟨fun _ => ih (n + 1) _ (by omega) (d_inc h3 (by omega)) e, fun q => absurd em q⟩
      | some y =>
        rw [ee] at e
        have ne : y.toInt ≠ -1 := ne_m1 (fun i hi => (zEN_b n 0 y (fd_some _ ee).1 i hi).2)
        exact ⟨fun q => absurd q ne, fun _ => fin (some y) e⟩
  exact v_X1_leastCut_61_47 (loop 4 0 _ rfl (by decide) rfl)
end QCU
