/-! QUESTIONS, exactly: cut, 2 -/
def kIt (x : Int32) (i : Nat) : Int := (ithB x 10 0 i).toInt
def erl (x y : Int32) : Bool := if kIt x 0 = kIt y 0 then (if kIt x 1 = kIt y 1 then (if kIt x 2 = kIt y 2 then false else decide (kIt x 2 < kIt y 2)) else decide (kIt x 1 < kIt y 1)) else decide (kIt x 0 < kIt y 0)
/-- the place of a set among the sets -/
def key (x : Int32) : Int := (pc10 x 10).toInt * 1331 + (kIt x 0 + 1) * 121 + (kIt x 1 + 1) * 11 + (kIt x 2 + 1)
theorem ithB_b {x : Int32} : ∀ (t b r : Nat), b + t ≤ 1000 → -1 ≤ (ithB x t b r).toInt ∧ (ithB x t b r).toInt < ((b + t : Nat) : Int)
  | 0, b, r, _ => by
    have := ti_m1
    show -1 ≤ (-1 : Int32).toInt ∧ (-1 : Int32).toInt < _
    omega
  | t + 1, b, r, h => by
    rw [ithB_s]
    cases bt x b with
    | false =>
      have := ithB_b (x := x) t (b + 1) r (by omega)
      rw [cond_false]
      omega
    | true =>
      rw [cond_true]
      by_cases q : r = 0
      · rw [if_pos q, i32_n (by omega)]; omega
      · have := ithB_b (x := x) t (b + 1) (r - 1) (by omega)
        rw [if_neg q]
        omega
theorem kIt_b (x : Int32) (i : Nat) : -1 ≤ kIt x i ∧ kIt x i ≤ 9 := by
  have := ithB_b (x := x) 10 0 i (by omega)
  unfold kIt
  omega
theorem erl_key {x y : Int32} (h : (pc10 x 10).toInt = (pc10 y 10).toInt) : erl x y = decide (key x < key y) := by
  have a0 := kIt_b x 0
  have a1 := kIt_b x 1
  have a2 := kIt_b x 2
  have b0 := kIt_b y 0
  have b1' := kIt_b y 1
  have b2 := kIt_b y 2
  unfold erl key
  by_cases q0 : kIt x 0 = kIt y 0
  · rw [if_pos q0]
    by_cases q1 : kIt x 1 = kIt y 1
    · rw [if_pos q1]
      by_cases q2 : kIt x 2 = kIt y 2
      · rw [if_pos q2]; exact (decide_eq_false (by omega)).symm
      · rw [if_neg q2]; exact decide_eq_decide.mpr (by omega)
    · rw [if_neg q1]; exact decide_eq_decide.mpr (by omega)
  · rw [if_neg q0]; exact decide_eq_decide.mpr (by omega)
theorem key_lt {x y : Int32} (h : (pc10 x 10).toInt < (pc10 y 10).toInt) : key x < key y := by
  have a0 := kIt_b x 0
  have a1 := kIt_b x 1
  have a2 := kIt_b x 2
  have b0 := kIt_b y 0
  have b1' := kIt_b y 1
  have b2 := kIt_b y 2
  unfold key
  omega
def Sd : List Int32 → Prop
  | [] => True
  | x :: l => (∀ y ∈ l, key x < key y) ∧ Sd l
def chk : Int → List Int32 → Bool
  | _, [] => true
  | k, x :: l => decide (k < key x) && chk (key x) l
theorem chk_ok : ∀ (l : List Int32) (k : Int), chk k l = true → (∀ y ∈ l, k < key y) ∧ Sd l
  | [], k, _ => ⟨fun y hy => absurd hy List.not_mem_nil, trivial⟩
  | x :: l, k, h => by
    have h : (decide (k < key x) && chk (key x) l) = true := h
    rw [Bool.and_eq_true, decide_eq_true_eq] at h
    have ih := chk_ok l (key x) h.2
    refine ⟨fun y hy => ?_, ih⟩
    rcases List.mem_cons.mp hy with q | q
    · rw [q]; exact h.1
    · have := ih.1 y q
      omega
theorem zET_sd : Sd (zET 4 0) := (chk_ok (zET 4 0) (-1) (by decide +kernel)).2
theorem fd_first {p : Int32 → Bool} {c : Int32} : ∀ l : List Int32, Sd l → fd p l = some c → ∀ x ∈ l, p x = true → x = c ∨ key c < key x
  | [], _, h, x, hx, _ => absurd hx List.not_mem_nil
  | y :: l, hs, h, x, hx, hp => by
    rw [fd_s] at h
    cases e : p y with
    | true =>
      rw [e, cond_true] at h
      cases h
      rcases List.mem_cons.mp hx with q | q
      · exact Or.inl q
      · exact Or.inr (hs.1 x q)
    | false =>
      rw [e, cond_false] at h
      rcases List.mem_cons.mp hx with q | q
      · rw [q, e] at hp; cases hp
      · exact fd_first l hs.2 h x q hp
theorem zET_all : ∀ n : Nat, n < 1024 → (pc10 (Int32.ofInt (n : Int)) 10).toInt ≤ 3 → Int32.ofInt (n : Int) ∈ zET 4 0 := by
  have h : (List.range 1024).all (fun n => decide (3 < (pc10 (Int32.ofInt (n : Int)) 10).toInt) || decide (Int32.ofInt (n : Int) ∈ zET 4 0)) = true := by decide +kernel
  intro n hn hp
  have := List.all_eq_true.mp h n (List.mem_range.mpr hn)
  rw [Bool.or_eq_true, decide_eq_true_eq, decide_eq_true_eq] at this
  rcases this with q | q
  · omega
  · exact q
theorem bt_ofI {n i : Nat} (hn : n < 1024) : bt (Int32.ofInt (n : Int)) i = n.testBit i := by
  have e : (Int32.ofInt (n : Int)).toBitVec = BitVec.ofNat 32 n := by
    apply BitVec.eq_of_toNat_eq
    show (BitVec.ofInt 32 (n : Int)).toNat = _
    rw [BitVec.ofInt_natCast]
  unfold bt
  rw [e, BitVec.getLsbD_ofNat]
  by_cases q : i < 32
  · rw [decide_eq_true q, Bool.true_and]
  · rw [decide_eq_false q, Bool.false_and]
    exact (Nat.testBit_lt_two_pow (Nat.lt_of_lt_of_le hn (Nat.pow_le_pow_right (show 0 < 2 by omega) (show 10 ≤ i by omega) : 2 ^ 10 ≤ 2 ^ i))).symm
theorem ofI_bits {x : Int32} {W : Nat} (hW : W ≤ 10) (h : ∀ i : Nat, bt x i = true → i < W) : ∃ n : Nat, n < 2 ^ W ∧ x = Int32.ofInt (n : Int) := by
  refine ⟨x.toBitVec.toNat, ?_, ?_⟩
  · exact Nat.lt_pow_two_of_testBit _ (fun i hi => by
      cases b : x.toBitVec.toNat.testBit i with
      | false => rfl
      | true => have := h i b; omega)
  · apply Int32.toBitVec_inj.mp
    apply BitVec.eq_of_toNat_eq
    show _ = (BitVec.ofInt 32 (x.toBitVec.toNat : Int)).toNat
    rw [BitVec.ofInt_natCast, BitVec.toNat_ofNat]
    exact (Nat.mod_eq_of_lt x.toBitVec.isLt).symm
def bet (o : Option Int32) (x : Int32) : Bool := match o with
  | none => true
  | some b => decide (key x < key b)
/-- the best set among the first so many -/
def rfB (H : Ho) (f : Nat) (g : Int32) : Nat → Option Int32
  | 0 => none
  | j + 1 => if ((pc10 (Int32.ofInt (j : Int)) 10).toInt ≤ 3 ∧ Int32.ofInt (j : Int) &&& g = 0 ∧ lt H (g ||| Int32.ofInt (j : Int)) f = false) ∧ bet (rfB H f g j) (Int32.ofInt (j : Int)) = true then some (Int32.ofInt (j : Int)) else rfB H f g j
section QCV
variable {H : Ho} {S : Zt} {P : List Zt} {L : Nat → Zt} {m : dM} {s : Nat} {x1 x2 : Int32} {f : Nat} {g : Int32}
theorem rfB_s {j : Nat} : rfB H f g (j + 1) = if ((pc10 (Int32.ofInt (j : Int)) 10).toInt ≤ 3 ∧ Int32.ofInt (j : Int) &&& g = 0 ∧ lt H (g ||| Int32.ofInt (j : Int)) f = false) ∧ bet (rfB H f g j) (Int32.ofInt (j : Int)) = true then some (Int32.ofInt (j : Int)) else rfB H f g j := rfl
/-- a set that may be told -/
def ctO (H : Ho) (f : Nat) (g x : Int32) : Prop := (pc10 x 10).toInt ≤ 3 ∧ x &&& g = 0 ∧ lt H (g ||| x) f = false
theorem rfB_inv : ∀ j : Nat, (rfB H f g j = none → ∀ i : Nat, i < j → ¬ ctO H f g (Int32.ofInt (i : Int))) ∧ ∀ b : Int32, rfB H f g j = some b → (∃ i : Nat, i < j ∧ b = Int32.ofInt (i : Int)) ∧ ctO H f g b ∧ ∀ i : Nat, i < j → ctO H f g (Int32.ofInt (i : Int)) → key b ≤ key (Int32.ofInt (i : Int))
  | 0 => ⟨fun _ i hi => absurd hi (Nat.not_lt_zero i), (fun b h => by have h : (none : Option Int32) = some b := h; cases h)⟩
  | j + 1 => by
    have ih := rfB_inv j
    rw [rfB_s]
    by_cases q : ((pc10 (Int32.ofInt (j : Int)) 10).toInt ≤ 3 ∧ Int32.ofInt (j : Int) &&& g = 0 ∧ lt H (g ||| Int32.ofInt (j : Int)) f = false) ∧ bet (rfB H f g j) (Int32.ofInt (j : Int)) = true
    · rw [if_pos q]
      refine ⟨(fun h => by cases h), fun b h => ?_⟩
      cases h
      refine ⟨⟨j, by omega, rfl⟩, q.1, fun i hi ho => ?_⟩
      by_cases e : i = j
      · rw [e]; exact Int.le_refl _
      · cases r : rfB H f g j with
        | none => exact absurd ho (ih.1 r i (by omega))
        | some b =>
          have k1 := (ih.2 b r).2.2 i (by omega) ho
          have k2 := q.2
          rw [r] at k2
          have k2 : key (Int32.ofInt (j : Int)) < key b := of_decide_eq_true k2
          omega
    · rw [if_neg q]
      refine ⟨fun h i hi ho => ?_, fun b h => ?_⟩
      · by_cases e : i = j
        · rw [e] at ho
          exact q ⟨ho, by rw [h]; rfl⟩
        · exact ih.1 h i (by omega) ho
      · obtain ⟨⟨i0, i1, i2⟩, c, d⟩ := ih.2 b h
        refine ⟨⟨i0, by omega, i2⟩, c, fun i hi ho => ?_⟩
        by_cases e : i = j
        · rw [e] at ho ⊢
          by_cases l : key (Int32.ofInt (j : Int)) < key b
          · exact absurd ⟨ho, by rw [h]; exact decide_eq_true l⟩ q
          · omega
        · exact d i (by omega) ho
theorem pw {W : Nat} (h : W ≤ 10) : (b1 W).toInt = ((2 ^ W : Nat) : Int) := by
  match W, h with
  | 0, _ | 1, _ | 2, _ | 3, _ | 4, _ | 5, _ | 6, _ | 7, _ | 8, _ | 9, _ | 10, _ => decide
  | W + 11, h => omega
theorem rfB_fd (h10 : hoW H ≤ 10) : rfB H f g (2 ^ hoW H) = fd (ctp H f g) (zET 4 0) := by
  have le : 2 ^ hoW H ≤ 1024 := (Nat.pow_le_pow_right (show 0 < 2 by omega) h10 : 2 ^ hoW H ≤ 2 ^ 10)
  have inv := rfB_inv (H := H) (f := f) (g := g) (2 ^ hoW H)
  have of : ∀ x : Int32, x ∈ zET 4 0 → ctp H f g x = true → ∃ n : Nat, n < 2 ^ hoW H ∧ x = Int32.ofInt (n : Int) ∧ ctO H f g x := fun x hx hp => by
    have w := ctp_iff.mp hp
    obtain ⟨n, n1, n2⟩ := ofI_bits h10 (x := x) (fun i hi => w.2.1 i (zET_b 4 0 x hx i hi) hi)
    exact ⟨n, n1, n2, (zET_n x hx).2, w.1, w.2.2⟩
  cases r : rfB H f g (2 ^ hoW H) with
  | none =>
    refine (fd_none _ (fun x hx => ?_)).symm
    cases e : ctp H f g x with
    | false => rfl
    | true =>
      obtain ⟨n, n1, n2, n3⟩ := of x hx e
      rw [n2] at n3
      exact absurd n3 (inv.1 r n n1)
  | some b =>
    obtain ⟨⟨i, i1, i2⟩, c, d⟩ := inv.2 b r
    have mb : b ∈ zET 4 0 := by rw [i2]; exact zET_all i (by omega) (by rw [← i2]; exact c.1)
    have pb : ctp H f g b = true := by
      have bw : ∀ k : Nat, k < 10 → bt b k = true → k < hoW H := fun k k1 k2 => by
        rw [i2, bt_ofI (by omega)] at k2
        by_cases q : k < hoW H
        · exact q
        · have : i.testBit k = false := Nat.testBit_lt_two_pow (Nat.lt_of_lt_of_le i1 (Nat.pow_le_pow_right (show 0 < 2 by omega) (show hoW H ≤ k by omega) : 2 ^ hoW H ≤ 2 ^ k))
          rw [this] at k2
          cases k2
      exact ctp_iff.mpr ⟨c.2.1, bw, c.2.2⟩
    cases e : fd (ctp H f g) (zET 4 0) with
    | none =>
      have := fd_no _ e b mb
      rw [pb] at this
      cases this
    | some y =>
      have fy := fd_some _ e
      obtain ⟨n, n1, n2, n3⟩ := of y fy.1 fy.2
      rcases fd_first _ zET_sd e b mb pb with q | q
      · rw [q]
      · rw [n2] at n3
        have := d n n1 n3
        rw [← n2] at this
        omega
theorem eb_ith {x0 : Int32} {k : Nat} {Q : Int32 → dM → Prop} {M : dM} (h1 : x1.toInt = (k : Int)) (hk : k ≤ 3) (hQ : Q (ithB x0 10 0 k) M) : c_X12_ithOf 1 x0 x1 M Q := by
  have loop : ∀ (t b r : Nat) (x2 x3 : Int32), b + t = 10 → x3.toInt = (b : Int) → x2.toInt + (r : Int) = (k : Int) → 0 ≤ x2.toInt → Q (ithB x0 t b r) M → j_X12_ithOf_4 1 x0 x1 x2 x3 M Q := by
    intro t
    induction t with
    | zero => intro b r x2 x3 hb h3 h2 h20 hq; exact v_X12_ithOf_4 ⟨fun _ => hq, fun q => by exfalso; omega⟩
    | succ t ih =>
      intro b r x2 x3 hb h3 h2 h20 hq
      rw [ithB_s] at hq
      refine v_X12_ithOf_4 ⟨fun q => by exfalso; omega, fun _ => ?_⟩
      rw [bt_s h3 (by omega)]
      cases e : bt x0 b with
      | true =>
        rw [e, cond_true] at hq
        refine ⟨fun _ => ⟨fun ne => v_X12_ithOf_31 ?_, fun ee => ?_⟩, fun q => absurd q (by decide)⟩
        · rw [if_neg (by omega)] at hq
          have fa := dAddE (X := x2.toInt) (Y := 1) (x := x2) (y := (1 : Int32)) rfl (by decide) (by omega) (by omega)
          exact ih (b + 1) (r - 1) _ _ (by omega) (d_inc h3 (by omega)) (by omega) (by omega) hq
        · rw [if_pos (by omega), ofI h3] at hq
          exact hq
      | false =>
        rw [e, cond_false] at hq
        exact ⟨fun q => absurd rfl q, fun _ => v_X12_ithOf_31 (ih (b + 1) r _ _ (by omega) (d_inc h3 (by omega)) h2 h20 hq)⟩
  exact v_X12_ithOf (loop 10 0 k _ _ rfl (by decide) (by have := ti_0; omega) (by decide) hQ)
theorem eb_earlier {x0 y0 : Int32} {Q : Int32 → dM → Prop} {M : dM} (hQ : Q (bi (erl x0 y0)) M) : c_X12_isEarlier 2 x0 y0 M Q := by
  have step : ∀ (i : Nat) (x2 : Int32), x2.toInt = (i : Int) → i < 3 → (kIt x0 i = kIt y0 i → j_X12_isEarlier_2 2 x0 y0 (x2 + (1 : Int32)) M Q) → (kIt x0 i ≠ kIt y0 i → Q (bi (decide (kIt x0 i < kIt y0 i))) M) → j_X12_isEarlier_2 2 x0 y0 x2 M Q := fun i x2 h2 hi he hn => by
    refine v_X12_isEarlier_2 ⟨fun q => by exfalso; omega, fun _ => eb_ith h2 (by omega) (eb_ith h2 (by omega) ⟨fun e => he e, fun ne => eb_ith h2 (by omega) (eb_ith h2 (by omega) ⟨fun le => ?_, fun l => ?_⟩)⟩)⟩
    · have := hn ne
      rw [decide_eq_false (by unfold kIt; omega)] at this
      exact this
    · have := hn ne
      rw [decide_eq_true (by unfold kIt; omega)] at this
      exact this
  unfold erl at hQ
  refine v_X12_isEarlier (step 0 _ (by decide) (by omega) (fun e0 => ?_) (fun n0 => by rw [if_neg n0] at hQ; exact hQ))
  rw [if_pos e0] at hQ
  refine step 1 _ (by decide) (by omega) (fun e1 => ?_) (fun n1 => by rw [if_neg n1] at hQ; exact hQ)
  rw [if_pos e1] at hQ
  refine step 2 _ (by decide) (by omega) (fun e2 => ?_) (fun n2 => by rw [if_neg n2] at hQ; exact hQ)
  rw [if_pos e2] at hQ
  exact v_X12_isEarlier_2 ⟨fun _ => hQ, fun q => absurd q (by decide)⟩
theorem eb_cut {Q : Int32 → dM → Prop} (hK : KR H S P L s m) (hO : zOk H S) (hQ : ∀ m' : dM, RsF m m' → Q (aCt H S x1 x2) m') : c_X12_cut_70 8 x1 x2 m Q := by
  have f7 := hK.1.1.1
  have w10 := hK.1.1.2.1
  have hQ' : ∀ (v : Int32) (m' : dM), aCt H S x1 x2 = v → RsF m m' → Q v m' := fun v m' e q => by rw [← e]; exact hQ m' q
  have em := ti_m1
  have e2 := ti_2
  have no : ¬ ((0 ≤ x1.toInt ∧ x1.toInt < (hoF H : Int)) ∧ -1 ≤ x2.toInt ∧ x2.toInt ≤ 2) → j_X12_cut_70_17 8 m Q := fun q => v_X12_cut_70_17 (hQ' _ m (by unfold aCt; rw [if_neg q]) (RsF.rf m))
  refine v_X12_cut_70 (Wp.deep (y_isFlatr hK.1 (fun hu => ⟨fun z => absurd z (by decide), fun _ => Wp.deep (y_in (fun h => ⟨fun _ => Wp.deep (eb_gone hK hO ?_) (Nat.le_of_ble_eq_true rfl), fun z => absurd z (by decide)⟩) (fun q => ⟨fun z => absurd rfl z, fun _ => no (by omega)⟩)) (Nat.le_of_ble_eq_true rfl)⟩) (fun hu => ⟨fun _ => no (fun w => hu w.1), fun z => absurd rfl z⟩)) (Nat.le_of_ble_eq_true rfl))
  have hx := toNat_of hu.1
  have eA : aCt H S x1 x2 = (match fd (ctp H x1.toNatClampNeg (szG S)) (zET 4 0) with
    | none => -2
    | some y => if x2.toInt = -1 then pc10 y 10 else ithB y 10 0 x2.toNatClampNeg) := by unfold aCt; exact if_pos (by omega)
  rw [← rfB_fd w10] at eA
  generalize x1.toNatClampNeg = f at hx eA
  have b := pw w10
  have le : 2 ^ hoW H ≤ 1024 := (Nat.pow_le_pow_right (show 0 < 2 by omega) w10 : 2 ^ hoW H ≤ 2 ^ 10)
  generalize 2 ^ hoW H = N at b le eA
  have bits : ∀ (y : Int32) (M : dM) (Q' : Int32 → dM → Prop), Q' (pc10 y 10) M → c_X12_bits 7 y M Q' := fun y M Q' h => Wp.deep (eb_bits h) (Nat.le_of_ble_eq_true rfl)
  have fin : ∀ (M : dM), RsF m M → (0 ≤ (cvt (rfB H f (szG S) N)).toInt → (x2.toInt ≠ (-1) → c_X12_ithOf 7 (cvt (rfB H f (szG S) N)) x2 M (fun r1 m1 => Q r1 m1)) ∧ (x2.toInt = (-1) → c_X12_bits 7 (cvt (rfB H f (szG S) N)) M (fun r2 m2 => Q r2 m2))) ∧ ((cvt (rfB H f (szG S) N)).toInt < 0 → Q (-2 : Int32) M) := fun M fM => by
    have inv := rfB_inv (H := H) (f := f) (g := szG S) N
    cases r : rfB H f (szG S) N with
    | none =>
      rw [r] at eA
      refine ⟨fun q => ?_, fun _ => hQ' _ M eA fM⟩
      exfalso
      have q : 0 ≤ (-1 : Int32).toInt := q
      omega
    | some y =>
      rw [r] at eA
      have eA : aCt H S x1 x2 = if x2.toInt = -1 then pc10 y 10 else ithB y 10 0 x2.toNatClampNeg := eA
      obtain ⟨⟨i, i1, i2⟩, _, _⟩ := inv.2 y r
      have iy : y.toInt = (i : Int) := by rw [i2]; exact i32_n (by omega)
      refine ⟨fun _ => ⟨fun ne => ?_, fun e => bits _ M _ (hQ' _ M (by rw [eA, if_pos e]; rfl) fM)⟩, fun q => ?_⟩
      · have h2 := toNat_of (x := x2) (by omega)
        exact Wp.deep (eb_ith h2 (by omega) (hQ' _ M (by rw [eA, if_neg ne]; rfl) fM)) (Nat.le_of_ble_eq_true rfl)
      · exfalso
        have q : y.toInt < 0 := q
        omega
  have loop : ∀ (t j : Nat) (x5 : Int32) (M : dM), j + t = N → x5.toInt = (j : Int) → RsF m M → j_X12_cut_70_30 8 x1 x2 (szG S) (cvt (rfB H f (szG S) j)) x5 M Q := by
    intro t
    induction t with
    | zero =>
      intro j x5 M hj h5 fM
      have hKM := hK.rs fM
      have a := hKM.1.2.1.1
      have ej : j = N := by omega
      refine v_X12_cut_70_30 ?_
      rw [d_cn a.1, b1_of hKM.1.2.1.2.2.1.1, ej]
      exact ⟨by omega, fun _ => fin M fM, fun q => by exfalso; omega⟩
    | succ t ih =>
      intro j x5 M hj h5 fM
      have hKM := hK.rs fM
      have a := hKM.1.2.1.1
      have n := ih (j + 1)
      rw [rfB_s, ofI h5] at n
      have inv := rfB_inv (H := H) (f := f) (g := szG S) j
      have keep : ∀ M1 : dM, RsF m M1 → ¬ (((pc10 x5 10).toInt ≤ 3 ∧ x5 &&& szG S = 0 ∧ lt H (szG S ||| x5) f = false) ∧ bet (rfB H f (szG S) j) x5 = true) → j_X12_cut_70_127 8 x1 x2 (szG S) (cvt (rfB H f (szG S) j)) x5 M1 Q := fun M1 f1 q => by
        rw [if_neg q] at n
        exact v_X12_cut_70_127 (n _ M1 (by omega) (d_inc h5 (by omega)) f1)
      have tr : (pc10 x5 10).toInt ≤ 3 → x5 &&& szG S = 0 → bet (rfB H f (szG S) j) x5 = true → j_X12_cut_70_109 8 x1 x2 (szG S) (cvt (rfB H f (szG S) j)) x5 M Q := fun q1 q2 q3 => v_X12_cut_70_109 (y_loses hK fM (fun M1 f1 W1 L1 => Wp.deep (y_isLit L1 hx (by omega) (fun g => ⟨fun _ => keep M1 f1 (fun w => by have := w.1.2.2; rw [g] at this; cases this), fun z => absurd z (by decide)⟩) (fun g => ⟨fun z => absurd rfl z, fun _ => by
        rw [if_pos ⟨⟨q1, q2, g⟩, q3⟩] at n
        exact v_X12_cut_70_127 (n _ M1 (by omega) (d_inc h5 (by omega)) f1)⟩)) (Nat.le_of_ble_eq_true rfl)))
      refine v_X12_cut_70_30 ?_
      rw [d_cn a.1, b1_of hKM.1.2.1.2.2.1.1]
      refine ⟨by omega, fun q => by exfalso; omega, fun _ => bits _ M _ ⟨fun g => keep M fM (fun w => by have := w.1.1; omega), fun le3 => ⟨fun z => ?_, fun nz => keep M fM (fun w => nz (by rw [w.1.2.1]; exact ti_0))⟩⟩⟩
      have z0 : x5 &&& szG S = 0 := z_of z
      cases r : rfB H f (szG S) j with
      | none =>
        rw [r] at keep tr
        refine ⟨fun _ => tr le3 z0 rfl, fun q => ?_⟩
        exfalso
        have q : 0 ≤ (-1 : Int32).toInt := q
        omega
      | some y =>
        rw [r] at keep tr
        obtain ⟨⟨i, i1, i2⟩, _, _⟩ := inv.2 y r
        have iy : y.toInt = (i : Int) := by rw [i2]; exact i32_n (by omega)
        refine ⟨fun q => ?_, fun _ => bits _ M _ (bits _ M _ ⟨fun l => keep M fM (fun w => ?_), fun le2 => bits _ M _ (bits _ M _ ⟨fun ne => tr le3 z0 ?_, fun ee => Wp.deep (eb_earlier ⟨fun e => tr le3 z0 ?_, fun e => keep M fM (fun w => ?_)⟩) (Nat.le_of_ble_eq_true rfl)⟩)⟩)⟩
        · exfalso
          have q : y.toInt < 0 := q
          omega
        · have k : key x5 < key y := of_decide_eq_true w.2
          have l : (pc10 y 10).toInt < (pc10 x5 10).toInt := l
          have := key_lt l
          omega
        · have ne : (pc10 x5 10).toInt ≠ (pc10 y 10).toInt := ne
          have le2 : (pc10 x5 10).toInt ≤ (pc10 y 10).toInt := le2
          exact decide_eq_true (key_lt (by omega))
        · have ee : (pc10 x5 10).toInt = (pc10 y 10).toInt := ee
          have e := bi_ne0 e
          have e : erl x5 y = true := e
          rw [erl_key ee] at e
          exact e
        · have ee : (pc10 x5 10).toInt = (pc10 y 10).toInt := ee
          have e := bi_eq0 e
          have e : erl x5 y = false := e
          rw [erl_key ee] at e
          have w2 : decide (key x5 < key y) = true := w.2
          rw [e] at w2
          cases w2
  exact loop N 0 _ m (by omega) (by decide) (RsF.rf m)
end QCV
