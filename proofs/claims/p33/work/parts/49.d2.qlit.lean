/-! QUESTIONS, exactly: what is lit without some wires; without, needed -/
section LIW
variable {nf nw : Nat} {e1 e2 : Nat → Nat} {G : Nat → Bool}
theorem dD_0 {f : Nat} (h : dD nf nw e1 e2 G f = 0) : f = 0 ∧ 0 < nf := by
  have h0 := (dD_lvl (by omega : 0 ≤ 6)).mp h
  have h0 : (if f = 0 ∧ 0 < nf then 0 else 99) = 0 := h0
  by_cases q : f = 0 ∧ 0 < nf
  · exact q
  · rw [if_neg q] at h0
    omega
theorem dD_00 (h : 0 < nf) : dD nf nw e1 e2 G 0 = 0 := (dD_lvl (by omega : 0 ≤ 6)).mpr (by show (if 0 = 0 ∧ 0 < nf then 0 else 99) = 0; rw [if_pos ⟨rfl, h⟩])
theorem dD_lt (hE : ∀ w : Nat, w < nw → e1 w < nf ∧ e2 w < nf) {f : Nat} (h : dD nf nw e1 e2 G f ≠ 99) : f < nf := by
  by_cases q : f < nf
  · exact q
  · exact absurd (dst_far hE (by omega : nf ≤ f) 6) h
/-- so far, so many -/
theorem lvl_cn (hE : ∀ w : Nat, w < nw → e1 w < nf ∧ e2 w < nf) : ∀ (n a : Nat), n ≤ 6 → dD nf nw e1 e2 G a = n → n + 1 ≤ cn (fun f => decide (dD nf nw e1 e2 G f ≤ n)) nf
  | 0, a, _, h => by
    have q := dD_0 h
    exact cn_pos (p := fun f => decide (dD nf nw e1 e2 G f ≤ 0)) (j := a) (decide_eq_true (by omega)) nf (by omega)
  | n + 1, a, hn, h => by
    have k := nx_ok (by omega : n < 6) h
    have ih := lvl_cn hE n _ (by omega) k.2.2
    have ha := dD_lt (G := G) hE (f := a) (by omega)
    have := cn_more (p := fun f => decide (dD nf nw e1 e2 G f ≤ n)) (q := fun f => decide (dD nf nw e1 e2 G f ≤ n + 1)) (fun i hi => decide_eq_true (by have := of_decide_eq_true hi; omega)) (j := a) (decide_eq_false (by omega)) (decide_eq_true (by omega)) nf ha
    omega
/-- a whole wire: its ends are lit both or none -/
theorem dD_cl (hE : ∀ w : Nat, w < nw → e1 w < nf ∧ e2 w < nf) (h7 : nf ≤ 7) {w a b : Nat} (hw : w < nw) (hG : G w = false) (hab : (e1 w = a ∧ e2 w = b) ∨ (e2 w = a ∧ e1 w = b)) (ha : dD nf nw e1 e2 G a ≠ 99) : dD nf nw e1 e2 G b ≠ 99 := by
  by_cases eab : a = b
  · rw [← eab]; exact ha
  have bl := dD_le (nf := nf) (nw := nw) (e1 := e1) (e2 := e2) (G := G) (f := a)
  obtain ⟨l, hl⟩ : ∃ l, dD nf nw e1 e2 G a = l := ⟨_, rfl⟩
  have hEw := hE w hw
  by_cases q6 : l = 6
  · have c := lvl_cn (G := G) hE 6 a (by omega) (by omega)
    have c2 := cn_le (p := fun f => decide (dD nf nw e1 e2 G f ≤ 6)) nf
    have hb : b < nf := by rcases hab with ⟨p, q⟩ | ⟨p, q⟩ <;> omega
    have := of_decide_eq_true (cn_all (p := fun f => decide (dD nf nw e1 e2 G f ≤ 6)) nf (by omega) b hb)
    omega
  · intro hb
    have hb6 : dst nf nw e1 e2 G 6 b = 99 := hb
    have la : dst nf nw e1 e2 G l a = l := (dD_lvl (by omega : l ≤ 6)).mp hl
    have k1 : dst nf nw e1 e2 G l b = 99 := by
      by_cases q : dst nf nw e1 e2 G l b = 99
      · exact q
      · exfalso
        have := dst_keep q (6 - l)
        rw [show l + (6 - l) = 6 by omega] at this
        omega
    have o : ot e1 e2 w b = a := by
      unfold ot
      rcases hab with ⟨p, q⟩ | ⟨p, q⟩
      · rw [if_neg (by omega)]; exact p
      · rw [if_pos q]; exact p
    have t : tch e1 e2 G w b = true := by
      unfold tch
      rw [hG, Bool.not_false, Bool.true_and, Bool.or_eq_true, decide_eq_true_eq, decide_eq_true_eq]
      rcases hab with ⟨p, q⟩ | ⟨p, q⟩
      · exact Or.inr q
      · exact Or.inl q
    have an1 : an (br e1 e2 G (dst nf nw e1 e2 G l) l b) nw = true := (an_iff nw).mpr ⟨w, hw, by
      unfold br
      rw [t, o, Bool.true_and]
      exact decide_eq_true la⟩
    have s1 : dst nf nw e1 e2 G (l + 1) b = l + 1 := by rw [dst_s, if_pos ⟨k1, an1⟩]
    have := dst_keep (n := l + 1) (f := b) (by rw [s1]; omega) (6 - (l + 1))
    rw [show l + 1 + (6 - (l + 1)) = 6 by omega, s1] at this
    omega
end LIW
def ltB (H : Ho) (g : Int32) : Int32 := bs (lt H g) (hoF H)
section QLT
variable {H : Ho} {S : Zt} {P : List Zt} {L : Nat → Zt} {m : dM} {s : Nat} {x1 x2 : Int32}
theorem bt_ltB {g : Int32} {i : Nat} (h7 : hoF H ≤ 7) : bt (ltB H g) i = (decide (i < hoF H) && lt H g i) := bt_bs _ (by omega)
theorem ea_lit {x : Int32} {Q : Int32 → dM → Prop} (hW : CW H m) (hQ : Q (ltB H x) m) : c_X3_litWithout_2 2 x m Q := by
  have f7 := hW.1.1
  have w10 := hW.1.2.1
  have hOk := hW.1.2.2.2.1
  have hE : ∀ w : Nat, w < hoW H → hoA H w < hoF H ∧ hoB H w < hoF H := fun w hw => ⟨(hOk w hw).1, (hOk w hw).2.1⟩
  have e20 := hW.2.1.1.1.1
  have e21 := hW.2.1.1.2.1.1
  have fin : ∀ y : Int32, (∀ i : Nat, bt y i = true → i < hoF H ∧ wyD H x i ≠ 99) → (∀ f : Nat, wyD H x f ≠ 99 → bt y f = true) → j_X3_litWithout_2_88 2 y m Q := fun y h1 h2 => by
    have e : y = ltB H x := bt_ext (fun i hi => by
      rw [bt_ltB f7]
      cases b : bt y i with
      | true =>
        have := h1 i b
        rw [decide_eq_true this.1, Bool.true_and]
        exact (decide_eq_true this.2).symm
      | false =>
        by_cases q : wyD H x i = 99
        · have : lt H x i = false := decide_eq_false (fun w => w q)
          rw [this, Bool.and_false]
        · rw [h2 i q] at b; cases b)
    rw [e]
    exact v_X3_litWithout_2_88 hQ
  have l15 : ∀ (t n : Nat) (x2 x3 : Int32), n + t = 7 → x3.toInt = ((n + 1 : Nat) : Int) → (∀ i : Nat, bt x2 i = true → i < hoF H ∧ wyD H x i ≠ 99) → (∀ f : Nat, wyD H x f ≤ n → bt x2 f = true) → n + 1 ≤ cn (bt x2) (hoF H) → j_X3_litWithout_2_15 2 x x2 x3 m Q := by
    intro t
    have full : ∀ (n : Nat) (x2 : Int32), hoF H ≤ n + 1 → (∀ i : Nat, bt x2 i = true → i < hoF H ∧ wyD H x i ≠ 99) → n + 1 ≤ cn (bt x2) (hoF H) → j_X3_litWithout_2_88 2 x2 m Q := fun n x2 hn hS hC => by
      have c2 := cn_le (p := bt x2) (hoF H)
      have ca := cn_all (p := bt x2) (hoF H) (by omega)
      exact fin x2 hS (fun f hf => ca f (dD_lt hE hf))
    induction t with
    | zero =>
      intro n x2 x3 hn h3 hS hP hC
      exact v_X3_litWithout_2_15 ⟨fun _ => full n x2 (by omega) hS hC, fun q => by exfalso; omega⟩
    | succ t ih =>
      intro n x2 x3 hn h3 hS hP hC
      have f := dAddE (X := x3.toInt) (Y := 1) (x := x3) (y := (1 : Int32)) rfl (by decide) (by omega) (by omega)
      have l29 : ∀ (u w : Nat) (y x5 : Int32), w + u = hoW H → x5.toInt = (w : Int) → (∀ i : Nat, bt y i = true → i < hoF H ∧ wyD H x i ≠ 99) → (∀ i : Nat, bt x2 i = true → bt y i = true) → (∀ w' : Nat, w' < w → bt x w' = false → (bt x2 (hoA H w') = true ∨ bt x2 (hoB H w') = true) → bt y (hoA H w') = true ∧ bt y (hoB H w') = true) → j_X3_litWithout_2_29 2 x y x3 x2 x5 m Q := by
        intro u
        induction u with
        | zero =>
          intro w y x5 hw h5 hy hi hc
          have ew : w = hoW H := by omega
          subst ew
          have step : ∀ (k f' : Nat), k < 6 → wyD H x f' = k + 1 → (∀ g : Nat, wyD H x g = k → bt x2 g = true) → bt y f' = true := fun k f' hk hd hg => by
            have nk := nx_ok (nf := hoF H) (nw := hoW H) (e1 := hoA H) (e2 := hoB H) (G := bt x) (n := k) (f := f') hk hd
            obtain ⟨n1, n2, n3⟩ := nk
            generalize nx (hoF H) (hoW H) (hoA H) (hoB H) (bt x) f' = v at n1 n2 n3
            have ho := hg _ n3
            unfold tch at n2
            rw [Bool.and_eq_true, Bool.or_eq_true, decide_eq_true_eq, decide_eq_true_eq] at n2
            have hGv : bt x v = false := by
              have := n2.1
              cases b : bt x v with
              | true => rw [b] at this; cases this
              | false => rfl
            have hv : bt x2 (hoA H v) = true ∨ bt x2 (hoB H v) = true := by
              unfold ot at ho
              by_cases q : hoA H v = f'
              · rw [if_pos q] at ho; exact Or.inr ho
              · rw [if_neg q] at ho; exact Or.inl ho
            have := hc v n1 hGv hv
            rcases n2.2 with q | q
            · rw [← q]; exact this.1
            · rw [← q]; exact this.2
          refine v_X3_litWithout_2_29 ⟨fun _ => ⟨fun ne => ?_, fun ee => ?_⟩, fun q => by exfalso; omega⟩
          · refine ih (n + 1) y _ (by omega) (by rw [f, h3]; omega) hy (fun f' hf' => ?_) ?_
            · by_cases q : wyD H x f' ≤ n
              · exact hi f' (hP f' q)
              · have b := dD_le (nf := hoF H) (nw := hoW H) (e1 := hoA H) (e2 := hoB H) (G := bt x) (f := f')
                have b : wyD H x f' ≤ 6 ∨ wyD H x f' = 99 := b
                exact step n f' (by omega) (by omega) (fun g hg => hP g (by omega))
            · by_cases ex : ∃ j : Nat, bt x2 j = false ∧ bt y j = true
              · obtain ⟨j, j1, j2⟩ := ex
                have := cn_more (p := bt x2) (q := bt y) hi j1 j2 (hoF H) (hy j j2).1
                omega
              · exfalso
                apply ne
                have : y = x2 := bt_ext (fun i _ => by
                  cases b : bt x2 i with
                  | true => exact hi i b
                  | false =>
                    cases b2 : bt y i with
                    | true => exact absurd ⟨i, b, b2⟩ ex
                    | false => rfl)
                rw [this]
          · have e : y = x2 := Int32.toInt_inj.mp ee
            have all : ∀ (k f' : Nat), k ≤ 6 → wyD H x f' = k → bt y f' = true := by
              intro k
              induction k with
              | zero => intro f' _ hd; rw [e]; exact hP f' (by omega)
              | succ k ihk =>
                intro f' hk hd
                exact step k f' (by omega) hd (fun g hg => by rw [← e]; exact ihk g (by omega) hg)
            refine fin y hy (fun f' hf' => ?_)
            have b := dD_le (nf := hoF H) (nw := hoW H) (e1 := hoA H) (e2 := hoB H) (G := bt x) (f := f')
            have b : wyD H x f' ≤ 6 ∨ wyD H x f' = 99 := b
            exact all _ f' (by omega) rfl
        | succ u ih2 =>
          intro w y x5 hw h5 hy hi hc
          have hww : w < hoW H := by omega
          have hEw := hE w hww
          have on : ∀ z : Int32, (∀ i : Nat, bt z i = true → i < hoF H ∧ wyD H x i ≠ 99) → (∀ i : Nat, bt y i = true → bt z i = true) → (bt x w = false → (bt x2 (hoA H w) = true ∨ bt x2 (hoB H w) = true) → bt z (hoA H w) = true ∧ bt z (hoB H w) = true) → j_X3_litWithout_2_67 2 x z x3 x2 x5 m Q := fun z a b c => v_X3_litWithout_2_67 (ih2 (w + 1) z _ (by omega) (d_inc h5 (by omega)) a (fun i q => b i (hi i q)) (fun w' hw' hg hor => by
            by_cases q : w' = w
            · rw [q] at hg hor ⊢; exact c hg hor
            · have := hc w' (by omega) hg hor
              exact ⟨b _ this.1, b _ this.2⟩))
          have ends := hW.2.1.1.2.2 w hww
          refine v_X3_litWithout_2_29 ⟨fun q => by exfalso; omega, fun _ => v_X3_endsOf_2 ⟨by omega, by omega, ?_⟩⟩
          rw [d_cn h5, b1_of ends.1.1, b1_of ends.1.2]
          have bb : ∀ i : Nat, bt (b1 (hoA H w) ||| b1 (hoB H w)) i = (decide (i = hoA H w) || decide (i = hoB H w)) := fun i => by rw [bt_or, bt_1 (by omega), bt_1 (by omega)]
          refine y_has h5 (by omega) (fun g => ⟨fun _ => on y hy (fun i q => q) (fun q => by rw [q] at g; cases g), fun z => absurd z (by decide)⟩) (fun g => ⟨fun z => absurd rfl z, fun _ => ⟨fun z0 => ?_, fun z0 => ?_⟩⟩)
          · have e0 : (b1 (hoA H w) ||| b1 (hoB H w)) &&& y = 0 := d_ce z0
            have nb : ∀ i : Nat, (i = hoA H w ∨ i = hoB H w) → bt y i = false := fun i q => by
              have b : bt ((b1 (hoA H w) ||| b1 (hoB H w)) &&& y) i = false := by rw [e0, bt_0]
              rw [bt_and, bb] at b
              cases b2 : bt y i with
              | false => rfl
              | true =>
                rw [b2, Bool.and_true] at b
                rcases q with q | q
                · rw [decide_eq_true q, Bool.true_or] at b; cases b
                · rw [decide_eq_true q, Bool.or_true] at b; cases b
            refine on y hy (fun i q => q) (fun _ hor => ?_)
            exfalso
            rcases hor with q | q
            · have := hi _ q; rw [nb _ (Or.inl rfl)] at this; cases this
            · have := hi _ q; rw [nb _ (Or.inr rfl)] at this; cases this
          · have one : bt y (hoA H w) = true ∨ bt y (hoB H w) = true := by
              cases a1 : bt y (hoA H w) with
              | true => exact Or.inl rfl
              | false =>
                cases a2 : bt y (hoB H w) with
                | true => exact Or.inr rfl
                | false =>
                  exfalso
                  apply z0
                  have : (b1 (hoA H w) ||| b1 (hoB H w)) &&& y = 0 := bt_z (fun i _ => by
                    rw [bt_and, bb]
                    by_cases q1 : i = hoA H w
                    · rw [q1, a1, Bool.and_false]
                    · by_cases q2 : i = hoB H w
                      · rw [q2, a2, Bool.and_false]
                      · rw [decide_eq_false q1, decide_eq_false q2]; rfl)
                  rw [this]; rfl
            have both' : wyD H x (hoA H w) ≠ 99 ∧ wyD H x (hoB H w) ≠ 99 := by
              rcases one with q | q
              · have d := (hy _ q).2
                exact ⟨d, dD_cl (nf := hoF H) (nw := hoW H) (e1 := hoA H) (e2 := hoB H) (G := bt x) hE f7 hww g (Or.inl ⟨rfl, rfl⟩) d⟩
              · have d := (hy _ q).2
                exact ⟨dD_cl (nf := hoF H) (nw := hoW H) (e1 := hoA H) (e2 := hoB H) (G := bt x) hE f7 hww g (Or.inr ⟨rfl, rfl⟩) d, d⟩
            refine on _ (fun i q => ?_) (fun i q => by rw [bt_or, q, Bool.true_or]) (fun _ _ => ⟨by rw [bt_or, bb, decide_eq_true rfl, Bool.true_or, Bool.or_true], by rw [bt_or, bb, decide_eq_true (rfl : hoB H w = hoB H w), Bool.or_true, Bool.or_true]⟩)
            rw [bt_or, bb, Bool.or_eq_true, Bool.or_eq_true, decide_eq_true_eq, decide_eq_true_eq] at q
            rcases q with q | q | q
            · exact hy i q
            · rw [q]; exact ⟨hEw.1, both'.1⟩
            · rw [q]; exact ⟨hEw.2, both'.2⟩
      exact v_X3_litWithout_2_15 ⟨fun q => full n x2 (by omega) hS hC, fun _ => l29 (hoW H) 0 x2 _ (by omega) (by decide) hS (fun i q => q) (fun w' hw' => absurd hw' (Nat.not_lt_zero w'))⟩
  refine v_X3_litWithout_2 ⟨fun q => ?_, fun q => ?_⟩
  · have f0 : hoF H = 0 := by omega
    refine v_X3_litWithout_2_15 ⟨fun _ => fin 0 (fun i b => by rw [bt_0] at b; cases b) (fun f' hf' => ?_), fun q2 => ?_⟩
    · have := dD_lt hE hf'
      omega
    · exfalso
      have e1 : (1 : Int32).toInt = 1 := by decide
      omega
  · have b1e : ∀ i : Nat, bt 1 i = decide (i = 0) := fun i => by
      have e : (1 : Int32) = b1 0 := by decide
      rw [e, bt_1 (by omega)]
    have d0 : wyD H x 0 = 0 := dD_00 (by omega)
    refine l15 7 0 _ _ rfl (by decide) (fun i b => ?_) (fun f' hf' => ?_) ?_
    · rw [b1e, decide_eq_true_eq] at b
      rw [b]
      exact ⟨by omega, by omega⟩
    · have := dD_0 (nf := hoF H) (nw := hoW H) (e1 := hoA H) (e2 := hoB H) (G := bt x) (f := f') (by show wyD H x f' = 0; omega)
      rw [this.1, b1e]
      rfl
    · exact cn_pos (p := bt 1) (j := 0) (by rw [b1e]; rfl) (hoF H) (by omega)
def aWo (H : Ho) (S : Zt) (x1 : Int32) : Int32 := if 0 ≤ x1.toInt ∧ x1.toInt < (hoW H : Int) then (b1 (hoF H) - (1 : Int32)) &&& (ltB H (szG S ||| b1 x1.toNatClampNeg) ^^^ (-1 : Int32)) else -1
theorem ea_without {Q : Int32 → dM → Prop} (hK : KC H S P L m) (hQ : ∀ m' : dM, QC H S P L m m' → Q (aWo H S x1) m') : c_X11_without_0 3 x1 m Q := by
  have q0 := QC.rf hK
  have hQ' : ∀ (v : Int32) (m' : dM), aWo H S x1 = v → QC H S P L m m' → Q v m' := fun v m' e q => by rw [← e]; exact hQ m' q
  refine v_X11_without_0 (Wp.deep (y_isWirec hK.1 (fun hu => ⟨fun z => absurd z (by decide), fun _ => v_X3_allFlats_2 (ea_lit hK.1 (hQ' _ m ?_ q0))⟩) (fun hu => ⟨fun _ => hQ' _ m (by unfold aWo; rw [if_neg hu]) q0, fun z => absurd rfl z⟩)) (Nat.le_of_ble_eq_true rfl))
  have hx := toNat_of hu.1
  have g3 : m.1 47 3 = szG S := hK.2.1.1.2.2.2.1
  unfold aWo
  rw [if_pos hu, g3, b1_of hx, b1_of hK.1.2.1.1.1.1]
theorem eb_without {Q : Int32 → dM → Prop} (hK : KR H S P L s m) (hQ : ∀ m' : dM, RsF m m' → Q (aWo H S x1) m') : c_X12_without_70 8 x1 m Q := by
  have hQ' : ∀ (v : Int32) (m' : dM), aWo H S x1 = v → RsF m m' → Q v m' := fun v m' e q => by rw [← e]; exact hQ m' q
  refine v_X12_without_70 (Wp.deep (y_isWire hK.1.2.1 (fun hu => ⟨fun _ => y_loses hK (RsF.rf m) (fun M f W1 L1 => Wp.deep (y_darkBits W1 L1 (hQ' _ M ?_ f)) (Nat.le_of_ble_eq_true rfl)), fun z => absurd z (by decide)⟩) (fun hu => ⟨fun z => absurd rfl z, fun _ => hQ' _ m (by unfold aWo; rw [if_neg hu]) (RsF.rf m)⟩)) (Nat.le_of_ble_eq_true rfl))
  have hx := toNat_of hu.1
  unfold aWo
  rw [if_pos hu, b1_of hx]
  rfl
def ndp (H : Ho) (S : Zt) (w : Nat) : Bool := !bt (szG S) w && decide (ltB H (szG S ||| b1 w) ≠ ltB H (szG S))
theorem ea_needed {Q : Int32 → dM → Prop} (hK : KC H S P L m) (hQ : ∀ m' : dM, QC H S P L m m' → Q (bs (ndp H S) (hoW H)) m') : c_X11_needed_0 3 m Q := by
  have q0 := QC.rf hK
  have w10 := hK.1.1.2.1
  have e21 := hK.1.2.1.1.2.1.1
  have g3 : m.1 47 3 = szG S := hK.2.1.1.2.2.2.1
  have loop : ∀ (t w : Nat) (x3 : Int32), w + t = hoW H → x3.toInt = (w : Int) → j_X11_needed_0_19 3 (ltB H (szG S)) (bs (ndp H S) w) x3 m Q := by
    intro t
    induction t with
    | zero =>
      intro w x3 hw h3
      have ew : w = hoW H := by omega
      rw [ew]
      exact v_X11_needed_0_19 ⟨fun _ => hQ m q0, fun q => by exfalso; omega⟩
    | succ t ih =>
      intro w x3 hw h3
      have on : ∀ z : Int32, z = bs (ndp H S) (w + 1) → j_X11_needed_0_72 3 (ltB H (szG S)) z x3 m Q := fun z e => by
        rw [e]
        exact v_X11_needed_0_72 (ih (w + 1) _ (by omega) (d_inc h3 (by omega)))
      have eS : bs (ndp H S) (w + 1) = cond (ndp H S w) (bs (ndp H S) w ||| b1 w) (bs (ndp H S) w) := rfl
      refine v_X11_needed_0_19 ⟨fun q => by exfalso; omega, fun _ => ?_⟩
      rw [g3]
      refine Wp.deep (y_has h3 (by omega) (fun b => ⟨fun _ => on _ ?_, fun z => absurd z (by decide)⟩) (fun b => ⟨fun z => absurd rfl z, fun _ => ?_⟩)) (Nat.le_of_ble_eq_true rfl)
      · rw [eS]; unfold ndp; rw [b]; rfl
      rw [b1_of h3, g3]
      refine ea_lit hK.1 ⟨fun ee => on _ ?_, fun ne => on _ ?_⟩
      · rw [eS]; unfold ndp; rw [b, decide_eq_false (fun q => q (Int32.toInt_inj.mp ee))]; rfl
      · rw [eS]; unfold ndp; rw [b, decide_eq_true (show ltB H (szG S ||| b1 w) ≠ ltB H (szG S) from fun q => ne (by rw [q]))]; rfl
  refine v_X11_needed_0 ?_
  rw [g3]
  exact ea_lit hK.1 (loop (hoW H) 0 _ (by omega) (by decide))
theorem dark_inj {a b : Int32} (f7 : hoF H ≤ 7) : (b1 (hoF H) - (1 : Int32)) &&& (ltB H a ^^^ (-1 : Int32)) = (b1 (hoF H) - (1 : Int32)) &&& (ltB H b ^^^ (-1 : Int32)) ↔ ltB H a = ltB H b := by
  refine ⟨fun e => bt_ext (fun i hi => ?_), fun e => by rw [e]⟩
  have q : bt ((b1 (hoF H) - (1 : Int32)) &&& (ltB H a ^^^ (-1 : Int32))) i = bt ((b1 (hoF H) - (1 : Int32)) &&& (ltB H b ^^^ (-1 : Int32))) i := by rw [e]
  rw [bt_and, bt_and, bt_xor, bt_xor, bt_m1 hi, bt_all (by omega)] at q
  by_cases lf : i < hoF H
  · rw [decide_eq_true lf, Bool.true_and, Bool.true_and, Bool.xor_true, Bool.xor_true] at q
    cases u : bt (ltB H a) i <;> cases v : bt (ltB H b) i <;> rw [u, v] at q <;> first | rfl | cases q
  · rw [bt_ltB f7, bt_ltB f7, decide_eq_false lf, Bool.false_and, Bool.false_and]
theorem eb_needed {Q : Int32 → dM → Prop} (hK : KR H S P L s m) (hQ : ∀ m' : dM, RsF m m' → Q (bs (ndp H S) (hoW H)) m') : c_X12_needed_70 8 m Q := by
  have w10 := hK.1.1.2.1
  have f7 := hK.1.1.1
  have loop : ∀ (t w : Nat) (x3 : Int32) (M : dM), w + t = hoW H → x3.toInt = (w : Int) → RsF m M → j_X12_needed_70_13 8 ((b1 (hoF H) - (1 : Int32)) &&& (ltB H (szG S) ^^^ (-1 : Int32))) (bs (ndp H S) w) x3 M Q := by
    intro t
    induction t with
    | zero =>
      intro w x3 M hw h3 fM
      have hKM := hK.rs fM
      have a := hKM.1.2.1.1
      have ew : w = hoW H := by omega
      refine v_X12_needed_70_13 ?_
      rw [d_cn a.1, hKM.1.2.1.2.2.1.1, a.1, ew]
      exact ⟨by omega, fun _ => hQ M fM, fun q => by exfalso; omega⟩
    | succ t ih =>
      intro w x3 M hw h3 fM
      have hKM := hK.rs fM
      have a := hKM.1.2.1.1
      have e10 := d_add (k := x3) (K := w) (x := (10 : Int32)) (i := 10) (by decide) h3 (by omega)
      have on : ∀ (z : Int32) (M1 : dM), z = bs (ndp H S) (w + 1) → RsF m M1 → j_X12_needed_70_63 8 ((b1 (hoF H) - (1 : Int32)) &&& (ltB H (szG S) ^^^ (-1 : Int32))) z x3 M1 Q := fun z M1 e f1 => by
        rw [e]
        exact v_X12_needed_70_63 (ih (w + 1) _ M1 (by omega) (d_inc h3 (by omega)) f1)
      have eS : bs (ndp H S) (w + 1) = cond (ndp H S w) (bs (ndp H S) w ||| b1 w) (bs (ndp H S) w) := rfl
      have zg := (hKM.2.1.2.1 w (by omega)).2.1
      refine v_X12_needed_70_13 ?_
      rw [d_cn a.1, hKM.1.2.1.2.2.1.1, a.1, d_cn e10, zg, b1_of h3]
      refine ⟨by omega, fun q => by exfalso; omega, fun _ => ⟨by omega, fun q => ?_, fun q => on _ M ?_ fM⟩⟩
      · have b : bt (szG S) w = false := by
          cases b : bt (szG S) w with
          | false => rfl
          | true => rw [b] at q; exact absurd rfl q
        refine y_loses hK fM (fun M1 f1 W1 L1 => Wp.deep (y_darkBits W1 L1 ⟨fun ee => on _ M1 ?_ f1, fun ne => on _ M1 ?_ f1⟩) (Nat.le_of_ble_eq_true rfl))
        · have e := (dark_inj (H := H) (a := szG S ||| b1 w) (b := szG S) f7).mp (Int32.toInt_inj.mp ee)
          rw [eS]; unfold ndp; rw [b, decide_eq_false (fun q => q e)]; rfl
        · rw [eS]; unfold ndp; rw [b, decide_eq_true (show ltB H (szG S ||| b1 w) ≠ ltB H (szG S) from fun q => ne (congrArg Int32.toInt ((dark_inj (H := H) (a := szG S ||| b1 w) (b := szG S) f7).mpr q)))]; rfl
      · have b : bt (szG S) w = true := by
          cases b : bt (szG S) w with
          | true => rfl
          | false => rw [b] at q; exact absurd q (by decide)
        rw [eS]; unfold ndp; rw [b]; rfl
  exact v_X12_needed_70 (Wp.deep (y_copies hK.1 hK.2.1 (fun M f cy _ _ => Wp.deep (y_darkBits cy.1 cy.2.2 (loop (hoW H) 0 _ M (by omega) (by decide) f)) (Nat.le_of_ble_eq_true rfl))) (Nat.le_of_ble_eq_true rfl))
end QLT
