/-! what every hour and every call keeps of how it stands -/
section ZKP
variable {H : Ho} {S : Zt}
theorem gng_lt (hH : hOk H) {on h more : Int32} {i : Nat} (hb' : bt (gng H S on h more) i = true) : i < hoW H := by
  unfold gng at hb'
  have := hH.2.1
  rw [bt_bs _ (by omega), Bool.and_eq_true, decide_eq_true_eq] at hb'
  exact hb'.1
theorem age_b {x : Int32} (h : 0 ≤ x.toInt ∧ x.toInt ≤ 999) : 0 ≤ (if (x + 1) < (999 : Int32) then (x + 1) else 999 : Int32).toInt ∧ (if (x + 1) < (999 : Int32) then (x + 1) else 999 : Int32).toInt ≤ 999 := by
  rw [← cl_age h]
  have := cl_b (T := 999) (x := x + 1) (by decide)
  rw [ti_999] at this
  exact this
theorem zOk.w (hH : hOk H) (h : zOk H S) (more : Int32) : zOk H (wsz H S more) := by
  obtain ⟨a, b, c, d, e, f, g⟩ := h
  refine ⟨a, b, fun i hi => ?_, d, e, f, fun w hw => ?_⟩
  · have hi : bt (szG S ||| gng H S (onA H S (hod (szH S))) (hod (szH S)) more) i = true := hi
    rw [bt_or, Bool.or_eq_true] at hi
    rcases hi with q | q
    · exact c i q
    · exact gng_lt hH q
  · show 0 ≤ (if w < hoW H ∧ bt (szG S ||| gng H S (onA H S (hod (szH S))) (hod (szH S)) more) w = false then (if (szE S w + 1) < (999 : Int32) then (szE S w + 1) else 999) else szE S w).toInt ∧ (if w < hoW H ∧ bt (szG S ||| gng H S (onA H S (hod (szH S))) (hod (szH S)) more) w = false then (if (szE S w + 1) < (999 : Int32) then (szE S w + 1) else 999) else szE S w).toInt ≤ 999
    by_cases q : w < hoW H ∧ bt (szG S ||| gng H S (onA H S (hod (szH S))) (hod (szH S)) more) w = false
    · rw [if_pos q]; exact age_b (g w hw)
    · rw [if_neg q]; exact g w hw
theorem zOk.p (h : zOk H S) : zOk H (pst H S) := by
  obtain ⟨a, b, c⟩ := h
  have p := cl_b (T := 99999) (x := szC S + pyS H S (onA H S (hod (szH S))) (hoU H)) (by decide)
  have q := cl_b (T := 999999) (x := szQ S + quS H S (hoF H)) (by decide)
  rw [ti_99999] at p
  rw [ti_999999] at q
  exact ⟨p, q, c⟩
theorem zOk.h (hH : hOk H) (h : zOk H S) : zOk H (hst H S) := (h.p).w hH _
theorem zOk.i (hH : hOk H) : ∀ (n : Nat) (S : Zt), zOk H S → zOk H (itr H n S)
  | 0, S, h => h
  | n + 1, S, h => zOk.i hH n _ (h.h hH)
theorem zOk.agr (hH : hOk H) (h : zOk H S) {P : List Zt} {x1 x2 : Int32} : zOk H (aAgr H S P x1 x2).2.1 := by
  unfold aAgr
  have u8 := hH.2.2.1
  by_cases q : (0 ≤ x1.toInt ∧ x1.toInt < (hoU H : Int)) ∧ (bi (bt (szA S) x1.toNatClampNeg)).toInt ≠ x2.toInt
  · rw [if_pos q]
    have hx := toNat_of q.1.1
    obtain ⟨a, b, c, d, e, f⟩ := h
    refine ⟨a, b, c, d, fun i hi => ?_, f⟩
    have hi : bt (szA S ^^^ b1 x1.toNatClampNeg) i = true := hi
    rw [bt_xor, bt_1 (by omega)] at hi
    by_cases z : i = x1.toNatClampNeg
    · omega
    · rw [decide_eq_false z, Bool.xor_false] at hi
      exact e i hi
  · rw [if_neg q]; exact h
theorem zOk.pin (hH : hOk H) (h : zOk H S) {P : List Zt} {x1 x2 : Int32} : zOk H (aPin H S P x1 x2).2.1 := by
  unfold aPin
  have w10 := hH.2.1
  by_cases q : (0 ≤ x1.toInt ∧ x1.toInt < (hoW H : Int)) ∧ bt (szG S) x1.toNatClampNeg = false ∧ (bi (bt (szP S) x1.toNatClampNeg)).toInt ≠ x2.toInt
  · rw [if_pos q]
    have hx := toNat_of q.1.1
    obtain ⟨a, b, c, d, e⟩ := h
    refine ⟨a, b, c, fun i hi => ?_, e⟩
    have hi : bt (szP S ^^^ b1 x1.toNatClampNeg) i = true := hi
    rw [bt_xor, bt_1 (by omega)] at hi
    by_cases z : i = x1.toNatClampNeg
    · omega
    · rw [decide_eq_false z, Bool.xor_false] at hi
      exact d i hi
  · rw [if_neg q]; exact h
theorem coins_b (h : zOk H S) {w : Nat} (hc : (cst H S w).toInt ≤ (szC S).toInt) : 0 ≤ (szC S - cst H S w).toInt ∧ (szC S - cst H S w).toInt ≤ 99999 := by
  have a := h.1
  have b : 0 ≤ (cst H S w).toInt ∧ (cst H S w).toInt ≤ 99 := hl_b _
  have := dSubE (X := (szC S).toInt) (Y := (cst H S w).toInt) rfl rfl (by omega) (by omega)
  omega
theorem zOk.mnd (h : zOk H S) {P : List Zt} {x1 : Int32} : zOk H (aMnd H S P x1).2.1 := by
  unfold aMnd
  by_cases q : 0 ≤ x1.toInt ∧ x1.toInt < (hoW H : Int)
  · rw [if_pos q]
    by_cases q2 : bt (szG S) x1.toNatClampNeg = true ∧ (cst H S x1.toNatClampNeg).toInt ≤ (szC S).toInt
    · rw [if_pos q2]
      have cb := coins_b h q2.2
      obtain ⟨a, b, c, d, e, f, g⟩ := h
      refine ⟨cb, b, fun i hi => ?_, fun i hi => ?_, e, f, fun w hw => ?_⟩
      · have hi : bt (szG S &&& (b1 x1.toNatClampNeg ^^^ (-1 : Int32))) i = true := hi
        rw [bt_and, Bool.and_eq_true] at hi
        exact c i hi.1
      · have hi : bt (szP S &&& (b1 x1.toNatClampNeg ^^^ (-1 : Int32))) i = true := hi
        rw [bt_and, Bool.and_eq_true] at hi
        exact d i hi.1
      · show 0 ≤ (upd (szE S) x1.toNatClampNeg 0 w).toInt ∧ (upd (szE S) x1.toNatClampNeg 0 w).toInt ≤ 999
        rw [upd_j]
        split
        · decide
        · exact g w hw
    · rw [if_neg q2]; exact h
  · rw [if_neg q]; exact h
theorem zOk.thk (h : zOk H S) {P : List Zt} {x1 : Int32} : zOk H (aThk H S P x1).2.1 := by
  unfold aThk
  by_cases q : 0 ≤ x1.toInt ∧ x1.toInt < (hoW H : Int)
  · rw [if_pos q]
    by_cases q2 : bt (szG S) x1.toNatClampNeg = false ∧ (szR S x1.toNatClampNeg).toInt < 99 ∧ (cst H S x1.toNatClampNeg).toInt ≤ (szC S).toInt
    · rw [if_pos q2]
      have cb := coins_b h q2.2.2
      obtain ⟨a, b, c, d, e, f, g⟩ := h
      refine ⟨cb, b, c, d, e, fun w hw => ?_, g⟩
      show 0 ≤ (upd (szR S) x1.toNatClampNeg (szR S x1.toNatClampNeg + 1) w).toInt ∧ (upd (szR S) x1.toNatClampNeg (szR S x1.toNatClampNeg + 1) w).toInt ≤ 99
      rw [upd_j]
      by_cases q3 : w = x1.toNatClampNeg
      · have fw := f w hw
        rw [q3] at fw
        rw [if_pos q3]
        have := dAddE (X := (szR S x1.toNatClampNeg).toInt) (Y := 1) (x := szR S x1.toNatClampNeg) (y := (1 : Int32)) rfl (by decide) (by omega) (by omega)
        omega
      · rw [if_neg q3]; exact f w hw
    · rw [if_neg q2]; exact h
  · rw [if_neg q]; exact h
theorem zOk.hrs (hH : hOk H) (h : zOk H S) {P : List Zt} {x1 : Int32} : zOk H (aHrs H S P x1).2.1 := by
  unfold aHrs
  split
  · split
    · exact h
    · exact zOk.i hH _ _ h
  · exact h
end ZKP
section CCM
variable {H : Ho} {S : Zt} {P : List Zt} {L : Nat → Zt} {m : dM}
theorem KC.ty {m' : dM} {T : Zt} (h : KC H S P L m) (hF : TyF 47 m m') (hW : CW H m') (hZ : CZ 47 m' T) : KC H T P L m' := ⟨hW, hZ, h.2.2.1.of (by rw [hF.1 51 (by decide) (by decide) (by decide) (by decide)]) (by rw [hF.1 51 (by decide) (by decide) (by decide) (by decide)]) (hF.1 52 (by decide) (by decide) (by decide) (by decide)), h.2.2.2.of (by rw [hF.1 51 (by decide) (by decide) (by decide) (by decide)]) (hF.1 53 (by decide) (by decide) (by decide) (by decide))⟩
theorem p_hours {x1 : Int32} {Q : Int32 → dM → Prop} (hK : KC H S P L m) (hO : zOk H S) (hQ : ∀ m' : dM, CcF m m' → KC H (aHrs H S P x1).2.1 (aHrs H S P x1).2.2 L m' → Q (aHrs H S P x1).1 m') : c_X11_hours_0 7 x1 m Q := by
  unfold aHrs at hQ
  have no : ¬ (0 ≤ x1.toInt ∧ x1.toInt ≤ 72) → j_X11_hours_0_10 7 m Q := fun q => by
    rw [if_neg q] at hQ
    exact v_X11_hours_0_10 (hQ m (CcF.rf m) hK)
  have loop : ∀ (P' : List Zt) (U : Zt) (t : Nat) (x2 : Int32) (T : Zt) (M : dM), x2.toInt + (t : Int) = x1.toInt → 0 ≤ x2.toInt → x1.toInt ≤ 72 → CcF m M → KC H T P' L M → zOk H T → itr H t T = U → (∀ m' : dM, CcF m m' → KC H U P' L m' → Q (szH U) m') → j_X11_hours_0_29 7 x1 x2 M Q := by
    intro P' U t
    induction t with
    | zero =>
      intro x2 T M hx h0 h72 hF hKM hT hU hQ'
      refine v_X11_hours_0_29 ⟨fun _ => ?_, fun q => by exfalso; omega⟩
      have hU : T = U := hU
      subst hU
      rw [hKM.2.1.1.1]
      exact hQ' M hF hKM
    | succ t ih =>
      intro x2 T M hx h0 h72 hF hKM hT hU hQ'
      have f := dAddE (X := x2.toInt) (Y := 1) (x := x2) (y := (1 : Int32)) rfl (by decide) (by omega) (by omega)
      exact v_X11_hours_0_29 ⟨fun q => by exfalso; omega, fun _ => y_passHour47 hKM.1 hKM.2.1 hT (fun M1 f1 w1 z1 => ih _ (hst H T) M1 (by omega) (by omega) h72 (hF.tr (f1.cc (Or.inl rfl))) (hKM.ty f1 w1 z1) (hT.h hK.1.1) hU hQ')⟩
  refine v_X11_hours_0 ⟨fun q => no (by omega), fun q => ⟨fun q2 => ?_, fun q2 => no (by omega)⟩⟩
  rw [if_pos ⟨q, q2⟩] at hQ
  have hx := toNat_of q
  have e0 : (0 : Int32).toInt = 0 := by decide
  refine ⟨fun q3 => v_X11_hours_0_27 ?_, fun q3 => Wp.deep (y_keep hK.2.1 hK.2.2.1 (fun M a b c d => v_X11_hours_0_27 ?_)) (Nat.le_of_ble_eq_true rfl)⟩
  · rw [if_pos (by omega)] at hQ
    exact loop P S 0 _ S m (by omega) (by omega) q2 (CcF.rf m) hK hO rfl hQ
  · rw [if_neg (by omega)] at hQ
    exact loop (pKeep S P) _ x1.toNatClampNeg _ S M (by omega) (by omega) q2 ⟨fun k q => a k (by omega) (by omega), c⟩ (hK.kp a b d) hO rfl hQ
theorem p_undo {Q : Int32 → dM → Prop} (hK : KC H S P L m) (hQ : ∀ m' : dM, CcF m m' → KC H (aUnd S P).2.1 (aUnd S P).2.2 L m' → Q (aUnd S P).1 m') : c_X11_undo_0 3 m Q := by
  refine v_X11_undo_0 (y_takeBack hK.2.2.1 (fun e => ?_) (fun T P' M e a b c d f => ?_))
  · subst e
    exact ⟨Or.inl rfl, hQ m (CcF.rf m) hK⟩
  · subst e
    exact ⟨Or.inr rfl, hQ M ⟨fun k q => a k (by omega), c⟩ ⟨⟨hK.1.1, hK.1.2.1.of (fun k q1 q2 _ => a k (by omega)), hK.1.2.2.of (fun k q1 q2 => a k (by omega))⟩, d, f, hK.2.2.2.of (b 4 (by decide) (by decide)) (a 53 (by omega))⟩⟩
def lHold (L : Nat → Zt) (S : Zt) (x1 : Int32) : Nat → Zt := fun i => if 0 ≤ x1.toInt ∧ x1.toInt = (i : Int) then S else L i
theorem p_hold {x1 : Int32} {Q : Int32 → dM → Prop} (hK : KC H S P L m) (hQ : ∀ (r : Int32) (m' : dM), CcF m m' → KC H S P (lHold L S x1) m' → Q r m') : c_X11_hold_0 3 x1 m Q := by
  have no : ¬ (0 ≤ x1.toInt ∧ x1.toInt < 3) → KC H S P (lHold L S x1) m := fun q => ⟨hK.1, hK.2.1, hK.2.2.1, hK.2.2.2.1, fun i hi hb => by
    unfold lHold
    rw [if_neg (by omega)]
    exact hK.2.2.2.2 i hi hb⟩
  refine v_X11_hold_0 (v_X6_store_51_47 ⟨fun q => v_X6_store_51_47_9 ⟨Or.inl rfl, hQ _ m (CcF.rf m) (no (by omega))⟩, fun q => ⟨fun q2 => ?_, fun q2 => v_X6_store_51_47_9 ⟨Or.inl rfl, hQ _ m (CcF.rf m) (no (by omega))⟩⟩⟩)
  have hx := toNat_of q
  have e33 := dMulE (X := x1.toInt) (Y := 33) (x := x1) (y := (33 : Int32)) rfl (by decide) (by omega) (by omega)
  refine y_writeTo53 (i := x1.toNatClampNeg) hK.2.1 (by omega) (by omega) (fun M a b c d => ⟨Or.inr rfl, hQ _ _ (CcF.set ⟨fun k q => a k (by omega), b⟩ (by decide)) ?_⟩)
  rw [b1_of hx]
  refine ⟨⟨hK.1.1, hK.1.2.1.of (fun k q1 q2 _ => by rw [dSet_k (by omega)]; exact a k (by omega)), hK.1.2.2.of (fun k q1 q2 => by rw [dSet_k (by omega)]; exact a k (by omega))⟩, hK.2.1.of (fun k q1 q2 => by rw [dSet_k (by omega)]; exact a k (by omega)), hK.2.2.1.of (by rw [dSet_j (by decide), a 51 (by decide)]) (by rw [dSet_j (by decide), a 51 (by decide)]) (by rw [dSet_k (by decide)]; exact a 52 (by decide)), fun i hi => ?_, fun i hi hb => ?_⟩
  · rw [dSet_s, a 51 (by decide), bt_or, bt_1 (by omega), decide_eq_false (by omega), Bool.or_false]
    exact hK.2.2.2.1 i hi
  rw [dSet_s, a 51 (by decide), bt_or, bt_1 (by omega)] at hb
  unfold lHold
  by_cases e : i = x1.toNatClampNeg
  · subst e
    rw [if_pos ⟨q, hx⟩]
    exact d.of (fun p _ _ => by rw [dSet_k (by decide)])
  · rw [if_neg (by omega)]
    rw [decide_eq_false e, Bool.or_false] at hb
    exact (hK.2.2.2.2 i hi hb).of (fun p h1 h2 => by rw [dSet_k (by decide)]; exact c p (by omega))
def aRes (S : Zt) (P : List Zt) (L : Nat → Zt) (x1 : Int32) (held : Bool) : Zt × List Zt := if (0 ≤ x1.toInt ∧ x1.toInt < 3) ∧ held = true then (L x1.toNatClampNeg, []) else (S, P)
theorem p_restore {x1 : Int32} {Q : Int32 → dM → Prop} (hK : KC H S P L m) (hQ : ∀ (r : Int32) (m' : dM), CcF m m' → KC H (aRes S P L x1 (bt (m.1 51 4) x1.toNatClampNeg)).1 (aRes S P L x1 (bt (m.1 51 4) x1.toNatClampNeg)).2 L m' → Q r m') : c_X11_restore_0 3 x1 m Q := by
  unfold aRes at hQ
  have no : ¬ ((0 ≤ x1.toInt ∧ x1.toInt < 3) ∧ bt (m.1 51 4) x1.toNatClampNeg = true) → ∀ r : Int32, Q r m := fun q r => by
    rw [if_neg q] at hQ
    exact hQ r m (CcF.rf m) hK
  refine v_X11_restore_0 (v_X6_fetch_51_47 ⟨fun q => v_X6_fetch_51_47_20 ⟨Or.inl rfl, no (by omega) _⟩, fun q => ⟨fun q2 => v_X6_fetch_51_47_20 ⟨Or.inl rfl, no (by omega) _⟩, fun q2 => ?_⟩⟩)
  have hx := toNat_of q
  have e33 := dMulE (X := x1.toInt) (Y := 33) (x := x1) (y := (33 : Int32)) rfl (by decide) (by omega) (by omega)
  refine y_has hx (by omega) (fun g => ⟨fun _ => ?_, fun z => absurd z (by decide)⟩) (fun g => ⟨fun z => absurd rfl z, fun _ => v_X6_fetch_51_47_20 ⟨Or.inl rfl, no (fun w => by rw [g] at w; cases w.2) _⟩⟩)
  rw [if_pos ⟨⟨q, q2⟩, g⟩] at hQ
  refine y_readFrom53 (i := x1.toNatClampNeg) (hK.2.2.2.2 x1.toNatClampNeg (by omega) g) (by omega) (by omega) (fun M a b d => v_X6_clear_51 ⟨Or.inr rfl, hQ _ _ ((CcF.set ⟨fun k q => a k (by omega), b⟩ (by decide)).set (by decide)) ?_⟩)
  refine ⟨⟨hK.1.1, hK.1.2.1.of (fun k q1 q2 _ => by rw [dSet_k (by omega), dSet_k (by omega)]; exact a k (by omega)), hK.1.2.2.of (fun k q1 q2 => by rw [dSet_k (by omega), dSet_k (by omega)]; exact a k (by omega))⟩, d.of (fun k q1 q2 => by rw [dSet_k (by omega), dSet_k (by omega)]), ⟨0, by decide, by rw [dSet_j (by decide), dSet_s]; decide, by rw [dSet_s]; rfl, Nat.zero_le _, fun k T hT => by cases hT⟩, hK.2.2.2.of (by rw [dSet_j (by decide), dSet_j (by decide), a 51 (by omega)]) (by rw [dSet_k (by decide), dSet_k (by decide)]; exact a 53 (by omega))⟩
end CCM
