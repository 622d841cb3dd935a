/-! THE CLASS's scan, exactly -/
def TX (B : Nat → Int32) (n : Nat) (m : dM) : Prop := m.2.2 = true ∧ (m.1 38 5).toInt = n ∧ n ≤ 2000 ∧ ∀ i : Nat, B i = if i < n then (m.1 1 i) &&& 255 else 0
section SCAN
variable {B : Nat → Int32} {n : Nat}
theorem TX.r {m : dM} (hT : TX B n m) (i : Nat) : 0 ≤ (B i).toInt ∧ (B i).toInt ≤ 255 := by
  rw [hT.2.2.2]
  split
  · exact dAndE (x := m.1 1 i) (y := 255) (by decide)
  · decide
theorem TX.of {m m' : dM} (hT : TX B n m) (h1 : m'.1 1 = m.1 1) (h2 : m'.1 38 5 = m.1 38 5) (h3 : m'.2.2 = m.2.2) : TX B n m' := by
  unfold TX
  rw [h1, h2, h3]
  exact hT
theorem f_byteAt {x1 : Int32} {i : Nat} {m : dM} {Q : Int32 → dM → Prop} (hT : TX B n m) (hx : x1.toInt = i) (hQ : Q (B i) m) : c_X8_byteAt_38 1 x1 m Q := by
  obtain ⟨h1, h2, h3, h4⟩ := hT
  have e := h4 i
  refine v_X8_byteAt_38 ⟨fun q => (by rw [h1] at q; cases q), fun _ => ⟨fun q => (by exfalso; omega), fun _ => ⟨fun q => ?_, fun q => ⟨fun q2 => by exfalso; omega, fun q2 => ⟨by omega, ?_⟩⟩⟩⟩⟩
  · rw [if_neg (by omega)] at e
    rw [e] at hQ
    exact v_X8_byteAt_38_41 hQ
  · rw [if_pos (by omega)] at e
    rw [d_cn hx, ← e]
    exact hQ
theorem f_isLetterAt {x1 : Int32} {i : Nat} {m : dM} {Q : Int32 → dM → Prop} (hT : TX B n m) (hx : x1.toInt = i) (h1 : bL B i = true → Q 1 m) (h0 : bL B i = false → Q 0 m) : c_X8_isLetterAt_38 2 x1 m Q := by
  refine v_X8_isLetterAt_38 (f_byteAt hT hx ?_)
  unfold bL at h1 h0
  exact ⟨fun q => v_X8_isLetterAt_38_22 (h0 (decide_eq_false (by omega))), fun q => ⟨fun q2 => v_X8_isLetterAt_38_22 (h0 (decide_eq_false (by omega))), fun q2 => h1 (decide_eq_true ⟨q, q2⟩)⟩⟩
theorem f_isDigitAt {x1 : Int32} {i : Nat} {m : dM} {Q : Int32 → dM → Prop} (hT : TX B n m) (hx : x1.toInt = i) (h1 : bD B i = true → Q 1 m) (h0 : bD B i = false → Q 0 m) : c_X8_isDigitAt_38 2 x1 m Q := by
  refine v_X8_isDigitAt_38 (f_byteAt hT hx ?_)
  unfold bD at h1 h0
  exact ⟨fun q => v_X8_isDigitAt_38_22 (h0 (decide_eq_false (by omega))), fun q => ⟨fun q2 => v_X8_isDigitAt_38_22 (h0 (decide_eq_false (by omega))), fun q2 => h1 (decide_eq_true ⟨q, q2⟩)⟩⟩
theorem f_pastBlanks_2 {m : dM} {Q : Int32 → dM → Prop} (hT : TX B n m) : ∀ (f p : Nat) (x2 : Int32), n - p = f → p ≤ n → x2.toInt = p → (∀ r : Int32, r.toInt = (sk B n p : Nat) → Q r m) → j_X8_pastBlanks_38_2 2 x2 m Q := by
  have h38 := hT.2.1
  have h2000 := hT.2.2.1
  intro f
  induction f with
  | zero =>
    intro p x2 hf hp hx hQ
    refine v_X8_pastBlanks_38_2 ⟨fun _ => hQ _ ?_, fun q => by exfalso; omega⟩
    unfold sk
    rw [rnn_ge (by omega)]
    omega
  | succ f ih =>
    intro p x2 hf hp hx hQ
    refine v_X8_pastBlanks_38_2 ⟨fun q => by exfalso; omega, fun _ => f_byteAt hT hx ?_⟩
    have go : bW B p = true → j_X8_pastBlanks_38_42 2 x2 m Q := fun hb => by
      refine v_X8_pastBlanks_38_42 (ih (p + 1) _ (by omega) (by omega) (d_add hx (by decide) (by omega)) (fun r hr => hQ r ?_))
      rw [hr]
      unfold sk
      rw [rnn_yes (by omega) hb]
      omega
    unfold bW at go
    refine ⟨fun q => go (decide_eq_true (by omega)), fun q1 => ⟨fun q => go (decide_eq_true (by omega)), fun q2 => ⟨fun q => go (decide_eq_true (by omega)), fun q3 => ⟨fun q => go (decide_eq_true (by omega)), fun q4 => hQ _ ?_⟩⟩⟩⟩
    unfold sk
    rw [rnn_no (by unfold bW; exact decide_eq_false (by omega))]
    omega
theorem f_pastBlanks {m : dM} {Q : Int32 → dM → Prop} {p : Nat} {x1 : Int32} (hT : TX B n m) (hp : p ≤ n) (hx : x1.toInt = p) (hQ : ∀ r : Int32, r.toInt = (sk B n p : Nat) → Q r m) : c_X8_pastBlanks_38 2 x1 m Q :=
  v_X8_pastBlanks_38 (f_pastBlanks_2 hT _ p x1 rfl hp hx hQ)
theorem f_wordOrName_2 {y1 : Int64} {m : dM} {Q : Int32 → dM → Prop} (hQ : ∀ r : Int32, r.toInt = (wk y1 : Nat) → Q r m) : ∀ (f k : Nat) (x3 : Int32), k + f = 22 → x3.toInt = k → wk y1 = wkF y1 f k → j_X8_wordOrName_38_2 1 y1 x3 m Q := by
  intro f
  induction f with
  | zero =>
    intro k x3 hk hx hw
    refine v_X8_wordOrName_38_2 ⟨fun _ => hQ _ ?_, fun q => by exfalso; omega⟩
    rw [hw]
    show (22 : Int) = (k : Nat)
    omega
  | succ f ih =>
    intro k x3 hk hx hw
    refine v_X8_wordOrName_38_2 ⟨fun q => by exfalso; omega, fun q => ⟨by omega, ?_⟩⟩
    rw [d_cn hx]
    have hc := dCmpE (tKv k) y1
    unfold wkF at hw
    refine ⟨fun q1 => ih (k + 1) _ (by omega) (d_add hx (by decide) (by omega)) ?_, fun q1 => hQ _ ?_⟩
    · rw [if_neg (fun e => q1 (hc.2.2.mpr e))] at hw
      exact hw
    · rw [if_pos (hc.2.2.mp q1)] at hw
      rw [hx, hw]
theorem f_wordOrName {y1 : Int64} {m : dM} {Q : Int32 → dM → Prop} (hQ : ∀ r : Int32, r.toInt = (wk y1 : Nat) → Q r m) : c_X8_wordOrName_38 1 y1 m Q :=
  v_X8_wordOrName_38 (f_wordOrName_2 hQ 22 0 _ rfl (by decide) rfl)
theorem f_scanDigits_5 {x1 x2 : Int32} {p : Nat} {m : dM} {Q : Int32 → dM → Prop} (hT : TX B n m) (hi : 0 ≤ x1.toInt ∧ x1.toInt < 401) (hp : p < n) (h2 : x2.toInt = p)
    (hQ : ∀ (r : Int32) (y : Int64) (v : Int32), (v.toInt = if rnn (bD B) n p ≤ 4 then 23 else 25) → (rnn (bD B) n p ≤ 4 → r.toInt = (p + rnn (bD B) n p : Nat) ∧ y = dv B p (rnn (bD B) n p)) → Q r (dSet (dSetL m 41 x1.toNatClampNeg y) 39 x1.toNatClampNeg v)) :
    ∀ (f k : Nat) (x5 : Int32), k + f = 5 → k ≤ rnn (bD B) n p → x5.toInt = (p + k : Nat) → j_X8_scanDigits_38_5 3 x1 x2 (dv B p k) x5 m Q := by
  have h38 := hT.2.1
  have h2000 := hT.2.2.1
  have fin : ∀ (k : Nat) (x5 : Int32), k ≤ 5 → (rnn (bD B) n p = k ∨ k = 5 ∧ 5 ≤ rnn (bD B) n p) → x5.toInt = (p + k : Nat) → j_X8_scanDigits_38_54 3 x1 x2 (dv B p k) x5 m Q := by
    intro k x5 hk hr h5
    have fs := dSubE (X := ((p + k : Nat) : Int)) (Y := (p : Int)) (x := x5) (y := x2) h5 h2 (by omega) (by omega)
    refine v_X8_scanDigits_38_54 ⟨hi, fun q => ⟨hi, hQ _ _ _ ?_ (fun q2 => ?_)⟩, fun q => ⟨hi, hQ _ _ _ ?_ (fun q2 => ?_)⟩⟩
    · rw [if_pos (by omega)]; decide
    · have e : rnn (bD B) n p = k := by omega
      rw [e]
      exact ⟨h5, rfl⟩
    · rw [if_neg (by omega)]; decide
    · exfalso; omega
  intro f
  induction f with
  | zero =>
    intro k x5 hk hr h5
    have fs := dSubE (X := ((p + k : Nat) : Int)) (Y := (p : Int)) (x := x5) (y := x2) h5 h2 (by omega) (by omega)
    exact v_X8_scanDigits_38_5 ⟨fun q => fin k x5 (by omega) (by omega) h5, fun q => ⟨fun q2 => fin k x5 (by omega) (by omega) h5, fun q2 => by exfalso; omega⟩⟩
  | succ f ih =>
    intro k x5 hk hr h5
    have fs := dSubE (X := ((p + k : Nat) : Int)) (Y := (p : Int)) (x := x5) (y := x2) h5 h2 (by omega) (by omega)
    refine v_X8_scanDigits_38_5 ⟨fun q => fin k x5 (by omega) (Or.inl (rnn_stop hr (Or.inl (by omega)))) h5, fun q => ⟨fun q2 => by exfalso; omega, fun q2 => f_isDigitAt hT h5 (fun hb => ?_) (fun hb => ?_)⟩⟩
    · refine ⟨fun z => absurd z (by decide), fun _ => Wp.deep (f_byteAt hT h5 ?_) (Nat.le_of_ble_eq_true rfl)⟩
      exact ih (k + 1) _ (by omega) (rnn_go (by omega) hr hb (by omega)) (d_inc (i := p + k) h5 (by omega))
    · exact ⟨fun _ => fin k x5 (by omega) (Or.inl (rnn_stop hr (Or.inr hb))) h5, fun z => absurd (by decide) z⟩
theorem f_scanLetters_5 {x1 x2 : Int32} {p : Nat} {m : dM} {Q : Int32 → dM → Prop} (hT : TX B n m) (hi : 0 ≤ x1.toInt ∧ x1.toInt < 401) (hp : p < n) (h2 : x2.toInt = p)
    (hQ : ∀ (r : Int32) (y : Int64) (v : Int32), (v.toInt = if rnn (bL B) n p ≤ 8 then (wk (nm B p (rnn (bL B) n p)) : Int) else 25) → (rnn (bL B) n p ≤ 8 → r.toInt = (p + rnn (bL B) n p : Nat) ∧ y = nm B p (rnn (bL B) n p)) → Q r (dSet (dSetL m 41 x1.toNatClampNeg y) 39 x1.toNatClampNeg v)) :
    ∀ (f k : Nat) (x5 : Int32), k + f = 9 → k ≤ rnn (bL B) n p → x5.toInt = (p + k : Nat) → j_X8_scanLetters_38_5 3 x1 x2 (nm B p k) x5 m Q := by
  have h38 := hT.2.1
  have h2000 := hT.2.2.1
  have fin : ∀ (k : Nat) (x5 : Int32), k ≤ 9 → (rnn (bL B) n p = k ∨ k = 9 ∧ 9 ≤ rnn (bL B) n p) → x5.toInt = (p + k : Nat) → j_X8_scanLetters_38_49 3 x1 x2 (nm B p k) x5 m Q := by
    intro k x5 hk hr h5
    have fs := dSubE (X := ((p + k : Nat) : Int)) (Y := (p : Int)) (x := x5) (y := x2) h5 h2 (by omega) (by omega)
    refine v_X8_scanLetters_38_49 ⟨hi, fun q => Wp.deep (f_wordOrName (fun r hr2 => ⟨hi, hQ _ _ _ ?_ (fun q2 => ?_)⟩)) (Nat.le_of_ble_eq_true rfl), fun q => ⟨hi, hQ _ _ _ ?_ (fun q2 => ?_)⟩⟩
    · have e : rnn (bL B) n p = k := by omega
      rw [if_pos (by omega), e, hr2]
    · have e : rnn (bL B) n p = k := by omega
      rw [e]
      exact ⟨h5, rfl⟩
    · rw [if_neg (by omega)]; decide
    · exfalso; omega
  intro f
  induction f with
  | zero =>
    intro k x5 hk hr h5
    have fs := dSubE (X := ((p + k : Nat) : Int)) (Y := (p : Int)) (x := x5) (y := x2) h5 h2 (by omega) (by omega)
    exact v_X8_scanLetters_38_5 ⟨fun q => fin k x5 (by omega) (by omega) h5, fun q => ⟨fun q2 => fin k x5 (by omega) (by omega) h5, fun q2 => by exfalso; omega⟩⟩
  | succ f ih =>
    intro k x5 hk hr h5
    have fs := dSubE (X := ((p + k : Nat) : Int)) (Y := (p : Int)) (x := x5) (y := x2) h5 h2 (by omega) (by omega)
    refine v_X8_scanLetters_38_5 ⟨fun q => fin k x5 (by omega) (Or.inl (rnn_stop hr (Or.inl (by omega)))) h5, fun q => ⟨fun q2 => by exfalso; omega, fun q2 => f_isLetterAt hT h5 (fun hb => ?_) (fun hb => ?_)⟩⟩
    · refine ⟨fun z => absurd z (by decide), fun _ => Wp.deep (f_byteAt hT h5 (v_X8_withLetter (d := 1) ?_)) (Nat.le_of_ble_eq_true rfl)⟩
      exact ih (k + 1) _ (by omega) (rnn_go (by omega) hr hb (by omega)) (d_inc (i := p + k) h5 (by omega))
    · exact ⟨fun _ => fin k x5 (by omega) (Or.inl (rnn_stop hr (Or.inr hb))) h5, fun z => absurd (by decide) z⟩
theorem f_signOf {x0 : Int32} {m : dM} {Q : Int32 → dM → Prop} (hQ : ∀ r : Int32, r.toInt = sg x0.toInt → Q r m) : c_X8_signOf 1 x0 m Q := by
  have yes : (x0.toInt = 40 ∨ x0.toInt = 41 ∨ x0.toInt = 42 ∨ x0.toInt = 43 ∨ x0.toInt = 45 ∨ x0.toInt = 47 ∨ x0.toInt = 59 ∨ x0.toInt = 60 ∨ x0.toInt = 61) → Q x0 m := fun h => hQ x0 (by unfold sg; rw [if_pos h])
  have bad : ¬ (x0.toInt = 40 ∨ x0.toInt = 41 ∨ x0.toInt = 42 ∨ x0.toInt = 43 ∨ x0.toInt = 45 ∨ x0.toInt = 47 ∨ x0.toInt = 59 ∨ x0.toInt = 60 ∨ x0.toInt = 61) → Q 25 m := fun h => hQ 25 (by unfold sg; rw [if_neg h]; decide)
  refine v_X8_signOf ?_
  repeat' apply And.intro
  all_goals first
    | exact (fun q => yes (by omega))
    | exact (fun q => bad (by omega))
/-- the value of a token that begins at p -/
def vl (B : Nat → Int32) (n p : Nat) : Int64 := cond (bL B p) (nm B p (rnn (bL B) n p)) (dv B p (rnn (bD B) n p))
/-- one token told: its kind, its value, no other place -/
def S1 (B : Nat → Int32) (n p i : Nat) (m m' : dM) : Prop := (∀ k j : Nat, ¬ (k = 39 ∧ j = i) → m'.1 k j = m.1 k j) ∧ (m'.1 39 i).toInt = kd B n p ∧ (∀ k j : Nat, ¬ (k = 41 ∧ j = i) → m'.2.1 k j = m.2.1 k j) ∧ (kd B n p ≤ 23 → m'.2.1 41 i = vl B n p) ∧ m'.2.2 = m.2.2
theorem f_scanOne {x1 x2 : Int32} {i p : Nat} {m : dM} {Q : Int32 → dM → Prop} (hT : TX B n m) (h1 : x1.toInt = i) (hi : i ≤ 400) (h2 : x2.toInt = p) (hp : p ≤ n) (hQ : ∀ (r : Int32) (m' : dM), S1 B n p i m m' → (kd B n p ≠ 25 → r.toInt = (en B n p : Nat)) → Q r m') : c_X8_scanOne_38 4 x1 x2 m Q := by
  have h38 := hT.2.1
  have h2000 := hT.2.2.1
  have hb : 0 ≤ x1.toInt ∧ x1.toInt < 401 := by omega
  have ei := d_cn h1
  have one : ∀ (v : Int32), v.toInt = kd B n p → ¬ kd B n p ≤ 23 → S1 B n p i m (dSet m 39 i v) := fun v hv h => by
    refine ⟨fun k j q => ?_, ?_, fun _ _ _ => rfl, fun q => absurd q h, rfl⟩
    · rw [dSet_e, if_neg q]
    · rw [dSet_s, hv]
  have two : ∀ (v : Int32) (y : Int64), v.toInt = kd B n p → (kd B n p ≤ 23 → y = vl B n p) → S1 B n p i m (dSet (dSetL m 41 i y) 39 i v) := fun v y hv hy => by
    refine ⟨fun k j q => ?_, ?_, fun k j q => ?_, fun q => ?_, rfl⟩
    · rw [dSet_e, if_neg q]
      rfl
    · rw [dSet_s, hv]
    · show (dSetL m 41 i y).2.1 k j = _
      rw [dSetL_e, if_neg q]
    · show (dSetL m 41 i y).2.1 41 i = _
      rw [dSetL_e, if_pos ⟨rfl, rfl⟩]
      exact hy q
  refine v_X8_scanOne_38 ⟨fun hlt => ?_, fun hge => ⟨hb, ?_⟩⟩
  · have hpn : p < n := by omega
    have hng : ¬ n ≤ p := by omega
    refine Wp.deep (f_isLetterAt hT h2 (fun hL => ⟨fun q => absurd q (by decide), fun _ => ?_⟩) (fun hL => ⟨fun _ => ?_, fun q => absurd (by decide) q⟩)) (Nat.le_of_ble_eq_true rfl)
    · refine v_X8_scanLetters_38 (f_scanLetters_5 hT hb hpn h2 (fun r y v hv hr => ?_) 9 0 _ rfl (Nat.zero_le _) (by rw [h2]; omega))
      rw [ei]
      have ek : kd B n p = if rnn (bL B) n p ≤ 8 then (wk (nm B p (rnn (bL B) n p)) : Int) else 25 := by
        unfold kd
        rw [if_neg hng, hL]
        rfl
      refine hQ _ _ (two v y (by rw [ek, hv]) (fun q => ?_)) (fun q => ?_)
      · by_cases h8 : rnn (bL B) n p ≤ 8
        · rw [(hr h8).2]
          unfold vl
          rw [hL]
          rfl
        · rw [ek, if_neg h8] at q
          exfalso; omega
      · by_cases h8 : rnn (bL B) n p ≤ 8
        · rw [(hr h8).1]
          unfold en
          rw [if_neg hng, hL]
          rfl
        · rw [ek, if_neg h8] at q
          exact absurd rfl q
    · refine Wp.deep (f_isDigitAt hT h2 (fun hD => ⟨fun q => absurd q (by decide), fun _ => ?_⟩) (fun hD => ⟨fun _ => ?_, fun q => absurd (by decide) q⟩)) (Nat.le_of_ble_eq_true rfl)
      · refine v_X8_scanDigits_38 (f_scanDigits_5 hT hb hpn h2 (fun r y v hv hr => ?_) 5 0 _ rfl (Nat.zero_le _) (by rw [h2]; omega))
        rw [ei]
        have ek : kd B n p = if rnn (bD B) n p ≤ 4 then 23 else 25 := by
          unfold kd
          rw [if_neg hng, hL, hD]
          rfl
        refine hQ _ _ (two v y (by rw [ek, hv]) (fun q => ?_)) (fun q => ?_)
        · by_cases h8 : rnn (bD B) n p ≤ 4
          · rw [(hr h8).2]
            unfold vl
            rw [hL]
            rfl
          · rw [ek, if_neg h8] at q
            exfalso; omega
        · by_cases h8 : rnn (bD B) n p ≤ 4
          · rw [(hr h8).1]
            unfold en
            rw [if_neg hng, hL, hD]
            rfl
          · rw [ek, if_neg h8] at q
            exact absurd rfl q
      · refine Wp.deep (f_byteAt hT h2 (Wp.deep (f_signOf (fun r hr => ⟨hb, ?_⟩)) (Nat.le_of_ble_eq_true rfl))) (Nat.le_of_ble_eq_true rfl)
        rw [ei]
        have ek : kd B n p = sg (B p).toInt := by
          unfold kd
          rw [if_neg hng, hL, hD]
          rfl
        refine hQ _ _ (one r (by rw [ek, hr]) ?_) (fun q => ?_)
        · rw [ek]
          have := sg_r (B p).toInt
          omega
        · rw [d_inc h2 (by omega)]
          unfold en
          rw [if_neg hng, hL, hD]
          rfl
  · rw [ei]
    have ek : kd B n p = 24 := kd_end (by omega)
    refine hQ _ _ (one 24 (by rw [ek]; decide) (by rw [ek]; decide)) (fun q => ?_)
    unfold en
    rw [if_pos (by omega)]
    exact h2
/-- what stands in the rows of tokens -/
def TK (B : Nat → Int32) (n i : Nat) (m : dM) : Prop := (m.1 39 i).toInt = tK B n i ∧ (m.1 40 i).toInt = (tP B n i : Nat) ∧ (tK B n i ≤ 23 → m.2.1 41 i = tV B n i)
def SF (m m' : dM) : Prop := (∀ k : Nat, k ≠ 39 → k ≠ 40 → m'.1 k = m.1 k) ∧ (∀ k : Nat, k ≠ 41 → m'.2.1 k = m.2.1 k) ∧ m'.2.2 = m.2.2
theorem f_scan_20 {mb : dM} {Q : dM → Prop} (hT : TX B n mb) (hQ : ∀ m', SF mb m' → (∀ i : Nat, i ≤ 400 → lv B n i → TK B n i m') → Q m') : ∀ (f i : Nat) (x3 x4 : Int32) (m : dM), i + f = 401 → x3.toInt = (ps B n i : Nat) → x4.toInt = i → lv B n i → SF mb m → (∀ j : Nat, j < i → TK B n j m) → j_X8_scan_38_1_20 5 x3 x4 m Q := by
  have h2000 := hT.2.2.1
  intro f
  induction f with
  | zero =>
    intro i x3 x4 m hf h3 h4 hl hS hd
    exact v_X8_scan_38_1_20 ⟨fun _ => hQ m hS (fun j hj _ => hd j (by omega)), fun q => by exfalso; omega⟩
  | succ f ih =>
    intro i x3 x4 m hf h3 h4 hl hS hd
    have hTm : TX B n m := hT.of (hS.1 1 (by decide) (by decide)) (by rw [hS.1 38 (by decide) (by decide)]) hS.2.2
    have hpn := ps_le (B := B) (n := n) i
    have hpi := tP_le (B := B) (n := n) i
    refine v_X8_scan_38_1_20 ⟨fun q => by exfalso; omega, fun _ => Wp.deep (f_pastBlanks hTm hpn h3 (fun r hr => ⟨by omega, ?_⟩)) (Nat.le_of_ble_eq_true rfl)⟩
    have hr : r.toInt = (tP B n i : Nat) := hr
    rw [d_cn h4]
    refine f_scanOne (m := dSet m 40 i r) (hTm.of (dSet_k (by decide)) (by rw [dSet_k (by decide)]) rfl) h4 (by omega) hr hpi (fun r2 m2 hs he => ?_)
    obtain ⟨s1, s2, s3, s4, s5⟩ := hs
    have s2 : (m2.1 39 i).toInt = tK B n i := s2
    have hS2 : SF mb m2 := by
      refine ⟨fun k h39 h40 => ?_, fun k h41 => ?_, s5.trans hS.2.2⟩
      · rw [← hS.1 k h39 h40]
        funext j
        rw [s1 k j (fun q => h39 q.1), dSet_k h40]
      · rw [← hS.2.1 k h41]
        funext j
        rw [s3 k j (fun q => h41 q.1)]
        rfl
    have hd2 : ∀ j : Nat, j < i + 1 → TK B n j m2 := by
      intro j hj
      by_cases e : j = i
      · subst e
        refine ⟨s2, ?_, s4⟩
        rw [s1 40 j (fun q => absurd q.1 (by decide)), dSet_s, hr]
      · obtain ⟨a, b, c⟩ := hd j (by omega)
        refine ⟨?_, ?_, fun q => ?_⟩
        · rw [s1 39 j (fun q => e q.2), dSet_k (by decide)]; exact a
        · rw [s1 40 j (fun q => absurd q.1 (by decide)), dSet_j e]; exact b
        · rw [s3 41 j (fun q => e q.2)]; exact c q
    have stop : tK B n i = 24 ∨ tK B n i = 25 → j_X8_scan_38_1_74 5 m2 Q := fun hk => by
      refine v_X8_scan_38_1_74 (hQ m2 hS2 (fun j hj hlj => ?_))
      by_cases e : j ≤ i
      · exact hd2 j (by omega)
      · have := hlj i (by omega)
        rcases hk with hk | hk
        · exact absurd hk this.1
        · exact absurd hk this.2
    refine ⟨by omega, fun q => stop (Or.inl (by omega)), fun q => ⟨by omega, fun q2 => ?_, fun q2 => stop (Or.inr (by omega))⟩⟩
    refine ih (i + 1) _ _ m2 (by omega) ?_ (d_add h4 (by decide) (by omega)) (hl.up (by omega) (by omega)) hS2 hd2
    exact he (by show tK B n i ≠ 25; omega)
theorem f_scan {x2 : Int32} {m : dM} {Q : dM → Prop} (hx : x2.toInt = n) (hn : n ≤ 2000) (hB : ∀ i : Nat, B i = if i < n then (m.1 1 i) &&& 255 else 0) (hQ : ∀ m', (∀ k : Nat, k ≠ 38 → k ≠ 39 → k ≠ 40 → m'.1 k = m.1 k) → (∀ k : Nat, k ≠ 41 → m'.2.1 k = m.2.1 k) → (m'.1 38 5).toInt = (n : Int) → (∀ i : Nat, i ≤ 400 → lv B n i → TK B n i m') → Q m') : c_X8_scan_38_1 5 x2 m Q := by
  have e : (if (2000 : Int32) < x2 then (2000 : Int32) else x2) = x2 := by
    rw [if_neg]
    intro q
    have := Int32.lt_iff_toInt_lt.mp q
    have e2 : (2000 : Int32).toInt = 2000 := by decide
    omega
  refine v_X8_scan_38_1 ?_
  rw [e]
  have hT : TX B n (dSet (dTx m) 38 5 x2) := by
    refine ⟨rfl, by rw [dSet_s]; exact hx, hn, fun i => ?_⟩
    rw [dSet_k (by decide)]
    exact hB i
  refine f_scan_20 hT (fun m' hS hd => hQ m' (fun k h1 h2 h3 => ?_) (fun k h1 => ?_) ?_ hd) 401 0 _ _ _ rfl (show (0 : Int32).toInt = ((0 : Nat) : Int) by decide) (by decide) (fun j hj => by omega) ⟨fun _ _ _ => rfl, fun _ _ => rfl, rfl⟩ (fun j hj => by omega)
  · rw [hS.1 k h2 h3, dSet_k h1]
    rfl
  · rw [hS.2.1 k h1]
    rfl
  · rw [hS.1 38 (by decide) (by decide), dSet_s]
    exact hx
end SCAN
