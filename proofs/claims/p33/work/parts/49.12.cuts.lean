/-! THE REFERENCE's cutsUp, exactly -/
/-- a kind as the reference numbers it -/
def rk (c : Int) : Int := if c < 22 then 20 + c else if c = 22 then 1 else if c = 23 then 2 else if c = 24 then 0 else if c = 25 then 3 else if c = 59 then 4 else if c = 61 then 5 else if c = 40 then 6 else if c = 41 then 7 else if c = 43 then 8 else if c = 45 then 9 else if c = 42 then 10 else if c = 60 then 13 else 15
theorem rk_sg (c : Int) : (c = 59 → rk (sg c) = 4) ∧ (c = 61 → rk (sg c) = 5) ∧ (c = 40 → rk (sg c) = 6) ∧ (c = 41 → rk (sg c) = 7) ∧ (c = 43 → rk (sg c) = 8) ∧ (c = 45 → rk (sg c) = 9) ∧ (c = 42 → rk (sg c) = 10) ∧ (c = 60 → rk (sg c) = 13) ∧ (c = 47 → rk (sg c) = 15) ∧ (¬ (c = 40 ∨ c = 41 ∨ c = 42 ∨ c = 43 ∨ c = 45 ∨ c = 47 ∨ c = 59 ∨ c = 60 ∨ c = 61) → rk (sg c) = 3) := by
  refine ⟨fun h => by subst h; decide, fun h => by subst h; decide, fun h => by subst h; decide, fun h => by subst h; decide, fun h => by subst h; decide, fun h => by subst h; decide, fun h => by subst h; decide, fun h => by subst h; decide, fun h => by subst h; decide, fun h => ?_⟩
  unfold sg
  rw [if_neg h]
  decide
def RX (B : Nat → Int32) (n : Nat) (m : dM) : Prop := (m.1 70 4).toInt = n ∧ n ≤ 2000 ∧ ∀ i : Nat, B i = if i < n then (m.1 72 i) &&& 255 else 0
/-- one token of the reference's -/
def RK (B : Nat → Int32) (n i : Nat) (m : dM) : Prop := (m.1 73 i).toInt = rk (tK B n i) ∧ (m.1 74 i).toInt = (tP B n i : Nat) ∧ (tK B n i ≤ 22 → m.2.1 76 i = tV B n i) ∧ (tK B n i = 23 → m.1 75 i = (tV B n i).toInt32)
def RF (m m' : dM) : Prop := (∀ k : Nat, k ≠ 70 → k ≠ 73 → k ≠ 74 → k ≠ 75 → m'.1 k = m.1 k) ∧ (∀ j : Nat, j ≠ 10 → m'.1 70 j = m.1 70 j) ∧ (∀ k : Nat, k ≠ 76 → m'.2.1 k = m.2.1 k)
section CUTS
variable {B : Nat → Int32} {n : Nat}
theorem RX.of {m m' : dM} (hT : RX B n m) (h1 : m'.1 72 = m.1 72) (h2 : m'.1 70 4 = m.1 70 4) : RX B n m' := by
  unfold RX
  rw [h1, h2]
  exact hT
theorem RX.r {m : dM} (hT : RX B n m) (i : Nat) : 0 ≤ (B i).toInt ∧ (B i).toInt ≤ 255 := by
  rw [hT.2.2]
  split
  · exact dAndE (x := m.1 72 i) (y := 255) (by decide)
  · decide
theorem RX.z {m : dM} (hT : RX B n m) {i : Nat} (h : n ≤ i) : B i = 0 := by rw [hT.2.2, if_neg (by omega)]
theorem g_byteAt {x1 : Int32} {i : Nat} {m : dM} {Q : Int32 → dM → Prop} (hT : RX B n m) (hx : x1.toInt = i) (hQ : Q (B i) m) : c_X12_byteAt_70 1 x1 m Q := by
  obtain ⟨h2, h3, h4⟩ := hT
  have e := h4 i
  refine v_X12_byteAt_70 ⟨fun q => ?_, fun q => ⟨by omega, ?_⟩⟩
  · rw [if_neg (by omega)] at e
    rw [e] at hQ
    exact hQ
  · rw [if_pos (by omega)] at e
    rw [d_cn hx, ← e]
    exact hQ
theorem g_isLetter {i : Nat} {m : dM} {Q : Int32 → dM → Prop} (h1 : bL B i = true → Q 1 m) (h0 : bL B i = false → Q 0 m) : c_X12_isLetter 1 (B i) m Q := by
  unfold bL at h1 h0
  exact u_isLetter (fun h => h1 (decide_eq_true h)) (fun h => h0 (decide_eq_false h))
theorem g_isDigit {i : Nat} {m : dM} {Q : Int32 → dM → Prop} (h1 : bD B i = true → Q 1 m) (h0 : bD B i = false → Q 0 m) : c_X12_isDigit 1 (B i) m Q := by
  unfold bD at h1 h0
  exact u_isDigit (fun h => h1 (decide_eq_true h)) (fun h => h0 (decide_eq_false h))
/-- a token is put -/
theorem g_token {x1 x2 x3 : Int32} {y4 : Int64} {i : Nat} {mb m : dM} {Q : dM → Prop} (hF : RF mb m) (ht : (m.1 70 10).toInt = i) (hi : i ≤ 400) (h1 : x1.toInt = rk (tK B n i)) (h2 : x2.toInt = (tP B n i : Nat)) (h3 : tK B n i = 23 → x3 = (tV B n i).toInt32) (h4 : tK B n i ≤ 22 → y4 = tV B n i) (hd : ∀ j : Nat, j < i → RK B n j m) (hQ : ∀ m', RF mb m' → (m'.1 70 10).toInt = ((i + 1 : Nat) : Int) → (∀ j : Nat, j < i + 1 → RK B n j m') → Q m') : c_X12_token_70 1 x1 x2 x3 y4 m Q := by
  have hb : 0 ≤ (m.1 70 10).toInt ∧ (m.1 70 10).toInt < 403 := by omega
  refine v_X12_token_70 ⟨hb, hb, hb, hb, ?_⟩
  rw [d_cn ht]
  refine hQ _ ⟨fun k a b c d => ?_, fun j a => ?_, fun k a => ?_⟩ ?_ (fun j hj => ?_)
  · rw [dSet_k a]
    show (dSet (dSet (dSet m 73 i x1) 74 i x2) 75 i x3).1 k = _
    rw [dSet_k d, dSet_k c, dSet_k b]
    exact hF.1 k a b c d
  · rw [dSet_j a]
    show (dSet (dSet (dSet m 73 i x1) 74 i x2) 75 i x3).1 70 j = _
    rw [dSet_k (by decide), dSet_k (by decide), dSet_k (by decide)]
    exact hF.2.1 j a
  · show (dSetL m 76 i y4).2.1 k = _
    funext j
    rw [dSetL_e, if_neg (fun q => a q.1), hF.2.2 k a]
  · rw [dSet_s]
    exact d_add ht (by decide) (by omega)
  · have r73 : (dSet (dSetL (dSet (dSet (dSet m 73 i x1) 74 i x2) 75 i x3) 76 i y4) 70 10 (m.1 70 10 + 1)).1 73 j = if j = i then x1 else m.1 73 j := by
      rw [dSet_k (by decide)]
      show (dSet (dSet (dSet m 73 i x1) 74 i x2) 75 i x3).1 73 j = _
      rw [dSet_k (by decide), dSet_k (by decide), dSet_e]
      by_cases e : j = i
      · rw [if_pos ⟨rfl, e⟩, if_pos e]
      · rw [if_neg (fun q => e q.2), if_neg e]
    have r74 : (dSet (dSetL (dSet (dSet (dSet m 73 i x1) 74 i x2) 75 i x3) 76 i y4) 70 10 (m.1 70 10 + 1)).1 74 j = if j = i then x2 else m.1 74 j := by
      rw [dSet_k (by decide)]
      show (dSet (dSet (dSet m 73 i x1) 74 i x2) 75 i x3).1 74 j = _
      rw [dSet_k (by decide), dSet_e, dSet_k (by decide)]
      by_cases e : j = i
      · rw [if_pos ⟨rfl, e⟩, if_pos e]
      · rw [if_neg (fun q => e q.2), if_neg e]
    have r75 : (dSet (dSetL (dSet (dSet (dSet m 73 i x1) 74 i x2) 75 i x3) 76 i y4) 70 10 (m.1 70 10 + 1)).1 75 j = if j = i then x3 else m.1 75 j := by
      rw [dSet_k (by decide)]
      show (dSet (dSet (dSet m 73 i x1) 74 i x2) 75 i x3).1 75 j = _
      rw [dSet_e, dSet_k (by decide), dSet_k (by decide)]
      by_cases e : j = i
      · rw [if_pos ⟨rfl, e⟩, if_pos e]
      · rw [if_neg (fun q => e q.2), if_neg e]
    have r76 : (dSet (dSetL (dSet (dSet (dSet m 73 i x1) 74 i x2) 75 i x3) 76 i y4) 70 10 (m.1 70 10 + 1)).2.1 76 j = if j = i then y4 else m.2.1 76 j := by
      show (dSetL m 76 i y4).2.1 76 j = _
      rw [dSetL_e]
      by_cases e : j = i
      · rw [if_pos ⟨rfl, e⟩, if_pos e]
      · rw [if_neg (fun q => e q.2), if_neg e]
    unfold RK
    rw [r73, r74, r75, r76]
    by_cases e : j = i
    · subst e
      simp only [if_true]
      exact ⟨h1, h2, h4, h3⟩
    · simp only [if_neg e]
      exact hd j (by omega)
theorem g_sign {x1 x2 x3 : Int32} {i : Nat} {mb m : dM} {Q : Int32 → dM → Prop} (hF : RF mb m) (ht : (m.1 70 10).toInt = i) (hi : i ≤ 400) (hk : tK B n i = sg x2.toInt) (h2 : x1.toInt = (tP B n i : Nat)) (hd : ∀ j : Nat, j < i → RK B n j m) (hQ : ∀ m', RF mb m' → (m'.1 70 10).toInt = ((i + 1 : Nat) : Int) → (∀ j : Nat, j < i + 1 → RK B n j m') → Q 1 m') : c_X12_sign_70 2 x1 x2 x3 m Q := by
  have hK := rk_sg x2.toInt
  have hr := sg_r x2.toInt
  have t3 := ti_3
  have t4 := ti_4
  have t5 := ti_5
  have t7 := ti_7
  have t8 := ti_8
  have t9 := ti_9
  have t10 := ti_10
  have t13 := ti_13
  have t6 : (6 : Int32).toInt = 6 := by decide
  have t15 : (15 : Int32).toInt = 15 := by decide
  generalize hc : x2.toInt = c at hK hr hk
  have h95 : ∀ x4 : Int32, x4.toInt = rk (sg c) → j_X12_sign_70_95 2 x1 x4 m Q := fun x4 h => v_X12_sign_70_95 (g_token hF ht hi (by rw [hk]; exact h) h2 (fun q => by rw [hk] at q; exfalso; omega) (fun q => by rw [hk] at q; exfalso; omega) hd hQ)
  have h85 : ∀ x4 : Int32, (c ≠ 60 → x4.toInt = rk (sg c)) → j_X12_sign_70_85 2 x1 x2 x4 m Q := fun x4 h => v_X12_sign_70_85 ⟨fun q => h95 _ (h (by omega)), fun q => h95 _ (by omega)⟩
  have h75 : ∀ x4 : Int32, (c ≠ 60 → c ≠ 47 → x4.toInt = rk (sg c)) → j_X12_sign_70_75 2 x1 x2 x4 m Q := fun x4 h => v_X12_sign_70_75 ⟨fun q => h85 _ (fun a => h a (by omega)), fun q => h85 _ (fun a => by omega)⟩
  have h65 : ∀ x4 : Int32, (c ≠ 60 → c ≠ 47 → c ≠ 42 → x4.toInt = rk (sg c)) → j_X12_sign_70_65 2 x1 x2 x4 m Q := fun x4 h => v_X12_sign_70_65 ⟨fun q => h75 _ (fun a b => h a b (by omega)), fun q => h75 _ (fun a b => by omega)⟩
  have h55 : ∀ x4 : Int32, (c ≠ 60 → c ≠ 47 → c ≠ 42 → c ≠ 45 → x4.toInt = rk (sg c)) → j_X12_sign_70_55 2 x1 x2 x4 m Q := fun x4 h => v_X12_sign_70_55 ⟨fun q => h65 _ (fun a b d => h a b d (by omega)), fun q => h65 _ (fun a b d => by omega)⟩
  refine v_X12_sign_70 ⟨fun q1 => ⟨fun q2 => ⟨fun q3 => ⟨fun q4 => ⟨fun q5 => h55 _ (fun a b d e => ?_), fun q5 => h55 _ (fun a b d e => ?_)⟩, fun q4 => ⟨fun q5 => h55 _ (fun a b d e => ?_), fun q5 => h55 _ (fun a b d e => ?_)⟩⟩, fun q3 => ⟨fun q5 => h55 _ (fun a b d e => ?_), fun q5 => h55 _ (fun a b d e => ?_)⟩⟩, fun q2 => ⟨fun q5 => h55 _ (fun a b d e => ?_), fun q5 => h55 _ (fun a b d e => ?_)⟩⟩, fun q1 => ⟨fun q5 => h55 _ (fun a b d e => ?_), fun q5 => h55 _ (fun a b d e => ?_)⟩⟩
  all_goals omega
/-- a name's word: the last that fits is the first -/
theorem g_146 {x1 x3 : Int32} {y4 : Int64} {m : dM} {Q : dM → Prop} (hQ : ∀ x6 : Int32, x6.toInt = rk (wk y4) → j_X12_cutsUp_70_179 3 x1 x3 y4 x6 m Q) : ∀ (f k : Nat) (x6 x7 : Int32), k + f = 22 → x7.toInt = k → x6.toInt = (if wk y4 < k then 20 + (wk y4 : Int) else 1) → j_X12_cutsUp_70_146 3 x1 x3 y4 x6 x7 m Q := by
  intro f
  induction f with
  | zero =>
    intro k x6 x7 hk h7 h6
    refine v_X12_cutsUp_70_146 ⟨fun _ => hQ _ ?_, fun q => by exfalso; omega⟩
    rw [h6]
    have := wk_le y4
    unfold rk
    by_cases e : wk y4 < k
    · rw [if_pos e, if_pos (by omega)]
    · rw [if_neg e, if_neg (by omega), if_pos (by omega)]
  | succ f ih =>
    intro k x6 x7 hk h7 h6
    refine v_X12_cutsUp_70_146 ⟨fun q => by exfalso; omega, fun q => ⟨by omega, ?_⟩⟩
    rw [d_cn h7]
    have hc := dCmpE (tKv k) y4
    refine ⟨fun q1 => v_X12_cutsUp_70_173 (ih (k + 1) _ _ (by omega) (d_add h7 (by decide) (by omega)) ?_), fun q1 => v_X12_cutsUp_70_173 (ih (k + 1) _ _ (by omega) (d_add h7 (by decide) (by omega)) ?_)⟩
    · have ne : wk y4 ≠ k := fun e => q1 (hc.2.2.mpr (by rw [← e]; exact wk_hit (by omega)))
      rw [h6]
      by_cases e : wk y4 < k
      · rw [if_pos e, if_pos (by omega)]
      · rw [if_neg e, if_neg (by omega)]
    · have e : wk y4 = k := by
        rw [← hc.2.2.mp q1]
        exact wk_own k (by omega)
      rw [if_pos (by omega), e]
      have := dAddE (X := 20) (Y := (k : Int)) (x := (20 : Int32)) (y := x7) (by decide) h7 (by omega) (by omega)
      exact this
theorem nm_comm (a : Int64) (b : Int64) : (27 : Int64) * a + b = a * 27 + b := by rw [Int64.mul_comm]
/-- the number as an int -/
def dw (B : Nat → Int32) (p : Nat) : Nat → Int32
  | 0 => 0
  | k + 1 => (10 * dw B p k + B (p + k)) - 48
theorem dw_eq (p : Nat) : ∀ k : Nat, (dv B p k).toInt32 = dw B p k
  | 0 => rfl
  | k + 1 => by
    unfold dv dw
    rw [Int64.toInt32_add, Int64.toInt32_mul, dw_eq p k, Int32.toInt32_toInt64]
    rw [Int32.mul_comm, Int32.sub_eq_add_neg, Int32.sub_eq_add_neg, Int32.add_assoc]
    rfl
theorem bL_out {m : dM} (hT : RX B n m) {p : Nat} (h : n ≤ p) : bL B p = false := by
  unfold bL
  rw [hT.z h]
  decide
theorem bD_out {m : dM} (hT : RX B n m) {p : Nat} (h : n ≤ p) : bD B p = false := by
  unfold bD
  rw [hT.z h]
  decide
theorem rk_22 {c : Int} (h0 : 0 ≤ c) (h : c ≤ 22) : rk c = if c < 22 then 20 + c else 1 := by
  unfold rk
  by_cases e : c < 22
  · rw [if_pos e, if_pos e]
  · rw [if_neg e, if_neg e, if_pos (by omega)]
/-- the letters of a name -/
theorem g_85 {x1 : Int32} {p : Nat} {m : dM} {Q : dM → Prop} (hT : RX B n m) (hp : p < n) (hx : x1.toInt = p) (hL : bL B p = true) (hQ : ∀ (x3 : Int32) (y4 : Int64) (x6 : Int32), x3.toInt = (rnn (bL B) n p : Nat) → x6.toInt = rk (kd B n p) → (kd B n p ≤ 22 → y4 = nm B p (rnn (bL B) n p)) → j_X12_cutsUp_70_179 3 x1 x3 y4 x6 m Q) : ∀ (f k : Nat) (x3 : Int32) (y4 : Int64), k + f = rnn (bL B) n p → x3.toInt = k → y4 = nm B p (min k 8) → j_X12_cutsUp_70_85 3 x1 x3 y4 m Q := by
  have h2000 := hT.2.1
  have hr := rnn_le (P := bL B) (n := n) _ p rfl
  have hng : ¬ n ≤ p := by omega
  have ek : kd B n p = if rnn (bL B) n p ≤ 8 then (wk (nm B p (rnn (bL B) n p)) : Int) else 25 := by
    unfold kd
    rw [if_neg hng, hL]
    rfl
  intro f
  induction f with
  | zero =>
    intro k x3 y4 hk h3 hy
    have hk : rnn (bL B) n p = k := by omega
    have ea := d_add (k := x3) (K := k) hx h3 (by omega)
    have hb : bL B (p + k) = false := by
      have := rnn_end (P := bL B) (n := n) _ p rfl (by omega)
      rw [hk] at this
      rcases this with q | q
      · exact bL_out hT (by omega)
      · exact q
    refine v_X12_cutsUp_70_85 (Wp.deep (g_byteAt hT ea (Wp.deep (g_isLetter (fun q => by rw [hb] at q; cases q) (fun _ => ⟨fun _ => ⟨fun q8 => ⟨fun z => by exfalso; omega, fun _ => ?_⟩, fun q8 => ⟨fun _ => ?_, fun z => by exfalso; omega⟩⟩, fun z => absurd (by decide) z⟩)) (Nat.le_of_ble_eq_true rfl))) (Nat.le_of_ble_eq_true rfl))
    · have ey : y4 = nm B p (rnn (bL B) n p) := by rw [hy, hk, Nat.min_eq_left (by omega)]
      refine g_146 (fun x6 h6 => hQ x3 y4 x6 (by omega) ?_ (fun _ => ey)) 22 0 _ _ rfl (by decide) (by rw [if_neg (by omega)]; decide)
      rw [h6, ek, if_pos (by omega), ey]
    · refine hQ x3 y4 _ (by omega) ?_ (fun q => ?_)
      · rw [ek, if_neg (by omega)]; decide
      · rw [ek, if_neg (by omega)] at q; exfalso; omega
  | succ f ih =>
    intro k x3 y4 hk h3 hy
    have ea := d_add (k := x3) (K := k) hx h3 (by omega)
    have hb := rnn_in (P := bL B) (n := n) _ p k rfl (by omega)
    have hb2 : 97 ≤ (B (p + k)).toInt ∧ (B (p + k)).toInt ≤ 122 := of_decide_eq_true hb.1
    refine v_X12_cutsUp_70_85 (Wp.deep (g_byteAt hT ea (Wp.deep (g_isLetter (fun _ => ⟨fun z => absurd z (by decide), fun _ => ⟨fun q8 => ?_, fun q8 => ?_⟩⟩) (fun q => by rw [hb.1] at q; cases q)) (Nat.le_of_ble_eq_true rfl))) (Nat.le_of_ble_eq_true rfl))
    · refine v_X12_cutsUp_70_118 (ih (k + 1) _ _ (by omega) (d_add h3 (by decide) (by omega)) ?_)
      rw [hy, Nat.min_eq_right (by omega), Nat.min_eq_right (by omega)]
    · refine Wp.deep (g_byteAt hT ea (v_X12_appends (d := 1) ⟨fun _ => ?_, fun z => by exfalso; omega⟩)) (Nat.le_of_ble_eq_true rfl)
      refine v_X12_cutsUp_70_118 (ih (k + 1) _ _ (by omega) (d_add h3 (by decide) (by omega)) ?_)
      rw [hy, Nat.min_eq_left (by omega), Nat.min_eq_left (by omega), nm_comm]
      rfl
/-- the digits of a number -/
theorem g_208 {x1 : Int32} {p : Nat} {m : dM} {Q : dM → Prop} (hT : RX B n m) (hp : p < n) (hx : x1.toInt = p) (hL : bL B p = false) (hD : bD B p = true) (hQ : ∀ (x3 x4 x6 : Int32), x3.toInt = (rnn (bD B) n p : Nat) → x6.toInt = rk (kd B n p) → (kd B n p = 23 → x4 = dw B p (rnn (bD B) n p)) → c_X12_token_70 2 x6 x1 x4 (0 : Int64) m (fun m3 => j_X12_cutsUp_70_291 3 (x1 + x3) m3 Q)) : ∀ (f k : Nat) (x3 x4 : Int32), k + f = rnn (bD B) n p → x3.toInt = k → x4 = dw B p (min k 4) → j_X12_cutsUp_70_208 3 x1 x3 x4 m Q := by
  have h2000 := hT.2.1
  have hr := rnn_le (P := bD B) (n := n) _ p rfl
  have hng : ¬ n ≤ p := by omega
  have ek : kd B n p = if rnn (bD B) n p ≤ 4 then 23 else 25 := by
    unfold kd
    rw [if_neg hng, hL, hD]
    rfl
  intro f
  induction f with
  | zero =>
    intro k x3 x4 hk h3 hy
    have hk : rnn (bD B) n p = k := by omega
    have ea := d_add (k := x3) (K := k) hx h3 (by omega)
    have hb : bD B (p + k) = false := by
      have := rnn_end (P := bD B) (n := n) _ p rfl (by omega)
      rw [hk] at this
      rcases this with q | q
      · exact bD_out hT (by omega)
      · exact q
    refine v_X12_cutsUp_70_208 (Wp.deep (g_byteAt hT ea (Wp.deep (g_isDigit (fun q => by rw [hb] at q; cases q) (fun _ => ⟨fun _ => ⟨fun q4 => hQ _ _ _ (by omega) ?_ (fun _ => ?_), fun q4 => hQ _ _ _ (by omega) ?_ (fun q => ?_)⟩, fun z => absurd (by decide) z⟩)) (Nat.le_of_ble_eq_true rfl))) (Nat.le_of_ble_eq_true rfl))
    · rw [ek, if_pos (by omega)]; decide
    · rw [hy, hk, Nat.min_eq_left (by omega)]
    · rw [ek, if_neg (by omega)]; decide
    · rw [ek, if_neg (by omega)] at q; exfalso; omega
  | succ f ih =>
    intro k x3 x4 hk h3 hy
    have ea := d_add (k := x3) (K := k) hx h3 (by omega)
    have hb := rnn_in (P := bD B) (n := n) _ p k rfl (by omega)
    refine v_X12_cutsUp_70_208 (Wp.deep (g_byteAt hT ea (Wp.deep (g_isDigit (fun _ => ⟨fun z => absurd z (by decide), fun _ => ⟨fun q4 => ?_, fun q4 => ?_⟩⟩) (fun q => by rw [hb.1] at q; cases q)) (Nat.le_of_ble_eq_true rfl))) (Nat.le_of_ble_eq_true rfl))
    · refine v_X12_cutsUp_70_244 (ih (k + 1) _ _ (by omega) (d_add h3 (by decide) (by omega)) ?_)
      rw [hy, Nat.min_eq_right (by omega), Nat.min_eq_right (by omega)]
    · refine Wp.deep (g_byteAt hT ea ?_) (Nat.le_of_ble_eq_true rfl)
      refine v_X12_cutsUp_70_244 (ih (k + 1) _ _ (by omega) (d_add h3 (by decide) (by omega)) ?_)
      rw [hy, Nat.min_eq_left (by omega), Nat.min_eq_left (by omega)]
      rfl
theorem sk_stay {q : Nat} (h : bW B q = false) : sk B n q = q := by
  unfold sk
  rw [rnn_no h]
  rfl
theorem g_main {mb : dM} {Q : dM → Prop} (hT : RX B n mb) (hQ : ∀ m', RF mb m' → (∀ i : Nat, i ≤ 400 → lv B n i → RK B n i m') → Q m') : ∀ (f i q : Nat) (x1 : Int32) (m : dM), n - q < f → q ≤ n → x1.toInt = q → (m.1 70 10).toInt = i → i ≤ 401 → sk B n q = tP B n i → RF mb m → (∀ j : Nat, j < i → RK B n j m) → j_X12_cutsUp_70_7 3 x1 m Q := by
  have h2000 := hT.2.1
  intro f
  induction f with
  | zero => intro i q x1 m hf; omega
  | succ f ih =>
    intro i q x1 m hf hq hx hi hi2 hsk hF hd
    have hTm : RX B n m := hT.of (hF.1 72 (by decide) (by decide) (by decide) (by decide)) (hF.2.1 4 (by decide))
    have h4 := hTm.1
    refine v_X12_cutsUp_70_7 ⟨fun _ => hQ m hF (fun j hj _ => hd j (by omega)), fun h400 => Wp.deep (g_byteAt hTm hx ⟨fun hlt => ?_, fun hge => ?_⟩) (Nat.le_of_ble_eq_true rfl)⟩
    · have hqn : q < n := by omega
      have blank : bW B q = true → j_X12_cutsUp_70_67 3 x1 m Q := fun hb => by
        refine v_X12_cutsUp_70_67 (v_X12_cutsUp_70_291 (ih i (q + 1) _ m (by omega) (by omega) (d_add hx (by decide) (by omega)) hi hi2 ?_ hF hd))
        rw [← hsk]
        unfold sk
        rw [rnn_yes hqn hb]
        omega
      unfold bW at blank
      refine ⟨fun z => blank (decide_eq_true (by omega)), fun z1 => ⟨fun z => blank (decide_eq_true (by omega)), fun z2 => ⟨fun z => blank (decide_eq_true (by omega)), fun z3 => ⟨fun z4 => ?_, fun z => blank (decide_eq_true (by omega))⟩⟩⟩⟩
      have hnb : bW B q = false := by unfold bW; exact decide_eq_false (by omega)
      have ep : tP B n i = q := by rw [← hsk]; exact sk_stay hnb
      have hng : ¬ n ≤ q := by omega
      have next : ∀ (q' : Nat) (x' : Int32) (m' : dM), en B n q = q' → x'.toInt = q' → RF mb m' → (m'.1 70 10).toInt = ((i + 1 : Nat) : Int) → (∀ j : Nat, j < i + 1 → RK B n j m') → j_X12_cutsUp_70_291 3 x' m' Q := fun q' x' m' he hx' hF' hi' hd' => by
        have hen := en_le (B := B) (n := n) (p := q) (by omega)
        refine v_X12_cutsUp_70_291 (ih (i + 1) q' x' m' (by omega) (by omega) hx' hi' (by omega) ?_ hF' hd')
        show sk B n q' = sk B n (en B n (tP B n i))
        rw [ep, he]
      refine Wp.deep (g_isLetter (fun hL => ⟨fun z => absurd z (by decide), fun _ => ?_⟩) (fun hL => ⟨fun _ => ?_, fun z => absurd (by decide) z⟩)) (Nat.le_of_ble_eq_true rfl)
      · refine g_85 hTm hqn hx hL (fun x3 y4 x6 h3 h6 hy => ?_) _ 0 _ _ (Nat.zero_add _) (by decide) rfl
        have hr := rnn_le (P := bL B) (n := n) _ q rfl
        have eV : tV B n i = nm B q (rnn (bL B) n q) := by
          unfold tV
          rw [ep, hL]
          rfl
        refine v_X12_cutsUp_70_179 (Wp.deep (g_token hF hi (by omega) (by unfold tK; rw [ep]; exact h6) (by rw [ep]; exact hx) (fun z => ?_) (fun z => ?_) hd (fun m' hF' hi' hd' => ?_)) (Nat.le_of_ble_eq_true rfl))
        · exfalso
          unfold tK kd at z
          rw [ep, if_neg hng, hL] at z
          have := wk_le (nm B q (rnn (bL B) n q))
          simp only [cond_true] at z
          split at z <;> omega
        · rw [eV]
          exact hy (by unfold tK at z; rw [ep] at z; exact z)
        · refine next (q + rnn (bL B) n q) _ m' ?_ (d_add hx h3 (by omega)) hF' hi' hd'
          unfold en
          rw [if_neg hng, hL]
          rfl
      · refine Wp.deep (g_isDigit (fun hD => ⟨fun z => absurd z (by decide), fun _ => ?_⟩) (fun hD => ⟨fun _ => ?_, fun z => absurd (by decide) z⟩)) (Nat.le_of_ble_eq_true rfl)
        · refine g_208 hTm hqn hx hL hD (fun x3 x4 x6 h3 h6 hy => ?_) _ 0 _ _ (Nat.zero_add _) (by decide) rfl
          have hr := rnn_le (P := bD B) (n := n) _ q rfl
          have eV : tV B n i = dv B q (rnn (bD B) n q) := by
            unfold tV
            rw [ep, hL]
            rfl
          refine Wp.deep (g_token hF hi (by omega) (by unfold tK; rw [ep]; exact h6) (by rw [ep]; exact hx) (fun z => ?_) (fun z => ?_) hd (fun m' hF' hi' hd' => ?_)) (Nat.le_of_ble_eq_true rfl)
          · rw [eV, dw_eq]
            exact hy (by unfold tK at z; rw [ep] at z; exact z)
          · exfalso
            unfold tK kd at z
            rw [ep, if_neg hng, hL, hD] at z
            simp only [cond_true, cond_false] at z
            split at z <;> omega
          · refine next (q + rnn (bD B) n q) _ m' ?_ (d_add hx h3 (by omega)) hF' hi' hd'
            unfold en
            rw [if_neg hng, hL, hD]
            rfl
        · refine Wp.deep (g_byteAt hTm (d_add hx (k := 1) (K := 1) (by decide) (by omega)) ?_) (Nat.le_of_ble_eq_true rfl)
          refine g_sign hF hi (by omega) ?_ (by rw [ep]; exact hx) hd (fun m' hF' hi' hd' => ?_)
          · unfold tK kd
            rw [ep, if_neg hng, hL, hD]
            rfl
          · refine next (q + 1) _ m' ?_ (d_add hx (by decide) (by omega)) hF' hi' hd'
            unfold en
            rw [if_neg hng, hL, hD]
            rfl
    · have eq : q = n := by omega
      have ep : tP B n i = n := by
        rw [← hsk]
        unfold sk
        rw [rnn_ge (by omega)]
        omega
      have eK : tK B n i = 24 := kd_end (by omega)
      refine Wp.deep (g_token hF hi (by omega) (by rw [eK]; decide) (by rw [ep]; exact h4) (fun z => ?_) (fun z => ?_) hd (fun m' hF' hi' hd' => hQ m' hF' (fun j hj hlj => ?_))) (Nat.le_of_ble_eq_true rfl)
      · rw [eK] at z; exfalso; omega
      · rw [eK] at z; exfalso; omega
      · by_cases e : j ≤ i
        · exact hd' j (by omega)
        · exact absurd eK (hlj i (by omega)).1
theorem g_cutsUp {m : dM} {Q : dM → Prop} (hT : RX B n m) (hQ : ∀ m', RF m m' → (∀ i : Nat, i ≤ 400 → lv B n i → RK B n i m') → Q m') : c_X12_cutsUp_70 3 m Q := by
  have hF : RF m (dSet m 70 10 (0 : Int32)) := ⟨fun k a _ _ _ => dSet_k a, fun j a => dSet_j a, fun _ _ => rfl⟩
  exact v_X12_cutsUp_70 (g_main hT hQ (n + 1) 0 0 _ _ (by omega) (Nat.zero_le _) (by decide) (by rw [dSet_s]; decide) (by omega) rfl hF (fun j hj => by omega))
end CUTS
