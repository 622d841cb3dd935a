/-! THE CLASS's grammar: all of a text -/
section GLE
variable {K : Nat → Int}
theorem gst_le (n : Nat) : n ≤ (gst n).2 ∧ ((gst n).1 = 0 → n < (gst n).2) := by
  unfold gst
  by_cases q : 400 ≤ n
  · rw [if_pos q]; exact ⟨Nat.le_refl _, fun z => absurd z (by first | decide | exact Nat.succ_ne_zero _)⟩
  · rw [if_neg q]; exact ⟨Nat.le_succ _, fun _ => Nat.lt_succ_self _⟩
theorem gnd_le (k : Int) (n : Nat) : n ≤ (gnd K k n).2 := by
  unfold gnd
  by_cases q : K n = k
  · rw [if_pos q]; exact (gst_le n).1
  · rw [if_neg q]; exact Nat.le_refl _
theorem gE_le (n : Nat) : n ≤ (gE K n).2 := by
  by_cases q : n ≤ 400
  · exact (gX_ok (K := K) (b := 0) _ 0 false n rfl q).1.1
  · unfold gE gX
    rw [show 401 - n = 0 by omega]
    exact Nat.le_refl _
theorem rb_le {n : Nat} {r : gR} {k : Nat → gR} (h : n ≤ r.2) (hk : ∀ n', n ≤ n' → n ≤ (k n').2) : n ≤ (rb r k).2 := by
  by_cases q : r.1 = 0
  · rw [rb_k q]; exact hk _ h
  · rw [rb_f q]; exact h
theorem gsq_le : ∀ (ks : List Int) (n : Nat), n ≤ (gsq K ks n).2
  | [], n => Nat.le_refl _
  | k :: ks, n => rb_le (gnd_le k n) (fun n' h => Nat.le_trans h (gsq_le ks n'))
theorem gIf_le : ∀ (r n : Nat), n ≤ (gIf K r n).2
  | 0, n => by
    unfold gIf
    by_cases q : K n = 10
    · rw [if_pos q]; exact Nat.le_refl _
    · rw [if_neg q]; exact rb_le (gE_le n) (fun n' h => Nat.le_trans h (gnd_le 59 n'))
  | r + 1, n => by
    unfold gIf
    by_cases q : K n = 10
    · rw [if_pos q]
      exact rb_le (gst_le n).1 (fun a ha => rb_le (Nat.le_trans ha (gE_le a)) (fun b hb => rb_le (Nat.le_trans hb (gnd_le 60 b)) (fun c hc => rb_le (Nat.le_trans hc (gE_le c)) (fun d hd => rb_le (Nat.le_trans hd (gnd_le 11 d)) (fun e he => rb_le (Nat.le_trans he (gE_le e)) (fun f hf => rb_le (Nat.le_trans hf (gnd_le 12 f)) (fun g hg => Nat.le_trans hg (gIf_le r g))))))))
    · rw [if_neg q]; exact rb_le (gE_le n) (fun n' h => Nat.le_trans h (gnd_le 59 n'))
theorem rb_lt {n : Nat} {k : Nat → gR} (hk : ∀ n', n' ≤ (k n').2) (h : (rb (gst n) k).1 = 0) : n < (rb (gst n) k).2 := by
  by_cases q : (gst n).1 = 0
  · rw [rb_k q]
    exact Nat.lt_of_lt_of_le ((gst_le n).2 q) (hk _)
  · rw [rb_f q] at h; exact absurd h q
theorem gLaw_lt {n : Nat} (h : (gLaw K n).1 = 0) : n < (gLaw K n).2 := by
  unfold gLaw at h ⊢
  exact rb_lt (fun a => rb_le (gnd_le 61 a) (fun b hb => Nat.le_trans hb (gIf_le 4 b))) h
/-- a TELL that is right goes on -/
theorem gTell_lt {cf cw cu n : Nat} (h : (gTell K cf cw cu n).1 = 0) : n < (gTell K cf cw cu n).2 := by
  generalize hg : gTell K cf cw cu n = g at h ⊢
  unfold gTell at hg
  split at hg
  · split at hg
    · subst hg; exact absurd h (Nat.succ_ne_zero _)
    · subst hg; exact rb_lt (gsq_le _) h
  · split at hg
    · split at hg
      · subst hg; exact absurd h (Nat.succ_ne_zero _)
      · subst hg; exact rb_lt (gsq_le _) h
    · split at hg
      · split at hg
        · subst hg; exact absurd h (Nat.succ_ne_zero _)
        · subst hg; exact rb_lt (gsq_le _) h
      · split at hg
        · subst hg; exact gLaw_lt h
        · split at hg
          · subst hg; exact rb_lt (gsq_le _) h
          · split at hg
            · subst hg; exact rb_lt (gsq_le _) h
            · subst hg; exact absurd h (Nat.succ_ne_zero _)
end GLE
def OF (mb m : dM) : Prop := (∀ k : Nat, (k < 29 ∨ k = 31 ∨ (36 < k ∧ k ≠ 43)) → m.1 k = mb.1 k) ∧ m.2.1 = mb.2.1 ∧ m.2.2 = mb.2.2
def GT (K : Nat → Int) (mb m : dM) (cf cw cu : Nat) (r : gR) : Prop := OF mb m ∧ GL m ∧ ((m.1 43 2).toInt = (r.2 : Int) ∧ (m.1 43 3).toInt = (r.1 : Int)) ∧ (r.2 ≤ 400 ∧ lvK K r.2) ∧ (m.1 43 4).toInt = (cf : Int) ∧ (m.1 43 5).toInt = (cw : Int) ∧ (m.1 43 6).toInt = (cu : Int)
section CCH
variable {K : Nat → Int} {mb : dM}
theorem GT.km {m : dM} {cf cw cu : Nat} {r : gR} (h : GT K mb m cf cw cu r) (hK : KM K mb) : KM K m := fun i h1 h2 => by
  rw [h.1.1 39 (by omega)]
  exact hK i h1 h2
theorem GT.go {m : dM} {cf cw cu : Nat} {r : gR} (h : GT K mb m cf cw cu r) : GO K m m r := ⟨⟨fun _ _ => rfl, fun _ _ _ => rfl, rfl, rfl⟩, h.2.1, h.2.2.1, h.2.2.2.1.1, h.2.2.2.1.2⟩
/-- a count up, and what is checked then -/
theorem GT.up {m m' : dM} {cf cw cu cf' cw' cu' : Nat} {r r' : gR} (h : GT K mb m cf cw cu r) {M : dM} (hM : ∀ k : Nat, k ≠ 43 → M.1 k = m.1 k) (hM2 : M.2 = m.2) (h' : GO K M m' r') (e4 : (M.1 43 4).toInt = (cf' : Int)) (e5 : (M.1 43 5).toInt = (cw' : Int)) (e6 : (M.1 43 6).toInt = (cu' : Int)) : GT K mb m' cf' cw' cu' r' := by
  obtain ⟨⟨a1, a2, a3⟩, b, c, d, e⟩ := h
  obtain ⟨⟨f1, f2, f3, f4⟩, g1, g2, g3, g4⟩ := h'
  refine ⟨⟨fun k hk => ?_, ?_, ?_⟩, g1, g2, ⟨g3, g4⟩, ?_, ?_, ?_⟩
  · rw [f1 k hk, hM k (by omega)]; exact a1 k hk
  · rw [f3, hM2]; exact a2
  · rw [f4, hM2]; exact a3
  · rw [f2 4 (by decide) (by decide)]; exact e4
  · rw [f2 5 (by decide) (by decide)]; exact e5
  · rw [f2 6 (by decide) (by decide)]; exact e6
theorem k_told {x1 : Int32} {n cf cw cu : Nat} {m : dM} {Q : dM → Prop} (hK : KM K mb) (h : GT K mb m cf cw cu (0, n)) (hx : x1.toInt = K n) (hk : K n ≠ 24) (hc : cf ≤ 400 ∧ cw ≤ 400 ∧ cu ≤ 400) (hQ : ∀ m' : dM, GT K mb m' (cf + ct (K n) 0) (cw + ct (K n) 1) (cu + ct (K n) 2) (gTell K cf cw cu n) → Q m') : c_X2_checkTold_43 28 x1 m Q := by
  have hKm := h.km hK
  have hg := h.go
  obtain ⟨e4, e5, e6⟩ := h.2.2.2.2
  have cnt : ∀ (j : Nat) (v : Int32), j = 4 ∨ j = 5 ∨ j = 6 → GO K (dSet m 43 j v) (dSet m 43 j v) (0, n) ∧ KM K (dSet m 43 j v) := fun j v hj => by
    refine ⟨⟨⟨fun _ _ => rfl, fun _ _ _ => rfl, rfl, rfl⟩, h.2.1.set43, ?_, hg.2.2.2.1, hg.2.2.2.2⟩, fun i a b => ?_⟩
    · rw [dSet_j (by omega), dSet_j (by omega)]; exact hg.2.2.1
    · rw [dSet_k (by decide)]; exact hKm i a b
  have fin : ∀ (m' : dM), GT K mb m' (cf + ct (K n) 0) (cw + ct (K n) 1) (cu + ct (K n) 2) (gTell K cf cw cu n) → j_X2_checkTold_43_165 28 m' Q := fun m' h' => v_X2_checkTold_43_165 (hQ m' h')
  have laws : 3 ≤ K n ∧ K n ≤ 6 → c_X2_checkLaw_43 27 (x1 - (3 : Int32)) m (fun r4 m4 => j_X2_checkTold_43_165 28 m4 Q) := fun q => by
    have f3 := dSubE (X := x1.toInt) (Y := 3) (x := x1) (y := (3 : Int32)) rfl (by decide) (by omega) (by omega)
    refine k_law hKm (by omega) hg (by omega) (fun v m' h' => fin m' ?_)
    have eT : gTell K cf cw cu n = gLaw K n := by
      unfold gTell
      rw [if_neg (by omega), if_neg (by omega), if_neg (by omega), if_pos q]
    rw [eT]
    unfold ct
    rw [if_neg (by omega), if_neg (by omega), if_neg (by omega)]
    exact h.up (fun _ _ => rfl) rfl h' e4 e5 e6
  have rows : ∀ (b : Nat) (x2 : Int32), x2.toInt = b → b ≤ 3 → 3 ≤ K n → K n ≠ 25 → gTell K cf cw cu n = rb (gst n) (gsq K (List.replicate 0 22 ++ (List.replicate b 23 ++ [59]))) → c_X2_checkRow_43 27 (0 : Int32) x2 m (fun m8 => j_X2_checkTold_43_165 28 m8 Q) := fun b x2 h2 hb hk3 hk25 eT => by
    refine Wp.deep (k_row hKm hg ⟨hk, hk25⟩ (a := 0) (b := b) (by decide) h2 (by decide) hb (fun m' h' => fin m' ?_)) (Nat.le_of_ble_eq_true rfl)
    rw [eT]
    unfold ct
    rw [if_neg (by omega), if_neg (by omega), if_neg (by omega)]
    exact h.up (fun _ _ => rfl) rfl h' e4 e5 e6
  refine v_X2_checkTold_43 ⟨fun q => ?_, fun q => ?_, fun q => ?_, fun q => laws (by omega), fun q => laws (by omega), fun q => laws (by omega), fun q => laws (by omega), fun q => ?_, fun q => ?_, fun q => ?_, fun q => ?_⟩
  · have f := d_add (k := 1) (K := 1) e4 (by decide) (by omega)
    have g := cnt 4 (m.1 43 4 + 1) (Or.inl rfl)
    refine Wp.deep (k_counted g.2 g.1 (by omega) (c := cf) (most := 7) (a := 1) (b := 1) f (by decide) (by decide) (by decide) (by decide) (by decide) (fun m' h' => fin m' ?_)) (Nat.le_of_ble_eq_true rfl)
    have eT : gTell K cf cw cu n = if 7 ≤ cf then (2, n) else rb (gst n) (gsq K [22, 23, 59]) := by
      unfold gTell
      rw [if_pos (by omega)]
    rw [eT]
    unfold ct
    rw [if_pos (by omega), if_neg (by omega), if_neg (by omega)]
    exact h.up (fun k a => dSet_k a) rfl h' (by rw [dSet_s]; exact f) (by rw [dSet_j (by decide)]; exact e5) (by rw [dSet_j (by decide)]; exact e6)
  · have f := d_add (k := 1) (K := 1) e5 (by decide) (by omega)
    have g := cnt 5 (m.1 43 5 + 1) (Or.inr (Or.inl rfl))
    refine Wp.deep (k_counted g.2 g.1 (by omega) (c := cw) (most := 10) (a := 2) (b := 1) f (by decide) (by decide) (by decide) (by decide) (by decide) (fun m' h' => fin m' ?_)) (Nat.le_of_ble_eq_true rfl)
    have eT : gTell K cf cw cu n = if 10 ≤ cw then (2, n) else rb (gst n) (gsq K [22, 22, 23, 59]) := by
      unfold gTell
      rw [if_neg (by omega), if_pos (by omega)]
    rw [eT]
    unfold ct
    rw [if_neg (by omega), if_pos (by omega), if_neg (by omega)]
    exact h.up (fun k a => dSet_k a) rfl h' (by rw [dSet_j (by decide)]; exact e4) (by rw [dSet_s]; exact f) (by rw [dSet_j (by decide)]; exact e6)
  · have f := d_add (k := 1) (K := 1) e6 (by decide) (by omega)
    have g := cnt 6 (m.1 43 6 + 1) (Or.inr (Or.inr rfl))
    refine Wp.deep (k_counted g.2 g.1 (by omega) (c := cu) (most := 8) (a := 2) (b := 3) f (by decide) (by decide) (by decide) (by decide) (by decide) (fun m' h' => fin m' ?_)) (Nat.le_of_ble_eq_true rfl)
    have eT : gTell K cf cw cu n = if 8 ≤ cu then (2, n) else rb (gst n) (gsq K [22, 22, 23, 23, 23, 59]) := by
      unfold gTell
      rw [if_neg (by omega), if_neg (by omega), if_pos (by omega)]
    rw [eT]
    unfold ct
    rw [if_neg (by omega), if_neg (by omega), if_pos (by omega)]
    exact h.up (fun k a => dSet_k a) rfl h' (by rw [dSet_j (by decide)]; exact e4) (by rw [dSet_j (by decide)]; exact e5) (by rw [dSet_s]; exact f)
  · refine rows 2 _ (by decide) (by decide) (by omega) (by omega) ?_
    unfold gTell
    rw [if_neg (by omega), if_neg (by omega), if_neg (by omega), if_neg (by omega), if_pos (by omega)]
    rfl
  · refine rows 1 _ (by decide) (by decide) (by omega) (by omega) ?_
    unfold gTell
    rw [if_neg (by omega), if_neg (by omega), if_neg (by omega), if_neg (by omega), if_neg (by omega), if_pos (by omega)]
    rfl
  · refine rows 1 _ (by decide) (by decide) (by omega) (by omega) ?_
    unfold gTell
    rw [if_neg (by omega), if_neg (by omega), if_neg (by omega), if_neg (by omega), if_neg (by omega), if_pos (by omega)]
    rfl
  · refine fin _ ?_
    have eT : gTell K cf cw cu n = (1, n) := by
      unfold gTell
      rw [if_neg (by omega), if_neg (by omega), if_neg (by omega), if_neg (by omega), if_neg (by omega), if_neg (by omega)]
    rw [eT]
    unfold ct
    rw [if_neg (by omega), if_neg (by omega), if_neg (by omega)]
    exact h.up (M := m) (fun _ _ => rfl) rfl (hg.set3 (by decide)) e4 e5 e6
theorem k_check {m : dM} {Q : Int32 → dM → Prop} (hK : KM K m) (hL : GL m) (hQ : ∀ (r : Int32) (m' : dM), OF m m' → GL m' → r.toInt = ((gAll K 401 0 0 0 0).1 : Int) → (m'.1 43 2).toInt = ((gAll K 401 0 0 0 0).2 : Int) → (m'.1 43 3).toInt = ((gAll K 401 0 0 0 0).1 : Int) → ((gAll K 401 0 0 0 0).2 ≤ 400 ∧ lvK K (gAll K 401 0 0 0 0).2) → Q r m') : c_X2_check_43 29 m Q := by
  generalize hR : gAll K 401 0 0 0 0 = R at hQ
  have fin : ∀ (m' : dM) (cf cw cu : Nat), GT K m m' cf cw cu R → j_X2_check_43_64 29 m' Q := fun m' cf cw cu h => v_X2_check_43_64 (hQ _ _ h.1 h.2.1 h.2.2.1.2 h.2.2.1.1 h.2.2.1.2 h.2.2.2.1)
  have loop : ∀ (f i cf cw cu : Nat) (g : gR) (x1 : Int32) (m' : dM), i + f = 401 → x1.toInt = i → (g.1 = 0 → i ≤ g.2) → (cf ≤ i ∧ cw ≤ i ∧ cu ≤ i) → GT K m m' cf cw cu g → rb g (fun n => gAll K f cf cw cu n) = R → j_X2_check_43_27 29 x1 m' Q := by
    intro f
    induction f with
    | zero =>
      intro i cf cw cu g x1 m' hi hx hg hc h e
      refine v_X2_check_43_27 ⟨fun _ => fin m' cf cw cu ?_, fun q => by exfalso; omega⟩
      by_cases z : g.1 = 0
      · have := hg z
        have := h.2.2.2.1.1
        exfalso; omega
      · rw [rb_f z] at e
        rw [← e]; exact h
    | succ f ih =>
      intro i cf cw cu g x1 m' hi hx hg hc h e
      refine v_X2_check_43_27 ⟨fun q => by exfalso; omega, fun _ => ⟨fun z => fin m' cf cw cu ?_, fun z => ?_⟩⟩
      · have e3 := h.2.2.1.2
        rw [rb_f (by omega)] at e
        rw [← e]; exact h
      · have e3 := h.2.2.1.2
        have z : g.1 = 0 := by omega
        have hgi := hg z
        rw [rb_k z] at e
        obtain ⟨g1, n⟩ := g
        have z : g1 = 0 := z
        subst z
        have hgi : i ≤ n := hgi
        have hn : n ≤ 400 := h.2.2.2.1.1
        have hKm := h.km hK
        have e : gAll K (f + 1) cf cw cu n = R := e
        unfold gAll at e
        refine Wp.deep (k_kind hKm h.go (fun r hr => ⟨fun q => fin m' cf cw cu ?_, fun q => Wp.deep (k_kind hKm h.go (fun r2 hr2 => ?_)) (Nat.le_of_ble_eq_true rfl)⟩)) (Nat.le_of_ble_eq_true rfl)
        · rw [if_pos (by omega)] at e
          rw [← e]; exact h
        · rw [if_neg (by omega)] at e
          refine k_told hK h hr2 (by omega) (by omega) (fun m2 h2 => ih (i + 1) _ _ _ _ _ m2 (by omega) (d_add hx (by decide) (by omega)) (fun z => ?_) ?_ h2 e)
          · have := gTell_lt z
            omega
          · unfold ct
            split <;> split <;> split <;> omega
  refine v_X2_check_43 (loop 401 0 0 0 0 (0, 0) _ _ rfl (by decide) (fun _ => Nat.le_refl _) (by decide) ?_ hR)
  refine ⟨⟨fun k hk => ?_, rfl, rfl⟩, GL.set43 (GL.set43 (GL.set43 (GL.set43 (GL.set43 hL)))), ⟨rfl, rfl⟩, ⟨by decide, fun j hj => by exact absurd hj (Nat.not_lt_zero j)⟩, rfl, rfl, rfl⟩
  rw [dSet_k (by omega), dSet_k (by omega), dSet_k (by omega), dSet_k (by omega), dSet_k (by omega)]
end CCH
