/-! THE CODES of an expression, as a function of its tokens -/
def opc (w : Int) : Int32 := if w = 43 then 0 else if w = 45 then 1 else if w = 42 then 2 else 3
def vcd (k : Int) : Int32 := Int32.ofInt (k - 9)
/-- what waits comes out, until a ( or (st) until a + or - -/
def fl (st : Bool) : List Int → lC → List Int × lC
  | [], o => ([], o)
  | w :: W, o => if w = 40 ∨ (st = true ∧ (w = 43 ∨ w = 45)) then (w :: W, o) else fl st W (o ++ [opc w])
section COD
variable (K : Nat → Int) (V : Nat → Int64)
def sX : Nat → Nat → Bool → Nat → List Int → lC → lC
  | 0, _, _, _, _, o => o
  | f + 1, d, false, n, W, o => if K n = 23 then sX f d true (n + 1) W (o ++ [13 + (V n).toInt32]) else if 13 ≤ K n ∧ K n ≤ 21 then sX f d true (n + 1) W (o ++ [vcd (K n)]) else if K n = 40 then sX f (d + 1) false (n + 1) (40 :: W) o else o
  | f + 1, d, true, n, W, o => if K n = 42 ∨ K n = 47 then sX f d false (n + 1) (K n :: (fl true W o).1) (fl true W o).2 else if K n = 43 ∨ K n = 45 then sX f d false (n + 1) (K n :: (fl false W o).1) (fl false W o).2 else if 0 < d ∧ K n = 41 then sX f (d - 1) true (n + 1) (fl false W o).1.tail (fl false W o).2 else (fl false W o).2
def sY (d : Nat) (ph : Bool) (n : Nat) (W : List Int) (o : lC) : lC := sX K V (401 - n) d ph n W o
/-- an expression's codes -/
def cE (n : Nat) : lC := sY K V 0 false n [] []
end COD
section COL
variable {K : Nat → Int} {V : Nat → Int64}
theorem sY_U {d n : Nat} {W : List Int} {o : lC} (hn : n ≤ 400) : sY K V d false n W o = if K n = 23 then sY K V d true (n + 1) W (o ++ [13 + (V n).toInt32]) else if 13 ≤ K n ∧ K n ≤ 21 then sY K V d true (n + 1) W (o ++ [vcd (K n)]) else if K n = 40 then sY K V (d + 1) false (n + 1) (40 :: W) o else o := by
  unfold sY
  rw [show 401 - n = (401 - (n + 1)) + 1 by omega]
  rfl
theorem sY_O {d n : Nat} {W : List Int} {o : lC} (hn : n ≤ 400) : sY K V d true n W o = if K n = 42 ∨ K n = 47 then sY K V d false (n + 1) (K n :: (fl true W o).1) (fl true W o).2 else if K n = 43 ∨ K n = 45 then sY K V d false (n + 1) (K n :: (fl false W o).1) (fl false W o).2 else if 0 < d ∧ K n = 41 then sY K V (d - 1) true (n + 1) (fl false W o).1.tail (fl false W o).2 else (fl false W o).2 := by
  unfold sY
  rw [show 401 - n = (401 - (n + 1)) + 1 by omega]
  rfl
theorem fl_w {st : Bool} {w : Int} {W : List Int} {o : lC} (h : ¬ (w = 40 ∨ (st = true ∧ (w = 43 ∨ w = 45)))) : fl st (w :: W) o = fl st W (o ++ [opc w]) := by
  show (if w = 40 ∨ (st = true ∧ (w = 43 ∨ w = 45)) then (w :: W, o) else fl st W (o ++ [opc w])) = _
  rw [if_neg h]
theorem fl_s {st : Bool} {w : Int} {W : List Int} {o : lC} (h : w = 40 ∨ (st = true ∧ (w = 43 ∨ w = 45))) : fl st (w :: W) o = (w :: W, o) := by
  show (if w = 40 ∨ (st = true ∧ (w = 43 ∨ w = 45)) then (w :: W, o) else fl st W (o ++ [opc w])) = _
  rw [if_pos h]
/-- a * or / that waits may come out at once; a + or - too, where no * or / follows -/
theorem sY_strong {d n : Nat} {w : Int} {W : List Int} {o : lC} (hn : n ≤ 400) (hw : w = 42 ∨ w = 47) : sY K V d true n (w :: W) o = sY K V d true n W (o ++ [opc w]) := by
  rw [sY_O hn, sY_O hn, fl_w (st := true) (by omega), fl_w (st := false) (by omega)]
theorem sY_weak {d n : Nat} {w : Int} {W : List Int} {o : lC} (hn : n ≤ 400) (hw : w = 43 ∨ w = 45) (hk : K n ≠ 42 ∧ K n ≠ 47) : sY K V d true n (w :: W) o = sY K V d true n W (o ++ [opc w]) := by
  have h40 : ¬ (w = 40 ∨ (false = true ∧ (w = 43 ∨ w = 45))) := fun q => by
    rcases q with q | q
    · omega
    · cases q.1
  have h1 : ¬ (K n = 42 ∨ K n = 47) := by omega
  rw [sY_O hn, sY_O hn, if_neg h1, fl_w h40]
  rw [if_neg h1]
/-- what came out ahead stays ahead -/
theorem fl_pre {st : Bool} {p : lC} : ∀ (W : List Int) (o : lC), fl st W (p ++ o) = ((fl st W o).1, p ++ (fl st W o).2)
  | [], o => rfl
  | w :: W, o => by
    by_cases h : w = 40 ∨ (st = true ∧ (w = 43 ∨ w = 45))
    · rw [fl_s h, fl_s h]
    · rw [fl_w h, fl_w h, List.append_assoc, fl_pre W (o ++ [opc w])]
theorem sX_pre {p : lC} : ∀ (f d : Nat) (ph : Bool) (n : Nat) (W : List Int) (o : lC), sX K V f d ph n W (p ++ o) = p ++ sX K V f d ph n W o
  | 0, d, ph, n, W, o => rfl
  | f + 1, d, false, n, W, o => by
    unfold sX
    by_cases h1 : K n = 23
    · rw [if_pos h1, if_pos h1, List.append_assoc]; exact sX_pre f _ _ _ _ _
    · rw [if_neg h1, if_neg h1]
      by_cases h2 : 13 ≤ K n ∧ K n ≤ 21
      · rw [if_pos h2, if_pos h2, List.append_assoc]; exact sX_pre f _ _ _ _ _
      · rw [if_neg h2, if_neg h2]
        by_cases h3 : K n = 40
        · rw [if_pos h3, if_pos h3]; exact sX_pre f _ _ _ _ _
        · rw [if_neg h3, if_neg h3]
  | f + 1, d, true, n, W, o => by
    unfold sX
    rw [fl_pre, fl_pre]
    by_cases h1 : K n = 42 ∨ K n = 47
    · rw [if_pos h1, if_pos h1]; exact sX_pre f _ _ _ _ _
    · rw [if_neg h1, if_neg h1]
      by_cases h2 : K n = 43 ∨ K n = 45
      · rw [if_pos h2, if_pos h2]; exact sX_pre f _ _ _ _ _
      · rw [if_neg h2, if_neg h2]
        by_cases h3 : 0 < d ∧ K n = 41
        · rw [if_pos h3, if_pos h3]; exact sX_pre f _ _ _ _ _
        · rw [if_neg h3, if_neg h3]
theorem cE_pre {n : Nat} {p : lC} : sY K V 0 false n [] p = p ++ cE K V n := by
  have := sX_pre (K := K) (V := V) (p := p) (401 - n) 0 false n [] []
  rw [List.append_nil] at this
  exact this
/-- right so far, with h that wait -/
def imp (o : lC) (h : Nat) : Prop := ∀ L : lC, wfL L h → wfL (o ++ L) 0
theorem imp_0 : imp [] 0 := fun L h => h
theorem imp_v {o : lC} {h : Nat} {c : Int32} (hi : imp o h) (hc : 4 ≤ c.toInt) (hh : h + 1 ≤ 31) : imp (o ++ [c]) (h + 1) := fun L hL => by
  rw [List.append_assoc]
  exact hi _ ⟨by omega, fun _ => ⟨hh, hL⟩, fun q => by omega⟩
theorem imp_o {o : lC} {h : Nat} {w : Int} (hi : imp o (h + 2)) : imp (o ++ [opc w]) (h + 1) := fun L hL => by
  rw [List.append_assoc]
  have b : 0 ≤ (opc w).toInt ∧ (opc w).toInt < 4 := by
    unfold opc
    split
    · decide
    · split
      · decide
      · split <;> decide
  exact hi _ ⟨b.1, fun q => by omega, fun _ => ⟨by omega, hL⟩⟩
theorem imp_end {o : lC} (hi : imp o 1) : wfL o 0 := by
  have := hi [] rfl
  rw [List.append_nil] at this
  exact this
/-- how many wait; how many are open; the rank of the last that waits -/
def pW : List Int → Nat
  | [] => 0
  | w :: W => if w = 40 then pW W else pW W + 1
def qW : List Int → Nat
  | [] => 0
  | w :: W => if w = 40 then qW W + 1 else qW W
def rkW : List Int → Nat
  | [] => 0
  | w :: _ => if w = 40 then 0 else if w = 43 ∨ w = 45 then 1 else 2
def wOk : List Int → Prop
  | [] => True
  | w :: W => wOk W ∧ (w = 40 ∨ ((w = 43 ∨ w = 45) ∧ rkW W = 0) ∨ ((w = 42 ∨ w = 47) ∧ rkW W ≤ 1))
theorem pW_le : ∀ (W : List Int), wOk W → pW W ≤ 2 * qW W + rkW W
  | [], _ => Nat.le_refl _
  | w :: W, h => by
    have ih := pW_le W h.1
    have r2 : rkW W ≤ 2 := by
      cases W with
      | nil => exact Nat.zero_le _
      | cons a b => show (if a = 40 then 0 else if a = 43 ∨ a = 45 then 1 else 2) ≤ 2; split <;> (try split) <;> omega
    have e1 : pW (w :: W) = if w = 40 then pW W else pW W + 1 := rfl
    have e2 : qW (w :: W) = if w = 40 then qW W + 1 else qW W := rfl
    have e3 : rkW (w :: W) = if w = 40 then 0 else if w = 43 ∨ w = 45 then 1 else 2 := rfl
    rw [e1, e2, e3]
    rcases h.2 with q | ⟨q, r⟩ | ⟨q, r⟩
    · rw [if_pos q, if_pos q, if_pos q]; omega
    · have n40 : ¬ w = 40 := by omega
      rw [if_neg n40, if_neg n40, if_neg n40, if_pos q]; omega
    · have n40 : ¬ w = 40 := by omega
      rw [if_neg n40, if_neg n40, if_neg n40, if_neg (by omega)]; omega
theorem fl_ok {st : Bool} : ∀ (W : List Int) (o : lC), wOk W → imp o (pW W + 1) → imp (fl st W o).2 (pW (fl st W o).1 + 1) ∧ wOk (fl st W o).1 ∧ qW (fl st W o).1 = qW W ∧ rkW (fl st W o).1 ≤ (if st = true then 1 else 0)
  | [], o, h, hi => ⟨hi, trivial, rfl, Nat.zero_le _⟩
  | w :: W, o, h, hi => by
    by_cases q : w = 40 ∨ (st = true ∧ (w = 43 ∨ w = 45))
    · rw [fl_s q]
      refine ⟨hi, h, rfl, ?_⟩
      show (if w = 40 then 0 else if w = 43 ∨ w = 45 then 1 else 2) ≤ _
      rcases q with q | ⟨q1, q2⟩
      · rw [if_pos q]; exact Nat.zero_le _
      · have n40 : ¬ w = 40 := by omega
        rw [if_neg n40, if_pos q2, if_pos q1]; exact Nat.le_refl _
    · rw [fl_w q]
      have n40 : w ≠ 40 := fun e => q (Or.inl e)
      have e1 : pW (w :: W) = pW W + 1 := by show (if w = 40 then pW W else pW W + 1) = _; rw [if_neg n40]
      have e2 : qW (w :: W) = qW W := by show (if w = 40 then qW W + 1 else qW W) = _; rw [if_neg n40]
      rw [e1] at hi
      rw [e2]
      exact fl_ok W _ h.1 (imp_o hi)
theorem rk0 {W : List Int} (h : rkW W = 0) : W = [] ∨ ∃ W', W = 40 :: W' := by
  cases W with
  | nil => exact Or.inl rfl
  | cons w W' =>
    right
    refine ⟨W', ?_⟩
    have h : (if w = 40 then 0 else if w = 43 ∨ w = 45 then 1 else 2) = 0 := h
    by_cases q : w = 40
    · rw [q]
    · rw [if_neg q] at h
      by_cases q2 : w = 43 ∨ w = 45
      · rw [if_pos q2] at h; cases h
      · rw [if_neg q2] at h; cases h
theorem vcd_i {k : Int} (h : 13 ≤ k ∧ k ≤ 21) : (vcd k).toInt = k - 9 := by
  unfold vcd
  rw [Int32.toInt_ofInt_of_le (by omega) (by omega)]
theorem sX_wf (hV : ∀ n : Nat, K n = 23 → 0 ≤ (V n).toInt32.toInt ∧ (V n).toInt32.toInt ≤ 9999) : ∀ (f d : Nat) (ph : Bool) (n : Nat) (W : List Int) (o : lC), 401 - n = f → n ≤ 400 → wOk W → qW W = d → d ≤ 6 → imp o (pW W + cond ph 1 0) → (gX K 0 d ph n).1 = 0 → wfL (sX K V f d ph n W o) 0 := by
  intro f
  induction f with
  | zero => intro d ph n W o hf hn; omega
  | succ f ih =>
    intro d ph n W o hf hn hW hq hd hi hg
    have hp := pW_le W hW
    have r2 : rkW W ≤ 2 := by
      cases W with
      | nil => exact Nat.zero_le _
      | cons a b => show (if a = 40 then 0 else if a = 43 ∨ a = 45 then 1 else 2) ≤ 2; split <;> (try split) <;> omega
    cases ph with
    | false =>
      rw [gX_U hn] at hg
      unfold sX
      by_cases h1 : K n = 23
      · rw [if_pos (Or.inl h1)] at hg
        rw [if_pos h1]
        by_cases h4 : 400 ≤ n
        · rw [if_pos h4] at hg; exact absurd hg (Nat.succ_ne_zero 1)
        · rw [if_neg h4] at hg
          have v := hV n h1
          have c := dAddE (X := 13) (Y := (V n).toInt32.toInt) (x := (13 : Int32)) (y := (V n).toInt32) (by decide) rfl (by omega) (by omega)
          exact ih d true (n + 1) W _ (by omega) (by omega) hW hq hd (imp_v hi (by omega) (by omega)) hg
      · rw [if_neg h1]
        by_cases h2 : 13 ≤ K n ∧ K n ≤ 21
        · rw [if_pos (Or.inr h2)] at hg
          rw [if_pos h2]
          by_cases h4 : 400 ≤ n
          · rw [if_pos h4] at hg; exact absurd hg (Nat.succ_ne_zero 1)
          · rw [if_neg h4] at hg
            have c := vcd_i h2
            exact ih d true (n + 1) W _ (by omega) (by omega) hW hq hd (imp_v hi (by omega) (by omega)) hg
        · rw [if_neg (by omega)] at hg
          rw [if_neg h2]
          by_cases h3 : K n = 40
          · rw [if_pos h3] at hg ⊢
            by_cases h6 : 6 ≤ d
            · rw [if_pos h6] at hg; exact absurd hg (Nat.succ_ne_zero 1)
            · rw [if_neg h6] at hg
              by_cases h4 : 400 ≤ n
              · rw [if_pos h4] at hg; exact absurd hg (Nat.succ_ne_zero 1)
              · rw [if_neg h4] at hg
                exact ih (d + 1) false (n + 1) (40 :: W) o (by omega) (by omega) ⟨hW, Or.inl rfl⟩ (by show (if (40 : Int) = 40 then qW W + 1 else qW W) = _; rw [if_pos rfl, hq]) (by omega) (by show imp o ((if (40 : Int) = 40 then pW W else pW W + 1) + 0); rw [if_pos rfl]; exact hi) hg
          · rw [if_neg h3] at hg; exact absurd hg (Nat.succ_ne_zero 0)
    | true =>
      rw [gX_O hn] at hg
      unfold sX
      have a1 := fl_ok (st := true) W o hW hi
      have a0 := fl_ok (st := false) W o hW hi
      rw [if_pos rfl] at a1
      rw [if_neg (by decide)] at a0
      have push : ∀ (w : Int) (W1 : List Int) (o1 : lC), w ≠ 40 → wOk (w :: W1) → qW W1 = qW W → imp o1 (pW W1 + 1) → (gX K 0 d false (n + 1)).1 = 0 → n + 1 ≤ 400 → wfL (sX K V f d false (n + 1) (w :: W1) o1) 0 := fun w W1 o1 hw ho hq1 hi1 hg1 hn1 => ih d false (n + 1) (w :: W1) o1 (by omega) hn1 ho (by show (if w = 40 then qW W1 + 1 else qW W1) = d; rw [if_neg hw, hq1, hq]) hd (by show imp o1 ((if w = 40 then pW W1 else pW W1 + 1) + 0); rw [if_neg hw]; exact hi1) hg1
      by_cases h1 : K n = 42 ∨ K n = 47
      · rw [if_pos (by omega)] at hg
        rw [if_pos h1]
        by_cases h4 : 400 ≤ n
        · rw [if_pos h4] at hg; exact absurd hg (Nat.succ_ne_zero 1)
        · rw [if_neg h4] at hg
          exact push (K n) _ _ (by omega) ⟨a1.2.1, Or.inr (Or.inr ⟨h1, a1.2.2.2⟩)⟩ a1.2.2.1 a1.1 hg (by omega)
      · rw [if_neg h1]
        by_cases h2 : K n = 43 ∨ K n = 45
        · rw [if_pos (by omega)] at hg
          rw [if_pos h2]
          by_cases h4 : 400 ≤ n
          · rw [if_pos h4] at hg; exact absurd hg (Nat.succ_ne_zero 1)
          · rw [if_neg h4] at hg
            exact push (K n) _ _ (by omega) ⟨a0.2.1, Or.inr (Or.inl ⟨h2, by omega⟩)⟩ a0.2.2.1 a0.1 hg (by omega)
        · rw [if_neg (by omega)] at hg
          rw [if_neg h2]
          by_cases h3 : 0 < d
          · rw [if_pos h3] at hg
            by_cases h5 : K n = 41
            · rw [if_pos h5] at hg
              rw [if_pos ⟨h3, h5⟩]
              by_cases h4 : 400 ≤ n
              · rw [if_pos h4] at hg; exact absurd hg (Nat.succ_ne_zero 1)
              · rw [if_neg h4] at hg
                rcases rk0 (W := (fl false W o).1) (by omega) with e | ⟨W', e⟩
                · have := a0.2.2.1
                  rw [e] at this
                  have : 0 = qW W := this
                  omega
                · obtain ⟨b1', b2', b3', b4'⟩ := a0
                  rw [e] at b1' b2' b3' ⊢
                  have q1 : qW (40 :: W') = qW W' + 1 := by show (if (40 : Int) = 40 then qW W' + 1 else qW W') = _; rw [if_pos rfl]
                  have q2 : pW (40 :: W') = pW W' := by show (if (40 : Int) = 40 then pW W' else pW W' + 1) = _; rw [if_pos rfl]
                  rw [q1] at b3'
                  rw [q2] at b1'
                  exact ih (d - 1) true (n + 1) W' _ (by omega) (by omega) b2'.1 (by omega) (by omega) b1' hg
            · rw [if_neg h5] at hg; exact absurd hg (Nat.succ_ne_zero 0)
          · rw [if_neg (fun q => h3 q.1)]
            rcases rk0 (W := (fl false W o).1) (by omega) with e | ⟨W', e⟩
            · have := a0.1
              rw [e] at this
              exact imp_end this
            · have := a0.2.2.1
              rw [e] at this
              have q1 : qW (40 :: W') = qW W' + 1 := by show (if (40 : Int) = 40 then qW W' + 1 else qW W') = _; rw [if_pos rfl]
              omega
theorem cE_wf (hV : ∀ n : Nat, K n = 23 → 0 ≤ (V n).toInt32.toInt ∧ (V n).toInt32.toInt ≤ 9999) {n : Nat} (hn : n ≤ 400) (hg : (gE K n).1 = 0) : wfL (cE K V n) 0 := sX_wf hV _ 0 false n [] [] rfl hn trivial rfl (by omega) imp_0 hg
end COL
