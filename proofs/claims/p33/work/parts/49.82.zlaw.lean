/-! A LAW's worth, as a function of its codes (operands ahead of what is done with them): below 4 what is done, below 13 a variable, else an int -/
abbrev lC : Type := List Int32
def wrk (c a b : Int32) : Int32 := if c.toInt = 0 then a + b else if c.toInt = 1 then a - b else if c.toInt = 2 then a * b else a / b
def evF (v : Nat → Int32) : lC → Nat → (Nat → Int32) → Option Int32
  | [], _, st => some (st 0)
  | c :: L, t, st => if 13 ≤ c.toInt then evF v L (t + 1) (upd st t (c - 13)) else if 4 ≤ c.toInt then evF v L (t + 1) (upd st t (v (c - 4).toNatClampNeg)) else if c.toInt = 3 ∧ (st (t - 1)).toInt = 0 then none else evF v L (t - 1) (upd st (t - 2) (wrk c (st (t - 2)) (st (t - 1))))
/-- right as it stands, from so many that wait -/
def wfL : lC → Nat → Prop
  | [], h => h = 1
  | c :: L, h => 0 ≤ c.toInt ∧ (4 ≤ c.toInt → h + 1 ≤ 31 ∧ wfL L (h + 1)) ∧ (c.toInt < 4 → 2 ≤ h ∧ wfL L (h - 1))
theorem evF_congr {v : Nat → Int32} : ∀ (L : lC) (t : Nat) (a b : Nat → Int32), wfL L t → (∀ j : Nat, j < t → a j = b j) → evF v L t a = evF v L t b
  | [], t, a, b, hw, h => by
    have hw : t = 1 := hw
    show some (a 0) = some (b 0)
    rw [h 0 (by omega)]
  | c :: L, t, a, b, hw, h => by
    obtain ⟨h0, h4, h3⟩ := hw
    have up : ∀ (x : Int32) (j : Nat), j < t + 1 → upd a t x j = upd b t x j := fun x j hj => by
      unfold upd
      by_cases e : j = t
      · rw [if_pos e, if_pos e]
      · rw [if_neg e, if_neg e]; exact h j (by omega)
    unfold evF
    by_cases q : 13 ≤ c.toInt
    · rw [if_pos q, if_pos q]
      exact evF_congr L (t + 1) _ _ (h4 (by omega)).2 (up _)
    · rw [if_neg q, if_neg q]
      by_cases q4 : 4 ≤ c.toInt
      · rw [if_pos q4, if_pos q4]
        exact evF_congr L (t + 1) _ _ (h4 q4).2 (up _)
      · rw [if_neg q4, if_neg q4]
        obtain ⟨g1, g2⟩ := h3 (by omega)
        rw [h (t - 1) (by omega), h (t - 2) (by omega)]
        split
        · rfl
        · refine evF_congr L (t - 1) _ _ g2 (fun j hj => ?_)
          unfold upd
          by_cases e : j = t - 2
          · rw [if_pos e, if_pos e]
          · rw [if_neg e, if_neg e]; exact h j (by omega)
def pv (L : lC) (v : Nat → Int32) : Option Int32 := evF v L 0 (fun _ => 0)
theorem evF_0 {v : Nat → Int32} {L : lC} {a : Nat → Int32} (hw : wfL L 0) : evF v L 0 a = pv L v := evF_congr L 0 _ _ hw (fun j hj => absurd hj (Nat.not_lt_zero j))
/-- a law: its pieces, three for each if, then one; what it tells from piece p on, with r ifs left -/
def lawv (pc : Nat → lC) (v : Nat → Int32) : Nat → Nat → Int32
  | 0, p => (pv (pc p) v).getD 0
  | r + 1, p => match pv (pc p) v, pv (pc (p + 1)) v with
    | some x, some y => if x.toInt < y.toInt then (pv (pc (p + 2)) v).getD 0 else lawv pc v r (p + 3)
    | _, _ => 0
/-- the laws that stand when none is told -/
def dfl (k : Nat) : lC := if k = 0 then [4, 5, 1] else if k = 1 then [13] else if k = 2 then [5] else [9]
abbrev lD : Type := Nat × (Nat → lC)
def lW (D : lD) (v : Nat → Int32) : Int32 := lawv D.2 v D.1 0
def lOk (D : lD) : Prop := D.1 ≤ 4 ∧ ∀ i : Nat, i ≤ 3 * D.1 → wfL (D.2 i) 0
theorem evF_cv {v v' : Nat → Int32} (hv : ∀ j : Nat, j < 9 → v j = v' j) : ∀ (L : lC) (t : Nat) (a : Nat → Int32), evF v L t a = evF v' L t a
  | [], t, a => rfl
  | c :: L, t, a => by
    unfold evF
    by_cases q : 13 ≤ c.toInt
    · rw [if_pos q, if_pos q]; exact evF_cv hv L _ _
    · rw [if_neg q, if_neg q]
      by_cases q4 : 4 ≤ c.toInt
      · have f := dSubE (X := c.toInt) (Y := 4) (x := c) (y := (4 : Int32)) rfl (by decide) (by omega) (by omega)
        have g := d_cl (x := c - 4) (by omega)
        rw [if_pos q4, if_pos q4, hv _ (by omega)]
        exact evF_cv hv L _ _
      · rw [if_neg q4, if_neg q4]
        split
        · rfl
        · exact evF_cv hv L _ _
theorem lW_cv {D : lD} {v v' : Nat → Int32} (hv : ∀ j : Nat, j < 9 → v j = v' j) : lW D v = lW D v' := by
  have e : ∀ L : lC, pv L v = pv L v' := fun L => evF_cv hv L _ _
  have : ∀ (r p : Nat), lawv D.2 v r p = lawv D.2 v' r p := by
    intro r
    induction r with
    | zero => intro p; show (pv (D.2 p) v).getD 0 = (pv (D.2 p) v').getD 0; rw [e]
    | succ r ih =>
      intro p
      unfold lawv
      rw [e, e, e, ih]
  exact this _ _
