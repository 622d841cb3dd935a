/-! THE CLASS's grammar with its laws: all of a text -/
section CRX
variable {K : Nat → Int} {mb : dM}
theorem kk_row {a b : Nat} {x1 x2 : Int32} {n : Nat} {m : dM} {Q : dM → Prop} (hK : KM K mb) (h : GO K mb m (0, n)) (hk : K n ≠ 24 ∧ K n ≠ 25) (h1 : x1.toInt = a) (h2 : x2.toInt = b) (ha : a ≤ 3) (hb : b ≤ 3) (hQ : ∀ m' : dM, GO K mb m' (rb (gst n) (gsq K (List.replicate a 22 ++ (List.replicate b 23 ++ [59])))) → (∀ k : Nat, k ≠ 43 → m'.1 k = m.1 k) → Q m') : c_X2_checkRow_43 3 x1 x2 m Q := by
  generalize hR : rb (gst n) (gsq K (List.replicate a 22 ++ (List.replicate b 23 ++ [59]))) = R at hQ
  have l57 : ∀ (x3 : Int32) (m' : dM) (g : gR), GO K mb m' g → (∀ k : Nat, k ≠ 43 → m'.1 k = m.1 k) → RT x3 g → rb g (gsq K [59]) = R → j_X2_checkRow_43_57 3 x3 m' Q := by
    intro x3 m' g h' hF hr e
    refine v_X2_checkRow_43_57 ⟨fun z => v_X2_checkRow_43_68 (hQ _ ?_ hF), fun z => ?_⟩
    · rw [rb_f (hr.z z)] at e
      rw [← e]; exact h'
    · have z := hr.nz z
      rw [rb_k z] at e
      obtain ⟨g1, g2⟩ := g
      have z : g1 = 0 := z
      subst z
      refine kk_need hK h' (k := 59) (by decide) (by decide) (fun r m2 h2 hr2 hf2 => v_X2_checkRow_43_68 (hQ _ ?_ (fun k hk => (hf2 k hk).trans (hF k hk))))
      have e : rb (gnd K 59 g2) (fun n => (0, n)) = R := e
      by_cases q : (gnd K 59 g2).1 = 0
      · rw [rb_k q] at e
        rw [← e, ← q]; exact h2
      · rw [rb_f q] at e
        rw [← e]; exact h2
  have l34 : ∀ (f i : Nat) (x3 x4 : Int32) (m' : dM) (g : gR), i + f = b → x4.toInt = i → GO K mb m' g → (∀ k : Nat, k ≠ 43 → m'.1 k = m.1 k) → RT x3 g → rb g (gsq K (List.replicate f 23 ++ [59])) = R → j_X2_checkRow_43_34 3 x2 x3 x4 m' Q := by
    intro f
    induction f with
    | zero =>
      intro i x3 x4 m' g hi h4 h' hF hr e
      exact v_X2_checkRow_43_34 ⟨fun _ => l57 x3 m' g h' hF hr e, fun q => by exfalso; omega⟩
    | succ f ih =>
      intro i x3 x4 m' g hi h4 h' hF hr e
      refine v_X2_checkRow_43_34 ⟨fun q => by exfalso; omega, fun _ => ⟨fun z => l57 x3 m' g h' hF hr ?_, fun z => ?_⟩⟩
      · rw [rb_f (hr.z z)] at e ⊢
        exact e
      · have z := hr.nz z
        rw [rb_k z] at e
        obtain ⟨g1, g2⟩ := g
        have z : g1 = 0 := z
        subst z
        exact kk_need hK h' (k := 23) (by decide) (by decide) (fun r m2 h2 hr2 hf2 => ih (i + 1) r _ m2 (gnd K 23 g2) (by omega) (d_add h4 (by decide) (by omega)) h2 (fun k hk => (hf2 k hk).trans (hF k hk)) hr2 e)
  have l8 : ∀ (f i : Nat) (x3 x4 : Int32) (m' : dM) (g : gR), i + f = a → x4.toInt = i → GO K mb m' g → (∀ k : Nat, k ≠ 43 → m'.1 k = m.1 k) → RT x3 g → rb g (gsq K (List.replicate f 22 ++ (List.replicate b 23 ++ [59]))) = R → j_X2_checkRow_43_8 3 x1 x2 x3 x4 m' Q := by
    intro f
    induction f with
    | zero =>
      intro i x3 x4 m' g hi h4 h' hF hr e
      exact v_X2_checkRow_43_8 ⟨fun _ => v_X2_checkRow_43_31 (l34 b 0 x3 _ m' g (by omega) (by decide) h' hF hr e), fun q => by exfalso; omega⟩
    | succ f ih =>
      intro i x3 x4 m' g hi h4 h' hF hr e
      refine v_X2_checkRow_43_8 ⟨fun q => by exfalso; omega, fun _ => ⟨fun z => v_X2_checkRow_43_31 (l34 b 0 x3 _ m' g (by omega) (by decide) h' hF hr ?_), fun z => ?_⟩⟩
      · rw [rb_f (hr.z z)] at e ⊢
        exact e
      · have z := hr.nz z
        rw [rb_k z] at e
        obtain ⟨g1, g2⟩ := g
        have z : g1 = 0 := z
        subst z
        exact kk_need hK h' (k := 22) (by decide) (by decide) (fun r m2 h2 hr2 hf2 => ih (i + 1) r _ m2 (gnd K 22 g2) (by omega) (d_add h4 (by decide) (by omega)) h2 (fun k hk => (hf2 k hk).trans (hF k hk)) hr2 e)
  exact v_X2_checkRow_43 (Wp.deep (kk_step h hk (fun r m1 h1' hr hf1 => l8 a 0 r _ m1 (gst n) (by omega) (by decide) h1' hf1 hr hR)) (Nat.le_of_ble_eq_true rfl))
theorem kk_counted {a b c most : Nat} {x1 x2 x3 x4 : Int32} {n : Nat} {m : dM} {Q : dM → Prop} (hK : KM K mb) (h : GO K mb m (0, n)) (hk : K n ≠ 24 ∧ K n ≠ 25) (h1 : x1.toInt = ((c + 1 : Nat) : Int)) (h2 : x2.toInt = most) (h3 : x3.toInt = a) (h4 : x4.toInt = b) (ha : a ≤ 3) (hb : b ≤ 3) (hQ : ∀ m' : dM, GO K mb m' (if most ≤ c then (2, n) else rb (gst n) (gsq K (List.replicate a 22 ++ (List.replicate b 23 ++ [59])))) → (∀ k : Nat, k ≠ 43 → m'.1 k = m.1 k) → Q m') : c_X2_checkCounted_43 4 x1 x2 x3 x4 m Q := by
  refine v_X2_checkCounted_43 ⟨fun q => kk_row hK h hk h3 h4 ha hb (fun m' h' hf => v_X2_checkCounted_43_20 (hQ _ ?_ hf)), fun q => v_X2_checkCounted_43_20 (hQ _ ?_ (fun k hk => dSet_k hk))⟩
  · rw [if_neg (by omega)]; exact h'
  · rw [if_pos (by omega)]; exact h.set3 (by decide)
end CRX
section LTL
/-- codes from a on, in all that was put -/
def SGL (L : lC) (a : Nat) (p : lC) : Prop := a + p.length ≤ L.length ∧ ∀ j : Nat, j < p.length → L.getD (a + j) 0 = p.getD j 0
theorem SGL.app {L x : lC} {a : Nat} {p : lC} (h : SGL L a p) : SGL (L ++ x) a p := by
  refine ⟨by rw [List.length_append]; have := h.1; omega, fun j hj => ?_⟩
  rw [List.getD_eq_getElem?_getD, List.getElem?_append_left (by have := h.1; omega), ← List.getD_eq_getElem?_getD]
  exact h.2 j hj
def LDL (m : dM) (L : lC) (k : Nat) (D : lD) : Prop := (m.1 36 k).toInt = ((3 * D.1 + 1 : Nat) : Int) ∧ lOk D ∧ ∀ i : Nat, i ≤ 3 * D.1 → ∃ a : Nat, (m.1 (32 + k) i).toInt = (a : Int) ∧ (m.1 (32 + k) (i + 1)).toInt = ((a + (D.2 i).length : Nat) : Int) ∧ SGL L a (D.2 i)
theorem LDL.of {m m' : dM} {L x : lC} {k : Nat} {D : lD} (h : LDL m L k D) (e : m'.1 (32 + k) = m.1 (32 + k)) (e' : m'.1 36 k = m.1 36 k) : LDL m' (L ++ x) k D := by
  obtain ⟨a, b, c⟩ := h
  refine ⟨by rw [e']; exact a, b, fun i hi => ?_⟩
  obtain ⟨y, y1, y2, y3⟩ := c i hi
  exact ⟨y, by rw [e]; exact y1, by rw [e]; exact y2, y3.app⟩
theorem flat_at {p : List lC} {i : Nat} (h : i < p.length) : p.flatten = (p.take i).flatten ++ (p.getD i [] ++ (p.drop (i + 1)).flatten) := by
  have e : p = p.take i ++ (p.getD i [] :: p.drop (i + 1)) := by
    rw [List.getD_eq_getElem?_getD, List.getElem?_eq_getElem h, Option.getD_some, ← List.drop_eq_getElem_cons h, List.take_append_drop]
  have := congrArg List.flatten e
  rw [List.flatten_append, List.flatten_cons] at this
  exact this
theorem take_at {p : List lC} {i : Nat} (h : i < p.length) : (p.take (i + 1)).flatten.length = (p.take i).flatten.length + (p.getD i []).length := by
  rw [List.take_add_one, List.flatten_append, List.length_append, List.getD_eq_getElem?_getD, List.getElem?_eq_getElem h]
  simp
/-- a law that has come out right lies as it must -/
theorem LE.ldl {m0 m' : dM} {k q : Nat} {L : lC} {g : gR} {p : List lC} (h : LE m0 L.length k [] L g p m') (z : g.1 = 0) (hq : q ≤ 4) (hp : p.length = 3 * q + 1) (hw : ∀ (i : Nat) (c : lC), p[i]? = some c → wfL c 0) : LDL m' (L ++ p.flatten) k (lDf p) := by
  obtain ⟨h1, ⟨h2, h3, h4⟩, h5, h6, h7⟩ := h z
  have e0 : (lDf p).1 = q := by show (p.length - 1) / 3 = q; omega
  unfold LDL
  rw [e0]
  refine ⟨by rw [h2]; show ((p.length : Nat) : Int) = _; rw [hp], ⟨by rw [e0]; exact hq, fun i hi => ?_⟩, fun i hi => ?_⟩
  · rw [e0] at hi
    have hi' : i < p.length := by omega
    refine hw i _ ?_
    show p[i]? = some (p.getD i [])
    rw [List.getD_eq_getElem?_getD, List.getElem?_eq_getElem hi']
    rfl
  · have hi' : i < p.length := by omega
    have f := flat_at hi'
    refine ⟨L.length + (p.take i).flatten.length, h4 i (by show i ≤ p.length; omega), ?_, ?_, fun j hj => ?_⟩
    · have := h4 (i + 1) (by show i + 1 ≤ p.length; omega)
      rw [this]
      show ((L.length + (p.take (i + 1)).flatten.length : Nat) : Int) = _
      rw [take_at hi']
      show ((L.length + ((p.take i).flatten.length + (p.getD i []).length) : Nat) : Int) = ((L.length + (p.take i).flatten.length + (p.getD i []).length : Nat) : Int)
      omega
    · show L.length + (p.take i).flatten.length + (p.getD i []).length ≤ _
      rw [List.length_append, f, List.length_append, List.length_append]
      omega
    · have hj : j < (p.getD i []).length := hj
      show (L ++ p.flatten).getD (L.length + (p.take i).flatten.length + j) 0 = (p.getD i []).getD j 0
      rw [f, List.getD_eq_getElem?_getD, List.getElem?_append_right (by omega), show L.length + (p.take i).flatten.length + j - L.length = (p.take i).flatten.length + j by omega, List.getElem?_append_right (by omega), show (p.take i).flatten.length + j - (p.take i).flatten.length = j by omega, List.getElem?_append_left hj, ← List.getD_eq_getElem?_getD]
def LT (m : dM) (n : Nat) (Ds : Nat → lD) : Prop := ∃ L : lC, LG m L ∧ L.length ≤ 6 + n ∧ ∀ k : Nat, k < 4 → LDL m L k (Ds k)
theorem LT.of {m m' : dM} {n n' : Nat} {Ds : Nat → lD} (h : LT m n Ds) (e : ∀ k : Nat, 29 ≤ k → k ≤ 36 → m'.1 k = m.1 k) (hn : n ≤ n') : LT m' n' Ds := by
  obtain ⟨L, h1, h2, h3⟩ := h
  refine ⟨L, h1.of (e 29 (by omega) (by omega)) (e 30 (by omega) (by omega)), by omega, fun k hk => ?_⟩
  have := (h3 k hk).of (x := []) (m' := m') (e (32 + k) (by omega) (by omega)) (by rw [e 36 (by omega) (by omega)])
  rw [List.append_nil] at this
  exact this
end LTL
section LAT
variable (K : Nat → Int) (V : Nat → Int64)
/-- the laws behind a TELL; behind all -/
def lTl (n : Nat) (Ds : Nat → lD) : Nat → lD := fun j => if (3 ≤ K n ∧ K n ≤ 6) ∧ (j : Int) = K n - 3 then lDf (lawP K V n) else Ds j
def lAll : Nat → Nat → Nat → Nat → Nat → (Nat → lD) → (Nat → lD)
  | 0, _, _, _, _, Ds => Ds
  | f + 1, cf, cw, cu, n, Ds => if K n = 24 then Ds else lAll f (cf + ct (K n) 0) (cw + ct (K n) 1) (cu + ct (K n) 2) (gTell K cf cw cu n).2 (lTl K V n Ds)
end LAT
section CCK
variable {K : Nat → Int} {V : Nat → Int64} {mb : dM}
theorem GT.vm {m : dM} {cf cw cu : Nat} {r : gR} (h : GT K mb m cf cw cu r) (hV : VM K V mb) : VM K V m := hV.of (h.1.1 39 (by omega)) (by rw [h.1.2.1])
theorem kk_told {x1 : Int32} {n cf cw cu : Nat} {m : dM} {Ds : Nat → lD} {Q : dM → Prop} (hVM : VM K V mb) (hV9 : ∀ n : Nat, K n = 23 → 0 ≤ (V n).toInt32.toInt ∧ (V n).toInt32.toInt ≤ 9999) (h : GT K mb m cf cw cu (0, n)) (hT : LT m n Ds) (hx : x1.toInt = K n) (hk : K n ≠ 24) (hc : cf ≤ 400 ∧ cw ≤ 400 ∧ cu ≤ 400) (hQ : ∀ m' : dM, GT K mb m' (cf + ct (K n) 0) (cw + ct (K n) 1) (cu + ct (K n) 2) (gTell K cf cw cu n) → ((gTell K cf cw cu n).1 = 0 → LT m' (gTell K cf cw cu n).2 (lTl K V n Ds)) → Q m') : c_X2_checkTold_43 28 x1 m Q := by
  have hVm := h.vm hVM
  have hKm : KM K m := fun i a b => (hVm i a b).1
  have hg := h.go
  obtain ⟨e4, e5, e6⟩ := h.2.2.2.2
  have n400 : n ≤ 400 := h.2.2.2.1.1
  have noLaw : ∀ m' : dM, ¬ (3 ≤ K n ∧ K n ≤ 6) → (∀ k : Nat, k ≠ 43 → m'.1 k = m.1 k) → (gTell K cf cw cu n).1 = 0 → LT m' (gTell K cf cw cu n).2 (lTl K V n Ds) := fun m' hn hf z => by
    have e : lTl K V n Ds = Ds := funext fun j => by unfold lTl; rw [if_neg (fun q => hn q.1)]
    rw [e]
    have := gTell_lt z
    exact hT.of (fun k a b => hf k (by omega)) (by omega)
  have cnt : ∀ (j : Nat) (v : Int32), j = 4 ∨ j = 5 ∨ j = 6 → GO K (dSet m 43 j v) (dSet m 43 j v) (0, n) ∧ KM K (dSet m 43 j v) := fun j v hj => by
    refine ⟨⟨⟨fun _ _ => rfl, fun _ _ _ => rfl, rfl, rfl⟩, h.2.1.set43, ?_, hg.2.2.2.1, hg.2.2.2.2⟩, fun i a b => ?_⟩
    · rw [dSet_j (by omega), dSet_j (by omega)]; exact hg.2.2.1
    · rw [dSet_k (by decide)]; exact hKm i a b
  have fin : ∀ (m' : dM), GT K mb m' (cf + ct (K n) 0) (cw + ct (K n) 1) (cu + ct (K n) 2) (gTell K cf cw cu n) → ((gTell K cf cw cu n).1 = 0 → LT m' (gTell K cf cw cu n).2 (lTl K V n Ds)) → j_X2_checkTold_43_165 28 m' Q := fun m' h' ht => v_X2_checkTold_43_165 (hQ m' h' ht)
  have laws : 3 ≤ K n ∧ K n ≤ 6 → c_X2_checkLaw_43 27 (x1 - (3 : Int32)) m (fun r4 m4 => j_X2_checkTold_43_165 28 m4 Q) := fun q => by
    have f3 := dSubE (X := x1.toInt) (Y := 3) (x := x1) (y := (3 : Int32)) rfl (by decide) (by omega) (by omega)
    obtain ⟨L, l1, l2, l3⟩ := hT
    obtain ⟨k, hk'⟩ : ∃ k : Nat, K n - 3 = (k : Int) := ⟨(K n - 3).toNat, by omega⟩
    have eT : gTell K cf cw cu n = gLaw K n := by
      unfold gTell
      rw [if_neg (by omega), if_neg (by omega), if_neg (by omega), if_pos q]
    refine kk_law (k := k) hVm (by omega) (by omega) hg (by omega) l1 l2 (fun v m' h' he => fin m' ?_ (fun z => ?_))
    · rw [eT]
      unfold ct
      rw [if_neg (by omega), if_neg (by omega), if_neg (by omega)]
      exact h.up (fun _ _ => rfl) rfl h' e4 e5 e6
    · rw [eT] at z ⊢
      have zi : (gIf K 4 (n + 2)).1 = 0 ∧ n + 2 ≤ 400 := by
        unfold gLaw at z
        obtain ⟨a1, a2⟩ := rb_z z
        rw [a2] at z
        obtain ⟨s1, s2⟩ := gst_z a1
        rw [s1] at z
        have z : (rb (gnd K 61 (n + 1)) (gIf K 4)).1 = 0 := z
        obtain ⟨b1', b2'⟩ := rb_z z
        rw [b2'] at z
        obtain ⟨k1, k2, k3⟩ := gnd_z rfl b1'
        rw [k1] at z
        exact ⟨z, by omega⟩
      obtain ⟨⟨q', q1, q2⟩, w⟩ := lIf_ok hV9 4 (n + 2) zi.2 zi.1
      have ld := he.ldl z q1 q2 w
      obtain ⟨x1', x2', x3', x4', x5'⟩ := he z
      refine ⟨L ++ (lawP K V n).flatten, x1', x5', fun j hj => ?_⟩
      unfold lTl
      by_cases e : (j : Int) = K n - 3
      · rw [if_pos ⟨q, e⟩]
        have : j = k := by omega
        subst this
        exact ld
      · rw [if_neg (fun y => e y.2)]
        have := x3' j hj (fun y => e (by omega))
        exact (l3 j hj).of this.1 this.2
  have rows : ∀ (b : Nat) (x2 : Int32), x2.toInt = b → b ≤ 3 → 7 ≤ K n → K n ≠ 25 → gTell K cf cw cu n = rb (gst n) (gsq K (List.replicate 0 22 ++ (List.replicate b 23 ++ [59]))) → c_X2_checkRow_43 27 (0 : Int32) x2 m (fun m8 => j_X2_checkTold_43_165 28 m8 Q) := fun b x2 h2 hb hk3 hk25 eT => by
    refine Wp.deep (kk_row hKm hg ⟨hk, hk25⟩ (a := 0) (b := b) (by decide) h2 (by decide) hb (fun m' h' hf => fin m' ?_ (noLaw m' (by omega) hf))) (Nat.le_of_ble_eq_true rfl)
    rw [eT]
    unfold ct
    rw [if_neg (by omega), if_neg (by omega), if_neg (by omega)]
    exact h.up (fun _ _ => rfl) rfl h' e4 e5 e6
  refine v_X2_checkTold_43 ⟨fun q => ?_, fun q => ?_, fun q => ?_, fun q => laws (by omega), fun q => laws (by omega), fun q => laws (by omega), fun q => laws (by omega), fun q => ?_, fun q => ?_, fun q => ?_, fun q => ?_⟩
  · have f := d_add (k := 1) (K := 1) e4 (by decide) (by omega)
    have g := cnt 4 (m.1 43 4 + 1) (Or.inl rfl)
    refine Wp.deep (kk_counted g.2 g.1 (by omega) (c := cf) (most := 7) (a := 1) (b := 1) f (by decide) (by decide) (by decide) (by decide) (by decide) (fun m' h' hf => fin m' ?_ (noLaw m' (by omega) (fun k hk => by rw [hf k hk, dSet_k hk])))) (Nat.le_of_ble_eq_true rfl)
    have eT : gTell K cf cw cu n = if 7 ≤ cf then (2, n) else rb (gst n) (gsq K [22, 23, 59]) := by
      unfold gTell
      rw [if_pos (by omega)]
    rw [eT]
    unfold ct
    rw [if_pos (by omega), if_neg (by omega), if_neg (by omega)]
    exact h.up (fun k a => dSet_k a) rfl h' (by rw [dSet_s]; exact f) (by rw [dSet_j (by decide)]; exact e5) (by rw [dSet_j (by decide)]; exact e6)
  · have f := d_add (k := 1) (K := 1) e5 (by decide) (by omega)
    have g := cnt 5 (m.1 43 5 + 1) (Or.inr (Or.inl rfl))
    refine Wp.deep (kk_counted g.2 g.1 (by omega) (c := cw) (most := 10) (a := 2) (b := 1) f (by decide) (by decide) (by decide) (by decide) (by decide) (fun m' h' hf => fin m' ?_ (noLaw m' (by omega) (fun k hk => by rw [hf k hk, dSet_k hk])))) (Nat.le_of_ble_eq_true rfl)
    have eT : gTell K cf cw cu n = if 10 ≤ cw then (2, n) else rb (gst n) (gsq K [22, 22, 23, 59]) := by
      unfold gTell
      rw [if_neg (by omega), if_pos (by omega)]
    rw [eT]
    unfold ct
    rw [if_neg (by omega), if_pos (by omega), if_neg (by omega)]
    exact h.up (fun k a => dSet_k a) rfl h' (by rw [dSet_j (by decide)]; exact e4) (by rw [dSet_s]; exact f) (by rw [dSet_j (by decide)]; exact e6)
  · have f := d_add (k := 1) (K := 1) e6 (by decide) (by omega)
    have g := cnt 6 (m.1 43 6 + 1) (Or.inr (Or.inr rfl))
    refine Wp.deep (kk_counted g.2 g.1 (by omega) (c := cu) (most := 8) (a := 2) (b := 3) f (by decide) (by decide) (by decide) (by decide) (by decide) (fun m' h' hf => fin m' ?_ (noLaw m' (by omega) (fun k hk => by rw [hf k hk, dSet_k hk])))) (Nat.le_of_ble_eq_true rfl)
    have eT : gTell K cf cw cu n = if 8 ≤ cu then (2, n) else rb (gst n) (gsq K [22, 22, 23, 23, 23, 59]) := by
      unfold gTell
      rw [if_neg (by omega), if_neg (by omega), if_pos (by omega)]
    rw [eT]
    unfold ct
    rw [if_neg (by omega), if_neg (by omega), if_pos (by omega)]
    exact h.up (fun k a => dSet_k a) rfl h' (by rw [dSet_j (by decide)]; exact e4) (by rw [dSet_j (by decide)]; exact e5) (by rw [dSet_s]; exact f)
  · refine rows 2 _ (by decide) (by decide) (by omega) (by omega) ?_
    unfold gTell
    rw [if_neg (by omega), if_neg (by omega), if_neg (by omega), if_neg (by omega), if_pos (by omega)]
    rfl
  · refine rows 1 _ (by decide) (by decide) (by omega) (by omega) ?_
    unfold gTell
    rw [if_neg (by omega), if_neg (by omega), if_neg (by omega), if_neg (by omega), if_neg (by omega), if_pos (by omega)]
    rfl
  · refine rows 1 _ (by decide) (by decide) (by omega) (by omega) ?_
    unfold gTell
    rw [if_neg (by omega), if_neg (by omega), if_neg (by omega), if_neg (by omega), if_neg (by omega), if_pos (by omega)]
    rfl
  · have eT : gTell K cf cw cu n = (1, n) := by
      unfold gTell
      rw [if_neg (by omega), if_neg (by omega), if_neg (by omega), if_neg (by omega), if_neg (by omega), if_neg (by omega)]
    refine fin _ ?_ (fun z => ?_)
    · rw [eT]
      unfold ct
      rw [if_neg (by omega), if_neg (by omega), if_neg (by omega)]
      exact h.up (M := m) (fun _ _ => rfl) rfl (hg.set3 (by decide)) e4 e5 e6
    · rw [eT] at z; exact absurd z (Nat.succ_ne_zero 0)
theorem kk_check {m : dM} {Ds : Nat → lD} {Q : Int32 → dM → Prop} (hVM : VM K V m) (hV9 : ∀ n : Nat, K n = 23 → 0 ≤ (V n).toInt32.toInt ∧ (V n).toInt32.toInt ≤ 9999) (hL : GL m) (hT : LT m 0 Ds) (hQ : ∀ (r : Int32) (m' : dM), OF m m' → GL m' → r.toInt = ((gAll K 401 0 0 0 0).1 : Int) → (m'.1 43 2).toInt = ((gAll K 401 0 0 0 0).2 : Int) → (m'.1 43 3).toInt = ((gAll K 401 0 0 0 0).1 : Int) → ((gAll K 401 0 0 0 0).2 ≤ 400 ∧ lvK K (gAll K 401 0 0 0 0).2) → ((gAll K 401 0 0 0 0).1 = 0 → LT m' 400 (lAll K V 401 0 0 0 0 Ds)) → Q r m') : c_X2_check_43 29 m Q := by
  have hK : KM K m := fun i a b => (hVM i a b).1
  generalize hR : gAll K 401 0 0 0 0 = R at hQ
  generalize hRL : lAll K V 401 0 0 0 0 Ds = RL' at hQ
  have fin : ∀ (m' : dM) (cf cw cu : Nat), GT K m m' cf cw cu R → (R.1 = 0 → LT m' 400 RL') → j_X2_check_43_64 29 m' Q := fun m' cf cw cu h ht => v_X2_check_43_64 (hQ _ _ h.1 h.2.1 h.2.2.1.2 h.2.2.1.1 h.2.2.1.2 h.2.2.2.1 ht)
  have loop : ∀ (f i cf cw cu : Nat) (g : gR) (x1 : Int32) (m' : dM) (D : Nat → lD), i + f = 401 → x1.toInt = i → (g.1 = 0 → i ≤ g.2) → (cf ≤ i ∧ cw ≤ i ∧ cu ≤ i) → GT K m m' cf cw cu g → (g.1 = 0 → LT m' g.2 D ∧ lAll K V f cf cw cu g.2 D = RL') → rb g (fun n => gAll K f cf cw cu n) = R → j_X2_check_43_27 29 x1 m' Q := by
    intro f
    induction f with
    | zero =>
      intro i cf cw cu g x1 m' D hi hx hg hc h hD e
      by_cases z : g.1 = 0
      · have := hg z
        have := h.2.2.2.1.1
        exfalso; omega
      · rw [rb_f z] at e
        refine v_X2_check_43_27 ⟨fun _ => fin m' cf cw cu ?_ (fun q => ?_), fun q => by exfalso; omega⟩
        · rw [← e]; exact h
        · rw [← e] at q; exact absurd q z
    | succ f ih =>
      intro i cf cw cu g x1 m' D hi hx hg hc h hD e
      refine v_X2_check_43_27 ⟨fun q => by exfalso; omega, fun _ => ⟨fun z => fin m' cf cw cu ?_ (fun q => ?_), fun z => ?_⟩⟩
      · have e3 := h.2.2.1.2
        rw [rb_f (by omega)] at e
        rw [← e]; exact h
      · have e3 := h.2.2.1.2
        rw [rb_f (by omega)] at e
        rw [← e] at q
        exfalso; omega
      · have e3 := h.2.2.1.2
        have z : g.1 = 0 := by omega
        have hgi := hg z
        obtain ⟨hT', hA⟩ := hD z
        rw [rb_k z] at e
        obtain ⟨g1, n⟩ := g
        have z : g1 = 0 := z
        subst z
        have hgi : i ≤ n := hgi
        have hn : n ≤ 400 := h.2.2.2.1.1
        have hT' : LT m' n D := hT'
        have hA : lAll K V (f + 1) cf cw cu n D = RL' := hA
        have hKm := h.km hK
        have e : gAll K (f + 1) cf cw cu n = R := e
        unfold gAll at e
        unfold lAll at hA
        refine Wp.deep (k_kind hKm h.go (fun r hr => ⟨fun q => fin m' cf cw cu ?_ (fun _ => ?_), fun q => Wp.deep (k_kind hKm h.go (fun r2 hr2 => ?_)) (Nat.le_of_ble_eq_true rfl)⟩)) (Nat.le_of_ble_eq_true rfl)
        · rw [if_pos (by omega)] at e
          rw [← e]; exact h
        · rw [if_pos (by omega)] at hA
          rw [← hA]; exact hT'.of (fun _ _ _ => rfl) hn
        · rw [if_neg (by omega)] at e hA
          refine kk_told hVM hV9 h hT' hr2 (by omega) (by omega) (fun m2 h2 ht2 => ih (i + 1) _ _ _ _ _ m2 _ (by omega) (d_add hx (by decide) (by omega)) (fun z => ?_) ?_ h2 (fun z => ⟨ht2 z, hA⟩) e)
          · have := gTell_lt z
            omega
          · unfold ct
            split <;> split <;> split <;> omega
  refine v_X2_check_43 (loop 401 0 0 0 0 (0, 0) _ _ Ds rfl (by decide) (fun _ => Nat.le_refl _) (by decide) ?_ (fun _ => ⟨hT.of (fun k a b => by rw [dSet_k (by omega), dSet_k (by omega), dSet_k (by omega), dSet_k (by omega), dSet_k (by omega)]) (Nat.le_refl _), hRL⟩) hR)
  refine ⟨⟨fun k hk => ?_, rfl, rfl⟩, GL.set43 (GL.set43 (GL.set43 (GL.set43 (GL.set43 hL)))), ⟨rfl, rfl⟩, ⟨by decide, fun j hj => by exact absurd hj (Nat.not_lt_zero j)⟩, rfl, rfl, rfl⟩
  rw [dSet_k (by omega), dSet_k (by omega), dSet_k (by omega), dSet_k (by omega), dSet_k (by omega)]
end CCK
