section
/-! THE REFERENCE: the ways of the flats (by hand) -/
def wN (m : dM) : Int := (m.1 82 (m.1 70 18).toNatClampNeg).toInt
def w1 (m : dM) (w : Int32) : Int32 := m.1 83 ((10 : Int32) * m.1 70 18 + w).toNatClampNeg
def w2 (m : dM) (w : Int32) : Int32 := m.1 84 ((10 : Int32) * m.1 70 18 + w).toNatClampNeg
def wO (m : dM) (w f : Int32) : Int32 := if (w1 m w).toInt = f.toInt then w2 m w else if (w2 m w).toInt = f.toInt then w1 m w else -1
def wH (m : dM) (w : Int32) : Prop := (m.1 108 ((10 : Int32) + w).toNatClampNeg).toInt = 0
def wS (m : dM) (f : Int32) : Int := (m.1 109 f.toNatClampNeg).toInt
def wG (m : dM) (f w : Int32) : Prop := wH m w ∧ 0 ≤ (wO m w f).toInt ∧ wS m (wO m w f) = wS m f - 1
def Pr (m : dM) (f : Int32) : Prop := ∃ w : Int32, (0 ≤ w.toInt ∧ w.toInt < wN m) ∧ wG m f w
def Bf (m : dM) : Prop := ∀ f : Int32, 0 ≤ f.toInt → f.toInt ≤ 6 → (wS m f = 99 ∨ wS m f = 0 ∨ (1 ≤ wS m f ∧ wS m f ≤ 6 ∧ Pr m f))
section BFS
variable {g : gM} {m : dM}
theorem b_ctx (hG : Gd g) (hI : Inv g m) : (0 ≤ (m.1 70 18).toInt ∧ (m.1 70 18).toInt ≤ 1) ∧ (0 ≤ wN m ∧ wN m ≤ 10) :=
  ⟨Inv.s hG hI (k := 70) (j := 18) rfl rfl, Inv.s hG hI (k := 82) (j := (m.1 70 18).toNatClampNeg) rfl rfl⟩
theorem b_ends {w : Int32} (hG : Gd g) (hI : Inv g m) (h1 : 0 ≤ w.toInt) (h2 : w.toInt < wN m) : (0 ≤ (w1 m w).toInt ∧ (w1 m w).toInt ≤ 6) ∧ (0 ≤ (w2 m w).toInt ∧ (w2 m w).toInt ≤ 6) :=
  ⟨Inv.one hG hI h1 h2, Inv.two hG hI h1 h2⟩
theorem b_wO6 {w f : Int32} (hG : Gd g) (hI : Inv g m) (h1 : 0 ≤ w.toInt) (h2 : w.toInt < wN m) : (wO m w f).toInt ≤ 6 := by
  have b := b_ends hG hI h1 h2
  unfold wO
  split
  · omega
  · split
    · omega
    · have := ti_m1; omega
theorem b_isWhole {x1 : Int32} {Q : Int32 → dM → Prop} (hG : Gd g) (hI : Inv g m) (h1 : 0 ≤ x1.toInt) (h2 : x1.toInt < wN m) (hq1 : wH m x1 → Q 1 m) (hq0 : ¬ wH m x1 → Q 0 m) : c_X12_isWhole_70 3 x1 m Q := by
  have c := b_ctx hG hI
  have e0 := ti_0
  have e1 := ti_1
  have c2 : (m.1 82 (m.1 70 18).toNatClampNeg).toInt = wN m := rfl
  have f := dSubE (X := wN m) (Y := 1) (x := m.1 82 (m.1 70 18).toNatClampNeg) (y := (1 : Int32)) rfl (by decide) (by omega) (by omega)
  have f2 := dAddE (X := 10) (Y := x1.toInt) (x := (10 : Int32)) (y := x1) (by decide) rfl (by omega) (by omega)
  refine v_X12_isWhole_70 ?_
  refine v_X12_isWire_70 ⟨by omega, ?_⟩
  refine v_X12_in ?_
  refine ⟨fun h => by exfalso; omega, fun _ => ⟨fun h => by exfalso; omega, fun _ => ⟨by decide, fun h => by exfalso; omega, fun _ => ⟨by omega, fun h => ?_, fun h => hq1 h⟩⟩⟩⟩
  exact v_X12_isWhole_70_24 (hq0 h)
theorem b_otherEnd {w f : Int32} {Q : Int32 → dM → Prop} (hG : Gd g) (hI : Inv g m) (h1 : 0 ≤ w.toInt) (h2 : w.toInt < wN m) (hQ : Q (wO m w f) m) : c_X12_otherEnd_70 1 w f m Q := by
  have c := b_ctx hG hI
  have fm := dMulE (X := 10) (Y := (m.1 70 18).toInt) (x := (10 : Int32)) (y := m.1 70 18) (by decide) rfl (by omega) (by omega)
  have fa := dAddE (X := 10 * (m.1 70 18).toInt) (Y := w.toInt) (x := (10 : Int32) * m.1 70 18) (y := w) fm rfl (by omega) (by omega)
  refine v_X12_otherEnd_70 ⟨by omega, fun ha => ⟨by omega, fun hb => ?_, fun hb => ⟨by omega, ?_⟩⟩, fun ha => ⟨by omega, ?_⟩⟩
  · have e : wO m w f = -1 := by
      unfold wO
      rw [if_neg (show ¬ (w1 m w).toInt = f.toInt from ha), if_neg (show ¬ (w2 m w).toInt = f.toInt from hb)]
    rw [e] at hQ
    exact hQ
  · have e : wO m w f = w1 m w := by
      unfold wO
      rw [if_neg (show ¬ (w1 m w).toInt = f.toInt from ha), if_pos (show (w2 m w).toInt = f.toInt from hb)]
    rw [e] at hQ
    exact hQ
  · have e : wO m w f = w2 m w := by
      unfold wO
      rw [if_pos (show (w1 m w).toInt = f.toInt from ha)]
    rw [e] at hQ
    exact hQ
theorem b_wireFrom_2 {f : Int32} {Q : Int32 → dM → Prop} (hG : Gd g) (hI : Inv g m) (hf : 0 ≤ f.toInt ∧ f.toInt ≤ 6) (hs : 0 ≤ wS m f ∧ wS m f ≤ 99) (hQ : ∀ w : Int32, 0 ≤ w.toInt → w.toInt < wN m → wG m f w → Q w m) : ∀ (n : Nat) (x2 : Int32), 0 ≤ x2.toInt → 10 - x2.toInt < n → (∃ w : Int32, (x2.toInt ≤ w.toInt ∧ w.toInt < wN m) ∧ wG m f w) → j_X12_wireFrom_70_2 4 f x2 m Q := by
  have c := b_ctx hG hI
  intro n
  induction n with
  | zero =>
    intro x2 h1 hn hex
    obtain ⟨w, hw, -⟩ := hex
    exfalso; omega
  | succ n ih =>
    intro x2 h1 hn hex
    refine v_X12_wireFrom_70_2 ⟨by omega, fun hc => ?_, fun hc => ?_⟩
    · obtain ⟨w, hw, -⟩ := hex
      have hc : wN m ≤ x2.toInt := hc
      exfalso; omega
    · have hc : x2.toInt < wN m := hc
      have nx : ¬ wG m f x2 → j_X12_wireFrom_70_56 4 f x2 m Q := fun hno => by
        refine v_X12_wireFrom_70_56 ?_
        have fa := dAddE (X := x2.toInt) (Y := 1) (x := x2) (y := (1 : Int32)) rfl (by decide) (by omega) (by omega)
        obtain ⟨w, hw, hg⟩ := hex
        have hne : w.toInt ≠ x2.toInt := fun e => hno (Int32.toInt_inj.mp e ▸ hg)
        exact ih _ (by omega) (by omega) ⟨w, ⟨by omega, hw.2⟩, hg⟩
      refine Wp.deep (b_isWhole hG hI h1 hc (fun hw => ⟨fun _ => ?_, fun h => absurd h (by decide)⟩) (fun hw => ⟨fun h => absurd rfl h, fun _ => nx (fun q => hw q.1)⟩)) (Nat.le_of_ble_eq_true rfl)
      refine Wp.deep (b_otherEnd hG hI h1 hc ?_) (Nat.le_of_ble_eq_true rfl)
      have b6 := b_wO6 (f := f) hG hI h1 hc
      refine ⟨fun h => nx (fun q => by have := q.2.1; omega), fun h => ⟨by omega, ⟨by omega, ?_⟩⟩⟩
      have es : (m.1 109 f.toNatClampNeg).toInt = wS m f := rfl
      have fs := dSubE (X := wS m f) (Y := 1) (x := m.1 109 f.toNatClampNeg) (y := (1 : Int32)) rfl (by decide) (by omega) (by omega)
      refine ⟨fun h3 => nx (fun q => h3 (by rw [fs]; exact q.2.2)), fun h3 => hQ x2 h1 hc ⟨hw, h, by rw [fs] at h3; exact h3⟩⟩
theorem b_wireFrom {f : Int32} {Q : Int32 → dM → Prop} (hG : Gd g) (hI : Inv g m) (hf : 0 ≤ f.toInt ∧ f.toInt ≤ 6) (hs : 0 ≤ wS m f ∧ wS m f ≤ 99) (hP : Pr m f) (hQ : ∀ w : Int32, 0 ≤ w.toInt → w.toInt < wN m → wG m f w → Q w m) : c_X12_wireFrom_70 4 f m Q := by
  refine v_X12_wireFrom_70 ?_
  obtain ⟨w, hw, hg⟩ := hP
  have e0 := ti_0
  exact b_wireFrom_2 hG hI hf hs hQ 11 _ (by decide) (by decide) ⟨w, ⟨by omega, hw.2⟩, hg⟩
theorem Bf.st (hB : Bf m) {f : Int32} (h1 : 0 ≤ f.toInt) (h2 : f.toInt ≤ 6) : 0 ≤ wS m f ∧ wS m f ≤ 99 := by
  rcases hB f h1 h2 with h | h | h <;> omega
/-- phase 3: the ways as bits -/
theorem b_ph3 {Q : dM → Prop} (hG : Gd g) (hQ : ∀ m', Inv g m' → Bf m' → Q m') : ∀ n : Nat,
    (∀ (x1 : Int32) (m : dM), Inv g m → Bf m → 1 ≤ x1.toInt ∧ x1.toInt ≤ 7 → (7 - x1.toInt) * 20 + 19 < (n : Int) → j_X12_fillsWays_70_191 6 x1 m Q) ∧
    (∀ (x1 x2 : Int32) (m : dM), Inv g m → Bf m → 1 ≤ x1.toInt ∧ x1.toInt ≤ 6 → 0 ≤ x2.toInt ∧ x2.toInt ≤ 7 → (7 - x1.toInt) * 20 + 2 * (7 - x2.toInt) + 1 < (n : Int) → j_X12_fillsWays_70_199 6 x1 x2 m Q) ∧
    (∀ (x1 x2 : Int32) (m : dM), Inv g m → Bf m → 1 ≤ x1.toInt ∧ x1.toInt ≤ 6 → 0 ≤ x2.toInt ∧ x2.toInt ≤ 6 → (7 - x1.toInt) * 20 + 2 * (7 - x2.toInt) < (n : Int) → j_X12_fillsWays_70_245 6 x1 x2 m Q) := by
  intro n
  induction n with
  | zero => exact ⟨fun x1 m hI hB h1 hμ => by exfalso; omega, fun x1 x2 m hI hB h1 h2 hμ => by exfalso; omega, fun x1 x2 m hI hB h1 h2 hμ => by exfalso; omega⟩
  | succ n ih =>
    have e0 := ti_0
    refine ⟨fun x1 m hI hB h1 hμ => ?_, fun x1 x2 m hI hB h1 h2 hμ => ?_, fun x1 x2 m hI hB h1 h2 hμ => ?_⟩
    · refine v_X12_fillsWays_70_191 ⟨fun _ => hQ _ hI hB, fun hc => ?_⟩
      exact ih.2.1 _ _ _ hI hB (by omega) (by omega) (by omega)
    · have f1 := dAddE (X := x1.toInt) (Y := 1) (x := x1) (y := (1 : Int32)) rfl (by decide) (by omega) (by omega)
      refine v_X12_fillsWays_70_199 ⟨fun _ => ih.1 _ _ hI hB (by omega) (by omega), fun hc => ⟨by omega, fun hs => ?_, fun _ => ih.2.2 _ _ _ hI hB h1 (by omega) (by omega)⟩⟩
      have hs : wS m x2 = x1.toInt := hs
      have hst := hB.st h2.1 (by omega)
      have hP : Pr m x2 := by
        rcases hB x2 h2.1 (by omega) with h | h | h
        · exfalso; omega
        · exfalso; omega
        · exact h.2.2
      refine Wp.deep (b_wireFrom hG hI (by omega) hst hP (fun w hw1 hw2 hg => ?_)) (Nat.le_of_ble_eq_true rfl)
      have b6 := b_wO6 (f := x2) hG hI hw1 hw2
      have b0 := hg.2.1
      refine Wp.deep (b_otherEnd hG hI hw1 hw2 ⟨by omega, ⟨by omega, ?_⟩⟩) (Nat.le_of_ble_eq_true rfl)
      exact ih.2.2 _ _ _ (Inv.setA hI rfl) (show Bf m from hB) h1 (by omega) (by omega)
    · have f2 := dAddE (X := x2.toInt) (Y := 1) (x := x2) (y := (1 : Int32)) rfl (by decide) (by omega) (by omega)
      refine v_X12_fillsWays_70_245 ?_
      exact ih.2.1 _ _ _ hI hB h1 (by omega) (by omega)
theorem b_nat {x y : Int32} (hx : 0 ≤ x.toInt) (hy : 0 ≤ y.toInt) (h : x.toNatClampNeg = y.toNatClampNeg) : x = y := by
  have := d_cl hx
  have := d_cl hy
  exact Int32.toInt_inj.mp (by omega)
theorem wS_set {b f v : Int32} (hb : 0 ≤ b.toInt) (hf : 0 ≤ f.toInt) : wS (dSet m 109 b.toNatClampNeg v) f = if f = b then v.toInt else wS m f := by
  unfold wS
  rw [dSet_e]
  by_cases h : f = b
  · subst h
    rw [if_pos ⟨rfl, rfl⟩, if_pos rfl]
  · rw [if_neg (fun q => h (b_nat hf hb q.2)), if_neg h]
theorem Bf.put {b n w : Int32} (hB : Bf m) (hb : 0 ≤ b.toInt ∧ b.toInt ≤ 6) (h99 : wS m b = 99) (hn : 1 ≤ n.toInt ∧ n.toInt ≤ 6) (hw : 0 ≤ w.toInt ∧ w.toInt < wN m) (hH : wH m w) (hO : 0 ≤ (wO m w b).toInt) (hs : wS m (wO m w b) = n.toInt - 1) : Bf (dSet m 109 b.toNatClampNeg n) := by
  intro f h1 h2
  rw [wS_set hb.1 h1]
  by_cases hf : f = b
  · subst hf
    rw [if_pos rfl]
    refine Or.inr (Or.inr ⟨hn.1, hn.2, w, hw, hH, hO, ?_⟩)
    show wS (dSet m 109 f.toNatClampNeg n) (wO m w f) = wS (dSet m 109 f.toNatClampNeg n) f - 1
    rw [wS_set hb.1 hO, wS_set hb.1 hb.1, if_pos rfl, if_neg (fun e => by rw [e] at hs; omega)]
    exact hs
  · rw [if_neg hf]
    rcases hB f h1 h2 with h | h | ⟨h3, h4, w', hw', hH', hO', hs'⟩
    · exact Or.inl h
    · exact Or.inr (Or.inl h)
    · refine Or.inr (Or.inr ⟨h3, h4, w', hw', hH', hO', ?_⟩)
      show wS (dSet m 109 b.toNatClampNeg n) (wO m w' f) = wS (dSet m 109 b.toNatClampNeg n) f - 1
      rw [wS_set hb.1 hO', wS_set hb.1 h1, if_neg hf, if_neg (fun e => by rw [e] at hs'; omega)]
      exact hs'
/-- phase 2: step by step -/
theorem b_ph2 {Q : dM → Prop} (hG : Gd g) (hQ : ∀ m', Inv g m' → Bf m' → Q m') : ∀ n : Nat,
    (∀ (x1 : Int32) (m : dM), Inv g m → Bf m → 1 ≤ x1.toInt ∧ x1.toInt ≤ 7 → (7 - x1.toInt) * 50 + 49 < (n : Int) → j_X12_fillsWays_70_51 6 x1 m Q) ∧
    (∀ (x1 x2 : Int32) (m : dM), Inv g m → Bf m → 1 ≤ x1.toInt ∧ x1.toInt ≤ 6 → 0 ≤ x2.toInt ∧ x2.toInt ≤ 10 → (7 - x1.toInt) * 50 + 3 * (10 - x2.toInt) + 2 < (n : Int) → j_X12_fillsWays_70_59 6 x1 x2 m Q) ∧
    (∀ (x1 x2 : Int32) (m : dM), Inv g m → Bf m → 1 ≤ x1.toInt ∧ x1.toInt ≤ 6 → 0 ≤ x2.toInt → x2.toInt < wN m → wH m x2 → (7 - x1.toInt) * 50 + 3 * (10 - x2.toInt) + 1 < (n : Int) → j_X12_fillsWays_70_146 6 x1 x2 (w1 m x2) (w2 m x2) m Q) ∧
    (∀ (x1 x2 : Int32) (m : dM), Inv g m → Bf m → 1 ≤ x1.toInt ∧ x1.toInt ≤ 6 → 0 ≤ x2.toInt ∧ x2.toInt ≤ 9 → (7 - x1.toInt) * 50 + 3 * (10 - x2.toInt) < (n : Int) → j_X12_fillsWays_70_177 6 x1 x2 m Q) := by
  intro n
  induction n with
  | zero => exact ⟨fun x1 m hI hB h1 hμ => by exfalso; omega, fun x1 x2 m hI hB h1 h2 hμ => by exfalso; omega, fun x1 x2 m hI hB h1 h2 h3 hw hμ => by have c := b_ctx hG hI; exfalso; omega, fun x1 x2 m hI hB h1 h2 hμ => by exfalso; omega⟩
  | succ n ih =>
    have e0 := ti_0
    have e1 := ti_1
    refine ⟨fun x1 m hI hB h1 hμ => ?_, fun x1 x2 m hI hB h1 h2 hμ => ?_, fun x1 x2 m hI hB h1 h2 h3 hw hμ => ?_, fun x1 x2 m hI hB h1 h2 hμ => ?_⟩
    · refine v_X12_fillsWays_70_51 ⟨fun _ => (b_ph3 hG hQ 1000).1 _ _ hI hB (by decide) (by decide), fun hc => ?_⟩
      exact ih.2.1 _ _ _ hI hB (by omega) (by omega) (by omega)
    · have c := b_ctx hG hI
      have f1 := dAddE (X := x1.toInt) (Y := 1) (x := x1) (y := (1 : Int32)) rfl (by decide) (by omega) (by omega)
      refine v_X12_fillsWays_70_59 ⟨by omega, fun _ => ih.1 _ _ hI hB (by omega) (by omega), fun hc => ?_⟩
      have hc : x2.toInt < wN m := hc
      refine Wp.deep (b_isWhole hG hI h2.1 hc (fun hw => ⟨fun _ => ?_, fun h => absurd h (by decide)⟩) (fun hw => ⟨fun h => absurd rfl h, fun _ => ih.2.2.2 _ _ _ hI hB h1 (by omega) (by omega)⟩)) (Nat.le_of_ble_eq_true rfl)
      have fm := dMulE (X := 10) (Y := (m.1 70 18).toInt) (x := (10 : Int32)) (y := m.1 70 18) (by decide) rfl (by omega) (by omega)
      have fa := dAddE (X := 10 * (m.1 70 18).toInt) (Y := x2.toInt) (x := (10 : Int32) * m.1 70 18) (y := x2) fm rfl (by omega) (by omega)
      have b := b_ends hG hI h2.1 hc
      have ea : (m.1 83 ((10 : Int32) * m.1 70 18 + x2).toNatClampNeg) = w1 m x2 := rfl
      have eb : (m.1 84 ((10 : Int32) * m.1 70 18 + x2).toNatClampNeg) = w2 m x2 := rfl
      have go := ih.2.2.1 x1 x2 m hI hB h1 h2.1 hc hw (by omega)
      have fs := dSubE (X := x1.toInt) (Y := 1) (x := x1) (y := (1 : Int32)) rfl (by decide) (by omega) (by omega)
      refine ⟨by omega, ⟨by omega, ⟨by rw [ea]; omega, fun _ => go, fun h5 => ⟨by rw [eb]; omega, fun _ => go, fun h6 => ⟨by rw [eb]; omega, ?_⟩⟩⟩⟩⟩
      have h5 : wS m (w1 m x2) = x1.toInt - 1 := by rw [fs] at h5; exact h5
      have h6 : wS m (w2 m x2) = 99 := h6
      have ne : ¬ (w1 m x2).toInt = (w2 m x2).toInt := fun e => by
        rw [Int32.toInt_inj.mp e] at h5
        omega
      have eO : wO m x2 (w2 m x2) = w1 m x2 := by
        unfold wO
        rw [if_neg ne, if_pos rfl]
      have hB' : Bf (dSet m 109 (w2 m x2).toNatClampNeg x1) := hB.put b.2 h6 h1 ⟨h2.1, hc⟩ hw (by rw [eO]; exact b.1.1) (by rw [eO]; exact h5)
      exact ih.2.2.1 x1 x2 (dSet m 109 (w2 m x2).toNatClampNeg x1) (Inv.setA hI rfl) hB' h1 h2.1 hc hw (by omega)
    · have c := b_ctx hG hI
      have b := b_ends hG hI h2 h3
      have fs := dSubE (X := x1.toInt) (Y := 1) (x := x1) (y := (1 : Int32)) rfl (by decide) (by omega) (by omega)
      have go := ih.2.2.2 x1 x2 m hI hB h1 (by omega) (by omega)
      refine v_X12_fillsWays_70_146 ⟨by omega, fun _ => go, fun h5 => ⟨by omega, fun _ => go, fun h6 => ⟨by omega, ?_⟩⟩⟩
      have h5 : wS m (w2 m x2) = x1.toInt - 1 := by rw [fs] at h5; exact h5
      have h6 : wS m (w1 m x2) = 99 := h6
      have eO : wO m x2 (w1 m x2) = w2 m x2 := by
        unfold wO
        rw [if_pos rfl]
      have hB' : Bf (dSet m 109 (w1 m x2).toNatClampNeg x1) := hB.put b.1 h6 h1 ⟨h2, h3⟩ hw (by rw [eO]; exact b.2.1) (by rw [eO]; exact h5)
      exact ih.2.2.2 x1 x2 _ (Inv.setA hI rfl) hB' h1 (by omega) (by omega)
    · have f2 := dAddE (X := x2.toInt) (Y := 1) (x := x2) (y := (1 : Int32)) rfl (by decide) (by omega) (by omega)
      refine v_X12_fillsWays_70_177 ?_
      exact ih.2.1 _ _ _ hI hB h1 (by omega) (by omega)
/-- phase 1: all away but the first -/
theorem b_ph1 {Q : dM → Prop} (hG : Gd g) (hQ : ∀ m', Inv g m' → Bf m' → Q m') : ∀ n : Nat, ∀ (x1 : Int32) (m : dM), Inv g m → 0 ≤ x1.toInt ∧ x1.toInt ≤ 7 → (∀ f : Int32, 0 ≤ f.toInt → f.toInt < x1.toInt → wS m f = 99 ∨ wS m f = 0) → 7 - x1.toInt < (n : Int) → j_X12_fillsWays_70_2 6 x1 m Q := by
  intro n
  induction n with
  | zero => intro x1 m hI h1 hp hμ; exfalso; omega
  | succ n ih =>
    intro x1 m hI h1 hp hμ
    have c := b_ctx hG hI
    refine v_X12_fillsWays_70_2 ⟨fun hc => ?_, fun hc => ?_⟩
    · refine (b_ph2 hG hQ 1000).1 _ _ hI (fun f hf1 hf2 => ?_) (by decide) (by decide)
      rcases hp f hf1 (by omega) with h | h
      · exact Or.inl h
      · exact Or.inr (Or.inl h)
    · have f1 := dAddE (X := x1.toInt) (Y := 1) (x := x1) (y := (1 : Int32)) rfl (by decide) (by omega) (by omega)
      have go : ∀ v : Int32, v.toInt = 99 ∨ v.toInt = 0 → j_X12_fillsWays_70_2 6 (x1 + 1) (dSet (dSet m 109 x1.toNatClampNeg v) 110 x1.toNatClampNeg (0 : Int32)) Q := fun v hv => by
        refine ih _ _ (Inv.setA (Inv.setA hI rfl) rfl) (by omega) (fun f hf1 hf2 => ?_) (by omega)
        show wS (dSet m 109 x1.toNatClampNeg v) f = 99 ∨ wS (dSet m 109 x1.toNatClampNeg v) f = 0
        rw [wS_set h1.1 hf1]
        by_cases h : f = x1
        · rw [if_pos h]; exact hv
        · rw [if_neg h]
          have : f.toInt ≠ x1.toInt := fun e => h (Int32.toInt_inj.mp e)
          exact hp f hf1 (by omega)
      refine ⟨fun _ => ⟨by omega, ⟨by omega, go _ (by decide)⟩⟩, fun _ => ⟨by omega, fun _ => ⟨by omega, ⟨by omega, go _ (by decide)⟩⟩, fun _ => ⟨by omega, ⟨by omega, go _ (by decide)⟩⟩⟩⟩
theorem b_fillsWays {Q : dM → Prop} (hG : Gd g) (hI : Inv g m) (hQ : ∀ m', Inv g m' → Bf m' → Q m') : c_X12_fillsWays_70 6 m Q := by
  refine v_X12_fillsWays_70 ?_
  have e0 := ti_0
  exact b_ph1 hG hQ 9 _ _ hI (by decide) (fun f h1 h2 => by exfalso; omega) (by decide)
theorem s_X12_fillsWays_70 {Q : dM → Prop} (hG : Gd g) (hI : Inv g m) (hQ : ∀ m' : dM, Inv g m' → Q m') : c_X12_fillsWays_70 20 m Q := Wp.deep (b_fillsWays hG hI (fun m' a _ => hQ m' a)) (Nat.le_of_ble_eq_true rfl)
theorem b_copies_2 {Q : dM → Prop} (hG : Gd g) (hQ : ∀ m', Inv g m' → Bf m' → Q m') : ∀ n : Nat, ∀ (x1 : Int32) (m : dM), Inv g m → 0 ≤ x1.toInt ∧ x1.toInt ≤ 58 → 58 - x1.toInt < (n : Int) → j_X12_copies_70_2 7 x1 m Q := by
  intro n
  induction n with
  | zero => intro x1 m hI h1 hμ; exfalso; omega
  | succ n ih =>
    intro x1 m hI h1 hμ
    have c := b_ctx hG hI
    refine v_X12_copies_70_2 ⟨fun hc => ⟨by omega, ?_⟩, fun hc => ⟨by omega, ⟨by omega, ?_⟩⟩⟩
    · exact b_fillsWays hG (Inv.setA (Inv.setA hI rfl) rfl) hQ
    · have f1 := dAddE (X := x1.toInt) (Y := 1) (x := x1) (y := (1 : Int32)) rfl (by decide) (by omega) (by omega)
      exact ih _ _ (Inv.setA hI rfl) (by omega) (by omega)
theorem b_copies {Q : dM → Prop} (hG : Gd g) (hI : Inv g m) (hQ : ∀ m', Inv g m' → Bf m' → Q m') : c_X12_copies_70 7 m Q := by
  refine v_X12_copies_70 ?_
  exact b_copies_2 hG hQ 60 _ _ hI (by decide) (by decide)
theorem b_way_46 {x2 : Int32} {Q : Int32 → dM → Prop} (hG : Gd g) (hI : Inv g m) (hB : Bf m) (hQ : ∀ r : Int32, Q r m) : ∀ n : Nat, ∀ x3 x4 : Int32, 0 ≤ x3.toInt ∧ x3.toInt ≤ 6 → 0 ≤ x4.toInt → x4.toInt ≤ x2.toInt → (x2.toInt < x4.toInt + wS m x3 ∧ wS m x3 ≤ 6) → x2.toInt - x4.toInt < (n : Int) → j_X12_way_70_46 8 x2 x3 x4 m Q := by
  intro n
  induction n with
  | zero => intro x3 x4 h3 h4 h5 h6 hμ; exfalso; omega
  | succ n ih =>
    intro x3 x4 h3 h4 h5 h6 hμ
    have hst := hB.st h3.1 h3.2
    have hP : Pr m x3 := by
      rcases hB x3 h3.1 h3.2 with h | h | h
      · exfalso; omega
      · exfalso; omega
      · exact h.2.2
    refine v_X12_way_70_46 ⟨fun hc => ?_, fun hc => ?_⟩
    · exact Wp.deep (b_wireFrom hG hI h3 hst hP (fun w _ _ _ => hQ w)) (Nat.le_of_ble_eq_true rfl)
    · refine Wp.deep (b_wireFrom hG hI h3 hst hP (fun w hw1 hw2 hg => ?_)) (Nat.le_of_ble_eq_true rfl)
      have b6 := b_wO6 (f := x3) hG hI hw1 hw2
      have b0 := hg.2.1
      have bs := hg.2.2
      have hx2 := e_hi x2
      have f4 := dAddE (X := x4.toInt) (Y := 1) (x := x4) (y := (1 : Int32)) rfl (by decide) (by omega) (by omega)
      refine Wp.deep (b_otherEnd hG hI hw1 hw2 ?_) (Nat.le_of_ble_eq_true rfl)
      exact ih _ _ ⟨b0, b6⟩ (by omega) (by omega) (by omega) (by omega)
theorem s_X12_way_70 {x1 x2 : Int32} {Q : Int32 → dM → Prop} (hG : Gd g) (hI : Inv g m) (hQ : ∀ (r : Int32) (m' : dM), Inv g m' → Q r m') : c_X12_way_70 20 x1 x2 m Q := by
  have c := b_ctx hG hI
  have e0 := ti_0
  have e1 := ti_1
  refine v_X12_way_70 ?_
  refine v_X12_isFlat_70 ⟨by omega, ?_⟩
  have fin : j_X12_way_70_12 20 m Q := v_X12_way_70_12 (hQ _ _ hI)
  have b80 := Inv.s hG hI (k := 80) (j := (m.1 70 18).toNatClampNeg) rfl rfl
  have f := dSubE (X := (m.1 80 (m.1 70 18).toNatClampNeg).toInt) (Y := 1) (x := m.1 80 (m.1 70 18).toNatClampNeg) (y := (1 : Int32)) rfl (by decide) (by omega) (by omega)
  refine v_X12_in ?_
  refine ⟨fun h => v_X12_in_14 ⟨by decide, fun _ => fin, fun h => absurd rfl h⟩, fun h0 => ⟨fun h => v_X12_in_14 ⟨by decide, fun _ => fin, fun h => absurd rfl h⟩, fun h1 => ⟨by decide, fun h => by exfalso; omega, fun _ => ⟨fun h2 => ?_, fun _ => fin⟩⟩⟩⟩
  refine Wp.deep (b_copies hG hI (fun m2 I2 B2 => ?_)) (Nat.le_of_ble_eq_true rfl)
  refine v_X12_isLit_70 ⟨by omega, fun h3 => ⟨fun h => absurd rfl h, fun _ => hQ _ _ I2⟩, fun h3 => ⟨fun _ => ⟨by omega, fun h4 => ?_, fun h4 => hQ _ _ I2⟩, fun h => by exfalso; omega⟩⟩
  have h3 : wS m2 x1 < 99 := h3
  have h4 : x2.toInt < wS m2 x1 := h4
  have h6 : wS m2 x1 ≤ 6 := by
    rcases B2 x1 (by omega) (by omega) with h | h | h <;> omega
  exact Wp.deep (b_way_46 hG I2 B2 (fun r => hQ r _ I2) 3000000000 _ _ (by omega) (by decide) (by omega) (by omega) (by omega)) (Nat.le_of_ble_eq_true rfl)
end BFS
end
section
/-! THE REFERENCE: what a law tells (by hand) -/
section LAWT
variable {g : gM}
theorem l_term {Q : Int32 → dM → Prop} (hG : Gd g) (hQ : ∀ (r : Int32) (m' : dM), Inv g m' → Q r m') : ∀ n : Nat,
    (∀ (x2 x3 x4 : Int32) (m : dM), Inv g m → 0 ≤ x4.toInt → x4.toInt ≤ x2.toInt → x2.toInt ≤ 840 → 0 ≤ x3.toInt → x3.toInt + (x2.toInt - x4.toInt) ≤ 400 → gSeg g (x2.toInt - x4.toInt).toNat x4.toInt.toNat x3.toInt.toNat → 3 * (x2.toInt - x4.toInt) < (n : Int) → j_X12_termOf_70_5 1 x2 x3 x4 m Q) ∧
    (∀ (x2 x3 x4 x5 x6 x7 : Int32) (m : dM), Inv g m → 0 ≤ x4.toInt → x4.toInt < x2.toInt → x2.toInt ≤ 840 → 1 ≤ x3.toInt → x3.toInt + (x2.toInt - x4.toInt - 1) ≤ 400 → gSeg g (x2.toInt - x4.toInt - 1).toNat (x4.toInt.toNat + 1) x3.toInt.toNat → 2 ≤ x5.toInt ∧ x5.toInt ≤ 5 → (x5.toInt = 5 → x7.toInt ≠ 0) → 3 * (x2.toInt - x4.toInt) - 1 < (n : Int) → j_X12_termOf_70_104 1 x2 x3 x4 x5 x6 x7 m Q) ∧
    (∀ (x2 x3 x4 : Int32) (m : dM), Inv g m → 0 ≤ x4.toInt → x4.toInt < x2.toInt → x2.toInt ≤ 840 → 0 ≤ x3.toInt → x3.toInt + (x2.toInt - x4.toInt - 1) ≤ 400 → gSeg g (x2.toInt - x4.toInt - 1).toNat (x4.toInt.toNat + 1) x3.toInt.toNat → 3 * (x2.toInt - x4.toInt) - 2 < (n : Int) → j_X12_termOf_70_159 1 x2 x3 x4 m Q) := by
  intro n
  induction n with
  | zero => exact ⟨fun x2 x3 x4 m hI h1 h2 h3 h4 h5 h6 hμ => by exfalso; omega, fun x2 x3 x4 x5 x6 x7 m hI h1 h2 h3 h4 h5 h6 h7 h8 hμ => by exfalso; omega, fun x2 x3 x4 m hI h1 h2 h3 h4 h5 h6 hμ => by exfalso; omega⟩
  | succ n ih =>
    refine ⟨fun x2 x3 x4 m hI h1 h2 h3 h4 h5 h6 hμ => ?_, fun x2 x3 x4 x5 x6 x7 m hI h1 h2 h3 h4 h5 h6 h7 h8 hμ => ?_, fun x2 x3 x4 m hI h1 h2 h3 h4 h5 h6 hμ => ?_⟩
    · refine v_X12_termOf_70_5 ⟨fun _ => hQ _ _ hI, fun hc => ⟨by omega, ?_⟩⟩
      have ec : m.1 102 x4.toNatClampNeg = g 102 x4.toInt.toNat := hI.2 102 _ rfl
      have ei : m.1 103 x4.toNatClampNeg = g 103 x4.toInt.toNat := hI.2 103 _ rfl
      have e1 : (x2.toInt - x4.toInt).toNat = (x2.toInt - x4.toInt - 1).toNat + 1 := by omega
      rw [e1] at h6
      have fm := dAddE (X := x3.toInt) (Y := -1) (x := x3) (y := (-1 : Int32)) rfl (by decide) (by omega) (by omega)
      have fp := dAddE (X := x3.toInt) (Y := 1) (x := x3) (y := (1 : Int32)) rfl (by decide) (by omega) (by omega)
      have fs := dSubE (X := x3.toInt + -1) (Y := 1) (x := x3 + (-1 : Int32)) (y := (1 : Int32)) fm (by decide) (by omega) (by omega)
      have e3 : ∀ y : Int32, y.toInt = x3.toInt + -1 → y.toInt.toNat = x3.toInt.toNat - 1 := fun y h => by omega
      have e4 : ∀ y : Int32, y.toInt = x3.toInt + 1 → y.toInt.toNat = x3.toInt.toNat + 1 := fun y h => by omega
      rcases h6 with ⟨k1, k2, k3⟩ | ⟨k1, k2, k3⟩
      · rw [ec, ei]
        refine ⟨fun h => by exfalso; omega, fun _ => ⟨fun hz => ⟨by omega, ⟨by have := k2 hz; omega, ⟨by omega, ?_⟩⟩⟩, fun hz => ⟨by omega, ⟨by omega, ?_⟩⟩⟩⟩
        · exact ih.2.2 _ _ _ _ (Inv.setA hI rfl) h1 hc h3 (by omega) (by omega) (by rw [e4 _ fp]; exact k3) (by omega)
        · exact ih.2.2 _ _ _ _ (Inv.setA hI rfl) h1 hc h3 (by omega) (by omega) (by rw [e4 _ fp]; exact k3) (by omega)
      · rw [ec]
        have k3' : gSeg g (x2.toInt - x4.toInt - 1).toNat (x4.toInt.toNat + 1) (x3 + (-1 : Int32)).toInt.toNat := by rw [e3 _ fm]; exact k3
        refine ⟨fun _ => ⟨by omega, ⟨by omega, fun hz => ?_, fun hz => ⟨fun hy => ?_, fun hy => hQ _ _ (Inv.setA hI rfl)⟩⟩⟩, fun h => by exfalso; omega⟩
        · exact ih.2.1 _ _ _ _ _ _ _ hI h1 hc h3 (by omega) (by omega) k3' k1 (fun q => absurd q hz) (by omega)
        · exact ih.2.1 _ _ _ _ _ _ _ hI h1 hc h3 (by omega) (by omega) k3' k1 (fun _ => hy) (by omega)
    · have fs := dSubE (X := x3.toInt) (Y := 1) (x := x3) (y := (1 : Int32)) rfl (by decide) (by omega) (by omega)
      have go : ∀ v : Int32, j_X12_termOf_70_159 1 x2 x3 x4 (dSet m 106 (x3 - (1 : Int32)).toNatClampNeg v) Q := fun v => ih.2.2 _ _ _ _ (Inv.setA hI rfl) h1 h2 h3 (by omega) h5 h6 (by omega)
      refine v_X12_termOf_70_104 ⟨fun a1 => ⟨fun a2 => ⟨fun a3 => ⟨fun hz => ?_, ⟨by omega, go _⟩⟩, fun _ => ⟨by omega, go _⟩⟩, fun _ => ⟨by omega, go _⟩⟩, fun _ => ⟨by omega, go _⟩⟩
      have := h8 (by omega)
      rw [hz] at this
      exact this rfl
    · have fp := dAddE (X := x4.toInt) (Y := 1) (x := x4) (y := (1 : Int32)) rfl (by decide) (by omega) (by omega)
      refine v_X12_termOf_70_159 ?_
      refine ih.1 _ _ _ _ hI (by omega) (by omega) h3 h4 (by omega) ?_ (by omega)
      have e4 : ∀ y : Int32, y.toInt = x4.toInt + 1 → y.toInt.toNat = x4.toInt.toNat + 1 ∧ (x2.toInt - y.toInt).toNat = (x2.toInt - x4.toInt - 1).toNat := fun y h => ⟨by omega, by omega⟩
      rw [(e4 _ fp).1, (e4 _ fp).2]
      exact h6
theorem l_termOf {L : Nat} {x1 x2 : Int32} {m : dM} {Q : Int32 → dM → Prop} (hG : Gd g) (hI : Inv g m) (hL : L ≤ 1) (hp : gPc g L x1.toInt x2.toInt) (hQ : ∀ (r : Int32) (m' : dM), Inv g m' → Q r m') : c_X12_termOf_70 1 x1 x2 m Q := by
  refine v_X12_termOf_70 ?_
  obtain ⟨p1, p2, p3, p4, p5⟩ := hp
  have e0 := ti_0
  exact (l_term hG hQ 3000).1 _ _ _ _ hI (by omega) p2 (by omega) (by decide) (by omega) p5 (by omega)
theorem l_law {L : Nat} {x3 : Int32} {Q : Int32 → dM → Prop} (hG : Gd g) (hL1 : L ≤ 1) (h3 : 0 ≤ x3.toInt ∧ x3.toInt ≤ 7) (hb : (g 96 x3.toNatClampNeg).toInt ≤ 260) (hL : ∀ j : Nat, (g 95 x3.toNatClampNeg).toInt ≤ j → (j : Int) < (g 96 x3.toNatClampNeg).toInt → gBr g L j) (hQ : ∀ (r : Int32) (m' : dM), Inv g m' → Q r m') : ∀ n : Nat,
    (∀ (x4 : Int32) (m : dM), Inv g m → 0 ≤ x4.toInt → (g 95 x3.toNatClampNeg).toInt ≤ x4.toInt → x4.toInt ≤ (g 96 x3.toNatClampNeg).toInt → 2 * ((g 96 x3.toNatClampNeg).toInt - x4.toInt) + 1 < (n : Int) → j_X12_lawTells_70_39 2 x3 x4 m Q) ∧
    (∀ (x4 : Int32) (m : dM), Inv g m → 0 ≤ x4.toInt → (g 95 x3.toNatClampNeg).toInt ≤ x4.toInt → x4.toInt < (g 96 x3.toNatClampNeg).toInt → 2 * ((g 96 x3.toNatClampNeg).toInt - x4.toInt) < (n : Int) → j_X12_lawTells_70_119 2 x4 m Q) := by
  intro n
  induction n with
  | zero => exact ⟨fun x4 m hI h1 h2 h4 hμ => by exfalso; omega, fun x4 m hI h1 h2 h4 hμ => by exfalso; omega⟩
  | succ n ih =>
    refine ⟨fun x4 m hI h1 h2 h4 hμ => ?_, fun x4 m hI h1 h2 h4 hμ => ?_⟩
    · have e96 : m.1 96 x3.toNatClampNeg = g 96 x3.toNatClampNeg := hI.2 96 _ rfl
      have c4 := d_cl h1
      refine v_X12_lawTells_70_39 ⟨by omega, ?_⟩
      rw [e96]
      refine ⟨fun _ => hQ _ _ hI, fun hc => ⟨by omega, fun _ => ih.2 _ _ hI h1 h2 hc (by omega), fun ht => ⟨by omega, ⟨by omega, ?_⟩⟩⟩⟩
      have br := hL x4.toNatClampNeg (by omega) (by omega)
      rw [hI.2 97 _ rfl] at ht
      have br1 := br.1 ht
      refine l_termOf hG hI hL1 (by rw [hI.2 98 _ rfl, hI.2 99 _ rfl]; exact br1.1) (fun r1 m1 I1 => ⟨by omega, ⟨by omega, ?_⟩⟩)
      refine l_termOf hG I1 hL1 (by rw [I1.2 99 _ rfl, I1.2 100 _ rfl]; exact br1.2) (fun r2 m2 I2 => ⟨fun _ => ⟨fun _ => ih.2 _ _ I2 h1 h2 hc (by omega), fun _ => ?_⟩, fun _ => hQ _ _ I2⟩)
      have fp := dAddE (X := x4.toInt) (Y := 1) (x := x4) (y := (1 : Int32)) rfl (by decide) (by omega) (by omega)
      exact ih.1 _ _ I2 (by omega) (by omega) (by omega) (by omega)
    · have c4 := d_cl h1
      have br := hL x4.toNatClampNeg (by omega) (by omega)
      refine v_X12_lawTells_70_119 ⟨by omega, ⟨by omega, ?_⟩⟩
      exact l_termOf hG hI hL1 (by rw [hI.2 100 _ rfl, hI.2 101 _ rfl]; exact br.2) (fun r1 m1 I1 => ⟨fun _ => hQ _ _ I1, fun _ => hQ _ _ I1⟩)
theorem s_X12_lawTells_70 {x1 : Int32} {x2 : Int32} {m : dM} {Q : Int32 → dM → Prop} (hG : Gd g) (hI : Inv g m) (h1 : 0 ≤ x1.toInt ∧ x1.toInt ≤ 3) (hQ : ∀ (r : Int32) (m' : dM), Inv g m' → Q r m') : c_X12_lawTells_70 20 x1 x2 m Q := by
  obtain ⟨l1, l2, l3, l4, l5⟩ := Inv.live hG hI
  have hl : (m.1 70 18).toInt ≤ 1 := by rw [l1]; exact l3
  have hl0 : 0 ≤ (m.1 70 18).toInt := by rw [l1]; exact l2
  have fm := dMulE (X := 4) (Y := (m.1 70 18).toInt) (x := (4 : Int32)) (y := m.1 70 18) (by decide) rfl (by omega) (by omega)
  have fa := dAddE (X := 4 * (m.1 70 18).toInt) (Y := x1.toInt) (x := (4 : Int32) * m.1 70 18) (y := x1) fm rfl (by omega) (by omega)
  have ix := d_idx (c := 4) (C := 4) (L := gL g) (l := m.1 70 18) (u := x1) (by decide) (by decide) l5 hl h1.1 (by omega)
  have lw := hG.2.2.2.2 x1.toInt.toNat (by omega)
  have ix' : ((4 : Int32) * m.1 70 18 + x1).toNatClampNeg = 4 * gL g + x1.toInt.toNat := ix
  rw [← ix'] at lw
  refine v_X12_lawTells_70 ⟨by omega, ⟨by omega, fun hne => ⟨by omega, ?_⟩, fun _ => hQ _ _ hI⟩⟩
  rw [hI.2 95 _ rfl, hI.2 96 _ rfl] at hne
  rcases lw with lw | ⟨a1, a2, a3, a4⟩
  · exact absurd lw hne
  · rw [hI.2 95 _ rfl]
    have hb := (l_law (L := gL g) (x3 := (4 : Int32) * m.1 70 18 + x1) (Q := Q) hG (by omega) (by omega) (by omega) a4 hQ 1000).1 (g 95 ((4 : Int32) * m.1 70 18 + x1).toNatClampNeg) (dSet m 70 53 (0 : Int32)) (Inv.setA hI rfl) (by omega) (Int.le_refl _) a2 (by omega)
    exact Wp.deep hb (Nat.le_of_ble_eq_true rfl)
end LAWT
end
section
theorem s_X2_checkLaw_43_all {g : gM} {Q : Int32 → dM → Prop} (hG : Gd g) (hQ : ∀ (r : Int32) (m' : dM), Inv g m' → (0 ≤ r.toInt ∧ r.toInt ≤ 1) → Q r m') : ∀ n : Nat, (∀ (m : dM), Inv g m → 0 < (n : Int) → j_X2_checkLaw_43_24 61 m Q) ∧ (∀ (x1 : Int32) (x2 : Int32) (m : dM), Inv g m → (0 ≤ x1.toInt ∧ x1.toInt ≤ 3) → (0 ≤ x2.toInt ∧ x2.toInt ≤ 4) → 8 - 1 * x2.toInt < (n : Int) → j_X2_checkLaw_43_28 61 x1 x2 m Q) ∧ (∀ (m : dM), Inv g m → 3 < (n : Int) → j_X2_checkLaw_43_114 61 m Q) ∧ (∀ (x1 : Int32) (m : dM), Inv g m → (0 ≤ x1.toInt ∧ x1.toInt ≤ 3) → 2 < (n : Int) → j_X2_checkLaw_43_122 61 x1 m Q) ∧ (∀ (m : dM), Inv g m → 1 < (n : Int) → j_X2_checkLaw_43_144 61 m Q) := by
  intro n
  induction n with
  | zero => exact ⟨fun m hI hμ => by exfalso; omega, fun x1 x2 m hI h1 h2 hμ => by exfalso; omega, fun m hI hμ => by exfalso; omega, fun x1 m hI h1 hμ => by exfalso; omega, fun m hI hμ => by exfalso; omega⟩
  | succ n ih =>
    refine ⟨?_, ?_, ?_, ?_, ?_⟩
    · intro m hI hμ
      refine v_X2_checkLaw_43_24 ?_
      have f1 := ti_0
      exact hQ _ _ hI (by omega)
    · intro x1 x2 m hI h1 h2 hμ
      refine v_X2_checkLaw_43_28 ?_
      refine ⟨fun hc1 => ?_, fun hc1 => ?_⟩
      · skip
        exfalso; omega
      · skip
        refine v_X2_kind_43 ?_
        refine ⟨fun hc2 => ?_, fun hc2 => ?_⟩
        · skip
          refine v_X2_kind_43_32 ?_
          have f3 := ti_24
          refine ⟨fun hc4 => ?_, fun hc4 => ?_⟩
          · skip
            exact ih.2.2.2.1 _ _ hI (by omega) (by omega)
          · skip
            exfalso; omega
        · skip
          refine ⟨fun hc3 => ?_, fun hc3 => ?_⟩
          · skip
            refine v_X2_kind_43_32 ?_
            have f4 := ti_24
            refine ⟨fun hc5 => ?_, fun hc5 => ?_⟩
            · skip
              exact ih.2.2.2.1 _ _ hI (by omega) (by omega)
            · skip
              exfalso; omega
          · skip
            refine ⟨by omega, ?_⟩
            refine ⟨fun hc4 => ?_, fun hc4 => ?_⟩
            · skip
              exact ih.2.2.2.1 _ _ hI (by omega) (by omega)
            · skip
              refine ⟨fun hc5 => ?_, fun hc5 => ?_⟩
              · skip
                refine Wp.deep (s_X2_step_43 hG hI (fun R6 M6 I6 hr6 => ?_)) (Nat.le_of_ble_eq_true rfl)
                refine ⟨fun hc7 => ?_, fun hc7 => ?_⟩
                · skip
                  exact ih.2.2.1 _ I6 (by omega)
                · skip
                  have f8 := ti_0
                  refine Wp.deep (s_X2_sum_43_L0 hG I6 (by omega) (fun R9 M9 I9 hr9 => ?_)) (Nat.le_of_ble_eq_true rfl)
                  refine ⟨fun hc10 => ?_, fun hc10 => ?_⟩
                  · skip
                    exact ih.2.2.1 _ I9 (by omega)
                  · skip
                    have f11 := ti_60
                    refine Wp.deep (s_X2_endPiece_43 hG I9 (by omega) (by omega) (fun R12 M12 I12 hr12 => ?_)) (Nat.le_of_ble_eq_true rfl)
                    refine ⟨fun hc13 => ?_, fun hc13 => ?_⟩
                    · skip
                      exact ih.2.2.1 _ I12 (by omega)
                    · skip
                      refine Wp.deep (s_X2_sum_43_L0 hG I12 (by omega) (fun R14 M14 I14 hr14 => ?_)) (Nat.le_of_ble_eq_true rfl)
                      refine ⟨fun hc15 => ?_, fun hc15 => ?_⟩
                      · skip
                        exact ih.2.2.1 _ I14 (by omega)
                      · skip
                        have f16 := ti_11
                        refine Wp.deep (s_X2_endPiece_43 hG I14 (by omega) (by omega) (fun R17 M17 I17 hr17 => ?_)) (Nat.le_of_ble_eq_true rfl)
                        refine ⟨fun hc18 => ?_, fun hc18 => ?_⟩
                        · skip
                          exact ih.2.2.1 _ I17 (by omega)
                        · skip
                          refine Wp.deep (s_X2_sum_43_L0 hG I17 (by omega) (fun R19 M19 I19 hr19 => ?_)) (Nat.le_of_ble_eq_true rfl)
                          refine ⟨fun hc20 => ?_, fun hc20 => ?_⟩
                          · skip
                            exact ih.2.2.1 _ I19 (by omega)
                          · skip
                            have f21 := ti_12
                            refine Wp.deep (s_X2_endPiece_43 hG I19 (by omega) (by omega) (fun R22 M22 I22 hr22 => ?_)) (Nat.le_of_ble_eq_true rfl)
                            refine ⟨fun hc23 => ?_, fun hc23 => ?_⟩
                            · skip
                              have f24 := dAddE (X := x2.toInt) (Y := 1) (x := x2) (y := (1 : Int32)) rfl (by decide) (by omega) (by omega)
                              exact ih.2.1 _ _ _ I22 (by omega) (by omega) (by omega)
                            · skip
                              exact ih.2.2.1 _ I22 (by omega)
              · skip
                have f6 := ti_2
                refine Wp.deep (s_X2_fail_43 hG hI (fun R7 M7 I7 hr7 => ?_)) (Nat.le_of_ble_eq_true rfl)
                refine ⟨dB01 (by omega), ?_⟩
                exact hQ _ _ I7 (by omega)
    · intro m hI hμ
      refine v_X2_checkLaw_43_114 ?_
      have f1 := ti_0
      exact hQ _ _ hI (by omega)
    · intro x1 m hI h1 hμ
      refine v_X2_checkLaw_43_122 ?_
      have f1 := ti_0
      refine Wp.deep (s_X2_sum_43_L0 hG hI (by omega) (fun R2 M2 I2 hr2 => ?_)) (Nat.le_of_ble_eq_true rfl)
      refine ⟨fun hc3 => ?_, fun hc3 => ?_⟩
      · skip
        exact ih.2.2.2.2 _ I2 (by omega)
      · skip
        have f4 := ti_59
        refine Wp.deep (s_X2_endPiece_43 hG I2 (by omega) (by omega) (fun R5 M5 I5 hr5 => ?_)) (Nat.le_of_ble_eq_true rfl)
        refine ⟨fun hc6 => ?_, fun hc6 => ?_⟩
        · skip
          exact ih.2.2.2.2 _ I5 (by omega)
        · skip
          have f7 := ti_1
          exact hQ _ _ I5 (by omega)
    · intro m hI hμ
      refine v_X2_checkLaw_43_144 ?_
      have f1 := ti_0
      exact hQ _ _ hI (by omega)
theorem s_X2_checkLaw_43 {g : gM} {x1 : Int32} {m : dM} {Q : Int32 → dM → Prop} (hG : Gd g) (hI : Inv g m) (h1 : 0 ≤ x1.toInt ∧ x1.toInt ≤ 3) (hQ : ∀ (r : Int32) (m' : dM), Inv g m' → (0 ≤ r.toInt ∧ r.toInt ≤ 1) → Q r m') : c_X2_checkLaw_43 61 x1 m Q := by
  refine v_X2_checkLaw_43 ?_
  refine Wp.deep (s_X4_begin_29 hG hI (by omega) (fun M1 I1 => ?_)) (Nat.le_of_ble_eq_true rfl)
  refine Wp.deep (s_X2_step_43 hG I1 (fun R2 M2 I2 hr2 => ?_)) (Nat.le_of_ble_eq_true rfl)
  refine ⟨fun hc3 => ?_, fun hc3 => ?_⟩
  · skip
    exact (s_X2_checkLaw_43_all hG hQ 10).1 _ I2 (by omega)
  · skip
    have f4 := ti_61
    refine Wp.deep (s_X2_need_43 hG I2 (fun R5 M5 I5 hr5 => ?_)) (Nat.le_of_ble_eq_true rfl)
    refine ⟨fun hc6 => ?_, fun hc6 => ?_⟩
    · skip
      have f7 := ti_0
      exact (s_X2_checkLaw_43_all hG hQ 10).2.1 _ _ _ I5 (by omega) (by omega) (by omega)
    · skip
      exact (s_X2_checkLaw_43_all hG hQ 10).1 _ I5 (by omega)
theorem s_X2_checkTold_43 {g : gM} {x1 : Int32} {m : dM} {Q : dM → Prop} (hG : Gd g) (hI : Inv g m) (hQ : ∀ m' : dM, Inv g m' → Q m') : c_X2_checkTold_43 62 x1 m Q := by
  refine v_X2_checkTold_43 ?_
  refine ⟨fun hc1 => ?_, fun hc1 => ?_, fun hc1 => ?_, fun hc1 => ?_, fun hc1 => ?_, fun hc1 => ?_, fun hc1 => ?_, fun hc1 => ?_, fun hc1 => ?_, fun hc1 => ?_, fun hc1 => ?_⟩
  · skip
    have f2 := ti_7
    have f3 := ti_1
    have I4 : Inv g (dSet m 43 4 ((m.1 43 4) + (1 : Int32))) := (Inv.setA hI rfl)
    refine Wp.deep (s_X2_checkCounted_43 hG I4 (by omega) (by omega) (by omega) (fun M5 I5 => ?_)) (Nat.le_of_ble_eq_true rfl)
    refine v_X2_checkTold_43_165 ?_
    exact hQ _ I5
  · skip
    have f2 := ti_10
    have f3 := ti_2
    have f4 := ti_1
    have I5 : Inv g (dSet m 43 5 ((m.1 43 5) + (1 : Int32))) := (Inv.setA hI rfl)
    refine Wp.deep (s_X2_checkCounted_43 hG I5 (by omega) (by omega) (by omega) (fun M6 I6 => ?_)) (Nat.le_of_ble_eq_true rfl)
    refine v_X2_checkTold_43_165 ?_
    exact hQ _ I6
  · skip
    have f2 := ti_8
    have f3 := ti_2
    have f4 := ti_3
    have I5 : Inv g (dSet m 43 6 ((m.1 43 6) + (1 : Int32))) := (Inv.setA hI rfl)
    refine Wp.deep (s_X2_checkCounted_43 hG I5 (by omega) (by omega) (by omega) (fun M6 I6 => ?_)) (Nat.le_of_ble_eq_true rfl)
    refine v_X2_checkTold_43_165 ?_
    exact hQ _ I6
  · skip
    have f2 := dSubE (X := x1.toInt) (Y := 3) (x := x1) (y := (3 : Int32)) rfl (by decide) (by omega) (by omega)
    refine Wp.deep (s_X2_checkLaw_43 hG hI (by omega) (fun R3 M3 I3 hr3 => ?_)) (Nat.le_of_ble_eq_true rfl)
    refine v_X2_checkTold_43_165 ?_
    exact hQ _ I3
  · skip
    have f2 := dSubE (X := x1.toInt) (Y := 3) (x := x1) (y := (3 : Int32)) rfl (by decide) (by omega) (by omega)
    refine Wp.deep (s_X2_checkLaw_43 hG hI (by omega) (fun R3 M3 I3 hr3 => ?_)) (Nat.le_of_ble_eq_true rfl)
    refine v_X2_checkTold_43_165 ?_
    exact hQ _ I3
  · skip
    have f2 := dSubE (X := x1.toInt) (Y := 3) (x := x1) (y := (3 : Int32)) rfl (by decide) (by omega) (by omega)
    refine Wp.deep (s_X2_checkLaw_43 hG hI (by omega) (fun R3 M3 I3 hr3 => ?_)) (Nat.le_of_ble_eq_true rfl)
    refine v_X2_checkTold_43_165 ?_
    exact hQ _ I3
  · skip
    have f2 := dSubE (X := x1.toInt) (Y := 3) (x := x1) (y := (3 : Int32)) rfl (by decide) (by omega) (by omega)
    refine Wp.deep (s_X2_checkLaw_43 hG hI (by omega) (fun R3 M3 I3 hr3 => ?_)) (Nat.le_of_ble_eq_true rfl)
    refine v_X2_checkTold_43_165 ?_
    exact hQ _ I3
  · skip
    have f2 := ti_0
    have f3 := ti_2
    refine Wp.deep (s_X2_checkRow_43 hG hI (by omega) (by omega) (fun M4 I4 => ?_)) (Nat.le_of_ble_eq_true rfl)
    refine v_X2_checkTold_43_165 ?_
    exact hQ _ I4
  · skip
    have f2 := ti_0
    have f3 := ti_1
    refine Wp.deep (s_X2_checkRow_43 hG hI (by omega) (by omega) (fun M4 I4 => ?_)) (Nat.le_of_ble_eq_true rfl)
    refine v_X2_checkTold_43_165 ?_
    exact hQ _ I4
  · skip
    have f2 := ti_0
    have f3 := ti_1
    refine Wp.deep (s_X2_checkRow_43 hG hI (by omega) (by omega) (fun M4 I4 => ?_)) (Nat.le_of_ble_eq_true rfl)
    refine v_X2_checkTold_43_165 ?_
    exact hQ _ I4
  · skip
    refine v_X2_checkTold_43_165 ?_
    have I2 : Inv g (dSet m 43 3 (1 : Int32)) := (Inv.setA hI rfl)
    exact hQ _ I2
theorem s_X2_check_43_all {g : gM} {Q : Int32 → dM → Prop} (hG : Gd g) (hQ : ∀ (r : Int32) (m' : dM), Inv g m' → Q r m') : ∀ n : Nat, (∀ (x1 : Int32) (m : dM), Inv g m → (0 ≤ x1.toInt ∧ x1.toInt ≤ 401) → 402 - 1 * x1.toInt < (n : Int) → j_X2_check_43_27 63 x1 m Q) ∧ (∀ (m : dM), Inv g m → 0 < (n : Int) → j_X2_check_43_64 63 m Q) := by
  intro n
  induction n with
  | zero => exact ⟨fun x1 m hI h1 hμ => by exfalso; omega, fun m hI hμ => by exfalso; omega⟩
  | succ n ih =>
    refine ⟨?_, ?_⟩
    · intro x1 m hI h1 hμ
      refine v_X2_check_43_27 ?_
      refine ⟨fun hc1 => ?_, fun hc1 => ?_⟩
      · skip
        exact ih.2 _ hI (by omega)
      · skip
        refine ⟨fun hc2 => ?_, fun hc2 => ?_⟩
        · skip
          exact ih.2 _ hI (by omega)
        · skip
          refine v_X2_kind_43 ?_
          refine ⟨fun hc3 => ?_, fun hc3 => ?_⟩
          · skip
            refine v_X2_kind_43_32 ?_
            have f4 := ti_24
            refine ⟨fun hc5 => ?_, fun hc5 => ?_⟩
            · skip
              exact ih.2 _ hI (by omega)
            · skip
              exfalso; omega
          · skip
            refine ⟨fun hc4 => ?_, fun hc4 => ?_⟩
            · skip
              refine v_X2_kind_43_32 ?_
              have f5 := ti_24
              refine ⟨fun hc6 => ?_, fun hc6 => ?_⟩
              · skip
                exact ih.2 _ hI (by omega)
              · skip
                exfalso; omega
            · skip
              refine ⟨by omega, ?_⟩
              refine ⟨fun hc5 => ?_, fun hc5 => ?_⟩
              · skip
                exact ih.2 _ hI (by omega)
              · skip
                refine v_X2_kind_43 ?_
                refine ⟨fun hc6 => ?_, fun hc6 => ?_⟩
                · skip
                  exfalso; omega
                · skip
                  refine ⟨fun hc7 => ?_, fun hc7 => ?_⟩
                  · skip
                    exfalso; omega
                  · skip
                    refine ⟨by omega, ?_⟩
                    refine Wp.deep (s_X2_checkTold_43 hG hI (fun M8 I8 => ?_)) (Nat.le_of_ble_eq_true rfl)
                    have f9 := dAddE (X := x1.toInt) (Y := 1) (x := x1) (y := (1 : Int32)) rfl (by decide) (by omega) (by omega)
                    exact ih.1 _ _ I8 (by omega) (by omega)
    · intro m hI hμ
      refine v_X2_check_43_64 ?_
      exact hQ _ _ hI
theorem s_X2_check_43 {g : gM} {m : dM} {Q : Int32 → dM → Prop} (hG : Gd g) (hI : Inv g m) (hQ : ∀ (r : Int32) (m' : dM), Inv g m' → Q r m') : c_X2_check_43 63 m Q := by
  refine v_X2_check_43 ?_
  have f1 := ti_0
  have I2 : Inv g (dSet m 43 2 (0 : Int32)) := (Inv.setA hI rfl)
  have I3 : Inv g (dSet (dSet m 43 2 (0 : Int32)) 43 3 (0 : Int32)) := (Inv.setA I2 rfl)
  have I4 : Inv g (dSet (dSet (dSet m 43 2 (0 : Int32)) 43 3 (0 : Int32)) 43 4 (0 : Int32)) := (Inv.setA I3 rfl)
  have I5 : Inv g (dSet (dSet (dSet (dSet m 43 2 (0 : Int32)) 43 3 (0 : Int32)) 43 4 (0 : Int32)) 43 5 (0 : Int32)) := (Inv.setA I4 rfl)
  have I6 : Inv g (dSet (dSet (dSet (dSet (dSet m 43 2 (0 : Int32)) 43 3 (0 : Int32)) 43 4 (0 : Int32)) 43 5 (0 : Int32)) 43 6 (0 : Int32)) := (Inv.setA I5 rfl)
  exact (s_X2_check_43_all hG hQ 404).1 _ _ I6 (by omega) (by omega)
theorem s_X12_copies_70_all {g : gM} {Q : dM → Prop} (hG : Gd g) (hQ : ∀ m' : dM, Inv g m' → Q m') : ∀ n : Nat, (∀ (x1 : Int32) (m : dM), Inv g m → (0 ≤ x1.toInt ∧ x1.toInt ≤ 58) → 58 - 1 * x1.toInt < (n : Int) → j_X12_copies_70_2 21 x1 m Q) := by
  intro n
  induction n with
  | zero => exact fun x1 m hI h1 hμ => by exfalso; omega
  | succ n ih =>
    · intro x1 m hI h1 hμ
      refine v_X12_copies_70_2 ?_
      refine ⟨fun hc1 => ?_, fun hc1 => ?_⟩
      · skip
        have f2 := congrArg Int32.toInt (hI.2 70 18 rfl)
        have f3 := Inv.s hG hI (k := 70) (j := 18) rfl rfl
        refine ⟨by omega, ?_⟩
        have I4 : Inv g (dSet m 70 56 (m.1 94 (m.1 70 18).toNatClampNeg)) := (Inv.setA hI rfl)
        have I5 : Inv g (dSet (dSet m 70 56 (m.1 94 (m.1 70 18).toNatClampNeg)) 70 57 (0 : Int32)) := (Inv.setA I4 rfl)
        refine Wp.deep (s_X12_fillsWays_70 hG I5 (fun M6 I6 => ?_)) (Nat.le_of_ble_eq_true rfl)
        exact hQ _ I6
      · skip
        refine ⟨by omega, ?_⟩
        refine ⟨by omega, ?_⟩
        have f2 := dAddE (X := x1.toInt) (Y := 1) (x := x1) (y := (1 : Int32)) rfl (by decide) (by omega) (by omega)
        have I3 : Inv g (dSet m 108 x1.toNatClampNeg (m.1 107 x1.toNatClampNeg)) := (Inv.setA hI rfl)
        exact ih _ _ I3 (by omega) (by omega)
theorem s_X12_copies_70 {g : gM} {m : dM} {Q : dM → Prop} (hG : Gd g) (hI : Inv g m) (hQ : ∀ m' : dM, Inv g m' → Q m') : c_X12_copies_70 21 m Q := by
  refine v_X12_copies_70 ?_
  have f1 := ti_0
  exact (s_X12_copies_70_all hG hQ 60) _ _ hI (by omega) (by omega)
theorem s_X12_quarrelOf_70 {g : gM} {x1 : Int32} {m : dM} {Q : Int32 → dM → Prop} (hG : Gd g) (hI : Inv g m) (h1 : 0 ≤ x1.toInt ∧ x1.toInt ≤ 6) (hQ : ∀ (r : Int32) (m' : dM), Inv g m' → (0 ≤ r.toInt ∧ r.toInt ≤ 99) → Q r m') : c_X12_quarrelOf_70 21 x1 m Q := by
  refine v_X12_quarrelOf_70 ?_
  have f1 := dRemE (x := (m.1 108 55)) (y := (24 : Int32)) (Y := 24) (by decide) (by decide)
  refine Wp.deep (s_X12_looks_70 hG hI (by omega) (by omega) (fun M2 I2 => ?_)) (Nat.le_of_ble_eq_true rfl)
  have f3 := congrArg Int32.toInt (I2.2 70 18 rfl)
  have f4 := Inv.s hG I2 (k := 70) (j := 18) rfl rfl
  have f5 := dMulE (X := 7) (Y := (M2.1 70 18).toInt) (x := (7 : Int32)) (y := (M2.1 70 18)) (by decide) rfl (by omega) (by omega)
  have f6 := dAddE (X := ((7 : Int32) * (M2.1 70 18)).toInt) (Y := x1.toInt) (x := ((7 : Int32) * (M2.1 70 18))) (y := x1) rfl rfl (by omega) (by omega)
  refine ⟨by omega, ?_⟩
  have f7 := dAddE (X := 40) (Y := x1.toInt) (x := (40 : Int32)) (y := x1) (by decide) rfl (by omega) (by omega)
  refine ⟨by omega, ?_⟩
  have f8 := ti_1
  have f9 := ti_0
  have I10 : Inv g (dSet M2 105 6 (M2.1 81 (((7 : Int32) * (M2.1 70 18)) + x1).toNatClampNeg)) := (Inv.setA I2 rfl)
  have I11 : Inv g (dSet (dSet M2 105 6 (M2.1 81 (((7 : Int32) * (M2.1 70 18)) + x1).toNatClampNeg)) 105 7 (M2.1 108 ((40 : Int32) + x1).toNatClampNeg)) := (Inv.setA I10 rfl)
  refine Wp.deep (s_X12_lawTells_70 hG I11 (by omega) (fun R12 M12 I12 => ?_)) (Nat.le_of_ble_eq_true rfl)
  refine v_X12_within ?_
  refine ⟨fun hc13 => ?_, fun hc13 => ?_⟩
  · skip
    have f14 := ti_99
    refine ⟨fun hc15 => ?_, fun hc15 => ?_⟩
    · skip
      exact hQ _ _ I12 (by omega)
    · skip
      exact hQ _ _ I12 (by omega)
  · skip
    exact hQ _ _ I12 (by omega)
theorem s_X12_flat_70 {g : gM} {x1 : Int32} {x2 : Int32} {m : dM} {Q : Int32 → dM → Prop} (hG : Gd g) (hI : Inv g m) (hQ : ∀ (r : Int32) (m' : dM), Inv g m' → Q r m') : c_X12_flat_70 22 x1 x2 m Q := by
  refine v_X12_flat_70 ?_
  refine v_X12_isFlat_70 ?_
  have f1 := congrArg Int32.toInt (hI.2 70 18 rfl)
  have f2 := Inv.s hG hI (k := 70) (j := 18) rfl rfl
  refine ⟨by omega, ?_⟩
  refine v_X12_in ?_
  have f3 := ti_0
  refine ⟨fun hc4 => ?_, fun hc4 => ?_⟩
  · skip
    refine v_X12_in_14 ?_
    refine ⟨by decide, ?_⟩
    refine ⟨fun hc5 => ?_, fun hc5 => ?_⟩
    · skip
      exfalso; omega
    · skip
      have f6 := ti_m1
      exact hQ _ _ hI
  · skip
    have f5 := Inv.cnt80 hG hI
    have f6 := Inv.s hG hI (k := 80) (j := (m.1 70 18).toNatClampNeg) rfl rfl
    have f7 := dSubE (X := (m.1 80 (m.1 70 18).toNatClampNeg).toInt) (Y := 1) (x := (m.1 80 (m.1 70 18).toNatClampNeg)) (y := (1 : Int32)) rfl (by decide) (by omega) (by omega)
    refine ⟨fun hc8 => ?_, fun hc8 => ?_⟩
    · skip
      refine v_X12_in_14 ?_
      refine ⟨by decide, ?_⟩
      refine ⟨fun hc9 => ?_, fun hc9 => ?_⟩
      · skip
        exfalso; omega
      · skip
        have f10 := ti_m1
        exact hQ _ _ hI
    · skip
      have f9 := ti_1
      refine ⟨by decide, ?_⟩
      refine ⟨fun hc10 => ?_, fun hc10 => ?_⟩
      · skip
        refine Wp.deep (s_X12_copies_70 hG hI (fun M11 I11 => ?_)) (Nat.le_of_ble_eq_true rfl)
        refine ⟨fun hc12 => ?_, fun hc12 => ?_, fun hc12 => ?_, fun hc12 => ?_, fun hc12 => ?_, fun hc12 => ?_, fun hc12 => ?_⟩
        · skip
          have f13 := congrArg Int32.toInt (I11.2 70 18 rfl)
          have f14 := Inv.s hG I11 (k := 70) (j := 18) rfl rfl
          have f15 := dMulE (X := 7) (Y := (M11.1 70 18).toInt) (x := (7 : Int32)) (y := (M11.1 70 18)) (by decide) rfl (by omega) (by omega)
          have f16 := dAddE (X := ((7 : Int32) * (M11.1 70 18)).toInt) (Y := x1.toInt) (x := ((7 : Int32) * (M11.1 70 18))) (y := x1) rfl rfl (by omega) (by omega)
          refine ⟨by omega, ?_⟩
          exact hQ _ _ I11
        · skip
          refine v_X12_isLit_70 ?_
          refine ⟨by omega, ?_⟩
          refine ⟨fun hc13 => ?_, fun hc13 => ?_⟩
          · skip
            refine ⟨fun hc14 => ?_, fun hc14 => ?_⟩
            · skip
              exact hQ _ _ I11
            · skip
              exfalso; omega
          · skip
            refine ⟨fun hc14 => ?_, fun hc14 => ?_⟩
            · skip
              exfalso; omega
            · skip
              exact hQ _ _ I11
        · skip
          have f13 := dAddE (X := 40) (Y := x1.toInt) (x := (40 : Int32)) (y := x1) (by decide) rfl (by omega) (by omega)
          refine ⟨by omega, ?_⟩
          exact hQ _ _ I11
        · skip
          refine v_X12_isLit_70 ?_
          refine ⟨by omega, ?_⟩
          refine ⟨fun hc13 => ?_, fun hc13 => ?_⟩
          · skip
            refine ⟨fun hc14 => ?_, fun hc14 => ?_⟩
            · skip
              have f15 := ti_m2
              exact hQ _ _ I11
            · skip
              exfalso; omega
          · skip
            refine ⟨fun hc14 => ?_, fun hc14 => ?_⟩
            · skip
              exfalso; omega
            · skip
              refine ⟨by omega, ?_⟩
              exact hQ _ _ I11
        · skip
          refine Wp.deep (s_X12_quarrelOf_70 hG I11 (by omega) (fun R13 M13 I13 hr13 => ?_)) (Nat.le_of_ble_eq_true rfl)
          exact hQ _ _ I13
        · skip
          refine Wp.deep (s_X12_ampsOn_70 hG I11 (by omega) (fun R13 => ?_)) (Nat.le_of_ble_eq_true rfl)
          exact hQ _ _ I11
        · skip
          have f13 := ti_m1
          exact hQ _ _ I11
      · skip
        exfalso; omega
theorem s_X12_costsOf_70 {g : gM} {x1 : Int32} {m : dM} {Q : Int32 → dM → Prop} (hG : Gd g) (hI : Inv g m) (h1 : 0 ≤ x1.toInt ∧ x1.toInt ≤ 9) (hQ : ∀ (r : Int32) (m' : dM), Inv g m' → (0 ≤ r.toInt ∧ r.toInt ≤ 99) → Q r m') : c_X12_costsOf_70 21 x1 m Q := by
  refine v_X12_costsOf_70 ?_
  have f1 := dRemE (x := (m.1 108 55)) (y := (24 : Int32)) (Y := 24) (by decide) (by decide)
  refine Wp.deep (s_X12_looks_70 hG hI (by omega) (by omega) (fun M2 I2 => ?_)) (Nat.le_of_ble_eq_true rfl)
  refine ⟨by omega, ?_⟩
  have f3 := dAddE (X := 20) (Y := x1.toInt) (x := (20 : Int32)) (y := x1) (by decide) rfl (by omega) (by omega)
  refine ⟨by omega, ?_⟩
  have f4 := ti_2
  have I5 : Inv g (dSet M2 105 1 (M2.1 108 x1.toNatClampNeg)) := (Inv.setA I2 rfl)
  have I6 : Inv g (dSet (dSet M2 105 1 (M2.1 108 x1.toNatClampNeg)) 105 2 (M2.1 108 ((20 : Int32) + x1).toNatClampNeg)) := (Inv.setA I5 rfl)
  refine Wp.deep (s_X12_lawTells_70 hG I6 (by omega) (fun R7 M7 I7 => ?_)) (Nat.le_of_ble_eq_true rfl)
  refine v_X12_within ?_
  have f8 := ti_0
  refine ⟨fun hc9 => ?_, fun hc9 => ?_⟩
  · skip
    have f10 := ti_99
    refine ⟨fun hc11 => ?_, fun hc11 => ?_⟩
    · skip
      exact hQ _ _ I7 (by omega)
    · skip
      exact hQ _ _ I7 (by omega)
  · skip
    exact hQ _ _ I7 (by omega)
theorem s_X12_doesGo_70 {g : gM} {x1 : Int32} {x2 : Int32} {x3 : Int32} {x4 : Int32} {m : dM} {Q : Int32 → dM → Prop} (hG : Gd g) (hI : Inv g m) (h1 : 0 ≤ x1.toInt ∧ x1.toInt ≤ 9) (h3 : -23 ≤ x3.toInt ∧ x3.toInt ≤ 20046) (hQ : ∀ (r : Int32) (m' : dM), Inv g m' → (0 ≤ r.toInt ∧ r.toInt ≤ 1) → Q r m') : c_X12_doesGo_70 21 x1 x2 x3 x4 m Q := by
  refine v_X12_doesGo_70 ?_
  refine v_X12_isWhole_70 ?_
  refine v_X12_isWire_70 ?_
  have f1 := congrArg Int32.toInt (hI.2 70 18 rfl)
  have f2 := Inv.s hG hI (k := 70) (j := 18) rfl rfl
  refine ⟨by omega, ?_⟩
  refine v_X12_in ?_
  have f3 := ti_0
  refine ⟨fun hc4 => ?_, fun hc4 => ?_⟩
  · skip
    exfalso; omega
  · skip
    have f5 := Inv.cnt82 hG hI
    have f6 := Inv.s hG hI (k := 82) (j := (m.1 70 18).toNatClampNeg) rfl rfl
    have f7 := dSubE (X := (m.1 82 (m.1 70 18).toNatClampNeg).toInt) (Y := 1) (x := (m.1 82 (m.1 70 18).toNatClampNeg)) (y := (1 : Int32)) rfl (by decide) (by omega) (by omega)
    refine ⟨fun hc8 => ?_, fun hc8 => ?_⟩
    · skip
      refine v_X12_in_14 ?_
      refine ⟨by decide, ?_⟩
      refine ⟨fun hc9 => ?_, fun hc9 => ?_⟩
      · skip
        refine v_X12_isWhole_70_24 ?_
        refine ⟨fun hc10 => ?_, fun hc10 => ?_⟩
        · skip
          refine v_X12_doesGo_70_21 ?_
          exact hQ _ _ hI (by omega)
        · skip
          exfalso; omega
      · skip
        exfalso; omega
    · skip
      have f9 := ti_1
      refine ⟨by decide, ?_⟩
      refine ⟨fun hc10 => ?_, fun hc10 => ?_⟩
      · skip
        exfalso; omega
      · skip
        have f11 := dAddE (X := 10) (Y := x1.toInt) (x := (10 : Int32)) (y := x1) (by decide) rfl (by omega) (by omega)
        refine ⟨by omega, ?_⟩
        refine ⟨fun hc12 => ?_, fun hc12 => ?_⟩
        · skip
          refine v_X12_isWhole_70_24 ?_
          refine ⟨fun hc13 => ?_, fun hc13 => ?_⟩
          · skip
            refine v_X12_doesGo_70_21 ?_
            exact hQ _ _ hI (by omega)
          · skip
            exfalso; omega
        · skip
          refine ⟨fun hc13 => ?_, fun hc13 => ?_⟩
          · skip
            exfalso; omega
          · skip
            have f14 := dAddE (X := 30) (Y := x1.toInt) (x := (30 : Int32)) (y := x1) (by decide) rfl (by omega) (by omega)
            refine ⟨by omega, ?_⟩
            refine ⟨fun hc15 => ?_, fun hc15 => ?_⟩
            · skip
              refine Wp.deep (s_X12_loadBy_70 hG hI (by omega) (fun R16 => ?_)) (Nat.le_of_ble_eq_true rfl)
              refine ⟨fun hc17 => ?_, fun hc17 => ?_⟩
              · skip
                refine Wp.deep (s_X12_looks_70 hG hI (by omega) (by omega) (fun M18 I18 => ?_)) (Nat.le_of_ble_eq_true rfl)
                refine ⟨by omega, ?_⟩
                have f19 := dAddE (X := 20) (Y := x1.toInt) (x := (20 : Int32)) (y := x1) (by decide) rfl (by omega) (by omega)
                refine ⟨by omega, ?_⟩
                have I20 : Inv g (dSet M18 105 0 (R16 + x4)) := (Inv.setA I18 rfl)
                have I21 : Inv g (dSet (dSet M18 105 0 (R16 + x4)) 105 1 (M18.1 108 x1.toNatClampNeg)) := (Inv.setA I20 rfl)
                have I22 : Inv g (dSet (dSet (dSet M18 105 0 (R16 + x4)) 105 1 (M18.1 108 x1.toNatClampNeg)) 105 2 (M18.1 108 ((20 : Int32) + x1).toNatClampNeg)) := (Inv.setA I21 rfl)
                refine Wp.deep (s_X12_lawTells_70 hG I22 (by omega) (fun R23 M23 I23 => ?_)) (Nat.le_of_ble_eq_true rfl)
                refine ⟨fun hc24 => ?_, fun hc24 => ?_⟩
                · skip
                  exact hQ _ _ I23 (by omega)
                · skip
                  exact hQ _ _ I23 (by omega)
              · skip
                exact hQ _ _ hI (by omega)
            · skip
              refine v_X12_doesGo_70_21 ?_
              exact hQ _ _ hI (by omega)
theorem s_X12_wire_70 {g : gM} {x1 : Int32} {x2 : Int32} {m : dM} {Q : Int32 → dM → Prop} (hG : Gd g) (hI : Inv g m) (hQ : ∀ (r : Int32) (m' : dM), Inv g m' → Q r m') : c_X12_wire_70 22 x1 x2 m Q := by
  refine v_X12_wire_70 ?_
  refine v_X12_isWire_70 ?_
  have f1 := congrArg Int32.toInt (hI.2 70 18 rfl)
  have f2 := Inv.s hG hI (k := 70) (j := 18) rfl rfl
  refine ⟨by omega, ?_⟩
  refine v_X12_in ?_
  have f3 := ti_0
  refine ⟨fun hc4 => ?_, fun hc4 => ?_⟩
  · skip
    refine v_X12_in_14 ?_
    refine ⟨by decide, ?_⟩
    refine ⟨fun hc5 => ?_, fun hc5 => ?_⟩
    · skip
      exfalso; omega
    · skip
      have f6 := ti_m1
      exact hQ _ _ hI
  · skip
    have f5 := Inv.cnt82 hG hI
    have f6 := Inv.s hG hI (k := 82) (j := (m.1 70 18).toNatClampNeg) rfl rfl
    have f7 := dSubE (X := (m.1 82 (m.1 70 18).toNatClampNeg).toInt) (Y := 1) (x := (m.1 82 (m.1 70 18).toNatClampNeg)) (y := (1 : Int32)) rfl (by decide) (by omega) (by omega)
    refine ⟨fun hc8 => ?_, fun hc8 => ?_⟩
    · skip
      refine v_X12_in_14 ?_
      refine ⟨by decide, ?_⟩
      refine ⟨fun hc9 => ?_, fun hc9 => ?_⟩
      · skip
        exfalso; omega
      · skip
        have f10 := ti_m1
        exact hQ _ _ hI
    · skip
      have f9 := ti_1
      refine ⟨by decide, ?_⟩
      refine ⟨fun hc10 => ?_, fun hc10 => ?_⟩
      · skip
        refine Wp.deep (s_X12_copies_70 hG hI (fun M11 I11 => ?_)) (Nat.le_of_ble_eq_true rfl)
        refine ⟨fun hc12 => ?_, fun hc12 => ?_, fun hc12 => ?_, fun hc12 => ?_, fun hc12 => ?_, fun hc12 => ?_, fun hc12 => ?_, fun hc12 => ?_, fun hc12 => ?_, fun hc12 => ?_⟩
        · skip
          have f13 := congrArg Int32.toInt (I11.2 70 18 rfl)
          have f14 := Inv.s hG I11 (k := 70) (j := 18) rfl rfl
          have f15 := dMulE (X := 10) (Y := (M11.1 70 18).toInt) (x := (10 : Int32)) (y := (M11.1 70 18)) (by decide) rfl (by omega) (by omega)
          have f16 := dAddE (X := ((10 : Int32) * (M11.1 70 18)).toInt) (Y := x1.toInt) (x := ((10 : Int32) * (M11.1 70 18))) (y := x1) rfl rfl (by omega) (by omega)
          refine ⟨by omega, ?_⟩
          have f17 := Inv.cnt82 hG I11
          have f18 := Inv.s hG I11 (k := 82) (j := (M11.1 70 18).toNatClampNeg) rfl rfl
          have f19 := Inv.one hG I11 (u := x1) (by omega) (by omega)
          exact hQ _ _ I11
        · skip
          have f13 := congrArg Int32.toInt (I11.2 70 18 rfl)
          have f14 := Inv.s hG I11 (k := 70) (j := 18) rfl rfl
          have f15 := dMulE (X := 10) (Y := (M11.1 70 18).toInt) (x := (10 : Int32)) (y := (M11.1 70 18)) (by decide) rfl (by omega) (by omega)
          have f16 := dAddE (X := ((10 : Int32) * (M11.1 70 18)).toInt) (Y := x1.toInt) (x := ((10 : Int32) * (M11.1 70 18))) (y := x1) rfl rfl (by omega) (by omega)
          refine ⟨by omega, ?_⟩
          have f17 := Inv.cnt82 hG I11
          have f18 := Inv.s hG I11 (k := 82) (j := (M11.1 70 18).toNatClampNeg) rfl rfl
          have f19 := Inv.two hG I11 (u := x1) (by omega) (by omega)
          exact hQ _ _ I11
        · skip
          refine ⟨by omega, ?_⟩
          exact hQ _ _ I11
        · skip
          have f13 := dAddE (X := 10) (Y := x1.toInt) (x := (10 : Int32)) (y := x1) (by decide) rfl (by omega) (by omega)
          refine ⟨by omega, ?_⟩
          exact hQ _ _ I11
        · skip
          have f13 := dAddE (X := 20) (Y := x1.toInt) (x := (20 : Int32)) (y := x1) (by decide) rfl (by omega) (by omega)
          refine ⟨by omega, ?_⟩
          exact hQ _ _ I11
        · skip
          have f13 := dAddE (X := 30) (Y := x1.toInt) (x := (30 : Int32)) (y := x1) (by decide) rfl (by omega) (by omega)
          refine ⟨by omega, ?_⟩
          exact hQ _ _ I11
        · skip
          refine Wp.deep (s_X12_onNow_70 hG I11 (fun R13 => ?_)) (Nat.le_of_ble_eq_true rfl)
          refine Wp.deep (s_X12_loadBy_70 hG I11 (by omega) (fun R14 => ?_)) (Nat.le_of_ble_eq_true rfl)
          exact hQ _ _ I11
        · skip
          refine Wp.deep (s_X12_costsOf_70 hG I11 (by omega) (fun R13 M13 I13 hr13 => ?_)) (Nat.le_of_ble_eq_true rfl)
          exact hQ _ _ I13
        · skip
          refine Wp.deep (s_X12_onNow_70 hG I11 (fun R13 => ?_)) (Nat.le_of_ble_eq_true rfl)
          have f14 := dRemE (x := (M11.1 108 55)) (y := (24 : Int32)) (Y := 24) (by decide) (by decide)
          refine Wp.deep (s_X12_doesGo_70 hG I11 (by omega) (by omega) (fun R15 M15 I15 hr15 => ?_)) (Nat.le_of_ble_eq_true rfl)
          refine ⟨fun hc16 => ?_, fun hc16 => ?_⟩
          · skip
            exact hQ _ _ I15
          · skip
            exact hQ _ _ I15
        · skip
          have f13 := ti_m1
          exact hQ _ _ I11
      · skip
        exfalso; omega
theorem s_X12_paysOf_70 {g : gM} {x1 : Int32} {m : dM} {Q : Int32 → dM → Prop} (hG : Gd g) (hI : Inv g m) (h1 : 0 ≤ x1.toInt ∧ x1.toInt ≤ 7) (hQ : ∀ (r : Int32) (m' : dM), Inv g m' → (0 ≤ r.toInt ∧ r.toInt ≤ 99) → Q r m') : c_X12_paysOf_70 21 x1 m Q := by
  refine v_X12_paysOf_70 ?_
  have f1 := dRemE (x := (m.1 108 55)) (y := (24 : Int32)) (Y := 24) (by decide) (by decide)
  refine Wp.deep (s_X12_looks_70 hG hI (by omega) (by omega) (fun M2 I2 => ?_)) (Nat.le_of_ble_eq_true rfl)
  refine v_X12_ampsAt_70 ?_
  have f3 := congrArg Int32.toInt (I2.2 70 18 rfl)
  have f4 := Inv.s hG I2 (k := 70) (j := 18) rfl rfl
  have f5 := dMulE (X := 8) (Y := (M2.1 70 18).toInt) (x := (8 : Int32)) (y := (M2.1 70 18)) (by decide) rfl (by omega) (by omega)
  have f6 := dAddE (X := ((8 : Int32) * (M2.1 70 18)).toInt) (Y := x1.toInt) (x := ((8 : Int32) * (M2.1 70 18))) (y := x1) rfl rfl (by omega) (by omega)
  refine ⟨by omega, ?_⟩
  have f7 := ti_3
  have I8 : Inv g (dSet M2 105 5 (M2.1 88 (((8 : Int32) * (M2.1 70 18)) + x1).toNatClampNeg)) := (Inv.setA I2 rfl)
  refine Wp.deep (s_X12_lawTells_70 hG I8 (by omega) (fun R9 M9 I9 => ?_)) (Nat.le_of_ble_eq_true rfl)
  refine v_X12_within ?_
  have f10 := ti_0
  refine ⟨fun hc11 => ?_, fun hc11 => ?_⟩
  · skip
    have f12 := ti_99
    refine ⟨fun hc13 => ?_, fun hc13 => ?_⟩
    · skip
      exact hQ _ _ I9 (by omega)
    · skip
      exact hQ _ _ I9 (by omega)
  · skip
    exact hQ _ _ I9 (by omega)
theorem s_X12_use_70 {g : gM} {x1 : Int32} {x2 : Int32} {m : dM} {Q : Int32 → dM → Prop} (hG : Gd g) (hI : Inv g m) (hQ : ∀ (r : Int32) (m' : dM), Inv g m' → Q r m') : c_X12_use_70 22 x1 x2 m Q := by
  refine v_X12_use_70 ?_
  refine v_X12_isUse_70 ?_
  have f1 := congrArg Int32.toInt (hI.2 70 18 rfl)
  have f2 := Inv.s hG hI (k := 70) (j := 18) rfl rfl
  refine ⟨by omega, ?_⟩
  refine v_X12_in ?_
  have f3 := ti_0
  refine ⟨fun hc4 => ?_, fun hc4 => ?_⟩
  · skip
    refine v_X12_in_14 ?_
    refine ⟨by decide, ?_⟩
    refine ⟨fun hc5 => ?_, fun hc5 => ?_⟩
    · skip
      exfalso; omega
    · skip
      have f6 := ti_m1
      exact hQ _ _ hI
  · skip
    have f5 := Inv.cnt86 hG hI
    have f6 := Inv.s hG hI (k := 86) (j := (m.1 70 18).toNatClampNeg) rfl rfl
    have f7 := dSubE (X := (m.1 86 (m.1 70 18).toNatClampNeg).toInt) (Y := 1) (x := (m.1 86 (m.1 70 18).toNatClampNeg)) (y := (1 : Int32)) rfl (by decide) (by omega) (by omega)
    refine ⟨fun hc8 => ?_, fun hc8 => ?_⟩
    · skip
      refine v_X12_in_14 ?_
      refine ⟨by decide, ?_⟩
      refine ⟨fun hc9 => ?_, fun hc9 => ?_⟩
      · skip
        exfalso; omega
      · skip
        have f10 := ti_m1
        exact hQ _ _ hI
    · skip
      have f9 := ti_1
      refine ⟨by decide, ?_⟩
      refine ⟨fun hc10 => ?_, fun hc10 => ?_⟩
      · skip
        refine Wp.deep (s_X12_copies_70 hG hI (fun M11 I11 => ?_)) (Nat.le_of_ble_eq_true rfl)
        refine ⟨fun hc12 => ?_, fun hc12 => ?_, fun hc12 => ?_, fun hc12 => ?_, fun hc12 => ?_, fun hc12 => ?_, fun hc12 => ?_, fun hc12 => ?_⟩
        · skip
          refine v_X12_flatAt_70 ?_
          have f13 := congrArg Int32.toInt (I11.2 70 18 rfl)
          have f14 := Inv.s hG I11 (k := 70) (j := 18) rfl rfl
          have f15 := dMulE (X := 8) (Y := (M11.1 70 18).toInt) (x := (8 : Int32)) (y := (M11.1 70 18)) (by decide) rfl (by omega) (by omega)
          have f16 := dAddE (X := ((8 : Int32) * (M11.1 70 18)).toInt) (Y := x1.toInt) (x := ((8 : Int32) * (M11.1 70 18))) (y := x1) rfl rfl (by omega) (by omega)
          refine ⟨by omega, ?_⟩
          have f17 := Inv.cnt86 hG I11
          have f18 := Inv.s hG I11 (k := 86) (j := (M11.1 70 18).toNatClampNeg) rfl rfl
          have f19 := Inv.flat hG I11 (u := x1) (by omega) (by omega)
          exact hQ _ _ I11
        · skip
          refine v_X12_ampsAt_70 ?_
          have f13 := congrArg Int32.toInt (I11.2 70 18 rfl)
          have f14 := Inv.s hG I11 (k := 70) (j := 18) rfl rfl
          have f15 := dMulE (X := 8) (Y := (M11.1 70 18).toInt) (x := (8 : Int32)) (y := (M11.1 70 18)) (by decide) rfl (by omega) (by omega)
          have f16 := dAddE (X := ((8 : Int32) * (M11.1 70 18)).toInt) (Y := x1.toInt) (x := ((8 : Int32) * (M11.1 70 18))) (y := x1) rfl rfl (by omega) (by omega)
          refine ⟨by omega, ?_⟩
          exact hQ _ _ I11
        · skip
          have f13 := congrArg Int32.toInt (I11.2 70 18 rfl)
          have f14 := Inv.s hG I11 (k := 70) (j := 18) rfl rfl
          have f15 := dMulE (X := 8) (Y := (M11.1 70 18).toInt) (x := (8 : Int32)) (y := (M11.1 70 18)) (by decide) rfl (by omega) (by omega)
          have f16 := dAddE (X := ((8 : Int32) * (M11.1 70 18)).toInt) (Y := x1.toInt) (x := ((8 : Int32) * (M11.1 70 18))) (y := x1) rfl rfl (by omega) (by omega)
          refine ⟨by omega, ?_⟩
          have f17 := Inv.s hG I11 (k := 89) (j := (((8 : Int32) * (M11.1 70 18)) + x1).toNatClampNeg) rfl rfl
          exact hQ _ _ I11
        · skip
          have f13 := congrArg Int32.toInt (I11.2 70 18 rfl)
          have f14 := Inv.s hG I11 (k := 70) (j := 18) rfl rfl
          have f15 := dMulE (X := 8) (Y := (M11.1 70 18).toInt) (x := (8 : Int32)) (y := (M11.1 70 18)) (by decide) rfl (by omega) (by omega)
          have f16 := dAddE (X := ((8 : Int32) * (M11.1 70 18)).toInt) (Y := x1.toInt) (x := ((8 : Int32) * (M11.1 70 18))) (y := x1) rfl rfl (by omega) (by omega)
          refine ⟨by omega, ?_⟩
          have f17 := Inv.s hG I11 (k := 90) (j := (((8 : Int32) * (M11.1 70 18)) + x1).toNatClampNeg) rfl rfl
          exact hQ _ _ I11
        · skip
          have f13 := dAddE (X := 47) (Y := x1.toInt) (x := (47 : Int32)) (y := x1) (by decide) rfl (by omega) (by omega)
          refine ⟨by omega, ?_⟩
          exact hQ _ _ I11
        · skip
          refine Wp.deep (s_X12_onNow_70 hG I11 (fun R13 => ?_)) (Nat.le_of_ble_eq_true rfl)
          have f14 := dAndE (x := (R13 >>> (x1 &&& 31))) (y := (1 : Int32)) (by decide)
          exact hQ _ _ I11
        · skip
          refine Wp.deep (s_X12_paysOf_70 hG I11 (by omega) (fun R13 M13 I13 hr13 => ?_)) (Nat.le_of_ble_eq_true rfl)
          exact hQ _ _ I13
        · skip
          have f13 := ti_m1
          exact hQ _ _ I11
      · skip
        exfalso; omega
theorem s_X12_agree_70 {g : gM} {x1 : Int32} {x2 : Int32} {m : dM} {Q : Int32 → dM → Prop} (hG : Gd g) (hI : Inv g m) (h2 : 0 ≤ x2.toInt ∧ x2.toInt ≤ 1) (hQ : ∀ (r : Int32) (m' : dM), Inv g m' → (0 ≤ r.toInt ∧ r.toInt ≤ 1) → Q r m') : c_X12_agree_70 22 x1 x2 m Q := by
  refine v_X12_agree_70 ?_
  refine v_X12_isUse_70 ?_
  have f1 := congrArg Int32.toInt (hI.2 70 18 rfl)
  have f2 := Inv.s hG hI (k := 70) (j := 18) rfl rfl
  refine ⟨by omega, ?_⟩
  refine v_X12_in ?_
  have f3 := ti_0
  refine ⟨fun hc4 => ?_, fun hc4 => ?_⟩
  · skip
    refine v_X12_in_14 ?_
    refine ⟨by decide, ?_⟩
    refine ⟨fun hc5 => ?_, fun hc5 => ?_⟩
    · skip
      refine v_X12_agree_70_30 ?_
      exact hQ _ _ hI (by omega)
    · skip
      exfalso; omega
  · skip
    have f5 := Inv.cnt86 hG hI
    have f6 := Inv.s hG hI (k := 86) (j := (m.1 70 18).toNatClampNeg) rfl rfl
    have f7 := dSubE (X := (m.1 86 (m.1 70 18).toNatClampNeg).toInt) (Y := 1) (x := (m.1 86 (m.1 70 18).toNatClampNeg)) (y := (1 : Int32)) rfl (by decide) (by omega) (by omega)
    refine ⟨fun hc8 => ?_, fun hc8 => ?_⟩
    · skip
      refine v_X12_in_14 ?_
      refine ⟨by decide, ?_⟩
      refine ⟨fun hc9 => ?_, fun hc9 => ?_⟩
      · skip
        refine v_X12_agree_70_30 ?_
        exact hQ _ _ hI (by omega)
      · skip
        exfalso; omega
    · skip
      have f9 := ti_1
      refine ⟨by decide, ?_⟩
      refine ⟨fun hc10 => ?_, fun hc10 => ?_⟩
      · skip
        exfalso; omega
      · skip
        have f11 := dAddE (X := 47) (Y := x1.toInt) (x := (47 : Int32)) (y := x1) (by decide) rfl (by omega) (by omega)
        refine ⟨by omega, ?_⟩
        refine ⟨fun hc12 => ?_, fun hc12 => ?_⟩
        · skip
          refine ⟨fun hc13 => ?_, fun hc13 => ?_⟩
          · skip
            refine Wp.deep (s_X12_copies_70 hG hI (fun M14 I14 => ?_)) (Nat.le_of_ble_eq_true rfl)
            refine ⟨fun hc15 => ?_, fun hc15 => ?_⟩
            · skip
              exfalso; omega
            · skip
              refine ⟨by omega, ?_⟩
              have I16 : Inv g (dSet M14 108 ((47 : Int32) + x1).toNatClampNeg (1 : Int32)) := (Inv.setA I14 rfl)
              refine Wp.deep (s_X12_records_70 hG I16 (fun M17 I17 => ?_)) (Nat.le_of_ble_eq_true rfl)
              exact hQ _ _ I17 (by omega)
          · skip
            refine v_X12_agree_70_30 ?_
            exact hQ _ _ hI (by omega)
        · skip
          refine ⟨fun hc13 => ?_, fun hc13 => ?_⟩
          · skip
            refine Wp.deep (s_X12_copies_70 hG hI (fun M14 I14 => ?_)) (Nat.le_of_ble_eq_true rfl)
            refine ⟨fun hc15 => ?_, fun hc15 => ?_⟩
            · skip
              refine ⟨by omega, ?_⟩
              have I16 : Inv g (dSet M14 108 ((47 : Int32) + x1).toNatClampNeg (0 : Int32)) := (Inv.setA I14 rfl)
              refine Wp.deep (s_X12_records_70 hG I16 (fun M17 I17 => ?_)) (Nat.le_of_ble_eq_true rfl)
              exact hQ _ _ I17 (by omega)
            · skip
              exfalso; omega
          · skip
            refine v_X12_agree_70_30 ?_
            exact hQ _ _ hI (by omega)
theorem s_X12_mend_70 {g : gM} {x1 : Int32} {m : dM} {Q : Int32 → dM → Prop} (hG : Gd g) (hI : Inv g m) (hQ : ∀ (r : Int32) (m' : dM), Inv g m' → Q r m') : c_X12_mend_70 22 x1 m Q := by
  refine v_X12_mend_70 ?_
  refine v_X12_isWire_70 ?_
  have f1 := congrArg Int32.toInt (hI.2 70 18 rfl)
  have f2 := Inv.s hG hI (k := 70) (j := 18) rfl rfl
  refine ⟨by omega, ?_⟩
  refine v_X12_in ?_
  have f3 := ti_0
  refine ⟨fun hc4 => ?_, fun hc4 => ?_⟩
  · skip
    refine v_X12_in_14 ?_
    refine ⟨by decide, ?_⟩
    refine ⟨fun hc5 => ?_, fun hc5 => ?_⟩
    · skip
      exfalso; omega
    · skip
      have f6 := ti_m1
      exact hQ _ _ hI
  · skip
    have f5 := Inv.cnt82 hG hI
    have f6 := Inv.s hG hI (k := 82) (j := (m.1 70 18).toNatClampNeg) rfl rfl
    have f7 := dSubE (X := (m.1 82 (m.1 70 18).toNatClampNeg).toInt) (Y := 1) (x := (m.1 82 (m.1 70 18).toNatClampNeg)) (y := (1 : Int32)) rfl (by decide) (by omega) (by omega)
    refine ⟨fun hc8 => ?_, fun hc8 => ?_⟩
    · skip
      refine v_X12_in_14 ?_
      refine ⟨by decide, ?_⟩
      refine ⟨fun hc9 => ?_, fun hc9 => ?_⟩
      · skip
        exfalso; omega
      · skip
        have f10 := ti_m1
        exact hQ _ _ hI
    · skip
      have f9 := ti_1
      refine ⟨by decide, ?_⟩
      refine ⟨fun hc10 => ?_, fun hc10 => ?_⟩
      · skip
        refine Wp.deep (s_X12_copies_70 hG hI (fun M11 I11 => ?_)) (Nat.le_of_ble_eq_true rfl)
        have f12 := dAddE (X := 10) (Y := x1.toInt) (x := (10 : Int32)) (y := x1) (by decide) rfl (by omega) (by omega)
        refine ⟨by omega, ?_⟩
        refine ⟨fun hc13 => ?_, fun hc13 => ?_⟩
        · skip
          refine v_X12_mend_70_41 ?_
          have f14 := ti_m2
          exact hQ _ _ I11
        · skip
          refine Wp.deep (s_X12_costsOf_70 hG I11 (by omega) (fun R14 M14 I14 hr14 => ?_)) (Nat.le_of_ble_eq_true rfl)
          refine ⟨fun hc15 => ?_, fun hc15 => ?_⟩
          · skip
            refine Wp.deep (s_X12_costsOf_70 hG I14 (by omega) (fun R16 M16 I16 hr16 => ?_)) (Nat.le_of_ble_eq_true rfl)
            refine ⟨by omega, ?_⟩
            have f17 := dAddE (X := 20) (Y := x1.toInt) (x := (20 : Int32)) (y := x1) (by decide) rfl (by omega) (by omega)
            refine ⟨by omega, ?_⟩
            have f18 := dAddE (X := 30) (Y := x1.toInt) (x := (30 : Int32)) (y := x1) (by decide) rfl (by omega) (by omega)
            refine ⟨by omega, ?_⟩
            have I19 : Inv g (dSet M16 108 56 ((M14.1 108 56) - R16)) := (Inv.setA I16 rfl)
            have I20 : Inv g (dSet (dSet M16 108 56 ((M14.1 108 56) - R16)) 108 ((10 : Int32) + x1).toNatClampNeg (0 : Int32)) := (Inv.setA I19 rfl)
            have I21 : Inv g (dSet (dSet (dSet M16 108 56 ((M14.1 108 56) - R16)) 108 ((10 : Int32) + x1).toNatClampNeg (0 : Int32)) 108 ((20 : Int32) + x1).toNatClampNeg (0 : Int32)) := (Inv.setA I20 rfl)
            have I22 : Inv g (dSet (dSet (dSet (dSet M16 108 56 ((M14.1 108 56) - R16)) 108 ((10 : Int32) + x1).toNatClampNeg (0 : Int32)) 108 ((20 : Int32) + x1).toNatClampNeg (0 : Int32)) 108 ((30 : Int32) + x1).toNatClampNeg (0 : Int32)) := (Inv.setA I21 rfl)
            refine Wp.deep (s_X12_records_70 hG I22 (fun M23 I23 => ?_)) (Nat.le_of_ble_eq_true rfl)
            exact hQ _ _ I23
          · skip
            refine v_X12_mend_70_41 ?_
            have f16 := ti_m2
            exact hQ _ _ I14
      · skip
        exfalso; omega
theorem s_X12_thicken_70 {g : gM} {x1 : Int32} {m : dM} {Q : Int32 → dM → Prop} (hG : Gd g) (hI : Inv g m) (hQ : ∀ (r : Int32) (m' : dM), Inv g m' → Q r m') : c_X12_thicken_70 22 x1 m Q := by
  refine v_X12_thicken_70 ?_
  refine v_X12_isWire_70 ?_
  have f1 := congrArg Int32.toInt (hI.2 70 18 rfl)
  have f2 := Inv.s hG hI (k := 70) (j := 18) rfl rfl
  refine ⟨by omega, ?_⟩
  refine v_X12_in ?_
  have f3 := ti_0
  refine ⟨fun hc4 => ?_, fun hc4 => ?_⟩
  · skip
    refine v_X12_in_14 ?_
    refine ⟨by decide, ?_⟩
    refine ⟨fun hc5 => ?_, fun hc5 => ?_⟩
    · skip
      exfalso; omega
    · skip
      have f6 := ti_m1
      exact hQ _ _ hI
  · skip
    have f5 := Inv.cnt82 hG hI
    have f6 := Inv.s hG hI (k := 82) (j := (m.1 70 18).toNatClampNeg) rfl rfl
    have f7 := dSubE (X := (m.1 82 (m.1 70 18).toNatClampNeg).toInt) (Y := 1) (x := (m.1 82 (m.1 70 18).toNatClampNeg)) (y := (1 : Int32)) rfl (by decide) (by omega) (by omega)
    refine ⟨fun hc8 => ?_, fun hc8 => ?_⟩
    · skip
      refine v_X12_in_14 ?_
      refine ⟨by decide, ?_⟩
      refine ⟨fun hc9 => ?_, fun hc9 => ?_⟩
      · skip
        exfalso; omega
      · skip
        have f10 := ti_m1
        exact hQ _ _ hI
    · skip
      have f9 := ti_1
      refine ⟨by decide, ?_⟩
      refine ⟨fun hc10 => ?_, fun hc10 => ?_⟩
      · skip
        refine Wp.deep (s_X12_copies_70 hG hI (fun M11 I11 => ?_)) (Nat.le_of_ble_eq_true rfl)
        have f12 := dAddE (X := 10) (Y := x1.toInt) (x := (10 : Int32)) (y := x1) (by decide) rfl (by omega) (by omega)
        refine ⟨by omega, ?_⟩
        refine ⟨fun hc13 => ?_, fun hc13 => ?_⟩
        · skip
          refine v_X12_thicken_70_53 ?_
          have f14 := ti_m2
          exact hQ _ _ I11
        · skip
          refine ⟨by omega, ?_⟩
          refine ⟨fun hc14 => ?_, fun hc14 => ?_⟩
          · skip
            refine v_X12_thicken_70_53 ?_
            have f15 := ti_m2
            exact hQ _ _ I11
          · skip
            refine Wp.deep (s_X12_costsOf_70 hG I11 (by omega) (fun R15 M15 I15 hr15 => ?_)) (Nat.le_of_ble_eq_true rfl)
            refine ⟨fun hc16 => ?_, fun hc16 => ?_⟩
            · skip
              refine Wp.deep (s_X12_costsOf_70 hG I15 (by omega) (fun R17 M17 I17 hr17 => ?_)) (Nat.le_of_ble_eq_true rfl)
              refine ⟨by omega, ?_⟩
              refine ⟨by omega, ?_⟩
              have I18 : Inv g (dSet M17 108 56 ((M15.1 108 56) - R17)) := (Inv.setA I17 rfl)
              have I19 : Inv g (dSet (dSet M17 108 56 ((M15.1 108 56) - R17)) 108 x1.toNatClampNeg (((dSet M17 108 56 ((M15.1 108 56) - R17)).1 108 x1.toNatClampNeg) + (1 : Int32))) := (Inv.setA I18 rfl)
              refine Wp.deep (s_X12_records_70 hG I19 (fun M20 I20 => ?_)) (Nat.le_of_ble_eq_true rfl)
              exact hQ _ _ I20
            · skip
              refine v_X12_thicken_70_53 ?_
              have f17 := ti_m2
              exact hQ _ _ I15
      · skip
        exfalso; omega
end
section
theorem s_X12_pin_70 {g : gM} {x1 : Int32} {x2 : Int32} {m : dM} {Q : Int32 → dM → Prop} (hG : Gd g) (hI : Inv g m) (h2 : 0 ≤ x2.toInt ∧ x2.toInt ≤ 1) (hQ : ∀ (r : Int32) (m' : dM), Inv g m' → (0 ≤ r.toInt ∧ r.toInt ≤ 1) → Q r m') : c_X12_pin_70 22 x1 x2 m Q := by
  refine v_X12_pin_70 ?_
  refine v_X12_isWire_70 ?_
  have f1 := congrArg Int32.toInt (hI.2 70 18 rfl)
  have f2 := Inv.s hG hI (k := 70) (j := 18) rfl rfl
  refine ⟨by omega, ?_⟩
  refine v_X12_in ?_
  have f3 := ti_0
  refine ⟨fun hc4 => ?_, fun hc4 => ?_⟩
  · skip
    refine v_X12_in_14 ?_
    refine ⟨by decide, ?_⟩
    refine ⟨fun hc5 => ?_, fun hc5 => ?_⟩
    · skip
      refine v_X12_pin_70_43 ?_
      exact hQ _ _ hI (by omega)
    · skip
      exfalso; omega
  · skip
    have f5 := Inv.cnt82 hG hI
    have f6 := Inv.s hG hI (k := 82) (j := (m.1 70 18).toNatClampNeg) rfl rfl
    have f7 := dSubE (X := (m.1 82 (m.1 70 18).toNatClampNeg).toInt) (Y := 1) (x := (m.1 82 (m.1 70 18).toNatClampNeg)) (y := (1 : Int32)) rfl (by decide) (by omega) (by omega)
    refine ⟨fun hc8 => ?_, fun hc8 => ?_⟩
    · skip
      refine v_X12_in_14 ?_
      refine ⟨by decide, ?_⟩
      refine ⟨fun hc9 => ?_, fun hc9 => ?_⟩
      · skip
        refine v_X12_pin_70_43 ?_
        exact hQ _ _ hI (by omega)
      · skip
        exfalso; omega
    · skip
      have f9 := ti_1
      refine ⟨by decide, ?_⟩
      refine ⟨fun hc10 => ?_, fun hc10 => ?_⟩
      · skip
        exfalso; omega
      · skip
        have f11 := dAddE (X := 10) (Y := x1.toInt) (x := (10 : Int32)) (y := x1) (by decide) rfl (by omega) (by omega)
        refine ⟨by omega, ?_⟩
        refine ⟨fun hc12 => ?_, fun hc12 => ?_⟩
        · skip
          refine v_X12_pin_70_43 ?_
          exact hQ _ _ hI (by omega)
        · skip
          have f13 := dAddE (X := 30) (Y := x1.toInt) (x := (30 : Int32)) (y := x1) (by decide) rfl (by omega) (by omega)
          refine ⟨by omega, ?_⟩
          refine ⟨fun hc14 => ?_, fun hc14 => ?_⟩
          · skip
            refine ⟨fun hc15 => ?_, fun hc15 => ?_⟩
            · skip
              refine Wp.deep (s_X12_copies_70 hG hI (fun M16 I16 => ?_)) (Nat.le_of_ble_eq_true rfl)
              refine ⟨fun hc17 => ?_, fun hc17 => ?_⟩
              · skip
                exfalso; omega
              · skip
                refine ⟨by omega, ?_⟩
                have I18 : Inv g (dSet M16 108 ((30 : Int32) + x1).toNatClampNeg (1 : Int32)) := (Inv.setA I16 rfl)
                refine Wp.deep (s_X12_records_70 hG I18 (fun M19 I19 => ?_)) (Nat.le_of_ble_eq_true rfl)
                exact hQ _ _ I19 (by omega)
            · skip
              refine v_X12_pin_70_43 ?_
              exact hQ _ _ hI (by omega)
          · skip
            refine ⟨fun hc15 => ?_, fun hc15 => ?_⟩
            · skip
              refine Wp.deep (s_X12_copies_70 hG hI (fun M16 I16 => ?_)) (Nat.le_of_ble_eq_true rfl)
              refine ⟨fun hc17 => ?_, fun hc17 => ?_⟩
              · skip
                refine ⟨by omega, ?_⟩
                have I18 : Inv g (dSet M16 108 ((30 : Int32) + x1).toNatClampNeg (0 : Int32)) := (Inv.setA I16 rfl)
                refine Wp.deep (s_X12_records_70 hG I18 (fun M19 I19 => ?_)) (Nat.le_of_ble_eq_true rfl)
                exact hQ _ _ I19 (by omega)
              · skip
                exfalso; omega
            · skip
              refine v_X12_pin_70_43 ?_
              exact hQ _ _ hI (by omega)
theorem s_X12_goingBits_70_all {g : gM} {Q : Int32 → dM → Prop} (hG : Gd g) (hQ : ∀ (r : Int32) (m' : dM), Inv g m' → Q r m') : ∀ n : Nat, (∀ (x1 : Int32) (x2 : Int32) (x3 : Int32) (x4 : Int32) (x5 : Int32) (m : dM), Inv g m → (-23 ≤ x2.toInt ∧ x2.toInt ≤ 20046) → (0 ≤ x5.toInt ∧ x5.toInt ≤ 10) → 21 - 2 * x5.toInt < (n : Int) → j_X12_goingBits_70_6 22 x1 x2 x3 x4 x5 m Q) ∧ (∀ (x1 : Int32) (x2 : Int32) (x3 : Int32) (x4 : Int32) (x5 : Int32) (m : dM), Inv g m → (-23 ≤ x2.toInt ∧ x2.toInt ≤ 20046) → (0 ≤ x5.toInt ∧ x5.toInt ≤ 9) → 20 - 2 * x5.toInt < (n : Int) → j_X12_goingBits_70_41 22 x1 x2 x3 x4 x5 m Q) := by
  intro n
  induction n with
  | zero => exact ⟨fun x1 x2 x3 x4 x5 m hI h2 h5 hμ => by exfalso; omega, fun x1 x2 x3 x4 x5 m hI h2 h5 hμ => by exfalso; omega⟩
  | succ n ih =>
    refine ⟨?_, ?_⟩
    · intro x1 x2 x3 x4 x5 m hI h2 h5 hμ
      refine v_X12_goingBits_70_6 ?_
      have f1 := congrArg Int32.toInt (hI.2 70 18 rfl)
      have f2 := Inv.s hG hI (k := 70) (j := 18) rfl rfl
      refine ⟨by omega, ?_⟩
      have f3 := Inv.cnt82 hG hI
      have f4 := Inv.s hG hI (k := 82) (j := (m.1 70 18).toNatClampNeg) rfl rfl
      refine ⟨fun hc5 => ?_, fun hc5 => ?_⟩
      · skip
        exact hQ _ _ hI
      · skip
        refine Wp.deep (s_X12_doesGo_70 hG hI (by omega) (by omega) (fun R6 M6 I6 hr6 => ?_)) (Nat.le_of_ble_eq_true rfl)
        refine ⟨fun hc7 => ?_, fun hc7 => ?_⟩
        · skip
          exact ih.2 _ _ _ _ _ _ I6 (by omega) (by omega) (by omega)
        · skip
          have f8 := dShl10 (x := x5) (by omega) (by omega)
          exact ih.2 _ _ _ _ _ _ I6 (by omega) (by omega) (by omega)
    · intro x1 x2 x3 x4 x5 m hI h2 h5 hμ
      refine v_X12_goingBits_70_41 ?_
      have f1 := dAddE (X := x5.toInt) (Y := 1) (x := x5) (y := (1 : Int32)) rfl (by decide) (by omega) (by omega)
      exact ih.1 _ _ _ _ _ _ hI (by omega) (by omega) (by omega)
theorem s_X12_goingBits_70 {g : gM} {x1 : Int32} {x2 : Int32} {x3 : Int32} {m : dM} {Q : Int32 → dM → Prop} (hG : Gd g) (hI : Inv g m) (h2 : -23 ≤ x2.toInt ∧ x2.toInt ≤ 20046) (hQ : ∀ (r : Int32) (m' : dM), Inv g m' → Q r m') : c_X12_goingBits_70 22 x1 x2 x3 m Q := by
  refine v_X12_goingBits_70 ?_
  have f1 := ti_0
  exact (s_X12_goingBits_70_all hG hQ 23).1 _ _ _ _ _ _ hI (by omega) (by omega) (by omega)
theorem s_X12_paysAll_70_all {g : gM} {Q : Int32 → dM → Prop} (hG : Gd g) (hQ : ∀ (r : Int32) (m' : dM), Inv g m' → Q r m') : ∀ n : Nat, (∀ (x1 : Int32) (x2 : Int32) (x3 : Int32) (m : dM), Inv g m → (0 ≤ x3.toInt ∧ x3.toInt ≤ 8) → 17 - 2 * x3.toInt < (n : Int) → j_X12_paysAll_70_4 22 x1 x2 x3 m Q) ∧ (∀ (x1 : Int32) (x2 : Int32) (x3 : Int32) (m : dM), Inv g m → (0 ≤ x3.toInt ∧ x3.toInt ≤ 7) → 16 - 2 * x3.toInt < (n : Int) → j_X12_paysAll_70_34 22 x1 x2 x3 m Q) := by
  intro n
  induction n with
  | zero => exact ⟨fun x1 x2 x3 m hI h3 hμ => by exfalso; omega, fun x1 x2 x3 m hI h3 hμ => by exfalso; omega⟩
  | succ n ih =>
    refine ⟨?_, ?_⟩
    · intro x1 x2 x3 m hI h3 hμ
      refine v_X12_paysAll_70_4 ?_
      have f1 := congrArg Int32.toInt (hI.2 70 18 rfl)
      have f2 := Inv.s hG hI (k := 70) (j := 18) rfl rfl
      refine ⟨by omega, ?_⟩
      have f3 := Inv.cnt86 hG hI
      have f4 := Inv.s hG hI (k := 86) (j := (m.1 70 18).toNatClampNeg) rfl rfl
      refine ⟨fun hc5 => ?_, fun hc5 => ?_⟩
      · skip
        exact hQ _ _ hI
      · skip
        have f6 := ti_1
        have f7 := dAndE (x := (x1 >>> (x3 &&& 31))) (y := (1 : Int32)) (by decide)
        refine ⟨fun hc8 => ?_, fun hc8 => ?_⟩
        · skip
          exact ih.2 _ _ _ _ hI (by omega) (by omega)
        · skip
          refine Wp.deep (s_X12_paysOf_70 hG hI (by omega) (fun R9 M9 I9 hr9 => ?_)) (Nat.le_of_ble_eq_true rfl)
          exact ih.2 _ _ _ _ I9 (by omega) (by omega)
    · intro x1 x2 x3 m hI h3 hμ
      refine v_X12_paysAll_70_34 ?_
      have f1 := dAddE (X := x3.toInt) (Y := 1) (x := x3) (y := (1 : Int32)) rfl (by decide) (by omega) (by omega)
      exact ih.1 _ _ _ _ hI (by omega) (by omega)
theorem s_X12_paysAll_70 {g : gM} {x1 : Int32} {m : dM} {Q : Int32 → dM → Prop} (hG : Gd g) (hI : Inv g m) (hQ : ∀ (r : Int32) (m' : dM), Inv g m' → Q r m') : c_X12_paysAll_70 22 x1 m Q := by
  refine v_X12_paysAll_70 ?_
  have f1 := ti_0
  exact (s_X12_paysAll_70_all hG hQ 19).1 _ _ _ _ hI (by omega) (by omega)
theorem s_X12_quarrelsAll_70_all {g : gM} {Q : Int32 → dM → Prop} (hG : Gd g) (hQ : ∀ (r : Int32) (m' : dM), Inv g m' → Q r m') : ∀ n : Nat, (∀ (x1 : Int32) (x2 : Int32) (m : dM), Inv g m → (0 ≤ x2.toInt ∧ x2.toInt ≤ 7) → 15 - 2 * x2.toInt < (n : Int) → j_X12_quarrelsAll_70_4 22 x1 x2 m Q) ∧ (∀ (x1 : Int32) (x2 : Int32) (m : dM), Inv g m → (0 ≤ x2.toInt ∧ x2.toInt ≤ 6) → 14 - 2 * x2.toInt < (n : Int) → j_X12_quarrelsAll_70_33 22 x1 x2 m Q) := by
  intro n
  induction n with
  | zero => exact ⟨fun x1 x2 m hI h2 hμ => by exfalso; omega, fun x1 x2 m hI h2 hμ => by exfalso; omega⟩
  | succ n ih =>
    refine ⟨?_, ?_⟩
    · intro x1 x2 m hI h2 hμ
      refine v_X12_quarrelsAll_70_4 ?_
      have f1 := congrArg Int32.toInt (hI.2 70 18 rfl)
      have f2 := Inv.s hG hI (k := 70) (j := 18) rfl rfl
      refine ⟨by omega, ?_⟩
      have f3 := Inv.cnt80 hG hI
      have f4 := Inv.s hG hI (k := 80) (j := (m.1 70 18).toNatClampNeg) rfl rfl
      refine ⟨fun hc5 => ?_, fun hc5 => ?_⟩
      · skip
        exact hQ _ _ hI
      · skip
        refine v_X12_isLit_70 ?_
        refine ⟨by omega, ?_⟩
        refine ⟨fun hc6 => ?_, fun hc6 => ?_⟩
        · skip
          have f7 := ti_0
          refine ⟨fun hc8 => ?_, fun hc8 => ?_⟩
          · skip
            exfalso; omega
          · skip
            refine Wp.deep (s_X12_quarrelOf_70 hG hI (by omega) (fun R9 M9 I9 hr9 => ?_)) (Nat.le_of_ble_eq_true rfl)
            exact ih.2 _ _ _ I9 (by omega) (by omega)
        · skip
          have f7 := ti_1
          refine ⟨fun hc8 => ?_, fun hc8 => ?_⟩
          · skip
            exact ih.2 _ _ _ hI (by omega) (by omega)
          · skip
            exfalso; omega
    · intro x1 x2 m hI h2 hμ
      refine v_X12_quarrelsAll_70_33 ?_
      have f1 := dAddE (X := x2.toInt) (Y := 1) (x := x2) (y := (1 : Int32)) rfl (by decide) (by omega) (by omega)
      exact ih.1 _ _ _ hI (by omega) (by omega)
theorem s_X12_quarrelsAll_70 {g : gM} {m : dM} {Q : Int32 → dM → Prop} (hG : Gd g) (hI : Inv g m) (hQ : ∀ (r : Int32) (m' : dM), Inv g m' → Q r m') : c_X12_quarrelsAll_70 22 m Q := by
  refine v_X12_quarrelsAll_70 ?_
  have f1 := ti_0
  exact (s_X12_quarrelsAll_70_all hG hQ 17).1 _ _ _ hI (by omega) (by omega)
theorem s_X12_hourGoes_70_all {g : gM} {Q : dM → Prop} (hG : Gd g) (hQ : ∀ m' : dM, Inv g m' → Q m') : ∀ n : Nat, (∀ (x4 : Int32) (m : dM), Inv g m → (0 ≤ x4.toInt ∧ x4.toInt ≤ 7) → 30 - 1 * x4.toInt < (n : Int) → j_X12_hourGoes_70_111 23 x4 m Q) ∧ (∀ (x4 : Int32) (m : dM), Inv g m → (0 ≤ x4.toInt ∧ x4.toInt ≤ 10) → 22 - 2 * x4.toInt < (n : Int) → j_X12_hourGoes_70_169 23 x4 m Q) ∧ (∀ (x4 : Int32) (m : dM), Inv g m → (0 ≤ x4.toInt ∧ x4.toInt ≤ 9) → 21 - 2 * x4.toInt < (n : Int) → j_X12_hourGoes_70_256 23 x4 m Q) ∧ (∀ (m : dM), Inv g m → 0 < (n : Int) → j_X12_hourGoes_70_284 23 m Q) := by
  intro n
  induction n with
  | zero => exact ⟨fun x4 m hI h4 hμ => by exfalso; omega, fun x4 m hI h4 hμ => by exfalso; omega, fun x4 m hI h4 hμ => by exfalso; omega, fun m hI hμ => by exfalso; omega⟩
  | succ n ih =>
    refine ⟨?_, ?_, ?_, ?_⟩
    · intro x4 m hI h4 hμ
      refine v_X12_hourGoes_70_111 ?_
      have f1 := congrArg Int32.toInt (hI.2 70 18 rfl)
      have f2 := Inv.s hG hI (k := 70) (j := 18) rfl rfl
      refine ⟨by omega, ?_⟩
      have f3 := Inv.cnt80 hG hI
      have f4 := Inv.s hG hI (k := 80) (j := (m.1 70 18).toNatClampNeg) rfl rfl
      refine ⟨fun hc5 => ?_, fun hc5 => ?_⟩
      · skip
        have f6 := ti_0
        exact ih.2.1 _ _ hI (by omega) (by omega)
      · skip
        refine v_X12_isLit_70 ?_
        refine ⟨by omega, ?_⟩
        refine ⟨fun hc6 => ?_, fun hc6 => ?_⟩
        · skip
          have f7 := ti_0
          refine ⟨fun hc8 => ?_, fun hc8 => ?_⟩
          · skip
            have f9 := dAddE (X := 40) (Y := x4.toInt) (x := (40 : Int32)) (y := x4) (by decide) rfl (by omega) (by omega)
            refine ⟨by omega, ?_⟩
            refine ⟨by omega, ?_⟩
            have f10 := dAddE (X := x4.toInt) (Y := 1) (x := x4) (y := (1 : Int32)) rfl (by decide) (by omega) (by omega)
            have I11 : Inv g (dSet m 108 ((40 : Int32) + x4).toNatClampNeg ((m.1 108 ((40 : Int32) + x4).toNatClampNeg) + (1 : Int32))) := (Inv.setA hI rfl)
            exact ih.1 _ _ I11 (by omega) (by omega)
          · skip
            exfalso; omega
        · skip
          have f7 := ti_1
          refine ⟨fun hc8 => ?_, fun hc8 => ?_⟩
          · skip
            exfalso; omega
          · skip
            have f9 := dAddE (X := 40) (Y := x4.toInt) (x := (40 : Int32)) (y := x4) (by decide) rfl (by omega) (by omega)
            refine ⟨by omega, ?_⟩
            have f10 := dAddE (X := x4.toInt) (Y := 1) (x := x4) (y := (1 : Int32)) rfl (by decide) (by omega) (by omega)
            have I11 : Inv g (dSet m 108 ((40 : Int32) + x4).toNatClampNeg (0 : Int32)) := (Inv.setA hI rfl)
            exact ih.1 _ _ I11 (by omega) (by omega)
    · intro x4 m hI h4 hμ
      refine v_X12_hourGoes_70_169 ?_
      have f1 := congrArg Int32.toInt (hI.2 70 18 rfl)
      have f2 := Inv.s hG hI (k := 70) (j := 18) rfl rfl
      refine ⟨by omega, ?_⟩
      have f3 := Inv.cnt82 hG hI
      have f4 := Inv.s hG hI (k := 82) (j := (m.1 70 18).toNatClampNeg) rfl rfl
      refine ⟨fun hc5 => ?_, fun hc5 => ?_⟩
      · skip
        refine ⟨fun hc6 => ?_, fun hc6 => ?_⟩
        · skip
          have I7 : Inv g (dSet m 108 55 ((m.1 108 55) + (1 : Int32))) := (Inv.setA hI rfl)
          exact ih.2.2.2 _ I7 (by omega)
        · skip
          have I7 : Inv g (dSet m 108 55 ((m.1 108 55) + (1 : Int32))) := (Inv.setA hI rfl)
          refine Wp.deep (s_X12_fillsWays_70 hG I7 (fun M8 I8 => ?_)) (Nat.le_of_ble_eq_true rfl)
          exact ih.2.2.2 _ I8 (by omega)
      · skip
        have f6 := dAddE (X := 10) (Y := x4.toInt) (x := (10 : Int32)) (y := x4) (by decide) rfl (by omega) (by omega)
        refine ⟨by omega, ?_⟩
        refine ⟨fun hc7 => ?_, fun hc7 => ?_⟩
        · skip
          have f8 := ti_1
          have f9 := dAndE (x := ((m.1 70 60) >>> (x4 &&& 31))) (y := (1 : Int32)) (by decide)
          refine ⟨fun hc10 => ?_, fun hc10 => ?_⟩
          · skip
            have f11 := dAddE (X := 20) (Y := x4.toInt) (x := (20 : Int32)) (y := x4) (by decide) rfl (by omega) (by omega)
            refine ⟨by omega, ?_⟩
            refine v_X12_within ?_
            have f12 := ti_0
            refine ⟨fun hc13 => ?_, fun hc13 => ?_⟩
            · skip
              have f14 := ti_999
              refine ⟨fun hc15 => ?_, fun hc15 => ?_⟩
              · skip
                refine ⟨by omega, ?_⟩
                have I16 : Inv g (dSet m 108 ((20 : Int32) + x4).toNatClampNeg ((m.1 108 ((20 : Int32) + x4).toNatClampNeg) + (1 : Int32))) := (Inv.setA hI rfl)
                exact ih.2.2.1 _ _ I16 (by omega) (by omega)
              · skip
                refine ⟨by omega, ?_⟩
                have I16 : Inv g (dSet m 108 ((20 : Int32) + x4).toNatClampNeg (999 : Int32)) := (Inv.setA hI rfl)
                exact ih.2.2.1 _ _ I16 (by omega) (by omega)
            · skip
              refine ⟨by omega, ?_⟩
              have I14 : Inv g (dSet m 108 ((20 : Int32) + x4).toNatClampNeg (0 : Int32)) := (Inv.setA hI rfl)
              exact ih.2.2.1 _ _ I14 (by omega) (by omega)
          · skip
            refine ⟨by omega, ?_⟩
            have I11 : Inv g (dSet m 108 ((10 : Int32) + x4).toNatClampNeg (1 : Int32)) := (Inv.setA hI rfl)
            exact ih.2.2.1 _ _ I11 (by omega) (by omega)
        · skip
          exact ih.2.2.1 _ _ hI (by omega) (by omega)
    · intro x4 m hI h4 hμ
      refine v_X12_hourGoes_70_256 ?_
      have f1 := dAddE (X := x4.toInt) (Y := 1) (x := x4) (y := (1 : Int32)) rfl (by decide) (by omega) (by omega)
      exact ih.2.1 _ _ hI (by omega) (by omega)
    · intro m hI hμ
      refine v_X12_hourGoes_70_284 ?_
      exact hQ _ hI
theorem s_X12_hourGoes_70 {g : gM} {m : dM} {Q : dM → Prop} (hG : Gd g) (hI : Inv g m) (hQ : ∀ m' : dM, Inv g m' → Q m') : c_X12_hourGoes_70 23 m Q := by
  refine v_X12_hourGoes_70 ?_
  refine Wp.deep (s_X12_onNow_70 hG hI (fun R1 => ?_)) (Nat.le_of_ble_eq_true rfl)
  refine ⟨fun hc2 => ?_, fun hc2 => ?_⟩
  · skip
    have f3 := dRemE (x := (m.1 108 55)) (y := (24 : Int32)) (Y := 24) (by decide) (by decide)
    have f4 := ti_0
    refine Wp.deep (s_X12_goingBits_70 hG hI (by omega) (fun R5 M5 I5 => ?_)) (Nat.le_of_ble_eq_true rfl)
    have I6 : Inv g (dSet M5 70 60 R5) := (Inv.setA I5 rfl)
    refine Wp.deep (s_X12_paysAll_70 hG I6 (fun R7 M7 I7 => ?_)) (Nat.le_of_ble_eq_true rfl)
    refine Wp.deep (s_X12_quarrelsAll_70 hG I7 (fun R8 M8 I8 => ?_)) (Nat.le_of_ble_eq_true rfl)
    refine v_X12_within ?_
    refine ⟨fun hc9 => ?_, fun hc9 => ?_⟩
    · skip
      have f10 := ti_99999
      refine ⟨fun hc11 => ?_, fun hc11 => ?_⟩
      · skip
        refine v_X12_within ?_
        refine ⟨fun hc12 => ?_, fun hc12 => ?_⟩
        · skip
          have f13 := ti_999999
          refine ⟨fun hc14 => ?_, fun hc14 => ?_⟩
          · skip
            have I15 : Inv g (dSet M8 108 56 ((M8.1 108 56) + R7)) := (Inv.setA I8 rfl)
            have I16 : Inv g (dSet (dSet M8 108 56 ((M8.1 108 56) + R7)) 108 57 ((M8.1 108 57) + R8)) := (Inv.setA I15 rfl)
            exact (s_X12_hourGoes_70_all hG hQ 32).1 _ _ I16 (by omega) (by omega)
          · skip
            have I15 : Inv g (dSet M8 108 56 ((M8.1 108 56) + R7)) := (Inv.setA I8 rfl)
            have I16 : Inv g (dSet (dSet M8 108 56 ((M8.1 108 56) + R7)) 108 57 (999999 : Int32)) := (Inv.setA I15 rfl)
            exact (s_X12_hourGoes_70_all hG hQ 32).1 _ _ I16 (by omega) (by omega)
        · skip
          have I13 : Inv g (dSet M8 108 56 ((M8.1 108 56) + R7)) := (Inv.setA I8 rfl)
          have I14 : Inv g (dSet (dSet M8 108 56 ((M8.1 108 56) + R7)) 108 57 (0 : Int32)) := (Inv.setA I13 rfl)
          exact (s_X12_hourGoes_70_all hG hQ 32).1 _ _ I14 (by omega) (by omega)
      · skip
        refine v_X12_within ?_
        refine ⟨fun hc12 => ?_, fun hc12 => ?_⟩
        · skip
          have f13 := ti_999999
          refine ⟨fun hc14 => ?_, fun hc14 => ?_⟩
          · skip
            have I15 : Inv g (dSet M8 108 56 (99999 : Int32)) := (Inv.setA I8 rfl)
            have I16 : Inv g (dSet (dSet M8 108 56 (99999 : Int32)) 108 57 ((M8.1 108 57) + R8)) := (Inv.setA I15 rfl)
            exact (s_X12_hourGoes_70_all hG hQ 32).1 _ _ I16 (by omega) (by omega)
          · skip
            have I15 : Inv g (dSet M8 108 56 (99999 : Int32)) := (Inv.setA I8 rfl)
            have I16 : Inv g (dSet (dSet M8 108 56 (99999 : Int32)) 108 57 (999999 : Int32)) := (Inv.setA I15 rfl)
            exact (s_X12_hourGoes_70_all hG hQ 32).1 _ _ I16 (by omega) (by omega)
        · skip
          have I13 : Inv g (dSet M8 108 56 (99999 : Int32)) := (Inv.setA I8 rfl)
          have I14 : Inv g (dSet (dSet M8 108 56 (99999 : Int32)) 108 57 (0 : Int32)) := (Inv.setA I13 rfl)
          exact (s_X12_hourGoes_70_all hG hQ 32).1 _ _ I14 (by omega) (by omega)
    · skip
      refine v_X12_within ?_
      refine ⟨fun hc10 => ?_, fun hc10 => ?_⟩
      · skip
        have f11 := ti_999999
        refine ⟨fun hc12 => ?_, fun hc12 => ?_⟩
        · skip
          have I13 : Inv g (dSet M8 108 56 (0 : Int32)) := (Inv.setA I8 rfl)
          have I14 : Inv g (dSet (dSet M8 108 56 (0 : Int32)) 108 57 ((M8.1 108 57) + R8)) := (Inv.setA I13 rfl)
          exact (s_X12_hourGoes_70_all hG hQ 32).1 _ _ I14 (by omega) (by omega)
        · skip
          have I13 : Inv g (dSet M8 108 56 (0 : Int32)) := (Inv.setA I8 rfl)
          have I14 : Inv g (dSet (dSet M8 108 56 (0 : Int32)) 108 57 (999999 : Int32)) := (Inv.setA I13 rfl)
          exact (s_X12_hourGoes_70_all hG hQ 32).1 _ _ I14 (by omega) (by omega)
      · skip
        have I11 : Inv g (dSet M8 108 56 (0 : Int32)) := (Inv.setA I8 rfl)
        have I12 : Inv g (dSet (dSet M8 108 56 (0 : Int32)) 108 57 (0 : Int32)) := (Inv.setA I11 rfl)
        exact (s_X12_hourGoes_70_all hG hQ 32).1 _ _ I12 (by omega) (by omega)
  · skip
    refine Wp.deep (s_X12_isSurge_70 hG hI (fun R3 hr3 => ?_)) (Nat.le_of_ble_eq_true rfl)
    refine ⟨fun hc4 => ?_, fun hc4 => ?_⟩
    · skip
      have f5 := dRemE (x := (m.1 108 55)) (y := (24 : Int32)) (Y := 24) (by decide) (by decide)
      have f6 := ti_0
      refine Wp.deep (s_X12_goingBits_70 hG hI (by omega) (fun R7 M7 I7 => ?_)) (Nat.le_of_ble_eq_true rfl)
      have I8 : Inv g (dSet M7 70 60 R7) := (Inv.setA I7 rfl)
      refine Wp.deep (s_X12_paysAll_70 hG I8 (fun R9 M9 I9 => ?_)) (Nat.le_of_ble_eq_true rfl)
      refine Wp.deep (s_X12_quarrelsAll_70 hG I9 (fun R10 M10 I10 => ?_)) (Nat.le_of_ble_eq_true rfl)
      refine v_X12_within ?_
      refine ⟨fun hc11 => ?_, fun hc11 => ?_⟩
      · skip
        have f12 := ti_99999
        refine ⟨fun hc13 => ?_, fun hc13 => ?_⟩
        · skip
          refine v_X12_within ?_
          refine ⟨fun hc14 => ?_, fun hc14 => ?_⟩
          · skip
            have f15 := ti_999999
            refine ⟨fun hc16 => ?_, fun hc16 => ?_⟩
            · skip
              have I17 : Inv g (dSet M10 108 56 ((M10.1 108 56) + R9)) := (Inv.setA I10 rfl)
              have I18 : Inv g (dSet (dSet M10 108 56 ((M10.1 108 56) + R9)) 108 57 ((M10.1 108 57) + R10)) := (Inv.setA I17 rfl)
              exact (s_X12_hourGoes_70_all hG hQ 32).1 _ _ I18 (by omega) (by omega)
            · skip
              have I17 : Inv g (dSet M10 108 56 ((M10.1 108 56) + R9)) := (Inv.setA I10 rfl)
              have I18 : Inv g (dSet (dSet M10 108 56 ((M10.1 108 56) + R9)) 108 57 (999999 : Int32)) := (Inv.setA I17 rfl)
              exact (s_X12_hourGoes_70_all hG hQ 32).1 _ _ I18 (by omega) (by omega)
          · skip
            have I15 : Inv g (dSet M10 108 56 ((M10.1 108 56) + R9)) := (Inv.setA I10 rfl)
            have I16 : Inv g (dSet (dSet M10 108 56 ((M10.1 108 56) + R9)) 108 57 (0 : Int32)) := (Inv.setA I15 rfl)
            exact (s_X12_hourGoes_70_all hG hQ 32).1 _ _ I16 (by omega) (by omega)
        · skip
          refine v_X12_within ?_
          refine ⟨fun hc14 => ?_, fun hc14 => ?_⟩
          · skip
            have f15 := ti_999999
            refine ⟨fun hc16 => ?_, fun hc16 => ?_⟩
            · skip
              have I17 : Inv g (dSet M10 108 56 (99999 : Int32)) := (Inv.setA I10 rfl)
              have I18 : Inv g (dSet (dSet M10 108 56 (99999 : Int32)) 108 57 ((M10.1 108 57) + R10)) := (Inv.setA I17 rfl)
              exact (s_X12_hourGoes_70_all hG hQ 32).1 _ _ I18 (by omega) (by omega)
            · skip
              have I17 : Inv g (dSet M10 108 56 (99999 : Int32)) := (Inv.setA I10 rfl)
              have I18 : Inv g (dSet (dSet M10 108 56 (99999 : Int32)) 108 57 (999999 : Int32)) := (Inv.setA I17 rfl)
              exact (s_X12_hourGoes_70_all hG hQ 32).1 _ _ I18 (by omega) (by omega)
          · skip
            have I15 : Inv g (dSet M10 108 56 (99999 : Int32)) := (Inv.setA I10 rfl)
            have I16 : Inv g (dSet (dSet M10 108 56 (99999 : Int32)) 108 57 (0 : Int32)) := (Inv.setA I15 rfl)
            exact (s_X12_hourGoes_70_all hG hQ 32).1 _ _ I16 (by omega) (by omega)
      · skip
        refine v_X12_within ?_
        refine ⟨fun hc12 => ?_, fun hc12 => ?_⟩
        · skip
          have f13 := ti_999999
          refine ⟨fun hc14 => ?_, fun hc14 => ?_⟩
          · skip
            have I15 : Inv g (dSet M10 108 56 (0 : Int32)) := (Inv.setA I10 rfl)
            have I16 : Inv g (dSet (dSet M10 108 56 (0 : Int32)) 108 57 ((M10.1 108 57) + R10)) := (Inv.setA I15 rfl)
            exact (s_X12_hourGoes_70_all hG hQ 32).1 _ _ I16 (by omega) (by omega)
          · skip
            have I15 : Inv g (dSet M10 108 56 (0 : Int32)) := (Inv.setA I10 rfl)
            have I16 : Inv g (dSet (dSet M10 108 56 (0 : Int32)) 108 57 (999999 : Int32)) := (Inv.setA I15 rfl)
            exact (s_X12_hourGoes_70_all hG hQ 32).1 _ _ I16 (by omega) (by omega)
        · skip
          have I13 : Inv g (dSet M10 108 56 (0 : Int32)) := (Inv.setA I10 rfl)
          have I14 : Inv g (dSet (dSet M10 108 56 (0 : Int32)) 108 57 (0 : Int32)) := (Inv.setA I13 rfl)
          exact (s_X12_hourGoes_70_all hG hQ 32).1 _ _ I14 (by omega) (by omega)
    · skip
      have f5 := congrArg Int32.toInt (hI.2 70 18 rfl)
      have f6 := Inv.s hG hI (k := 70) (j := 18) rfl rfl
      refine ⟨by omega, ?_⟩
      have f7 := dRemE (x := (m.1 108 55)) (y := (24 : Int32)) (Y := 24) (by decide) (by decide)
      refine Wp.deep (s_X12_goingBits_70 hG hI (by omega) (fun R8 M8 I8 => ?_)) (Nat.le_of_ble_eq_true rfl)
      have I9 : Inv g (dSet M8 70 60 R8) := (Inv.setA I8 rfl)
      refine Wp.deep (s_X12_paysAll_70 hG I9 (fun R10 M10 I10 => ?_)) (Nat.le_of_ble_eq_true rfl)
      refine Wp.deep (s_X12_quarrelsAll_70 hG I10 (fun R11 M11 I11 => ?_)) (Nat.le_of_ble_eq_true rfl)
      refine v_X12_within ?_
      have f12 := ti_0
      refine ⟨fun hc13 => ?_, fun hc13 => ?_⟩
      · skip
        have f14 := ti_99999
        refine ⟨fun hc15 => ?_, fun hc15 => ?_⟩
        · skip
          refine v_X12_within ?_
          refine ⟨fun hc16 => ?_, fun hc16 => ?_⟩
          · skip
            have f17 := ti_999999
            refine ⟨fun hc18 => ?_, fun hc18 => ?_⟩
            · skip
              have I19 : Inv g (dSet M11 108 56 ((M11.1 108 56) + R10)) := (Inv.setA I11 rfl)
              have I20 : Inv g (dSet (dSet M11 108 56 ((M11.1 108 56) + R10)) 108 57 ((M11.1 108 57) + R11)) := (Inv.setA I19 rfl)
              exact (s_X12_hourGoes_70_all hG hQ 32).1 _ _ I20 (by omega) (by omega)
            · skip
              have I19 : Inv g (dSet M11 108 56 ((M11.1 108 56) + R10)) := (Inv.setA I11 rfl)
              have I20 : Inv g (dSet (dSet M11 108 56 ((M11.1 108 56) + R10)) 108 57 (999999 : Int32)) := (Inv.setA I19 rfl)
              exact (s_X12_hourGoes_70_all hG hQ 32).1 _ _ I20 (by omega) (by omega)
          · skip
            have I17 : Inv g (dSet M11 108 56 ((M11.1 108 56) + R10)) := (Inv.setA I11 rfl)
            have I18 : Inv g (dSet (dSet M11 108 56 ((M11.1 108 56) + R10)) 108 57 (0 : Int32)) := (Inv.setA I17 rfl)
            exact (s_X12_hourGoes_70_all hG hQ 32).1 _ _ I18 (by omega) (by omega)
        · skip
          refine v_X12_within ?_
          refine ⟨fun hc16 => ?_, fun hc16 => ?_⟩
          · skip
            have f17 := ti_999999
            refine ⟨fun hc18 => ?_, fun hc18 => ?_⟩
            · skip
              have I19 : Inv g (dSet M11 108 56 (99999 : Int32)) := (Inv.setA I11 rfl)
              have I20 : Inv g (dSet (dSet M11 108 56 (99999 : Int32)) 108 57 ((M11.1 108 57) + R11)) := (Inv.setA I19 rfl)
              exact (s_X12_hourGoes_70_all hG hQ 32).1 _ _ I20 (by omega) (by omega)
            · skip
              have I19 : Inv g (dSet M11 108 56 (99999 : Int32)) := (Inv.setA I11 rfl)
              have I20 : Inv g (dSet (dSet M11 108 56 (99999 : Int32)) 108 57 (999999 : Int32)) := (Inv.setA I19 rfl)
              exact (s_X12_hourGoes_70_all hG hQ 32).1 _ _ I20 (by omega) (by omega)
          · skip
            have I17 : Inv g (dSet M11 108 56 (99999 : Int32)) := (Inv.setA I11 rfl)
            have I18 : Inv g (dSet (dSet M11 108 56 (99999 : Int32)) 108 57 (0 : Int32)) := (Inv.setA I17 rfl)
            exact (s_X12_hourGoes_70_all hG hQ 32).1 _ _ I18 (by omega) (by omega)
      · skip
        refine v_X12_within ?_
        refine ⟨fun hc14 => ?_, fun hc14 => ?_⟩
        · skip
          have f15 := ti_999999
          refine ⟨fun hc16 => ?_, fun hc16 => ?_⟩
          · skip
            have I17 : Inv g (dSet M11 108 56 (0 : Int32)) := (Inv.setA I11 rfl)
            have I18 : Inv g (dSet (dSet M11 108 56 (0 : Int32)) 108 57 ((M11.1 108 57) + R11)) := (Inv.setA I17 rfl)
            exact (s_X12_hourGoes_70_all hG hQ 32).1 _ _ I18 (by omega) (by omega)
          · skip
            have I17 : Inv g (dSet M11 108 56 (0 : Int32)) := (Inv.setA I11 rfl)
            have I18 : Inv g (dSet (dSet M11 108 56 (0 : Int32)) 108 57 (999999 : Int32)) := (Inv.setA I17 rfl)
            exact (s_X12_hourGoes_70_all hG hQ 32).1 _ _ I18 (by omega) (by omega)
        · skip
          have I15 : Inv g (dSet M11 108 56 (0 : Int32)) := (Inv.setA I11 rfl)
          have I16 : Inv g (dSet (dSet M11 108 56 (0 : Int32)) 108 57 (0 : Int32)) := (Inv.setA I15 rfl)
          exact (s_X12_hourGoes_70_all hG hQ 32).1 _ _ I16 (by omega) (by omega)
theorem s_X12_goes_70_all {g : gM} {Q : dM → Prop} (hG : Gd g) (hQ : ∀ m' : dM, Inv g m' → Q m') : ∀ n : Nat, (∀ (x1 : Int32) (x2 : Int32) (m : dM), Inv g m → (0 ≤ x1.toInt ∧ x1.toInt ≤ 72) → (0 ≤ x2.toInt ∧ x2.toInt ≤ 72) → 72 - 1 * x2.toInt < (n : Int) → j_X12_goes_70_2 24 x1 x2 m Q) := by
  intro n
  induction n with
  | zero => exact fun x1 x2 m hI h1 h2 hμ => by exfalso; omega
  | succ n ih =>
    · intro x1 x2 m hI h1 h2 hμ
      refine v_X12_goes_70_2 ?_
      refine ⟨fun hc1 => ?_, fun hc1 => ?_⟩
      · skip
        exact hQ _ hI
      · skip
        refine Wp.deep (s_X12_hourGoes_70 hG hI (fun M2 I2 => ?_)) (Nat.le_of_ble_eq_true rfl)
        have f3 := dAddE (X := x2.toInt) (Y := 1) (x := x2) (y := (1 : Int32)) rfl (by decide) (by omega) (by omega)
        exact ih _ _ _ I2 (by omega) (by omega) (by omega)
theorem s_X12_goes_70 {g : gM} {x1 : Int32} {m : dM} {Q : dM → Prop} (hG : Gd g) (hI : Inv g m) (h1 : 0 ≤ x1.toInt ∧ x1.toInt ≤ 72) (hQ : ∀ m' : dM, Inv g m' → Q m') : c_X12_goes_70 24 x1 m Q := by
  refine v_X12_goes_70 ?_
  have f1 := ti_0
  exact (s_X12_goes_70_all hG hQ 74) _ _ _ hI (by omega) (by omega) (by omega)
theorem s_X12_hours_70 {g : gM} {x1 : Int32} {m : dM} {Q : Int32 → dM → Prop} (hG : Gd g) (hI : Inv g m) (hQ : ∀ (r : Int32) (m' : dM), Inv g m' → Q r m') : c_X12_hours_70 25 x1 m Q := by
  refine v_X12_hours_70 ?_
  refine v_X12_isLong ?_
  refine v_X12_in ?_
  have f1 := ti_0
  refine ⟨fun hc2 => ?_, fun hc2 => ?_⟩
  · skip
    refine v_X12_in_14 ?_
    refine ⟨by decide, ?_⟩
    refine ⟨fun hc3 => ?_, fun hc3 => ?_⟩
    · skip
      exfalso; omega
    · skip
      have f4 := ti_m1
      exact hQ _ _ hI
  · skip
    have f3 := ti_72
    refine ⟨fun hc4 => ?_, fun hc4 => ?_⟩
    · skip
      refine v_X12_in_14 ?_
      refine ⟨by decide, ?_⟩
      refine ⟨fun hc5 => ?_, fun hc5 => ?_⟩
      · skip
        exfalso; omega
      · skip
        have f6 := ti_m1
        exact hQ _ _ hI
    · skip
      have f5 := ti_1
      refine ⟨by decide, ?_⟩
      refine ⟨fun hc6 => ?_, fun hc6 => ?_⟩
      · skip
        refine ⟨fun hc7 => ?_, fun hc7 => ?_⟩
        · skip
          refine Wp.deep (s_X12_copies_70 hG hI (fun M8 I8 => ?_)) (Nat.le_of_ble_eq_true rfl)
          refine Wp.deep (s_X12_goes_70 hG I8 (by omega) (fun M9 I9 => ?_)) (Nat.le_of_ble_eq_true rfl)
          refine Wp.deep (s_X12_records_70 hG I9 (fun M10 I10 => ?_)) (Nat.le_of_ble_eq_true rfl)
          exact hQ _ _ I10
        · skip
          exact hQ _ _ hI
      · skip
        exfalso; omega
theorem s_X12_copiesStill_70 {g : gM} {m : dM} {Q : dM → Prop} (hG : Gd g) (hI : Inv g m) (hQ : ∀ m' : dM, Inv g m' → Q m') : c_X12_copiesStill_70 22 m Q := by
  refine v_X12_copiesStill_70 ?_
  refine Wp.deep (s_X12_copies_70 hG hI (fun M1 I1 => ?_)) (Nat.le_of_ble_eq_true rfl)
  have I2 : Inv g (dSet M1 70 57 (1 : Int32)) := (Inv.setA I1 rfl)
  exact hQ _ I2
theorem s_X12_peak_70_all {g : gM} {Q : Int32 → dM → Prop} (hG : Gd g) (hQ : ∀ (r : Int32) (m' : dM), Inv g m' → (-1 ≤ r.toInt) → Q r m') : ∀ n : Nat, (∀ (m : dM), Inv g m → 0 < (n : Int) → j_X12_peak_70_27 24 m Q) ∧ (∀ (x1 : Int32) (x2 : Int32) (x3 : Int32) (x4 : Int32) (x5 : Int32) (x6 : Int32) (m : dM), Inv g m → (0 ≤ x1.toInt ∧ x1.toInt ≤ 9) → (1 ≤ x2.toInt ∧ x2.toInt ≤ 48) → (0 ≤ x3.toInt ∧ x3.toInt ≤ 1) → (0 ≤ x4.toInt ∧ x4.toInt ≤ 47) → (-1 ≤ x5.toInt) → (0 ≤ x6.toInt ∧ x6.toInt ≤ 48) → 98 - 2 * x6.toInt < (n : Int) → j_X12_peak_70_42 24 x1 x2 x3 x4 x5 x6 m Q) ∧ (∀ (x1 : Int32) (x2 : Int32) (x3 : Int32) (x4 : Int32) (x5 : Int32) (x6 : Int32) (m : dM), Inv g m → (0 ≤ x1.toInt ∧ x1.toInt ≤ 9) → (1 ≤ x2.toInt ∧ x2.toInt ≤ 48) → (0 ≤ x3.toInt ∧ x3.toInt ≤ 1) → (0 ≤ x4.toInt ∧ x4.toInt ≤ 47) → (-1 ≤ x5.toInt) → (0 ≤ x6.toInt ∧ x6.toInt ≤ 47) → 97 - 2 * x6.toInt < (n : Int) → j_X12_peak_70_86 24 x1 x2 x3 x4 x5 x6 m Q) := by
  intro n
  induction n with
  | zero => exact ⟨fun m hI hμ => by exfalso; omega, fun x1 x2 x3 x4 x5 x6 m hI h1 h2 h3 h4 h5 h6 hμ => by exfalso; omega, fun x1 x2 x3 x4 x5 x6 m hI h1 h2 h3 h4 h5 h6 hμ => by exfalso; omega⟩
  | succ n ih =>
    refine ⟨?_, ?_, ?_⟩
    · intro m hI hμ
      refine v_X12_peak_70_27 ?_
      have f1 := ti_m1
      exact hQ _ _ hI (by omega)
    · intro x1 x2 x3 x4 x5 x6 m hI h1 h2 h3 h4 h5 h6 hμ
      refine v_X12_peak_70_42 ?_
      refine ⟨fun hc1 => ?_, fun hc1 => ?_⟩
      · skip
        refine ⟨fun hc2 => ?_, fun hc2 => ?_⟩
        · skip
          exact hQ _ _ hI (by omega)
        · skip
          exact hQ _ _ hI (by omega)
      · skip
        refine v_X12_isWhole_70 ?_
        refine v_X12_isWire_70 ?_
        have f2 := congrArg Int32.toInt (hI.2 70 18 rfl)
        have f3 := Inv.s hG hI (k := 70) (j := 18) rfl rfl
        refine ⟨by omega, ?_⟩
        refine v_X12_in ?_
        have f4 := ti_0
        refine ⟨fun hc5 => ?_, fun hc5 => ?_⟩
        · skip
          exfalso; omega
        · skip
          have f6 := Inv.cnt82 hG hI
          have f7 := Inv.s hG hI (k := 82) (j := (m.1 70 18).toNatClampNeg) rfl rfl
          have f8 := dSubE (X := (m.1 82 (m.1 70 18).toNatClampNeg).toInt) (Y := 1) (x := (m.1 82 (m.1 70 18).toNatClampNeg)) (y := (1 : Int32)) rfl (by decide) (by omega) (by omega)
          refine ⟨fun hc9 => ?_, fun hc9 => ?_⟩
          · skip
            refine v_X12_in_14 ?_
            refine ⟨by decide, ?_⟩
            refine ⟨fun hc10 => ?_, fun hc10 => ?_⟩
            · skip
              refine v_X12_isWhole_70_24 ?_
              refine ⟨fun hc11 => ?_, fun hc11 => ?_⟩
              · skip
                refine ⟨fun hc12 => ?_, fun hc12 => ?_⟩
                · skip
                  exact ih.2.2 _ _ _ _ _ _ _ hI (by omega) (by omega) (by omega) (by omega) (by omega) (by omega) (by omega)
                · skip
                  exact ih.2.2 _ _ _ _ _ _ _ hI (by omega) (by omega) (by omega) (by omega) (by omega) (by omega) (by omega)
              · skip
                exfalso; omega
            · skip
              exfalso; omega
          · skip
            have f10 := ti_1
            refine ⟨by decide, ?_⟩
            refine ⟨fun hc11 => ?_, fun hc11 => ?_⟩
            · skip
              exfalso; omega
            · skip
              have f12 := dAddE (X := 10) (Y := x1.toInt) (x := (10 : Int32)) (y := x1) (by decide) rfl (by omega) (by omega)
              refine ⟨by omega, ?_⟩
              refine ⟨fun hc13 => ?_, fun hc13 => ?_⟩
              · skip
                refine v_X12_isWhole_70_24 ?_
                refine ⟨fun hc14 => ?_, fun hc14 => ?_⟩
                · skip
                  refine ⟨fun hc15 => ?_, fun hc15 => ?_⟩
                  · skip
                    exact ih.2.2 _ _ _ _ _ _ _ hI (by omega) (by omega) (by omega) (by omega) (by omega) (by omega) (by omega)
                  · skip
                    exact ih.2.2 _ _ _ _ _ _ _ hI (by omega) (by omega) (by omega) (by omega) (by omega) (by omega) (by omega)
                · skip
                  exfalso; omega
              · skip
                refine ⟨fun hc14 => ?_, fun hc14 => ?_⟩
                · skip
                  exfalso; omega
                · skip
                  refine Wp.deep (s_X12_onNow_70 hG hI (fun R15 => ?_)) (Nat.le_of_ble_eq_true rfl)
                  refine Wp.deep (s_X12_loadBy_70 hG hI (by omega) (fun R16 => ?_)) (Nat.le_of_ble_eq_true rfl)
                  refine ⟨fun hc17 => ?_, fun hc17 => ?_⟩
                  · skip
                    exact ih.2.2 _ _ _ _ _ _ _ hI (by omega) (by omega) (by omega) (by omega) (by omega) (by omega) (by omega)
                  · skip
                    exact ih.2.2 _ _ _ _ _ _ _ hI (by omega) (by omega) (by omega) (by omega) (by omega) (by omega) (by omega)
    · intro x1 x2 x3 x4 x5 x6 m hI h1 h2 h3 h4 h5 h6 hμ
      refine v_X12_peak_70_86 ?_
      refine Wp.deep (s_X12_hourGoes_70 hG hI (fun M1 I1 => ?_)) (Nat.le_of_ble_eq_true rfl)
      have f2 := dAddE (X := x6.toInt) (Y := 1) (x := x6) (y := (1 : Int32)) rfl (by decide) (by omega) (by omega)
      exact ih.2.1 _ _ _ _ _ _ _ I1 (by omega) (by omega) (by omega) (by omega) (by omega) (by omega) (by omega)
theorem s_X12_peak_70 {g : gM} {x1 : Int32} {x2 : Int32} {x3 : Int32} {m : dM} {Q : Int32 → dM → Prop} (hG : Gd g) (hI : Inv g m) (hQ : ∀ (r : Int32) (m' : dM), Inv g m' → (-1 ≤ r.toInt) → Q r m') : c_X12_peak_70 24 x1 x2 x3 m Q := by
  refine v_X12_peak_70 ?_
  refine v_X12_isWire_70 ?_
  have f1 := congrArg Int32.toInt (hI.2 70 18 rfl)
  have f2 := Inv.s hG hI (k := 70) (j := 18) rfl rfl
  refine ⟨by omega, ?_⟩
  refine v_X12_in ?_
  have f3 := ti_0
  refine ⟨fun hc4 => ?_, fun hc4 => ?_⟩
  · skip
    refine v_X12_in_14 ?_
    refine ⟨by decide, ?_⟩
    refine ⟨fun hc5 => ?_, fun hc5 => ?_⟩
    · skip
      exact (s_X12_peak_70_all hG hQ 100).1 _ hI (by omega)
    · skip
      exfalso; omega
  · skip
    have f5 := Inv.cnt82 hG hI
    have f6 := Inv.s hG hI (k := 82) (j := (m.1 70 18).toNatClampNeg) rfl rfl
    have f7 := dSubE (X := (m.1 82 (m.1 70 18).toNatClampNeg).toInt) (Y := 1) (x := (m.1 82 (m.1 70 18).toNatClampNeg)) (y := (1 : Int32)) rfl (by decide) (by omega) (by omega)
    refine ⟨fun hc8 => ?_, fun hc8 => ?_⟩
    · skip
      refine v_X12_in_14 ?_
      refine ⟨by decide, ?_⟩
      refine ⟨fun hc9 => ?_, fun hc9 => ?_⟩
      · skip
        exact (s_X12_peak_70_all hG hQ 100).1 _ hI (by omega)
      · skip
        exfalso; omega
    · skip
      have f9 := ti_1
      refine ⟨by decide, ?_⟩
      refine ⟨fun hc10 => ?_, fun hc10 => ?_⟩
      · skip
        exfalso; omega
      · skip
        refine v_X12_in ?_
        refine ⟨fun hc11 => ?_, fun hc11 => ?_⟩
        · skip
          refine v_X12_in_14 ?_
          refine ⟨fun hc12 => ?_, fun hc12 => ?_⟩
          · skip
            exact (s_X12_peak_70_all hG hQ 100).1 _ hI (by omega)
          · skip
            exfalso; omega
        · skip
          have f12 := ti_48
          refine ⟨fun hc13 => ?_, fun hc13 => ?_⟩
          · skip
            refine v_X12_in_14 ?_
            refine ⟨fun hc14 => ?_, fun hc14 => ?_⟩
            · skip
              exact (s_X12_peak_70_all hG hQ 100).1 _ hI (by omega)
            · skip
              exfalso; omega
          · skip
            refine ⟨fun hc14 => ?_, fun hc14 => ?_⟩
            · skip
              exfalso; omega
            · skip
              refine v_X12_in ?_
              refine ⟨fun hc15 => ?_, fun hc15 => ?_⟩
              · skip
                refine v_X12_in_14 ?_
                refine ⟨fun hc16 => ?_, fun hc16 => ?_⟩
                · skip
                  exfalso; omega
                · skip
                  exact (s_X12_peak_70_all hG hQ 100).1 _ hI (by omega)
              · skip
                refine ⟨fun hc16 => ?_, fun hc16 => ?_⟩
                · skip
                  refine v_X12_in_14 ?_
                  refine ⟨fun hc17 => ?_, fun hc17 => ?_⟩
                  · skip
                    exfalso; omega
                  · skip
                    exact (s_X12_peak_70_all hG hQ 100).1 _ hI (by omega)
                · skip
                  refine ⟨fun hc17 => ?_, fun hc17 => ?_⟩
                  · skip
                    refine Wp.deep (s_X12_copiesStill_70 hG hI (fun M18 I18 => ?_)) (Nat.le_of_ble_eq_true rfl)
                    have f19 := ti_m1
                    exact (s_X12_peak_70_all hG hQ 100).2.1 _ _ _ _ _ _ _ I18 (by omega) (by omega) (by omega) (by omega) (by omega) (by omega) (by omega)
                  · skip
                    exfalso; omega
theorem s_X12_firstGoing_70_all {g : gM} {Q : Int32 → dM → Prop} (hG : Gd g) (hQ : ∀ (r : Int32) (m' : dM), Inv g m' → (1 ≤ r.toInt ∧ r.toInt ≤ 201) → Q r m') : ∀ n : Nat, (∀ (x1 : Int32) (m : dM), Inv g m → (1 ≤ x1.toInt ∧ x1.toInt ≤ 201) → 201 - 1 * x1.toInt < (n : Int) → j_X12_firstGoing_70_2 24 x1 m Q) := by
  intro n
  induction n with
  | zero => exact fun x1 m hI h1 hμ => by exfalso; omega
  | succ n ih =>
    · intro x1 m hI h1 hμ
      refine v_X12_firstGoing_70_2 ?_
      refine ⟨fun hc1 => ?_, fun hc1 => ?_⟩
      · skip
        have f2 := ti_201
        exact hQ _ _ hI (by omega)
      · skip
        refine Wp.deep (s_X12_hourGoes_70 hG hI (fun M2 I2 => ?_)) (Nat.le_of_ble_eq_true rfl)
        refine ⟨fun hc3 => ?_, fun hc3 => ?_⟩
        · skip
          have f4 := dAddE (X := x1.toInt) (Y := 1) (x := x1) (y := (1 : Int32)) rfl (by decide) (by omega) (by omega)
          exact ih _ _ I2 (by omega) (by omega)
        · skip
          exact hQ _ _ I2 (by omega)
theorem s_X12_firstGoing_70 {g : gM} {m : dM} {Q : Int32 → dM → Prop} (hG : Gd g) (hI : Inv g m) (hQ : ∀ (r : Int32) (m' : dM), Inv g m' → (1 ≤ r.toInt ∧ r.toInt ≤ 201) → Q r m') : c_X12_firstGoing_70 24 m Q := by
  refine v_X12_firstGoing_70 ?_
  have f1 := ti_1
  exact (s_X12_firstGoing_70_all hG hQ 202) _ _ hI (by omega) (by omega)
theorem s_X12_first_70 {g : gM} {x1 : Int32} {m : dM} {Q : Int32 → dM → Prop} (hG : Gd g) (hI : Inv g m) (hQ : ∀ (r : Int32) (m' : dM), Inv g m' → (-2 ≤ r.toInt ∧ r.toInt ≤ 200) → Q r m') : c_X12_first_70 25 x1 m Q := by
  refine v_X12_first_70 ?_
  refine v_X12_in ?_
  have f1 := ti_0
  refine ⟨fun hc2 => ?_, fun hc2 => ?_⟩
  · skip
    refine v_X12_in_14 ?_
    refine ⟨fun hc3 => ?_, fun hc3 => ?_⟩
    · skip
      exfalso; omega
    · skip
      have f4 := ti_m1
      exact hQ _ _ hI (by omega)
  · skip
    have f3 := ti_1
    refine ⟨fun hc4 => ?_, fun hc4 => ?_⟩
    · skip
      refine v_X12_in_14 ?_
      refine ⟨fun hc5 => ?_, fun hc5 => ?_⟩
      · skip
        exfalso; omega
      · skip
        have f6 := ti_m1
        exact hQ _ _ hI (by omega)
    · skip
      refine ⟨fun hc5 => ?_, fun hc5 => ?_⟩
      · skip
        refine Wp.deep (s_X12_copiesStill_70 hG hI (fun M6 I6 => ?_)) (Nat.le_of_ble_eq_true rfl)
        refine Wp.deep (s_X12_firstGoing_70 hG I6 (fun R7 M7 I7 hr7 => ?_)) (Nat.le_of_ble_eq_true rfl)
        refine ⟨fun hc8 => ?_, fun hc8 => ?_⟩
        · skip
          refine ⟨fun hc9 => ?_, fun hc9 => ?_⟩
          · skip
            refine Wp.deep (s_X12_lowestOf hG I7 (fun R10 hr10 => ?_)) (Nat.le_of_ble_eq_true rfl)
            exact hQ _ _ I7 (by omega)
          · skip
            exact hQ _ _ I7 (by omega)
        · skip
          have f9 := ti_m2
          exact hQ _ _ I7 (by omega)
      · skip
        exfalso; omega
theorem s_X12_together_70_all {g : gM} {Q : Int32 → dM → Prop} (hG : Gd g) (hQ : ∀ (r : Int32) (m' : dM), Inv g m' → (-1 ≤ r.toInt) → Q r m') : ∀ n : Nat, (∀ (x1 : Int32) (x2 : Int32) (x3 : Int32) (x4 : Int32) (x5 : Int32) (m : dM), Inv g m → (0 ≤ x1.toInt ∧ x1.toInt ≤ 1) → (0 ≤ x3.toInt ∧ x3.toInt ≤ 255) → (0 ≤ x4.toInt) → (1 ≤ x5.toInt ∧ x5.toInt ≤ 256) → 513 - 2 * x5.toInt < (n : Int) → j_X12_together_70_28 23 x1 x2 x3 x4 x5 m Q) ∧ (∀ (x1 : Int32) (x2 : Int32) (x3 : Int32) (x4 : Int32) (x5 : Int32) (m : dM), Inv g m → (0 ≤ x1.toInt ∧ x1.toInt ≤ 1) → (0 ≤ x3.toInt ∧ x3.toInt ≤ 255) → (0 ≤ x4.toInt) → (1 ≤ x5.toInt ∧ x5.toInt ≤ 255) → 512 - 2 * x5.toInt < (n : Int) → j_X12_together_70_101 23 x1 x2 x3 x4 x5 m Q) := by
  intro n
  induction n with
  | zero => exact ⟨fun x1 x2 x3 x4 x5 m hI h1 h3 h4 h5 hμ => by exfalso; omega, fun x1 x2 x3 x4 x5 m hI h1 h3 h4 h5 hμ => by exfalso; omega⟩
  | succ n ih =>
    refine ⟨?_, ?_⟩
    · intro x1 x2 x3 x4 x5 m hI h1 h3 h4 h5 hμ
      refine v_X12_together_70_28 ?_
      have f1 := congrArg Int32.toInt (hI.2 70 18 rfl)
      have f2 := Inv.s hG hI (k := 70) (j := 18) rfl rfl
      refine ⟨by omega, ?_⟩
      have f3 := Inv.cnt86 hG hI
      have f4 := Inv.s hG hI (k := 86) (j := (m.1 70 18).toNatClampNeg) rfl rfl
      have f5 := dShl8 (x := (m.1 86 (m.1 70 18).toNatClampNeg)) (by omega) (by omega)
      refine ⟨fun hc6 => ?_, fun hc6 => ?_⟩
      · skip
        refine ⟨fun hc7 => ?_, fun hc7 => ?_⟩
        · skip
          exact hQ _ _ hI (by omega)
        · skip
          exact hQ _ _ hI (by omega)
      · skip
        refine ⟨fun hc7 => ?_, fun hc7 => ?_⟩
        · skip
          refine Wp.deep (s_X12_paysAll_70 hG hI (fun R8 M8 I8 => ?_)) (Nat.le_of_ble_eq_true rfl)
          refine ⟨fun hc9 => ?_, fun hc9 => ?_⟩
          · skip
            exact ih.2 _ _ _ _ _ _ I8 (by omega) (by omega) (by omega) (by omega) (by omega)
          · skip
            have f10 := dRemE (x := (M8.1 108 55)) (y := (24 : Int32)) (Y := 24) (by decide) (by decide)
            have f11 := ti_0
            refine Wp.deep (s_X12_goingBits_70 hG I8 (by omega) (fun R12 M12 I12 => ?_)) (Nat.le_of_ble_eq_true rfl)
            refine ⟨fun hc13 => ?_, fun hc13 => ?_⟩
            · skip
              exact ih.2 _ _ _ _ _ _ I12 (by omega) (by omega) (by omega) (by omega) (by omega)
            · skip
              exact ih.2 _ _ _ _ _ _ I12 (by omega) (by omega) (by omega) (by omega) (by omega)
        · skip
          exact ih.2 _ _ _ _ _ _ hI (by omega) (by omega) (by omega) (by omega) (by omega)
    · intro x1 x2 x3 x4 x5 m hI h1 h3 h4 h5 hμ
      refine v_X12_together_70_101 ?_
      have f1 := dAddE (X := x5.toInt) (Y := 1) (x := x5) (y := (1 : Int32)) rfl (by decide) (by omega) (by omega)
      exact ih.1 _ _ _ _ _ _ hI (by omega) (by omega) (by omega) (by omega) (by omega)
theorem s_X12_together_70 {g : gM} {x1 : Int32} {m : dM} {Q : Int32 → dM → Prop} (hG : Gd g) (hI : Inv g m) (hQ : ∀ (r : Int32) (m' : dM), Inv g m' → (-1 ≤ r.toInt) → Q r m') : c_X12_together_70 23 x1 m Q := by
  refine v_X12_together_70 ?_
  refine v_X12_in ?_
  have f1 := ti_0
  refine ⟨fun hc2 => ?_, fun hc2 => ?_⟩
  · skip
    refine v_X12_in_14 ?_
    refine ⟨fun hc3 => ?_, fun hc3 => ?_⟩
    · skip
      exfalso; omega
    · skip
      have f4 := ti_m1
      exact hQ _ _ hI (by omega)
  · skip
    have f3 := ti_1
    refine ⟨fun hc4 => ?_, fun hc4 => ?_⟩
    · skip
      refine v_X12_in_14 ?_
      refine ⟨fun hc5 => ?_, fun hc5 => ?_⟩
      · skip
        exfalso; omega
      · skip
        have f6 := ti_m1
        exact hQ _ _ hI (by omega)
    · skip
      refine ⟨fun hc5 => ?_, fun hc5 => ?_⟩
      · skip
        refine Wp.deep (s_X12_copies_70 hG hI (fun M6 I6 => ?_)) (Nat.le_of_ble_eq_true rfl)
        refine Wp.deep (s_X12_usesLit_70 hG I6 (fun R7 => ?_)) (Nat.le_of_ble_eq_true rfl)
        exact (s_X12_together_70_all hG hQ 513).1 _ _ _ _ _ _ I6 (by omega) (by omega) (by omega) (by omega) (by omega)
      · skip
        exfalso; omega
theorem s_X12_canBegin_70_all {g : gM} {Q : Int32 → dM → Prop} (hG : Gd g) (hQ : ∀ (r : Int32) (m' : dM), Inv g m' → (0 ≤ r.toInt ∧ r.toInt ≤ 1) → Q r m') : ∀ n : Nat, (∀ (x1 : Int32) (x2 : Int32) (x3 : Int32) (x4 : Int32) (m : dM), Inv g m → (0 ≤ x1.toInt ∧ x1.toInt ≤ 7) → (0 ≤ x2.toInt ∧ x2.toInt ≤ 10022) → (-9999 ≤ x3.toInt ∧ x3.toInt ≤ 9999) → (0 ≤ x4.toInt ∧ x4.toInt ≤ 99999) → x1.toInt < (g 86 (gL g)).toInt → 199999 - 2 * x4.toInt < (n : Int) → j_X12_canBegin_70_33 23 x1 x2 x3 x4 m Q) ∧ (∀ (x1 : Int32) (x2 : Int32) (x3 : Int32) (x4 : Int32) (x5 : Int32) (m : dM), Inv g m → (0 ≤ x1.toInt ∧ x1.toInt ≤ 7) → (0 ≤ x2.toInt ∧ x2.toInt ≤ 10022) → (-9999 ≤ x3.toInt ∧ x3.toInt ≤ 9999) → (0 ≤ x4.toInt ∧ x4.toInt ≤ 20046) → x1.toInt < (g 86 (gL g)).toInt → 199998 - 2 * x4.toInt < (n : Int) → j_X12_canBegin_70_75 23 x1 x2 x3 x4 x5 m Q) := by
  intro n
  induction n with
  | zero => exact ⟨fun x1 x2 x3 x4 m hI h1 h2 h3 h4 hb1 hμ => by exfalso; omega, fun x1 x2 x3 x4 x5 m hI h1 h2 h3 h4 hb1 hμ => by exfalso; omega⟩
  | succ n ih =>
    refine ⟨?_, ?_⟩
    · intro x1 x2 x3 x4 m hI h1 h2 h3 h4 hb1 hμ
      refine v_X12_canBegin_70_33 ?_
      have f1 := dAddE (X := x2.toInt) (Y := x3.toInt) (x := x2) (y := x3) rfl rfl (by omega) (by omega)
      refine ⟨fun hc2 => ?_, fun hc2 => ?_⟩
      · skip
        have f3 := ti_1
        exact hQ _ _ hI (by omega)
      · skip
        refine Wp.deep (s_X12_onAt_70 hG hI (by omega) (fun R3 => ?_)) (Nat.le_of_ble_eq_true rfl)
        refine v_X12_flatAt_70 ?_
        have f4 := congrArg Int32.toInt (hI.2 70 18 rfl)
        have f5 := Inv.s hG hI (k := 70) (j := 18) rfl rfl
        have f6 := dMulE (X := 8) (Y := (m.1 70 18).toInt) (x := (8 : Int32)) (y := (m.1 70 18)) (by decide) rfl (by omega) (by omega)
        have f7 := dAddE (X := ((8 : Int32) * (m.1 70 18)).toInt) (Y := x1.toInt) (x := ((8 : Int32) * (m.1 70 18))) (y := x1) rfl rfl (by omega) (by omega)
        refine ⟨by omega, ?_⟩
        refine v_X12_isLit_70 ?_
        have f8 := Inv.cnt86 hG hI
        have f9 := Inv.s hG hI (k := 86) (j := (m.1 70 18).toNatClampNeg) rfl rfl
        have f10 := Inv.flat hG hI (u := x1) (by omega) (by omega)
        refine ⟨by omega, ?_⟩
        refine ⟨fun hc11 => ?_, fun hc11 => ?_⟩
        · skip
          have f12 := ti_0
          refine ⟨fun hc13 => ?_, fun hc13 => ?_⟩
          · skip
            have f14 := dShl8 (x := x1) (by omega) (by omega)
            exact ih.2 _ _ _ _ _ _ hI (by omega) (by omega) (by omega) (by omega) (by omega) (by omega)
          · skip
            exfalso; omega
        · skip
          have f12 := ti_1
          refine ⟨fun hc13 => ?_, fun hc13 => ?_⟩
          · skip
            exfalso; omega
          · skip
            have f14 := dShl8 (x := x1) (by omega) (by omega)
            exact ih.2 _ _ _ _ _ _ hI (by omega) (by omega) (by omega) (by omega) (by omega) (by omega)
    · intro x1 x2 x3 x4 x5 m hI h1 h2 h3 h4 hb1 hμ
      refine v_X12_canBegin_70_75 ?_
      have f1 := ti_0
      refine Wp.deep (s_X12_goingBits_70 hG hI (by omega) (fun R2 M2 I2 => ?_)) (Nat.le_of_ble_eq_true rfl)
      refine ⟨fun hc3 => ?_, fun hc3 => ?_⟩
      · skip
        have f4 := dAddE (X := x4.toInt) (Y := 1) (x := x4) (y := (1 : Int32)) rfl (by decide) (by omega) (by omega)
        exact ih.1 _ _ _ _ _ I2 (by omega) (by omega) (by omega) (by omega) (by omega) (by omega)
      · skip
        exact hQ _ _ I2 (by omega)
theorem s_X12_canBegin_70 {g : gM} {x1 : Int32} {x2 : Int32} {m : dM} {Q : Int32 → dM → Prop} (hG : Gd g) (hI : Inv g m) (h1 : 0 ≤ x1.toInt ∧ x1.toInt ≤ 7) (h2 : 0 ≤ x2.toInt ∧ x2.toInt ≤ 10022) (hb1 : x1.toInt < (g 86 (gL g)).toInt) (hQ : ∀ (r : Int32) (m' : dM), Inv g m' → (0 ≤ r.toInt ∧ r.toInt ≤ 1) → Q r m') : c_X12_canBegin_70 23 x1 x2 m Q := by
  refine v_X12_canBegin_70 ?_
  have f1 := congrArg Int32.toInt (hI.2 70 18 rfl)
  have f2 := Inv.s hG hI (k := 70) (j := 18) rfl rfl
  have f3 := dMulE (X := 8) (Y := (m.1 70 18).toInt) (x := (8 : Int32)) (y := (m.1 70 18)) (by decide) rfl (by omega) (by omega)
  have f4 := dAddE (X := ((8 : Int32) * (m.1 70 18)).toInt) (Y := x1.toInt) (x := ((8 : Int32) * (m.1 70 18))) (y := x1) rfl rfl (by omega) (by omega)
  refine ⟨by omega, ?_⟩
  refine ⟨by omega, ?_⟩
  have f5 := Inv.s hG hI (k := 90) (j := (((8 : Int32) * (m.1 70 18)) + x1).toNatClampNeg) rfl rfl
  have f6 := Inv.s hG hI (k := 89) (j := (((8 : Int32) * (m.1 70 18)) + x1).toNatClampNeg) rfl rfl
  have f7 := dSubE (X := (m.1 90 (((8 : Int32) * (m.1 70 18)) + x1).toNatClampNeg).toInt) (Y := (m.1 89 (((8 : Int32) * (m.1 70 18)) + x1).toNatClampNeg).toInt) (x := (m.1 90 (((8 : Int32) * (m.1 70 18)) + x1).toNatClampNeg)) (y := (m.1 89 (((8 : Int32) * (m.1 70 18)) + x1).toNatClampNeg)) rfl rfl (by omega) (by omega)
  exact (s_X12_canBegin_70_all hG hQ 200001).1 _ _ _ _ _ hI (by omega) (by omega) (by omega) (by omega) (by omega) (by omega)
end
section
theorem s_X12_when_70_all {g : gM} {Q : Int32 → dM → Prop} (hG : Gd g) (hQ : ∀ (r : Int32) (m' : dM), Inv g m' → (-2 ≤ r.toInt ∧ r.toInt ≤ 10022) → Q r m') : ∀ n : Nat, (∀ (x1 : Int32) (x2 : Int32) (x3 : Int32) (m : dM), Inv g m → (0 ≤ x1.toInt ∧ x1.toInt ≤ 7) → (-9999 ≤ x2.toInt ∧ x2.toInt ≤ 9999) → (0 ≤ x3.toInt ∧ x3.toInt ≤ 10023) → x1.toInt < (g 86 (gL g)).toInt → 10023 - 1 * x3.toInt < (n : Int) → j_X12_when_70_46 24 x1 x2 x3 m Q) := by
  intro n
  induction n with
  | zero => exact fun x1 x2 x3 m hI h1 h2 h3 hb1 hμ => by exfalso; omega
  | succ n ih =>
    · intro x1 x2 x3 m hI h1 h2 h3 hb1 hμ
      refine v_X12_when_70_46 ?_
      have f1 := dAddE (X := x3.toInt) (Y := x2.toInt) (x := x3) (y := x2) rfl rfl (by omega) (by omega)
      refine ⟨fun hc2 => ?_, fun hc2 => ?_⟩
      · skip
        have f3 := ti_m2
        exact hQ _ _ hI (by omega)
      · skip
        refine Wp.deep (s_X12_canBegin_70 hG hI (by omega) (by omega) (by omega) (fun R3 M3 I3 hr3 => ?_)) (Nat.le_of_ble_eq_true rfl)
        refine ⟨fun hc4 => ?_, fun hc4 => ?_⟩
        · skip
          have f5 := dAddE (X := x3.toInt) (Y := 1) (x := x3) (y := (1 : Int32)) rfl (by decide) (by omega) (by omega)
          exact ih _ _ _ _ I3 (by omega) (by omega) (by omega) (by omega) (by omega)
        · skip
          exact hQ _ _ I3 (by omega)
theorem s_X12_when_70 {g : gM} {x1 : Int32} {m : dM} {Q : Int32 → dM → Prop} (hG : Gd g) (hI : Inv g m) (hQ : ∀ (r : Int32) (m' : dM), Inv g m' → (-2 ≤ r.toInt ∧ r.toInt ≤ 10022) → Q r m') : c_X12_when_70 24 x1 m Q := by
  refine v_X12_when_70 ?_
  refine v_X12_isUse_70 ?_
  have f1 := congrArg Int32.toInt (hI.2 70 18 rfl)
  have f2 := Inv.s hG hI (k := 70) (j := 18) rfl rfl
  refine ⟨by omega, ?_⟩
  refine v_X12_in ?_
  have f3 := ti_0
  refine ⟨fun hc4 => ?_, fun hc4 => ?_⟩
  · skip
    refine v_X12_in_14 ?_
    refine ⟨by decide, ?_⟩
    refine ⟨fun hc5 => ?_, fun hc5 => ?_⟩
    · skip
      exfalso; omega
    · skip
      have f6 := ti_m1
      exact hQ _ _ hI (by omega)
  · skip
    have f5 := Inv.cnt86 hG hI
    have f6 := Inv.s hG hI (k := 86) (j := (m.1 70 18).toNatClampNeg) rfl rfl
    have f7 := dSubE (X := (m.1 86 (m.1 70 18).toNatClampNeg).toInt) (Y := 1) (x := (m.1 86 (m.1 70 18).toNatClampNeg)) (y := (1 : Int32)) rfl (by decide) (by omega) (by omega)
    refine ⟨fun hc8 => ?_, fun hc8 => ?_⟩
    · skip
      refine v_X12_in_14 ?_
      refine ⟨by decide, ?_⟩
      refine ⟨fun hc9 => ?_, fun hc9 => ?_⟩
      · skip
        exfalso; omega
      · skip
        have f10 := ti_m1
        exact hQ _ _ hI (by omega)
    · skip
      have f9 := ti_1
      refine ⟨by decide, ?_⟩
      refine ⟨fun hc10 => ?_, fun hc10 => ?_⟩
      · skip
        refine Wp.deep (s_X12_copies_70 hG hI (fun M11 I11 => ?_)) (Nat.le_of_ble_eq_true rfl)
        have f12 := congrArg Int32.toInt (I11.2 70 18 rfl)
        have f13 := Inv.s hG I11 (k := 70) (j := 18) rfl rfl
        have f14 := dMulE (X := 8) (Y := (M11.1 70 18).toInt) (x := (8 : Int32)) (y := (M11.1 70 18)) (by decide) rfl (by omega) (by omega)
        have f15 := dAddE (X := ((8 : Int32) * (M11.1 70 18)).toInt) (Y := x1.toInt) (x := ((8 : Int32) * (M11.1 70 18))) (y := x1) rfl rfl (by omega) (by omega)
        refine ⟨by omega, ?_⟩
        refine ⟨by omega, ?_⟩
        have f16 := Inv.s hG I11 (k := 90) (j := (((8 : Int32) * (M11.1 70 18)) + x1).toNatClampNeg) rfl rfl
        have f17 := Inv.s hG I11 (k := 89) (j := (((8 : Int32) * (M11.1 70 18)) + x1).toNatClampNeg) rfl rfl
        have f18 := dSubE (X := (M11.1 90 (((8 : Int32) * (M11.1 70 18)) + x1).toNatClampNeg).toInt) (Y := (M11.1 89 (((8 : Int32) * (M11.1 70 18)) + x1).toNatClampNeg).toInt) (x := (M11.1 90 (((8 : Int32) * (M11.1 70 18)) + x1).toNatClampNeg)) (y := (M11.1 89 (((8 : Int32) * (M11.1 70 18)) + x1).toNatClampNeg)) rfl rfl (by omega) (by omega)
        exact (s_X12_when_70_all hG hQ 10025) _ _ _ _ I11 (by omega) (by omega) (by omega) (by omega) (by omega)
      · skip
        exfalso; omega
theorem s_X12_thick_70_all {g : gM} {Q : Int32 → dM → Prop} (hG : Gd g) (hQ : ∀ (r : Int32) (m' : dM), Inv g m' → (-2 ≤ r.toInt ∧ r.toInt ≤ 9) → Q r m') : ∀ n : Nat, (∀ (x1 : Int32) (x2 : Int32) (x3 : Int32) (x4 : Int32) (m : dM), Inv g m → (1 ≤ x1.toInt ∧ x1.toInt ≤ 20) → (1 ≤ x2.toInt ∧ x2.toInt ≤ 201) → (-2 ≤ x3.toInt ∧ x3.toInt ≤ 9) → (0 ≤ x4.toInt ∧ x4.toInt ≤ 10) → 21 - 2 * x4.toInt < (n : Int) → j_X12_thick_70_27 25 x1 x2 x3 x4 m Q) ∧ (∀ (x1 : Int32) (x2 : Int32) (x3 : Int32) (x4 : Int32) (m : dM), Inv g m → (1 ≤ x1.toInt ∧ x1.toInt ≤ 20) → (1 ≤ x2.toInt ∧ x2.toInt ≤ 201) → (-2 ≤ x3.toInt ∧ x3.toInt ≤ 9) → (0 ≤ x4.toInt ∧ x4.toInt ≤ 9) → 20 - 2 * x4.toInt < (n : Int) → j_X12_thick_70_105 25 x1 x2 x3 x4 m Q) := by
  intro n
  induction n with
  | zero => exact ⟨fun x1 x2 x3 x4 m hI h1 h2 h3 h4 hμ => by exfalso; omega, fun x1 x2 x3 x4 m hI h1 h2 h3 h4 hμ => by exfalso; omega⟩
  | succ n ih =>
    refine ⟨?_, ?_⟩
    · intro x1 x2 x3 x4 m hI h1 h2 h3 h4 hμ
      refine v_X12_thick_70_27 ?_
      have f1 := congrArg Int32.toInt (hI.2 70 18 rfl)
      have f2 := Inv.s hG hI (k := 70) (j := 18) rfl rfl
      refine ⟨by omega, ?_⟩
      have f3 := Inv.cnt82 hG hI
      have f4 := Inv.s hG hI (k := 82) (j := (m.1 70 18).toNatClampNeg) rfl rfl
      refine ⟨fun hc5 => ?_, fun hc5 => ?_⟩
      · skip
        exact hQ _ _ hI (by omega)
      · skip
        have f6 := dAddE (X := 10) (Y := x4.toInt) (x := (10 : Int32)) (y := x4) (by decide) rfl (by omega) (by omega)
        refine ⟨by omega, ?_⟩
        refine ⟨fun hc7 => ?_, fun hc7 => ?_⟩
        · skip
          refine Wp.deep (s_X12_copiesStill_70 hG hI (fun M8 I8 => ?_)) (Nat.le_of_ble_eq_true rfl)
          refine ⟨by omega, ?_⟩
          refine v_X12_within ?_
          have f9 := ti_1
          refine ⟨fun hc10 => ?_, fun hc10 => ?_⟩
          · skip
            have f11 := ti_99
            refine ⟨fun hc12 => ?_, fun hc12 => ?_⟩
            · skip
              refine ⟨by omega, ?_⟩
              have I13 : Inv g (dSet M8 108 x4.toNatClampNeg ((M8.1 108 x4.toNatClampNeg) + x1)) := (Inv.setA I8 rfl)
              refine Wp.deep (s_X12_firstGoing_70 hG I13 (fun R14 M14 I14 hr14 => ?_)) (Nat.le_of_ble_eq_true rfl)
              refine ⟨fun hc15 => ?_, fun hc15 => ?_⟩
              · skip
                exact ih.2 _ _ _ _ _ I14 (by omega) (by omega) (by omega) (by omega) (by omega)
              · skip
                exact ih.2 _ _ _ _ _ I14 (by omega) (by omega) (by omega) (by omega) (by omega)
            · skip
              refine ⟨by omega, ?_⟩
              have I13 : Inv g (dSet M8 108 x4.toNatClampNeg (99 : Int32)) := (Inv.setA I8 rfl)
              refine Wp.deep (s_X12_firstGoing_70 hG I13 (fun R14 M14 I14 hr14 => ?_)) (Nat.le_of_ble_eq_true rfl)
              refine ⟨fun hc15 => ?_, fun hc15 => ?_⟩
              · skip
                exact ih.2 _ _ _ _ _ I14 (by omega) (by omega) (by omega) (by omega) (by omega)
              · skip
                exact ih.2 _ _ _ _ _ I14 (by omega) (by omega) (by omega) (by omega) (by omega)
          · skip
            refine ⟨by omega, ?_⟩
            have I11 : Inv g (dSet M8 108 x4.toNatClampNeg (1 : Int32)) := (Inv.setA I8 rfl)
            refine Wp.deep (s_X12_firstGoing_70 hG I11 (fun R12 M12 I12 hr12 => ?_)) (Nat.le_of_ble_eq_true rfl)
            refine ⟨fun hc13 => ?_, fun hc13 => ?_⟩
            · skip
              exact ih.2 _ _ _ _ _ I12 (by omega) (by omega) (by omega) (by omega) (by omega)
            · skip
              exact ih.2 _ _ _ _ _ I12 (by omega) (by omega) (by omega) (by omega) (by omega)
        · skip
          exact ih.2 _ _ _ _ _ hI (by omega) (by omega) (by omega) (by omega) (by omega)
    · intro x1 x2 x3 x4 m hI h1 h2 h3 h4 hμ
      refine v_X12_thick_70_105 ?_
      have f1 := dAddE (X := x4.toInt) (Y := 1) (x := x4) (y := (1 : Int32)) rfl (by decide) (by omega) (by omega)
      exact ih.1 _ _ _ _ _ hI (by omega) (by omega) (by omega) (by omega) (by omega)
theorem s_X12_thick_70 {g : gM} {x1 : Int32} {m : dM} {Q : Int32 → dM → Prop} (hG : Gd g) (hI : Inv g m) (hQ : ∀ (r : Int32) (m' : dM), Inv g m' → (-2 ≤ r.toInt ∧ r.toInt ≤ 9) → Q r m') : c_X12_thick_70 25 x1 m Q := by
  refine v_X12_thick_70 ?_
  refine v_X12_in ?_
  have f1 := ti_1
  refine ⟨fun hc2 => ?_, fun hc2 => ?_⟩
  · skip
    refine v_X12_in_14 ?_
    have f3 := ti_0
    refine ⟨fun hc4 => ?_, fun hc4 => ?_⟩
    · skip
      exfalso; omega
    · skip
      have f5 := ti_m1
      exact hQ _ _ hI (by omega)
  · skip
    have f3 := ti_20
    refine ⟨fun hc4 => ?_, fun hc4 => ?_⟩
    · skip
      refine v_X12_in_14 ?_
      have f5 := ti_0
      refine ⟨fun hc6 => ?_, fun hc6 => ?_⟩
      · skip
        exfalso; omega
      · skip
        have f7 := ti_m1
        exact hQ _ _ hI (by omega)
    · skip
      refine ⟨fun hc5 => ?_, fun hc5 => ?_⟩
      · skip
        refine Wp.deep (s_X12_copiesStill_70 hG hI (fun M6 I6 => ?_)) (Nat.le_of_ble_eq_true rfl)
        refine Wp.deep (s_X12_firstGoing_70 hG I6 (fun R7 M7 I7 hr7 => ?_)) (Nat.le_of_ble_eq_true rfl)
        have f8 := ti_m2
        have f9 := ti_0
        exact (s_X12_thick_70_all hG hQ 23).1 _ _ _ _ _ I7 (by omega) (by omega) (by omega) (by omega) (by omega)
      · skip
        exfalso; omega
theorem s_X1_leastCut_61_47_all {g : gM} {Q : Int32 → dM → Prop} {m : dM} (hG : Gd g) (hI : Inv g m) (hQ : ∀ r : Int32, Q r m) : ∀ n : Nat, (∀ (x2 : Int32) (x3 : Int32), (0 ≤ x2.toInt ∧ x2.toInt ≤ 6) → (0 ≤ x3.toInt ∧ x3.toInt ≤ 4) → 4 - 1 * x3.toInt < (n : Int) → j_X1_leastCut_61_47_2 21 x2 x3 m Q) := by
  intro n
  induction n with
  | zero => exact fun x2 x3 h2 h3 hμ => by exfalso; omega
  | succ n ih =>
    · intro x2 x3 h2 h3 hμ
      refine v_X1_leastCut_61_47_2 ?_
      refine ⟨fun hc1 => ?_, fun hc1 => ?_⟩
      · skip
        have f2 := ti_m1
        exact hQ _
      · skip
        have f2 := ti_0
        refine Wp.deep (s_X1_cutBy_2 hG hI (by omega) (by omega) (by omega) (fun R3 => ?_)) (Nat.le_of_ble_eq_true rfl)
        refine ⟨fun hc4 => ?_, fun hc4 => ?_⟩
        · skip
          have f5 := dAddE (X := x3.toInt) (Y := 1) (x := x3) (y := (1 : Int32)) rfl (by decide) (by omega) (by omega)
          exact ih _ _ (by omega) (by omega) (by omega)
        · skip
          exact hQ _
theorem s_X1_leastCut_61_47 {g : gM} {x2 : Int32} {m : dM} {Q : Int32 → dM → Prop} (hG : Gd g) (hI : Inv g m) (h2 : 0 ≤ x2.toInt ∧ x2.toInt ≤ 6) (hQ : ∀ r : Int32, Q r m) : c_X1_leastCut_61_47 21 x2 m Q := by
  refine v_X1_leastCut_61_47 ?_
  have f1 := ti_0
  exact (s_X1_leastCut_61_47_all hG hI hQ 6) _ _ (by omega) (by omega) (by omega)
theorem s_X11_cut_0 {g : gM} {x1 : Int32} {x2 : Int32} {m : dM} {Q : Int32 → dM → Prop} (hG : Gd g) (hI : Inv g m) (hQ : ∀ r : Int32, (-2 ≤ r.toInt ∧ r.toInt ≤ 63) → Q r m) : c_X11_cut_0 22 x1 x2 m Q := by
  refine v_X11_cut_0 ?_
  refine v_X11_isFlat_0 ?_
  refine ⟨fun hc1 => ?_, fun hc1 => ?_⟩
  · skip
    refine v_X11_isFlat_0_19 ?_
    have f2 := ti_0
    refine ⟨fun hc3 => ?_, fun hc3 => ?_⟩
    · skip
      refine v_X11_cut_0_18 ?_
      have f4 := ti_m1
      exact hQ _ (by omega)
    · skip
      exfalso; omega
  · skip
    have f2 := congrArg Int32.toInt (hI.2 2 0 rfl)
    have f3 := Inv.s hG hI (k := 2) (j := 0) rfl rfl
    refine ⟨fun hc4 => ?_, fun hc4 => ?_⟩
    · skip
      refine v_X11_isFlat_0_19 ?_
      have f5 := ti_0
      refine ⟨fun hc6 => ?_, fun hc6 => ?_⟩
      · skip
        refine v_X11_cut_0_18 ?_
        have f7 := ti_m1
        exact hQ _ (by omega)
      · skip
        exfalso; omega
    · skip
      have f5 := ti_1
      refine ⟨fun hc6 => ?_, fun hc6 => ?_⟩
      · skip
        exfalso; omega
      · skip
        refine ⟨fun hc7 => ?_, fun hc7 => ?_⟩
        · skip
          refine v_X11_cut_0_18 ?_
          have f8 := ti_m1
          exact hQ _ (by omega)
        · skip
          refine ⟨fun hc8 => ?_, fun hc8 => ?_⟩
          · skip
            refine Wp.deep (s_X1_leastCut_61_47 hG hI (by omega) (fun R9 => ?_)) (Nat.le_of_ble_eq_true rfl)
            refine ⟨fun hc10 => ?_, fun hc10 => ?_⟩
            · skip
              refine ⟨fun hc11 => ?_, fun hc11 => ?_⟩
              · skip
                refine Wp.deep (s_X11_bitAt hG hI (by omega) (fun R12 hr12 => ?_)) (Nat.le_of_ble_eq_true rfl)
                exact hQ _ (by omega)
              · skip
                refine Wp.deep (s_J6_bitCount hG hI (fun R12 hr12 => ?_)) (Nat.le_of_ble_eq_true rfl)
                exact hQ _ (by omega)
            · skip
              have f11 := ti_m2
              exact hQ _ (by omega)
          · skip
            refine v_X11_cut_0_18 ?_
            have f9 := ti_m1
            exact hQ _ (by omega)
theorem s_X12_loses_70_all {g : gM} {Q : dM → Prop} (hG : Gd g) (hQ : ∀ m' : dM, Inv g m' → Q m') : ∀ n : Nat, (∀ (x1 : Int32) (x2 : Int32) (m : dM), Inv g m → (0 ≤ x1.toInt ∧ x1.toInt ≤ 1024) → (0 ≤ x2.toInt ∧ x2.toInt ≤ 10) → 21 - 2 * x2.toInt < (n : Int) → j_X12_loses_70_6 22 x1 x2 m Q) ∧ (∀ (x1 : Int32) (x2 : Int32) (m : dM), Inv g m → (0 ≤ x1.toInt ∧ x1.toInt ≤ 1024) → (0 ≤ x2.toInt ∧ x2.toInt ≤ 9) → 20 - 2 * x2.toInt < (n : Int) → j_X12_loses_70_31 22 x1 x2 m Q) := by
  intro n
  induction n with
  | zero => exact ⟨fun x1 x2 m hI h1 h2 hμ => by exfalso; omega, fun x1 x2 m hI h1 h2 hμ => by exfalso; omega⟩
  | succ n ih =>
    refine ⟨?_, ?_⟩
    · intro x1 x2 m hI h1 h2 hμ
      refine v_X12_loses_70_6 ?_
      refine ⟨fun hc1 => ?_, fun hc1 => ?_⟩
      · skip
        refine Wp.deep (s_X12_fillsWays_70 hG hI (fun M2 I2 => ?_)) (Nat.le_of_ble_eq_true rfl)
        exact hQ _ I2
      · skip
        have f2 := ti_1
        have f3 := dAndE (x := (x1 >>> (x2 &&& 31))) (y := (1 : Int32)) (by decide)
        refine ⟨fun hc4 => ?_, fun hc4 => ?_⟩
        · skip
          exact ih.2 _ _ _ hI (by omega) (by omega) (by omega)
        · skip
          have f5 := dAddE (X := 10) (Y := x2.toInt) (x := (10 : Int32)) (y := x2) (by decide) rfl (by omega) (by omega)
          refine ⟨by omega, ?_⟩
          have I6 : Inv g (dSet m 108 ((10 : Int32) + x2).toNatClampNeg (1 : Int32)) := (Inv.setA hI rfl)
          exact ih.2 _ _ _ I6 (by omega) (by omega) (by omega)
    · intro x1 x2 m hI h1 h2 hμ
      refine v_X12_loses_70_31 ?_
      have f1 := dAddE (X := x2.toInt) (Y := 1) (x := x2) (y := (1 : Int32)) rfl (by decide) (by omega) (by omega)
      exact ih.1 _ _ _ hI (by omega) (by omega) (by omega)
theorem s_X12_loses_70 {g : gM} {x1 : Int32} {m : dM} {Q : dM → Prop} (hG : Gd g) (hI : Inv g m) (h1 : 0 ≤ x1.toInt ∧ x1.toInt ≤ 1024) (hQ : ∀ m' : dM, Inv g m' → Q m') : c_X12_loses_70 22 x1 m Q := by
  refine v_X12_loses_70 ?_
  refine Wp.deep (s_X12_copies_70 hG hI (fun M1 I1 => ?_)) (Nat.le_of_ble_eq_true rfl)
  have f2 := ti_0
  exact (s_X12_loses_70_all hG hQ 23).1 _ _ _ I1 (by omega) (by omega) (by omega)
theorem s_X12_cut_70_all {g : gM} {Q : Int32 → dM → Prop} (hG : Gd g) (hQ : ∀ (r : Int32) (m' : dM), Inv g m' → Q r m') : ∀ n : Nat, (∀ (m : dM), Inv g m → 0 < (n : Int) → j_X12_cut_70_17 23 m Q) ∧ (∀ (x1 : Int32) (x2 : Int32) (x3 : Int32) (x4 : Int32) (x5 : Int32) (m : dM), Inv g m → (0 ≤ x1.toInt ∧ x1.toInt ≤ 6) → (-1 ≤ x2.toInt ∧ x2.toInt ≤ 2) → (-1 ≤ x4.toInt ∧ x4.toInt ≤ 1023) → (0 ≤ x5.toInt ∧ x5.toInt ≤ 1024) → 3075 - 3 * x5.toInt < (n : Int) → j_X12_cut_70_30 23 x1 x2 x3 x4 x5 m Q) ∧ (∀ (x1 : Int32) (x2 : Int32) (x3 : Int32) (x4 : Int32) (x5 : Int32) (m : dM), Inv g m → (0 ≤ x1.toInt ∧ x1.toInt ≤ 6) → (-1 ≤ x2.toInt ∧ x2.toInt ≤ 2) → (-1 ≤ x4.toInt ∧ x4.toInt ≤ 1023) → (0 ≤ x5.toInt ∧ x5.toInt ≤ 1023) → 3074 - 3 * x5.toInt < (n : Int) → j_X12_cut_70_109 23 x1 x2 x3 x4 x5 m Q) ∧ (∀ (x1 : Int32) (x2 : Int32) (x3 : Int32) (x4 : Int32) (x5 : Int32) (m : dM), Inv g m → (0 ≤ x1.toInt ∧ x1.toInt ≤ 6) → (-1 ≤ x2.toInt ∧ x2.toInt ≤ 2) → (-1 ≤ x4.toInt ∧ x4.toInt ≤ 1023) → (0 ≤ x5.toInt ∧ x5.toInt ≤ 1023) → 3073 - 3 * x5.toInt < (n : Int) → j_X12_cut_70_127 23 x1 x2 x3 x4 x5 m Q) := by
  intro n
  induction n with
  | zero => exact ⟨fun m hI hμ => by exfalso; omega, fun x1 x2 x3 x4 x5 m hI h1 h2 h4 h5 hμ => by exfalso; omega, fun x1 x2 x3 x4 x5 m hI h1 h2 h4 h5 hμ => by exfalso; omega, fun x1 x2 x3 x4 x5 m hI h1 h2 h4 h5 hμ => by exfalso; omega⟩
  | succ n ih =>
    refine ⟨?_, ?_, ?_, ?_⟩
    · intro m hI hμ
      refine v_X12_cut_70_17 ?_
      have f1 := ti_m1
      exact hQ _ _ hI
    · intro x1 x2 x3 x4 x5 m hI h1 h2 h4 h5 hμ
      refine v_X12_cut_70_30 ?_
      have f1 := congrArg Int32.toInt (hI.2 70 18 rfl)
      have f2 := Inv.s hG hI (k := 70) (j := 18) rfl rfl
      refine ⟨by omega, ?_⟩
      have f3 := Inv.cnt82 hG hI
      have f4 := Inv.s hG hI (k := 82) (j := (m.1 70 18).toNatClampNeg) rfl rfl
      have f5 := dShl10 (x := (m.1 82 (m.1 70 18).toNatClampNeg)) (by omega) (by omega)
      refine ⟨fun hc6 => ?_, fun hc6 => ?_⟩
      · skip
        refine ⟨fun hc7 => ?_, fun hc7 => ?_⟩
        · skip
          refine ⟨fun hc8 => ?_, fun hc8 => ?_⟩
          · skip
            refine Wp.deep (s_X12_ithOf hG hI (by omega) (by omega) (fun R9 hr9 => ?_)) (Nat.le_of_ble_eq_true rfl)
            exact hQ _ _ hI
          · skip
            refine Wp.deep (s_X12_bits hG hI (fun R9 => ?_)) (Nat.le_of_ble_eq_true rfl)
            exact hQ _ _ hI
        · skip
          have f8 := ti_m2
          exact hQ _ _ hI
      · skip
        refine Wp.deep (s_X12_bits hG hI (fun R7 => ?_)) (Nat.le_of_ble_eq_true rfl)
        refine ⟨fun hc8 => ?_, fun hc8 => ?_⟩
        · skip
          exact ih.2.2.2 _ _ _ _ _ _ hI (by omega) (by omega) (by omega) (by omega) (by omega)
        · skip
          refine ⟨fun hc9 => ?_, fun hc9 => ?_⟩
          · skip
            refine ⟨fun hc10 => ?_, fun hc10 => ?_⟩
            · skip
              exact ih.2.2.1 _ _ _ _ _ _ hI (by omega) (by omega) (by omega) (by omega) (by omega)
            · skip
              refine Wp.deep (s_X12_bits hG hI (fun R11 => ?_)) (Nat.le_of_ble_eq_true rfl)
              refine Wp.deep (s_X12_bits hG hI (fun R12 => ?_)) (Nat.le_of_ble_eq_true rfl)
              refine ⟨fun hc13 => ?_, fun hc13 => ?_⟩
              · skip
                exact ih.2.2.2 _ _ _ _ _ _ hI (by omega) (by omega) (by omega) (by omega) (by omega)
              · skip
                refine Wp.deep (s_X12_bits hG hI (fun R14 => ?_)) (Nat.le_of_ble_eq_true rfl)
                refine Wp.deep (s_X12_bits hG hI (fun R15 => ?_)) (Nat.le_of_ble_eq_true rfl)
                refine ⟨fun hc16 => ?_, fun hc16 => ?_⟩
                · skip
                  exact ih.2.2.1 _ _ _ _ _ _ hI (by omega) (by omega) (by omega) (by omega) (by omega)
                · skip
                  refine Wp.deep (s_X12_isEarlier hG hI (by omega) (by omega) (fun R17 hr17 => ?_)) (Nat.le_of_ble_eq_true rfl)
                  refine ⟨fun hc18 => ?_, fun hc18 => ?_⟩
                  · skip
                    exact ih.2.2.1 _ _ _ _ _ _ hI (by omega) (by omega) (by omega) (by omega) (by omega)
                  · skip
                    exact ih.2.2.2 _ _ _ _ _ _ hI (by omega) (by omega) (by omega) (by omega) (by omega)
          · skip
            exact ih.2.2.2 _ _ _ _ _ _ hI (by omega) (by omega) (by omega) (by omega) (by omega)
    · intro x1 x2 x3 x4 x5 m hI h1 h2 h4 h5 hμ
      refine v_X12_cut_70_109 ?_
      refine Wp.deep (s_X12_loses_70 hG hI (by omega) (fun M1 I1 => ?_)) (Nat.le_of_ble_eq_true rfl)
      refine v_X12_isLit_70 ?_
      refine ⟨by omega, ?_⟩
      refine ⟨fun hc2 => ?_, fun hc2 => ?_⟩
      · skip
        have f3 := ti_0
        refine ⟨fun hc4 => ?_, fun hc4 => ?_⟩
        · skip
          exfalso; omega
        · skip
          exact ih.2.2.2 _ _ _ _ _ _ I1 (by omega) (by omega) (by omega) (by omega) (by omega)
      · skip
        have f3 := ti_1
        refine ⟨fun hc4 => ?_, fun hc4 => ?_⟩
        · skip
          exact ih.2.2.2 _ _ _ _ _ _ I1 (by omega) (by omega) (by omega) (by omega) (by omega)
        · skip
          exfalso; omega
    · intro x1 x2 x3 x4 x5 m hI h1 h2 h4 h5 hμ
      refine v_X12_cut_70_127 ?_
      have f1 := dAddE (X := x5.toInt) (Y := 1) (x := x5) (y := (1 : Int32)) rfl (by decide) (by omega) (by omega)
      exact ih.2.1 _ _ _ _ _ _ hI (by omega) (by omega) (by omega) (by omega) (by omega)
theorem s_X12_cut_70 {g : gM} {x1 : Int32} {x2 : Int32} {m : dM} {Q : Int32 → dM → Prop} (hG : Gd g) (hI : Inv g m) (hQ : ∀ (r : Int32) (m' : dM), Inv g m' → Q r m') : c_X12_cut_70 23 x1 x2 m Q := by
  refine v_X12_cut_70 ?_
  refine v_X12_isFlat_70 ?_
  have f1 := congrArg Int32.toInt (hI.2 70 18 rfl)
  have f2 := Inv.s hG hI (k := 70) (j := 18) rfl rfl
  refine ⟨by omega, ?_⟩
  refine v_X12_in ?_
  have f3 := ti_0
  refine ⟨fun hc4 => ?_, fun hc4 => ?_⟩
  · skip
    refine v_X12_in_14 ?_
    refine ⟨by decide, ?_⟩
    refine ⟨fun hc5 => ?_, fun hc5 => ?_⟩
    · skip
      exact (s_X12_cut_70_all hG hQ 3077).1 _ hI (by omega)
    · skip
      exfalso; omega
  · skip
    have f5 := Inv.cnt80 hG hI
    have f6 := Inv.s hG hI (k := 80) (j := (m.1 70 18).toNatClampNeg) rfl rfl
    have f7 := dSubE (X := (m.1 80 (m.1 70 18).toNatClampNeg).toInt) (Y := 1) (x := (m.1 80 (m.1 70 18).toNatClampNeg)) (y := (1 : Int32)) rfl (by decide) (by omega) (by omega)
    refine ⟨fun hc8 => ?_, fun hc8 => ?_⟩
    · skip
      refine v_X12_in_14 ?_
      refine ⟨by decide, ?_⟩
      refine ⟨fun hc9 => ?_, fun hc9 => ?_⟩
      · skip
        exact (s_X12_cut_70_all hG hQ 3077).1 _ hI (by omega)
      · skip
        exfalso; omega
    · skip
      have f9 := ti_1
      refine ⟨by decide, ?_⟩
      refine ⟨fun hc10 => ?_, fun hc10 => ?_⟩
      · skip
        exfalso; omega
      · skip
        refine v_X12_in ?_
        have f11 := ti_m1
        refine ⟨fun hc12 => ?_, fun hc12 => ?_⟩
        · skip
          refine v_X12_in_14 ?_
          refine ⟨fun hc13 => ?_, fun hc13 => ?_⟩
          · skip
            exfalso; omega
          · skip
            exact (s_X12_cut_70_all hG hQ 3077).1 _ hI (by omega)
        · skip
          have f13 := ti_2
          refine ⟨fun hc14 => ?_, fun hc14 => ?_⟩
          · skip
            refine v_X12_in_14 ?_
            refine ⟨fun hc15 => ?_, fun hc15 => ?_⟩
            · skip
              exfalso; omega
            · skip
              exact (s_X12_cut_70_all hG hQ 3077).1 _ hI (by omega)
          · skip
            refine ⟨fun hc15 => ?_, fun hc15 => ?_⟩
            · skip
              refine Wp.deep (s_X12_goneBits_70 hG hI (fun R16 => ?_)) (Nat.le_of_ble_eq_true rfl)
              exact (s_X12_cut_70_all hG hQ 3077).2.1 _ _ _ _ _ _ hI (by omega) (by omega) (by omega) (by omega) (by omega)
            · skip
              exfalso; omega
theorem s_X12_share_70 {g : gM} {x1 : Int32} {x2 : Int32} {m : dM} {Q : Int32 → dM → Prop} (hG : Gd g) (hI : Inv g m) (hQ : ∀ (r : Int32) (m' : dM), Inv g m' → Q r m') : c_X12_share_70 22 x1 x2 m Q := by
  refine v_X12_share_70 ?_
  refine v_X12_isFlat_70 ?_
  have f1 := congrArg Int32.toInt (hI.2 70 18 rfl)
  have f2 := Inv.s hG hI (k := 70) (j := 18) rfl rfl
  refine ⟨by omega, ?_⟩
  refine v_X12_in ?_
  have f3 := ti_0
  refine ⟨fun hc4 => ?_, fun hc4 => ?_⟩
  · skip
    refine v_X12_in_14 ?_
    refine ⟨by decide, ?_⟩
    refine ⟨fun hc5 => ?_, fun hc5 => ?_⟩
    · skip
      refine v_X12_share_70_16 ?_
      have f6 := ti_m1
      exact hQ _ _ hI
    · skip
      exfalso; omega
  · skip
    have f5 := Inv.cnt80 hG hI
    have f6 := Inv.s hG hI (k := 80) (j := (m.1 70 18).toNatClampNeg) rfl rfl
    have f7 := dSubE (X := (m.1 80 (m.1 70 18).toNatClampNeg).toInt) (Y := 1) (x := (m.1 80 (m.1 70 18).toNatClampNeg)) (y := (1 : Int32)) rfl (by decide) (by omega) (by omega)
    refine ⟨fun hc8 => ?_, fun hc8 => ?_⟩
    · skip
      refine v_X12_in_14 ?_
      refine ⟨by decide, ?_⟩
      refine ⟨fun hc9 => ?_, fun hc9 => ?_⟩
      · skip
        refine v_X12_share_70_16 ?_
        have f10 := ti_m1
        exact hQ _ _ hI
      · skip
        exfalso; omega
    · skip
      have f9 := ti_1
      refine ⟨by decide, ?_⟩
      refine ⟨fun hc10 => ?_, fun hc10 => ?_⟩
      · skip
        exfalso; omega
      · skip
        refine v_X12_isWire_70 ?_
        refine ⟨by omega, ?_⟩
        refine v_X12_in ?_
        refine ⟨fun hc11 => ?_, fun hc11 => ?_⟩
        · skip
          refine v_X12_in_14 ?_
          refine ⟨by decide, ?_⟩
          refine ⟨fun hc12 => ?_, fun hc12 => ?_⟩
          · skip
            exfalso; omega
          · skip
            refine v_X12_share_70_16 ?_
            have f13 := ti_m1
            exact hQ _ _ hI
        · skip
          have f12 := Inv.cnt82 hG hI
          have f13 := Inv.s hG hI (k := 82) (j := (m.1 70 18).toNatClampNeg) rfl rfl
          have f14 := dSubE (X := (m.1 82 (m.1 70 18).toNatClampNeg).toInt) (Y := 1) (x := (m.1 82 (m.1 70 18).toNatClampNeg)) (y := (1 : Int32)) rfl (by decide) (by omega) (by omega)
          refine ⟨fun hc15 => ?_, fun hc15 => ?_⟩
          · skip
            refine v_X12_in_14 ?_
            refine ⟨by decide, ?_⟩
            refine ⟨fun hc16 => ?_, fun hc16 => ?_⟩
            · skip
              exfalso; omega
            · skip
              refine v_X12_share_70_16 ?_
              have f17 := ti_m1
              exact hQ _ _ hI
          · skip
            refine ⟨by decide, ?_⟩
            refine ⟨fun hc16 => ?_, fun hc16 => ?_⟩
            · skip
              refine Wp.deep (s_X12_copies_70 hG hI (fun M17 I17 => ?_)) (Nat.le_of_ble_eq_true rfl)
              refine ⟨by omega, ?_⟩
              have f18 := dAndE (x := ((M17.1 110 x1.toNatClampNeg) >>> (x2 &&& 31))) (y := (1 : Int32)) (by decide)
              refine ⟨fun hc19 => ?_, fun hc19 => ?_⟩
              · skip
                exact hQ _ _ I17
              · skip
                refine Wp.deep (s_X12_ampsOn_70 hG I17 (by omega) (fun R20 => ?_)) (Nat.le_of_ble_eq_true rfl)
                exact hQ _ _ I17
            · skip
              exfalso; omega
theorem s_X12_without_70 {g : gM} {x1 : Int32} {m : dM} {Q : Int32 → dM → Prop} (hG : Gd g) (hI : Inv g m) (hQ : ∀ (r : Int32) (m' : dM), Inv g m' → Q r m') : c_X12_without_70 23 x1 m Q := by
  refine v_X12_without_70 ?_
  refine v_X12_isWire_70 ?_
  have f1 := congrArg Int32.toInt (hI.2 70 18 rfl)
  have f2 := Inv.s hG hI (k := 70) (j := 18) rfl rfl
  refine ⟨by omega, ?_⟩
  refine v_X12_in ?_
  have f3 := ti_0
  refine ⟨fun hc4 => ?_, fun hc4 => ?_⟩
  · skip
    refine v_X12_in_14 ?_
    refine ⟨by decide, ?_⟩
    refine ⟨fun hc5 => ?_, fun hc5 => ?_⟩
    · skip
      exfalso; omega
    · skip
      have f6 := ti_m1
      exact hQ _ _ hI
  · skip
    have f5 := Inv.cnt82 hG hI
    have f6 := Inv.s hG hI (k := 82) (j := (m.1 70 18).toNatClampNeg) rfl rfl
    have f7 := dSubE (X := (m.1 82 (m.1 70 18).toNatClampNeg).toInt) (Y := 1) (x := (m.1 82 (m.1 70 18).toNatClampNeg)) (y := (1 : Int32)) rfl (by decide) (by omega) (by omega)
    refine ⟨fun hc8 => ?_, fun hc8 => ?_⟩
    · skip
      refine v_X12_in_14 ?_
      refine ⟨by decide, ?_⟩
      refine ⟨fun hc9 => ?_, fun hc9 => ?_⟩
      · skip
        exfalso; omega
      · skip
        have f10 := ti_m1
        exact hQ _ _ hI
    · skip
      have f9 := ti_1
      refine ⟨by decide, ?_⟩
      refine ⟨fun hc10 => ?_, fun hc10 => ?_⟩
      · skip
        have f11 := dShl10 (x := x1) (by omega) (by omega)
        refine Wp.deep (s_X12_loses_70 hG hI (by omega) (fun M12 I12 => ?_)) (Nat.le_of_ble_eq_true rfl)
        refine Wp.deep (s_X12_darkBits_70 hG I12 (fun R13 => ?_)) (Nat.le_of_ble_eq_true rfl)
        exact hQ _ _ I12
      · skip
        exfalso; omega
theorem s_X12_needed_70_all {g : gM} {Q : Int32 → dM → Prop} (hG : Gd g) (hQ : ∀ (r : Int32) (m' : dM), Inv g m' → Q r m') : ∀ n : Nat, (∀ (x1 : Int32) (x2 : Int32) (x3 : Int32) (m : dM), Inv g m → (0 ≤ x3.toInt ∧ x3.toInt ≤ 10) → 21 - 2 * x3.toInt < (n : Int) → j_X12_needed_70_13 23 x1 x2 x3 m Q) ∧ (∀ (x1 : Int32) (x2 : Int32) (x3 : Int32) (m : dM), Inv g m → (0 ≤ x3.toInt ∧ x3.toInt ≤ 9) → 20 - 2 * x3.toInt < (n : Int) → j_X12_needed_70_63 23 x1 x2 x3 m Q) := by
  intro n
  induction n with
  | zero => exact ⟨fun x1 x2 x3 m hI h3 hμ => by exfalso; omega, fun x1 x2 x3 m hI h3 hμ => by exfalso; omega⟩
  | succ n ih =>
    refine ⟨?_, ?_⟩
    · intro x1 x2 x3 m hI h3 hμ
      refine v_X12_needed_70_13 ?_
      have f1 := congrArg Int32.toInt (hI.2 70 18 rfl)
      have f2 := Inv.s hG hI (k := 70) (j := 18) rfl rfl
      refine ⟨by omega, ?_⟩
      have f3 := Inv.cnt82 hG hI
      have f4 := Inv.s hG hI (k := 82) (j := (m.1 70 18).toNatClampNeg) rfl rfl
      refine ⟨fun hc5 => ?_, fun hc5 => ?_⟩
      · skip
        exact hQ _ _ hI
      · skip
        have f6 := dAddE (X := 10) (Y := x3.toInt) (x := (10 : Int32)) (y := x3) (by decide) rfl (by omega) (by omega)
        refine ⟨by omega, ?_⟩
        refine ⟨fun hc7 => ?_, fun hc7 => ?_⟩
        · skip
          have f8 := dShl10 (x := x3) (by omega) (by omega)
          refine Wp.deep (s_X12_loses_70 hG hI (by omega) (fun M9 I9 => ?_)) (Nat.le_of_ble_eq_true rfl)
          refine Wp.deep (s_X12_darkBits_70 hG I9 (fun R10 => ?_)) (Nat.le_of_ble_eq_true rfl)
          refine ⟨fun hc11 => ?_, fun hc11 => ?_⟩
          · skip
            exact ih.2 _ _ _ _ I9 (by omega) (by omega)
          · skip
            exact ih.2 _ _ _ _ I9 (by omega) (by omega)
        · skip
          exact ih.2 _ _ _ _ hI (by omega) (by omega)
    · intro x1 x2 x3 m hI h3 hμ
      refine v_X12_needed_70_63 ?_
      have f1 := dAddE (X := x3.toInt) (Y := 1) (x := x3) (y := (1 : Int32)) rfl (by decide) (by omega) (by omega)
      exact ih.1 _ _ _ _ hI (by omega) (by omega)
theorem s_X12_needed_70 {g : gM} {m : dM} {Q : Int32 → dM → Prop} (hG : Gd g) (hI : Inv g m) (hQ : ∀ (r : Int32) (m' : dM), Inv g m' → Q r m') : c_X12_needed_70 23 m Q := by
  refine v_X12_needed_70 ?_
  refine Wp.deep (s_X12_copies_70 hG hI (fun M1 I1 => ?_)) (Nat.le_of_ble_eq_true rfl)
  refine Wp.deep (s_X12_darkBits_70 hG I1 (fun R2 => ?_)) (Nat.le_of_ble_eq_true rfl)
  have f3 := ti_0
  exact (s_X12_needed_70_all hG hQ 23).1 _ _ _ _ I1 (by omega) (by omega)
theorem s_X12_hottest_70_all {g : gM} {Q : Int32 → dM → Prop} (hG : Gd g) (hQ : ∀ (r : Int32) (m' : dM), Inv g m' → Q r m') : ∀ n : Nat, (∀ (x1 : Int32) (x2 : Int32) (x3 : Int32) (x4 : Int32) (x5 : Int32) (m : dM), Inv g m → (0 ≤ x1.toInt ∧ x1.toInt ≤ 1) → (-2000 ≤ x3.toInt ∧ x3.toInt ≤ 9) → (0 ≤ x5.toInt ∧ x5.toInt ≤ 10) → 32 - 3 * x5.toInt < (n : Int) → j_X12_hottest_70_34 22 x1 x2 x3 x4 x5 m Q) ∧ (∀ (x1 : Int32) (x2 : Int32) (x5 : Int32) (x6 : Int32) (m : dM), Inv g m → (0 ≤ x1.toInt ∧ x1.toInt ≤ 1) → (0 ≤ x5.toInt ∧ x5.toInt ≤ 9) → 31 - 3 * x5.toInt < (n : Int) → j_X12_hottest_70_88 22 x1 x2 x5 x6 m Q) ∧ (∀ (x1 : Int32) (x2 : Int32) (x3 : Int32) (x4 : Int32) (x5 : Int32) (m : dM), Inv g m → (0 ≤ x1.toInt ∧ x1.toInt ≤ 1) → (-2000 ≤ x3.toInt ∧ x3.toInt ≤ 9) → (0 ≤ x5.toInt ∧ x5.toInt ≤ 9) → 30 - 3 * x5.toInt < (n : Int) → j_X12_hottest_70_95 22 x1 x2 x3 x4 x5 m Q) := by
  intro n
  induction n with
  | zero => exact ⟨fun x1 x2 x3 x4 x5 m hI h1 h3 h5 hμ => by exfalso; omega, fun x1 x2 x5 x6 m hI h1 h5 hμ => by exfalso; omega, fun x1 x2 x3 x4 x5 m hI h1 h3 h5 hμ => by exfalso; omega⟩
  | succ n ih =>
    refine ⟨?_, ?_, ?_⟩
    · intro x1 x2 x3 x4 x5 m hI h1 h3 h5 hμ
      refine v_X12_hottest_70_34 ?_
      have f1 := congrArg Int32.toInt (hI.2 70 18 rfl)
      have f2 := Inv.s hG hI (k := 70) (j := 18) rfl rfl
      refine ⟨by omega, ?_⟩
      have f3 := Inv.cnt82 hG hI
      have f4 := Inv.s hG hI (k := 82) (j := (m.1 70 18).toNatClampNeg) rfl rfl
      refine ⟨fun hc5 => ?_, fun hc5 => ?_⟩
      · skip
        refine ⟨fun hc6 => ?_, fun hc6 => ?_⟩
        · skip
          exact hQ _ _ hI
        · skip
          exact hQ _ _ hI
      · skip
        refine Wp.deep (s_X12_loadBy_70 hG hI (by omega) (fun R6 => ?_)) (Nat.le_of_ble_eq_true rfl)
        refine ⟨by omega, ?_⟩
        refine v_X12_isWhole_70 ?_
        refine v_X12_isWire_70 ?_
        refine ⟨by omega, ?_⟩
        refine v_X12_in ?_
        have f7 := ti_0
        refine ⟨fun hc8 => ?_, fun hc8 => ?_⟩
        · skip
          exfalso; omega
        · skip
          have f9 := dSubE (X := (m.1 82 (m.1 70 18).toNatClampNeg).toInt) (Y := 1) (x := (m.1 82 (m.1 70 18).toNatClampNeg)) (y := (1 : Int32)) rfl (by decide) (by omega) (by omega)
          refine ⟨fun hc10 => ?_, fun hc10 => ?_⟩
          · skip
            refine v_X12_in_14 ?_
            refine ⟨by decide, ?_⟩
            refine ⟨fun hc11 => ?_, fun hc11 => ?_⟩
            · skip
              refine v_X12_isWhole_70_24 ?_
              refine ⟨fun hc12 => ?_, fun hc12 => ?_⟩
              · skip
                exact ih.2.2 _ _ _ _ _ _ hI (by omega) (by omega) (by omega) (by omega)
              · skip
                exfalso; omega
            · skip
              exfalso; omega
          · skip
            have f11 := ti_1
            refine ⟨by decide, ?_⟩
            refine ⟨fun hc12 => ?_, fun hc12 => ?_⟩
            · skip
              exfalso; omega
            · skip
              have f13 := dAddE (X := 10) (Y := x5.toInt) (x := (10 : Int32)) (y := x5) (by decide) rfl (by omega) (by omega)
              refine ⟨by omega, ?_⟩
              refine ⟨fun hc14 => ?_, fun hc14 => ?_⟩
              · skip
                refine v_X12_isWhole_70_24 ?_
                refine ⟨fun hc15 => ?_, fun hc15 => ?_⟩
                · skip
                  exact ih.2.2 _ _ _ _ _ _ hI (by omega) (by omega) (by omega) (by omega)
                · skip
                  exfalso; omega
              · skip
                refine ⟨fun hc15 => ?_, fun hc15 => ?_⟩
                · skip
                  exfalso; omega
                · skip
                  refine ⟨fun hc16 => ?_, fun hc16 => ?_⟩
                  · skip
                    exact ih.2.1 _ _ _ _ _ hI (by omega) (by omega) (by omega)
                  · skip
                    refine ⟨fun hc17 => ?_, fun hc17 => ?_⟩
                    · skip
                      exact ih.2.1 _ _ _ _ _ hI (by omega) (by omega) (by omega)
                    · skip
                      exact ih.2.2 _ _ _ _ _ _ hI (by omega) (by omega) (by omega) (by omega)
    · intro x1 x2 x5 x6 m hI h1 h5 hμ
      refine v_X12_hottest_70_88 ?_
      exact ih.2.2 _ _ _ _ _ _ hI (by omega) (by omega) (by omega) (by omega)
    · intro x1 x2 x3 x4 x5 m hI h1 h3 h5 hμ
      refine v_X12_hottest_70_95 ?_
      have f1 := dAddE (X := x5.toInt) (Y := 1) (x := x5) (y := (1 : Int32)) rfl (by decide) (by omega) (by omega)
      exact ih.1 _ _ _ _ _ _ hI (by omega) (by omega) (by omega) (by omega)
theorem s_X12_hottest_70 {g : gM} {x1 : Int32} {m : dM} {Q : Int32 → dM → Prop} (hG : Gd g) (hI : Inv g m) (hQ : ∀ (r : Int32) (m' : dM), Inv g m' → Q r m') : c_X12_hottest_70 22 x1 m Q := by
  refine v_X12_hottest_70 ?_
  refine v_X12_in ?_
  have f1 := ti_0
  refine ⟨fun hc2 => ?_, fun hc2 => ?_⟩
  · skip
    refine v_X12_in_14 ?_
    refine ⟨fun hc3 => ?_, fun hc3 => ?_⟩
    · skip
      exfalso; omega
    · skip
      have f4 := ti_m1000
      exact hQ _ _ hI
  · skip
    have f3 := ti_1
    refine ⟨fun hc4 => ?_, fun hc4 => ?_⟩
    · skip
      refine v_X12_in_14 ?_
      refine ⟨fun hc5 => ?_, fun hc5 => ?_⟩
      · skip
        exfalso; omega
      · skip
        have f6 := ti_m1000
        exact hQ _ _ hI
    · skip
      refine ⟨fun hc5 => ?_, fun hc5 => ?_⟩
      · skip
        refine Wp.deep (s_X12_copies_70 hG hI (fun M6 I6 => ?_)) (Nat.le_of_ble_eq_true rfl)
        refine Wp.deep (s_X12_onNow_70 hG I6 (fun R7 => ?_)) (Nat.le_of_ble_eq_true rfl)
        have f8 := ti_m2000
        exact (s_X12_hottest_70_all hG hQ 34).1 _ _ _ _ _ _ I6 (by omega) (by omega) (by omega) (by omega)
      · skip
        exfalso; omega
theorem s_X12_clash_70 {g : gM} {x1 : Int32} {x2 : Int32} {m : dM} {Q : Int32 → dM → Prop} (hG : Gd g) (hI : Inv g m) (hQ : ∀ (r : Int32) (m' : dM), Inv g m' → Q r m') : c_X12_clash_70 23 x1 x2 m Q := by
  refine v_X12_clash_70 ?_
  refine v_X12_isUse_70 ?_
  have f1 := congrArg Int32.toInt (hI.2 70 18 rfl)
  have f2 := Inv.s hG hI (k := 70) (j := 18) rfl rfl
  refine ⟨by omega, ?_⟩
  refine v_X12_in ?_
  have f3 := ti_0
  refine ⟨fun hc4 => ?_, fun hc4 => ?_⟩
  · skip
    refine v_X12_in_14 ?_
    refine ⟨by decide, ?_⟩
    refine ⟨fun hc5 => ?_, fun hc5 => ?_⟩
    · skip
      refine v_X12_clash_70_21 ?_
      have f6 := ti_m1
      exact hQ _ _ hI
    · skip
      exfalso; omega
  · skip
    have f5 := Inv.cnt86 hG hI
    have f6 := Inv.s hG hI (k := 86) (j := (m.1 70 18).toNatClampNeg) rfl rfl
    have f7 := dSubE (X := (m.1 86 (m.1 70 18).toNatClampNeg).toInt) (Y := 1) (x := (m.1 86 (m.1 70 18).toNatClampNeg)) (y := (1 : Int32)) rfl (by decide) (by omega) (by omega)
    refine ⟨fun hc8 => ?_, fun hc8 => ?_⟩
    · skip
      refine v_X12_in_14 ?_
      refine ⟨by decide, ?_⟩
      refine ⟨fun hc9 => ?_, fun hc9 => ?_⟩
      · skip
        refine v_X12_clash_70_21 ?_
        have f10 := ti_m1
        exact hQ _ _ hI
      · skip
        exfalso; omega
    · skip
      have f9 := ti_1
      refine ⟨by decide, ?_⟩
      refine ⟨fun hc10 => ?_, fun hc10 => ?_⟩
      · skip
        exfalso; omega
      · skip
        refine v_X12_isUse_70 ?_
        refine ⟨by omega, ?_⟩
        refine v_X12_in ?_
        refine ⟨fun hc11 => ?_, fun hc11 => ?_⟩
        · skip
          refine v_X12_in_14 ?_
          refine ⟨by decide, ?_⟩
          refine ⟨fun hc12 => ?_, fun hc12 => ?_⟩
          · skip
            refine v_X12_clash_70_21 ?_
            have f13 := ti_m1
            exact hQ _ _ hI
          · skip
            exfalso; omega
        · skip
          refine ⟨fun hc12 => ?_, fun hc12 => ?_⟩
          · skip
            refine v_X12_in_14 ?_
            refine ⟨by decide, ?_⟩
            refine ⟨fun hc13 => ?_, fun hc13 => ?_⟩
            · skip
              refine v_X12_clash_70_21 ?_
              have f14 := ti_m1
              exact hQ _ _ hI
            · skip
              exfalso; omega
          · skip
            refine ⟨by decide, ?_⟩
            refine ⟨fun hc13 => ?_, fun hc13 => ?_⟩
            · skip
              exfalso; omega
            · skip
              refine ⟨fun hc14 => ?_, fun hc14 => ?_⟩
              · skip
                refine Wp.deep (s_X12_copies_70 hG hI (fun M15 I15 => ?_)) (Nat.le_of_ble_eq_true rfl)
                refine v_X12_flatAt_70 ?_
                have f16 := congrArg Int32.toInt (I15.2 70 18 rfl)
                have f17 := Inv.s hG I15 (k := 70) (j := 18) rfl rfl
                have f18 := dMulE (X := 8) (Y := (M15.1 70 18).toInt) (x := (8 : Int32)) (y := (M15.1 70 18)) (by decide) rfl (by omega) (by omega)
                have f19 := dAddE (X := ((8 : Int32) * (M15.1 70 18)).toInt) (Y := x1.toInt) (x := ((8 : Int32) * (M15.1 70 18))) (y := x1) rfl rfl (by omega) (by omega)
                refine ⟨by omega, ?_⟩
                refine v_X12_isLit_70 ?_
                have f20 := Inv.cnt86 hG I15
                have f21 := Inv.s hG I15 (k := 86) (j := (M15.1 70 18).toNatClampNeg) rfl rfl
                have f22 := Inv.flat hG I15 (u := x1) (by omega) (by omega)
                refine ⟨by omega, ?_⟩
                refine ⟨fun hc23 => ?_, fun hc23 => ?_⟩
                · skip
                  refine ⟨fun hc24 => ?_, fun hc24 => ?_⟩
                  · skip
                    refine v_X12_clash_70_51 ?_
                    exact hQ _ _ I15
                  · skip
                    exfalso; omega
                · skip
                  refine ⟨fun hc24 => ?_, fun hc24 => ?_⟩
                  · skip
                    exfalso; omega
                  · skip
                    refine v_X12_flatAt_70 ?_
                    have f25 := dAddE (X := ((8 : Int32) * (M15.1 70 18)).toInt) (Y := x2.toInt) (x := ((8 : Int32) * (M15.1 70 18))) (y := x2) rfl rfl (by omega) (by omega)
                    refine ⟨by omega, ?_⟩
                    refine v_X12_isLit_70 ?_
                    have f26 := Inv.flat hG I15 (u := x2) (by omega) (by omega)
                    refine ⟨by omega, ?_⟩
                    refine ⟨fun hc27 => ?_, fun hc27 => ?_⟩
                    · skip
                      refine ⟨fun hc28 => ?_, fun hc28 => ?_⟩
                      · skip
                        exfalso; omega
                      · skip
                        refine v_X12_clash_70_51 ?_
                        exact hQ _ _ I15
                    · skip
                      refine ⟨fun hc28 => ?_, fun hc28 => ?_⟩
                      · skip
                        have f29 := dShl8 (x := x1) (by omega) (by omega)
                        have f30 := dShl8 (x := x2) (by omega) (by omega)
                        have f31 := dRemE (x := (M15.1 108 55)) (y := (24 : Int32)) (Y := 24) (by decide) (by decide)
                        refine Wp.deep (s_X12_goingBits_70 hG I15 (by omega) (fun R32 M32 I32 => ?_)) (Nat.le_of_ble_eq_true rfl)
                        refine Wp.deep (s_X12_goingBits_70 hG I32 (by omega) (fun R33 M33 I33 => ?_)) (Nat.le_of_ble_eq_true rfl)
                        refine Wp.deep (s_X12_goingBits_70 hG I33 (by omega) (fun R34 M34 I34 => ?_)) (Nat.le_of_ble_eq_true rfl)
                        refine Wp.deep (s_X12_bits hG I34 (fun R35 => ?_)) (Nat.le_of_ble_eq_true rfl)
                        exact hQ _ _ I34
                      · skip
                        exfalso; omega
              · skip
                refine v_X12_clash_70_21 ?_
                have f15 := ti_m1
                exact hQ _ _ hI
theorem s_X12_then_70_all {g : gM} {Q : Int32 → dM → Prop} (hG : Gd g) (hQ : ∀ (r : Int32) (m' : dM), Inv g m' → Q r m') : ∀ n : Nat, (∀ (m : dM), Inv g m → 0 < (n : Int) → j_X12_then_70_16 25 m Q) ∧ (∀ (x3 : Int32) (x4 : Int32) (m : dM), Inv g m → (0 ≤ x4.toInt ∧ x4.toInt ≤ 10) → 11 - 1 * x4.toInt < (n : Int) → j_X12_then_70_57 25 x3 x4 m Q) := by
  intro n
  induction n with
  | zero => exact ⟨fun m hI hμ => by exfalso; omega, fun x3 x4 m hI h4 hμ => by exfalso; omega⟩
  | succ n ih =>
    refine ⟨?_, ?_⟩
    · intro m hI hμ
      refine v_X12_then_70_16 ?_
      have f1 := ti_m1
      exact hQ _ _ hI
    · intro x3 x4 m hI h4 hμ
      refine v_X12_then_70_57 ?_
      have f1 := congrArg Int32.toInt (hI.2 70 18 rfl)
      have f2 := Inv.s hG hI (k := 70) (j := 18) rfl rfl
      refine ⟨by omega, ?_⟩
      have f3 := Inv.cnt82 hG hI
      have f4 := Inv.s hG hI (k := 82) (j := (m.1 70 18).toNatClampNeg) rfl rfl
      refine ⟨fun hc5 => ?_, fun hc5 => ?_⟩
      · skip
        exact hQ _ _ hI
      · skip
        have f6 := dAddE (X := 10) (Y := x4.toInt) (x := (10 : Int32)) (y := x4) (by decide) rfl (by omega) (by omega)
        refine ⟨by omega, ?_⟩
        have f7 := dAddE (X := x4.toInt) (Y := 1) (x := x4) (y := (1 : Int32)) rfl (by decide) (by omega) (by omega)
        exact ih.2 _ _ _ hI (by omega) (by omega)
theorem s_X12_then_70 {g : gM} {x1 : Int32} {x2 : Int32} {m : dM} {Q : Int32 → dM → Prop} (hG : Gd g) (hI : Inv g m) (hQ : ∀ (r : Int32) (m' : dM), Inv g m' → Q r m') : c_X12_then_70 25 x1 x2 m Q := by
  refine v_X12_then_70 ?_
  refine v_X12_isLong ?_
  refine v_X12_in ?_
  have f1 := ti_0
  refine ⟨fun hc2 => ?_, fun hc2 => ?_⟩
  · skip
    refine v_X12_in_14 ?_
    refine ⟨by decide, ?_⟩
    refine ⟨fun hc3 => ?_, fun hc3 => ?_⟩
    · skip
      exact (s_X12_then_70_all hG hQ 13).1 _ hI (by omega)
    · skip
      exfalso; omega
  · skip
    have f3 := ti_72
    refine ⟨fun hc4 => ?_, fun hc4 => ?_⟩
    · skip
      refine v_X12_in_14 ?_
      refine ⟨by decide, ?_⟩
      refine ⟨fun hc5 => ?_, fun hc5 => ?_⟩
      · skip
        exact (s_X12_then_70_all hG hQ 13).1 _ hI (by omega)
      · skip
        exfalso; omega
    · skip
      have f5 := ti_1
      refine ⟨by decide, ?_⟩
      refine ⟨fun hc6 => ?_, fun hc6 => ?_⟩
      · skip
        exfalso; omega
      · skip
        refine v_X12_in ?_
        refine ⟨fun hc7 => ?_, fun hc7 => ?_⟩
        · skip
          refine v_X12_in_14 ?_
          refine ⟨fun hc8 => ?_, fun hc8 => ?_⟩
          · skip
            exfalso; omega
          · skip
            exact (s_X12_then_70_all hG hQ 13).1 _ hI (by omega)
        · skip
          have f8 := ti_2
          refine ⟨fun hc9 => ?_, fun hc9 => ?_⟩
          · skip
            refine v_X12_in_14 ?_
            refine ⟨fun hc10 => ?_, fun hc10 => ?_⟩
            · skip
              exfalso; omega
            · skip
              exact (s_X12_then_70_all hG hQ 13).1 _ hI (by omega)
          · skip
            refine ⟨fun hc10 => ?_, fun hc10 => ?_⟩
            · skip
              refine Wp.deep (s_X12_copies_70 hG hI (fun M11 I11 => ?_)) (Nat.le_of_ble_eq_true rfl)
              refine Wp.deep (s_X12_goes_70 hG I11 (by omega) (fun M12 I12 => ?_)) (Nat.le_of_ble_eq_true rfl)
              refine ⟨fun hc13 => ?_, fun hc13 => ?_⟩
              · skip
                exact (s_X12_then_70_all hG hQ 13).2 _ _ _ I12 (by omega) (by omega)
              · skip
                have f14 := dAddE (X := 56) (Y := x2.toInt) (x := (56 : Int32)) (y := x2) (by decide) rfl (by omega) (by omega)
                refine ⟨by omega, ?_⟩
                refine ⟨by omega, ?_⟩
                exact hQ _ _ I12
            · skip
              exfalso; omega
end
section
theorem s_X12_litIn_70 {g : gM} {x1 : Int32} {x2 : Int32} {m : dM} {Q : Int32 → dM → Prop} (hG : Gd g) (hI : Inv g m) (hQ : ∀ (r : Int32) (m' : dM), Inv g m' → (-1 ≤ r.toInt ∧ r.toInt ≤ 1) → Q r m') : c_X12_litIn_70 25 x1 x2 m Q := by
  refine v_X12_litIn_70 ?_
  refine v_X12_isFlat_70 ?_
  have f1 := congrArg Int32.toInt (hI.2 70 18 rfl)
  have f2 := Inv.s hG hI (k := 70) (j := 18) rfl rfl
  refine ⟨by omega, ?_⟩
  refine v_X12_in ?_
  have f3 := ti_0
  refine ⟨fun hc4 => ?_, fun hc4 => ?_⟩
  · skip
    refine v_X12_in_14 ?_
    refine ⟨by decide, ?_⟩
    refine ⟨fun hc5 => ?_, fun hc5 => ?_⟩
    · skip
      refine v_X12_litIn_70_15 ?_
      have f6 := ti_m1
      exact hQ _ _ hI (by omega)
    · skip
      exfalso; omega
  · skip
    have f5 := Inv.cnt80 hG hI
    have f6 := Inv.s hG hI (k := 80) (j := (m.1 70 18).toNatClampNeg) rfl rfl
    have f7 := dSubE (X := (m.1 80 (m.1 70 18).toNatClampNeg).toInt) (Y := 1) (x := (m.1 80 (m.1 70 18).toNatClampNeg)) (y := (1 : Int32)) rfl (by decide) (by omega) (by omega)
    refine ⟨fun hc8 => ?_, fun hc8 => ?_⟩
    · skip
      refine v_X12_in_14 ?_
      refine ⟨by decide, ?_⟩
      refine ⟨fun hc9 => ?_, fun hc9 => ?_⟩
      · skip
        refine v_X12_litIn_70_15 ?_
        have f10 := ti_m1
        exact hQ _ _ hI (by omega)
      · skip
        exfalso; omega
    · skip
      have f9 := ti_1
      refine ⟨by decide, ?_⟩
      refine ⟨fun hc10 => ?_, fun hc10 => ?_⟩
      · skip
        exfalso; omega
      · skip
        refine v_X12_isLong ?_
        refine v_X12_in ?_
        refine ⟨fun hc11 => ?_, fun hc11 => ?_⟩
        · skip
          refine v_X12_in_14 ?_
          refine ⟨by decide, ?_⟩
          refine ⟨fun hc12 => ?_, fun hc12 => ?_⟩
          · skip
            exfalso; omega
          · skip
            refine v_X12_litIn_70_15 ?_
            have f13 := ti_m1
            exact hQ _ _ hI (by omega)
        · skip
          have f12 := ti_72
          refine ⟨fun hc13 => ?_, fun hc13 => ?_⟩
          · skip
            refine v_X12_in_14 ?_
            refine ⟨by decide, ?_⟩
            refine ⟨fun hc14 => ?_, fun hc14 => ?_⟩
            · skip
              exfalso; omega
            · skip
              refine v_X12_litIn_70_15 ?_
              have f15 := ti_m1
              exact hQ _ _ hI (by omega)
          · skip
            refine ⟨by decide, ?_⟩
            refine ⟨fun hc14 => ?_, fun hc14 => ?_⟩
            · skip
              refine Wp.deep (s_X12_copies_70 hG hI (fun M15 I15 => ?_)) (Nat.le_of_ble_eq_true rfl)
              refine Wp.deep (s_X12_goes_70 hG I15 (by omega) (fun M16 I16 => ?_)) (Nat.le_of_ble_eq_true rfl)
              refine v_X12_isLit_70 ?_
              refine ⟨by omega, ?_⟩
              refine ⟨fun hc17 => ?_, fun hc17 => ?_⟩
              · skip
                refine ⟨fun hc18 => ?_, fun hc18 => ?_⟩
                · skip
                  exact hQ _ _ I16 (by omega)
                · skip
                  exfalso; omega
              · skip
                refine ⟨fun hc18 => ?_, fun hc18 => ?_⟩
                · skip
                  exfalso; omega
                · skip
                  exact hQ _ _ I16 (by omega)
            · skip
              exfalso; omega
theorem s_X12_year_70_all {g : gM} {Q : Int32 → dM → Prop} (hG : Gd g) (hQ : ∀ (r : Int32) (m' : dM), Inv g m' → Q r m') : ∀ n : Nat, (∀ (m : dM), Inv g m → 0 < (n : Int) → j_X12_year_70_17 24 m Q) ∧ (∀ (x1 : Int32) (x2 : Int32) (x3 : Int32) (x4 : Int32) (m : dM), Inv g m → (0 ≤ x1.toInt ∧ x1.toInt ≤ 72) → (1 ≤ x2.toInt ∧ x2.toInt ≤ 20) → (0 ≤ x4.toInt ∧ x4.toInt ≤ 20) → 3150 - 150 * x4.toInt < (n : Int) → j_X12_year_70_24 24 x1 x2 x3 x4 m Q) ∧ (∀ (x1 : Int32) (x2 : Int32) (x3 : Int32) (x4 : Int32) (x5 : Int32) (x6 : Int32) (m : dM), Inv g m → (0 ≤ x1.toInt ∧ x1.toInt ≤ 72) → (1 ≤ x2.toInt ∧ x2.toInt ≤ 20) → (0 ≤ x4.toInt ∧ x4.toInt ≤ 19) → (0 ≤ x5.toInt ∧ x5.toInt ≤ 1) → (0 ≤ x6.toInt ∧ x6.toInt ≤ 73) → 3149 - 150 * x4.toInt - 2 * x6.toInt < (n : Int) → j_X12_year_70_51 24 x1 x2 x3 x4 x5 x6 m Q) ∧ (∀ (x1 : Int32) (x2 : Int32) (x3 : Int32) (x4 : Int32) (x5 : Int32) (x6 : Int32) (m : dM), Inv g m → (1 ≤ x1.toInt ∧ x1.toInt ≤ 72) → (1 ≤ x2.toInt ∧ x2.toInt ≤ 20) → (0 ≤ x4.toInt ∧ x4.toInt ≤ 19) → (0 ≤ x5.toInt ∧ x5.toInt ≤ 1) → (0 ≤ x6.toInt ∧ x6.toInt ≤ 72) → 3148 - 150 * x4.toInt - 2 * x6.toInt < (n : Int) → j_X12_year_70_71 24 x1 x2 x3 x4 x5 x6 m Q) ∧ (∀ (x1 : Int32) (x2 : Int32) (x3 : Int32) (x4 : Int32) (m : dM), Inv g m → (0 ≤ x1.toInt ∧ x1.toInt ≤ 72) → (1 ≤ x2.toInt ∧ x2.toInt ≤ 20) → (0 ≤ x4.toInt ∧ x4.toInt ≤ 19) → 3001 - 150 * x4.toInt < (n : Int) → j_X12_year_70_85 24 x1 x2 x3 x4 m Q) := by
  intro n
  induction n with
  | zero => exact ⟨fun m hI hμ => by exfalso; omega, fun x1 x2 x3 x4 m hI h1 h2 h4 hμ => by exfalso; omega, fun x1 x2 x3 x4 x5 x6 m hI h1 h2 h4 h5 h6 hμ => by exfalso; omega, fun x1 x2 x3 x4 x5 x6 m hI h1 h2 h4 h5 h6 hμ => by exfalso; omega, fun x1 x2 x3 x4 m hI h1 h2 h4 hμ => by exfalso; omega⟩
  | succ n ih =>
    refine ⟨?_, ?_, ?_, ?_, ?_⟩
    · intro m hI hμ
      refine v_X12_year_70_17 ?_
      have f1 := ti_m1
      exact hQ _ _ hI
    · intro x1 x2 x3 x4 m hI h1 h2 h4 hμ
      refine v_X12_year_70_24 ?_
      refine ⟨fun hc1 => ?_, fun hc1 => ?_⟩
      · skip
        exact hQ _ _ hI
      · skip
        refine Wp.deep (s_X12_copies_70 hG hI (fun M2 I2 => ?_)) (Nat.le_of_ble_eq_true rfl)
        have f3 := ti_1
        have f4 := ti_0
        have I5 : Inv g (dSet M2 70 56 ((M2.1 70 56) + x4)) := (Inv.setA I2 rfl)
        exact ih.2.2.1 _ _ _ _ _ _ _ I5 (by omega) (by omega) (by omega) (by omega) (by omega) (by omega)
    · intro x1 x2 x3 x4 x5 x6 m hI h1 h2 h4 h5 h6 hμ
      refine v_X12_year_70_51 ?_
      refine ⟨fun hc1 => ?_, fun hc1 => ?_⟩
      · skip
        refine ⟨fun hc2 => ?_, fun hc2 => ?_⟩
        · skip
          exact ih.2.2.2.2 _ _ _ _ _ hI (by omega) (by omega) (by omega) (by omega)
        · skip
          exact ih.2.2.2.2 _ _ _ _ _ hI (by omega) (by omega) (by omega) (by omega)
      · skip
        refine Wp.deep (s_X12_hourGoes_70 hG hI (fun M2 I2 => ?_)) (Nat.le_of_ble_eq_true rfl)
        refine ⟨fun hc3 => ?_, fun hc3 => ?_⟩
        · skip
          exact ih.2.2.2.1 _ _ _ _ _ _ _ I2 (by omega) (by omega) (by omega) (by omega) (by omega) (by omega)
        · skip
          have f4 := ti_0
          exact ih.2.2.2.1 _ _ _ _ _ _ _ I2 (by omega) (by omega) (by omega) (by omega) (by omega) (by omega)
    · intro x1 x2 x3 x4 x5 x6 m hI h1 h2 h4 h5 h6 hμ
      refine v_X12_year_70_71 ?_
      have f1 := dAddE (X := x6.toInt) (Y := 1) (x := x6) (y := (1 : Int32)) rfl (by decide) (by omega) (by omega)
      exact ih.2.2.1 _ _ _ _ _ _ _ hI (by omega) (by omega) (by omega) (by omega) (by omega) (by omega)
    · intro x1 x2 x3 x4 m hI h1 h2 h4 hμ
      refine v_X12_year_70_85 ?_
      have f1 := dAddE (X := x4.toInt) (Y := 1) (x := x4) (y := (1 : Int32)) rfl (by decide) (by omega) (by omega)
      exact ih.2.1 _ _ _ _ _ hI (by omega) (by omega) (by omega) (by omega)
theorem s_X12_year_70 {g : gM} {x1 : Int32} {x2 : Int32} {m : dM} {Q : Int32 → dM → Prop} (hG : Gd g) (hI : Inv g m) (hQ : ∀ (r : Int32) (m' : dM), Inv g m' → Q r m') : c_X12_year_70 24 x1 x2 m Q := by
  refine v_X12_year_70 ?_
  refine v_X12_isLong ?_
  refine v_X12_in ?_
  have f1 := ti_0
  refine ⟨fun hc2 => ?_, fun hc2 => ?_⟩
  · skip
    refine v_X12_in_14 ?_
    refine ⟨by decide, ?_⟩
    refine ⟨fun hc3 => ?_, fun hc3 => ?_⟩
    · skip
      exact (s_X12_year_70_all hG hQ 3152).1 _ hI (by omega)
    · skip
      exfalso; omega
  · skip
    have f3 := ti_72
    refine ⟨fun hc4 => ?_, fun hc4 => ?_⟩
    · skip
      refine v_X12_in_14 ?_
      refine ⟨by decide, ?_⟩
      refine ⟨fun hc5 => ?_, fun hc5 => ?_⟩
      · skip
        exact (s_X12_year_70_all hG hQ 3152).1 _ hI (by omega)
      · skip
        exfalso; omega
    · skip
      have f5 := ti_1
      refine ⟨by decide, ?_⟩
      refine ⟨fun hc6 => ?_, fun hc6 => ?_⟩
      · skip
        exfalso; omega
      · skip
        refine v_X12_in ?_
        refine ⟨fun hc7 => ?_, fun hc7 => ?_⟩
        · skip
          refine v_X12_in_14 ?_
          refine ⟨fun hc8 => ?_, fun hc8 => ?_⟩
          · skip
            exfalso; omega
          · skip
            exact (s_X12_year_70_all hG hQ 3152).1 _ hI (by omega)
        · skip
          have f8 := ti_20
          refine ⟨fun hc9 => ?_, fun hc9 => ?_⟩
          · skip
            refine v_X12_in_14 ?_
            refine ⟨fun hc10 => ?_, fun hc10 => ?_⟩
            · skip
              exfalso; omega
            · skip
              exact (s_X12_year_70_all hG hQ 3152).1 _ hI (by omega)
          · skip
            refine ⟨fun hc10 => ?_, fun hc10 => ?_⟩
            · skip
              exact (s_X12_year_70_all hG hQ 3152).2.1 _ _ _ _ _ hI (by omega) (by omega) (by omega) (by omega)
            · skip
              exfalso; omega
theorem s_X12_wentBits_70_all {g : gM} {Q : Int32 → dM → Prop} (hG : Gd g) (hQ : ∀ (r : Int32) (m' : dM), Inv g m' → Q r m') : ∀ n : Nat, (∀ (x1 : Int32) (x2 : Int32) (x3 : Int32) (m : dM), Inv g m → (0 ≤ x1.toInt ∧ x1.toInt ≤ 20) → (0 ≤ x3.toInt ∧ x3.toInt ≤ 10) → 483 - 44 * x3.toInt < (n : Int) → j_X12_wentBits_70_4 23 x1 x2 x3 m Q) ∧ (∀ (x1 : Int32) (x2 : Int32) (x3 : Int32) (x4 : Int32) (x5 : Int32) (m : dM), Inv g m → (0 ≤ x1.toInt ∧ x1.toInt ≤ 20) → (0 ≤ x3.toInt ∧ x3.toInt ≤ 9) → (0 ≤ x4.toInt ∧ x4.toInt ≤ 1) → (0 ≤ x5.toInt ∧ x5.toInt ≤ 20) → 482 - 44 * x3.toInt - 2 * x5.toInt < (n : Int) → j_X12_wentBits_70_56 23 x1 x2 x3 x4 x5 m Q) ∧ (∀ (x1 : Int32) (x2 : Int32) (x3 : Int32) (x4 : Int32) (x5 : Int32) (m : dM), Inv g m → (1 ≤ x1.toInt ∧ x1.toInt ≤ 20) → (0 ≤ x3.toInt ∧ x3.toInt ≤ 9) → (0 ≤ x4.toInt ∧ x4.toInt ≤ 1) → (0 ≤ x5.toInt ∧ x5.toInt ≤ 19) → 481 - 44 * x3.toInt - 2 * x5.toInt < (n : Int) → j_X12_wentBits_70_91 23 x1 x2 x3 x4 x5 m Q) ∧ (∀ (x1 : Int32) (x2 : Int32) (x3 : Int32) (m : dM), Inv g m → (0 ≤ x1.toInt ∧ x1.toInt ≤ 20) → (0 ≤ x3.toInt ∧ x3.toInt ≤ 9) → 440 - 44 * x3.toInt < (n : Int) → j_X12_wentBits_70_108 23 x1 x2 x3 m Q) := by
  intro n
  induction n with
  | zero => exact ⟨fun x1 x2 x3 m hI h1 h3 hμ => by exfalso; omega, fun x1 x2 x3 x4 x5 m hI h1 h3 h4 h5 hμ => by exfalso; omega, fun x1 x2 x3 x4 x5 m hI h1 h3 h4 h5 hμ => by exfalso; omega, fun x1 x2 x3 m hI h1 h3 hμ => by exfalso; omega⟩
  | succ n ih =>
    refine ⟨?_, ?_, ?_, ?_⟩
    · intro x1 x2 x3 m hI h1 h3 hμ
      refine v_X12_wentBits_70_4 ?_
      have f1 := congrArg Int32.toInt (hI.2 70 18 rfl)
      have f2 := Inv.s hG hI (k := 70) (j := 18) rfl rfl
      refine ⟨by omega, ?_⟩
      have f3 := Inv.cnt82 hG hI
      have f4 := Inv.s hG hI (k := 82) (j := (m.1 70 18).toNatClampNeg) rfl rfl
      refine ⟨fun hc5 => ?_, fun hc5 => ?_⟩
      · skip
        exact hQ _ _ hI
      · skip
        have f6 := dAddE (X := 10) (Y := x3.toInt) (x := (10 : Int32)) (y := x3) (by decide) rfl (by omega) (by omega)
        refine ⟨by omega, ?_⟩
        refine ⟨fun hc7 => ?_, fun hc7 => ?_⟩
        · skip
          have f8 := dShl10 (x := x3) (by omega) (by omega)
          refine Wp.deep (s_X12_loses_70 hG hI (by omega) (fun M9 I9 => ?_)) (Nat.le_of_ble_eq_true rfl)
          refine Wp.deep (s_X12_litBits_70 hG I9 (fun R10 => ?_)) (Nat.le_of_ble_eq_true rfl)
          refine ⟨by omega, ?_⟩
          have f11 := ti_1
          have f12 := ti_0
          have I13 : Inv g (dSet M9 114 x3.toNatClampNeg R10) := (Inv.setA I9 rfl)
          exact ih.2.1 _ _ _ _ _ _ I13 (by omega) (by omega) (by omega) (by omega) (by omega)
        · skip
          exact ih.2.2.2 _ _ _ _ hI (by omega) (by omega) (by omega)
    · intro x1 x2 x3 x4 x5 m hI h1 h3 h4 h5 hμ
      refine v_X12_wentBits_70_56 ?_
      refine ⟨fun hc1 => ?_, fun hc1 => ?_⟩
      · skip
        refine ⟨fun hc2 => ?_, fun hc2 => ?_⟩
        · skip
          exact ih.2.2.2 _ _ _ _ hI (by omega) (by omega) (by omega)
        · skip
          have f3 := dShl10 (x := x3) (by omega) (by omega)
          exact ih.2.2.2 _ _ _ _ hI (by omega) (by omega) (by omega)
      · skip
        refine ⟨by omega, ?_⟩
        refine ⟨by omega, ?_⟩
        refine ⟨by omega, ?_⟩
        have f2 := ti_1
        have f3 := dAndE (x := ((m.1 114 x3.toNatClampNeg) >>> ((m.1 112 x5.toNatClampNeg) &&& 31))) (y := (1 : Int32)) (by decide)
        refine ⟨fun hc4 => ?_, fun hc4 => ?_⟩
        · skip
          exact ih.2.2.1 _ _ _ _ _ _ hI (by omega) (by omega) (by omega) (by omega) (by omega)
        · skip
          have f5 := ti_0
          exact ih.2.2.1 _ _ _ _ _ _ hI (by omega) (by omega) (by omega) (by omega) (by omega)
    · intro x1 x2 x3 x4 x5 m hI h1 h3 h4 h5 hμ
      refine v_X12_wentBits_70_91 ?_
      have f1 := dAddE (X := x5.toInt) (Y := 1) (x := x5) (y := (1 : Int32)) rfl (by decide) (by omega) (by omega)
      exact ih.2.1 _ _ _ _ _ _ hI (by omega) (by omega) (by omega) (by omega) (by omega)
    · intro x1 x2 x3 m hI h1 h3 hμ
      refine v_X12_wentBits_70_108 ?_
      have f1 := dAddE (X := x3.toInt) (Y := 1) (x := x3) (y := (1 : Int32)) rfl (by decide) (by omega) (by omega)
      exact ih.1 _ _ _ _ hI (by omega) (by omega) (by omega)
theorem s_X12_wentBits_70 {g : gM} {x1 : Int32} {m : dM} {Q : Int32 → dM → Prop} (hG : Gd g) (hI : Inv g m) (h1 : 0 ≤ x1.toInt ∧ x1.toInt ≤ 20) (hQ : ∀ (r : Int32) (m' : dM), Inv g m' → Q r m') : c_X12_wentBits_70 23 x1 m Q := by
  refine v_X12_wentBits_70 ?_
  have f1 := ti_0
  exact (s_X12_wentBits_70_all hG hQ 485).1 _ _ _ _ hI (by omega) (by omega) (by omega)
theorem s_X12_went_70 {g : gM} {x1 : Int32} {x2 : Int32} {m : dM} {Q : Int32 → dM → Prop} (hG : Gd g) (hI : Inv g m) (hQ : ∀ (r : Int32) (m' : dM), Inv g m' → Q r m') : c_X12_went_70 24 x1 x2 m Q := by
  refine v_X12_went_70 ?_
  refine v_X12_in ?_
  have f1 := ti_0
  refine ⟨fun hc2 => ?_, fun hc2 => ?_⟩
  · skip
    refine v_X12_in_14 ?_
    refine ⟨fun hc3 => ?_, fun hc3 => ?_⟩
    · skip
      refine v_X12_went_70_21 ?_
      have f4 := ti_m1
      exact hQ _ _ hI
    · skip
      exfalso; omega
  · skip
    have f3 := congrArg Int32.toInt (hI.2 70 63 rfl)
    have f4 := Inv.s hG hI (k := 70) (j := 63) rfl rfl
    refine ⟨fun hc5 => ?_, fun hc5 => ?_⟩
    · skip
      refine v_X12_in_14 ?_
      refine ⟨fun hc6 => ?_, fun hc6 => ?_⟩
      · skip
        refine v_X12_went_70_21 ?_
        have f7 := ti_m1
        exact hQ _ _ hI
      · skip
        exfalso; omega
    · skip
      have f6 := ti_1
      refine ⟨fun hc7 => ?_, fun hc7 => ?_⟩
      · skip
        exfalso; omega
      · skip
        refine v_X12_in ?_
        refine ⟨fun hc8 => ?_, fun hc8 => ?_⟩
        · skip
          refine v_X12_in_14 ?_
          refine ⟨fun hc9 => ?_, fun hc9 => ?_⟩
          · skip
            exfalso; omega
          · skip
            refine v_X12_went_70_21 ?_
            have f10 := ti_m1
            exact hQ _ _ hI
        · skip
          refine ⟨fun hc9 => ?_, fun hc9 => ?_⟩
          · skip
            refine v_X12_in_14 ?_
            refine ⟨fun hc10 => ?_, fun hc10 => ?_⟩
            · skip
              exfalso; omega
            · skip
              refine v_X12_went_70_21 ?_
              have f11 := ti_m1
              exact hQ _ _ hI
          · skip
            refine ⟨fun hc10 => ?_, fun hc10 => ?_⟩
            · skip
              refine Wp.deep (s_X12_wentBits_70 hG hI (by omega) (fun R11 M11 I11 => ?_)) (Nat.le_of_ble_eq_true rfl)
              refine ⟨fun hc12 => ?_, fun hc12 => ?_⟩
              · skip
                exact hQ _ _ I11
              · skip
                refine Wp.deep (s_X12_bits hG I11 (fun R13 => ?_)) (Nat.le_of_ble_eq_true rfl)
                exact hQ _ _ I11
            · skip
              exfalso; omega
theorem s_X12_ask_70_all {g : gM} {Q : Int32 → dM → Prop} (hG : Gd g) (hQ : ∀ (r : Int32) (m' : dM), Inv g m' → (-2 ≤ r.toInt ∧ r.toInt ≤ 6) → Q r m') : ∀ n : Nat, (∀ (x2 : Int32) (x3 : Int32) (x4 : Int32) (x5 : Int32) (m : dM), Inv g m → (-2 ≤ x3.toInt ∧ x3.toInt ≤ 6) → (0 ≤ x5.toInt ∧ x5.toInt ≤ 7) → 200 - 25 * x5.toInt < (n : Int) → j_X12_ask_70_29 24 x2 x3 x4 x5 m Q) ∧ (∀ (x2 : Int32) (x3 : Int32) (x4 : Int32) (x5 : Int32) (x6 : Int32) (x7 : Int32) (m : dM), Inv g m → (-2 ≤ x3.toInt ∧ x3.toInt ≤ 6) → (0 ≤ x5.toInt ∧ x5.toInt ≤ 6) → (0 ≤ x7.toInt ∧ x7.toInt ≤ 10) → 199 - 25 * x5.toInt - 2 * x7.toInt < (n : Int) → j_X12_ask_70_53 24 x2 x3 x4 x5 x6 x7 m Q) ∧ (∀ (x2 : Int32) (x3 : Int32) (x4 : Int32) (x5 : Int32) (x6 : Int32) (x7 : Int32) (m : dM), Inv g m → (-2 ≤ x3.toInt ∧ x3.toInt ≤ 6) → (0 ≤ x5.toInt ∧ x5.toInt ≤ 6) → (0 ≤ x7.toInt ∧ x7.toInt ≤ 9) → 198 - 25 * x5.toInt - 2 * x7.toInt < (n : Int) → j_X12_ask_70_94 24 x2 x3 x4 x5 x6 x7 m Q) ∧ (∀ (x2 : Int32) (x5 : Int32) (x7 : Int32) (m : dM), Inv g m → (0 ≤ x5.toInt ∧ x5.toInt ≤ 6) → 177 - 25 * x5.toInt < (n : Int) → j_X12_ask_70_140 24 x2 x5 x7 m Q) ∧ (∀ (x2 : Int32) (x3 : Int32) (x4 : Int32) (x5 : Int32) (m : dM), Inv g m → (0 ≤ x3.toInt ∧ x3.toInt ≤ 6) → (0 ≤ x5.toInt ∧ x5.toInt ≤ 6) → 176 - 25 * x5.toInt < (n : Int) → j_X12_ask_70_147 24 x2 x3 x4 x5 m Q) ∧ (∀ (x3 : Int32) (m : dM), Inv g m → (-2 ≤ x3.toInt ∧ x3.toInt ≤ 6) → 0 < (n : Int) → j_X12_ask_70_153 24 x3 m Q) := by
  intro n
  induction n with
  | zero => exact ⟨fun x2 x3 x4 x5 m hI h3 h5 hμ => by exfalso; omega, fun x2 x3 x4 x5 x6 x7 m hI h3 h5 h7 hμ => by exfalso; omega, fun x2 x3 x4 x5 x6 x7 m hI h3 h5 h7 hμ => by exfalso; omega, fun x2 x5 x7 m hI h5 hμ => by exfalso; omega, fun x2 x3 x4 x5 m hI h3 h5 hμ => by exfalso; omega, fun x3 m hI h3 hμ => by exfalso; omega⟩
  | succ n ih =>
    refine ⟨?_, ?_, ?_, ?_, ?_, ?_⟩
    · intro x2 x3 x4 x5 m hI h3 h5 hμ
      refine v_X12_ask_70_29 ?_
      have f1 := congrArg Int32.toInt (hI.2 70 18 rfl)
      have f2 := Inv.s hG hI (k := 70) (j := 18) rfl rfl
      refine ⟨by omega, ?_⟩
      have f3 := Inv.cnt80 hG hI
      have f4 := Inv.s hG hI (k := 80) (j := (m.1 70 18).toNatClampNeg) rfl rfl
      refine ⟨fun hc5 => ?_, fun hc5 => ?_⟩
      · skip
        exact ih.2.2.2.2.2 _ _ hI (by omega) (by omega)
      · skip
        refine ⟨fun hc6 => ?_, fun hc6 => ?_⟩
        · skip
          exact ih.2.2.2.2.2 _ _ hI (by omega) (by omega)
        · skip
          have f7 := ti_0
          exact ih.2.1 _ _ _ _ _ _ _ hI (by omega) (by omega) (by omega) (by omega)
    · intro x2 x3 x4 x5 x6 x7 m hI h3 h5 h7 hμ
      refine v_X12_ask_70_53 ?_
      have f1 := congrArg Int32.toInt (hI.2 70 18 rfl)
      have f2 := Inv.s hG hI (k := 70) (j := 18) rfl rfl
      refine ⟨by omega, ?_⟩
      have f3 := Inv.cnt82 hG hI
      have f4 := Inv.s hG hI (k := 82) (j := (m.1 70 18).toNatClampNeg) rfl rfl
      refine ⟨fun hc5 => ?_, fun hc5 => ?_⟩
      · skip
        refine Wp.deep (s_X12_bits hG hI (fun R6 => ?_)) (Nat.le_of_ble_eq_true rfl)
        refine ⟨fun hc7 => ?_, fun hc7 => ?_⟩
        · skip
          refine Wp.deep (s_X12_bits hG hI (fun R8 => ?_)) (Nat.le_of_ble_eq_true rfl)
          refine ⟨fun hc9 => ?_, fun hc9 => ?_⟩
          · skip
            exact ih.2.2.2.1 _ _ _ _ hI (by omega) (by omega)
          · skip
            refine ⟨fun hc10 => ?_, fun hc10 => ?_⟩
            · skip
              exact ih.2.2.2.1 _ _ _ _ hI (by omega) (by omega)
            · skip
              exact ih.2.2.2.2.1 _ _ _ _ _ hI (by omega) (by omega) (by omega)
        · skip
          refine ⟨fun hc8 => ?_, fun hc8 => ?_⟩
          · skip
            exact ih.2.2.2.1 _ _ _ _ hI (by omega) (by omega)
          · skip
            refine ⟨fun hc9 => ?_, fun hc9 => ?_⟩
            · skip
              exact ih.2.2.2.1 _ _ _ _ hI (by omega) (by omega)
            · skip
              exact ih.2.2.2.2.1 _ _ _ _ _ hI (by omega) (by omega) (by omega)
      · skip
        have f6 := ti_1
        have f7 := dAndE (x := (x2 >>> (x7 &&& 31))) (y := (1 : Int32)) (by decide)
        refine ⟨fun hc8 => ?_, fun hc8 => ?_⟩
        · skip
          exact ih.2.2.1 _ _ _ _ _ _ _ hI (by omega) (by omega) (by omega) (by omega)
        · skip
          refine ⟨by omega, ?_⟩
          have f9 := dAndE (x := ((m.1 114 x7.toNatClampNeg) >>> (x5 &&& 31))) (y := (1 : Int32)) (by decide)
          exact ih.2.2.1 _ _ _ _ _ _ _ hI (by omega) (by omega) (by omega) (by omega)
    · intro x2 x3 x4 x5 x6 x7 m hI h3 h5 h7 hμ
      refine v_X12_ask_70_94 ?_
      have f1 := dAddE (X := x7.toInt) (Y := 1) (x := x7) (y := (1 : Int32)) rfl (by decide) (by omega) (by omega)
      exact ih.2.1 _ _ _ _ _ _ _ hI (by omega) (by omega) (by omega) (by omega)
    · intro x2 x5 x7 m hI h5 hμ
      refine v_X12_ask_70_140 ?_
      exact ih.2.2.2.2.1 _ _ _ _ _ hI (by omega) (by omega) (by omega)
    · intro x2 x3 x4 x5 m hI h3 h5 hμ
      refine v_X12_ask_70_147 ?_
      have f1 := dAddE (X := x5.toInt) (Y := 1) (x := x5) (y := (1 : Int32)) rfl (by decide) (by omega) (by omega)
      exact ih.1 _ _ _ _ _ hI (by omega) (by omega) (by omega)
    · intro x3 m hI h3 hμ
      refine v_X12_ask_70_153 ?_
      exact hQ _ _ hI (by omega)
theorem s_X12_ask_70 {g : gM} {x1 : Int32} {m : dM} {Q : Int32 → dM → Prop} (hG : Gd g) (hI : Inv g m) (hQ : ∀ (r : Int32) (m' : dM), Inv g m' → (-2 ≤ r.toInt ∧ r.toInt ≤ 6) → Q r m') : c_X12_ask_70 24 x1 m Q := by
  refine v_X12_ask_70 ?_
  refine v_X12_in ?_
  have f1 := ti_0
  refine ⟨fun hc2 => ?_, fun hc2 => ?_⟩
  · skip
    refine v_X12_in_14 ?_
    refine ⟨fun hc3 => ?_, fun hc3 => ?_⟩
    · skip
      exfalso; omega
    · skip
      have f4 := ti_m1
      exact hQ _ _ hI (by omega)
  · skip
    have f3 := congrArg Int32.toInt (hI.2 70 63 rfl)
    have f4 := Inv.s hG hI (k := 70) (j := 63) rfl rfl
    refine ⟨fun hc5 => ?_, fun hc5 => ?_⟩
    · skip
      refine v_X12_in_14 ?_
      refine ⟨fun hc6 => ?_, fun hc6 => ?_⟩
      · skip
        exfalso; omega
      · skip
        have f7 := ti_m1
        exact hQ _ _ hI (by omega)
    · skip
      have f6 := ti_1
      refine ⟨fun hc7 => ?_, fun hc7 => ?_⟩
      · skip
        refine Wp.deep (s_X12_wentBits_70 hG hI (by omega) (fun R8 M8 I8 => ?_)) (Nat.le_of_ble_eq_true rfl)
        have f9 := ti_m2
        exact (s_X12_ask_70_all hG hQ 202).1 _ _ _ _ _ I8 (by omega) (by omega) (by omega)
      · skip
        exfalso; omega
theorem s_X12_count_70_all {g : gM} {Q : Int32 → dM → Prop} (hG : Gd g) (hQ : ∀ (r : Int32) (m' : dM), Inv g m' → Q r m') : ∀ n : Nat, (∀ (x2 : Int32) (x3 : Int32) (m : dM), Inv g m → (0 ≤ x3.toInt ∧ x3.toInt ≤ 10) → 10 - 1 * x3.toInt < (n : Int) → j_X12_count_70_228 22 x2 x3 m Q) ∧ (∀ (x2 : Int32) (x3 : Int32) (m : dM), Inv g m → (0 ≤ x3.toInt ∧ x3.toInt ≤ 10) → 32 - 2 * x3.toInt < (n : Int) → j_X12_count_70_265 22 x2 x3 m Q) ∧ (∀ (x2 : Int32) (x3 : Int32) (m : dM), Inv g m → (0 ≤ x3.toInt ∧ x3.toInt ≤ 9) → 31 - 2 * x3.toInt < (n : Int) → j_X12_count_70_295 22 x2 x3 m Q) := by
  intro n
  induction n with
  | zero => exact ⟨fun x2 x3 m hI h3 hμ => by exfalso; omega, fun x2 x3 m hI h3 hμ => by exfalso; omega, fun x2 x3 m hI h3 hμ => by exfalso; omega⟩
  | succ n ih =>
    refine ⟨?_, ?_, ?_⟩
    · intro x2 x3 m hI h3 hμ
      refine v_X12_count_70_228 ?_
      have f1 := congrArg Int32.toInt (hI.2 70 18 rfl)
      have f2 := Inv.s hG hI (k := 70) (j := 18) rfl rfl
      refine ⟨by omega, ?_⟩
      have f3 := Inv.cnt82 hG hI
      have f4 := Inv.s hG hI (k := 82) (j := (m.1 70 18).toNatClampNeg) rfl rfl
      refine ⟨fun hc5 => ?_, fun hc5 => ?_⟩
      · skip
        exact hQ _ _ hI
      · skip
        have f6 := dAddE (X := 30) (Y := x3.toInt) (x := (30 : Int32)) (y := x3) (by decide) rfl (by omega) (by omega)
        refine ⟨by omega, ?_⟩
        have f7 := dAddE (X := x3.toInt) (Y := 1) (x := x3) (y := (1 : Int32)) rfl (by decide) (by omega) (by omega)
        exact ih.1 _ _ _ hI (by omega) (by omega)
    · intro x2 x3 m hI h3 hμ
      refine v_X12_count_70_265 ?_
      have f1 := congrArg Int32.toInt (hI.2 70 18 rfl)
      have f2 := Inv.s hG hI (k := 70) (j := 18) rfl rfl
      refine ⟨by omega, ?_⟩
      have f3 := Inv.cnt82 hG hI
      have f4 := Inv.s hG hI (k := 82) (j := (m.1 70 18).toNatClampNeg) rfl rfl
      refine ⟨fun hc5 => ?_, fun hc5 => ?_⟩
      · skip
        exact hQ _ _ hI
      · skip
        refine v_X12_isWhole_70 ?_
        refine v_X12_isWire_70 ?_
        refine ⟨by omega, ?_⟩
        refine v_X12_in ?_
        have f6 := ti_0
        refine ⟨fun hc7 => ?_, fun hc7 => ?_⟩
        · skip
          exfalso; omega
        · skip
          have f8 := dSubE (X := (m.1 82 (m.1 70 18).toNatClampNeg).toInt) (Y := 1) (x := (m.1 82 (m.1 70 18).toNatClampNeg)) (y := (1 : Int32)) rfl (by decide) (by omega) (by omega)
          refine ⟨fun hc9 => ?_, fun hc9 => ?_⟩
          · skip
            refine v_X12_in_14 ?_
            refine ⟨by decide, ?_⟩
            refine ⟨fun hc10 => ?_, fun hc10 => ?_⟩
            · skip
              refine v_X12_isWhole_70_24 ?_
              refine ⟨fun hc11 => ?_, fun hc11 => ?_⟩
              · skip
                exact ih.2.2 _ _ _ hI (by omega) (by omega)
              · skip
                exfalso; omega
            · skip
              exfalso; omega
          · skip
            have f10 := ti_1
            refine ⟨by decide, ?_⟩
            refine ⟨fun hc11 => ?_, fun hc11 => ?_⟩
            · skip
              exfalso; omega
            · skip
              have f12 := dAddE (X := 10) (Y := x3.toInt) (x := (10 : Int32)) (y := x3) (by decide) rfl (by omega) (by omega)
              refine ⟨by omega, ?_⟩
              refine ⟨fun hc13 => ?_, fun hc13 => ?_⟩
              · skip
                refine v_X12_isWhole_70_24 ?_
                refine ⟨fun hc14 => ?_, fun hc14 => ?_⟩
                · skip
                  exact ih.2.2 _ _ _ hI (by omega) (by omega)
                · skip
                  exfalso; omega
              · skip
                refine ⟨fun hc14 => ?_, fun hc14 => ?_⟩
                · skip
                  exfalso; omega
                · skip
                  refine ⟨by omega, ?_⟩
                  exact ih.2.2 _ _ _ hI (by omega) (by omega)
    · intro x2 x3 m hI h3 hμ
      refine v_X12_count_70_295 ?_
      have f1 := dAddE (X := x3.toInt) (Y := 1) (x := x3) (y := (1 : Int32)) rfl (by decide) (by omega) (by omega)
      exact ih.2.1 _ _ _ hI (by omega) (by omega)
theorem s_X12_count_70 {g : gM} {x1 : Int32} {m : dM} {Q : Int32 → dM → Prop} (hG : Gd g) (hI : Inv g m) (hQ : ∀ (r : Int32) (m' : dM), Inv g m' → Q r m') : c_X12_count_70 22 x1 m Q := by
  refine v_X12_count_70 ?_
  refine Wp.deep (s_X12_copies_70 hG hI (fun M1 I1 => ?_)) (Nat.le_of_ble_eq_true rfl)
  refine ⟨fun hc2 => ?_, fun hc2 => ?_, fun hc2 => ?_, fun hc2 => ?_, fun hc2 => ?_, fun hc2 => ?_, fun hc2 => ?_, fun hc2 => ?_, fun hc2 => ?_, fun hc2 => ?_, fun hc2 => ?_, fun hc2 => ?_, fun hc2 => ?_, fun hc2 => ?_, fun hc2 => ?_, fun hc2 => ?_, fun hc2 => ?_⟩
  · skip
    have f3 := congrArg Int32.toInt (I1.2 70 18 rfl)
    have f4 := Inv.s hG I1 (k := 70) (j := 18) rfl rfl
    refine ⟨by omega, ?_⟩
    have f5 := Inv.cnt80 hG I1
    have f6 := Inv.s hG I1 (k := 80) (j := (M1.1 70 18).toNatClampNeg) rfl rfl
    exact hQ _ _ I1
  · skip
    have f3 := congrArg Int32.toInt (I1.2 70 18 rfl)
    have f4 := Inv.s hG I1 (k := 70) (j := 18) rfl rfl
    refine ⟨by omega, ?_⟩
    have f5 := Inv.cnt82 hG I1
    have f6 := Inv.s hG I1 (k := 82) (j := (M1.1 70 18).toNatClampNeg) rfl rfl
    exact hQ _ _ I1
  · skip
    have f3 := congrArg Int32.toInt (I1.2 70 18 rfl)
    have f4 := Inv.s hG I1 (k := 70) (j := 18) rfl rfl
    refine ⟨by omega, ?_⟩
    have f5 := Inv.cnt86 hG I1
    have f6 := Inv.s hG I1 (k := 86) (j := (M1.1 70 18).toNatClampNeg) rfl rfl
    exact hQ _ _ I1
  · skip
    exact hQ _ _ I1
  · skip
    exact hQ _ _ I1
  · skip
    exact hQ _ _ I1
  · skip
    refine Wp.deep (s_X12_goneBits_70 hG I1 (fun R3 => ?_)) (Nat.le_of_ble_eq_true rfl)
    exact hQ _ _ I1
  · skip
    refine Wp.deep (s_X12_litBits_70 hG I1 (fun R3 => ?_)) (Nat.le_of_ble_eq_true rfl)
    exact hQ _ _ I1
  · skip
    refine Wp.deep (s_X12_onNow_70 hG I1 (fun R3 => ?_)) (Nat.le_of_ble_eq_true rfl)
    exact hQ _ _ I1
  · skip
    have f3 := congrArg Int32.toInt (I1.2 70 2 rfl)
    have f4 := Inv.s hG I1 (k := 70) (j := 2) rfl rfl
    exact hQ _ _ I1
  · skip
    have f3 := Inv.w I1 (k := 70) (j := 61) rfl
    exact hQ _ _ I1
  · skip
    have f3 := congrArg Int32.toInt (I1.2 70 63 rfl)
    have f4 := Inv.s hG I1 (k := 70) (j := 63) rfl rfl
    exact hQ _ _ I1
  · skip
    have f3 := congrArg Int32.toInt (I1.2 115 0 rfl)
    refine ⟨fun hc4 => ?_, fun hc4 => ?_⟩
    · skip
      have f5 := congrArg Int32.toInt (I1.2 115 1 rfl)
      refine ⟨fun hc6 => ?_, fun hc6 => ?_⟩
      · skip
        have f7 := congrArg Int32.toInt (I1.2 115 2 rfl)
        refine ⟨fun hc8 => ?_, fun hc8 => ?_⟩
        · skip
          have f9 := dAddE (X := 0) (Y := 0) (x := (0 : Int32)) (y := (0 : Int32)) (by decide) (by decide) (by omega) (by omega)
          have f10 := dAddE (X := ((0 : Int32) + (0 : Int32)).toInt) (Y := 0) (x := ((0 : Int32) + (0 : Int32))) (y := (0 : Int32)) rfl (by decide) (by omega) (by omega)
          exact hQ _ _ I1
        · skip
          have f9 := dAddE (X := 0) (Y := 0) (x := (0 : Int32)) (y := (0 : Int32)) (by decide) (by decide) (by omega) (by omega)
          have f10 := dAddE (X := ((0 : Int32) + (0 : Int32)).toInt) (Y := 1) (x := ((0 : Int32) + (0 : Int32))) (y := (1 : Int32)) rfl (by decide) (by omega) (by omega)
          exact hQ _ _ I1
      · skip
        have f7 := congrArg Int32.toInt (I1.2 115 2 rfl)
        refine ⟨fun hc8 => ?_, fun hc8 => ?_⟩
        · skip
          have f9 := dAddE (X := 0) (Y := 1) (x := (0 : Int32)) (y := (1 : Int32)) (by decide) (by decide) (by omega) (by omega)
          have f10 := dAddE (X := ((0 : Int32) + (1 : Int32)).toInt) (Y := 0) (x := ((0 : Int32) + (1 : Int32))) (y := (0 : Int32)) rfl (by decide) (by omega) (by omega)
          exact hQ _ _ I1
        · skip
          have f9 := dAddE (X := 0) (Y := 1) (x := (0 : Int32)) (y := (1 : Int32)) (by decide) (by decide) (by omega) (by omega)
          have f10 := dAddE (X := ((0 : Int32) + (1 : Int32)).toInt) (Y := 1) (x := ((0 : Int32) + (1 : Int32))) (y := (1 : Int32)) rfl (by decide) (by omega) (by omega)
          exact hQ _ _ I1
    · skip
      have f5 := congrArg Int32.toInt (I1.2 115 1 rfl)
      refine ⟨fun hc6 => ?_, fun hc6 => ?_⟩
      · skip
        have f7 := congrArg Int32.toInt (I1.2 115 2 rfl)
        refine ⟨fun hc8 => ?_, fun hc8 => ?_⟩
        · skip
          have f9 := dAddE (X := 1) (Y := 0) (x := (1 : Int32)) (y := (0 : Int32)) (by decide) (by decide) (by omega) (by omega)
          have f10 := dAddE (X := ((1 : Int32) + (0 : Int32)).toInt) (Y := 0) (x := ((1 : Int32) + (0 : Int32))) (y := (0 : Int32)) rfl (by decide) (by omega) (by omega)
          exact hQ _ _ I1
        · skip
          have f9 := dAddE (X := 1) (Y := 0) (x := (1 : Int32)) (y := (0 : Int32)) (by decide) (by decide) (by omega) (by omega)
          have f10 := dAddE (X := ((1 : Int32) + (0 : Int32)).toInt) (Y := 1) (x := ((1 : Int32) + (0 : Int32))) (y := (1 : Int32)) rfl (by decide) (by omega) (by omega)
          exact hQ _ _ I1
      · skip
        have f7 := congrArg Int32.toInt (I1.2 115 2 rfl)
        refine ⟨fun hc8 => ?_, fun hc8 => ?_⟩
        · skip
          have f9 := dAddE (X := 1) (Y := 1) (x := (1 : Int32)) (y := (1 : Int32)) (by decide) (by decide) (by omega) (by omega)
          have f10 := dAddE (X := ((1 : Int32) + (1 : Int32)).toInt) (Y := 0) (x := ((1 : Int32) + (1 : Int32))) (y := (0 : Int32)) rfl (by decide) (by omega) (by omega)
          exact hQ _ _ I1
        · skip
          have f9 := dAddE (X := 1) (Y := 1) (x := (1 : Int32)) (y := (1 : Int32)) (by decide) (by decide) (by omega) (by omega)
          have f10 := dAddE (X := ((1 : Int32) + (1 : Int32)).toInt) (Y := 1) (x := ((1 : Int32) + (1 : Int32))) (y := (1 : Int32)) rfl (by decide) (by omega) (by omega)
          exact hQ _ _ I1
  · skip
    refine Wp.deep (s_X12_isSurge_70 hG I1 (fun R3 hr3 => ?_)) (Nat.le_of_ble_eq_true rfl)
    refine ⟨fun hc4 => ?_, fun hc4 => ?_⟩
    · skip
      have f5 := ti_0
      exact hQ _ _ I1
    · skip
      have f5 := ti_1
      exact hQ _ _ I1
  · skip
    have f3 := ti_0
    exact (s_X12_count_70_all hG hQ 34).1 _ _ _ I1 (by omega) (by omega)
  · skip
    have f3 := ti_0
    exact (s_X12_count_70_all hG hQ 34).2.1 _ _ _ I1 (by omega) (by omega)
  · skip
    have f3 := ti_m1
    exact hQ _ _ I1
end
section
/-! THE STATE BETWEEN CALLS, by itself -/
theorem sT_w {k j : Nat} {b : Int × Int} (h : sT k j = some b) : wT k j = none := by
  unfold sT at h
  split at h
  all_goals first
    | rfl
    | (split at h <;> first | rfl | cases h)
    | cases h
theorem gSeg_congr {g g' : gM} (h1 : g' 102 = g 102) (h2 : g' 103 = g 103) : ∀ (n p t : Nat), gSeg g' n p t = gSeg g n p t
  | 0, _, _ => rfl
  | n + 1, p, t => by
    simp only [gSeg]
    rw [h1, h2, gSeg_congr h1 h2 n (p + 1) (t + 1), gSeg_congr h1 h2 n (p + 1) (t - 1)]
theorem Gx_congr {g g' : gM} (h22 : g' 2 2 = g 2 2) (hl : g' 70 18 = g 70 18) (h7 : g' 7 = g 7) (hc : ∀ k : Nat, 82 ≤ k → k ≤ 103 → g' k = g k) (hG : Gx g) : Gx g' := by
  have eL : gL g' = gL g := by unfold gL; rw [hl]
  have e : ∀ k : Nat, 82 ≤ k → k ≤ 103 → g' k = g k := hc
  have hs : ∀ (L : Nat) (a b : Int), gPc g' L a b = gPc g L a b := fun L a b => by
    unfold gPc
    rw [gSeg_congr (e 102 (by omega) (by omega)) (e 103 (by omega) (by omega))]
  have hb : ∀ L j : Nat, gBr g' L j = gBr g L j := fun L j => by
    unfold gBr
    simp only [hs]
    rw [e 97 (by omega) (by omega), e 98 (by omega) (by omega), e 99 (by omega) (by omega), e 100 (by omega) (by omega), e 101 (by omega) (by omega)]
  have hw : ∀ (L : Nat) (a b : Int), gLw g' L a b = gLw g L a b := fun L a b => by
    unfold gLw
    simp only [hb]
  unfold Gx at hG ⊢
  rw [eL, h22, h7, e 86 (by omega) (by omega), e 87 (by omega) (by omega), e 82 (by omega) (by omega), e 83 (by omega) (by omega), e 84 (by omega) (by omega), e 95 (by omega) (by omega), e 96 (by omega) (by omega)]
  simp only [hw]
  exact hG
def Ok (m : dM) : Prop := Gd m.1 ∧ Inv m.1 m
section OKS
variable {g : gM} {m : dM} {k j : Nat} {lo hi : Int} {v : Int32}
theorem Inv.cell (hI : Inv g m) (hw : ∀ j, wT k j = none) : m.1 k = g k := funext fun j => hI.2 k j (hw j)
theorem wT_mid {k : Nat} (h1 : 82 ≤ k) (h2 : k ≤ 103) : ∀ j, wT k j = none := by
  have H : ∀ n : Nat, n < 22 → ∀ j, wT (82 + n) j = none := by
    intro n hn j
    match n, hn with
    | 0, _ | 1, _ | 2, _ | 3, _ | 4, _ | 5, _ | 6, _ | 7, _ | 8, _ | 9, _ | 10, _ | 11, _ | 12, _ | 13, _ | 14, _ | 15, _ | 16, _ | 17, _ | 18, _ | 19, _ | 20, _ | 21, _ => rfl
    | n + 22, hn => omega
  have := H (k - 82) (by omega)
  rw [show 82 + (k - 82) = k by omega] at this
  exact this
theorem Ok.of (hG : Gd g) (hI : Inv g m) : Ok m := by
  refine ⟨⟨fun k j lo hi h => ?_, ?_⟩, hI.1, fun _ _ _ => rfl⟩
  · rw [hI.2 k j (sT_w h)]
    exact hG.1 k j lo hi h
  · exact Gx_congr (hI.2 2 2 rfl) (hI.2 70 18 rfl) (hI.cell (fun _ => rfl)) (fun k h1 h2 => hI.cell (wT_mid h1 h2)) hG.2
theorem Inv.self (hI : Inv g m) : Inv m.1 m := ⟨hI.1, fun _ _ _ => rfl⟩
/-- a store at what stays, that Gx does not read -/
theorem Ok.set1 (hO : Ok m) (hk : k = 0 ∨ k = 20 ∨ k = 25) (hw : wT k j = none) (hs : sT k j = some (lo, hi)) (h1 : lo ≤ v.toInt) (h2 : v.toInt ≤ hi) : Ok (dSet m k j v) := by
  have hne : ∀ a : Nat, a ≠ k → (dSet m k j v).1 a = m.1 a := fun a ha => dSet_k ha
  refine ⟨⟨fun k' j' lo' hi' h => ?_, ?_⟩, fun k' j' lo' hi' h => ?_, fun _ _ _ => rfl⟩
  · rw [dSet_e]
    by_cases hc : k' = k ∧ j' = j
    · rw [if_pos hc]
      rw [hc.1, hc.2, hs] at h
      cases h
      exact ⟨h1, h2⟩
    · rw [if_neg hc]
      exact hO.1.1 k' j' lo' hi' h
  · refine Gx_congr ?_ ?_ ?_ (fun a h1 h2 => hne a (by omega)) hO.1.2
    · rw [hne 2 (by omega)]
    · rw [hne 70 (by omega)]
    · exact hne 7 (by omega)
  · rw [dSet_e]
    by_cases hc : k' = k ∧ j' = j
    · rw [hc.1, hc.2, hw] at h
      cases h
    · rw [if_neg hc]
      exact hO.2.1 k' j' lo' hi' h
theorem Ok.set (hO : Ok m) (hw : wT k j = some (lo, hi)) (h1 : lo ≤ v.toInt) (h2 : v.toInt ≤ hi) : Ok (dSet m k j v) := Ok.of hO.1 (Inv.set hO.2 hw h1 h2)
theorem Ok.setA (hO : Ok m) (hw : wT k j = fR) : Ok (dSet m k j v) := Ok.of hO.1 (Inv.setA hO.2 hw)
theorem Ok.setL {x : Int64} (hO : Ok m) : Ok (dSetL m k j x) := hO
theorem Ok.s (hO : Ok m) (h : sT k j = some (lo, hi)) : lo ≤ (m.1 k j).toInt ∧ (m.1 k j).toInt ≤ hi := hO.1.1 k j lo hi h
theorem Ok.w (hO : Ok m) (h : wT k j = some (lo, hi)) : lo ≤ (m.1 k j).toInt ∧ (m.1 k j).toInt ≤ hi := hO.2.1 k j lo hi h
end OKS
end
section
/-! THE CLASS: what writes at what stays (by hand) -/
def T2 (m m' : dM) : Prop := m'.1 0 1 = m.1 0 1 ∧ m'.1 70 2 = m.1 70 2
def Hm (m : dM) : Prop := ∀ u : Nat, (u : Int) < (m.1 20 2).toInt → 0 ≤ (m.1 25 u).toInt ∧ (m.1 25 u).toInt ≤ 6
theorem T2.of {m m' : dM} (h : Inv m.1 m') : T2 m m' := ⟨h.2 0 1 rfl, h.2 70 2 rfl⟩
theorem T2.tr {a b c : dM} (h : T2 a b) (h' : T2 b c) : T2 a c := ⟨h'.1.trans h.1, h'.2.trans h.2⟩
theorem Hm.of {m m' : dM} (h : Inv m.1 m') (hH : Hm m) : Hm m' := by
  unfold Hm
  rw [h.2 20 2 rfl, h.cell (k := 25) (fun _ => rfl)]
  exact hH
theorem m_X3_clear_20 {m : dM} {Q : dM → Prop} (hO : Ok m) (hQ : ∀ m', Ok m' → T2 m m' → (m'.1 20 2).toInt = 0 → Q m') : c_X3_clear_20 3 m Q := by
  refine v_X3_clear_20 ?_
  have O1 : Ok (dSet (dSet (dSet (dSet (dSet (dSet (dSet m 20 0 (0 : Int32)) 20 1 (0 : Int32)) 20 2 (0 : Int32)) 20 3 (0 : Int32)) 20 4 (0 : Int32)) 20 5 (100 : Int32)) 20 6 (0 : Int32)) := by
    refine Ok.setA (Ok.setA (Ok.setA (Ok.setA (Ok.set1 (lo := 0) (hi := 8) (Ok.set1 (lo := 0) (hi := 10) (Ok.set1 (lo := 0) (hi := 7) hO (Or.inr (Or.inl rfl)) rfl rfl (by decide) (by decide)) (Or.inr (Or.inl rfl)) rfl rfl (by decide) (by decide)) (Or.inr (Or.inl rfl)) rfl rfl (by decide) (by decide)) rfl) rfl) rfl) rfl
  refine Wp.deep (s_X4_clear_29 O1.1 O1.2 (fun m' I' => ?_)) (Nat.le_of_ble_eq_true rfl)
  refine hQ _ (Ok.of O1.1 I') ⟨I'.2 0 1 rfl, I'.2 70 2 rfl⟩ ?_
  rw [I'.2 20 2 rfl]
  rfl
theorem m_X5_flatNamed {m : dM} {Q : Int32 → dM → Prop} (hO : Ok m) (hQ : ∀ (r : Int32) (m' : dM), Inv m.1 m' → (-1 ≤ r.toInt ∧ r.toInt ≤ 6) → (r.toInt = -1 → (m'.1 44 5).toInt = 4) → Q r m') : c_X5_flatNamed_44 2 m Q := by
  refine v_X5_flatNamed_44 ?_
  refine Wp.deep (s_X8_nameAt_38 hO.1 hO.2 (fun r1 => ?_)) (Nat.le_of_ble_eq_true rfl)
  have b := hO.s (k := 20) (j := 0) rfl
  refine Wp.deep (s_X5_indexOf_45 hO.1 hO.2 b (fun r2 hr2 => ?_)) (Nat.le_of_ble_eq_true rfl)
  refine ⟨fun hc => ?_, fun hc => ?_⟩
  · refine v_X5_flatNamed_44_36 ?_
    exact hQ _ _ hO.2 hr2 (fun h => absurd h hc)
  · refine v_X5_flatNamed_44_36 ?_
    exact hQ _ _ (Inv.setA hO.2 rfl) hr2 (fun _ => rfl)
theorem m_X5_takeFlat_44 {m : dM} {Q : Int32 → dM → Prop} (hO : Ok m) (hH : Hm m) (hQ : ∀ (r : Int32) (m' : dM), Ok m' → T2 m m' → ((m'.1 44 5).toInt = 0 ∨ r.toInt ≠ 0 → Hm m') → (0 ≤ r.toInt ∧ r.toInt ≤ 1) → Q r m') : c_X5_takeFlat_44 6 m Q := by
  refine v_X5_takeFlat_44 ?_
  have b0 := hO.s (k := 20) (j := 0) rfl
  refine ⟨fun hc => ?_, fun hc => ?_⟩
  · refine Wp.deep (s_X5_isNewName_44 hO.1 hO.2 (fun r1 m1 I1 hr1 => ?_)) (Nat.le_of_ble_eq_true rfl)
    have O1 := Ok.of hO.1 I1
    refine ⟨fun hc1 => ?_, fun hc1 => ?_⟩
    · refine Wp.deep (s_X8_nameAt_38 O1.1 O1.2 (fun r2 => ?_)) (Nat.le_of_ble_eq_true rfl)
      refine ⟨by omega, ?_⟩
      have O2 : Ok (dSet (dSetL m1 45 (m.1 20 0).toNatClampNeg r2) 44 4 ((m1.1 44 4) + (1 : Int32))) := Ok.setA (Ok.setL O1) rfl
      refine Wp.deep (s_X8_numberAt_38 O2.1 O2.2 (fun r3 => ?_)) (Nat.le_of_ble_eq_true rfl)
      refine ⟨by omega, ?_⟩
      have e0 : m1.1 20 0 = m.1 20 0 := I1.2 20 0 rfl
      have f := dAddE (X := (m1.1 20 0).toInt) (Y := 1) (x := m1.1 20 0) (y := (1 : Int32)) rfl (by decide) (by rw [e0]; omega) (by rw [e0]; omega)
      rw [e0] at f
      have O3 : Ok (dSet (dSet (dSet (dSetL m1 45 (m.1 20 0).toNatClampNeg r2) 44 4 ((m1.1 44 4) + (1 : Int32))) 21 (m.1 20 0).toNatClampNeg r3) 20 0 ((m1.1 20 0) + (1 : Int32))) :=
        Ok.set1 (lo := 0) (hi := 7) (Ok.setA O2 rfl) (Or.inr (Or.inl rfl)) rfl rfl (by rw [e0]; omega) (by rw [e0]; omega)
      refine Wp.deep (s_X5_isWithin_44 O3.1 O3.2 (fun r4 m4 I4 hr4 => ?_)) (Nat.le_of_ble_eq_true rfl)
      refine ⟨dB01 hr4, hQ _ _ (Ok.of O3.1 I4) ((T2.of I1).tr ⟨I4.2 0 1 rfl, I4.2 70 2 rfl⟩) (fun _ => ?_) hr4⟩
      exact Hm.of I4 (show Hm m1 from Hm.of I1 hH)
    · exact hQ _ _ O1 (T2.of I1) (fun _ => Hm.of I1 hH) (by decide)
  · refine Wp.deep (s_X5_fail_44 hO.1 hO.2 (fun r5 m5 I5 hr5 => ?_)) (Nat.le_of_ble_eq_true rfl)
    exact ⟨dB01 (by omega), hQ _ _ (Ok.of hO.1 I5) (T2.of I5) (fun _ => Hm.of I5 hH) (by omega)⟩
theorem m_X5_takeWire_44 {m : dM} {Q : Int32 → dM → Prop} (hO : Ok m) (hH : Hm m) (hQ : ∀ (r : Int32) (m' : dM), Ok m' → T2 m m' → ((m'.1 44 5).toInt = 0 ∨ r.toInt ≠ 0 → Hm m') → (0 ≤ r.toInt ∧ r.toInt ≤ 1) → Q r m') : c_X5_takeWire_44 6 m Q := by
  have fin : ∀ m2 : dM, Ok m2 → T2 m m2 → Hm m2 → j_X5_takeWire_44_71 6 m2 Q := by
    intro m2 O2 h1 h2
    refine v_X5_takeWire_44_71 ?_
    refine Wp.deep (s_X5_fail_44 O2.1 O2.2 (fun r5 m5 I5 hr5 => ?_)) (Nat.le_of_ble_eq_true rfl)
    exact ⟨dB01 (by omega), hQ _ _ (Ok.of O2.1 I5) (h1.tr (T2.of I5)) (fun _ => Hm.of I5 h2) (by omega)⟩
  refine v_X5_takeWire_44 ?_
  have b0 := hO.s (k := 20) (j := 1) rfl
  refine ⟨fun hc => ?_, fun hc => ?_⟩
  · refine Wp.deep (s_X5_flatNamed_44 hO.1 hO.2 (fun r1 m1 I1 hr1 => ?_)) (Nat.le_of_ble_eq_true rfl)
    have O1 := Ok.of hO.1 I1
    refine ⟨fun hc1 => ?_, fun hc1 => ?_⟩
    · have O1' : Ok (dSet m1 44 4 ((m1.1 44 4) + (1 : Int32))) := Ok.setA O1 rfl
      refine Wp.deep (s_X5_flatNamed_44 O1'.1 O1'.2 (fun r2 m2 I2 hr2 => ?_)) (Nat.le_of_ble_eq_true rfl)
      have O2 := Ok.of O1'.1 I2
      have t2 : T2 m m2 := (T2.of I1).tr ⟨I2.2 0 1 rfl, I2.2 70 2 rfl⟩
      have hH2 : Hm m2 := Hm.of I2 (show Hm m1 from Hm.of I1 hH)
      refine ⟨fun hc2 => ?_, fun hc2 => ?_⟩
      · refine ⟨fun hc3 => fin _ O2 t2 hH2, fun hc3 => ?_⟩
        refine Wp.deep (s_X3_isWired_20 O2.1 O2.2 (fun r3 hr3 => ?_)) (Nat.le_of_ble_eq_true rfl)
        refine ⟨fun hc4 => ?_, fun hc4 => fin _ O2 t2 hH2⟩
        refine ⟨by omega, ⟨by omega, ?_⟩⟩
        have O3 : Ok (dSet (dSet (dSet m2 44 4 ((m2.1 44 4) + (1 : Int32))) 22 (m.1 20 1).toNatClampNeg r1) 23 (m.1 20 1).toNatClampNeg r2) :=
          Ok.set (Ok.set (Ok.setA O2 rfl) (show wT 22 _ = some (0, 6) from rfl) (by omega) (by omega)) (show wT 23 _ = some (0, 6) from rfl) (by omega) (by omega)
        refine Wp.deep (s_X8_numberAt_38 O3.1 O3.2 (fun r4 => ?_)) (Nat.le_of_ble_eq_true rfl)
        refine ⟨by omega, ?_⟩
        have e0 : m2.1 20 1 = m.1 20 1 := (I2.2 20 1 rfl).trans (I1.2 20 1 rfl)
        have f := dAddE (X := (m2.1 20 1).toInt) (Y := 1) (x := m2.1 20 1) (y := (1 : Int32)) rfl (by decide) (by rw [e0]; omega) (by rw [e0]; omega)
        rw [e0] at f
        have O4 : Ok (dSet (dSet (dSet (dSet (dSet m2 44 4 ((m2.1 44 4) + (1 : Int32))) 22 (m.1 20 1).toNatClampNeg r1) 23 (m.1 20 1).toNatClampNeg r2) 24 (m.1 20 1).toNatClampNeg r4) 20 1 ((m2.1 20 1) + (1 : Int32))) :=
          Ok.set1 (lo := 0) (hi := 10) (Ok.setA O3 rfl) (Or.inr (Or.inl rfl)) rfl rfl (by rw [e0]; omega) (by rw [e0]; omega)
        refine Wp.deep (s_X5_isWithin_44 O4.1 O4.2 (fun r5 m5 I5 hr5 => ?_)) (Nat.le_of_ble_eq_true rfl)
        exact ⟨dB01 hr5, hQ _ _ (Ok.of O4.1 I5) (t2.tr ⟨I5.2 0 1 rfl, I5.2 70 2 rfl⟩) (fun _ => Hm.of I5 (show Hm m2 from hH2)) hr5⟩
      · exact hQ _ _ O2 t2 (fun _ => hH2) (by decide)
    · exact hQ _ _ O1 (T2.of I1) (fun _ => Hm.of I1 hH) (by decide)
  · refine Wp.deep (s_X5_fail_44 hO.1 hO.2 (fun r5 m5 I5 hr5 => ?_)) (Nat.le_of_ble_eq_true rfl)
    exact ⟨dB01 (by omega), hQ _ _ (Ok.of hO.1 I5) (T2.of I5) (fun _ => Hm.of I5 hH) (by omega)⟩
theorem m_X5_takeUse_44 {m : dM} {Q : Int32 → dM → Prop} (hO : Ok m) (hH : Hm m) (hQ : ∀ (r : Int32) (m' : dM), Ok m' → T2 m m' → ((m'.1 44 5).toInt = 0 ∨ r.toInt ≠ 0 → Hm m') → (0 ≤ r.toInt ∧ r.toInt ≤ 1) → Q r m') : c_X5_takeUse_44 6 m Q := by
  refine v_X5_takeUse_44 ?_
  have b0 := hO.s (k := 20) (j := 2) rfl
  refine ⟨fun hc => ?_, fun hc => ?_⟩
  · refine Wp.deep (s_X5_isNewName_44 hO.1 hO.2 (fun r1 m1 I1 hr1 => ?_)) (Nat.le_of_ble_eq_true rfl)
    have O1 := Ok.of hO.1 I1
    refine ⟨fun hc1 => ?_, fun hc1 => ?_⟩
    · refine Wp.deep (s_X8_nameAt_38 O1.1 O1.2 (fun r2 => ?_)) (Nat.le_of_ble_eq_true rfl)
      refine ⟨by omega, ?_⟩
      have e0 : m1.1 20 2 = m.1 20 2 := I1.2 20 2 rfl
      have f := dAddE (X := (m1.1 20 2).toInt) (Y := 1) (x := m1.1 20 2) (y := (1 : Int32)) rfl (by decide) (by rw [e0]; omega) (by rw [e0]; omega)
      rw [e0] at f
      have O2 : Ok (dSet (dSet (dSetL m1 46 (m.1 20 2).toNatClampNeg r2) 20 2 ((m1.1 20 2) + (1 : Int32))) 44 4 ((m1.1 44 4) + (1 : Int32))) :=
        Ok.setA (Ok.set1 (lo := 0) (hi := 8) (Ok.setL O1) (Or.inr (Or.inl rfl)) rfl rfl (by rw [e0]; omega) (by rw [e0]; omega)) rfl
      refine Wp.deep (m_X5_flatNamed O2 (fun r3 m3 I3 hr3 hf3 => ?_)) (Nat.le_of_ble_eq_true rfl)
      have O3 := Ok.of O2.1 I3
      have t3 : T2 m m3 := (T2.of I1).tr ⟨I3.2 0 1 rfl, I3.2 70 2 rfl⟩
      have e3 : m3.1 20 2 = m.1 20 2 + 1 := (I3.2 20 2 rfl).trans (by show m1.1 20 2 + 1 = _; rw [e0])
      have e25 : m3.1 25 = m.1 25 := (I3.cell (k := 25) (fun _ => rfl)).trans (I1.cell (k := 25) (fun _ => rfl))
      refine ⟨by omega, ⟨by omega, ?_⟩⟩
      have O4 : Ok (dSet m3 25 (m.1 20 2).toNatClampNeg r3) := Ok.set1 (lo := -1) (hi := 6) O3 (Or.inr (Or.inr rfl)) rfl rfl (by omega) (by omega)
      refine ⟨fun hc3 => ?_, fun hc3 => ?_⟩
      · have hH4 : Hm (dSet m3 25 (m.1 20 2).toNatClampNeg r3) := by
          intro u hu
          have hu : (u : Int) < (m3.1 20 2).toInt := hu
          rw [e3] at hu
          rw [dSet_e]
          by_cases hq : u = (m.1 20 2).toNatClampNeg
          · rw [if_pos ⟨rfl, hq⟩]; omega
          · rw [if_neg (fun z => hq z.2), e25]
            have := d_cl b0.1
            exact hH u (by omega)
        have O5 : Ok (dSet (dSet m3 25 (m.1 20 2).toNatClampNeg r3) 44 4 ((m3.1 44 4) + (1 : Int32))) := Ok.setA O4 rfl
        refine Wp.deep (s_X8_numberAt_38 O5.1 O5.2 (fun r4 => ?_)) (Nat.le_of_ble_eq_true rfl)
        refine ⟨by omega, ?_⟩
        have O6 : Ok (dSet (dSet (dSet m3 25 (m.1 20 2).toNatClampNeg r3) 44 4 ((m3.1 44 4) + (1 : Int32))) 26 (m.1 20 2).toNatClampNeg r4) := Ok.setA O5 rfl
        refine Wp.deep (s_X8_numberAt_38 O6.1 O6.2 (fun r5 => ?_)) (Nat.le_of_ble_eq_true rfl)
        refine ⟨by omega, ?_⟩
        have O7 : Ok (dSet (dSet (dSet (dSet m3 25 (m.1 20 2).toNatClampNeg r3) 44 4 ((m3.1 44 4) + (1 : Int32))) 26 (m.1 20 2).toNatClampNeg r4) 27 (m.1 20 2).toNatClampNeg r5) := Ok.setA O6 rfl
        refine Wp.deep (s_X8_numberAt_38 O7.1 O7.2 (fun r6 => ?_)) (Nat.le_of_ble_eq_true rfl)
        refine ⟨by omega, ?_⟩
        have O8 : Ok (dSet (dSet (dSet (dSet (dSet m3 25 (m.1 20 2).toNatClampNeg r3) 44 4 ((m3.1 44 4) + (1 : Int32))) 26 (m.1 20 2).toNatClampNeg r4) 27 (m.1 20 2).toNatClampNeg r5) 28 (m.1 20 2).toNatClampNeg r6) := Ok.setA O7 rfl
        refine Wp.deep (s_X5_isWithin_44 O8.1 O8.2 (fun r7 m7 I7 hr7 => ?_)) (Nat.le_of_ble_eq_true rfl)
        have O9 := Ok.of O8.1 I7
        have hH7 : Hm m7 := Hm.of I7 (show Hm (dSet m3 25 (m.1 20 2).toNatClampNeg r3) from hH4)
        have t7 : T2 m m7 := t3.tr ⟨I7.2 0 1 rfl, I7.2 70 2 rfl⟩
        have fin : ∀ m8 : dM, Inv m7.1 m8 → j_X5_takeUse_44_213 6 m8 Q := fun m8 I8 => by
          refine v_X5_takeUse_44_213 ?_
          exact hQ _ _ (Ok.of O9.1 I8) (t7.tr (T2.of I8)) (fun _ => Hm.of I8 hH7) (by decide)
        refine ⟨fun hc7 => fin _ O9.2, fun hc7 => ?_⟩
        refine Wp.deep (s_X5_isWithin_44 O9.1 O9.2 (fun r8 m8 I8 hr8 => ?_)) (Nat.le_of_ble_eq_true rfl)
        refine ⟨fun hc8 => fin _ I8, fun hc8 => ?_⟩
        refine ⟨by omega, ?_⟩
        refine Wp.deep (s_X5_isWithin_44 O9.1 I8 (fun r9 m9 I9 hr9 => ?_)) (Nat.le_of_ble_eq_true rfl)
        refine ⟨fun hc9 => fin _ I9, fun hc9 => ?_⟩
        exact hQ _ _ (Ok.of O9.1 I9) (t7.tr (T2.of I9)) (fun _ => Hm.of I9 hH7) (by decide)
      · refine hQ _ _ O4 ⟨t3.1, t3.2⟩ (fun h => ?_) (by decide)
        rcases h with h | h
        · have h : (m3.1 44 5).toInt = 0 := h
          rw [hf3 hc3] at h
          exact absurd h (by decide)
        · exact absurd rfl h
    · exact hQ _ _ O1 (T2.of I1) (fun _ => Hm.of I1 hH) (by decide)
  · refine Wp.deep (s_X5_fail_44 hO.1 hO.2 (fun r5 m5 I5 hr5 => ?_)) (Nat.le_of_ble_eq_true rfl)
    exact ⟨dB01 (by omega), hQ _ _ (Ok.of hO.1 I5) (T2.of I5) (fun _ => Hm.of I5 hH) (by omega)⟩
theorem m_X5_takeTold_44 {x1 : Int32} {m : dM} {Q : Int32 → dM → Prop} (hO : Ok m) (hH : Hm m) (hQ : ∀ (r : Int32) (m' : dM), Ok m' → T2 m m' → ((m'.1 44 5).toInt = 0 ∨ r.toInt ≠ 0 → Hm m') → (0 ≤ r.toInt ∧ r.toInt ≤ 1) → Q r m') : c_X5_takeTold_44 7 x1 m Q := by
  refine v_X5_takeTold_44 ?_
  have tri : Q (1 : Int32) m := hQ _ _ hO ⟨rfl, rfl⟩ (fun _ => hH) (by decide)
  refine ⟨fun _ => ?_, fun _ => ?_, fun _ => ?_, fun _ => tri, fun _ => tri, fun _ => tri, fun _ => tri, fun _ => ?_, fun _ => ?_, fun _ => ?_, fun _ => tri⟩
  · exact Wp.deep (m_X5_takeFlat_44 hO hH (fun r m' a b c e => ⟨dB01 e, hQ r m' a b c e⟩)) (Nat.le_of_ble_eq_true rfl)
  · exact Wp.deep (m_X5_takeWire_44 hO hH (fun r m' a b c e => ⟨dB01 e, hQ r m' a b c e⟩)) (Nat.le_of_ble_eq_true rfl)
  · exact Wp.deep (m_X5_takeUse_44 hO hH (fun r m' a b c e => ⟨dB01 e, hQ r m' a b c e⟩)) (Nat.le_of_ble_eq_true rfl)
  · exact Wp.deep (s_X5_takeSurge_44 hO.1 hO.2 (fun r m' I e => ⟨dB01 e, hQ r m' (Ok.of hO.1 I) (T2.of I) (fun _ => Hm.of I hH) e⟩)) (Nat.le_of_ble_eq_true rfl)
  · exact Wp.deep (s_X5_takeCoins_44 hO.1 hO.2 (fun r m' I e => ⟨dB01 e, hQ r m' (Ok.of hO.1 I) (T2.of I) (fun _ => Hm.of I hH) e⟩)) (Nat.le_of_ble_eq_true rfl)
  · exact Wp.deep (s_X5_takeSeed_44 hO.1 hO.2 (fun r m' I e => ⟨dB01 e, hQ r m' (Ok.of hO.1 I) (T2.of I) (fun _ => Hm.of I hH) e⟩)) (Nat.le_of_ble_eq_true rfl)
theorem m_X8_kindAt {x1 : Int32} {m : dM} {Q : Int32 → dM → Prop} (hQ : ∀ r, Q r m) : c_X8_kindAt_38 1 x1 m Q := by
  refine v_X8_kindAt_38 ?_
  refine ⟨fun _ => v_X8_kindAt_38_20 (hQ _), fun h1 => ⟨fun _ => v_X8_kindAt_38_20 (hQ _), fun h2 => ⟨by omega, hQ _⟩⟩⟩
theorem m_X5_check_44 {m0 : dM} {Q : Int32 → dM → Prop} (hQ : ∀ (r : Int32) (m' : dM), Ok m' → T2 m0 m' → (r.toInt = 0 → Hm m') → Q r m') : ∀ n : Nat, (∀ (x1 : Int32) (m : dM), Ok m → T2 m0 m → ((m.1 44 5).toInt = 0 → Hm m) → 0 ≤ x1.toInt ∧ x1.toInt ≤ 401 → 401 - x1.toInt < (n : Int) → j_X5_check_44_12 9 x1 m Q) := by
  intro n
  have fin : ∀ m : dM, Ok m → T2 m0 m → ((m.1 44 5).toInt = 0 → Hm m) → j_X5_check_44_82 9 m Q := fun m hO ht hH => by
    refine v_X5_check_44_82 ?_
    exact hQ _ _ hO ht hH
  induction n with
  | zero => intro x1 m hO ht hH h1 hμ; exfalso; omega
  | succ n ih =>
    intro x1 m hO ht hH h1 hμ
    have back : ∀ m' : dM, x1.toInt ≤ 400 → Ok m' → T2 m0 m' → ((m'.1 44 5).toInt = 0 → Hm m') → j_X5_check_44_76 9 x1 m' Q := fun m' hx a b c => by
      refine v_X5_check_44_76 ?_
      have f := dAddE (X := x1.toInt) (Y := 1) (x := x1) (y := (1 : Int32)) rfl (by decide) (by omega) (by omega)
      exact ih _ _ a b c (by omega) (by omega)
    refine v_X5_check_44_12 ?_
    refine ⟨fun hc => fin m hO ht hH, fun hc => ⟨fun hc1 => fin m hO ht hH, fun hc1 => ?_⟩⟩
    refine Wp.deep (m_X8_kindAt (fun r1 => ?_)) (Nat.le_of_ble_eq_true rfl)
    refine ⟨fun hc2 => fin m hO ht hH, fun hc2 => ?_⟩
    refine Wp.deep (m_X8_kindAt (fun r2 => ?_)) (Nat.le_of_ble_eq_true rfl)
    have O1 : Ok (dSet m 44 4 ((m.1 44 4) + (1 : Int32))) := Ok.setA hO rfl
    refine Wp.deep (m_X5_takeTold_44 O1 (show Hm m from hH hc1) (fun r3 m3 O3 t3 hH3 hr3 => ?_)) (Nat.le_of_ble_eq_true rfl)
    have t3' : T2 m0 m3 := ht.tr ⟨t3.1, t3.2⟩
    refine ⟨fun hc3 => back _ hc O3 t3' (fun h => hH3 (Or.inl h)), fun hc3 => ?_⟩
    refine Wp.deep (s_X5_skipEnd_44 O3.1 O3.2 (fun m4 I4 => ?_)) (Nat.le_of_ble_eq_true rfl)
    exact back _ hc (Ok.of O3.1 I4) (t3'.tr (T2.of I4)) (fun _ => Hm.of I4 (hH3 (Or.inr hc3)))
theorem m_X5_check {m : dM} {Q : Int32 → dM → Prop} (hO : Ok m) (hH : Hm m) (hQ : ∀ (r : Int32) (m' : dM), Ok m' → T2 m m' → (r.toInt = 0 → Hm m') → Q r m') : c_X5_check_44 9 m Q := by
  refine v_X5_check_44 ?_
  have O1 : Ok (dSet (dSet m 44 4 (0 : Int32)) 44 5 (0 : Int32)) := Ok.setA (Ok.setA hO rfl) rfl
  exact m_X5_check_44 (m0 := m) hQ 500 _ _ O1 ⟨rfl, rfl⟩ (fun _ => hH) (by decide) (by decide)
end
section
/-! THE CLASS, 2: laws and house copied, read, feed, back -/
def OkB (m : dM) : Prop := ∀ (k j : Nat) (lo hi : Int), wT k j = some (lo, hi) ∨ sT k j = some (lo, hi) → lo ≤ (m.1 k j).toInt ∧ (m.1 k j).toInt ≤ hi
theorem Ok.b {m : dM} (hO : Ok m) : OkB m := fun k j lo hi h => by
  rcases h with h | h
  · exact hO.w h
  · exact hO.s h
theorem Ok.mk {m : dM} (hB : OkB m) (hG : Gx m.1) : Ok m := ⟨⟨fun k j lo hi h => hB k j lo hi (Or.inr h), hG⟩, fun k j lo hi h => hB k j lo hi (Or.inl h), fun _ _ _ => rfl⟩
theorem OkB.set {m : dM} {k j : Nat} {v : Int32} (h : OkB m) (hb : ∀ lo hi, wT k j = some (lo, hi) ∨ sT k j = some (lo, hi) → lo ≤ v.toInt ∧ v.toInt ≤ hi) : OkB (dSet m k j v) := by
  intro k' j' lo hi h'
  rw [dSet_e]
  by_cases hc : k' = k ∧ j' = j
  · rw [if_pos hc]
    rw [hc.1, hc.2] at h'
    exact hb lo hi h'
  · rw [if_neg hc]
    exact h k' j' lo hi h'
theorem OkB.cpy {m : dM} {k0 sp k1 dp n : Nat} (h : OkB m) (hb : ∀ (j : Nat) (lo hi : Int), wT k1 j = some (lo, hi) ∨ sT k1 j = some (lo, hi) → lo ≤ (m.1 k0 (sp + (j - dp))).toInt ∧ (m.1 k0 (sp + (j - dp))).toInt ≤ hi) : OkB (dCpy m k0 sp k1 dp n) := by
  intro k' j' lo hi h'
  rw [dCpy_e]
  by_cases hc : k' = k1 ∧ dp ≤ j' ∧ j' < dp + n
  · rw [if_pos hc]
    rw [hc.1] at h'
    exact hb j' lo hi h'
  · rw [if_neg hc]
    exact h k' j' lo hi h'
theorem Gx_model {g g' : gM} (hl : g' 70 18 = g 70 18) (hc : ∀ k : Nat, 82 ≤ k → k ≤ 103 → g' k = g k) (hG : Gx g) (hh : ∀ u : Nat, (u : Int) < (g' 2 2).toInt → 0 ≤ (g' 7 u).toInt ∧ (g' 7 u).toInt ≤ 6) : Gx g' := by
  have eL : gL g' = gL g := by unfold gL; rw [hl]
  have e : ∀ k : Nat, 82 ≤ k → k ≤ 103 → g' k = g k := hc
  have hs : ∀ (L : Nat) (a b : Int), gPc g' L a b = gPc g L a b := fun L a b => by
    unfold gPc
    rw [gSeg_congr (e 102 (by omega) (by omega)) (e 103 (by omega) (by omega))]
  have hb : ∀ L j : Nat, gBr g' L j = gBr g L j := fun L j => by
    unfold gBr
    simp only [hs]
    rw [e 97 (by omega) (by omega), e 98 (by omega) (by omega), e 99 (by omega) (by omega), e 100 (by omega) (by omega), e 101 (by omega) (by omega)]
  have hw : ∀ (L : Nat) (a b : Int), gLw g' L a b = gLw g L a b := fun L a b => by
    unfold gLw
    simp only [hb]
  refine ⟨hh, ?_⟩
  have hG := hG.2
  rw [eL, e 86 (by omega) (by omega), e 87 (by omega) (by omega), e 82 (by omega) (by omega), e 83 (by omega) (by omega), e 84 (by omega) (by omega), e 95 (by omega) (by omega), e 96 (by omega) (by omega)]
  simp only [hw]
  exact hG
theorem dCpy_k {m : dM} {k0 sp k1 dp n a : Nat} (h : a ≠ k1) : (dCpy m k0 sp k1 dp n).1 a = m.1 a := by
  funext b
  rw [dCpy_e, if_neg (fun q => h q.1)]
/-- one law over -/
theorem m_lawOver {m : dM} {x : Int32} {a b : Nat} (hO : Ok m) (ha : a = 32 ∨ a = 33 ∨ a = 34 ∨ a = 35) (hb : b = 14 ∨ b = 15 ∨ b = 16 ∨ b = 17) : Ok (dCpy (dSet m 18 x.toNatClampNeg (m.1 36 x.toNatClampNeg)) a (0 : Int).toNat b (0 : Int).toNat (14 : Int).toNat) := by
  have B1 : OkB (dSet m 18 x.toNatClampNeg (m.1 36 x.toNatClampNeg)) := OkB.set hO.b (fun lo hi h => by
    rcases h with h | h
    · cases h
    · cases h
      exact hO.w (k := 36) rfl)
  have hne : ∀ c : Nat, c ≠ 18 → c ≠ b → (dCpy (dSet m 18 x.toNatClampNeg (m.1 36 x.toNatClampNeg)) a (0 : Int).toNat b (0 : Int).toNat (14 : Int).toNat).1 c = m.1 c := fun c h1 h2 => by rw [dCpy_k h2, dSet_k h1]
  refine Ok.mk (OkB.cpy B1 (fun j lo hi h => ?_)) ?_
  · have hw : wT b j = none ∧ sT b j = some (0, 406) := by rcases hb with rfl | rfl | rfl | rfl <;> exact ⟨rfl, rfl⟩
    have hw2 : ∀ i, wT a i = some (0, 406) := by intro i; rcases ha with rfl | rfl | rfl | rfl <;> rfl
    have : lo = 0 ∧ hi = 406 := by
      rcases h with h | h
      · rw [hw.1] at h; cases h
      · rw [hw.2] at h; cases h; exact ⟨rfl, rfl⟩
    rw [this.1, this.2]
    exact B1 _ _ _ _ (Or.inl (hw2 _))
  · refine Gx_congr ?_ ?_ (hne 7 (by omega) (by omega)) (fun c h1 h2 => hne c (by omega) (by omega)) hO.1.2
    · rw [hne 2 (by omega) (by omega)]
    · rw [hne 70 (by omega) (by omega)]
theorem m_X4_copy_27 {m0 : dM} {Q : dM → Prop} (hQ : ∀ m', Ok m' → T2 m0 m' → Q m') : ∀ n : Nat, ∀ (x2 : Int32) (m : dM), Ok m → T2 m0 m → 0 ≤ x2.toInt ∧ x2.toInt ≤ 4 → 4 - x2.toInt < (n : Int) → j_X4_copy_11_29_27 1 x2 m Q := by
  intro n
  induction n with
  | zero => intro x2 m hO ht h2 hμ; exfalso; omega
  | succ n ih =>
    intro x2 m hO ht h2 hμ
    refine v_X4_copy_11_29_27 ?_
    refine ⟨fun hc => hQ _ hO ht, fun hc => ?_⟩
    have f := dAddE (X := x2.toInt) (Y := 1) (x := x2) (y := (1 : Int32)) rfl (by decide) (by omega) (by omega)
    have go : ∀ a b : Nat, (a = 32 ∨ a = 33 ∨ a = 34 ∨ a = 35) → (b = 14 ∨ b = 15 ∨ b = 16 ∨ b = 17) → j_X4_copy_11_29_27 1 (x2 + 1) (dCpy (dSet m 18 x2.toNatClampNeg (m.1 36 x2.toNatClampNeg)) a (0 : Int).toNat b (0 : Int).toNat (14 : Int).toNat) Q := fun a b ha hb =>
      ih _ _ (m_lawOver hO ha hb) ⟨by rw [dCpy_k (by omega), dSet_k (by omega)]; exact ht.1, by rw [dCpy_k (by omega), dSet_k (by omega)]; exact ht.2⟩ (by omega) (by omega)
    refine ⟨by omega, ⟨by omega, ⟨by omega, ?_⟩⟩⟩
    refine ⟨fun _ => ⟨by omega, fun _ => ?_, fun _ => ?_, fun _ => ?_, fun _ => ?_⟩, fun _ => ⟨by omega, fun _ => ?_, fun _ => ?_, fun _ => ?_, fun _ => ?_⟩, fun _ => ⟨by omega, fun _ => ?_, fun _ => ?_, fun _ => ?_, fun _ => ?_⟩, fun _ => ⟨by omega, fun _ => ?_, fun _ => ?_, fun _ => ?_, fun _ => ?_⟩⟩
    all_goals exact go _ _ (by decide) (by decide)
theorem m_X4_copy {m : dM} {Q : dM → Prop} (hO : Ok m) (hQ : ∀ m', Ok m' → T2 m m' → Q m') : c_X4_copy_11_29 1 m Q := by
  refine v_X4_copy_11_29 ?_
  have b := hO.w (k := 29) (j := 1) rfl
  refine ⟨by omega, ?_⟩
  refine m_X4_copy_27 (m0 := m) hQ 6 _ _ ?_ ⟨rfl, rfl⟩ (by decide) (by decide)
  have hne : ∀ c : Nat, c ≠ 11 → c ≠ 12 → (dSet (dCpy m 30 (0 : Int).toNat 12 (0 : Int).toNat ((m.1 29 1).toInt).toNat) 11 1 (m.1 29 1)).1 c = m.1 c := fun c h1 h2 => by rw [dSet_k h1, dCpy_k h2]
  refine Ok.mk (OkB.set (OkB.cpy hO.b (fun j lo hi h => ?_)) (fun lo hi h => ?_)) ?_
  · rcases h with h | h <;> cases h
  · rcases h with h | h
    · cases h
    · cases h; exact b
  · refine Gx_congr ?_ ?_ (hne 7 (by omega) (by omega)) (fun c h1 h2 => hne c (by omega) (by omega)) hO.1.2
    · rw [hne 2 (by omega) (by omega)]
    · rw [hne 70 (by omega) (by omega)]
theorem m_X3_copy {m : dM} {Q : dM → Prop} (hO : Ok m) (hH : Hm m) (hQ : ∀ m', Ok m' → T2 m m' → Q m') : c_X3_copy_2_20 2 m Q := by
  refine v_X3_copy_2_20 ?_
  have bnd : ∀ {k j : Nat} {v : Int32} {lo hi : Int}, wT k j = none → sT k j = some (lo, hi) → lo ≤ v.toInt ∧ v.toInt ≤ hi → ∀ lo' hi', wT k j = some (lo', hi') ∨ sT k j = some (lo', hi') → lo' ≤ v.toInt ∧ v.toInt ≤ hi' := fun h1 h2 h3 lo' hi' h => by
    rcases h with h | h
    · rw [h1] at h; cases h
    · rw [h2] at h; cases h; exact h3
  have nob : ∀ {k j : Nat} {v : Int32}, wT k j = none → sT k j = none → ∀ lo' hi', wT k j = some (lo', hi') ∨ sT k j = some (lo', hi') → lo' ≤ v.toInt ∧ v.toInt ≤ hi' := fun h1 h2 lo' hi' h => by
    rcases h with h | h
    · rw [h1] at h; cases h
    · rw [h2] at h; cases h
  have B1 : OkB (dSet (dSet (dSet (dSet (dSet (dSet (dSet m 2 0 (m.1 20 0)) 2 1 (m.1 20 1)) 2 2 (m.1 20 2)) 2 3 (m.1 20 3)) 2 4 (m.1 20 4)) 2 5 (m.1 20 5)) 2 6 (m.1 20 6)) :=
    OkB.set (OkB.set (OkB.set (OkB.set (OkB.set (OkB.set (OkB.set hO.b (bnd rfl rfl (hO.s (k := 20) (j := 0) rfl))) (bnd rfl rfl (hO.s (k := 20) (j := 1) rfl))) (bnd rfl rfl (hO.s (k := 20) (j := 2) rfl))) (nob rfl rfl)) (nob rfl rfl)) (nob rfl rfl)) (nob rfl rfl)
  generalize hM : (dSet (dSet (dSet (dSet (dSet (dSet (dSet m 2 0 (m.1 20 0)) 2 1 (m.1 20 1)) 2 2 (m.1 20 2)) 2 3 (m.1 20 3)) 2 4 (m.1 20 4)) 2 5 (m.1 20 5)) 2 6 (m.1 20 6)) = M at B1 ⊢
  have hMk : ∀ c : Nat, c ≠ 2 → M.1 c = m.1 c := fun c hc => by rw [← hM]; simp only [dSet_k hc]
  have hM22 : M.1 2 2 = m.1 20 2 := by rw [← hM]; rfl
  have O2 : Ok (dCpy (dCpy (dCpy (dCpy (dCpy (dCpy (dCpy (dCpy M 21 (0 : Int).toNat 3 (0 : Int).toNat (7 : Int).toNat) 22 (0 : Int).toNat 4 (0 : Int).toNat (10 : Int).toNat) 23 (0 : Int).toNat 5 (0 : Int).toNat (10 : Int).toNat) 24 (0 : Int).toNat 6 (0 : Int).toNat (10 : Int).toNat) 25 (0 : Int).toNat 7 (0 : Int).toNat (8 : Int).toNat) 26 (0 : Int).toNat 8 (0 : Int).toNat (8 : Int).toNat) 27 (0 : Int).toNat 9 (0 : Int).toNat (8 : Int).toNat) 28 (0 : Int).toNat 10 (0 : Int).toNat (8 : Int).toNat) := by
    refine Ok.mk ?_ (Gx_model ?_ (fun c h1 h2 => ?_) hO.1.2 (fun u hu => ?_))
    · refine OkB.cpy (OkB.cpy (OkB.cpy (OkB.cpy (OkB.cpy (OkB.cpy (OkB.cpy (OkB.cpy B1 (fun j => nob rfl rfl)) (fun j => bnd rfl rfl ?_)) (fun j => bnd rfl rfl ?_)) (fun j => nob rfl rfl)) (fun j => nob rfl rfl)) (fun j => nob rfl rfl)) (fun j => nob rfl rfl)) (fun j => nob rfl rfl)
      · rw [dCpy_k (by omega), hMk 22 (by omega)]
        exact hO.w (k := 22) rfl
      · rw [dCpy_k (by omega), dCpy_k (by omega), hMk 23 (by omega)]
        exact hO.w (k := 23) rfl
    · rw [dCpy_k (by omega), dCpy_k (by omega), dCpy_k (by omega), dCpy_k (by omega), dCpy_k (by omega), dCpy_k (by omega), dCpy_k (by omega), dCpy_k (by omega), hMk 70 (by omega)]
    · rw [dCpy_k (by omega), dCpy_k (by omega), dCpy_k (by omega), dCpy_k (by omega), dCpy_k (by omega), dCpy_k (by omega), dCpy_k (by omega), dCpy_k (by omega), hMk c (by omega)]
    · rw [dCpy_k (by omega), dCpy_k (by omega), dCpy_k (by omega), dCpy_k (by omega), dCpy_k (by omega), dCpy_k (by omega), dCpy_k (by omega), dCpy_k (by omega), hM22] at hu
      have b2 := hO.s (k := 20) (j := 2) rfl
      rw [dCpy_k (by omega), dCpy_k (by omega), dCpy_k (by omega), dCpy_e, if_pos ⟨rfl, by show 0 ≤ u; omega, by show u < 0 + 8; omega⟩, dCpy_k (by omega), dCpy_k (by omega), dCpy_k (by omega), dCpy_k (by omega), hMk 25 (by omega)]
      have e : (0 : Int).toNat + (u - (0 : Int).toNat) = u := by show 0 + (u - 0) = u; omega
      rw [e]
      exact hH u hu
  refine Wp.deep (m_X4_copy O2 (fun m' O' t' => ?_)) (Nat.le_of_ble_eq_true rfl)
  refine hQ _ O' ⟨t'.1.trans ?_, t'.2.trans ?_⟩
  · rw [dCpy_k (by omega), dCpy_k (by omega), dCpy_k (by omega), dCpy_k (by omega), dCpy_k (by omega), dCpy_k (by omega), dCpy_k (by omega), dCpy_k (by omega), hMk 0 (by omega)]
  · rw [dCpy_k (by omega), dCpy_k (by omega), dCpy_k (by omega), dCpy_k (by omega), dCpy_k (by omega), dCpy_k (by omega), dCpy_k (by omega), dCpy_k (by omega), hMk 70 (by omega)]
end
section
/-! a store that Gx does not read; what most calls leave as it is -/
theorem Ok.gen {m : dM} {k j : Nat} {v : Int32} (hO : Ok m) (hk : (k ≠ 2 ∧ k ≠ 7 ∧ k ≠ 70) ∧ (k < 82 ∨ 103 < k)) (hb : ∀ lo hi, wT k j = some (lo, hi) ∨ sT k j = some (lo, hi) → lo ≤ v.toInt ∧ v.toInt ≤ hi) : Ok (dSet m k j v) := by
  have hne : ∀ c : Nat, c ≠ k → (dSet m k j v).1 c = m.1 c := fun c h => dSet_k h
  refine Ok.mk (OkB.set hO.b hb) (Gx_congr ?_ ?_ (hne 7 (by omega)) (fun c h1 h2 => hne c (by omega)) hO.1.2)
  · rw [hne 2 (by omega)]
  · rw [hne 70 (by omega)]
theorem Ok.gen0 {m : dM} {k j : Nat} {v : Int32} (hO : Ok m) (hk : (k ≠ 2 ∧ k ≠ 7 ∧ k ≠ 70) ∧ (k < 82 ∨ 103 < k)) (hw : wT k j = none) (hs : sT k j = none) : Ok (dSet m k j v) := hO.gen hk (fun lo hi h => by
  rcases h with h | h
  · rw [hw] at h; cases h
  · rw [hs] at h; cases h)
def kp (k j : Nat) : Bool := match k with
  | 0 => Nat.beq j 1 || Nat.beq j 2
  | 1 => true
  | 2 => Nat.beq j 0
  | 51 => Nat.beq j 4
  | 67 => Nat.beq j 3
  | 70 => Nat.beq j 2 || (Nat.beq j 17 || (Nat.beq j 18 || Nat.beq j 63))
  | 71 => true
  | 80 => true
  | 115 => true
  | _ => false
theorem kp_w {k j : Nat} (h : kp k j = true) : wT k j = none := by
  unfold kp at h
  split at h
  · rw [Bool.or_eq_true] at h
    rcases h with h | h <;> (have e := Nat.eq_of_beq_eq_true h; subst e; rfl)
  · rfl
  · have e := Nat.eq_of_beq_eq_true h; subst e; rfl
  · have e := Nat.eq_of_beq_eq_true h; subst e; rfl
  · have e := Nat.eq_of_beq_eq_true h; subst e; rfl
  · simp only [Bool.or_eq_true] at h
    rcases h with h | h | h | h <;> (have e := Nat.eq_of_beq_eq_true h; subst e; rfl)
  · rfl
  · rfl
  · rfl
  · cases h
/-- tape, place, told, slots, flats are as they were -/
def Kp (m m' : dM) : Prop := ∀ k j : Nat, kp k j = true → m'.1 k j = m.1 k j
theorem Kp.of {m m' : dM} (h : Inv m.1 m') : Kp m m' := fun k j q => h.2 k j (kp_w q)
theorem Kp.rf (m : dM) : Kp m m := fun _ _ _ => rfl
theorem Kp.tr {a b c : dM} (h : Kp a b) (h' : Kp b c) : Kp a c := fun k j q => (h' k j q).trans (h k j q)
end
section
/-! THE CLASS, 3: read, feed, back; the reference's feed, back -/
theorem m_X8_placeAt {x1 : Int32} {m : dM} {Q : Int32 → dM → Prop} (hQ : ∀ r, Q r m) : c_X8_placeAt_38 1 x1 m Q := by
  refine v_X8_placeAt_38 ?_
  refine ⟨fun _ => v_X8_placeAt_38_20 (hQ _), fun h1 => ⟨fun _ => v_X8_placeAt_38_20 (hQ _), fun h2 => ⟨by omega, hQ _⟩⟩⟩
theorem m_X2_faultAt {m : dM} {Q : Int32 → dM → Prop} (hQ : ∀ r, Q r m) : c_X2_faultAt_43 2 m Q := by
  refine v_X2_faultAt_43 ?_
  exact ⟨fun _ => Wp.deep (m_X8_placeAt hQ) (Nat.le_of_ble_eq_true rfl), fun _ => hQ _⟩
theorem m_X5_faultAt {m : dM} {Q : Int32 → dM → Prop} (hQ : ∀ r, Q r m) : c_X5_faultAt_44 2 m Q := by
  refine v_X5_faultAt_44 ?_
  exact ⟨fun _ => Wp.deep (m_X8_placeAt hQ) (Nat.le_of_ble_eq_true rfl), fun _ => hQ _⟩
theorem m_X11_read {m : dM} {Q : Int32 → dM → Prop} (hO : Ok m) (hQ : ∀ (r : Int32) (m' : dM), Ok m' → (m'.1 0 1).toInt = 0 → m'.1 70 2 = m.1 70 2 → Q r m') : c_X11_read_0 70 m Q := by
  have fin : ∀ (x1 : Int32) (m' : dM), Ok m' → (m'.1 0 1).toInt = 0 → m'.1 70 2 = m.1 70 2 → j_X11_read_0_123 70 x1 m' Q := fun x1 m' a b c => v_X11_read_0_123 (hQ _ _ a b c)
  have mid : ∀ (x1 : Int32) (m' : dM), Ok m' → (x1.toInt = 0 → Hm m') → (m'.1 0 1).toInt = 0 → m'.1 70 2 = m.1 70 2 → j_X11_read_0_69 70 x1 m' Q := fun x1 m' O hH b c => by
    refine v_X11_read_0_69 ?_
    refine ⟨fun _ => fin _ _ O b c, fun hc => ?_⟩
    refine Wp.deep (m_X3_copy O (hH hc) (fun m1 O1 t1 => ?_)) (Nat.le_of_ble_eq_true rfl)
    refine Wp.deep (s_X0_houseIsNew_54 O1.1 O1.2 (fun m2 I2 => ?_)) (Nat.le_of_ble_eq_true rfl)
    refine Wp.deep (s_X7_begin_47_2 O1.1 I2 (fun m3 I3 => ?_)) (Nat.le_of_ble_eq_true rfl)
    refine Wp.deep (s_X6_clear_51 O1.1 I3 (fun m4 I4 => ?_)) (Nat.le_of_ble_eq_true rfl)
    refine v_X6_clearSlots_51 (v_X9_clear_67 ?_)
    have t6 := t1.tr (T2.of I4)
    have O6 : Ok (dSet (dSet m4 51 4 (0 : Int32)) 67 3 (0 : Int32)) := Ok.gen (Ok.gen0 (Ok.of O1.1 I4) (by decide) rfl rfl) (by decide) (fun lo hi h => by
      rcases h with h | h
      · cases h
      · cases h; decide)
    refine fin _ _ O6 ?_ ?_
    · show (m4.1 0 1).toInt = 0
      rw [t6.1]; exact b
    · show m4.1 70 2 = m.1 70 2
      exact t6.2.trans c
  refine v_X11_read_0 ?_
  have b := hO.s (k := 0) (j := 1) rfl
  refine Wp.deep (s_X8_scan_38_1 hO.1 hO.2 b (fun m1 I1 => ?_)) (Nat.le_of_ble_eq_true rfl)
  have O1 : Ok (dSet m1 0 1 (0 : Int32)) := Ok.set1 (lo := 0) (hi := 2000) (Ok.of hO.1 I1) (Or.inl rfl) rfl rfl (by decide) (by decide)
  refine Wp.deep (m_X3_clear_20 O1 (fun m2 O2 t2 hu => ?_)) (Nat.le_of_ble_eq_true rfl)
  have a2 : (m2.1 0 1).toInt = 0 := by rw [t2.1]; rfl
  have c2 : m2.1 70 2 = m.1 70 2 := t2.2.trans (I1.2 70 2 rfl)
  have hH2 : Hm m2 := fun u h => by exfalso; omega
  refine Wp.deep (s_X2_check_43 O2.1 O2.2 (fun r3 m3 I3 => ?_)) (Nat.le_of_ble_eq_true rfl)
  refine Wp.deep (m_X2_faultAt (fun r4 => ?_)) (Nat.le_of_ble_eq_true rfl)
  have O4 : Ok (dSet m3 0 2 r4) := Ok.gen0 (Ok.of O2.1 I3) (by decide) rfl rfl
  have hH4 : Hm (dSet m3 0 2 r4) := show Hm m3 from Hm.of I3 hH2
  have a4 : ((dSet m3 0 2 r4).1 0 1).toInt = 0 := by show (m3.1 0 1).toInt = 0; rw [I3.2 0 1 rfl]; exact a2
  have c4 : (dSet m3 0 2 r4).1 70 2 = m.1 70 2 := by show m3.1 70 2 = _; rw [I3.2 70 2 rfl]; exact c2
  refine ⟨fun hc => mid _ _ O4 (fun h => absurd h hc) a4 c4, fun hc => ?_⟩
  refine Wp.deep (m_X5_check O4 hH4 (fun r5 m5 O5 t5 hH5 => ?_)) (Nat.le_of_ble_eq_true rfl)
  refine Wp.deep (m_X5_faultAt (fun r6 => ?_)) (Nat.le_of_ble_eq_true rfl)
  refine mid _ _ (Ok.gen0 O5 (by decide) rfl rfl) (fun h => show Hm m5 from hH5 h) ?_ ?_
  · show (m5.1 0 1).toInt = 0; rw [t5.1]; exact a4
  · exact t5.2.trans c4
theorem m_X11_putBytes_3 {x1 : Int32} {Q : dM → Prop} : ∀ (n : Nat) (x2 : Int32) (m : dM), x2.toInt = 8 * n - 8 → n ≤ 4 → (m.1 0 1).toInt + n ≤ 2000 → Ok m → (∀ m', Ok m' → m'.1 70 2 = m.1 70 2 → (m'.1 0 1).toInt = (m.1 0 1).toInt + n → Q m') → j_X11_putBytes_0_3 1 x1 x2 m Q := by
  intro n
  induction n with
  | zero =>
    intro x2 m hx hn ht hO hQ
    refine v_X11_putBytes_0_3 ?_
    exact ⟨fun _ => v_X11_putBytes_0_46 (hQ _ hO rfl (by omega)), fun h => by exfalso; omega⟩
  | succ n ih =>
    intro x2 m hx hn ht hO hQ
    have b := hO.s (k := 0) (j := 1) rfl
    refine v_X11_putBytes_0_3 ?_
    refine ⟨fun _ => by exfalso; omega, fun h => ⟨fun _ => by exfalso; omega, fun h2 => ⟨by omega, ?_⟩⟩⟩
    have f := dAddE (X := x2.toInt) (Y := -8) (x := x2) (y := (-8 : Int32)) rfl (by decide) (by omega) (by omega)
    have f2 := dAddE (X := (m.1 0 1).toInt) (Y := 1) (x := m.1 0 1) (y := (1 : Int32)) rfl (by decide) (by omega) (by omega)
    have e : ((dSet (dSet m 1 (m.1 0 1).toNatClampNeg (x1.toUInt32 >>> (x2.toUInt32 &&& Int32.toUInt32 31)).toInt32.toInt8.toInt32.toInt8.toInt32) 0 1 ((m.1 0 1) + (1 : Int32))).1 0 1).toInt = (m.1 0 1).toInt + 1 := f2
    refine ih _ _ (by omega) (by omega) (by omega) (Ok.set1 (lo := 0) (hi := 2000) (Ok.gen0 hO (by decide) rfl rfl) (Or.inl rfl) rfl rfl (by omega) (by omega)) (fun m' a b c => hQ m' a b (by omega))
theorem m_X11_putBytes {x1 : Int32} {m : dM} {Q : dM → Prop} (ht : (m.1 0 1).toInt + 4 ≤ 2000) (hO : Ok m) (hQ : ∀ m', Ok m' → m'.1 70 2 = m.1 70 2 → (m'.1 0 1).toInt = (m.1 0 1).toInt + 4 → Q m') : c_X11_putBytes_0 1 x1 m Q := by
  refine v_X11_putBytes_0 ?_
  exact m_X11_putBytes_3 4 _ _ (by decide) (by omega) ht hO hQ
theorem m_X11_feed {x1 x2 x3 x4 x5 : Int32} {m : dM} {Q : Int32 → dM → Prop} (hO : Ok m) (hQ : ∀ (r : Int32) (m' : dM), Ok m' → m'.1 70 2 = m.1 70 2 → (((m.1 0 1).toInt + 20 ≤ 2000 ∧ r.toInt = (m.1 0 1).toInt + 20 ∧ (m'.1 0 1).toInt = (m.1 0 1).toInt + 20) ∨ (2000 < (m.1 0 1).toInt + 20 ∧ r.toInt = -1 ∧ m'.1 0 1 = m.1 0 1)) → Q r m') : c_X11_feed_0 2 x1 x2 x3 x4 x5 m Q := by
  refine v_X11_feed_0 ?_
  have b := hO.s (k := 0) (j := 1) rfl
  have f := dAddE (X := (m.1 0 1).toInt) (Y := 20) (x := m.1 0 1) (y := (20 : Int32)) rfl (by decide) (by omega) (by omega)
  refine ⟨fun hc => ?_, fun hc => hQ _ _ hO rfl (Or.inr ⟨by omega, by decide, rfl⟩)⟩
  refine Wp.deep (m_X11_putBytes (by omega) hO (fun m1 O1 a1 b1 => ?_)) (Nat.le_of_ble_eq_true rfl)
  refine Wp.deep (m_X11_putBytes (by omega) O1 (fun m2 O2 a2 b2 => ?_)) (Nat.le_of_ble_eq_true rfl)
  refine Wp.deep (m_X11_putBytes (by omega) O2 (fun m3 O3 a3 b3 => ?_)) (Nat.le_of_ble_eq_true rfl)
  refine Wp.deep (m_X11_putBytes (by omega) O3 (fun m4 O4 a4 b4 => ?_)) (Nat.le_of_ble_eq_true rfl)
  refine Wp.deep (m_X11_putBytes (by omega) O4 (fun m5 O5 a5 b5 => ?_)) (Nat.le_of_ble_eq_true rfl)
  exact hQ _ _ O5 (by rw [a5, a4, a3, a2, a1]) (Or.inl ⟨by omega, by omega, by omega⟩)
theorem m_X11_back {x1 : Int32} {m : dM} {Q : Int32 → dM → Prop} (hO : Ok m) (hQ : ∀ (r : Int32) (m' : dM), Ok m' → m'.1 70 2 = m.1 70 2 → (((0 ≤ x1.toInt ∧ x1.toInt ≤ (m.1 0 1).toInt) ∧ r.toInt = (m.1 0 1).toInt - x1.toInt ∧ (m'.1 0 1).toInt = (m.1 0 1).toInt - x1.toInt) ∨ (¬ (0 ≤ x1.toInt ∧ x1.toInt ≤ (m.1 0 1).toInt) ∧ r.toInt = -1 ∧ m'.1 0 1 = m.1 0 1)) → Q r m') : c_X11_back_0 1 x1 m Q := by
  refine v_X11_back_0 ?_
  have b := hO.s (k := 0) (j := 1) rfl
  refine ⟨fun hc => v_X11_back_0_12 (hQ _ _ hO rfl (Or.inr ⟨by omega, by decide, rfl⟩)), fun hc => ⟨fun hc1 => ?_, fun hc1 => v_X11_back_0_12 (hQ _ _ hO rfl (Or.inr ⟨by omega, by decide, rfl⟩))⟩⟩
  have f := dSubE (X := (m.1 0 1).toInt) (Y := x1.toInt) (x := m.1 0 1) (y := x1) rfl rfl (by omega) (by omega)
  exact hQ _ _ (Ok.set1 (lo := 0) (hi := 2000) hO (Or.inl rfl) rfl rfl (by omega) (by omega)) rfl (Or.inl ⟨⟨hc, hc1⟩, by omega, f⟩)
/-- a store at a field of the reference that stays, not the live side -/
theorem Ok.set70 {m : dM} {j : Nat} {v : Int32} (hO : Ok m) (hj : j ≠ 18) (hb : ∀ lo hi, wT 70 j = some (lo, hi) ∨ sT 70 j = some (lo, hi) → lo ≤ v.toInt ∧ v.toInt ≤ hi) : Ok (dSet m 70 j v) := by
  refine Ok.mk (OkB.set hO.b hb) ?_
  have hne : ∀ c : Nat, c ≠ 70 → (dSet m 70 j v).1 c = m.1 c := fun c h => dSet_k h
  refine Gx_congr ?_ (dSet_j (fun h => hj h.symm)) (hne 7 (by omega)) (fun c h1 h2 => hne c (by omega)) hO.1.2
  rw [hne 2 (by omega)]
theorem m_X12_put_3 {x1 : Int32} {Q : dM → Prop} : ∀ (n : Nat) (x2 : Int32) (m : dM), x2.toInt = 8 * n - 8 → n ≤ 4 → (m.1 70 2).toInt + n ≤ 2000 → Ok m → (∀ m', Ok m' → m'.1 0 1 = m.1 0 1 → (m'.1 70 2).toInt = (m.1 70 2).toInt + n → Q m') → j_X12_put_70_3 1 x1 x2 m Q := by
  intro n
  induction n with
  | zero =>
    intro x2 m hx hn ht hO hQ
    refine v_X12_put_70_3 ?_
    exact ⟨fun _ => hQ _ hO rfl (by omega), fun h => by exfalso; omega⟩
  | succ n ih =>
    intro x2 m hx hn ht hO hQ
    have b := hO.s (k := 70) (j := 2) rfl
    refine v_X12_put_70_3 ?_
    refine ⟨fun _ => by exfalso; omega, fun h => ⟨by omega, ?_⟩⟩
    have f := dAddE (X := x2.toInt) (Y := -8) (x := x2) (y := (-8 : Int32)) rfl (by decide) (by omega) (by omega)
    have f2 := dAddE (X := (m.1 70 2).toInt) (Y := 1) (x := m.1 70 2) (y := (1 : Int32)) rfl (by decide) (by omega) (by omega)
    have e : ((dSet (dSet m 71 (m.1 70 2).toNatClampNeg (x1 >>> (x2 &&& 31)).toInt8.toInt32.toInt8.toInt32) 70 2 ((m.1 70 2) + (1 : Int32))).1 70 2).toInt = (m.1 70 2).toInt + 1 := f2
    refine ih _ _ (by omega) (by omega) (by omega) (Ok.set70 (Ok.gen0 hO (by decide) rfl rfl) (by decide) (fun lo hi h => ?_)) (fun m' a b c => hQ m' a b (by omega))
    rcases h with h | h
    · cases h
    · cases h; omega
theorem m_X12_put {x1 : Int32} {m : dM} {Q : dM → Prop} (ht : (m.1 70 2).toInt + 4 ≤ 2000) (hO : Ok m) (hQ : ∀ m', Ok m' → m'.1 0 1 = m.1 0 1 → (m'.1 70 2).toInt = (m.1 70 2).toInt + 4 → Q m') : c_X12_put_70 1 x1 m Q := by
  refine v_X12_put_70 ?_
  exact m_X12_put_3 4 _ _ (by decide) (by omega) ht hO hQ
theorem m_X12_feed {x1 x2 x3 x4 x5 : Int32} {m : dM} {Q : Int32 → dM → Prop} (hO : Ok m) (hQ : ∀ (r : Int32) (m' : dM), Ok m' → m'.1 0 1 = m.1 0 1 → (((m.1 70 2).toInt + 20 ≤ 2000 ∧ r.toInt = (m.1 70 2).toInt + 20 ∧ (m'.1 70 2).toInt = (m.1 70 2).toInt + 20) ∨ (2000 < (m.1 70 2).toInt + 20 ∧ r.toInt = -1 ∧ m'.1 70 2 = m.1 70 2)) → Q r m') : c_X12_feed_70 2 x1 x2 x3 x4 x5 m Q := by
  refine v_X12_feed_70 ?_
  have b := hO.s (k := 70) (j := 2) rfl
  have f := dAddE (X := (m.1 70 2).toInt) (Y := 20) (x := m.1 70 2) (y := (20 : Int32)) rfl (by decide) (by omega) (by omega)
  refine ⟨fun hc => ?_, fun hc => hQ _ _ hO rfl (Or.inr ⟨by omega, by decide, rfl⟩)⟩
  refine Wp.deep (m_X12_put (by omega) hO (fun m1 O1 a1 b1 => ?_)) (Nat.le_of_ble_eq_true rfl)
  refine Wp.deep (m_X12_put (by omega) O1 (fun m2 O2 a2 b2 => ?_)) (Nat.le_of_ble_eq_true rfl)
  refine Wp.deep (m_X12_put (by omega) O2 (fun m3 O3 a3 b3 => ?_)) (Nat.le_of_ble_eq_true rfl)
  refine Wp.deep (m_X12_put (by omega) O3 (fun m4 O4 a4 b4 => ?_)) (Nat.le_of_ble_eq_true rfl)
  refine Wp.deep (m_X12_put (by omega) O4 (fun m5 O5 a5 b5 => ?_)) (Nat.le_of_ble_eq_true rfl)
  exact hQ _ _ O5 (by rw [a5, a4, a3, a2, a1]) (Or.inl ⟨by omega, by omega, by omega⟩)
theorem m_X12_back {x1 : Int32} {m : dM} {Q : Int32 → dM → Prop} (hO : Ok m) (hQ : ∀ (r : Int32) (m' : dM), Ok m' → m'.1 0 1 = m.1 0 1 → (((0 ≤ x1.toInt ∧ x1.toInt ≤ (m.1 70 2).toInt) ∧ r.toInt = (m.1 70 2).toInt - x1.toInt ∧ (m'.1 70 2).toInt = (m.1 70 2).toInt - x1.toInt) ∨ (¬ (0 ≤ x1.toInt ∧ x1.toInt ≤ (m.1 70 2).toInt) ∧ r.toInt = -1 ∧ m'.1 70 2 = m.1 70 2)) → Q r m') : c_X12_back_70 1 x1 m Q := by
  refine v_X12_back_70 ?_
  have b := hO.s (k := 70) (j := 2) rfl
  refine ⟨fun hc => v_X12_back_70_12 (hQ _ _ hO rfl (Or.inr ⟨by omega, by decide, rfl⟩)), fun hc => ⟨fun hc1 => ?_, fun hc1 => v_X12_back_70_12 (hQ _ _ hO rfl (Or.inr ⟨by omega, by decide, rfl⟩))⟩⟩
  have f := dSubE (X := (m.1 70 2).toInt) (Y := x1.toInt) (x := m.1 70 2) (y := x1) rfl rfl (by omega) (by omega)
  refine hQ _ _ (Ok.set70 hO (by decide) (fun lo hi h => ?_)) rfl (Or.inl ⟨⟨hc, hc1⟩, by omega, f⟩)
  rcases h with h | h
  · cases h
  · cases h; omega
end
section
/-! THE REFERENCE's read, 1: going on, failing (by hand) -/
def flt (m : dM) : Int := (m.1 70 13).toInt
def tt (m : dM) : Int := (m.1 70 11).toInt
def wst (m : dM) : Int := (m.1 70 15).toInt
def cds (m : dM) : Int := (m.1 70 46).toInt
def brs (m : dM) : Int := (m.1 70 40).toInt
def nms (m : dM) : Int := (m.1 70 20).toInt
def opn (m : dM) : Int := (m.1 70 12).toInt
def wtg (m : dM) : Int := (m.1 70 50).toInt
def Wz (m m' : dM) : Prop := (wst m' = 0 → wst m = 0) ∧ (0 ≤ wst m → 0 ≤ wst m')
theorem Wz.tr {m m' m'' : dM} (h : Wz m m') (h' : Wz m' m'') : Wz m m'' := ⟨fun q => h.1 (h'.1 q), fun q => h'.2 (h.2 q)⟩
theorem Wz.eq {m m' : dM} (h : wst m' = wst m) : Wz m m' := by unfold Wz; rw [h]; exact ⟨fun q => q, fun q => q⟩
/-- only where it stands, and faults, have changed; n more gone by, or a fault -/
def Mv (n : Int) (m m' : dM) : Prop := (∀ k : Nat, k ≠ 70 → m'.1 k = m.1 k) ∧ (∀ j : Nat, j ≠ 11 → j ≠ 13 → j ≠ 14 → j ≠ 15 → j ≠ 16 → m'.1 70 j = m.1 70 j) ∧ (0 ≤ tt m' ∧ tt m' ≤ 400) ∧ ((flt m = 0 ∧ flt m' = 0 ∧ tt m' = tt m + n) ∨ (0 < flt m' ∧ tt m ≤ tt m' ∧ tt m' ≤ tt m + n)) ∧ Wz m m'
theorem Mv.tr {a b : Int} {m m' m'' : dM} (h : Mv a m m') (h' : Mv b m' m'') (ha : 0 ≤ a) (hb : 0 ≤ b) : Mv (a + b) m m'' := by
  obtain ⟨h1, h2, h3, h4, h5⟩ := h
  obtain ⟨k1, k2, k3, k4, k5⟩ := h'
  refine ⟨fun k hk => (k1 k hk).trans (h1 k hk), fun j a1 a2 a3 a4 a5 => (k2 j a1 a2 a3 a4 a5).trans (h2 j a1 a2 a3 a4 a5), k3, ?_, h5.tr k5⟩
  rcases h4 with h4 | h4
  · rcases k4 with k4 | k4
    · left; omega
    · right; omega
  · rcases k4 with k4 | k4
    · exfalso; omega
    · right; omega
theorem Mv.rf {m : dM} (h : 0 ≤ tt m ∧ tt m ≤ 400) (hf : 0 ≤ flt m) : Mv 0 m m := by
  refine ⟨fun _ _ => rfl, fun _ _ _ _ _ _ => rfl, h, ?_, Wz.eq rfl⟩
  by_cases h0 : flt m = 0
  · left; omega
  · right; omega
theorem Mv.fl {n : Int} {m m' : dM} (h : Mv n m m') : 0 ≤ flt m' := by
  rcases h.2.2.2.1 with q | q <;> omega
theorem p_fail {x1 : Int32} {m : dM} {Q : dM → Prop} (ht : 0 ≤ tt m ∧ tt m ≤ 400) (hx : 1 ≤ x1.toInt) (hQ : ∀ m', Mv 0 m m' → 0 < flt m' → Q m') : c_X12_fail_70 1 x1 m Q := by
  refine v_X12_fail_70 ⟨fun hc => ⟨⟨ht.1, by have := ht.2; unfold tt at this; omega⟩, ?_⟩, fun hc => ?_⟩
  · have e : flt (dSet (dSet m 70 13 x1) 70 14 (m.1 74 (m.1 70 11).toNatClampNeg)) = x1.toInt := rfl
    refine hQ _ ⟨fun k hk => by rw [dSet_k hk, dSet_k hk], fun j a1 a2 a3 a4 a5 => by rw [dSet_j a3, dSet_j a2], ht, ?_, Wz.eq rfl⟩ (by omega)
    right
    have e2 : tt (dSet (dSet m 70 13 x1) 70 14 (m.1 74 (m.1 70 11).toNatClampNeg)) = tt m := rfl
    omega
  · exact hQ _ (Mv.rf ht (Int.le_of_lt hc)) hc
theorem p_goesOn {m : dM} {Q : dM → Prop} (ht : 0 ≤ tt m ∧ tt m ≤ 400) (hf : 0 ≤ flt m) (hQ : ∀ m', Mv 1 m m' → Q m') : c_X12_goesOn_70 2 m Q := by
  refine v_X12_goesOn_70 ⟨fun hc => ?_, fun hc => ?_⟩
  · have hc : tt m ≠ 400 := hc
    have et : (m.1 70 11).toInt = tt m := rfl
    have f := dAddE (X := tt m) (Y := 1) (x := m.1 70 11) (y := (1 : Int32)) rfl (by decide) (by omega) (by omega)
    refine v_X12_goesOn_70_28 (hQ _ ?_)
    have e1 : tt (dSet m 70 11 (m.1 70 11 + 1)) = tt m + 1 := f
    have e2 : flt (dSet m 70 11 (m.1 70 11 + 1)) = flt m := rfl
    refine ⟨fun k hk => dSet_k hk, fun j a1 a2 a3 a4 a5 => dSet_j a1, by omega, ?_, Wz.eq rfl⟩
    by_cases h0 : flt m = 0
    · left; omega
    · right; omega
  · refine Wp.deep (p_fail ht (by decide) (fun m' h h' => ?_)) (Nat.le_of_ble_eq_true rfl)
    refine v_X12_goesOn_70_28 (hQ _ ⟨h.1, h.2.1, h.2.2.1, ?_, h.2.2.2.2⟩)
    right
    rcases h.2.2.2.1 with q | q <;> omega
theorem p_is {x1 : Int32} {m : dM} {Q : Int32 → dM → Prop} (ht : 0 ≤ tt m ∧ tt m ≤ 400) (h1 : flt m = 0 → (m.1 73 (m.1 70 11).toNatClampNeg).toInt = x1.toInt → Q 1 m) (h0 : ¬ (flt m = 0 ∧ (m.1 73 (m.1 70 11).toNatClampNeg).toInt = x1.toInt) → Q 0 m) : c_X12_is_70 1 x1 m Q := by
  refine v_X12_is_70 ⟨fun hc => v_X12_is_70_24 (h0 (fun q => hc q.1)), fun hc => ⟨⟨ht.1, by have := ht.2; unfold tt at this; omega⟩, fun hk => v_X12_is_70_24 (h0 (fun q => hk q.2)), fun hk => h1 hc hk⟩⟩
theorem p_must {x1 : Int32} {m : dM} {Q : dM → Prop} (ht : 0 ≤ tt m ∧ tt m ≤ 400) (hf : 0 ≤ flt m) (hQ : ∀ m', Mv 1 m m' → Q m') : c_X12_must_70 3 x1 m Q := by
  refine v_X12_must_70 ?_
  refine Wp.deep (p_is ht (fun h1 h2 => ⟨fun h => absurd h (by decide), fun _ => ?_⟩) (fun h1 => ⟨fun _ => ?_, fun h => absurd rfl h⟩)) (Nat.le_of_ble_eq_true rfl)
  · exact Wp.deep (p_goesOn ht hf (fun m' h => v_X12_must_70_20 (hQ _ h))) (Nat.le_of_ble_eq_true rfl)
  · refine Wp.deep (p_fail ht (by decide) (fun m' h h' => v_X12_must_70_20 (hQ _ ⟨h.1, h.2.1, h.2.2.1, ?_, h.2.2.2.2⟩))) (Nat.le_of_ble_eq_true rfl)
    right
    rcases h.2.2.2.1 with q | q <;> omega
theorem p_wrong {x1 x2 : Int32} {m : dM} {Q : dM → Prop} (ht : 0 ≤ tt m ∧ tt m ≤ 400) (hf : 0 ≤ flt m) (hx : 1 ≤ x1.toInt) (h2 : 0 ≤ x2.toInt ∧ x2.toInt ≤ 400) (hQ : ∀ m', Mv 0 m m' → (flt m' = 0 → wst m' ≠ 0) → Q m') : c_X12_wrong_70 1 x1 x2 m Q := by
  have rf := Mv.rf ht hf
  have st : flt m = 0 → j_X12_wrong_70_46 1 x1 (m.1 74 x2.toNatClampNeg) m Q := fun h0 => by
    refine v_X12_wrong_70_46 (hQ _ ⟨fun k hk => by rw [dSet_k hk, dSet_k hk], fun j a1 a2 a3 a4 a5 => by rw [dSet_j a5, dSet_j a4], ht, Or.inl ⟨h0, h0, by show tt m = tt m + 0; omega⟩, ⟨fun h => ?_, fun _ => ?_⟩⟩ (fun _ h => ?_))
    · have h : x1.toInt = 0 := h
      exfalso; omega
    · show 0 ≤ x1.toInt
      omega
    · have h : x1.toInt = 0 := h
      omega
  have hfl : ¬ 0 < flt m → flt m = 0 := fun h => by omega
  refine v_X12_wrong_70 ⟨by omega, fun hc => v_X12_wrong_70_45 (hQ _ rf (fun h => by have hc : 0 < flt m := hc; omega)), fun hc => ⟨fun hw => st (hfl (by show ¬ 0 < flt m; unfold flt; omega)), fun hw => ⟨fun _ => v_X12_wrong_70_45 (hQ _ rf (fun _ => hw)), fun _ => ⟨fun _ => st (hfl (by show ¬ 0 < flt m; unfold flt; omega)), fun _ => ⟨fun _ => st (hfl (by show ¬ 0 < flt m; unfold flt; omega)), fun _ => v_X12_wrong_70_45 (hQ _ rf (fun _ => hw))⟩⟩⟩⟩⟩
/-! names, flats, numbers -/
theorem p_named_12 {x1 : Int32} {mb : dM} {Q : Int32 → dM → Prop} (hx1 : 0 ≤ x1.toInt ∧ x1.toInt ≤ 400) (hQ : ∀ m', Mv 0 mb m' → Q x1 m') : ∀ n : Nat, ∀ (x2 : Int32) (m : dM), Mv 0 mb m → nms m ≤ 15 → 0 ≤ x2.toInt ∧ x2.toInt ≤ 15 → 15 - x2.toInt < (n : Int) → j_X12_named_70_12 4 x1 x2 m Q := by
  intro n
  induction n with
  | zero => intro x2 m hm hn h2 hμ; exfalso; omega
  | succ n ih =>
    intro x2 m hm hn h2 hμ
    have fin : j_X12_named_70_55 4 x1 m Q := v_X12_named_70_55 (hQ _ hm)
    refine v_X12_named_70_12 ⟨fun _ => fin, fun hc => ⟨fun _ => fin, fun h0 => ?_⟩⟩
    have hc : x2.toInt < nms m := hc
    have f := dAddE (X := x2.toInt) (Y := 1) (x := x2) (y := (1 : Int32)) rfl (by decide) (by omega) (by omega)
    have nx : ∀ m', Mv 0 m m' → j_X12_named_70_49 4 x1 x2 m' Q := fun m' h => by
      refine v_X12_named_70_49 (ih _ _ (hm.tr h (by decide) (by decide)) ?_ (by omega) (by omega))
      have e : nms m' = nms m := by unfold nms; rw [h.2.1 20 (by decide) (by decide) (by decide) (by decide) (by decide)]
      omega
    refine ⟨by omega, ⟨by omega, fun _ => nx m (Mv.rf hm.2.2.1 hm.fl), fun _ => ?_⟩⟩
    exact Wp.deep (p_wrong hm.2.2.1 hm.fl (by decide) hx1 (fun m' h _ => nx m' h)) (Nat.le_of_ble_eq_true rfl)
theorem p_named {m : dM} {Q : Int32 → dM → Prop} (ht : 0 ≤ tt m ∧ tt m ≤ 400) (hf : 0 ≤ flt m) (hn : nms m ≤ 15) (hQ : ∀ (r : Int32) (m' : dM), Mv 1 m m' → 0 ≤ r.toInt ∧ r.toInt ≤ 400 → Q r m') : c_X12_named_70 4 m Q := by
  refine v_X12_named_70 ?_
  refine p_must ht hf (fun m1 h1 => ?_)
  have e : nms m1 = nms m := by unfold nms; rw [h1.2.1 20 (by decide) (by decide) (by decide) (by decide) (by decide)]
  exact p_named_12 (mb := m1) ht (fun m' h => hQ _ _ (by have := h1.tr h (by decide) (by decide); exact this) ht) 17 _ _ (Mv.rf h1.2.2.1 h1.fl) (by omega) (by decide) (by decide)
theorem p_knownFlat_21 {x1 : Int32} {m : dM} {Q : Int32 → dM → Prop} (ht : 0 ≤ tt m ∧ tt m ≤ 400) (hf : 0 ≤ flt m) (hn : nms m ≤ 15) (h79 : ∀ j, -1 ≤ (m.1 79 j).toInt ∧ (m.1 79 j).toInt ≤ 6) (hx1 : 0 ≤ x1.toInt ∧ x1.toInt ≤ 400) (hQ : ∀ (r : Int32) (m' : dM), Mv 0 m m' → -1 ≤ r.toInt ∧ r.toInt ≤ 6 → (flt m' = 0 → wst m' = 0 → 0 ≤ r.toInt) → Q r m') : ∀ n : Nat, ∀ x2 : Int32, 0 ≤ x2.toInt ∧ x2.toInt ≤ 15 → 15 - x2.toInt < (n : Int) → j_X12_knownFlat_70_21 4 x1 x2 m Q := by
  intro n
  induction n with
  | zero => intro x2 h2 hμ; exfalso; omega
  | succ n ih =>
    intro x2 h2 hμ
    refine v_X12_knownFlat_70_21 ⟨fun _ => ?_, fun hc => ?_⟩
    · exact Wp.deep (p_wrong ht hf (by decide) hx1 (fun m' h h' => hQ _ _ h (by decide) (fun a b => absurd b (h' a)))) (Nat.le_of_ble_eq_true rfl)
    · have hc : x2.toInt < nms m := hc
      have f := dAddE (X := x2.toInt) (Y := 1) (x := x2) (y := (1 : Int32)) rfl (by decide) (by omega) (by omega)
      have nx : j_X12_knownFlat_70_61 4 x1 x2 m Q := v_X12_knownFlat_70_61 (ih _ (by omega) (by omega))
      refine ⟨by omega, ⟨by omega, fun _ => nx, fun _ => ⟨by omega, fun _ => nx, fun h0 => ⟨by omega, ?_⟩⟩⟩⟩
      exact hQ _ _ (Mv.rf ht hf) (h79 _) (fun _ _ => h0)
theorem p_knownFlat {m : dM} {Q : Int32 → dM → Prop} (ht : 0 ≤ tt m ∧ tt m ≤ 400) (hf : 0 ≤ flt m) (hn : nms m ≤ 15) (h79 : ∀ j, -1 ≤ (m.1 79 j).toInt ∧ (m.1 79 j).toInt ≤ 6) (hQ : ∀ (r : Int32) (m' : dM), Mv 1 m m' → -1 ≤ r.toInt ∧ r.toInt ≤ 6 → (flt m' = 0 → wst m' = 0 → 0 ≤ r.toInt) → Q r m') : c_X12_knownFlat_70 4 m Q := by
  refine v_X12_knownFlat_70 ?_
  refine p_must ht hf (fun m1 h1 => ⟨fun hc => ?_, fun hc => ?_⟩)
  · have e : nms m1 = nms m := by unfold nms; rw [h1.2.1 20 (by decide) (by decide) (by decide) (by decide) (by decide)]
    exact p_knownFlat_21 h1.2.2.1 h1.fl (by omega) (by rw [h1.1 79 (by decide)]; exact h79) ht (fun r m' h a b => hQ r m' (h1.tr h (by decide) (by decide)) a b) 17 _ (by decide) (by decide)
  · have hc : 0 < flt m1 := hc
    exact hQ _ _ h1 (by decide) (fun a => by exfalso; omega)
theorem p_bounded {x1 x2 : Int32} {m : dM} {Q : Int32 → dM → Prop} (ht : 0 ≤ tt m ∧ tt m ≤ 400) (hf : 0 ≤ flt m) (h75 : ∀ j, 0 ≤ (m.1 75 j).toInt ∧ (m.1 75 j).toInt ≤ 9999) (hx : 0 ≤ x1.toInt ∧ x1.toInt ≤ 9999) (hQ : ∀ (r : Int32) (m' : dM), Mv 1 m m' → 0 ≤ r.toInt ∧ r.toInt ≤ 9999 → Q r m') : c_X12_bounded_70 3 x1 x2 m Q := by
  have bad : j_X12_bounded_70_15 3 x1 m Q := by
    refine v_X12_bounded_70_15 ?_
    refine Wp.deep (p_fail ht (by decide) (fun m' h h' => hQ _ _ ⟨h.1, h.2.1, h.2.2.1, ?_, h.2.2.2.2⟩ hx)) (Nat.le_of_ble_eq_true rfl)
    right
    rcases h.2.2.2.1 with q | q <;> omega
  refine v_X12_bounded_70 ⟨fun _ => bad, fun hc => ?_⟩
  refine Wp.deep (p_is ht (fun h1 h2 => ⟨fun _ => ⟨⟨ht.1, by have := ht.2; unfold tt at this; omega⟩, ?_⟩, fun h => absurd h (by decide)⟩) (fun h1 => ⟨fun h => absurd rfl h, fun _ => bad⟩)) (Nat.le_of_ble_eq_true rfl)
  have on : ∀ m1, Mv 0 m m1 → j_X12_bounded_70_51 3 (m.1 75 (m.1 70 11).toNatClampNeg) m1 Q := fun m1 h => by
    refine v_X12_bounded_70_51 (p_goesOn h.2.2.1 h.fl (fun m' h' => hQ _ _ ?_ (h75 _)))
    exact h.tr h' (by decide) (by decide)
  have wr : j_X12_bounded_70_42 3 (m.1 75 (m.1 70 11).toNatClampNeg) m Q := by
    refine v_X12_bounded_70_42 ?_
    exact Wp.deep (p_wrong ht hf (by decide) ht (fun m' h _ => on m' h)) (Nat.le_of_ble_eq_true rfl)
  exact ⟨fun _ => wr, fun _ => ⟨fun _ => on m (Mv.rf ht hf), fun _ => wr⟩⟩
end
