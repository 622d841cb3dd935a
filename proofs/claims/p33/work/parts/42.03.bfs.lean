/-! THE REFERENCE: the ways of the flats (by hand) -/
def wN (m : dM) : Int := (m.1 82 (m.1 70 18).toNatClampNeg).toInt
def w1 (m : dM) (w : Int32) : Int32 := m.1 83 ((10 : Int32) * m.1 70 18 + w).toNatClampNeg
def w2 (m : dM) (w : Int32) : Int32 := m.1 84 ((10 : Int32) * m.1 70 18 + w).toNatClampNeg
def wO (m : dM) (w f : Int32) : Int32 := if (w1 m w).toInt = f.toInt then w2 m w else if (w2 m w).toInt = f.toInt then w1 m w else -1
def wH (m : dM) (w : Int32) : Prop := (m.1 108 ((10 : Int32) + w).toNatClampNeg).toInt = 0
def wS (m : dM) (f : Int32) : Int := (m.1 109 f.toNatClampNeg).toInt
def wG (m : dM) (f w : Int32) : Prop := wH m w ∧ 0 ≤ (wO m w f).toInt ∧ wS m (wO m w f) = wS m f - 1
def Pr (m : dM) (f : Int32) : Prop := ∃ w : Int32, (0 ≤ w.toInt ∧ w.toInt < wN m) ∧ wG m f w
def Bf (m : dM) : Prop := ∀ f : Int32, 0 ≤ f.toInt → f.toInt ≤ 6 → (wS m f = 99 ∨ wS m f = 0 ∨ (1 ≤ wS m f ∧ wS m f ≤ 6 ∧ Pr m f))
section BFS
variable {g : gM} {m : dM}
theorem b_ctx (hG : Gd g) (hI : Inv g m) : (0 ≤ (m.1 70 18).toInt ∧ (m.1 70 18).toInt ≤ 1) ∧ (0 ≤ wN m ∧ wN m ≤ 10) :=
  ⟨Inv.s hG hI (k := 70) (j := 18) rfl rfl, Inv.s hG hI (k := 82) (j := (m.1 70 18).toNatClampNeg) rfl rfl⟩
theorem b_ends {w : Int32} (hG : Gd g) (hI : Inv g m) (h1 : 0 ≤ w.toInt) (h2 : w.toInt < wN m) : (0 ≤ (w1 m w).toInt ∧ (w1 m w).toInt ≤ 6) ∧ (0 ≤ (w2 m w).toInt ∧ (w2 m w).toInt ≤ 6) :=
  ⟨Inv.one hG hI h1 h2, Inv.two hG hI h1 h2⟩
theorem b_wO6 {w f : Int32} (hG : Gd g) (hI : Inv g m) (h1 : 0 ≤ w.toInt) (h2 : w.toInt < wN m) : (wO m w f).toInt ≤ 6 := by
  have b := b_ends hG hI h1 h2
  unfold wO
  split
  · omega
  · split
    · omega
    · have := ti_m1; omega
theorem b_isWhole {x1 : Int32} {Q : Int32 → dM → Prop} (hG : Gd g) (hI : Inv g m) (h1 : 0 ≤ x1.toInt) (h2 : x1.toInt < wN m) (hq1 : wH m x1 → Q 1 m) (hq0 : ¬ wH m x1 → Q 0 m) : c_X12_isWhole_70 3 x1 m Q := by
  have c := b_ctx hG hI
  have e0 := ti_0
  have e1 := ti_1
  have c2 : (m.1 82 (m.1 70 18).toNatClampNeg).toInt = wN m := rfl
  have f := dSubE (X := wN m) (Y := 1) (x := m.1 82 (m.1 70 18).toNatClampNeg) (y := (1 : Int32)) rfl (by decide) (by omega) (by omega)
  have f2 := dAddE (X := 10) (Y := x1.toInt) (x := (10 : Int32)) (y := x1) (by decide) rfl (by omega) (by omega)
  refine v_X12_isWhole_70 ?_
  refine v_X12_isWire_70 ⟨by omega, ?_⟩
  refine v_X12_in ?_
  refine ⟨fun h => by exfalso; omega, fun _ => ⟨fun h => by exfalso; omega, fun _ => ⟨by decide, fun h => by exfalso; omega, fun _ => ⟨by omega, fun h => ?_, fun h => hq1 h⟩⟩⟩⟩
  exact v_X12_isWhole_70_24 (hq0 h)
theorem b_otherEnd {w f : Int32} {Q : Int32 → dM → Prop} (hG : Gd g) (hI : Inv g m) (h1 : 0 ≤ w.toInt) (h2 : w.toInt < wN m) (hQ : Q (wO m w f) m) : c_X12_otherEnd_70 1 w f m Q := by
  have c := b_ctx hG hI
  have fm := dMulE (X := 10) (Y := (m.1 70 18).toInt) (x := (10 : Int32)) (y := m.1 70 18) (by decide) rfl (by omega) (by omega)
  have fa := dAddE (X := 10 * (m.1 70 18).toInt) (Y := w.toInt) (x := (10 : Int32) * m.1 70 18) (y := w) fm rfl (by omega) (by omega)
  refine v_X12_otherEnd_70 ⟨by omega, fun ha => ⟨by omega, fun hb => ?_, fun hb => ⟨by omega, ?_⟩⟩, fun ha => ⟨by omega, ?_⟩⟩
  · have e : wO m w f = -1 := by
      unfold wO
      rw [if_neg (show ¬ (w1 m w).toInt = f.toInt from ha), if_neg (show ¬ (w2 m w).toInt = f.toInt from hb)]
    rw [e] at hQ
    exact hQ
  · have e : wO m w f = w1 m w := by
      unfold wO
      rw [if_neg (show ¬ (w1 m w).toInt = f.toInt from ha), if_pos (show (w2 m w).toInt = f.toInt from hb)]
    rw [e] at hQ
    exact hQ
  · have e : wO m w f = w2 m w := by
      unfold wO
      rw [if_pos (show (w1 m w).toInt = f.toInt from ha)]
    rw [e] at hQ
    exact hQ
theorem b_wireFrom_2 {f : Int32} {Q : Int32 → dM → Prop} (hG : Gd g) (hI : Inv g m) (hf : 0 ≤ f.toInt ∧ f.toInt ≤ 6) (hs : 0 ≤ wS m f ∧ wS m f ≤ 99) (hQ : ∀ w : Int32, 0 ≤ w.toInt → w.toInt < wN m → wG m f w → Q w m) : ∀ (n : Nat) (x2 : Int32), 0 ≤ x2.toInt → 10 - x2.toInt < n → (∃ w : Int32, (x2.toInt ≤ w.toInt ∧ w.toInt < wN m) ∧ wG m f w) → j_X12_wireFrom_70_2 4 f x2 m Q := by
  have c := b_ctx hG hI
  intro n
  induction n with
  | zero =>
    intro x2 h1 hn hex
    obtain ⟨w, hw, -⟩ := hex
    exfalso; omega
  | succ n ih =>
    intro x2 h1 hn hex
    refine v_X12_wireFrom_70_2 ⟨by omega, fun hc => ?_, fun hc => ?_⟩
    · obtain ⟨w, hw, -⟩ := hex
      have hc : wN m ≤ x2.toInt := hc
      exfalso; omega
    · have hc : x2.toInt < wN m := hc
      have nx : ¬ wG m f x2 → j_X12_wireFrom_70_56 4 f x2 m Q := fun hno => by
        refine v_X12_wireFrom_70_56 ?_
        have fa := dAddE (X := x2.toInt) (Y := 1) (x := x2) (y := (1 : Int32)) rfl (by decide) (by omega) (by omega)
        obtain ⟨w, hw, hg⟩ := hex
        have hne : w.toInt ≠ x2.toInt := fun e => hno (Int32.toInt_inj.mp e ▸ hg)
        exact ih _ (by omega) (by omega) ⟨w, ⟨by omega, hw.2⟩, hg⟩
      refine Wp.deep (b_isWhole hG hI h1 hc (fun hw => ⟨fun _ => ?_, fun h => absurd h (by decide)⟩) (fun hw => ⟨fun h => absurd rfl h, fun _ => nx (fun q => hw q.1)⟩)) (Nat.le_of_ble_eq_true rfl)
      refine Wp.deep (b_otherEnd hG hI h1 hc ?_) (Nat.le_of_ble_eq_true rfl)
      have b6 := b_wO6 (f := f) hG hI h1 hc
      refine ⟨fun h => nx (fun q => by have := q.2.1; omega), fun h => ⟨by omega, ⟨by omega, ?_⟩⟩⟩
      have es : (m.1 109 f.toNatClampNeg).toInt = wS m f := rfl
      have fs := dSubE (X := wS m f) (Y := 1) (x := m.1 109 f.toNatClampNeg) (y := (1 : Int32)) rfl (by decide) (by omega) (by omega)
      refine ⟨fun h3 => nx (fun q => h3 (by rw [fs]; exact q.2.2)), fun h3 => hQ x2 h1 hc ⟨hw, h, by rw [fs] at h3; exact h3⟩⟩
theorem b_wireFrom {f : Int32} {Q : Int32 → dM → Prop} (hG : Gd g) (hI : Inv g m) (hf : 0 ≤ f.toInt ∧ f.toInt ≤ 6) (hs : 0 ≤ wS m f ∧ wS m f ≤ 99) (hP : Pr m f) (hQ : ∀ w : Int32, 0 ≤ w.toInt → w.toInt < wN m → wG m f w → Q w m) : c_X12_wireFrom_70 4 f m Q := by
  refine v_X12_wireFrom_70 ?_
  obtain ⟨w, hw, hg⟩ := hP
  have e0 := ti_0
  exact b_wireFrom_2 hG hI hf hs hQ 11 _ (by decide) (by decide) ⟨w, ⟨by omega, hw.2⟩, hg⟩
theorem Bf.st (hB : Bf m) {f : Int32} (h1 : 0 ≤ f.toInt) (h2 : f.toInt ≤ 6) : 0 ≤ wS m f ∧ wS m f ≤ 99 := by
  rcases hB f h1 h2 with h | h | h <;> omega
/-- phase 3: the ways as bits -/
theorem b_ph3 {Q : dM → Prop} (hG : Gd g) (hQ : ∀ m', Inv g m' → Bf m' → Q m') : ∀ n : Nat,
    (∀ (x1 : Int32) (m : dM), Inv g m → Bf m → 1 ≤ x1.toInt ∧ x1.toInt ≤ 7 → (7 - x1.toInt) * 20 + 19 < (n : Int) → j_X12_fillsWays_70_191 6 x1 m Q) ∧
    (∀ (x1 x2 : Int32) (m : dM), Inv g m → Bf m → 1 ≤ x1.toInt ∧ x1.toInt ≤ 6 → 0 ≤ x2.toInt ∧ x2.toInt ≤ 7 → (7 - x1.toInt) * 20 + 2 * (7 - x2.toInt) + 1 < (n : Int) → j_X12_fillsWays_70_199 6 x1 x2 m Q) ∧
    (∀ (x1 x2 : Int32) (m : dM), Inv g m → Bf m → 1 ≤ x1.toInt ∧ x1.toInt ≤ 6 → 0 ≤ x2.toInt ∧ x2.toInt ≤ 6 → (7 - x1.toInt) * 20 + 2 * (7 - x2.toInt) < (n : Int) → j_X12_fillsWays_70_245 6 x1 x2 m Q) := by
  intro n
  induction n with
  | zero => exact ⟨fun x1 m hI hB h1 hμ => by exfalso; omega, fun x1 x2 m hI hB h1 h2 hμ => by exfalso; omega, fun x1 x2 m hI hB h1 h2 hμ => by exfalso; omega⟩
  | succ n ih =>
    have e0 := ti_0
    refine ⟨fun x1 m hI hB h1 hμ => ?_, fun x1 x2 m hI hB h1 h2 hμ => ?_, fun x1 x2 m hI hB h1 h2 hμ => ?_⟩
    · refine v_X12_fillsWays_70_191 ⟨fun _ => hQ _ hI hB, fun hc => ?_⟩
      exact ih.2.1 _ _ _ hI hB (by omega) (by omega) (by omega)
    · have f1 := dAddE (X := x1.toInt) (Y := 1) (x := x1) (y := (1 : Int32)) rfl (by decide) (by omega) (by omega)
      refine v_X12_fillsWays_70_199 ⟨fun _ => ih.1 _ _ hI hB (by omega) (by omega), fun hc => ⟨by omega, fun hs => ?_, fun _ => ih.2.2 _ _ _ hI hB h1 (by omega) (by omega)⟩⟩
      have hs : wS m x2 = x1.toInt := hs
      have hst := hB.st h2.1 (by omega)
      have hP : Pr m x2 := by
        rcases hB x2 h2.1 (by omega) with h | h | h
        · exfalso; omega
        · exfalso; omega
        · exact h.2.2
      refine Wp.deep (b_wireFrom hG hI (by omega) hst hP (fun w hw1 hw2 hg => ?_)) (Nat.le_of_ble_eq_true rfl)
      have b6 := b_wO6 (f := x2) hG hI hw1 hw2
      have b0 := hg.2.1
      refine Wp.deep (b_otherEnd hG hI hw1 hw2 ⟨by omega, ⟨by omega, ?_⟩⟩) (Nat.le_of_ble_eq_true rfl)
      exact ih.2.2 _ _ _ (Inv.setA hI rfl) (show Bf m from hB) h1 (by omega) (by omega)
    · have f2 := dAddE (X := x2.toInt) (Y := 1) (x := x2) (y := (1 : Int32)) rfl (by decide) (by omega) (by omega)
      refine v_X12_fillsWays_70_245 ?_
      exact ih.2.1 _ _ _ hI hB h1 (by omega) (by omega)
theorem b_nat {x y : Int32} (hx : 0 ≤ x.toInt) (hy : 0 ≤ y.toInt) (h : x.toNatClampNeg = y.toNatClampNeg) : x = y := by
  have := d_cl hx
  have := d_cl hy
  exact Int32.toInt_inj.mp (by omega)
theorem wS_set {b f v : Int32} (hb : 0 ≤ b.toInt) (hf : 0 ≤ f.toInt) : wS (dSet m 109 b.toNatClampNeg v) f = if f = b then v.toInt else wS m f := by
  unfold wS
  rw [dSet_e]
  by_cases h : f = b
  · subst h
    rw [if_pos ⟨rfl, rfl⟩, if_pos rfl]
  · rw [if_neg (fun q => h (b_nat hf hb q.2)), if_neg h]
theorem Bf.put {b n w : Int32} (hB : Bf m) (hb : 0 ≤ b.toInt ∧ b.toInt ≤ 6) (h99 : wS m b = 99) (hn : 1 ≤ n.toInt ∧ n.toInt ≤ 6) (hw : 0 ≤ w.toInt ∧ w.toInt < wN m) (hH : wH m w) (hO : 0 ≤ (wO m w b).toInt) (hs : wS m (wO m w b) = n.toInt - 1) : Bf (dSet m 109 b.toNatClampNeg n) := by
  intro f h1 h2
  rw [wS_set hb.1 h1]
  by_cases hf : f = b
  · subst hf
    rw [if_pos rfl]
    refine Or.inr (Or.inr ⟨hn.1, hn.2, w, hw, hH, hO, ?_⟩)
    show wS (dSet m 109 f.toNatClampNeg n) (wO m w f) = wS (dSet m 109 f.toNatClampNeg n) f - 1
    rw [wS_set hb.1 hO, wS_set hb.1 hb.1, if_pos rfl, if_neg (fun e => by rw [e] at hs; omega)]
    exact hs
  · rw [if_neg hf]
    rcases hB f h1 h2 with h | h | ⟨h3, h4, w', hw', hH', hO', hs'⟩
    · exact Or.inl h
    · exact Or.inr (Or.inl h)
    · refine Or.inr (Or.inr ⟨h3, h4, w', hw', hH', hO', ?_⟩)
      show wS (dSet m 109 b.toNatClampNeg n) (wO m w' f) = wS (dSet m 109 b.toNatClampNeg n) f - 1
      rw [wS_set hb.1 hO', wS_set hb.1 h1, if_neg hf, if_neg (fun e => by rw [e] at hs'; omega)]
      exact hs'
/-- phase 2: step by step -/
theorem b_ph2 {Q : dM → Prop} (hG : Gd g) (hQ : ∀ m', Inv g m' → Bf m' → Q m') : ∀ n : Nat,
    (∀ (x1 : Int32) (m : dM), Inv g m → Bf m → 1 ≤ x1.toInt ∧ x1.toInt ≤ 7 → (7 - x1.toInt) * 50 + 49 < (n : Int) → j_X12_fillsWays_70_51 6 x1 m Q) ∧
    (∀ (x1 x2 : Int32) (m : dM), Inv g m → Bf m → 1 ≤ x1.toInt ∧ x1.toInt ≤ 6 → 0 ≤ x2.toInt ∧ x2.toInt ≤ 10 → (7 - x1.toInt) * 50 + 3 * (10 - x2.toInt) + 2 < (n : Int) → j_X12_fillsWays_70_59 6 x1 x2 m Q) ∧
    (∀ (x1 x2 : Int32) (m : dM), Inv g m → Bf m → 1 ≤ x1.toInt ∧ x1.toInt ≤ 6 → 0 ≤ x2.toInt → x2.toInt < wN m → wH m x2 → (7 - x1.toInt) * 50 + 3 * (10 - x2.toInt) + 1 < (n : Int) → j_X12_fillsWays_70_146 6 x1 x2 (w1 m x2) (w2 m x2) m Q) ∧
    (∀ (x1 x2 : Int32) (m : dM), Inv g m → Bf m → 1 ≤ x1.toInt ∧ x1.toInt ≤ 6 → 0 ≤ x2.toInt ∧ x2.toInt ≤ 9 → (7 - x1.toInt) * 50 + 3 * (10 - x2.toInt) < (n : Int) → j_X12_fillsWays_70_177 6 x1 x2 m Q) := by
  intro n
  induction n with
  | zero => exact ⟨fun x1 m hI hB h1 hμ => by exfalso; omega, fun x1 x2 m hI hB h1 h2 hμ => by exfalso; omega, fun x1 x2 m hI hB h1 h2 h3 hw hμ => by have c := b_ctx hG hI; exfalso; omega, fun x1 x2 m hI hB h1 h2 hμ => by exfalso; omega⟩
  | succ n ih =>
    have e0 := ti_0
    have e1 := ti_1
    refine ⟨fun x1 m hI hB h1 hμ => ?_, fun x1 x2 m hI hB h1 h2 hμ => ?_, fun x1 x2 m hI hB h1 h2 h3 hw hμ => ?_, fun x1 x2 m hI hB h1 h2 hμ => ?_⟩
    · refine v_X12_fillsWays_70_51 ⟨fun _ => (b_ph3 hG hQ 1000).1 _ _ hI hB (by decide) (by decide), fun hc => ?_⟩
      exact ih.2.1 _ _ _ hI hB (by omega) (by omega) (by omega)
    · have c := b_ctx hG hI
      have f1 := dAddE (X := x1.toInt) (Y := 1) (x := x1) (y := (1 : Int32)) rfl (by decide) (by omega) (by omega)
      refine v_X12_fillsWays_70_59 ⟨by omega, fun _ => ih.1 _ _ hI hB (by omega) (by omega), fun hc => ?_⟩
      have hc : x2.toInt < wN m := hc
      refine Wp.deep (b_isWhole hG hI h2.1 hc (fun hw => ⟨fun _ => ?_, fun h => absurd h (by decide)⟩) (fun hw => ⟨fun h => absurd rfl h, fun _ => ih.2.2.2 _ _ _ hI hB h1 (by omega) (by omega)⟩)) (Nat.le_of_ble_eq_true rfl)
      have fm := dMulE (X := 10) (Y := (m.1 70 18).toInt) (x := (10 : Int32)) (y := m.1 70 18) (by decide) rfl (by omega) (by omega)
      have fa := dAddE (X := 10 * (m.1 70 18).toInt) (Y := x2.toInt) (x := (10 : Int32) * m.1 70 18) (y := x2) fm rfl (by omega) (by omega)
      have b := b_ends hG hI h2.1 hc
      have ea : (m.1 83 ((10 : Int32) * m.1 70 18 + x2).toNatClampNeg) = w1 m x2 := rfl
      have eb : (m.1 84 ((10 : Int32) * m.1 70 18 + x2).toNatClampNeg) = w2 m x2 := rfl
      have go := ih.2.2.1 x1 x2 m hI hB h1 h2.1 hc hw (by omega)
      have fs := dSubE (X := x1.toInt) (Y := 1) (x := x1) (y := (1 : Int32)) rfl (by decide) (by omega) (by omega)
      refine ⟨by omega, ⟨by omega, ⟨by rw [ea]; omega, fun _ => go, fun h5 => ⟨by rw [eb]; omega, fun _ => go, fun h6 => ⟨by rw [eb]; omega, ?_⟩⟩⟩⟩⟩
      have h5 : wS m (w1 m x2) = x1.toInt - 1 := by rw [fs] at h5; exact h5
      have h6 : wS m (w2 m x2) = 99 := h6
      have ne : ¬ (w1 m x2).toInt = (w2 m x2).toInt := fun e => by
        rw [Int32.toInt_inj.mp e] at h5
        omega
      have eO : wO m x2 (w2 m x2) = w1 m x2 := by
        unfold wO
        rw [if_neg ne, if_pos rfl]
      have hB' : Bf (dSet m 109 (w2 m x2).toNatClampNeg x1) := hB.put b.2 h6 h1 ⟨h2.1, hc⟩ hw (by rw [eO]; exact b.1.1) (by rw [eO]; exact h5)
      exact ih.2.2.1 x1 x2 (dSet m 109 (w2 m x2).toNatClampNeg x1) (Inv.setA hI rfl) hB' h1 h2.1 hc hw (by omega)
    · have c := b_ctx hG hI
      have b := b_ends hG hI h2 h3
      have fs := dSubE (X := x1.toInt) (Y := 1) (x := x1) (y := (1 : Int32)) rfl (by decide) (by omega) (by omega)
      have go := ih.2.2.2 x1 x2 m hI hB h1 (by omega) (by omega)
      refine v_X12_fillsWays_70_146 ⟨by omega, fun _ => go, fun h5 => ⟨by omega, fun _ => go, fun h6 => ⟨by omega, ?_⟩⟩⟩
      have h5 : wS m (w2 m x2) = x1.toInt - 1 := by rw [fs] at h5; exact h5
      have h6 : wS m (w1 m x2) = 99 := h6
      have eO : wO m x2 (w1 m x2) = w2 m x2 := by
        unfold wO
        rw [if_pos rfl]
      have hB' : Bf (dSet m 109 (w1 m x2).toNatClampNeg x1) := hB.put b.1 h6 h1 ⟨h2, h3⟩ hw (by rw [eO]; exact b.2.1) (by rw [eO]; exact h5)
      exact ih.2.2.2 x1 x2 _ (Inv.setA hI rfl) hB' h1 (by omega) (by omega)
    · have f2 := dAddE (X := x2.toInt) (Y := 1) (x := x2) (y := (1 : Int32)) rfl (by decide) (by omega) (by omega)
      refine v_X12_fillsWays_70_177 ?_
      exact ih.2.1 _ _ _ hI hB h1 (by omega) (by omega)
/-- phase 1: all away but the first -/
theorem b_ph1 {Q : dM → Prop} (hG : Gd g) (hQ : ∀ m', Inv g m' → Bf m' → Q m') : ∀ n : Nat, ∀ (x1 : Int32) (m : dM), Inv g m → 0 ≤ x1.toInt ∧ x1.toInt ≤ 7 → (∀ f : Int32, 0 ≤ f.toInt → f.toInt < x1.toInt → wS m f = 99 ∨ wS m f = 0) → 7 - x1.toInt < (n : Int) → j_X12_fillsWays_70_2 6 x1 m Q := by
  intro n
  induction n with
  | zero => intro x1 m hI h1 hp hμ; exfalso; omega
  | succ n ih =>
    intro x1 m hI h1 hp hμ
    have c := b_ctx hG hI
    refine v_X12_fillsWays_70_2 ⟨fun hc => ?_, fun hc => ?_⟩
    · refine (b_ph2 hG hQ 1000).1 _ _ hI (fun f hf1 hf2 => ?_) (by decide) (by decide)
      rcases hp f hf1 (by omega) with h | h
      · exact Or.inl h
      · exact Or.inr (Or.inl h)
    · have f1 := dAddE (X := x1.toInt) (Y := 1) (x := x1) (y := (1 : Int32)) rfl (by decide) (by omega) (by omega)
      have go : ∀ v : Int32, v.toInt = 99 ∨ v.toInt = 0 → j_X12_fillsWays_70_2 6 (x1 + 1) (dSet (dSet m 109 x1.toNatClampNeg v) 110 x1.toNatClampNeg (0 : Int32)) Q := fun v hv => by
        refine ih _ _ (Inv.setA (Inv.setA hI rfl) rfl) (by omega) (fun f hf1 hf2 => ?_) (by omega)
        show wS (dSet m 109 x1.toNatClampNeg v) f = 99 ∨ wS (dSet m 109 x1.toNatClampNeg v) f = 0
        rw [wS_set h1.1 hf1]
        by_cases h : f = x1
        · rw [if_pos h]; exact hv
        · rw [if_neg h]
          have : f.toInt ≠ x1.toInt := fun e => h (Int32.toInt_inj.mp e)
          exact hp f hf1 (by omega)
      refine ⟨fun _ => ⟨by omega, ⟨by omega, go _ (by decide)⟩⟩, fun _ => ⟨by omega, fun _ => ⟨by omega, ⟨by omega, go _ (by decide)⟩⟩, fun _ => ⟨by omega, ⟨by omega, go _ (by decide)⟩⟩⟩⟩
theorem b_fillsWays {Q : dM → Prop} (hG : Gd g) (hI : Inv g m) (hQ : ∀ m', Inv g m' → Bf m' → Q m') : c_X12_fillsWays_70 6 m Q := by
  refine v_X12_fillsWays_70 ?_
  have e0 := ti_0
  exact b_ph1 hG hQ 9 _ _ hI (by decide) (fun f h1 h2 => by exfalso; omega) (by decide)
theorem s_X12_fillsWays_70 {Q : dM → Prop} (hG : Gd g) (hI : Inv g m) (hQ : ∀ m' : dM, Inv g m' → Q m') : c_X12_fillsWays_70 20 m Q := Wp.deep (b_fillsWays hG hI (fun m' a _ => hQ m' a)) (Nat.le_of_ble_eq_true rfl)
theorem b_copies_2 {Q : dM → Prop} (hG : Gd g) (hQ : ∀ m', Inv g m' → Bf m' → Q m') : ∀ n : Nat, ∀ (x1 : Int32) (m : dM), Inv g m → 0 ≤ x1.toInt ∧ x1.toInt ≤ 58 → 58 - x1.toInt < (n : Int) → j_X12_copies_70_2 7 x1 m Q := by
  intro n
  induction n with
  | zero => intro x1 m hI h1 hμ; exfalso; omega
  | succ n ih =>
    intro x1 m hI h1 hμ
    have c := b_ctx hG hI
    refine v_X12_copies_70_2 ⟨fun hc => ⟨by omega, ?_⟩, fun hc => ⟨by omega, ⟨by omega, ?_⟩⟩⟩
    · exact b_fillsWays hG (Inv.setA (Inv.setA hI rfl) rfl) hQ
    · have f1 := dAddE (X := x1.toInt) (Y := 1) (x := x1) (y := (1 : Int32)) rfl (by decide) (by omega) (by omega)
      exact ih _ _ (Inv.setA hI rfl) (by omega) (by omega)
theorem b_copies {Q : dM → Prop} (hG : Gd g) (hI : Inv g m) (hQ : ∀ m', Inv g m' → Bf m' → Q m') : c_X12_copies_70 7 m Q := by
  refine v_X12_copies_70 ?_
  exact b_copies_2 hG hQ 60 _ _ hI (by decide) (by decide)
theorem b_way_46 {x2 : Int32} {Q : Int32 → dM → Prop} (hG : Gd g) (hI : Inv g m) (hB : Bf m) (hQ : ∀ r : Int32, Q r m) : ∀ n : Nat, ∀ x3 x4 : Int32, 0 ≤ x3.toInt ∧ x3.toInt ≤ 6 → 0 ≤ x4.toInt → x4.toInt ≤ x2.toInt → (x2.toInt < x4.toInt + wS m x3 ∧ wS m x3 ≤ 6) → x2.toInt - x4.toInt < (n : Int) → j_X12_way_70_46 8 x2 x3 x4 m Q := by
  intro n
  induction n with
  | zero => intro x3 x4 h3 h4 h5 h6 hμ; exfalso; omega
  | succ n ih =>
    intro x3 x4 h3 h4 h5 h6 hμ
    have hst := hB.st h3.1 h3.2
    have hP : Pr m x3 := by
      rcases hB x3 h3.1 h3.2 with h | h | h
      · exfalso; omega
      · exfalso; omega
      · exact h.2.2
    refine v_X12_way_70_46 ⟨fun hc => ?_, fun hc => ?_⟩
    · exact Wp.deep (b_wireFrom hG hI h3 hst hP (fun w _ _ _ => hQ w)) (Nat.le_of_ble_eq_true rfl)
    · refine Wp.deep (b_wireFrom hG hI h3 hst hP (fun w hw1 hw2 hg => ?_)) (Nat.le_of_ble_eq_true rfl)
      have b6 := b_wO6 (f := x3) hG hI hw1 hw2
      have b0 := hg.2.1
      have bs := hg.2.2
      have hx2 := e_hi x2
      have f4 := dAddE (X := x4.toInt) (Y := 1) (x := x4) (y := (1 : Int32)) rfl (by decide) (by omega) (by omega)
      refine Wp.deep (b_otherEnd hG hI hw1 hw2 ?_) (Nat.le_of_ble_eq_true rfl)
      exact ih _ _ ⟨b0, b6⟩ (by omega) (by omega) (by omega) (by omega)
theorem s_X12_way_70 {x1 x2 : Int32} {Q : Int32 → dM → Prop} (hG : Gd g) (hI : Inv g m) (hQ : ∀ (r : Int32) (m' : dM), Inv g m' → Q r m') : c_X12_way_70 20 x1 x2 m Q := by
  have c := b_ctx hG hI
  have e0 := ti_0
  have e1 := ti_1
  refine v_X12_way_70 ?_
  refine v_X12_isFlat_70 ⟨by omega, ?_⟩
  have fin : j_X12_way_70_12 20 m Q := v_X12_way_70_12 (hQ _ _ hI)
  have b80 := Inv.s hG hI (k := 80) (j := (m.1 70 18).toNatClampNeg) rfl rfl
  have f := dSubE (X := (m.1 80 (m.1 70 18).toNatClampNeg).toInt) (Y := 1) (x := m.1 80 (m.1 70 18).toNatClampNeg) (y := (1 : Int32)) rfl (by decide) (by omega) (by omega)
  refine v_X12_in ?_
  refine ⟨fun h => v_X12_in_14 ⟨by decide, fun _ => fin, fun h => absurd rfl h⟩, fun h0 => ⟨fun h => v_X12_in_14 ⟨by decide, fun _ => fin, fun h => absurd rfl h⟩, fun h1 => ⟨by decide, fun h => by exfalso; omega, fun _ => ⟨fun h2 => ?_, fun _ => fin⟩⟩⟩⟩
  refine Wp.deep (b_copies hG hI (fun m2 I2 B2 => ?_)) (Nat.le_of_ble_eq_true rfl)
  refine v_X12_isLit_70 ⟨by omega, fun h3 => ⟨fun h => absurd rfl h, fun _ => hQ _ _ I2⟩, fun h3 => ⟨fun _ => ⟨by omega, fun h4 => ?_, fun h4 => hQ _ _ I2⟩, fun h => by exfalso; omega⟩⟩
  have h3 : wS m2 x1 < 99 := h3
  have h4 : x2.toInt < wS m2 x1 := h4
  have h6 : wS m2 x1 ≤ 6 := by
    rcases B2 x1 (by omega) (by omega) with h | h | h <;> omega
  exact Wp.deep (b_way_46 hG I2 B2 (fun r => hQ r _ I2) 3000000000 _ _ (by omega) (by decide) (by omega) (by omega) (by omega)) (Nat.le_of_ble_eq_true rfl)
end BFS
