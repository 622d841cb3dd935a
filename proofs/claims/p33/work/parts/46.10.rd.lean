/-! THE REFERENCE's read, 11: the tokens (by hand) -/
def siz (m : dM) : Int := (m.1 70 4).toInt
def toks (m : dM) : Int := (m.1 70 10).toInt
def CU (me m : dM) : Prop := (∀ k : Nat, k ≠ 70 → k ≠ 73 → k ≠ 74 → k ≠ 75 → m.1 k = me.1 k) ∧ (∀ j : Nat, j ≠ 10 → m.1 70 j = me.1 70 j) ∧ (∀ j : Nat, 0 ≤ (m.1 75 j).toInt ∧ (m.1 75 j).toInt ≤ 9999) ∧ (∀ j : Nat, 0 ≤ (m.1 73 j).toInt ∧ (m.1 73 j).toInt ≤ 41) ∧ (0 ≤ toks m ∧ toks m ≤ 401)
theorem CU.sz {me m : dM} (h : CU me m) : siz m = siz me := by unfold siz; rw [h.2.1 4 (by decide)]
theorem u_byteAt {x1 : Int32} {m : dM} {Q : Int32 → dM → Prop} (hx : 0 ≤ x1.toInt) (hs : siz m ≤ 2000) (h0 : siz m ≤ x1.toInt → Q 0 m) (h1 : x1.toInt < siz m → Q ((m.1 72 x1.toNatClampNeg) &&& (255 : Int32)) m) : c_X12_byteAt_70 1 x1 m Q := by
  refine v_X12_byteAt_70 ⟨fun h => h0 h, fun h => ⟨?_, h1 h⟩⟩
  have h : x1.toInt < siz m := h
  omega
theorem u_isLetter {x0 : Int32} {m : dM} {Q : Int32 → dM → Prop} (h1 : 97 ≤ x0.toInt ∧ x0.toInt ≤ 122 → Q 1 m) (h0 : ¬ (97 ≤ x0.toInt ∧ x0.toInt ≤ 122) → Q 0 m) : c_X12_isLetter 1 x0 m Q :=
  v_X12_isLetter ⟨fun h => v_X12_isLetter_16 (h0 (by omega)), fun h => ⟨fun h' => v_X12_isLetter_16 (h0 (by omega)), fun h' => h1 ⟨h, h'⟩⟩⟩
theorem u_isDigit {x0 : Int32} {m : dM} {Q : Int32 → dM → Prop} (h1 : 48 ≤ x0.toInt ∧ x0.toInt ≤ 57 → Q 1 m) (h0 : ¬ (48 ≤ x0.toInt ∧ x0.toInt ≤ 57) → Q 0 m) : c_X12_isDigit 1 x0 m Q :=
  v_X12_isDigit ⟨fun h => v_X12_isDigit_16 (h0 (by omega)), fun h => ⟨fun h' => v_X12_isDigit_16 (h0 (by omega)), fun h' => h1 ⟨h, h'⟩⟩⟩
theorem u_token {x1 x2 x3 : Int32} {y4 : Int64} {me m : dM} {Q : dM → Prop} (h : CU me m) (ht : toks m ≤ 400) (h1 : 0 ≤ x1.toInt ∧ x1.toInt ≤ 41) (h3 : 0 ≤ x3.toInt ∧ x3.toInt ≤ 9999) (hQ : ∀ m', CU me m' → Q m') : c_X12_token_70 1 x1 x2 x3 y4 m Q := by
  obtain ⟨a1, a2, a3, a4, a5⟩ := h
  have e : (m.1 70 10).toInt = toks m := rfl
  have f := dAddE (X := toks m) (Y := 1) (x := m.1 70 10) (y := (1 : Int32)) rfl (by decide) (by omega) (by omega)
  refine v_X12_token_70 ⟨by omega, ⟨by omega, ⟨by omega, ⟨by omega, hQ _ ⟨fun k e1 e2 e3 e4 => ?_, fun j e1 => ?_, fun j => ?_, fun j => ?_, ?_⟩⟩⟩⟩⟩
  · rw [dSet_k e1]
    show (dSet (dSet (dSet m 73 _ x1) 74 _ x2) 75 _ x3).1 k = _
    rw [dSet_k e4, dSet_k e3, dSet_k e2]; exact a1 k e1 e2 e3 e4
  · rw [dSet_j e1]; exact a2 j e1
  · show 0 ≤ ((dSet (dSet (dSet m 73 _ x1) 74 _ x2) 75 _ x3).1 75 j).toInt ∧ ((dSet (dSet (dSet m 73 _ x1) 74 _ x2) 75 _ x3).1 75 j).toInt ≤ 9999
    rw [dSet_e]
    by_cases q : j = (m.1 70 10).toNatClampNeg
    · rw [if_pos ⟨rfl, q⟩]; exact h3
    · rw [if_neg (fun z => q z.2)]; exact a3 j
  · show 0 ≤ ((dSet m 73 _ x1).1 73 j).toInt ∧ ((dSet m 73 _ x1).1 73 j).toInt ≤ 41
    rw [dSet_e]
    by_cases q : j = (m.1 70 10).toNatClampNeg
    · rw [if_pos ⟨rfl, q⟩]; exact h1
    · rw [if_neg (fun z => q z.2)]; exact a4 j
  · show 0 ≤ (m.1 70 10 + (1 : Int32)).toInt ∧ (m.1 70 10 + (1 : Int32)).toInt ≤ 401
    omega
theorem u_sign {x1 x2 x3 : Int32} {me m : dM} {Q : Int32 → dM → Prop} (h : CU me m) (ht : toks m ≤ 400) (hQ : ∀ m', CU me m' → Q 1 m') : c_X12_sign_70 2 x1 x2 x3 m Q := by
  have l95 : ∀ x4 : Int32, 0 ≤ x4.toInt ∧ x4.toInt ≤ 41 → j_X12_sign_70_95 2 x1 x4 m Q := fun x4 h4 => v_X12_sign_70_95 (u_token h ht h4 (by decide) hQ)
  have l85 : ∀ x4 : Int32, 0 ≤ x4.toInt ∧ x4.toInt ≤ 41 → j_X12_sign_70_85 2 x1 x2 x4 m Q := fun x4 h4 => v_X12_sign_70_85 ⟨fun _ => l95 x4 h4, fun _ => l95 _ (by decide)⟩
  have l75 : ∀ x4 : Int32, 0 ≤ x4.toInt ∧ x4.toInt ≤ 41 → j_X12_sign_70_75 2 x1 x2 x4 m Q := fun x4 h4 => v_X12_sign_70_75 ⟨fun _ => l85 x4 h4, fun _ => l85 _ (by decide)⟩
  have l65 : ∀ x4 : Int32, 0 ≤ x4.toInt ∧ x4.toInt ≤ 41 → j_X12_sign_70_65 2 x1 x2 x4 m Q := fun x4 h4 => v_X12_sign_70_65 ⟨fun _ => l75 x4 h4, fun _ => l75 _ (by decide)⟩
  have l55 : ∀ x4 : Int32, 0 ≤ x4.toInt ∧ x4.toInt ≤ 41 → j_X12_sign_70_55 2 x1 x2 x4 m Q := fun x4 h4 => v_X12_sign_70_55 ⟨fun _ => l65 x4 h4, fun _ => l65 _ (by decide)⟩
  exact v_X12_sign_70 ⟨fun _ => ⟨fun _ => ⟨fun _ => ⟨fun _ => ⟨fun _ => l55 _ (by decide), fun _ => l55 _ (by decide)⟩, fun _ => ⟨fun _ => l55 _ (by decide), fun _ => l55 _ (by decide)⟩⟩, fun _ => ⟨fun _ => l55 _ (by decide), fun _ => l55 _ (by decide)⟩⟩, fun _ => ⟨fun _ => l55 _ (by decide), fun _ => l55 _ (by decide)⟩⟩, fun _ => ⟨fun _ => l55 _ (by decide), fun _ => l55 _ (by decide)⟩⟩
def lt1 (m : dM) (x : Int32) : Prop := x.toInt < siz m ∧ 97 ≤ ((m.1 72 x.toNatClampNeg) &&& (255 : Int32)).toInt ∧ ((m.1 72 x.toNatClampNeg) &&& (255 : Int32)).toInt ≤ 122
def dg1 (m : dM) (x : Int32) : Prop := x.toInt < siz m ∧ 48 ≤ ((m.1 72 x.toNatClampNeg) &&& (255 : Int32)).toInt ∧ ((m.1 72 x.toNatClampNeg) &&& (255 : Int32)).toInt ≤ 57
def pwr (n v : Int) : Prop := 0 ≤ v ∧ ((n = 0 ∧ v = 0) ∨ (n = 1 ∧ v ≤ 9) ∨ (n = 2 ∧ v ≤ 99) ∨ (n = 3 ∧ v ≤ 999) ∨ (4 ≤ n ∧ v ≤ 9999))
theorem u_main {me : dM} {Q : dM → Prop} (hsz : 0 ≤ siz me ∧ siz me ≤ 2000) (hQ : ∀ m', CU me m' → Q m') : ∀ n : Nat,
    (∀ (x1 : Int32) (m : dM), CU me m → 0 ≤ x1.toInt ∧ x1.toInt ≤ 2000 → 5000 * (2001 - x1.toInt) + 4990 < (n : Int) → j_X12_cutsUp_70_7 3 x1 m Q) ∧
    (∀ (x1 x3 : Int32) (y4 : Int64) (m : dM), CU me m → toks m ≤ 400 → 0 ≤ x1.toInt → 0 ≤ x3.toInt → x1.toInt + x3.toInt ≤ siz me → (x3.toInt = 0 → lt1 m x1) → 5000 * (2001 - x1.toInt) + 100 + 2 * (2000 - (x1.toInt + x3.toInt)) < (n : Int) → j_X12_cutsUp_70_85 3 x1 x3 y4 m Q) ∧
    (∀ (x1 x3 : Int32) (y4 : Int64) (x6 x7 : Int32) (m : dM), CU me m → toks m ≤ 400 → 0 ≤ x1.toInt → 1 ≤ x3.toInt → x1.toInt + x3.toInt ≤ siz me → 0 ≤ x6.toInt ∧ x6.toInt ≤ 41 → 0 ≤ x7.toInt ∧ x7.toInt ≤ 22 → 5000 * (2001 - x1.toInt) + 2 + (22 - x7.toInt) < (n : Int) → j_X12_cutsUp_70_146 3 x1 x3 y4 x6 x7 m Q) ∧
    (∀ (x1 x3 : Int32) (y4 : Int64) (x6 : Int32) (m : dM), CU me m → toks m ≤ 400 → 0 ≤ x1.toInt → 1 ≤ x3.toInt → x1.toInt + x3.toInt ≤ siz me → 0 ≤ x6.toInt ∧ x6.toInt ≤ 41 → 5000 * (2001 - x1.toInt) + 1 < (n : Int) → j_X12_cutsUp_70_179 3 x1 x3 y4 x6 m Q) ∧
    (∀ (x1 x3 x4 : Int32) (m : dM), CU me m → toks m ≤ 400 → 0 ≤ x1.toInt → 0 ≤ x3.toInt → x1.toInt + x3.toInt ≤ siz me → (x3.toInt = 0 → dg1 m x1) → pwr x3.toInt x4.toInt → 5000 * (2001 - x1.toInt) + 100 + 2 * (2000 - (x1.toInt + x3.toInt)) < (n : Int) → j_X12_cutsUp_70_208 3 x1 x3 x4 m Q) := by
  intro n
  induction n with
  | zero => exact ⟨fun x1 m h h1 hμ => by exfalso; omega, fun x1 x3 y4 m h ht h1 h3 h4 h5 hμ => by exfalso; omega, fun x1 x3 y4 x6 x7 m h ht h1 h3 h4 h6 h7 hμ => by exfalso; omega, fun x1 x3 y4 x6 m h ht h1 h3 h4 h6 hμ => by exfalso; omega, fun x1 x3 x4 m h ht h1 h3 h4 h5 hp hμ => by exfalso; omega⟩
  | succ n ih =>
    have e0 := ti_0
    have e1 := ti_1
    have e255 : (255 : Int32).toInt = 255 := by decide
    have l291 : ∀ (x1 : Int32) (m : dM), CU me m → 0 ≤ x1.toInt ∧ x1.toInt ≤ 2000 → 5000 * (2001 - x1.toInt) + 4990 < (n : Int) → j_X12_cutsUp_70_291 3 x1 m Q := fun x1 m h h1 hμ => v_X12_cutsUp_70_291 (ih.1 x1 m h h1 hμ)
    refine ⟨fun x1 m h h1 hμ => ?_, fun x1 x3 y4 m h ht h1 h3 h4 h5 hμ => ?_, fun x1 x3 y4 x6 x7 m h ht h1 h3 h4 h6 h7 hμ => ?_, fun x1 x3 y4 x6 m h ht h1 h3 h4 h6 hμ => ?_, fun x1 x3 x4 m h ht h1 h3 h4 h5 hp hμ => ?_⟩
    · have hz := h.sz
      refine v_X12_cutsUp_70_7 ⟨fun _ => hQ m h, fun ht => ?_⟩
      have ht : toks m ≤ 400 := ht
      have stop : siz m ≤ x1.toInt → c_X12_token_70 2 (0 : Int32) (m.1 70 4) (0 : Int32) (0 : Int64) m (fun m6 => Q m6) := fun _ => Wp.deep (u_token h ht (by decide) (by decide) hQ) (Nat.le_of_ble_eq_true rfl)
      refine Wp.deep (u_byteAt h1.1 (by omega) (fun hq => ⟨fun q => ?_, fun q => stop q⟩) (fun hq => ⟨fun _ => ?_, fun q => ?_⟩)) (Nat.le_of_ble_eq_true rfl)
      · have q : x1.toInt < siz m := q
        exfalso; omega
      · have f1 := dAddE (X := x1.toInt) (Y := 1) (x := x1) (y := (1 : Int32)) rfl (by decide) (by omega) (by omega)
        have l67 : j_X12_cutsUp_70_67 3 x1 m Q := v_X12_cutsUp_70_67 (l291 _ m h (by omega) (by omega))
        refine ⟨fun _ => l67, fun _ => ⟨fun _ => l67, fun _ => ⟨fun _ => l67, fun _ => ⟨fun _ => ?_, fun _ => l67⟩⟩⟩⟩
        refine Wp.deep (u_isLetter (fun hl => ⟨fun q => absurd q (by decide), fun _ => ?_⟩) (fun hl => ⟨fun _ => ?_, fun q => absurd rfl q⟩)) (Nat.le_of_ble_eq_true rfl)
        · exact ih.2.1 x1 0 0 m h ht h1.1 (by decide) (by omega) (fun _ => ⟨hq, hl.1, hl.2⟩) (by omega)
        · refine Wp.deep (u_isDigit (fun hl => ⟨fun q => absurd q (by decide), fun _ => ?_⟩) (fun hl => ⟨fun _ => ?_, fun q => absurd rfl q⟩)) (Nat.le_of_ble_eq_true rfl)
          · exact ih.2.2.2.2 x1 0 0 m h ht h1.1 (by decide) (by omega) (fun _ => ⟨hq, hl.1, hl.2⟩) ⟨by decide, Or.inl ⟨by decide, by decide⟩⟩ (by omega)
          · have sg : ∀ r : Int32, c_X12_sign_70 2 x1 ((m.1 72 x1.toNatClampNeg) &&& (255 : Int32)) r m (fun r5 m5 => j_X12_cutsUp_70_291 3 (x1 + r5) m5 Q) := fun r => u_sign h ht (fun m' h' => l291 _ m' h' (by omega) (by omega))
            exact Wp.deep (u_byteAt (by omega) (by omega) (fun _ => sg _) (fun _ => sg _)) (Nat.le_of_ble_eq_true rfl)
      · have q : siz m ≤ x1.toInt := q
        exfalso; omega
    · have hz := h.sz
      have fx := dAddE (X := x1.toInt) (Y := x3.toInt) (x := x1) (y := x3) rfl rfl (by omega) (by omega)
      refine v_X12_cutsUp_70_85 ?_
      have stop : 1 ≤ x3.toInt → ((x3.toInt ≤ 8 → ((8 < x3.toInt → j_X12_cutsUp_70_179 3 x1 x3 y4 (1 : Int32) m Q) ∧ (x3.toInt ≤ 8 → j_X12_cutsUp_70_146 3 x1 x3 y4 (1 : Int32) (0 : Int32) m Q))) ∧ (8 < x3.toInt → ((8 < x3.toInt → j_X12_cutsUp_70_179 3 x1 x3 y4 (3 : Int32) m Q) ∧ (x3.toInt ≤ 8 → j_X12_cutsUp_70_146 3 x1 x3 y4 (3 : Int32) (0 : Int32) m Q)))) := fun hx =>
        ⟨fun _ => ⟨fun _ => ih.2.2.2.1 _ _ _ _ m h ht h1 hx h4 (by decide) (by omega), fun _ => ih.2.2.1 _ _ _ _ _ m h ht h1 hx h4 (by decide) (by decide) (by omega)⟩, fun _ => ⟨fun _ => ih.2.2.2.1 _ _ _ _ m h ht h1 hx h4 (by decide) (by omega), fun _ => ih.2.2.1 _ _ _ _ _ m h ht h1 hx h4 (by decide) (by decide) (by omega)⟩⟩
      have ex0 : x3.toInt = 0 → x1 + x3 = x1 := fun q => Int32.toInt_inj.mp (by omega)
      refine Wp.deep (u_byteAt (x1 := x1 + x3) (by omega) (by omega) (fun hq => ?_) (fun hq => ?_)) (Nat.le_of_ble_eq_true rfl)
      · refine Wp.deep (u_isLetter (fun hl => by exfalso; omega) (fun hl => ⟨fun _ => stop ?_, fun q => absurd rfl q⟩)) (Nat.le_of_ble_eq_true rfl)
        by_cases q : x3.toInt = 0
        · have := (h5 q).1
          exfalso; omega
        · omega
      · refine Wp.deep (u_isLetter (fun hl => ⟨fun q => absurd q (by decide), fun _ => ?_⟩) (fun hl => ⟨fun _ => stop ?_, fun q => absurd rfl q⟩)) (Nat.le_of_ble_eq_true rfl)
        · have f3 := dAddE (X := x3.toInt) (Y := 1) (x := x3) (y := (1 : Int32)) rfl (by decide) (by omega) (by omega)
          have l118 : ∀ y : Int64, j_X12_cutsUp_70_118 3 x1 x3 y m Q := fun y => v_X12_cutsUp_70_118 (ih.2.1 x1 _ y m h ht h1 (by omega) (by omega) (fun q => by exfalso; omega) (by omega))
          refine ⟨fun _ => l118 y4, fun _ => ?_⟩
          have ap : ∀ r : Int32, c_X12_appends 2 y4 r m (fun r4 m4 => j_X12_cutsUp_70_118 3 x1 x3 r4 m4 Q) := fun r => Wp.deep (v_X12_appends (d := 0) ⟨fun _ => l118 _, fun _ => l118 _⟩) (Nat.le_of_ble_eq_true rfl)
          exact Wp.deep (u_byteAt (x1 := x1 + x3) (by omega) (by omega) (fun _ => ap _) (fun _ => ap _)) (Nat.le_of_ble_eq_true rfl)
        · by_cases q : x3.toInt = 0
          · have w := h5 q
            rw [ex0 q] at hl
            exact absurd ⟨w.2.1, w.2.2⟩ hl
          · omega
    · have f7 := dAddE (X := x7.toInt) (Y := 1) (x := x7) (y := (1 : Int32)) rfl (by decide) (by omega) (by omega)
      have f20 := dAddE (X := 20) (Y := x7.toInt) (x := (20 : Int32)) (y := x7) (by decide) rfl (by omega) (by omega)
      have l173 : ∀ y : Int32, 0 ≤ y.toInt ∧ y.toInt ≤ 41 → x7.toInt < 22 → j_X12_cutsUp_70_173 3 x1 x3 y4 y x7 m Q := fun y hy hc => v_X12_cutsUp_70_173 (ih.2.2.1 _ _ _ _ _ m h ht h1 h3 h4 hy (by omega) (by omega))
      refine v_X12_cutsUp_70_146 ⟨fun _ => ih.2.2.2.1 _ _ _ _ m h ht h1 h3 h4 h6 (by omega), fun hc => ⟨by omega, fun _ => l173 _ h6 hc, fun _ => l173 _ (by omega) hc⟩⟩
    · have fx := dAddE (X := x1.toInt) (Y := x3.toInt) (x := x1) (y := x3) rfl rfl (by omega) (by omega)
      refine v_X12_cutsUp_70_179 ?_
      exact Wp.deep (u_token h ht h6 (by decide) (fun m' h' => l291 _ m' h' (by omega) (by omega))) (Nat.le_of_ble_eq_true rfl)
    · have hz := h.sz
      have fx := dAddE (X := x1.toInt) (Y := x3.toInt) (x := x1) (y := x3) rfl rfl (by omega) (by omega)
      refine v_X12_cutsUp_70_208 ?_
      have hv : 0 ≤ x4.toInt ∧ x4.toInt ≤ 9999 := by
        obtain ⟨p1, p2⟩ := hp
        rcases p2 with q | q | q | q | q <;> omega
      have stop : 1 ≤ x3.toInt → ((x3.toInt ≤ 4 → c_X12_token_70 2 (2 : Int32) x1 x4 (0 : Int64) m (fun m3 => j_X12_cutsUp_70_291 3 (x1 + x3) m3 Q)) ∧ (4 < x3.toInt → c_X12_token_70 2 (3 : Int32) x1 x4 (0 : Int64) m (fun m4 => j_X12_cutsUp_70_291 3 (x1 + x3) m4 Q))) := fun hx =>
        ⟨fun _ => Wp.deep (u_token h ht (by decide) hv (fun m' h' => l291 _ m' h' (by omega) (by omega))) (Nat.le_of_ble_eq_true rfl), fun _ => Wp.deep (u_token h ht (by decide) hv (fun m' h' => l291 _ m' h' (by omega) (by omega))) (Nat.le_of_ble_eq_true rfl)⟩
      have ex0 : x3.toInt = 0 → x1 + x3 = x1 := fun q => Int32.toInt_inj.mp (by omega)
      refine Wp.deep (u_byteAt (x1 := x1 + x3) (by omega) (by omega) (fun hq => ?_) (fun hq => ?_)) (Nat.le_of_ble_eq_true rfl)
      · refine Wp.deep (u_isDigit (fun hl => by exfalso; omega) (fun hl => ⟨fun _ => stop ?_, fun q => absurd rfl q⟩)) (Nat.le_of_ble_eq_true rfl)
        by_cases q : x3.toInt = 0
        · have := (h5 q).1
          exfalso; omega
        · omega
      · refine Wp.deep (u_isDigit (fun hl => ⟨fun q => absurd q (by decide), fun _ => ?_⟩) (fun hl => ⟨fun _ => stop ?_, fun q => absurd rfl q⟩)) (Nat.le_of_ble_eq_true rfl)
        · have f3 := dAddE (X := x3.toInt) (Y := 1) (x := x3) (y := (1 : Int32)) rfl (by decide) (by omega) (by omega)
          have l244 : ∀ y : Int32, pwr (x3.toInt + 1) y.toInt → j_X12_cutsUp_70_244 3 x1 x3 y m Q := fun y hy => v_X12_cutsUp_70_244 (ih.2.2.2.2 x1 _ y m h ht h1 (by omega) (by omega) (fun q => by exfalso; omega) (by rw [f3]; exact hy) (by omega))
          refine ⟨fun h4' => l244 x4 ⟨hv.1, Or.inr (Or.inr (Or.inr (Or.inr ⟨by omega, hv.2⟩)))⟩, fun h4' => ?_⟩
          refine Wp.deep (u_byteAt (x1 := x1 + x3) (by omega) (by omega) (fun q => by exfalso; omega) (fun _ => ?_)) (Nat.le_of_ble_eq_true rfl)
          have fa := dMulE (X := 10) (Y := x4.toInt) (x := (10 : Int32)) (y := x4) (by decide) rfl (by omega) (by omega)
          have fb := dAddE (X := 10 * x4.toInt) (Y := ((m.1 72 (x1 + x3).toNatClampNeg) &&& (255 : Int32)).toInt) (x := (10 : Int32) * x4) (y := (m.1 72 (x1 + x3).toNatClampNeg) &&& (255 : Int32)) fa rfl (by omega) (by omega)
          have fc := dSubE (X := 10 * x4.toInt + ((m.1 72 (x1 + x3).toNatClampNeg) &&& (255 : Int32)).toInt) (Y := 48) (x := (10 : Int32) * x4 + ((m.1 72 (x1 + x3).toNatClampNeg) &&& (255 : Int32))) (y := (48 : Int32)) fb (by decide) (by omega) (by omega)
          refine l244 _ ?_
          rw [fc]
          obtain ⟨p1, p2⟩ := hp
          refine ⟨by omega, ?_⟩
          omega
        · by_cases q : x3.toInt = 0
          · have w := h5 q
            rw [ex0 q] at hl
            exact absurd ⟨w.2.1, w.2.2⟩ hl
          · omega
theorem u_cutsUp {m : dM} {Q : dM → Prop} (hsz : 0 ≤ siz m ∧ siz m ≤ 2000) (h75 : ∀ j : Nat, 0 ≤ (m.1 75 j).toInt ∧ (m.1 75 j).toInt ≤ 9999) (h73 : ∀ j : Nat, 0 ≤ (m.1 73 j).toInt ∧ (m.1 73 j).toInt ≤ 41) (hQ : ∀ m', CU m m' → Q m') : c_X12_cutsUp_70 3 m Q := by
  refine v_X12_cutsUp_70 ?_
  refine (u_main (me := m) hsz hQ 20000000).1 _ _ ⟨fun k e1 _ _ _ => dSet_k e1, fun j e1 => dSet_j e1, h75, h73, by show 0 ≤ (0 : Int32).toInt ∧ (0 : Int32).toInt ≤ 401; decide⟩ (by decide) (by decide)
