section
/-! THE REFERENCE's expression: the codes that it puts -/
/-- what waits, the last first -/
def wL (g : Nat → Int32) : List Int → Prop
  | [] => True
  | w :: W => (g W.length).toInt = rk w ∧ (w = 40 ∨ w = 43 ∨ w = 45 ∨ w = 42 ∨ w = 47) ∧ wL g W
theorem wL_of {g g' : Nat → Int32} : ∀ (W : List Int), (∀ j : Nat, j < W.length → g' j = g j) → wL g W → wL g' W
  | [], _, _ => trivial
  | w :: W, e, h => by
    have e1 := e W.length (by rw [List.length_cons]; omega)
    exact ⟨by rw [e1]; exact h.1, h.2.1, wL_of W (fun j hj => e j (by rw [List.length_cons]; omega)) h.2.2⟩
theorem rk_op {w : Int} (h : w = 40 ∨ w = 43 ∨ w = 45 ∨ w = 42 ∨ w = 47) : (w = 40 ∧ rk w = 6) ∨ (w = 43 ∧ rk w = 8) ∨ (w = 45 ∧ rk w = 9) ∨ (w = 42 ∧ rk w = 10) ∨ (w = 47 ∧ rk w = 15) := by
  rcases h with rfl | rfl | rfl | rfl | rfl <;> decide
def xsT (x : Int32) : Bool := decide (x.toInt ≠ 0)
theorem SR.snoc {m : dM} {a : Nat} {L : lC} {x : Int32} (h : SR m a L) (hb : a + L.length < 840) (hx : cR (m.1 102 (a + L.length)) (m.1 103 (a + L.length)) x) : SR m a (L ++ [x]) := by
  refine ⟨by rw [List.length_append]; show a + (L.length + 1) ≤ 840; omega, fun j hj => ?_⟩
  rw [List.length_append] at hj
  have hj : j < L.length + 1 := hj
  by_cases q : j < L.length
  · rw [List.getD_eq_getElem?_getD, List.getElem?_append_left q, ← List.getD_eq_getElem?_getD]
    exact h.2 j q
  · have e : j = L.length := by omega
    subst e
    rw [List.getD_eq_getElem?_getD, List.getElem?_append_right (Nat.le_refl _), Nat.sub_self]
    exact hx
theorem SR.on {m m' : dM} {a : Nat} {L : lC} (h : SR m a L) (e : ∀ j : Nat, a ≤ j → j < a + L.length → m'.1 102 j = m.1 102 j ∧ m'.1 103 j = m.1 103 j) : SR m' a L := ⟨h.1, fun j hj => by rw [(e (a + j) (by omega) (by omega)).1, (e (a + j) (by omega) (by omega)).2]; exact h.2 j hj⟩
/-- what lies there when it has come out -/
def xO (x : Int32) (c0 : Nat) (L : List Int) (u : lC) (m : dM) (n q : Nat) : Prop := (fl (xsT x) L u).1.length = n ∧ (fl (xsT x) L u).2.length = q ∧ wL (m.1 104) (fl (xsT x) L u).1 ∧ SR m c0 (fl (xsT x) L u).2
theorem xcd {code x : Int32} (hc : 2 ≤ code.toInt ∧ code.toInt ≤ 5) (he : x = code - 2) : cR code 0 x := Or.inr (Or.inr ⟨hc.1, hc.2, he⟩)
theorem xo_1 {x1 : Int32} {Q : dM → Prop} {c0 : Nat} {B : Int} (hB : B ≤ 839) : ∀ (n : Nat) (m : dM) (o p c q : Nat) (L : List Int) (u : lC), n ≤ 64 → wtg m = n → Wk (m.1 104) n o p c → cds m = c0 + q → gDp m.1 q c0 0 (p + 1) → cds m + p ≤ B → L.length = n → u.length = q → wL (m.1 104) L → SR m c0 u →
    (∀ (m' : dM) (n' p' c' q' : Nat), CoF m p m' → wtg m' = n' → Wk (m'.1 104) n' o p' c' → c' ≤ 1 → (x1.toInt = 0 → c' = 0) → cds m' = c0 + q' → gDp m'.1 q' c0 0 (p' + 1) → cds m' + p' = cds m + p → q ≤ q' → m'.2 = m.2 → xO x1 c0 L u m' n' q' → Q m') → j_X12_comesOut_70_0 2 x1 m Q := by
  intro n
  induction n with
  | zero =>
    intro m o p c q L u hn hw hW hc hD hB' hL hu hWL hSR hQ
    have eL : L = [] := List.length_eq_zero_iff.mp hL
    subst eL
    have hW' : o = 0 ∧ p = 0 ∧ c = 0 := hW
    refine v_X12_comesOut_70_0 ⟨fun _ => hQ m 0 p c q ⟨fun _ _ _ _ => rfl, fun _ _ _ => rfl, fun _ _ => ⟨rfl, rfl⟩⟩ hw hW (by omega) (fun _ => hW'.2.2) hc hD rfl (Nat.le_refl _) rfl ⟨rfl, hu, trivial, hSR⟩, fun h => ?_⟩
    have h : 0 < wtg m := h
    exfalso; omega
  | succ n ih =>
    intro m o p c q L u hn hw hW hc hD hB' hL hu hWL hSR hQ
    obtain ⟨w, L', rfl⟩ : ∃ w L', L = w :: L' := by
      cases L with
      | nil => cases hL
      | cons w L' => exact ⟨w, L', rfl⟩
    have hL' : L'.length = n := by rw [List.length_cons] at hL; omega
    obtain ⟨hw1, hw2, hw3⟩ := hWL
    rw [hL'] at hw1
    have hop := rk_op hw2
    have ew : (m.1 70 50).toInt = wtg m := rfl
    have ec : (m.1 70 46).toInt = cds m := rfl
    have f := dSubE (X := wtg m) (Y := 1) (x := m.1 70 50) (y := (1 : Int32)) rfl (by decide) (by omega) (by omega)
    have ei : (m.1 70 50 - (1 : Int32)).toNatClampNeg = n := by
      have := d_cl (x := m.1 70 50 - (1 : Int32)) (by omega)
      omega
    have stay : (w = 40 ∨ (xsT x1 = true ∧ (w = 43 ∨ w = 45))) → c ≤ 1 → (x1.toInt = 0 → c = 0) → j_X12_comesOut_70_41 2 m Q := fun hst h1 h2 => v_X12_comesOut_70_41 (hQ m (n + 1) p c q ⟨fun _ _ _ _ => rfl, fun _ _ _ => rfl, fun _ _ => ⟨rfl, rfl⟩⟩ hw hW h1 h2 hc hD rfl (Nat.le_refl _) rfl (by unfold xO; rw [fl_s hst]; exact ⟨hL, hu, ⟨by rw [hL']; exact hw1, hw2, hw3⟩, hSR⟩))
    have out : ∀ (p1 c1 : Nat), p = p1 + 1 → Wk (m.1 104) n o p1 c1 → ¬ (w = 40 ∨ (xsT x1 = true ∧ (w = 43 ∨ w = 45))) → ∀ code : Int32, 2 ≤ code.toInt ∧ code.toInt ≤ 5 → opc w = code - 2 → c_X12_emit_70 1 code (0 : Int32) (dSet m 70 50 ((m.1 70 50) - (1 : Int32))) (fun m1 => j_X12_comesOut_70_0 2 x1 m1 Q) := by
      intro p1 c1 hp hW1 hst code hcode hopc
      refine v_X12_emit_70 ?_
      have ec' : ((dSet m 70 50 ((m.1 70 50) - (1 : Int32))).1 70 46) = m.1 70 46 := rfl
      rw [ec']
      have fc := dAddE (X := cds m) (Y := 1) (x := m.1 70 46) (y := (1 : Int32)) rfl (by decide) (by omega) (by omega)
      have eC : (m.1 70 46).toNatClampNeg = c0 + q := by
        have := d_cl (x := m.1 70 46) (by omega)
        omega
      refine ⟨by omega, ⟨by omega, ?_⟩⟩
      rw [eC]
      have r2 : ∀ j, j ≠ c0 + q → (dSet (dSet (dSet (dSet m 70 50 ((m.1 70 50) - (1 : Int32))) 102 (c0 + q) code) 103 (c0 + q) (0 : Int32)) 70 46 ((m.1 70 46) + (1 : Int32))).1 102 j = m.1 102 j ∧ (dSet (dSet (dSet (dSet m 70 50 ((m.1 70 50) - (1 : Int32))) 102 (c0 + q) code) 103 (c0 + q) (0 : Int32)) 70 46 ((m.1 70 46) + (1 : Int32))).1 103 j = m.1 103 j := fun j hj => by
        constructor
        · rw [dSet_k (by decide), dSet_k (by decide), dSet_j hj, dSet_k (by decide)]
        · rw [dSet_k (by decide), dSet_j hj, dSet_k (by decide), dSet_k (by decide)]
      have r1 : (dSet (dSet (dSet (dSet m 70 50 ((m.1 70 50) - (1 : Int32))) 102 (c0 + q) code) 103 (c0 + q) (0 : Int32)) 70 46 ((m.1 70 46) + (1 : Int32))).1 102 (c0 + q) = code := by rw [dSet_k (by decide), dSet_k (by decide), dSet_s]
      have r3 : (dSet (dSet (dSet (dSet m 70 50 ((m.1 70 50) - (1 : Int32))) 102 (c0 + q) code) 103 (c0 + q) (0 : Int32)) 70 46 ((m.1 70 46) + (1 : Int32))).1 103 (c0 + q) = 0 := by rw [dSet_k (by decide), dSet_s]
      generalize hM : (dSet (dSet (dSet (dSet m 70 50 ((m.1 70 50) - (1 : Int32))) 102 (c0 + q) code) 103 (c0 + q) (0 : Int32)) 70 46 ((m.1 70 46) + (1 : Int32))) = M at r1 r2 r3 ⊢
      have w1 : wtg M = n := by rw [← hM]; show (m.1 70 50 - (1 : Int32)).toInt = n; omega
      have w2 : cds M = c0 + (q + 1 : Nat) := by rw [← hM]; show (m.1 70 46 + (1 : Int32)).toInt = _; omega
      have w5 : M.2 = m.2 := by rw [← hM]; rfl
      have w3 : ∀ k : Nat, k ≠ 70 → k ≠ 102 → k ≠ 103 → M.1 k = m.1 k := fun k h1 h2 h3 => by rw [← hM, dSet_k h1, dSet_k h3, dSet_k h2, dSet_k h1]
      have w4 : ∀ j : Nat, j ≠ 46 → j ≠ 50 → M.1 70 j = m.1 70 j := fun j h1 h2 => by rw [← hM, dSet_j h1, dSet_k (by decide), dSet_k (by decide), dSet_j h2]
      have hD1 : gDp M.1 (q + 1) c0 0 (p1 + 1) := by
        refine gDp_op (gDp_congr (fun j h1 h2 => r2 j (by omega)) (by rw [← hp]; exact hD)) ?_ (by omega)
        rw [r1]; exact hcode
      have hS1 : SR M c0 (u ++ [opc w]) := by
        refine (hSR.on (fun j _ h2 => r2 j (by omega))).snoc (by omega) ?_
        rw [hu, r1, r3]
        exact xcd hcode hopc
      refine ih M o p1 c1 (q + 1) L' (u ++ [opc w]) (by omega) w1 (by rw [w3 104 (by decide) (by decide) (by decide)]; exact hW1) w2 hD1 (by omega) hL' (by rw [List.length_append, hu]; rfl) (by rw [w3 104 (by decide) (by decide) (by decide)]; exact hw3) hS1 ?_
      intro m' n' p' c' q' hF a1 a2 a3 a4 a5 a6 a7 a8 a9 a10
      refine hQ m' n' p' c' q' ⟨fun k h1 h2 h3 => (hF.1 k h1 h2 h3).trans (w3 k h1 h2 h3), fun j h1 h2 => (hF.2.1 j h1 h2).trans (w4 j h1 h2), fun j hj => ?_⟩ a1 a2 a3 a4 a5 a6 (by omega) (by omega) (a9.trans w5) (by unfold xO; rw [fl_w hst]; exact a10)
      have g1 := hF.2.2 j (by omega)
      have g2 := r2 j (by omega)
      exact ⟨g1.1.trans g2.1, g1.2.trans g2.2⟩
    refine v_X12_comesOut_70_0 ⟨fun h => by have h : wtg m ≤ 0 := h; exfalso; omega, fun _ => ⟨by omega, ?_⟩⟩
    rw [ei]
    have hW0 := hW
    unfold Wk at hW0
    rcases hW0 with ⟨a, b, o', c', d, w'⟩ | ⟨a, b, p', d, w'⟩ | ⟨a, b, p', c', d, i, w'⟩
    · exact ⟨fun _ => stay (Or.inl (by omega)) (by omega) (fun _ => b), fun h => absurd a h⟩
    · have w35 : w = 43 ∨ w = 45 := by omega
      have em : ∀ y : Int32, x1.toInt = 0 → y = m.1 104 n → j_X12_comesOut_70_42 2 x1 y m Q := fun y hx hy => by
        subst hy
        have hst : ¬ (w = 40 ∨ (xsT x1 = true ∧ (w = 43 ∨ w = 45))) := fun q => by
          rcases q with q | q
          · omega
          · exact of_decide_eq_true q.1 hx
        refine v_X12_comesOut_70_42 ⟨fun n8 => ⟨fun n9 => by exfalso; omega, fun n9 => out p' 0 d w' hst _ (by decide) (by unfold opc; rw [if_neg (by omega), if_pos (by omega)]; decide)⟩, fun n8 => out p' 0 d w' hst _ (by decide) (by unfold opc; rw [if_pos (by omega)]; decide)⟩
      have xst : x1.toInt ≠ 0 → xsT x1 = true := fun q => decide_eq_true q
      refine ⟨fun h => by exfalso; omega, fun _ => ⟨fun hx => em _ hx rfl, fun hx => ⟨fun _ => stay (Or.inr ⟨xst hx, w35⟩) (by omega) (fun h => absurd h hx), fun h8 => ⟨fun h9 => by exfalso; omega, fun _ => stay (Or.inr ⟨xst hx, w35⟩) (by omega) (fun h => absurd h hx)⟩⟩⟩⟩
    · have w27 : w = 42 ∨ w = 47 := by omega
      have hst : ¬ (w = 40 ∨ (xsT x1 = true ∧ (w = 43 ∨ w = 45))) := fun q => by omega
      have em : ∀ y : Int32, y = m.1 104 n → j_X12_comesOut_70_42 2 x1 y m Q := fun y hy => by
        subst hy
        refine v_X12_comesOut_70_42 ⟨fun n8 => ⟨fun n9 => ⟨fun n10 => out p' c' d w' hst _ (by decide) (by unfold opc; rw [if_neg (by omega), if_neg (by omega), if_neg (by omega)]; decide), fun n10 => out p' c' d w' hst _ (by decide) (by unfold opc; rw [if_neg (by omega), if_neg (by omega), if_pos (by omega)]; decide)⟩, fun n9 => by exfalso; omega⟩, fun n8 => by exfalso; omega⟩
      refine ⟨fun h => by exfalso; omega, fun _ => ⟨fun _ => em _ rfl, fun hx => ⟨fun h => by exfalso; omega, fun h8 => ⟨fun h9 => em _ rfl, fun h => by exfalso; omega⟩⟩⟩⟩
section RXC
variable {K : Nat → Int} {V : Nat → Int64} {P : Nat → Nat} {r W : gR} {me : dM} {s : Nat} {T : gR} {SX : lC}
/-- the waits and the codes, told -/
def WCt (me m : dM) (o p : Nat) (L : List Int) (u : lC) : Prop := L.length = o + p ∧ wL (m.1 104) L ∧ cds m = cds me + (u.length : Int) ∧ SR m (cds me).toNat u
theorem WCt.mv {m m' : dM} {o p : Nat} {L : List Int} {u : lC} {k : Int} (h : WCt me m o p L u) (hm : Mv k m m') : WCt me m' o p L u := by
  obtain ⟨k1, k2, k3, k4, k5⟩ := hm
  refine ⟨h.1, by rw [k1 104 (by decide)]; exact h.2.1, ?_, h.2.2.2.of (k1 102 (by decide)) (k1 103 (by decide))⟩
  unfold cds
  rw [k2 46 (by decide) (by decide) (by decide) (by decide) (by decide)]
  exact h.2.2.1
theorem rb_g {r : gR} (z : (rb r gst).1 = 0) : r.1 = 0 ∧ (rb r gst).2 = r.2 + 1 ∧ r.2 < 400 := by
  have z1 := (rb_z z).1
  rw [rb_k z1] at z ⊢
  unfold gst at z ⊢
  by_cases q : 400 ≤ r.2
  · rw [if_pos q] at z; exact absurd z (Nat.succ_ne_zero 1)
  · rw [if_neg q]; exact ⟨z1, rfl, by omega⟩
theorem xr_emit {m : dM} {o p c : Nat} {code val : Int32} {Q : dM → Prop} (hs : s ≤ 1) (hme : 420 * (s : Int) ≤ cds me) (hv : ∀ i, vk (K i)) (hR : RM K V P me) (h : ES me s m o p c p) (h2 : m.2 = me.2) (hS : ST K P m r W) (h0 : flt m = 0) {L : List Int} {u : lC} {x : Int32} (hC : WCt me m o p L u) (hcx : cR code val x) (hk : r.1 = 0 → K r.2 ≠ 24 ∧ K r.2 ≠ 25) (hcode : code.toInt < 2 ∧ (code.toInt ≠ 0 → 0 ≤ val.toInt ∧ val.toInt ≤ 8)) (hQ : ∀ m', EZ me s m' → m'.2 = me.2 → ST K P m' (rb r gst) W → (flt m' = 0 → ES me s m' o p c (p + 1) ∧ tt m + 1 ≤ tt m' ∧ WCt me m' o p L (u ++ [x])) → Q m') : c_X12_emit_70 2 code val m (fun m2 => c_X12_goesOn_70 2 m2 Q) := by
  obtain ⟨⟨x1, x2, x3, x4⟩, a2, a3, a4, a5, a6, a7, ⟨q, a8, a8'⟩, a9, a10, a11⟩ := h
  have hb := a10 h0
  obtain ⟨c1, c2, c3', c4⟩ := hC
  have eq : q = u.length := by omega
  have ec : (m.1 70 46).toInt = cds m := rfl
  have fc := dAddE (X := cds m) (Y := 1) (x := m.1 70 46) (y := (1 : Int32)) rfl (by decide) (by omega) (by omega)
  have eC : (m.1 70 46).toNatClampNeg = (cds me).toNat + q := by
    have := d_cl (x := m.1 70 46) (by omega)
    omega
  refine v_X12_emit_70 ⟨by omega, ⟨by omega, ?_⟩⟩
  rw [eC]
  have r2 : ∀ j, j ≠ (cds me).toNat + q → (dSet (dSet (dSet m 102 ((cds me).toNat + q) code) 103 ((cds me).toNat + q) val) 70 46 ((m.1 70 46) + (1 : Int32))).1 102 j = m.1 102 j ∧ (dSet (dSet (dSet m 102 ((cds me).toNat + q) code) 103 ((cds me).toNat + q) val) 70 46 ((m.1 70 46) + (1 : Int32))).1 103 j = m.1 103 j := fun j hj => by
    constructor
    · rw [dSet_k (by decide), dSet_k (by decide), dSet_j hj]
    · rw [dSet_k (by decide), dSet_j hj, dSet_k (by decide)]
  have r1 : (dSet (dSet (dSet m 102 ((cds me).toNat + q) code) 103 ((cds me).toNat + q) val) 70 46 ((m.1 70 46) + (1 : Int32))).1 102 ((cds me).toNat + q) = code := by rw [dSet_k (by decide), dSet_k (by decide), dSet_s]
  have r3 : (dSet (dSet (dSet m 102 ((cds me).toNat + q) code) 103 ((cds me).toNat + q) val) 70 46 ((m.1 70 46) + (1 : Int32))).1 103 ((cds me).toNat + q) = val := by rw [dSet_k (by decide), dSet_s]
  generalize hM : (dSet (dSet (dSet m 102 ((cds me).toNat + q) code) 103 ((cds me).toNat + q) val) 70 46 ((m.1 70 46) + (1 : Int32))) = M at r1 r2 r3 ⊢
  have w2 : cds M = cds me + (q + 1 : Nat) := by rw [← hM]; show (m.1 70 46 + (1 : Int32)).toInt = _; omega
  have w3 : ∀ k : Nat, k ≠ 70 → k ≠ 102 → k ≠ 103 → M.1 k = m.1 k := fun k h1 h2 h3 => by rw [← hM, dSet_k h1, dSet_k h3, dSet_k h2]
  have w4 : ∀ j : Nat, j ≠ 46 → M.1 70 j = m.1 70 j := fun j h1 => by rw [← hM, dSet_j h1, dSet_k (by decide), dSet_k (by decide)]
  have t1 : tt M = tt m := by unfold tt; rw [w4 11 (by decide)]
  have f1 : flt M = flt m := by unfold flt; rw [w4 13 (by decide)]
  have u1 : wst M = wst m := by unfold wst; rw [w4 15 (by decide)]
  have hD1 : gDp M.1 (q + 1) (cds me).toNat 0 (p + 1) := gDp_push (gDp_congr (fun j h1 h2 => r2 j (by omega)) a8') (by rw [r1]; exact hcode.1) (by rw [r1, r3]; exact hcode.2)
  have w5 : M.2 = m.2 := by rw [← hM]; rfl
  have hS1 : SR M (cds me).toNat (u ++ [x]) := by
    refine (c4.on (fun j _ h2 => r2 j (by omega))).snoc (by omega) ?_
    rw [← eq, r1, r3]
    exact hcx
  have XM : XF me s M := by
    refine ⟨fun k b1 b2 b3 b4 => (w3 k b1 b2 b3).trans (x1 k b1 b2 b3 b4), fun j b1 b2 b3 b4 b5 b6 b7 b8 => (w4 j b7).trans (x2 j b1 b2 b3 b4 b5 b6 b7 b8), fun j hj => ?_, x4.tr (Wz.eq u1)⟩
    have g2 := r2 j (by omega)
    have g3 := x3 j hj
    exact ⟨g2.1.trans g3.1, g2.2.trans g3.2⟩
  have SM : ST K P M r W := hS.of (w4 11 (by decide)) (w4 13 (by decide)) (w4 14 (by decide)) (w4 15 (by decide)) (w4 16 (by decide))
  refine r_goesOn (hR.xf XM (w5.trans h2)) SM hk (fun m3 h3 g3 S3 => ?_)
  obtain ⟨k1, k2, k3, k4, k5⟩ := h3
  have e46 : m3.1 70 46 = M.1 70 46 := k2 46 (by decide) (by decide) (by decide) (by decide) (by decide)
  have c3 : cds m3 = cds M := by unfold cds; rw [e46]
  have X3 : XF me s m3 := by
    refine ⟨fun k b1 b2 b3 b4 => (k1 k b1).trans ((w3 k b1 b2 b3).trans (x1 k b1 b2 b3 b4)), fun j b1 b2 b3 b4 b5 b6 b7 b8 => (k2 j b1 b3 b4 b5 b6).trans ((w4 j b7).trans (x2 j b1 b2 b3 b4 b5 b6 b7 b8)), fun j hj => ?_, x4.tr ((Wz.eq u1).tr k5)⟩
    rw [k1 102 (by decide), k1 103 (by decide)]
    have g2 := r2 j (by omega)
    have g3 := x3 j hj
    exact ⟨g2.1.trans g3.1, g2.2.trans g3.2⟩
  have hf3 : 0 ≤ flt m3 := by rcases k4 with z | z <;> omega
  have ht3 : tt m ≤ tt m3 := by rcases k4 with z | z <;> omega
  refine hQ m3 ⟨X3, k3, by omega, hf3, by omega, by omega⟩ (g3.trans (w5.trans h2)) S3 (fun hz => ?_)
  have ht4 : tt m3 = tt m + 1 := by rcases k4 with z | z <;> omega
  refine ⟨⟨X3, k3, by omega, hf3, ?_, ?_, ?_, ⟨q + 1, by omega, gDp_congr (fun j _ _ => by rw [k1 102 (by decide), k1 103 (by decide)]; exact ⟨rfl, rfl⟩) hD1⟩, by omega, fun _ => by omega, a11⟩, by omega, c1, by rw [k1 104 (by decide), w3 104 (by decide) (by decide) (by decide)]; exact c2, by rw [List.length_append]; show cds m3 = cds me + ((u.length + 1 : Nat) : Int); omega, hS1.of (k1 102 (by decide)) (k1 103 (by decide))⟩
  · unfold opn; rw [k2 12 (by decide) (by decide) (by decide) (by decide) (by decide), w4 12 (by decide)]; exact a5
  · unfold wtg; rw [k2 50 (by decide) (by decide) (by decide) (by decide) (by decide), w4 50 (by decide)]; exact a6
  · rw [k1 104 (by decide), w3 104 (by decide) (by decide) (by decide)]; exact a7
theorem xr_unit {m : dM} {o p c : Nat} {Q : dM → Prop} (hs : s ≤ 1) (hme : 420 * (s : Int) ≤ cds me) (hv : ∀ i, vk (K i)) (hR : RM K V P me) (h : ES me s m o p c p) (h2 : m.2 = me.2) (hS : ST K P m r W) (hT : TG K o false r T) (hV : ∀ n : Nat, K n = 23 → 0 ≤ (V n).toInt32.toInt ∧ (V n).toInt32.toInt ≤ 9999) {L : List Int} {u : lC} (hC : WCt me m o p L u) (hY : r.1 = 0 → sY K V o false r.2 L u = SX) (h40 : ¬ (r.1 = 0 ∧ K r.2 = 40)) (hQ : ∀ (m' : dM) (r' : gR), EZ me s m' → m'.2 = me.2 → ST K P m' r' W → TG K o true r' T → (flt m' = 0 → ES me s m' o p c (p + 1) ∧ flt m = 0 ∧ tt m + 1 ≤ tt m' ∧ ∃ u' : lC, WCt me m' o p L u' ∧ sY K V o true r'.2 L u' = SX) → Q m') : c_X12_unit_70 3 m Q := by
  have a2 := h.2.1
  have a4 := h.2.2.2.1
  have hRm := hR.xf h.1 h2
  have hf := hS.fl
  have bad : (r.1 = 0 → ¬ (K r.2 = 23 ∨ (13 ≤ K r.2 ∧ K r.2 ≤ 21))) → j_X12_unit_70_88 3 m Q := fun hn => by
    refine v_X12_unit_70_88 ?_
    refine Wp.deep (r_fail hRm hS (c := 1) (by decide) (by decide) (fun m' h' g' S' => v_X12_unit_70_93 (hQ m' _ (h.mv h' (by decide)).z (g'.trans h2) S' ?_ (fun h0 => ?_)))) (Nat.le_of_ble_eq_true rfl)
    · by_cases z : r.1 = 0
      · rw [if_pos z]
        refine ⟨fun q => absurd q (Nat.succ_ne_zero 0), fun _ => ?_⟩
        have e := hT.1 z
        rw [gX_U (hS.1 z).2.2.1, if_neg (hn z), if_neg (fun q => h40 ⟨z, q⟩)] at e
        exact e
      · rw [if_neg z]
        exact ⟨fun q => absurd q z, hT.2⟩
    · exfalso
      have := S'.fl.2.mp h0
      by_cases z : r.1 = 0
      · rw [if_pos z] at this; exact absurd this (Nat.succ_ne_zero 0)
      · rw [if_neg z] at this; exact z this
  have tr : (0 ≤ (m.1 70 11).toInt ∧ (m.1 70 11).toInt < 403) := ⟨a2.1, by have := a2.2; unfold tt at this; omega⟩
  have goes : ∀ (z : r.1 = 0) (hu : K r.2 = 23 ∨ (13 ≤ K r.2 ∧ K r.2 ≤ 21)), TG K o true (rb r gst) T := fun z hu => by
    have e := hT.1 z
    rw [gX_U (hS.1 z).2.2.1, if_pos hu] at e
    rw [rb_k z]
    unfold gst
    by_cases q : 400 ≤ r.2
    · rw [if_pos q] at e ⊢
      exact ⟨fun w => absurd w (Nat.succ_ne_zero 1), fun _ => e⟩
    · rw [if_neg q] at e ⊢
      exact ⟨fun _ => e, fun w => absurd rfl w⟩
  refine v_X12_unit_70 ?_
  refine Wp.deep (q_is (k := 23) hv hRm hS (by decide) (by unfold vk; omega) (fun h1 hk => ⟨fun q => absurd q (by decide), fun _ => ⟨tr, ?_⟩⟩) (fun h1 => ⟨fun _ => ⟨fun q => bad (fun z => absurd (hf.2.mpr z) q), fun h0 => ⟨tr, fun _ => bad ?_, fun hk => ⟨tr, fun _ => bad ?_, fun hk2 => ⟨tr, ?_⟩⟩⟩⟩, fun q => absurd rfl q⟩)) (Nat.le_of_ble_eq_true rfl)
  · exact xr_emit hs hme hv hR h h2 hS (hf.2.mpr h1) hC (x := 13 + (V r.2).toInt32) (by
      have b2 := (hS.1 h1).2
      rw [d_cn (show (m.1 70 11).toInt = (r.2 : Int) from b2.1), (hRm r.2 b2.2.1 b2.2.2.1).2.2.2 hk]
      exact Or.inl ⟨by decide, rfl, hV r.2 hk⟩) (fun _ => by omega) ⟨by decide, fun q => absurd rfl q⟩ (fun m' z g' S' e => v_X12_unit_70_93 (hQ m' _ z g' S' (goes h1 (Or.inl hk)) (fun h0 => ⟨(e h0).1, hf.2.mpr h1, (e h0).2.1, _, (e h0).2.2, by
        obtain ⟨y1, y2, y3⟩ := rb_g (S'.fl.2.mp h0)
        rw [y2, ← hY y1, sY_U (Nat.le_of_lt y3), if_pos hk]⟩)))
  all_goals
    have h0 : flt m = 0 := h0
    have z := hf.2.mp h0
    obtain ⟨b1, b2, b3, b4, b5⟩ := hS.1 z
    have ek : (m.1 73 (m.1 70 11).toNatClampNeg).toInt = rk (K r.2) := by
      rw [d_cn (show (m.1 70 11).toInt = (r.2 : Int) from b2)]
      exact (hRm r.2 b3 b4).1
    have ra := rk_rg (hv r.2)
    have ra1 := ra.1
    have ra2 := ra.2.1
    have n23 : K r.2 ≠ 23 := fun q => h1 ⟨z, q⟩
  · intro _ hu
    have := ra2 (by omega)
    omega
  · have := ra.2.2
    exfalso
    omega
  · have f := dSubE (X := (m.1 73 (m.1 70 11).toNatClampNeg).toInt) (Y := 33) (x := m.1 73 (m.1 70 11).toNatClampNeg) (y := (33 : Int32)) rfl (by decide) (by omega) (by omega)
    have hu : 13 ≤ K r.2 ∧ K r.2 ≤ 21 := by
      have := ra1 (by omega)
      have := ra2 this
      omega
    exact xr_emit hs hme hv hR h h2 hS h0 hC (x := vcd (K r.2)) (by
      have ra3 := ra2 (by omega)
      refine Or.inr (Or.inl ⟨by decide, ?_, by omega, by omega⟩)
      apply Int32.toInt_inj.mp
      have fa := dAddE (X := 4) (Y := (m.1 73 (m.1 70 11).toNatClampNeg - (33 : Int32)).toInt) (x := (4 : Int32)) (y := m.1 73 (m.1 70 11).toNatClampNeg - (33 : Int32)) (by decide) rfl (by omega) (by omega)
      have := vcd_i hu
      omega) (fun _ => by omega) ⟨by decide, fun _ => by omega⟩ (fun m' z g' S' e => v_X12_unit_70_93 (hQ m' _ z g' S' (goes (hf.2.mp h0) (Or.inr hu)) (fun h0' => ⟨(e h0').1, h0, (e h0').2.1, _, (e h0').2.2, by
        obtain ⟨y1, y2, y3⟩ := rb_g (S'.fl.2.mp h0')
        rw [y2, ← hY y1, sY_U (Nat.le_of_lt y3), if_neg n23, if_pos hu]⟩)))
theorem xr_out {m : dM} {o p c : Nat} {x : Int32} {Q : dM → Prop} (hs : s ≤ 1) (hme : 420 * (s : Int) ≤ cds me) (h : ES me s m o p c (p + 1)) (h2 : m.2 = me.2) (hS : ST K P m r W) {L : List Int} {u : lC} (hC : WCt me m o p L u) (hQ : ∀ (m' : dM) (p' c' : Nat), ES me s m' o p' c' (p' + 1) → c' ≤ 1 → (x.toInt = 0 → c' = 0) → tt m' = tt m → flt m' = flt m → m'.1 73 = m.1 73 → m'.1 70 11 = m.1 70 11 → m'.2 = me.2 → ST K P m' r W → WCt me m' o p' (fl (xsT x) L u).1 (fl (xsT x) L u).2 → Q m') : c_X12_comesOut_70 2 x m Q := by
  obtain ⟨⟨x1, x2, x3, x4⟩, a2, a3, a4, a5, a6, a7, ⟨q, a8, a8'⟩, a9, a10, a11⟩ := h
  obtain ⟨c1, c2, c3', c4⟩ := hC
  have eq : u.length = q := by omega
  have hl := Wk_len a7
  have h0 : (cds m) = ((cds me).toNat : Int) + q := by omega
  refine xo_1 (c0 := (cds me).toNat) (B := 420 * s + 401) (by omega) (o + p) m o p c q L u (by omega) a6 a7 h0 a8' a9 c1 eq c2 c4 ?_
  intro m' n' p' c' q' hF b1 b2 b3 b4 b5 b6 b7 b8 b9 b10
  have hl' := Wk_len b2
  have t1 : tt m' = tt m := by unfold tt; rw [hF.2.1 11 (by decide) (by decide)]
  have f1 : flt m' = flt m := by unfold flt; rw [hF.2.1 13 (by decide) (by decide)]
  have u1 : wst m' = wst m := by unfold wst; rw [hF.2.1 15 (by decide) (by decide)]
  have o1 : opn m' = o := by unfold opn; rw [hF.2.1 12 (by decide) (by decide)]; exact a5
  refine hQ m' p' c' ⟨⟨fun k e1 e2 e3 e4 => (hF.1 k e1 e2 e3).trans (x1 k e1 e2 e3 e4), fun j e1 e2 e3 e4 e5 e6 e7 e8 => (hF.2.1 j e7 e8).trans (x2 j e1 e2 e3 e4 e5 e6 e7 e8), fun j hj => ?_, x4.tr (Wz.eq u1)⟩, by omega, by omega, by omega, o1, by rw [← hl'.1]; exact b1, by rw [← hl'.1]; exact b2, ⟨q', by omega, b6⟩, by omega, fun hz => ?_, a11⟩ b3 b4 t1 f1 (hF.1 73 (by decide) (by decide) (by decide)) (hF.2.1 11 (by decide) (by decide)) (b9.trans h2) (hS.of (hF.2.1 11 (by decide) (by decide)) (hF.2.1 13 (by decide) (by decide)) (hF.2.1 14 (by decide) (by decide)) (hF.2.1 15 (by decide) (by decide)) (hF.2.1 16 (by decide) (by decide))) ⟨by rw [b10.1]; exact hl'.1, b10.2.2.1, by rw [b10.2.1]; omega, b10.2.2.2⟩
  · have g1 := hF.2.2 j (by omega)
    have g2 := x3 j hj
    exact ⟨g1.1.trans g2.1, g1.2.trans g2.2⟩
  · have := a10 (by omega)
    omega
theorem xr_204 {m : dM} {o p c : Nat} {Q : dM → Prop} (hs : s ≤ 1) (hme : 420 * (s : Int) ≤ cds me) (hQ : ∀ m', EQ me s m' → m'.2 = me.2 → ST K P m' T W → (flt m' = 0 → cds m' = cds me + (SX.length : Int) ∧ SR m' (cds me).toNat SX) → Q m') (h : ES me s m o p c (p + 1)) (h2 : m.2 = me.2) (hS : ST K P m T W) (hz : flt m = 0 → o = 0 ∧ tt me + 1 ≤ tt m) {L : List Int} {u : lC} (hC : WCt me m o p L u) (hX : flt m = 0 → (fl false L u).2 = SX) : j_X12_expression_70_204 4 m Q := by
  refine v_X12_expression_70_204 ?_
  refine Wp.deep (xr_out hs hme h h2 hS hC (fun m' p' c' h' b1 b2 b3 b4 _ _ g' S' C' => hQ m' ⟨h'.z, fun h0 => ?_⟩ g' S' (fun h0 => ?_))) (Nat.le_of_ble_eq_true rfl)
  · have hz := hz (by omega)
    have ho := hz.1
    subst ho
    obtain ⟨-, a2, a3, a4, a5, a6, a7, ⟨q, a8, a8'⟩, a9, a10, a11⟩ := h'
    have hl := Wk_len a7
    have hp : p' = 0 := by have := b2 (by decide); omega
    subst hp
    have hb := a10 h0
    refine ⟨by omega, by omega, by omega, by omega, by omega, by omega, by omega, ?_⟩
    rw [show (cds m' - cds me).toNat = q by omega]
    exact gDp_seg a8'
  · have e := hX (by omega)
    have e0 : xsT (0 : Int32) = false := by decide
    rw [e0, e] at C'
    exact C'.2.2
/-- a sign is pushed, and it goes on -/
theorem xr_push {m : dM} {o p c cn : Nat} {Q : dM → Prop} (hs : s ≤ 1) (hR : RM K V P me) (h : ES me s m o p c (p + 1)) (h2 : m.2 = me.2) (hS : ST K P m r W) (hk : r.1 = 0 → K r.2 ≠ 24 ∧ K r.2 ≠ 25) (h0 : flt m = 0) {L : List Int} {u : lC} {w : Int} (hC : WCt me m o p L u) (hw : (m.1 73 (m.1 70 11).toNatClampNeg).toInt = rk w ∧ (w = 40 ∨ w = 43 ∨ w = 45 ∨ w = 42 ∨ w = 47)) (hW : Wk (upd (m.1 104) (o + p) (m.1 73 (m.1 70 11).toNatClampNeg)) (o + p + 1) o (p + 1) cn) (hQ : ∀ m', ES me s m' o (p + 1) cn (p + 1) → Mv 1 m m' ∨ tt m + 1 ≤ tt m' ∨ 0 < flt m' → (flt m' = 0 → tt m' = tt m + 1) → m'.2 = me.2 → ST K P m' (rb r gst) W → WCt me m' o (p + 1) (w :: L) u → Q m') : (0 ≤ (m.1 70 11).toInt ∧ (m.1 70 11).toInt < 403) ∧ (0 ≤ (m.1 70 50).toInt ∧ (m.1 70 50).toInt < 64) ∧ c_X12_goesOn_70 3 (dSet (dSet m 104 (m.1 70 50).toNatClampNeg (m.1 73 (m.1 70 11).toNatClampNeg)) 70 50 ((m.1 70 50) + (1 : Int32))) Q := by
  obtain ⟨⟨x1, x2, x3, x4⟩, a2, a3, a4, a5, a6, a7, ⟨q, a8, a8'⟩, a9, a10, a11⟩ := h
  have hl := Wk_len a7
  have ew : (m.1 70 50).toInt = wtg m := rfl
  have et : (m.1 70 11).toInt = tt m := rfl
  have eW : (m.1 70 50).toNatClampNeg = o + p := by
    have := d_cl (x := m.1 70 50) (by omega)
    omega
  have fw := dAddE (X := wtg m) (Y := 1) (x := m.1 70 50) (y := (1 : Int32)) rfl (by decide) (by omega) (by omega)
  have hb := a10 h0
  refine ⟨by omega, by omega, ?_⟩
  rw [eW]
  have XM : XF me s (dSet (dSet m 104 (o + p) (m.1 73 (m.1 70 11).toNatClampNeg)) 70 50 ((m.1 70 50) + (1 : Int32))) := ⟨fun k e1 e2 e3 e4 => by rw [dSet_k e1, dSet_k e4]; exact x1 k e1 e2 e3 e4, fun j e1 e2 e3 e4 e5 e6 e7 e8 => by rw [dSet_j e8, dSet_k (by decide)]; exact x2 j e1 e2 e3 e4 e5 e6 e7 e8, fun j hj => x3 j hj, x4⟩
  refine Wp.deep (r_goesOn (m := dSet (dSet m 104 (o + p) (m.1 73 (m.1 70 11).toNatClampNeg)) 70 50 ((m.1 70 50) + (1 : Int32))) (hR.xf XM h2) (hS.of rfl rfl rfl rfl rfl) hk (fun m3 h3 g3 S3 => ?_)) (Nat.le_of_ble_eq_true rfl)
  obtain ⟨k1, k2, k3, k4, k5⟩ := h3
  have k4 : (flt m = 0 ∧ flt m3 = 0 ∧ tt m3 = tt m + 1) ∨ (0 < flt m3 ∧ tt m ≤ tt m3 ∧ tt m3 ≤ tt m + 1) := k4
  have k5 : Wz m m3 := k5
  have hf3 : 0 ≤ flt m3 := by rcases k4 with z | z <;> omega
  have ht3 : tt m ≤ tt m3 := by rcases k4 with z | z <;> omega
  have e46 : m3.1 70 46 = m.1 70 46 := k2 46 (by decide) (by decide) (by decide) (by decide) (by decide)
  have c3 : cds m3 = cds m := by unfold cds; rw [e46]
  refine hQ m3 ⟨⟨fun k e1 e2 e3 e4 => (k1 k e1).trans (by rw [dSet_k e1, dSet_k e4]; exact x1 k e1 e2 e3 e4), fun j e1 e2 e3 e4 e5 e6 e7 e8 => (k2 j e1 e3 e4 e5 e6).trans (by rw [dSet_j e8, dSet_k (by decide)]; exact x2 j e1 e2 e3 e4 e5 e6 e7 e8), fun j hj => ?_, x4.tr k5⟩, k3, by omega, hf3, ?_, ?_, ?_, ⟨q, by omega, gDp_congr (fun j _ _ => by rw [k1 102 (by decide), k1 103 (by decide)]; exact ⟨rfl, rfl⟩) a8'⟩, by omega, fun hz => ?_, a11⟩ ?_ (fun hz => by rcases k4 with z | z <;> omega) (g3.trans h2) S3 ?_
  · rw [k1 102 (by decide), k1 103 (by decide)]; exact x3 j hj
  · unfold opn; rw [k2 12 (by decide) (by decide) (by decide) (by decide) (by decide)]; exact a5
  · unfold wtg; rw [k2 50 (by decide) (by decide) (by decide) (by decide) (by decide)]; show (m.1 70 50 + (1 : Int32)).toInt = _; omega
  · rw [k1 104 (by decide), dSet_k (by decide), dSet_f, show o + (p + 1) = o + p + 1 by omega]; exact hW
  · rcases k4 with z | z <;> omega
  · right
    rcases k4 with z | z <;> omega
  · obtain ⟨c1, c2, c3', c4⟩ := hC
    refine ⟨by rw [List.length_cons, c1]; omega, ?_, by omega, c4.on (fun j _ _ => by rw [k1 102 (by decide), k1 103 (by decide)]; exact ⟨rfl, rfl⟩)⟩
    rw [k1 104 (by decide), dSet_k (by decide), dSet_f]
    refine ⟨by rw [c1]; unfold upd; rw [if_pos rfl]; exact hw.1, hw.2, wL_of L (fun j hj => ?_) c2⟩
    unfold upd
    rw [if_neg (by omega)]
end RXC
end
section
/-! THE REFERENCE's expression: the codes that it puts, from its start to its end -/
section RXM
variable {K : Nat → Int} {V : Nat → Int64} {P : Nat → Nat} {W : gR} {me : dM} {s : Nat} {T : gR} {SX : lC}
def GXx (K : Nat → Int) (V : Nat → Int64) (P : Nat → Nat) (me : dM) (s : Nat) (SX : lC) (L : List Int) (u : lC) (m : dM) (o p c D : Nat) (ph : Bool) (r T W : gR) : Prop := GX K P me s m o p c D ph r T W ∧ WCt me m o p L u ∧ (r.1 = 0 → sY K V o ph r.2 L u = SX)
theorem xr_main {Q : dM → Prop} (hs : s ≤ 1) (hme : 420 * (s : Int) ≤ cds me) (hv : ∀ i, vk (K i)) (hR : RM K V P me) (hV : ∀ n : Nat, K n = 23 → 0 ≤ (V n).toInt32.toInt ∧ (V n).toInt32.toInt ≤ 9999) (hQ : ∀ m', EQ me s m' → m'.2 = me.2 → ST K P m' T W → (flt m' = 0 → cds m' = cds me + (SX.length : Int) ∧ SR m' (cds me).toNat SX) → Q m') : ∀ n : Nat,
    (∀ (x1 : Int32) (m : dM) (o p c : Nat) (r : gR) (L : List Int) (u : lC), x1.toInt = 0 → GXx K V P me s SX L u m o p c p false r T W → mu m 6 3 n → j_X12_expression_70_12 4 x1 (1 : Int32) m Q) ∧
    (∀ (x1 : Int32) (m : dM) (o p c : Nat) (r : gR) (L : List Int) (u : lC), x1.toInt = 0 → GXx K V P me s SX L u m o p c p false r T W → mu m 5 3 n → j_X12_expression_70_23 4 x1 m Q) ∧
    (∀ (x1 : Int32) (m : dM) (o p c : Nat) (r : gR) (L : List Int) (u : lC), x1.toInt = 0 → GXx K V P me s SX L u m o p c p false r T W → o ≤ 6 → (flt m = 0 → o ≤ 5) → (r.1 = 0 → K r.2 = 40) → mu m 4 4 n → j_X12_expression_70_46 4 x1 m Q) ∧
    (∀ (x1 : Int32) (m : dM) (o p c : Nat) (r : gR) (L : List Int) (u : lC), x1.toInt = 0 → GXx K V P me s SX L u m o p c (p + 1) true r T W → (flt m = 0 → tt me + 1 ≤ tt m) → mu m 6 3 n → j_X12_expression_70_96 4 x1 m Q) ∧
    (∀ (x1 : Int32) (m : dM) (o p c : Nat) (r : gR) (L : List Int) (u : lC), x1.toInt = 0 → GXx K V P me s SX L u m o p c (p + 1) true r T W → (flt m = 0 → tt me + 1 ≤ tt m) → (r.1 = 0 → ¬ (K r.2 = 41 ∧ 0 < o)) → mu m 5 2 n → j_X12_expression_70_145 4 x1 m Q) ∧
    (∀ (x1 : Int32) (m : dM) (o p c : Nat) (r : gR) (L : List Int) (u : lC), x1.toInt = 0 → GXx K V P me s SX L u m o p c (p + 1) true r T W → r.1 = 0 → tt me + 1 ≤ tt m → (K r.2 = 43 ∨ K r.2 = 45 ∨ K r.2 = 42 ∨ K r.2 = 47) → mu m 4 0 n → j_X12_expression_70_181 4 x1 m Q) := by
  intro n
  induction n with
  | zero =>
    refine ⟨fun x1 m o p c r L u hx h hμ => ?_, fun x1 m o p c r L u hx h hμ => ?_, fun x1 m o p c r L u hx h h6 h5 h40 hμ => ?_, fun x1 m o p c r L u hx h ht hμ => ?_, fun x1 m o p c r L u hx h ht h41 hμ => ?_, fun x1 m o p c r L u hx h h0 ht hk hμ => ?_⟩ <;> (have := h.1.1.2.1; exfalso; rcases hμ with q | q <;> omega)
  | succ n ih =>
    refine ⟨fun x1 m o p c r L u hx h hμ => ?_, fun x1 m o p c r L u hx h hμ => ?_, fun x1 m o p c r L u hx h h6 h5 h40 hμ => ?_, fun x1 m o p c r L u hx h ht hμ => ?_, fun x1 m o p c r L u hx h ht h41 hμ => ?_, fun x1 m o p c r L u hx h h0 ht hk hμ => ?_⟩
    · -- 12
      have hfl := h.1.2.2.1.fl
      have bad : flt m ≠ 0 → j_X12_expression_70_272 4 m Q := fun hf => v_X12_expression_70_272 (hQ m ⟨h.1.1.z, fun h0 => absurd h0 hf⟩ h.1.2.1 (by
        have z : r.1 ≠ 0 := fun z => hf (hfl.2.mpr z)
        rw [← h.1.2.2.2.2 z]; exact h.1.2.2.1) (fun h0 => absurd h0 hf))
      refine v_X12_expression_70_12 ⟨fun q => absurd q (by decide), fun _ => ⟨fun hf => bad hf, fun hf => ?_⟩⟩
      have hf : flt m = 0 := hf
      refine ih.2.1 x1 m o p c r L u hx h ?_
      left
      rcases hμ with q | q <;> omega
    · -- 23
      obtain ⟨⟨hE, h2, hS, hT⟩, hC, hY⟩ := h
      have hRm := hR.xf hE.1 h2
      have hfl := hS.fl
      refine v_X12_expression_70_23 ?_
      refine Wp.deep (q_is (k := 40) hv hRm hS (by decide) (by unfold vk; omega) (fun z hk => ⟨fun q => absurd q (by decide), fun _ => ?_⟩) (fun h1 => ⟨fun _ => ?_, fun q => absurd rfl q⟩)) (Nat.le_of_ble_eq_true rfl)
      · have h1 : flt m = 0 := hfl.2.mpr z
        have hb := hE.2.2.2.2.2.2.2.2.2.1 h1
        have eo : (m.1 70 12).toInt = o := hE.2.2.2.2.1
        refine ⟨fun hne => ?_, fun he => ?_⟩
        · refine ih.2.2.1 x1 m o p c r L u hx ⟨⟨hE, h2, hS, hT⟩, hC, hY⟩ (by omega) (fun _ => by omega) (fun _ => hk) ?_
          rcases hμ with q | q
          · left; omega
          · right; omega
        · have fa := TG.fa (o' := o) (ph' := false) (c := 2) hT (by decide) (fun _ => by rw [gX_U (hS.1 z).2.2.1, if_neg (by omega), if_pos hk, if_pos (by omega)])
          refine Wp.deep (r_fail hRm hS (c := 2) (by decide) (by decide) (fun m3 h3 g3 S3 => ?_)) (Nat.le_of_ble_eq_true rfl)
          have hf3 : flt m3 ≠ 0 := fun q => by
            have := S3.fl.2.mp q
            rw [fa.2.1] at this
            exact fa.2.2 this
          have hf4 := S3.fl.1
          refine ih.2.2.1 x1 m3 o p c _ L u hx ⟨⟨hE.mv h3 (by decide), g3.trans h2, S3, fa.1⟩, hC.mv h3, fun q => by exfalso; rw [fa.2.1] at q; exact fa.2.2 q⟩ (by omega) (fun q => by exfalso; omega) (fun q => by exfalso; rw [fa.2.1] at q; exact fa.2.2 q) ?_
          right
          have := hE.2.1
          rcases hμ with q | q <;> omega
      · refine xr_unit hs hme hv hR hE h2 hS hT hV hC hY h1 (fun m2 r2 z g2 S2 T2 e => ⟨fun hc => ?_, fun hc => ?_⟩)
        · have hc : flt m2 ≤ 0 := hc
          have h0 : flt m2 = 0 := by have := z.2.2.2.1; omega
          obtain ⟨e, e0, e1, u', C', Y'⟩ := e h0
          have e : ES me s m2 o p c (p + 1) ∧ flt m = 0 ∧ tt m + 1 ≤ tt m2 := ⟨e, e0, e1⟩
          refine ih.2.2.2.1 x1 m2 o p c r2 L u' hx ⟨⟨e.1, g2, S2, T2⟩, C', fun _ => Y'⟩ (fun _ => by have := hE.2.2.1; omega) ?_
          left
          have := hE.2.1
          rcases hμ with q | q <;> omega
        · have hc : 0 < flt m2 := hc
          have z2 : r2.1 ≠ 0 := fun q => by have := S2.fl.2.mpr q; omega
          exact hQ m2 ⟨z, fun h0 => by exfalso; omega⟩ g2 (by rw [← T2.2 z2]; exact S2) (fun h0 => by exfalso; omega)
    · -- 46
      obtain ⟨⟨hE, h2, hS, hT⟩, hC, hY⟩ := h
      have hY1 : (rb r gst).1 = 0 → sY K V (o + 1) false (rb r gst).2 (40 :: L) u = SX := fun z => by
        obtain ⟨y1, y2, y3⟩ := rb_g z
        have k40 := h40 y1
        rw [y2, ← hY y1, sY_U (Nat.le_of_lt y3), if_neg (by omega), if_neg (by omega), if_pos k40]
      obtain ⟨d1, d2, d3, d4⟩ := hC
      have hfl := hS.fl
      have hT1 : TG K (o + 1) false (rb r gst) T := hT.st (fun z => by
        have := h5 (hfl.2.mpr z)
        have k40 := h40 z
        rw [gX_U (hS.1 z).2.2.1, if_neg (by omega), if_pos k40, if_neg (by omega)])
      obtain ⟨⟨x1', x2', x3', x4'⟩, a2, a3, a4, a5, a6, a7, ⟨q, a8, a8'⟩, a9, a10, a11⟩ := hE
      have eo : (m.1 70 12).toInt = o := a5
      have fo := dAddE (X := (o : Int)) (Y := 1) (x := m.1 70 12) (y := (1 : Int32)) eo (by decide) (by omega) (by omega)
      have XM : XF me s (dSet m 70 12 ((m.1 70 12) + (1 : Int32))) := ⟨fun k e1 e2 e3 e4 => by rw [dSet_k e1]; exact x1' k e1 e2 e3 e4, fun j e1 e2 e3 e4 e5 e6 e7 e8 => by rw [dSet_j e2]; exact x2' j e1 e2 e3 e4 e5 e6 e7 e8, fun j hj => x3' j hj, x4'⟩
      refine v_X12_expression_70_46 ?_
      refine Wp.deep (r_goesOn (m := dSet m 70 12 ((m.1 70 12) + (1 : Int32))) (hR.xf XM h2) (hS.of rfl rfl rfl rfl rfl) (fun z => by have := h40 z; omega) (fun m1 h1 g1 S1 => ?_)) (Nat.le_of_ble_eq_true rfl)
      have g1 : m1.2 = m.2 := g1
      obtain ⟨k1, k2, k3, k4, k5⟩ := h1
      have k4 : (flt m = 0 ∧ flt m1 = 0 ∧ tt m1 = tt m + 1) ∨ (0 < flt m1 ∧ tt m ≤ tt m1 ∧ tt m1 ≤ tt m + 1) := k4
      have k5 : Wz m m1 := k5
      have hf1 : 0 ≤ flt m1 := by rcases k4 with z | z <;> omega
      have ht1 : tt m ≤ tt m1 := by rcases k4 with z | z <;> omega
      have hl := Wk_len a7
      have e50 : m1.1 70 50 = m.1 70 50 := k2 50 (by decide) (by decide) (by decide) (by decide) (by decide)
      have ew : (m1.1 70 50).toInt = (o + p : Nat) := by rw [e50]; exact a6
      have eW : (m1.1 70 50).toNatClampNeg = o + p := by
        have := d_cl (x := m1.1 70 50) (by omega)
        omega
      have fw := dAddE (X := ((o + p : Nat) : Int)) (Y := 1) (x := m1.1 70 50) (y := (1 : Int32)) ew (by decide) (by omega) (by omega)
      refine ⟨by omega, ?_⟩
      rw [eW]
      have e46 : m1.1 70 46 = m.1 70 46 := k2 46 (by decide) (by decide) (by decide) (by decide) (by decide)
      have c1 : cds (dSet (dSet m1 104 (o + p) (6 : Int32)) 70 50 ((m1.1 70 50) + (1 : Int32))) = cds m := by show (m1.1 70 46).toInt = _; rw [e46]; rfl
      have f1 : flt (dSet (dSet m1 104 (o + p) (6 : Int32)) 70 50 ((m1.1 70 50) + (1 : Int32))) = flt m1 := rfl
      have t1 : tt (dSet (dSet m1 104 (o + p) (6 : Int32)) 70 50 ((m1.1 70 50) + (1 : Int32))) = tt m1 := rfl
      refine ih.2.1 x1 _ (o + 1) p 0 _ (40 :: L) u hx ⟨⟨⟨⟨fun k e1 e2 e3 e4 => by rw [dSet_k e1, dSet_k e4, k1 k e1, dSet_k e1]; exact x1' k e1 e2 e3 e4, fun j e1 e2 e3 e4 e5 e6 e7 e8 => by rw [dSet_j e8, dSet_k (by decide), k2 j e1 e3 e4 e5 e6, dSet_j e2]; exact x2' j e1 e2 e3 e4 e5 e6 e7 e8, fun j hj => ?_, x4'.tr k5⟩, by omega, by omega, by omega, ?_, ?_, ?_, ⟨q, by omega, gDp_congr (fun j _ _ => ?_) a8'⟩, by omega, fun hz => ?_, by omega⟩, g1.trans h2, S1.of rfl rfl rfl rfl rfl, hT1⟩, ⟨by rw [List.length_cons, d1]; omega, ?_, by rw [c1]; exact d3, d4.on (fun j _ _ => by rw [dSet_k (by decide), dSet_k (by decide), dSet_k (by decide), dSet_k (by decide), k1 102 (by decide), k1 103 (by decide)]; exact ⟨rfl, rfl⟩)⟩, hY1⟩ ?_
      · rw [dSet_k (by decide), dSet_k (by decide), dSet_k (by decide), dSet_k (by decide), k1 102 (by decide), k1 103 (by decide)]; exact x3' j hj
      · show (m1.1 70 12).toInt = _
        rw [k2 12 (by decide) (by decide) (by decide) (by decide) (by decide)]
        show (m.1 70 12 + (1 : Int32)).toInt = _
        omega
      · show (m1.1 70 50 + (1 : Int32)).toInt = _
        omega
      · rw [dSet_k (by decide), dSet_f, show o + 1 + p = o + p + 1 by omega]
        refine Or.inl ⟨by unfold upd; rw [if_pos rfl]; decide, rfl, o, c, rfl, Wk_congr (fun j hj => ?_) a7⟩
        unfold upd
        rw [if_neg (by omega), k1 104 (by decide)]
        rfl
      · rw [dSet_k (by decide), dSet_k (by decide), dSet_k (by decide), dSet_k (by decide), k1 102 (by decide), k1 103 (by decide)]; exact ⟨rfl, rfl⟩
      · have h0 : flt m = 0 := by rcases k4 with z | z <;> omega
        have := a10 h0
        have := h5 h0
        omega
      · rw [dSet_k (by decide), dSet_f]
        refine ⟨by rw [d1]; unfold upd; rw [if_pos rfl]; decide, Or.inl rfl, wL_of L (fun j hj => ?_) d2⟩
        unfold upd
        rw [if_neg (by omega), k1 104 (by decide)]
        rfl
      · unfold mu
        rw [f1, t1]
        rcases k4 with z | z
        · left; rcases hμ with q | q <;> omega
        · right; rcases hμ with q | q <;> omega
    · -- 96
      have hE := h.1.1
      have h2 := h.1.2.1
      have hS := h.1.2.2.1
      have hT := h.1.2.2.2
      have hC := h.2.1
      have hY := h.2.2
      have hRm := hR.xf hE.1 h2
      have go : (r.1 = 0 → ¬ (K r.2 = 41 ∧ 0 < o)) → j_X12_expression_70_145 4 x1 m Q := fun hn => by
        refine ih.2.2.2.2.1 x1 m o p c r L u hx h ht hn ?_
        rcases hμ with q | q
        · left; omega
        · right; omega
      have eo : (m.1 70 12).toInt = o := hE.2.2.2.2.1
      refine v_X12_expression_70_96 ?_
      refine Wp.deep (q_is (k := 41) hv hRm hS (by decide) (by unfold vk; omega) (fun z hk => ⟨fun q => absurd q (by decide), fun _ => ⟨fun ho => go (fun _ q => by omega), fun ho => ?_⟩⟩) (fun h1 => ⟨fun _ => go (fun z q => h1 ⟨z, q.1⟩), fun q => absurd rfl q⟩)) (Nat.le_of_ble_eq_true rfl)
      have f0 : flt m = 0 := hS.fl.2.mpr z
      have hT1 : TG K (o - 1) true (rb r gst) T := hT.st (fun z => by rw [gX_O (hS.1 z).2.2.1, if_neg (by omega), if_pos (by omega), if_pos hk])
      refine Wp.deep (xr_out hs hme hE h2 hS hC (fun m2 p' c' h' b1 b2 b3 b4 _ _ g2 S2 C2 => ?_)) (Nat.le_of_ble_eq_true rfl)
      have hc' : c' = 0 := b2 (by decide)
      subst hc'
      obtain ⟨⟨x1', x2', x3', x4'⟩, a2, a3, a4, a5, a6, a7, ⟨q, a8, a8'⟩, a9, a10, a11⟩ := h'
      obtain ⟨o1, rfl⟩ : ∃ o1, o = o1 + 1 := ⟨o - 1, by omega⟩
      have eW : o1 + 1 + p' = (o1 + p') + 1 := by omega
      rw [eW] at a7
      have a7' := a7
      unfold Wk at a7'
      rcases a7' with ⟨-, -, o2, c2, d, w⟩ | ⟨-, b, -⟩ | ⟨-, b, -⟩
      · have ho2 : o2 = o1 := by omega
        subst ho2
        have ew : (m2.1 70 50).toInt = (o2 + 1 + p' : Nat) := a6
        have e12 : (m2.1 70 12).toInt = (o2 + 1 : Nat) := a5
        have fw := dSubE (X := ((o2 + 1 + p' : Nat) : Int)) (Y := 1) (x := m2.1 70 50) (y := (1 : Int32)) ew (by decide) (by omega) (by omega)
        have fo := dSubE (X := ((o2 + 1 : Nat) : Int)) (Y := 1) (x := m2.1 70 12) (y := (1 : Int32)) e12 (by decide) (by omega) (by omega)
        have hM : ES me s (dSet (dSet m2 70 50 ((m2.1 70 50) - (1 : Int32))) 70 12 ((m2.1 70 12) - (1 : Int32))) o2 p' c2 (p' + 1) := by
          refine ⟨⟨fun k e1 e2 e3 e4 => by rw [dSet_k e1, dSet_k e1]; exact x1' k e1 e2 e3 e4, fun j e1 e2 e3 e4 e5 e6 e7 e8 => by rw [dSet_j e2, dSet_j e8]; exact x2' j e1 e2 e3 e4 e5 e6 e7 e8, fun j hj => x3' j hj, x4'⟩, a2, a3, a4, ?_, ?_, w, ⟨q, a8, gDp_congr (g := m2.1) (fun j _ _ => ⟨rfl, rfl⟩) a8'⟩, a9, fun hz => ?_, by omega⟩
          · show (m2.1 70 12 - (1 : Int32)).toInt = _; omega
          · show (m2.1 70 50 - (1 : Int32)).toInt = _; omega
          · have := a10 hz
            refine ⟨this.1, by omega⟩
        refine Wp.deep (r_goesOn (m := dSet (dSet m2 70 50 ((m2.1 70 50) - (1 : Int32))) 70 12 ((m2.1 70 12) - (1 : Int32))) (hR.xf hM.1 g2) (S2.of rfl rfl rfl rfl rfl) (fun _ => by omega) (fun m3 h3 g3 S3 => ?_)) (Nat.le_of_ble_eq_true rfl)
        have g3 : m3.2 = m2.2 := g3
        have k4 : (flt m2 = 0 ∧ flt m3 = 0 ∧ tt m3 = tt m2 + 1) ∨ (0 < flt m3 ∧ tt m2 ≤ tt m3 ∧ tt m3 ≤ tt m2 + 1) := h3.2.2.2.1
        have e0 : xsT (0 : Int32) = false := by decide
        rw [e0] at C2
        have hY1 : (rb r gst).1 = 0 → sY K V o2 true (rb r gst).2 (fl false L u).1.tail (fl false L u).2 = SX := fun z => by
          obtain ⟨y1, y2, y3⟩ := rb_g z
          rw [y2, ← hY y1, sY_O (Nat.le_of_lt y3), if_neg (by omega), if_neg (by omega), if_pos ⟨Nat.succ_pos _, hk⟩]
          rfl
        generalize (fl false L u).1 = L2 at C2 hY1
        obtain ⟨d1, d2, d3, d4⟩ := C2
        obtain ⟨w0, L3, rfl⟩ : ∃ w0 L3, L2 = w0 :: L3 := by
          cases L2 with
          | nil => have d1 : 0 = o2 + 1 + p' := d1; omega
          | cons w0 L3 => exact ⟨w0, L3, rfl⟩
        rw [List.length_cons] at d1
        have CM : WCt me (dSet (dSet m2 70 50 ((m2.1 70 50) - (1 : Int32))) 70 12 ((m2.1 70 12) - (1 : Int32))) o2 p' L3 (fl false L u).2 := ⟨by omega, d2.2.2, d3, d4⟩
        refine ih.2.2.2.1 x1 m3 o2 p' c2 _ L3 (fl false L u).2 hx ⟨⟨hM.mv h3 (by decide), g3.trans g2, S3, hT1⟩, CM.mv h3, hY1⟩ (fun h0 => ?_) ?_
        · rcases k4 with z | z
          · have := ht (by omega); omega
          · omega
        · unfold mu
          rcases k4 with z | z
          · left; rcases hμ with q | q <;> omega
          · right; rcases hμ with q | q <;> omega
      · exact absurd b (by decide)
      · exact absurd b (by decide)
    · -- 145
      have hE := h.1.1
      have h2 := h.1.2.1
      have hS := h.1.2.2.1
      have hT := h.1.2.2.2
      have hC := h.2.1
      have hY := h.2.2
      have hRm := hR.xf hE.1 h2
      have hfl := hS.fl
      have nx : r.1 = 0 → (K r.2 = 43 ∨ K r.2 = 45 ∨ K r.2 = 42 ∨ K r.2 = 47) → j_X12_expression_70_181 4 x1 m Q := fun z hk => by
        have h0 := hfl.2.mpr z
        refine ih.2.2.2.2.2 x1 m o p c r L u hx h z (ht h0) hk ?_
        rcases hμ with q | q
        · left; omega
        · right; omega
      have eo : (m.1 70 12).toInt = o := hE.2.2.2.2.1
      refine v_X12_expression_70_145 ?_
      refine Wp.deep (q_is (k := 43) hv hRm hS (by decide) (by unfold vk; omega) (fun z hk => ⟨fun _ => nx z (by omega), fun q => absurd q (by decide)⟩) (fun n1 => ⟨fun q => absurd rfl q, fun _ => ?_⟩)) (Nat.le_of_ble_eq_true rfl)
      refine Wp.deep (q_is (k := 45) hv hRm hS (by decide) (by unfold vk; omega) (fun z hk => ⟨fun _ => nx z (by omega), fun q => absurd q (by decide)⟩) (fun n2 => ⟨fun q => absurd rfl q, fun _ => ?_⟩)) (Nat.le_of_ble_eq_true rfl)
      refine Wp.deep (q_is (k := 42) hv hRm hS (by decide) (by unfold vk; omega) (fun z hk => ⟨fun _ => nx z (by omega), fun q => absurd q (by decide)⟩) (fun n3 => ⟨fun q => absurd rfl q, fun _ => ?_⟩)) (Nat.le_of_ble_eq_true rfl)
      refine Wp.deep (q_is (k := 47) hv hRm hS (by decide) (by unfold vk; omega) (fun z hk => ⟨fun q => absurd q (by decide), fun _ => nx z (by omega)⟩) (fun n4 => ⟨fun _ => ⟨fun ho => ?_, fun ho => ?_⟩, fun q => absurd rfl q⟩)) (Nat.le_of_ble_eq_true rfl)
      · have o0 : o = 0 := by omega
        refine xr_204 hs hme hQ hE h2 ?_ (fun h0 => ⟨o0, ht h0⟩) hC (fun h0 => ?_)
        rotate_left
        · have z := hfl.2.mp h0
          rw [← hY z, sY_O (hS.1 z).2.2.1, if_neg (fun q => by rcases q with q | q; exact n3 ⟨z, q⟩; exact n4 ⟨z, q⟩), if_neg (fun q => by rcases q with q | q; exact n1 ⟨z, q⟩; exact n2 ⟨z, q⟩), if_neg (fun q => by omega)]
        by_cases z : r.1 = 0
        · have e := hT.1 z
          rw [gX_O (hS.1 z).2.2.1, if_neg (fun q => by rcases q with q | q | q | q; exact n1 ⟨z, q⟩; exact n2 ⟨z, q⟩; exact n3 ⟨z, q⟩; exact n4 ⟨z, q⟩), if_neg (by omega)] at e
          have er : r = (0, r.2) := by rw [← z]
          rw [← e, ← er]
          exact hS
        · rw [← hT.2 z]; exact hS
      · have fa := TG.fa (o' := o) (ph' := true) (c := 1) hT (by decide) (fun z => by rw [gX_O (hS.1 z).2.2.1, if_neg (fun q => by rcases q with q | q | q | q; exact n1 ⟨z, q⟩; exact n2 ⟨z, q⟩; exact n3 ⟨z, q⟩; exact n4 ⟨z, q⟩), if_pos (by omega), if_neg (fun q => h41 z ⟨q, by omega⟩)])
        refine Wp.deep (r_fail hRm hS (c := 1) (by decide) (by decide) (fun m5 h5 g5 S5 => ?_)) (Nat.le_of_ble_eq_true rfl)
        rw [fa.2.1] at S5
        exact xr_204 hs hme hQ (hE.mv h5 (by decide)) (g5.trans h2) S5 (fun h0 => by exfalso; exact fa.2.2 (S5.fl.2.mp h0)) (hC.mv h5) (fun h0 => by exfalso; exact fa.2.2 (S5.fl.2.mp h0))
    · -- 181
      have hE := h.1.1
      have h2 := h.1.2.1
      have hS := h.1.2.2.1
      have hT := h.1.2.2.2
      have hC := h.2.1
      have hY := h.2.2
      have hRm := hR.xf hE.1 h2
      have hfl := hS.fl
      have f0 := hfl.2.mpr h0
      obtain ⟨s1, s2, s3, s4, s5⟩ := hS.1 h0
      have ek : (m.1 73 (m.1 70 11).toNatClampNeg).toInt = rk (K r.2) := by
        rw [d_cn (show (m.1 70 11).toInt = (r.2 : Int) from s2)]
        exact (hRm r.2 s3 s4).1
      have hT1 : TG K o false (rb r gst) T := hT.st (fun z => by rw [gX_O s3, if_pos hk])
      have hkk : r.1 = 0 → K r.2 ≠ 24 ∧ K r.2 ≠ 25 := fun _ => by omega
      have again : ∀ (m3 : dM) (p' c' : Nat) (L3 : List Int) (u3 : lC), ES me s m3 o p' c' p' → (flt m3 = 0 → tt m3 = tt m + 1) → m3.2 = me.2 → ST K P m3 (rb r gst) W → WCt me m3 o p' L3 u3 → ((rb r gst).1 = 0 → sY K V o false (rb r gst).2 L3 u3 = SX) → j_X12_expression_70_12 4 x1 (1 : Int32) m3 Q := fun m3 p' c' L3 u3 h3 t3 g3 S3 C3 Y3 => by
        refine ih.1 x1 m3 o p' c' _ L3 u3 hx ⟨⟨h3, g3, S3, hT1⟩, C3, Y3⟩ ?_
        unfold mu
        have := h3.2.2.2.1
        have := hE.2.1
        by_cases hz : flt m3 = 0
        · left; have := t3 hz; rcases hμ with q | q <;> omega
        · right; rcases hμ with q | q <;> omega
      have strong : (rk (K r.2) = 10 ∨ rk (K r.2) = 15) → (K r.2 = 42 ∨ K r.2 = 47) → ∀ x : Int32, xsT x = true → c_X12_comesOut_70 3 x m (fun m2 => (0 ≤ (m2.1 70 11).toInt ∧ (m2.1 70 11).toInt < 403) ∧ (0 ≤ (m2.1 70 50).toInt ∧ (m2.1 70 50).toInt < 64) ∧ c_X12_goesOn_70 3 (dSet (dSet m2 104 (m2.1 70 50).toNatClampNeg (m2.1 73 (m2.1 70 11).toNatClampNeg)) 70 50 ((m2.1 70 50) + (1 : Int32))) (fun m3 => j_X12_expression_70_12 4 x1 (1 : Int32) m3 Q)) := fun hk2 hk3 x hxs => by
        refine Wp.deep (xr_out hs hme hE h2 hS hC (fun m2 p' c' h' b1 b2 b3 b4 b5 b6 g2 S2 C2 => ?_)) (Nat.le_of_ble_eq_true rfl)
        refine xr_push (cn := 2) (w := K r.2) hs hR h' g2 S2 hkk (by omega) C2 ⟨by rw [b5, b6]; exact ek, by omega⟩ ?_ (fun m3 h3 _ t3 g3 S3 C3 => again m3 _ _ _ _ h3 (fun hz => by have := t3 hz; omega) g3 S3 C3 (fun z => by obtain ⟨y1, y2, y3⟩ := rb_g z; rw [hxs, y2, ← hY y1, sY_O (Nat.le_of_lt y3), if_pos hk3]))
        rw [b5, b6]
        refine Or.inr (Or.inr ⟨by unfold upd; rw [if_pos rfl, ek]; exact hk2, rfl, p', c', rfl, b1, Wk_congr (fun j hj => ?_) h'.2.2.2.2.2.2.1⟩)
        unfold upd
        rw [if_neg (by omega)]
      refine v_X12_expression_70_181 ?_
      refine Wp.deep (q_is (k := 42) hv hRm hS (by decide) (by unfold vk; omega) (fun z q2 => ⟨fun _ => strong (by rw [q2]; decide) (Or.inl q2) _ (by decide), fun q => absurd q (by decide)⟩) (fun g1 => ⟨fun q => absurd rfl q, fun _ => ?_⟩)) (Nat.le_of_ble_eq_true rfl)
      refine Wp.deep (q_is (k := 47) hv hRm hS (by decide) (by unfold vk; omega) (fun z q2 => ⟨fun q => absurd q (by decide), fun _ => strong (by rw [q2]; decide) (Or.inr q2) _ (by decide)⟩) (fun g2 => ⟨fun _ => ?_, fun q => absurd rfl q⟩)) (Nat.le_of_ble_eq_true rfl)
      have hk2 : rk (K r.2) = 8 ∨ rk (K r.2) = 9 := by
        rcases hk with q | q | q | q
        · left; rw [q]; decide
        · right; rw [q]; decide
        · exact absurd ⟨h0, q⟩ g1
        · exact absurd ⟨h0, q⟩ g2
      refine Wp.deep (xr_out hs hme hE h2 hS hC (fun m2 p' c' h' b1 b2 b3 b4 b5 b6 g2' S2 C2 => ?_)) (Nat.le_of_ble_eq_true rfl)
      have hc' : c' = 0 := b2 (by decide)
      subst hc'
      refine xr_push (cn := 1) (w := K r.2) hs hR h' g2' S2 hkk (by omega) C2 ⟨by rw [b5, b6]; exact ek, by omega⟩ ?_ (fun m3 h3 _ t3 g3 S3 C3 => again m3 _ _ _ _ h3 (fun hz => by have := t3 hz; omega) g3 S3 C3 (fun z => by obtain ⟨y1, y2, y3⟩ := rb_g z; rw [show xsT (0 : Int32) = false by decide, y2, ← hY y1, sY_O (Nat.le_of_lt y3), if_neg (fun q => by rcases q with q | q; exact g1 ⟨y1, q⟩; exact g2 ⟨y1, q⟩), if_pos (by rcases hk with q | q | q | q; exact Or.inl q; exact Or.inr q; exact absurd ⟨h0, q⟩ g1; exact absurd ⟨h0, q⟩ g2)]))
      rw [b5, b6]
      refine Or.inr (Or.inl ⟨by unfold upd; rw [if_pos rfl, ek]; exact hk2, rfl, p', rfl, Wk_congr (fun j hj => ?_) h'.2.2.2.2.2.2.1⟩)
      unfold upd
      rw [if_neg (by omega)]
theorem xr_expression {Q : dM → Prop} {n : Nat} (hs : s ≤ 1) (hv : ∀ i, vk (K i)) (hR : RM K V P me) (hV : ∀ n : Nat, K n = 23 → 0 ≤ (V n).toInt32.toInt ∧ (V n).toInt32.toInt ≤ 9999) (hS : ST K P me (0, n) W) (ho : opn me = 0) (hc : 420 * (s : Int) ≤ cds me ∧ cds me ≤ 420 * s + tt me) (hQ : ∀ m', EQ me s m' → m'.2 = me.2 → ST K P m' (gE K n) W → (flt m' = 0 → cds m' = cds me + ((cE K V n).length : Int) ∧ SR m' (cds me).toNat (cE K V n)) → Q m') : c_X12_expression_70 4 me Q := by
  refine v_X12_expression_70 ?_
  have ht := hS.2.2
  have hf : flt me = 0 := hS.fl.2.mpr rfl
  have hES : ES me s (dSet me 70 50 (0 : Int32)) 0 0 0 0 := by
    have c1 : cds (dSet me 70 50 (0 : Int32)) = cds me := rfl
    have f1 : flt (dSet me 70 50 (0 : Int32)) = flt me := rfl
    have t1 : tt (dSet me 70 50 (0 : Int32)) = tt me := rfl
    refine ⟨⟨fun k e1 _ _ _ => dSet_k e1, fun j _ _ _ _ _ _ _ e8 => dSet_j e8, fun j _ => ⟨rfl, rfl⟩, Wz.eq rfl⟩, by omega, by omega, by omega, ho, rfl, ⟨rfl, rfl, rfl⟩, ⟨0, by omega, rfl⟩, by omega, fun _ => ⟨by omega, by omega⟩, by omega⟩
  refine (xr_main hs hc.1 hv hR hV hQ 4000).1 _ _ 0 0 0 (0, n) [] [] ho ⟨⟨hES, rfl, hS.of rfl rfl rfl rfl rfl, fun _ => rfl, fun q => absurd rfl q⟩, ⟨rfl, trivial, by show cds me = cds me + 0; omega, by show (cds me).toNat + 0 ≤ 840; omega, fun j hj => absurd hj (Nat.not_lt_zero j)⟩, fun _ => rfl⟩ ?_
  left
  have f1 : flt (dSet me 70 50 (0 : Int32)) = flt me := rfl
  have t1 : tt (dSet me 70 50 (0 : Int32)) = tt me := rfl
  omega
end RXM
end
section
/-! THE REFERENCE's laws, as told -/
theorem SR.app {m : dM} {a : Nat} {A B : lC} (h : SR m a A) (h' : SR m (a + A.length) B) : SR m a (A ++ B) := by
  refine ⟨by rw [List.length_append]; have := h'.1; omega, fun j hj => ?_⟩
  rw [List.length_append] at hj
  by_cases q : j < A.length
  · rw [List.getD_eq_getElem?_getD, List.getElem?_append_left q, ← List.getD_eq_getElem?_getD]
    exact h.2 j q
  · rw [List.getD_eq_getElem?_getD, List.getElem?_append_right (by omega), ← List.getD_eq_getElem?_getD]
    have := h'.2 (j - A.length) (by omega)
    rw [show a + A.length + (j - A.length) = a + j by omega] at this
    exact this
theorem SR.spl {m : dM} {a : Nat} {A B C : lC} (h : SR m a (A ++ (B ++ C))) : SR m (a + A.length) B := by
  obtain ⟨h1, h2⟩ := h
  rw [List.length_append, List.length_append] at h1 h2
  refine ⟨by omega, fun j hj => ?_⟩
  have := h2 (A.length + j) (by omega)
  rw [List.getD_eq_getElem?_getD, List.getElem?_append_right (by omega), show A.length + j - A.length = j by omega, List.getElem?_append_left hj, ← List.getD_eq_getElem?_getD, show a + (A.length + j) = a + A.length + j by omega] at this
  exact this
/-- a mark of a branch: behind j pieces -/
def Mk (mb m : dM) (k i : Nat) (p : List lC) (j : Nat) : Prop := (m.1 k ((brs mb).toNat + i)).toInt = cds mb + ((p.take j).flatten.length : Int)
/-- the pieces so far, b branches done -/
def LQw (mb m : dM) (b : Nat) (p : List lC) : Prop := cds m = cds mb + (p.flatten.length : Int) ∧ SR m (cds mb).toNat p.flatten ∧ ∀ i : Nat, i < b → (m.1 97 ((brs mb).toNat + i)).toInt ≠ 0 ∧ Mk mb m 98 i p (3 * i) ∧ Mk mb m 99 i p (3 * i + 1) ∧ Mk mb m 100 i p (3 * i + 2) ∧ Mk mb m 101 i p (3 * i + 3)
section LQSw
variable {mb m m' : dM} {s b k i j : Nat} {p : List lC} {c : lC}
theorem Mk.on (h : Mk mb m k i p j) (e : m'.1 k ((brs mb).toNat + i) = m.1 k ((brs mb).toNat + i)) : Mk mb m' k i p j := by unfold Mk; rw [e]; exact h
theorem Mk.ap (h : Mk mb m k i p j) (hj : j ≤ p.length) : Mk mb m k i (p ++ [c]) j := by unfold Mk; rw [take_app hj]; exact h
theorem LQw.on (h : LQw mb m b p) (e0 : cds m' = cds m) (e : ∀ k i : Nat, 97 ≤ k → k ≤ 101 → i < b → m'.1 k ((brs mb).toNat + i) = m.1 k ((brs mb).toNat + i)) (e2 : m'.1 102 = m.1 102) (e3 : m'.1 103 = m.1 103) : LQw mb m' b p := by
  refine ⟨by rw [e0]; exact h.1, h.2.1.of e2 e3, fun i hi => ?_⟩
  obtain ⟨a1, a2, a3, a4, a5⟩ := h.2.2 i hi
  exact ⟨by rw [e 97 i (by omega) (by omega) hi]; exact a1, a2.on (e 98 i (by omega) (by omega) hi), a3.on (e 99 i (by omega) (by omega) hi), a4.on (e 100 i (by omega) (by omega) hi), a5.on (e 101 i (by omega) (by omega) hi)⟩
theorem LQw.mv {n : Int} (h : LQw mb m b p) (hm : Mv n m m') : LQw mb m' b p := h.on (by unfold cds; rw [hm.2.1 46 (by decide) (by decide) (by decide) (by decide) (by decide)]) (fun k i h1 h2 _ => by rw [hm.1 k (by omega)]) (hm.1 102 (by decide)) (hm.1 103 (by decide))
theorem LQw.st {v : Int32} {q : Nat} (h : LQw mb m b p) (hk : 97 ≤ k ∧ k ≤ 101) (hq : q = (brs mb).toNat + b) : LQw mb (dSet m k q v) b p := h.on (by unfold cds; rw [dSet_k (by omega)]) (fun k' i h1 h2 h3 => by
  rw [dSet_e, if_neg (fun w => by omega)]
  ) (by rw [dSet_k (by omega)]) (by rw [dSet_k (by omega)])
theorem LQw.ex (h : LQw mb m b p) (hb : 3 * b ≤ p.length) (h0 : 0 ≤ cds mb) (hx : XF m s m') (hc : cds m' = cds m + (c.length : Int)) (hS : SR m' (cds m).toNat c) : LQw mb m' b (p ++ [c]) := by
  obtain ⟨a1, a2, a3⟩ := h
  have el : (p ++ [c]).flatten = p.flatten ++ c := by rw [List.flatten_append, List.flatten_cons, List.flatten_nil, List.append_nil]
  unfold LQw
  rw [el]
  refine ⟨by rw [List.length_append]; omega, (a2.on (fun j _ hj => hx.2.2.1 j (by omega))).app (by rw [show (cds mb).toNat + p.flatten.length = (cds m).toNat by omega]; exact hS), fun i hi => ?_⟩
  obtain ⟨b1, b2, b3, b4, b5⟩ := a3 i hi
  have e : ∀ k : Nat, 97 ≤ k → k ≤ 101 → m'.1 k = m.1 k := fun k h1 h2 => hx.1 k (by omega) (by omega) (by omega) (by omega)
  exact ⟨by rw [e 97 (by omega) (by omega)]; exact b1, (b2.on (by rw [e 98 (by omega) (by omega)])).ap (by omega), (b3.on (by rw [e 99 (by omega) (by omega)])).ap (by omega), (b4.on (by rw [e 100 (by omega) (by omega)])).ap (by omega), (b5.on (by rw [e 101 (by omega) (by omega)])).ap (by omega)⟩
theorem LQw.up (h : LQw mb m b p) (h0 : (m.1 97 ((brs mb).toNat + b)).toInt ≠ 0) (h1 : Mk mb m 98 b p (3 * b)) (h2 : Mk mb m 99 b p (3 * b + 1)) (h3 : Mk mb m 100 b p (3 * b + 2)) (h4 : Mk mb m 101 b p (3 * b + 3)) : LQw mb m (b + 1) p := ⟨h.1, h.2.1, fun i hi => by
  by_cases e : i = b
  · subst e; exact ⟨h0, h1, h2, h3, h4⟩
  · exact h.2.2 i (by omega)⟩
/-- a mark set now -/
theorem Mk.now {v : Int32} (hp : p.length = j) (hv : v.toInt = cds mb + (p.flatten.length : Int)) : Mk mb (dSet m k ((brs mb).toNat + b) v) k b p j := by
  unfold Mk
  rw [dSet_s, hv, ← hp, List.take_length]
end LQSw
/-- a law has been told: these pieces -/
def LZ (mb m : dM) (p : List lC) : Prop := ∃ b : Nat, p.length = 3 * b + 1 ∧ brs m = brs mb + (b : Int) + 1 ∧ LQw mb m b p ∧ (m.1 97 ((brs mb).toNat + b)).toInt = 0 ∧ Mk mb m 100 b p (3 * b) ∧ Mk mb m 101 b p (3 * b + 1)
section RLX
variable {K : Nat → Int} {V : Nat → Int64} {P : Nat → Nat} {r W : gR} {mb : dM} {s : Nat} {T : gR} {PX : List lC}
/-- an expression told within a law -/
theorem LY.xx {m : dM} {e bm : Int} {Q : dM → Prop} (hs : s ≤ 1) (hcb : 420 * (s : Int) ≤ cds mb) (hv : ∀ i, vk (K i)) (hR : RM K V P mb) (hV : ∀ n : Nat, K n = 23 → 0 ≤ (V n).toInt32.toInt ∧ (V n).toInt32.toInt ≤ 9999) (h : LY K P mb s e bm m r W) (hQ : ∀ m', LY K P mb s (e + 1) bm m' (rb r (gE K)) W → brs m' = brs m → tt m ≤ tt m' → (flt m' = 0 → flt m = 0) → (flt m' = 0 → XF m s m' ∧ cds m' = cds m + ((cE K V r.2).length : Int) ∧ SR m' (cds m).toNat (cE K V r.2)) → Q m') : c_X12_expression_70 4 m Q := by
  obtain ⟨h, g2, hS⟩ := h
  by_cases z : r.1 = 0
  · have h0 : flt m = 0 := hS.fl.2.mpr z
    have h6 := h.2.2.2.2.2 h0
    have er : r = (0, r.2) := by rw [← z]
    have hS' : ST K P m (0, r.2) W := by rw [← er]; exact hS
    refine xr_expression hs hv (hR.lf h.1 g2) hV hS' h6.2.1 ⟨by omega, h6.2.2.1.2⟩ (fun m' hq g' S' cX => ?_)
    obtain ⟨⟨x, z2, z3, z4, z5, z6⟩, hz⟩ := hq
    have b1 : brs m' = brs m := by unfold brs; rw [x.2.1 40 (by decide) (by decide) (by decide) (by decide) (by decide) (by decide) (by decide) (by decide)]
    refine hQ m' ⟨⟨h.1.xf h6.2.2.1.1 x, z2, by have := h.2.2.1; omega, z4, by have := h.2.2.2.2.1; omega, fun h0' => ?_⟩, g'.trans g2, by rw [rb_k z]; exact S'⟩ b1 z3 (fun _ => h0) (fun q => ⟨x, cX q⟩)
    have hz := hz h0'
    exact ⟨h6.1, hz.1, by omega, by omega⟩
  · have hf : 0 < flt m := by have := h.2.2.2.1; have := hS.fl.2; omega
    refine p_exprBad hf ?_
    have f1 : flt (dSet m 70 50 (0 : Int32)) = flt m := rfl
    obtain ⟨⟨h1, h2, h3, h4, h5⟩, t2, t3, t4, t5, t6⟩ := h
    exact hQ (dSet m 70 50 (0 : Int32)) ⟨⟨⟨fun k e1 e2 => by rw [dSet_k e1]; exact h1 k e1 e2, fun j e1 e2 e3 e4 e5 e6 e7 e8 e9 => by rw [dSet_j e9]; exact h2 j e1 e2 e3 e4 e5 e6 e7 e8 e9, fun k j e1 e2 e3 => by rw [dSet_k (by omega)]; exact h3 k j e1 e2 e3, fun j e1 => h4 j e1, h5⟩, t2, t3, t4, t5, fun q => by exfalso; omega⟩, g2, by rw [rb_f z]; exact hS.of rfl rfl rfl rfl rfl⟩ rfl (Int.le_refl _) (fun q => by exfalso; omega) (fun q => by exfalso; omega)
/-- a term: an expression, and a branch is done -/
theorem LY.tx {m : dM} {e bm : Int} {Q : dM → Prop} (hs : s ≤ 1) (hcb : 420 * (s : Int) ≤ cds mb) (hbb : 130 * (s : Int) ≤ brs mb) (hbm : bm ≤ 110) (hv : ∀ i, vk (K i)) (hR : RM K V P mb) (hV : ∀ n : Nat, K n = 23 → 0 ≤ (V n).toInt32.toInt ∧ (V n).toInt32.toInt ≤ 9999) (h : LY K P mb s e bm m r W) {b : Nat} {p : List lC} (hL : r.1 = 0 → brs m = brs mb + (b : Int) ∧ LQw mb m b p ∧ 3 * b ≤ p.length)
    (hQ : ∀ m', LY K P mb s (e - 3) (bm + 1) m' (rb r (gE K)) W → tt m ≤ tt m' → (flt m' = 0 → flt m = 0) → (flt m' = 0 → brs m' = brs mb + (b : Int) + 1 ∧ LQw mb m' b (p ++ [cE K V r.2]) ∧ Mk mb m' 100 b (p ++ [cE K V r.2]) p.length ∧ Mk mb m' 101 b (p ++ [cE K V r.2]) (p.length + 1) ∧ ∀ k : Nat, 97 ≤ k → k ≤ 99 → m'.1 k ((brs mb).toNat + b) = m.1 k ((brs mb).toNat + b)) → Q m') : c_X12_term_70 5 m Q := by
  have hb5 := h.1.2.2.2.2.1
  have eb : ((m.1 70 40).toNatClampNeg : Int) = brs m := d_cl (show 0 ≤ brs m by omega)
  have fin : ∀ m1 : dM, LY K P mb s (e + 1) bm m1 (rb r (gE K)) W → brs m1 = brs m → tt m ≤ tt m1 → (flt m1 = 0 → flt m = 0) → (flt m1 = 0 → brs m1 = brs mb + (b : Int) ∧ LQw mb m1 b (p ++ [cE K V r.2]) ∧ Mk mb m1 100 b (p ++ [cE K V r.2]) p.length ∧ ∀ k : Nat, 97 ≤ k → k ≤ 99 → m1.1 k ((brs mb).toNat + b) = m.1 k ((brs mb).toNat + b)) → j_X12_term_70_24 5 m1 Q := by
    intro m1 h1 hb htt hff hLL
    have eb1 : (m1.1 70 40).toInt = brs m1 := rfl
    have fb := dAddE (X := brs m1) (Y := 1) (x := m1.1 70 40) (y := (1 : Int32)) rfl (by decide) (by omega) (by omega)
    have g1 := h1.br (k := 101) (v := m1.1 70 46) (by omega) (by omega) (by omega) (by omega)
    have SS := g1.2.2.j (j := 40) (v := m1.1 70 40 + 1) (by decide)
    refine v_X12_term_70_24 ⟨by omega, hQ _ ⟨?_, h1.2.1, SS⟩ (show tt m ≤ tt m1 from htt) (show flt m1 = 0 → flt m = 0 from hff) (fun q => ?_)⟩
    rotate_left
    · obtain ⟨l1, l2, l3, l4⟩ := hLL q
      have ebb := d_cl (x := m1.1 70 40) (show 0 ≤ brs m1 by omega)
      have ei : (m1.1 70 40).toNatClampNeg = (brs mb).toNat + b := by omega
      have el : (p ++ [cE K V r.2]).length = p.length + 1 := by rw [List.length_append]; rfl
      rw [ei]
      have lq := l2.st (k := 101) (v := m1.1 70 46) (by omega) rfl
      refine ⟨by show (m1.1 70 40 + 1).toInt = _; omega, lq.on rfl (fun k i a1 a2 a3 => by rw [dSet_k (by omega)]) (by rw [dSet_k (by omega)]) (by rw [dSet_k (by omega)]), l3.on (by rw [dSet_k (by omega), dSet_k (by omega)]), ?_, fun k a1 a2 => by rw [dSet_k (by omega), dSet_k (by omega)]; exact l4 k a1 a2⟩
      have mk : Mk mb (dSet m1 101 ((brs mb).toNat + b) (m1.1 70 46)) 101 b (p ++ [cE K V r.2]) (p.length + 1) := Mk.now el l2.1
      exact mk.on (by rw [dSet_k (by omega)])
    have eb2 : ((m1.1 70 40).toNatClampNeg : Int) = brs m1 := d_cl (show 0 ≤ brs m1 by omega)
    generalize hM : dSet m1 101 (m1.1 70 40).toNatClampNeg (m1.1 70 46) = M at g1 SS ⊢
    have e40 : M.1 70 40 = m1.1 70 40 := by rw [← hM]; rfl
    obtain ⟨⟨⟨h1, h2, h3, h4, h5⟩, t2, t3, t4, t5, t6⟩, -⟩ := g1
    have bM : brs M = brs m1 := by unfold brs; rw [e40]
    have c1 : cds (dSet M 70 40 (m1.1 70 40 + 1)) = cds M := rfl
    have f1 : flt (dSet M 70 40 (m1.1 70 40 + 1)) = flt M := rfl
    have q1 : tt (dSet M 70 40 (m1.1 70 40 + 1)) = tt M := rfl
    have o1 : opn (dSet M 70 40 (m1.1 70 40 + 1)) = opn M := rfl
    have b1 : brs (dSet M 70 40 (m1.1 70 40 + 1)) = brs m1 + 1 := fb
    refine ⟨⟨fun k a1 a2 => by rw [dSet_k a1]; exact h1 k a1 a2, fun j a1 a2 a3 a4 a5 a6 a7 a8 a9 => by rw [dSet_j a7]; exact h2 j a1 a2 a3 a4 a5 a6 a7 a8 a9, fun k j a1 a2 a3 => by rw [dSet_k (by omega)]; exact h3 k j a1 a2 a3, fun j a1 => h4 j a1, h5⟩, by omega, by omega, by omega, by omega, fun h0 => ?_⟩
    have t6 := t6 (by omega)
    exact ⟨t6.1, by omega, by omega, by omega⟩
  have eb0 : (m.1 70 40).toInt = brs m := rfl
  have g1 := h.br (k := 100) (v := m.1 70 46) (by omega) (by omega) (by omega) (by omega)
  refine v_X12_term_70 ⟨by omega, fun hf => ?_, fun hf => ?_⟩
  · have hf : flt m ≠ 0 := hf
    have z : r.1 ≠ 0 := fun z => hf (h.2.2.fl.2.mpr z)
    have f1 : flt (dSet m 100 (m.1 70 40).toNatClampNeg (m.1 70 46)) = flt m := rfl
    exact fin _ ⟨⟨g1.1.1, g1.1.2.1, g1.1.2.2.1, g1.1.2.2.2.1, g1.1.2.2.2.2.1, fun q => by exfalso; omega⟩, g1.2.1, by rw [rb_f z]; exact g1.2.2⟩ rfl (Int.le_refl _) (fun q => q) (fun q => absurd q hf)
  · have hf : flt m = 0 := hf
    exact g1.xx hs hcb hv hR hV (fun m1 h1 hb htt hz cX => fin m1 h1 hb htt (fun _ => hf) (fun q => by
      obtain ⟨x1', x2', x3'⟩ := cX q
      obtain ⟨l1, l2, l3⟩ := hL (h.2.2.fl.2.mp hf)
      have ebb := d_cl (x := m.1 70 40) (show 0 ≤ brs m by omega)
      have ei : (m.1 70 40).toNatClampNeg = (brs mb).toNat + b := by omega
      have hb : brs m1 = brs m := hb
      rw [ei] at x1' x2' x3'
      have lq := l2.st (k := 100) (v := m.1 70 46) (by omega) rfl
      have mk : Mk mb (dSet m 100 ((brs mb).toNat + b) (m.1 70 46)) 100 b p p.length := Mk.now rfl l2.1
      refine ⟨by omega, lq.ex l3 (by omega) x1' x2' x3', (mk.on (by rw [x1'.1 100 (by omega) (by omega) (by omega) (by omega)])).ap (Nat.le_refl _), fun k a1 a2 => by rw [x1'.1 k (by omega) (by omega) (by omega) (by omega), dSet_k (by omega)]⟩))
theorem xl_main {x1 x2 : Int32} {Q : dM → Prop} (hs : s ≤ 1) (hcb : 420 * (s : Int) ≤ cds mb) (hbb : 130 * (s : Int) ≤ brs mb) (hx1 : 0 ≤ x1.toInt ∧ x1.toInt ≤ 3) (hsd : (mb.1 70 19).toInt = s) (hv : ∀ i, vk (K i)) (hR : RM K V P mb) (hV : ∀ n : Nat, K n = 23 → 0 ≤ (V n).toInt32.toInt ∧ (V n).toInt32.toInt ≤ 9999)
    (hQ1 : ∀ m', LY K P mb s 0 101 m' T W → 0 < flt m' → Q m') (hQ2 : ∀ m', LY K P mb s 0 101 m' T W → flt m' = 0 → LZ mb m' PX → Q (dSet (dSet m' 95 (((4 : Int32) * (m'.1 70 19)) + x1).toNatClampNeg x2) 96 (((4 : Int32) * (m'.1 70 19)) + x1).toNatClampNeg (m'.1 70 40))) : ∀ n : Nat,
    (∀ (x3 : Int32) (b : Nat) (m : dM) (r : gR) (p : List lC), LY K P mb s 2 100 m r W → x3.toInt = b → b ≤ 4 → rb r (gIf K (4 - b)) = T → (r.1 = 0 → brs m = brs mb + (b : Int) ∧ LQw mb m b p ∧ p.length = 3 * b ∧ p ++ lIf K V (4 - b) r.2 = PX) → mu m 6 1 n → j_X12_tellLaw_70_12 6 x1 x2 x3 m Q) ∧
    (∀ (x3 : Int32) (b : Nat) (m : dM) (r : gR) (p : List lC), LY K P mb s 2 99 m r W → x3.toInt = b → b ≤ 4 → rb r (gIf K (4 - b)) = T → (r.1 = 0 → brs m = brs mb + (b : Int) ∧ LQw mb m b p ∧ p.length = 3 * b ∧ p ++ lIf K V (4 - b) r.2 = PX) → (r.1 = 0 → b ≤ 3 ∧ K r.2 = 10) → mu m 5 0 n → j_X12_tellLaw_70_38 6 x1 x2 x3 m Q) ∧
    (∀ (x3 : Int32) (b : Nat) (m : dM) (r : gR) (b0 : Nat) (p : List lC), LY K P mb s 6 99 m r W → x3.toInt = b → b ≤ 4 → rb r (fun n => rb (gnd K 11 n) (fun n => rb (gE K n) (fun n => rb (gnd K 12 n) (gIf K (4 - b))))) = T → (r.1 = 0 → b = b0 + 1 ∧ brs m = brs mb + (b0 : Int) ∧ LQw mb m b0 p ∧ p.length = 3 * b0 + 2 ∧ (m.1 97 ((brs mb).toNat + b0)).toInt ≠ 0 ∧ Mk mb m 98 b0 p (3 * b0) ∧ Mk mb m 99 b0 p (3 * b0 + 1) ∧ p ++ (cE K V (r.2 + 1) :: lIf K V (4 - b) ((gE K (r.2 + 1)).2 + 1)) = PX) → mu m 7 2 n → j_X12_tellLaw_70_110 6 x1 x2 x3 m Q) := by
  have last : ∀ (m : dM) (r : gR) (b : Nat) (p : List lC), LY K P mb s 2 100 m r W → rb (rb r (gE K)) (gnd K 59) = T → (r.1 = 0 → brs m = brs mb + (b : Int) ∧ LQw mb m b p ∧ p.length = 3 * b ∧ p ++ [cE K V r.2] = PX) → j_X12_tellLaw_70_129 6 x1 x2 m Q := by
    intro m r b p h hT hL
    have hb5 := h.1.2.2.2.2.1
    have eb0 : (m.1 70 40).toInt = brs m := rfl
    have g := h.br (k := 97) (v := (0 : Int32)) (by omega) (by omega) (by omega) (by omega)
    refine v_X12_tellLaw_70_129 ⟨by omega, ?_⟩
    have ei : r.1 = 0 → (m.1 70 40).toNatClampNeg = (brs mb).toNat + b := fun z => by
      obtain ⟨l1, _⟩ := hL z
      have ebb := d_cl (x := m.1 70 40) (show 0 ≤ brs m by omega)
      omega
    refine g.tx (b := b) (p := p) hs hcb hbb (by omega) hv hR hV (fun z => ?_) (fun m1 h1 _ hz1 cX => ?_)
    · obtain ⟨l1, l2, l3, l4⟩ := hL z
      exact ⟨l1, by rw [ei z]; exact l2.st (by omega) rfl, by omega⟩
    refine Wp.deep (h1.must (k := 59) hv hR (by decide) (by unfold vk; omega) (by decide) (fun m2 hm2 h2 => ?_)) (Nat.le_of_ble_eq_true rfl)
    rw [hT] at h2
    have g2 : LY K P mb s 0 101 m2 T W := h2.weak (by decide) (by decide)
    have e19 : (m2.1 70 19).toInt = s := by rw [g2.1.1.2.1 19 (by decide) (by decide) (by decide) (by decide) (by decide) (by decide) (by decide) (by decide) (by decide)]; exact hsd
    have fm := dMulE (X := 4) (Y := (s : Int)) (x := (4 : Int32)) (y := m2.1 70 19) (by decide) e19 (by omega) (by omega)
    have fa := dAddE (X := 4 * (s : Int)) (Y := x1.toInt) (x := (4 : Int32) * m2.1 70 19) (y := x1) fm rfl (by omega) (by omega)
    have f2 : flt m2 ≤ 0 → flt m2 = 0 := fun hc => by
      have := g2.1.2.2.2.1
      omega
    refine ⟨fun hc => ⟨by omega, ⟨by omega, hQ2 m2 g2 (f2 hc) ?_⟩⟩, fun hc => hQ1 m2 g2 hc⟩
    have f1 : flt m1 = 0 := by
      have := f2 hc
      rcases hm2.2.2.2.1 with q | q <;> omega
    have z : r.1 = 0 := h.2.2.fl.2.mp (hz1 f1)
    obtain ⟨l1, l2, l3, l4⟩ := hL z
    obtain ⟨y1, y2, y3, y4, y5⟩ := cX f1
    rw [l4] at y2 y3 y4
    rw [l3] at y3 y4
    have k1 : ∀ k : Nat, k ≠ 70 → m2.1 k = m1.1 k := hm2.1
    refine ⟨b, by rw [← l4, List.length_append, l3]; rfl, ?_, y2.mv hm2, ?_, y3.on (by rw [k1 100 (by omega)]), y4.on (by rw [k1 101 (by omega)])⟩
    · unfold brs at y1 ⊢
      rw [hm2.2.1 40 (by decide) (by decide) (by decide) (by decide) (by decide)]
      exact y1
    · rw [k1 97 (by omega), y5 97 (by omega) (by omega), ei z, dSet_s]
      decide
  have gIf_n : ∀ (b n : Nat), K n ≠ 10 → gIf K b n = rb (gE K n) (gnd K 59) := fun b n hn => by
    cases b with
    | zero => show (if K n = 10 then _ else _) = _; rw [if_neg hn]
    | succ b => show (if K n = 10 then _ else _) = _; rw [if_neg hn]
  intro n
  induction n with
  | zero =>
    refine ⟨fun x3 b m r p h h3 hb hT hL hμ => ?_, fun x3 b m r p h h3 hb hT hL h4 hμ => ?_, fun x3 b m r b0 p h h3 hb hT hL hμ => ?_⟩ <;> (have := h.1.2.1; exfalso; rcases hμ with q | q <;> omega)
  | succ n ih =>
    refine ⟨fun x3 b m r p h h3 hb hT hL hμ => ?_, fun x3 b m r p h h3 hb hT hL h4 hμ => ?_, fun x3 b m r b0 p h h3 hb hT hL hμ => ?_⟩
    · have hfl := h.2.2.fl
      have hl : (r.1 = 0 → K r.2 ≠ 10) → rb (rb r (gE K)) (gnd K 59) = T := fun hn => by
        rw [rb_as, ← hT]
        by_cases z : r.1 = 0
        · rw [rb_k z, rb_k z, gIf_n _ _ (hn z)]
        · rw [rb_f z, rb_f z]
      have hl2 : (r.1 = 0 → K r.2 ≠ 10) → (r.1 = 0 → brs m = brs mb + (b : Int) ∧ LQw mb m b p ∧ p.length = 3 * b ∧ p ++ [cE K V r.2] = PX) := fun hn z => by
        obtain ⟨l1, l2, l3, l4⟩ := hL z
        rw [lIf_n (hn z)] at l4
        exact ⟨l1, l2, l3, l4⟩
      refine v_X12_tellLaw_70_12 ⟨fun q => last m r b p h (hl (fun z => absurd (hfl.2.mpr z) q)) (hl2 (fun z => absurd (hfl.2.mpr z) q)), fun h0 => ?_⟩
      have h0 : flt m = 0 := h0
      have h6 := h.1.2.2.2.2.2 h0
      have hb5 := h.1.2.2.2.2.1
      have h' : LY K P mb s 2 99 m r W := ⟨⟨h.1.1, h.1.2.1, h.1.2.2.1, h.1.2.2.2.1, by have := h.1.2.1; omega, h.1.2.2.2.2.2⟩, h.2⟩
      refine Wp.deep (q_is (k := 10) hv (h.rm hR) h.2.2 (by decide) (by unfold vk; omega) (fun z hk => ⟨fun q => absurd q (by decide), fun _ => ⟨fun hne => ?_, fun he => ?_⟩⟩) (fun h1 => ⟨fun _ => last m r b p h (hl (fun z hk => h1 ⟨z, hk⟩)) (hl2 (fun z hk => h1 ⟨z, hk⟩)), fun q => absurd rfl q⟩)) (Nat.le_of_ble_eq_true rfl)
      · have e4 : (4 : Int32).toInt = 4 := by decide
        refine ih.2.1 x3 b m r p h' h3 hb hT hL (fun _ => ⟨by omega, hk⟩) ?_
        left
        rcases hμ with q | q <;> omega
      · have e4 : (4 : Int32).toInt = 4 := by decide
        have b4 : b = 4 := by omega
        refine Wp.deep (r_fail (h.rm hR) h.2.2 (c := 2) (by decide) (by decide) (fun m2 h2 g2 S2 => ?_)) (Nat.le_of_ble_eq_true rfl)
        rw [if_pos z] at S2
        have f2 := S2.fl
        have hf2 : flt m2 ≠ 0 := fun q => absurd (f2.2.mp q) (Nat.succ_ne_zero 1)
        refine ih.2.1 x3 b m2 (2, r.2) p ((h'.mv h2 (by decide) g2 S2).weak (by decide) (by decide)) h3 hb ?_ (fun q => absurd q (Nat.succ_ne_zero 1)) (fun q => absurd q (Nat.succ_ne_zero 1)) ?_
        · rw [← hT, rb_k z, b4, rb_2]
          show _ = (if K r.2 = 10 then _ else _)
          rw [if_pos hk]
        · right
          have := h.1.2.1
          rcases hμ with q | q <;> omega
    · have hfl := h.2.2.fl
      have bd : 0 < flt m → LY K P mb s 0 101 m T W := fun hc => by
        have z : r.1 ≠ 0 := fun z => by have := hfl.2.mpr z; omega
        rw [rb_f z] at hT
        rw [← hT]
        exact ⟨(LSz.bad h.1 hc).weak (Int.le_refl _) (by decide), h.2⟩
      refine v_X12_tellLaw_70_38 ⟨fun hc => ?_, fun hc => hQ1 m (bd hc) hc⟩
      have h0 : flt m = 0 := by
        have hc : flt m ≤ 0 := hc
        have := h.1.2.2.2.1
        omega
      have z := hfl.2.mp h0
      obtain ⟨h34, hk10⟩ := h4 z
      have f3 := dAddE (X := x3.toInt) (Y := 1) (x := x3) (y := (1 : Int32)) rfl (by decide) (by omega) (by omega)
      have hT' : rb (rb (rb (rb (rb r gst) (gE K)) (gnd K 60)) (gE K)) (fun n => rb (gnd K 11 n) (fun n => rb (gE K n) (fun n => rb (gnd K 12 n) (gIf K (4 - (b + 1)))))) = T := by
        rw [rb_as, rb_as, rb_as, rb_as, ← hT, rb_k z, rb_k z, show 4 - b = (4 - (b + 1)) + 1 by omega]
        show _ = (if K r.2 = 10 then _ else _)
        rw [if_pos hk10]
      refine Wp.deep (r_goesOn (h.rm hR) h.2.2 (fun _ => by omega) (fun m1 h1 gg1 S1 => ?_)) (Nat.le_of_ble_eq_true rfl)
      have k41 := h1.2.2.2.1
      have g1 : LY K P mb s 3 99 m1 (rb r gst) W := h.mv h1 (by decide) gg1 S1
      have hb5 := g1.1.2.2.2.2.1
      have eb0 : (m1.1 70 40).toInt = brs m1 := rfl
      refine ⟨by omega, ⟨by omega, ?_⟩⟩
      have g2 : LY K P mb s 3 99 (dSet (dSet m1 97 (m1.1 70 40).toNatClampNeg (1 : Int32)) 98 (m1.1 70 40).toNatClampNeg (m1.1 70 46)) (rb r gst) W :=
        (g1.br (k := 97) (v := (1 : Int32)) (by omega) (by omega) (by omega) (by omega)).br (k := 98) (v := m1.1 70 46) (by omega) (by omega) (by omega) (by omega)
      obtain ⟨l1, l2, l3, l4⟩ := hL z
      have k1 : ∀ k : Nat, k ≠ 70 → m1.1 k = m.1 k := h1.1
      have e40 : m1.1 70 40 = m.1 70 40 := h1.2.1 40 (by decide) (by decide) (by decide) (by decide) (by decide)
      have ei : (m1.1 70 40).toNatClampNeg = (brs mb).toNat + b := by
        have ebb := d_cl (x := m1.1 70 40) (show 0 ≤ brs m1 by omega)
        have : brs m1 = brs m := by unfold brs; rw [e40]
        omega
      have cm1 : cds m1 = cds m := by unfold cds; rw [h1.2.1 46 (by decide) (by decide) (by decide) (by decide) (by decide)]
      refine Wp.deep (g2.xx hs hcb hv hR hV (fun m2 g3 hb ht2 hz cX => ?_)) (Nat.le_of_ble_eq_true rfl)
      have hb' : brs m2 = brs m1 := hb
      refine Wp.deep (g3.must (k := 60) hv hR (by decide) (by unfold vk; omega) (by decide) (fun m3 h3' g4 => ?_)) (Nat.le_of_ble_eq_true rfl)
      have hb6 := g4.1.2.2.2.2.1
      have w3 : (m3.1 70 40).toInt = brs m3 := rfl
      refine ⟨by omega, ?_⟩
      have g5 := g4.br (k := 99) (v := m3.1 70 46) (by omega) (by omega) (by omega) (by omega)
      have k43 := h3'.2.2.2.1
      refine ⟨fun hf => ?_, fun hf => ?_⟩
      · have hf : flt m3 ≠ 0 := hf
        have w4 : flt (dSet m3 99 (m3.1 70 40).toNatClampNeg (m3.1 70 46)) = flt m3 := rfl
        have := g4.1.2.2.2.1
        have z3 : (rb (rb (rb r gst) (gE K)) (gnd K 60)).1 ≠ 0 := fun q => hf (g4.2.2.fl.2.mpr q)
        rw [rb_f z3] at hT'
        refine ih.2.2 _ (b + 1) _ _ b p ⟨LSz.bad g5.1 (by omega), g5.2⟩ (by omega) (by omega) hT' (fun q => absurd q z3) ?_
        right
        have := h.1.2.1
        rcases hμ with q | q <;> omega
      · have hf : flt m3 = 0 := hf
        have f2 : flt m2 = 0 := by rcases k43 with q | q <;> omega
        have z2 : (rb (rb r gst) (gE K)).1 = 0 := g3.2.2.fl.2.mp f2
        obtain ⟨z1, zz1⟩ := rb_z z2
        obtain ⟨y1, y2, y3⟩ := rb_g z1
        obtain ⟨x1', x2', x3'⟩ := cX f2
        rw [y2] at x2' x3'
        rw [ei] at x1' x2' x3'
        have zk : (rb (rb (rb r gst) (gE K)) (gnd K 60)).1 = 0 := g4.2.2.fl.2.mp hf
        have rz : rb (rb (rb r gst) (gE K)) (gnd K 60) = (0, (gE K (r.2 + 1)).2 + 1) := by
          rw [zz1, y2] at zk ⊢
          exact (gEnd_z zk).2.1
        have lA : LQw mb (dSet (dSet m1 97 ((brs mb).toNat + b) (1 : Int32)) 98 ((brs mb).toNat + b) (m1.1 70 46)) b p := ((l2.mv h1).st (by omega) rfl).st (by omega) rfl
        have mA : Mk mb (dSet (dSet m1 97 ((brs mb).toNat + b) (1 : Int32)) 98 ((brs mb).toNat + b) (m1.1 70 46)) 98 b p (3 * b) := Mk.now l3 (by show cds m1 = _; rw [cm1]; exact l2.1)
        have nA : ((dSet (dSet m1 97 ((brs mb).toNat + b) (1 : Int32)) 98 ((brs mb).toNat + b) (m1.1 70 46)).1 97 ((brs mb).toNat + b)).toInt ≠ 0 := by rw [dSet_k (by omega), dSet_s]; decide
        have lB : LQw mb m2 b (p ++ [cE K V (r.2 + 1)]) := lA.ex (by omega) (by omega) x1' x2' x3'
        have xe : ∀ k : Nat, 97 ≤ k → k ≤ 101 → m2.1 k = (dSet (dSet m1 97 ((brs mb).toNat + b) (1 : Int32)) 98 ((brs mb).toNat + b) (m1.1 70 46)).1 k := fun k q1 q2 => x1'.1 k (by omega) (by omega) (by omega) (by omega)
        have mB : Mk mb m2 98 b (p ++ [cE K V (r.2 + 1)]) (3 * b) := (mA.on (by rw [xe 98 (by omega) (by omega)])).ap (by omega)
        have nB : (m2.1 97 ((brs mb).toNat + b)).toInt ≠ 0 := by rw [xe 97 (by omega) (by omega)]; exact nA
        have c3 : cds m3 = cds m2 := by unfold cds; rw [h3'.2.1 46 (by decide) (by decide) (by decide) (by decide) (by decide)]
        have e40' : brs m3 = brs m2 := by unfold brs; rw [h3'.2.1 40 (by decide) (by decide) (by decide) (by decide) (by decide)]
        have e40'' : brs m1 = brs m := by unfold brs; rw [e40]
        have ei3 : (m3.1 70 40).toNatClampNeg = (brs mb).toNat + b := by
          have ebb := d_cl (x := m3.1 70 40) (show 0 ≤ brs m3 by omega)
          omega
        have ll : (p ++ [cE K V (r.2 + 1)]).length = 3 * b + 1 := by rw [List.length_append, l3]; rfl
        have lC' : LQw mb (dSet m3 99 ((brs mb).toNat + b) (m3.1 70 46)) b (p ++ [cE K V (r.2 + 1)]) := (lB.mv h3').st (by omega) rfl
        have mC : Mk mb (dSet m3 99 ((brs mb).toNat + b) (m3.1 70 46)) 98 b (p ++ [cE K V (r.2 + 1)]) (3 * b) := (mB.on (by rw [h3'.1 98 (by omega)])).on (by rw [dSet_k (by omega)])
        have mD : Mk mb (dSet m3 99 ((brs mb).toNat + b) (m3.1 70 46)) 99 b (p ++ [cE K V (r.2 + 1)]) (3 * b + 1) := Mk.now ll (by show cds m3 = _; rw [c3]; exact lB.1)
        have nC : ((dSet m3 99 ((brs mb).toNat + b) (m3.1 70 46)).1 97 ((brs mb).toNat + b)).toInt ≠ 0 := by rw [dSet_k (by omega), h3'.1 97 (by omega)]; exact nB
        have l4' : p ++ [cE K V (r.2 + 1)] ++ [cE K V ((gE K (r.2 + 1)).2 + 1)] ++ (cE K V ((gE K ((gE K (r.2 + 1)).2 + 1)).2 + 1) :: lIf K V (4 - (b + 1)) ((gE K ((gE K ((gE K (r.2 + 1)).2 + 1)).2 + 1)).2 + 1)) = PX := by
          rw [← l4, show 4 - b = (4 - (b + 1)) + 1 by omega, lIf_y hk10]
          simp only [List.append_assoc, List.cons_append, List.nil_append]
        refine Wp.deep (g5.xx hs hcb hv hR hV (fun m4 g6 hb4 ht4 hz4 cX4 => ?_)) (Nat.le_of_ble_eq_true rfl)
        refine ih.2.2 _ (b + 1) _ _ b (p ++ [cE K V (r.2 + 1)] ++ [cE K V ((gE K (r.2 + 1)).2 + 1)]) g6 (by omega) (by omega) hT' (fun z4 => ?_) ?_
        · have f4 : flt m4 = 0 := g6.2.2.fl.2.mpr z4
          obtain ⟨v1, v2, v3⟩ := cX4 f4
          rw [ei3] at v1 v2 v3
          rw [rz] at v2 v3 z4 ⊢
          have ve : ∀ k : Nat, 97 ≤ k → k ≤ 101 → m4.1 k = (dSet m3 99 ((brs mb).toNat + b) (m3.1 70 46)).1 k := fun k q1 q2 => v1.1 k (by omega) (by omega) (by omega) (by omega)
          have hb4 : brs m4 = brs m3 := hb4
          refine ⟨rfl, by omega, lC'.ex (by omega) (by omega) v1 v2 v3, by rw [List.length_append, ll]; rfl, by rw [ve 97 (by omega) (by omega)]; exact nC, (mC.on (by rw [ve 98 (by omega) (by omega)])).ap (by omega), (mD.on (by rw [ve 99 (by omega) (by omega)])).ap (by omega), l4'⟩
        have t4 := g6.1.2.1
        have s4 := g6.1.2.2.2.1
        have a1 : tt m1 ≤ tt m2 := ht2
        have a2 : tt m3 ≤ tt m4 := ht4
        have a3 := h.1.2.1
        unfold mu
        by_cases q0 : flt m4 = 0
        · left
          rcases k43 with y | y <;> rcases hμ with q | q <;> rcases k41 with z | z <;> omega
        · right
          rcases hμ with q | q <;> omega
    · refine v_X12_tellLaw_70_110 ?_
      refine Wp.deep (h.must (k := 11) hv hR (by decide) (by unfold vk; omega) (by decide) (fun m1 h1 g1 => ?_)) (Nat.le_of_ble_eq_true rfl)
      have k41 := h1.2.2.2.1
      have kk : (rb r (gnd K 11)).1 = 0 → r.1 = 0 ∧ (rb r (gnd K 11)).2 = r.2 + 1 := fun q => by
        obtain ⟨q1, q2⟩ := rb_z q
        rw [q2] at q ⊢
        obtain ⟨k1, k2, k3⟩ := gnd_z rfl q
        rw [k1]
        exact ⟨q1, rfl⟩
      refine g1.tx (b := b0) (p := p) hs hcb hbb (by omega) hv hR hV (fun z => ?_) (fun m2 g2 a1 a2 cX => ?_)
      · obtain ⟨l0, l1, l2, l3, -⟩ := hL (kk z).1
        refine ⟨?_, l2.mv h1, by omega⟩
        unfold brs at l1 ⊢
        rw [h1.2.1 40 (by decide) (by decide) (by decide) (by decide) (by decide)]
        exact l1
      refine Wp.deep (g2.must (k := 12) hv hR (by decide) (by unfold vk; omega) (by decide) (fun m3 h3' g3 => ?_)) (Nat.le_of_ble_eq_true rfl)
      refine ih.1 x3 b m3 _ (p ++ [cE K V (r.2 + 1)]) (g3.weak (by decide) (by decide)) h3 hb (by rw [rb_as, rb_as, rb_as]; exact hT) (fun z3 => ?_) ?_
      · have f3 : flt m3 = 0 := g3.2.2.fl.2.mpr z3
        have f2 : flt m2 = 0 := by rcases h3'.2.2.2.1 with q | q <;> omega
        have z1 : (rb r (gnd K 11)).1 = 0 := g1.2.2.fl.2.mp (a2 f2)
        obtain ⟨z0, e1⟩ := kk z1
        obtain ⟨l0, l1, l2, l3, l4, l5, l6, l7⟩ := hL z0
        obtain ⟨y1, y2, y3, y4, y5⟩ := cX f2
        rw [e1] at y2 y3 y4
        subst l0
        have er : rb (rb (rb r (gnd K 11)) (gE K)) (gnd K 12) = (0, (gE K (r.2 + 1)).2 + 1) := by
          rw [rb_k (k := gE K) z1, e1] at z3 ⊢
          exact (gEnd_z z3).2.1
        have kx : ∀ k : Nat, 97 ≤ k → k ≤ 99 → m2.1 k ((brs mb).toNat + b0) = m.1 k ((brs mb).toNat + b0) := fun k q1 q2 => by rw [y5 k q1 q2, h1.1 k (by omega)]
        rw [er]
        rw [l3] at y3 y4
        have e40 : brs m3 = brs m2 := by unfold brs; rw [h3'.2.1 40 (by decide) (by decide) (by decide) (by decide) (by decide)]
        refine ⟨by omega, (y2.up (by rw [kx 97 (by omega) (by omega)]; exact l4) ((l5.on (kx 98 (by omega) (by omega))).ap (by omega)) ((l6.on (kx 99 (by omega) (by omega))).ap (by omega)) y3 y4).mv h3', by rw [List.length_append, l3]; show 3 * b0 + 2 + 1 = _; omega, ?_⟩
        rw [← l7, List.append_assoc]
        rfl
      have k43 := h3'.2.2.2.1
      have a3 := h.1.2.1
      have a4 := g3.1.2.2.2.1
      unfold mu
      by_cases q0 : flt m3 = 0
      · left
        rcases k43 with y | y <;> rcases k41 with z | z <;> rcases hμ with q | q <;> omega
      · right
        rcases hμ with q | q <;> omega
end RLX
end
section
/-! THE REFERENCE's laws, as told, 2 -/
def SBb (m : dM) (x y : Int32) (L : lC) : Prop := SB m x y L ∧ y.toInt ≤ cds m
/-- a law, as it lies while a text is told -/
def LRb (m : dM) (s k : Nat) (D : lD) : Prop := lOk D ∧ (((m.1 95 (4 * s + k)).toInt = (m.1 96 (4 * s + k)).toInt ∧ D.1 = 0 ∧ D.2 0 = dfl k) ∨ ∃ b : Nat, (m.1 95 (4 * s + k)).toInt = (b : Int) ∧ (m.1 96 (4 * s + k)).toInt = ((b + D.1 + 1 : Nat) : Int) ∧ b + D.1 < 260 ∧ ((b + D.1 + 1 : Nat) : Int) ≤ brs m ∧ (∀ i : Nat, i < D.1 → (m.1 97 (b + i)).toInt ≠ 0 ∧ SBb m (m.1 98 (b + i)) (m.1 99 (b + i)) (D.2 (3 * i)) ∧ SBb m (m.1 99 (b + i)) (m.1 100 (b + i)) (D.2 (3 * i + 1)) ∧ SBb m (m.1 100 (b + i)) (m.1 101 (b + i)) (D.2 (3 * i + 2))) ∧ (m.1 97 (b + D.1)).toInt = 0 ∧ SBb m (m.1 100 (b + D.1)) (m.1 101 (b + D.1)) (D.2 (3 * D.1)))
theorem LRb.lr {m : dM} {s k : Nat} {D : lD} (h : LRb m s k D) : LR m s k D := by
  obtain ⟨h1, h2⟩ := h
  refine ⟨h1, ?_⟩
  rcases h2 with h2 | ⟨b, a1, a2, a3, a4, a5, a6, a7⟩
  · exact Or.inl h2
  · exact Or.inr ⟨b, a1, a2, a3, fun i hi => ⟨(a5 i hi).1, (a5 i hi).2.1.1, (a5 i hi).2.2.1.1, (a5 i hi).2.2.2.1⟩, a6, a7.1⟩
theorem SBb.on {m m' : dM} {x y : Int32} {L : lC} (h : SBb m x y L) (hc : cds m ≤ cds m') (e : ∀ j : Nat, (j : Int) < cds m → m'.1 102 j = m.1 102 j ∧ m'.1 103 j = m.1 103 j) : SBb m' x y L := by
  obtain ⟨⟨a, a1, a2, a3⟩, b⟩ := h
  exact ⟨⟨a, a1, a2, a3.on (fun j _ hj => e j (by omega))⟩, by omega⟩
/-- a law told before stays -/
theorem LRb.on {m m' : dM} {s k : Nat} {D : lD} (h : LRb m s k D) (e95 : m'.1 95 (4 * s + k) = m.1 95 (4 * s + k)) (e96 : m'.1 96 (4 * s + k) = m.1 96 (4 * s + k)) (eb : ∀ c j : Nat, 97 ≤ c → c ≤ 101 → (j : Int) < brs m → m'.1 c j = m.1 c j) (ec : ∀ j : Nat, (j : Int) < cds m → m'.1 102 j = m.1 102 j ∧ m'.1 103 j = m.1 103 j) (hb : brs m ≤ brs m') (hc : cds m ≤ cds m') : LRb m' s k D := by
  obtain ⟨h1, h2⟩ := h
  refine ⟨h1, ?_⟩
  rw [e95, e96]
  rcases h2 with h2 | ⟨b, a1, a2, a3, a4, a5, a6, a7⟩
  · exact Or.inl h2
  · refine Or.inr ⟨b, a1, a2, a3, by omega, fun i hi => ?_, ?_, ?_⟩
    · obtain ⟨c1, c2, c3, c4⟩ := a5 i hi
      rw [eb 97 (b + i) (by omega) (by omega) (by omega), eb 98 (b + i) (by omega) (by omega) (by omega), eb 99 (b + i) (by omega) (by omega) (by omega), eb 100 (b + i) (by omega) (by omega) (by omega), eb 101 (b + i) (by omega) (by omega) (by omega)]
      exact ⟨c1, c2.on hc ec, c3.on hc ec, c4.on hc ec⟩
    · rw [eb 97 (b + D.1) (by omega) (by omega) (by omega)]; exact a6
    · rw [eb 100 (b + D.1) (by omega) (by omega) (by omega), eb 101 (b + D.1) (by omega) (by omega) (by omega)]; exact a7.on hc ec
theorem LRb.of {m m' : dM} {s k : Nat} {D : lD} (h : LRb m s k D) (e : ∀ c : Nat, 95 ≤ c → c ≤ 103 → m'.1 c = m.1 c) (e40 : m'.1 70 40 = m.1 70 40) (e46 : m'.1 70 46 = m.1 70 46) : LRb m' s k D := by
  have eb : brs m' = brs m := by unfold brs; rw [e40]
  have ec : cds m' = cds m := by unfold cds; rw [e46]
  exact h.on (by rw [e 95 (by omega) (by omega)]) (by rw [e 96 (by omega) (by omega)]) (fun c j h1 h2 _ => by rw [e c (by omega) (by omega)]) (fun j _ => by rw [e 102 (by omega) (by omega), e 103 (by omega) (by omega)]; exact ⟨rfl, rfl⟩) (by omega) (by omega)
/-- of a law's pieces -/
theorem LZ.lrb {mb m : dM} {s k : Nat} {p : List lC} (h : LZ mb m p) (hs : s ≤ 1) (hk : k < 4) (hb0 : 0 ≤ brs mb) (hbm : brs m ≤ 260) (hc0 : 0 ≤ cds mb) (hw : ∀ (i : Nat) (c : lC), p[i]? = some c → wfL c 0) (h4 : p.length ≤ 13) {x2 x3 : Int32} {q1 q2 : Nat} (hx2 : x2.toInt = brs mb) (hx3 : x3.toInt = brs m) (hq : q1 = 4 * s + k) (hq2 : q2 = 4 * s + k) : LRb (dSet (dSet m 95 q1 x2) 96 q2 x3) s k (lDf p) := by
  subst hq
  subst hq2
  obtain ⟨b, l1, l2, l3, l4, l5, l6⟩ := h
  obtain ⟨g1, g2, g3⟩ := l3
  have e0 : (lDf p).1 = b := by show (p.length - 1) / 3 = b; omega
  have ec : cds (dSet (dSet m 95 (4 * s + k) x2) 96 (4 * s + k) x3) = cds m := rfl
  have eb : brs (dSet (dSet m 95 (4 * s + k) x2) 96 (4 * s + k) x3) = brs m := rfl
  have ek : ∀ c : Nat, c ≠ 95 → c ≠ 96 → (dSet (dSet m 95 (4 * s + k) x2) 96 (4 * s + k) x3).1 c = m.1 c := fun c h1 h2 => by rw [dSet_k h2, dSet_k h1]
  have e95 : (dSet (dSet m 95 (4 * s + k) x2) 96 (4 * s + k) x3).1 95 (4 * s + k) = x2 := by rw [dSet_k (by decide), dSet_s]
  have e96 : (dSet (dSet m 95 (4 * s + k) x2) 96 (4 * s + k) x3).1 96 (4 * s + k) = x3 := dSet_s _ _ _ _
  generalize dSet (dSet m 95 (4 * s + k) x2) 96 (4 * s + k) x3 = M at ec eb ek e95 e96 ⊢
  have pc : ∀ (i : Nat) (x y : Int32), i < p.length → x.toInt = cds mb + ((p.take i).flatten.length : Int) → y.toInt = cds mb + ((p.take (i + 1)).flatten.length : Int) → SBb M x y (p.getD i []) := fun i x y hi hx hy => by
    have f := flat_at hi
    have t := take_at hi
    have fl' : p.flatten.length = (p.take i).flatten.length + ((p.getD i []).length + (p.drop (i + 1)).flatten.length) := by rw [f, List.length_append, List.length_append]
    refine ⟨⟨(cds mb).toNat + (p.take i).flatten.length, by omega, by omega, ?_⟩, by omega⟩
    have g := g2.of (m' := M) (ek 102 (by decide) (by decide)) (ek 103 (by decide) (by decide))
    rw [f] at g
    exact g.spl
  refine ⟨⟨by rw [e0]; omega, fun i hi => ?_⟩, Or.inr ⟨(brs mb).toNat, by rw [e95]; omega, by rw [e96, e0]; omega, by rw [e0]; omega, by rw [e0]; omega, fun i hi => ?_, ?_, ?_⟩⟩
  · rw [e0] at hi
    have hi' : i < p.length := by omega
    refine hw i _ ?_
    show p[i]? = some (p.getD i [])
    rw [List.getD_eq_getElem?_getD, List.getElem?_eq_getElem hi']
    rfl
  · rw [e0] at hi
    obtain ⟨c1, c2, c3, c4, c5⟩ := g3 i hi
    rw [ek 97 (by decide) (by decide), ek 98 (by decide) (by decide), ek 99 (by decide) (by decide), ek 100 (by decide) (by decide), ek 101 (by decide) (by decide)]
    exact ⟨c1, pc (3 * i) _ _ (by omega) c2 c3, pc (3 * i + 1) _ _ (by omega) c3 c4, pc (3 * i + 2) _ _ (by omega) c4 c5⟩
  · rw [e0, ek 97 (by decide) (by decide)]; exact l4
  · rw [e0, ek 100 (by decide) (by decide), ek 101 (by decide) (by decide)]
    exact pc (3 * b) _ _ (by omega) l5 l6
/-- what a law told leaves -/
def LXx (mb : dM) (s k : Nat) (m : dM) : Prop := (∀ j : Nat, j ≠ 4 * s + k → m.1 95 j = mb.1 95 j ∧ m.1 96 j = mb.1 96 j) ∧ (∀ c j : Nat, 97 ≤ c → c ≤ 101 → ((j : Int) < brs mb ∨ 130 * s + 130 ≤ j) → m.1 c j = mb.1 c j) ∧ (∀ j : Nat, ((j : Int) < cds mb ∨ 420 * s + 402 ≤ j) → m.1 102 j = mb.1 102 j ∧ m.1 103 j = mb.1 103 j)
section RLY
variable {K : Nat → Int} {V : Nat → Int64} {P : Nat → Nat} {r W : gR} {mb : dM} {s : Nat} {T : gR} {PX : List lC}
theorem x_tellLaw {x1 : Int32} {k : Nat} {Q : dM → Prop} (hs : s ≤ 1) (hsd : (mb.1 70 19).toInt = s) (hk : x1.toInt = (k : Int)) (hk4 : k < 4) (hv : ∀ i, vk (K i)) (hR : RM K V P mb) (hV : ∀ n : Nat, K n = 23 → 0 ≤ (V n).toInt32.toInt ∧ (V n).toInt32.toInt ≤ 9999) (hS : ST K P mb r W) (hb : 130 * (s : Int) ≤ brs mb ∧ brs mb ≤ 130 * s + 100) (hc : 420 * (s : Int) ≤ cds mb) (hG : r.1 = 0 → opn mb = 0 ∧ cds mb ≤ 420 * s + tt mb ∧ 4 * (brs mb - 130 * s) + 1 ≤ tt mb) (hQ : ∀ m', LX mb s m' → LXx mb s k m' → ST K P m' (rb r (fun n => rb (gnd K 61 n) (gIf K 4))) W → ((rb r (fun n => rb (gnd K 61 n) (gIf K 4))).1 = 0 → LRb m' s k (lDf (lIf K V 4 (r.2 + 1)))) → Q m') : c_X12_tellLaw_70 6 x1 mb Q := by
  have hfl := hS.fl
  have hx1 : 0 ≤ x1.toInt ∧ x1.toInt ≤ 3 := by omega
  have st0 : LY K P mb s 1 100 mb r W := by
    refine ⟨⟨⟨fun _ _ _ => rfl, fun _ _ _ _ _ _ _ _ _ _ => rfl, fun _ _ _ _ _ => rfl, fun _ _ => ⟨rfl, rfl⟩, Wz.eq rfl⟩, hS.2.2, Int.le_refl _, hfl.1, ⟨Int.le_refl _, hb.2⟩, fun h0 => ?_⟩, rfl, hS⟩
    have g := hG (hfl.2.mp h0)
    exact ⟨h0, g.1, ⟨Int.le_refl _, g.2.1⟩, g.2.2⟩
  have lxx : ∀ m' : dM, LF mb s m' → (∀ j : Nat, j ≠ 4 * s + k → m'.1 95 j = mb.1 95 j ∧ m'.1 96 j = mb.1 96 j) → LXx mb s k m' := fun m' h1 h2 => ⟨h2, h1.2.2.1, h1.2.2.2.1⟩
  refine v_X12_tellLaw_70 ?_
  refine Wp.deep (st0.must (k := 61) hv hR (by decide) (by unfold vk; omega) (by decide) (fun m1 h1 st1 => ?_)) (Nat.le_of_ble_eq_true rfl)
  have eb1 : m1.1 70 40 = mb.1 70 40 := h1.2.1 40 (by decide) (by decide) (by decide) (by decide) (by decide)
  have kk : (rb r (gnd K 61)).1 = 0 → r.1 = 0 ∧ rb r (gnd K 61) = (0, r.2 + 1) ∧ r.2 + 1 ≤ 400 := fun q => by
    obtain ⟨q1, q2⟩ := rb_z q
    rw [q2] at q ⊢
    obtain ⟨k1, k2, k3⟩ := gnd_z rfl q
    exact ⟨q1, k1, by omega⟩
  refine (xl_main (x2 := m1.1 70 40) (T := rb r (fun n => rb (gnd K 61 n) (gIf K 4))) (PX := lIf K V 4 (r.2 + 1)) hs hc hb.1 hx1 hsd hv hR hV (fun m' h' hf' => ?_) (fun m' h' hf' hz => ?_) 5000).1 (0 : Int32) 0 m1 _ [] st1 (by decide) (by decide) rb_as (fun z => ?_) ?_
  · refine hQ m' ⟨fun k e1 e2 => h'.1.1.1 k e1 (by omega), h'.1.1.2.1, h'.2.1, fun q => by exfalso; omega⟩ (lxx m' h'.1.1 (fun j _ => by rw [h'.1.1.1 95 (by decide) (by decide), h'.1.1.1 96 (by decide) (by decide)]; exact ⟨rfl, rfl⟩)) h'.2.2 (fun q => ?_)
    have := h'.2.2.fl.2.mpr q
    exfalso; omega
  · have h6 := h'.1.2.2.2.2.2 hf'
    have zT := h'.2.2.fl.2.mp hf'
    have e19 : (m'.1 70 19).toInt = s := by rw [h'.1.1.2.1 19 (by decide) (by decide) (by decide) (by decide) (by decide) (by decide) (by decide) (by decide) (by decide)]; exact hsd
    have ei := y_idx (C := 4) (c := (4 : Int32)) (by decide) e19 hs hk (by decide) (by omega)
    have h5 := h'.1.2.2.2.2.1
    have LF' : LF mb s m' := h'.1.1
    refine hQ _ ⟨fun k e1 e2 => by rw [dSet_k (by omega), dSet_k (by omega)]; exact h'.1.1.1 k e1 (by omega), h'.1.1.2.1, h'.2.1, fun _ => ⟨h6.2.1, h6.2.2.1, h'.1.2.2.2.2.1.1, ?_⟩⟩ ⟨fun j hj => ?_, fun c j e1 e2 e3 => ?_, fun j e => ?_⟩ ((h'.2.2.k (by decide)).k (by decide)) (fun _ => ?_)
    · have w := h6.2.2.2
      show 4 * (brs m' - 130 * s) ≤ tt m'
      omega
    · rw [d_cn ei, dSet_k (show 95 ≠ 96 by decide), dSet_j hj, dSet_j hj, dSet_k (show 96 ≠ 95 by decide), LF'.1 95 (by decide) (by decide), LF'.1 96 (by decide) (by decide)]
      exact ⟨rfl, rfl⟩
    · rw [dSet_k (by omega), dSet_k (by omega)]; exact LF'.2.2.1 c j e1 e2 e3
    · rw [dSet_k (by omega), dSet_k (by omega), dSet_k (by omega), dSet_k (by omega)]; exact LF'.2.2.2.1 j e
    · have zk : (rb r (gnd K 61)).1 = 0 := by
        rw [← rb_as] at zT
        exact (rb_z zT).1
      obtain ⟨z0, zk2, zk3⟩ := kk zk
      have zI : (gIf K 4 (r.2 + 1)).1 = 0 := by
        rw [← rb_as, zk2] at zT
        exact zT
      obtain ⟨⟨q, q1, q2⟩, hw⟩ := lIf_ok hV 4 (r.2 + 1) zk3 zI
      have eN : ((m'.1 70 40).toInt) = brs m' := rfl
      exact hz.lrb hs hk4 (by omega) (by omega) (by omega) hw (by omega) (by rw [eb1]; rfl) eN (d_cn ei) (d_cn ei)
  · obtain ⟨z0, zk2, zk3⟩ := kk z
    rw [zk2]
    refine ⟨by unfold brs; rw [eb1]; show _ = (mb.1 70 40).toInt + ((0 : Nat) : Int); omega, ⟨?_, ⟨?_, fun j hj => absurd hj (Nat.not_lt_zero j)⟩, fun i hi => absurd hi (Nat.not_lt_zero i)⟩, rfl, rfl⟩
    · show cds m1 = cds mb + 0
      have : cds m1 = cds mb := by unfold cds; rw [h1.2.1 46 (by decide) (by decide) (by decide) (by decide) (by decide)]
      omega
    · show (cds mb).toNat + 0 ≤ 840
      have := (hG z0).2.1
      have := hS.2.2
      omega
  · have k4 := h1.2.2.2.1
    unfold mu
    have := h1.2.2.1
    rcases k4 with z | z
    · left; omega
    · right; omega
end RLY
end
section
/-! THE REFERENCE's house, exactly: what each tell has stored, at the side s -/
def HM (V : Nat → Int64) (s : Nat) (st : mSt) (m : dM) : Prop :=
  (∀ i : Nat, i < st.1.length → m.1 81 (7 * s + i) = (V (st.1.getD i 0 + 2)).toInt32) ∧
  (∀ w : Nat, w < st.2.1.length → m.1 85 (10 * s + w) = (V ((st.2.1.getD w (0, 0, 0)).1 + 3)).toInt32) ∧
  (∀ u : Nat, u < st.2.2.1.length → (m.1 87 (8 * s + u)).toInt = ((st.2.2.1.getD u (0, 0)).2 : Int) ∧ m.1 88 (8 * s + u) = (V ((st.2.2.1.getD u (0, 0)).1 + 3)).toInt32 ∧ m.1 89 (8 * s + u) = (V ((st.2.2.1.getD u (0, 0)).1 + 4)).toInt32 ∧ m.1 90 (8 * s + u) = (V ((st.2.2.1.getD u (0, 0)).1 + 5)).toInt32) ∧
  m.1 91 s = oV V st.2.2.2.1 1 0 ∧ m.1 92 s = oV V st.2.2.2.1 2 0 ∧ m.1 93 s = oV V st.2.2.2.2.1 1 100 ∧ m.1 94 s = oV V st.2.2.2.2.2 1 0
section RHO
variable {V : Nat → Int64} {s : Nat} {st : mSt} {m m' : dM}
theorem HM.of (h : HM V s st m) (hk : ∀ k : Nat, k = 81 ∨ k = 85 ∨ (87 ≤ k ∧ k ≤ 94) → m'.1 k = m.1 k) : HM V s st m' := by
  unfold HM
  rw [hk 81 (by omega), hk 85 (by omega), hk 87 (by omega), hk 88 (by omega), hk 89 (by omega), hk 90 (by omega), hk 91 (by omega), hk 92 (by omega), hk 93 (by omega), hk 94 (by omega)]
  exact h
theorem HM.flat {n : Nat} (h : HM V s st m) (h81 : ∀ j : Nat, m'.1 81 j = if j = 7 * s + st.1.length then (V (n + 2)).toInt32 else m.1 81 j) (hk : ∀ k : Nat, k = 85 ∨ (87 ≤ k ∧ k ≤ 94) → m'.1 k = m.1 k) : HM V s (st.1 ++ [n], st.2) m' := by
  obtain ⟨a1, a2, a3, a4⟩ := h
  unfold HM
  rw [hk 85 (by omega), hk 87 (by omega), hk 88 (by omega), hk 89 (by omega), hk 90 (by omega), hk 91 (by omega), hk 92 (by omega), hk 93 (by omega), hk 94 (by omega)]
  refine ⟨fun i hi => ?_, a2, a3, a4⟩
  have hi : i < (st.1 ++ [n]).length := hi
  show m'.1 81 (7 * s + i) = (V ((st.1 ++ [n]).getD i 0 + 2)).toInt32
  rw [List.length_append] at hi
  have hi : i < st.1.length + 1 := hi
  rw [h81]
  by_cases q : i = st.1.length
  · rw [if_pos (by omega), q, getD_last]
  · rw [if_neg (by omega), getD_app (by omega)]; exact a1 i (by omega)
theorem HM.wire {n a b : Nat} (h : HM V s st m) (h85 : ∀ j : Nat, m'.1 85 j = if j = 10 * s + st.2.1.length then (V (n + 3)).toInt32 else m.1 85 j) (hk : ∀ k : Nat, k = 81 ∨ (87 ≤ k ∧ k ≤ 94) → m'.1 k = m.1 k) : HM V s (st.1, st.2.1 ++ [(n, a, b)], st.2.2) m' := by
  obtain ⟨a1, a2, a3, a4⟩ := h
  unfold HM
  rw [hk 81 (by omega), hk 87 (by omega), hk 88 (by omega), hk 89 (by omega), hk 90 (by omega), hk 91 (by omega), hk 92 (by omega), hk 93 (by omega), hk 94 (by omega)]
  refine ⟨a1, fun w hw => ?_, a3, a4⟩
  have hw : w < (st.2.1 ++ [(n, a, b)]).length := hw
  show m'.1 85 (10 * s + w) = (V (((st.2.1 ++ [(n, a, b)]).getD w (0, 0, 0)).1 + 3)).toInt32
  rw [List.length_append] at hw
  have hw : w < st.2.1.length + 1 := hw
  rw [h85]
  by_cases q : w = st.2.1.length
  · rw [if_pos (by omega), q, getD_last]
  · rw [if_neg (by omega), getD_app (by omega)]; exact a2 w (by omega)
theorem HM.use {n a : Nat} {v : Int32} (h : HM V s st m) (hv : v.toInt = (a : Int)) (h87 : ∀ j : Nat, m'.1 87 j = if j = 8 * s + st.2.2.1.length then v else m.1 87 j) (h88 : ∀ j : Nat, m'.1 88 j = if j = 8 * s + st.2.2.1.length then (V (n + 3)).toInt32 else m.1 88 j) (h89 : ∀ j : Nat, m'.1 89 j = if j = 8 * s + st.2.2.1.length then (V (n + 4)).toInt32 else m.1 89 j) (h90 : ∀ j : Nat, m'.1 90 j = if j = 8 * s + st.2.2.1.length then (V (n + 5)).toInt32 else m.1 90 j) (hk : ∀ k : Nat, k = 81 ∨ k = 85 ∨ (91 ≤ k ∧ k ≤ 94) → m'.1 k = m.1 k) : HM V s (st.1, st.2.1, st.2.2.1 ++ [(n, a)], st.2.2.2) m' := by
  obtain ⟨a1, a2, a3, a4⟩ := h
  unfold HM
  rw [hk 81 (by omega), hk 85 (by omega), hk 91 (by omega), hk 92 (by omega), hk 93 (by omega), hk 94 (by omega)]
  refine ⟨a1, a2, fun u hu => ?_, a4⟩
  have hu : u < (st.2.2.1 ++ [(n, a)]).length := hu
  show (m'.1 87 (8 * s + u)).toInt = (((st.2.2.1 ++ [(n, a)]).getD u (0, 0)).2 : Int) ∧ m'.1 88 (8 * s + u) = (V (((st.2.2.1 ++ [(n, a)]).getD u (0, 0)).1 + 3)).toInt32 ∧ m'.1 89 (8 * s + u) = (V (((st.2.2.1 ++ [(n, a)]).getD u (0, 0)).1 + 4)).toInt32 ∧ m'.1 90 (8 * s + u) = (V (((st.2.2.1 ++ [(n, a)]).getD u (0, 0)).1 + 5)).toInt32
  rw [List.length_append] at hu
  have hu : u < st.2.2.1.length + 1 := hu
  rw [h87, h88, h89, h90]
  by_cases q : u = st.2.2.1.length
  · rw [if_pos (by omega), if_pos (by omega), if_pos (by omega), if_pos (by omega), q, getD_last]
    exact ⟨hv, rfl, rfl, rfl⟩
  · rw [if_neg (by omega), if_neg (by omega), if_neg (by omega), if_neg (by omega), getD_app (by omega)]
    exact a3 u (by omega)
theorem HM.sur {n : Nat} (h : HM V s st m) (h91 : m'.1 91 s = (V (n + 1)).toInt32) (h92 : m'.1 92 s = (V (n + 2)).toInt32) (hk : ∀ k : Nat, k = 81 ∨ k = 85 ∨ (87 ≤ k ∧ k ≤ 90) ∨ k = 93 ∨ k = 94 → m'.1 k = m.1 k) : HM V s (st.1, st.2.1, st.2.2.1, (some n, st.2.2.2.2)) m' := by
  obtain ⟨a1, a2, a3, a4, a5, a6, a7⟩ := h
  unfold HM
  rw [hk 81 (by omega), hk 85 (by omega), hk 87 (by omega), hk 88 (by omega), hk 89 (by omega), hk 90 (by omega), hk 93 (by omega), hk 94 (by omega)]
  exact ⟨a1, a2, a3, h91, h92, a6, a7⟩
theorem HM.coi {n : Nat} (h : HM V s st m) (h93 : m'.1 93 s = (V (n + 1)).toInt32) (hk : ∀ k : Nat, k = 81 ∨ k = 85 ∨ (87 ≤ k ∧ k ≤ 92) ∨ k = 94 → m'.1 k = m.1 k) : HM V s (st.1, st.2.1, st.2.2.1, (st.2.2.2.1, some n, st.2.2.2.2.2)) m' := by
  obtain ⟨a1, a2, a3, a4, a5, a6, a7⟩ := h
  unfold HM
  rw [hk 81 (by omega), hk 85 (by omega), hk 87 (by omega), hk 88 (by omega), hk 89 (by omega), hk 90 (by omega), hk 91 (by omega), hk 92 (by omega), hk 94 (by omega)]
  exact ⟨a1, a2, a3, a4, a5, h93, a7⟩
theorem HM.see {n : Nat} (h : HM V s st m) (h94 : m'.1 94 s = (V (n + 1)).toInt32) (hk : ∀ k : Nat, k = 81 ∨ k = 85 ∨ (87 ≤ k ∧ k ≤ 93) → m'.1 k = m.1 k) : HM V s (st.1, st.2.1, st.2.2.1, (st.2.2.2.1, st.2.2.2.2.1, some n)) m' := by
  obtain ⟨a1, a2, a3, a4, a5, a6, a7⟩ := h
  unfold HM
  rw [hk 81 (by omega), hk 85 (by omega), hk 87 (by omega), hk 88 (by omega), hk 89 (by omega), hk 90 (by omega), hk 91 (by omega), hk 92 (by omega), hk 93 (by omega)]
  exact ⟨a1, a2, a3, a4, a5, a6, h94⟩
end RHO
def NH (V : Nat → Int64) (s : Nat) (st : mSt) (m : dM) : Prop := NM V s st m ∧ HM V s st m
theorem NH.cx {V : Nat → Int64} {s : Nat} {st : mSt} {m m' : dM} (h : NH V s st m) (hc : Cx m m') : NH V s st m' := ⟨h.1.cx hc, h.2.of (fun k e => hc.1 k (by omega))⟩
/-! THE REFERENCE's tells, with its house, its laws, and the live side kept -/
/-- places of the side L -/
def lvS (L k j : Nat) : Prop := ((k = 80 ∨ k = 82 ∨ k = 86 ∨ (91 ≤ k ∧ k ≤ 94)) ∧ j = L) ∨ (k = 81 ∧ 7 * L ≤ j ∧ j < 7 * L + 7) ∨ ((83 ≤ k ∧ k ≤ 85) ∧ 10 * L ≤ j ∧ j < 10 * L + 10) ∨ ((87 ≤ k ∧ k ≤ 90) ∧ 8 * L ≤ j ∧ j < 8 * L + 8) ∨ ((k = 95 ∨ k = 96) ∧ 4 * L ≤ j ∧ j < 4 * L + 4) ∨ ((97 ≤ k ∧ k ≤ 101) ∧ 130 * L ≤ j ∧ j < 130 * L + 130) ∨ ((k = 102 ∨ k = 103) ∧ 420 * L ≤ j ∧ j < 420 * L + 420)
theorem lvS_k {L k j : Nat} (h : lvS L k j) : 80 ≤ k ∧ k ≤ 103 := by unfold lvS at h; omega
def FXv (m0 : dM) (L : Nat) (m : dM) : Prop := FX m0 L m ∧ ∀ k j : Nat, lvS L k j → m.1 k j = m0.1 k j
def LDs (m : dM) (s : Nat) (Ds : Nat → lD) : Prop := ∀ k : Nat, k < 4 → LRb m s k (Ds k)
theorem LDs.of {m m' : dM} {s : Nat} {Ds : Nat → lD} (h : LDs m s Ds) (e : ∀ c : Nat, 95 ≤ c → c ≤ 103 → m'.1 c = m.1 c) (e40 : m'.1 70 40 = m.1 70 40) (e46 : m'.1 70 46 = m.1 70 46) : LDs m' s Ds := fun k hk => (h k hk).of e e40 e46
theorem LDs.cx {m m' : dM} {s : Nat} {Ds : Nat → lD} (h : LDs m s Ds) (hc : Cx m m') : LDs m' s Ds := h.of (fun c h1 h2 => hc.1 c (by omega)) (hc.2.1 40 (by decide) (by decide) (by decide) (by decide) (by decide)) (hc.2.1 46 (by decide) (by decide) (by decide) (by decide) (by decide))
def TIv (K : Nat → Int) (V : Nat → Int64) (P : Nat → Nat) (m0 : dM) (L s cf cw cu n : Nat) (W : gR) (st : mSt) (Ds : Nat → lD) (m : dM) : Prop := ST K P m (0, n) W ∧ RM K V P m ∧ FXv m0 L m ∧ CT s cf cw cu m ∧ LQ s m ∧ (W.1 ≠ 0 → W.2 < n) ∧ (W.1 = 0 → NH V s st m ∧ st.1.length = cf ∧ st.2.1.length = cw ∧ st.2.2.1.length = cu) ∧ LDs m s Ds
section RFV
variable {K : Nat → Int} {V : Nat → Int64} {P : Nat → Nat} {m0 m m' : dM} {L s cf cw cu n : Nat} {W : gR} {st : mSt} {Ds : Nat → lD}
theorem FXv.cx (h : FXv m0 L m) (hc : Cx m m') : FXv m0 L m' := ⟨h.1.cx hc, fun k j q => by have := lvS_k q; rw [hc.1 k (by omega)]; exact h.2 k j q⟩
theorem FXv.set {k j : Nat} {v : Int32} (h : FXv m0 L m) (hk : 72 ≤ k) (hk2 : k ≤ 104) (hj : ¬ lvS L k j) : FXv m0 L (dSet m k j v) := ⟨h.1.set hk hk2 (fun e e2 => hj (by unfold lvS; omega)), fun a b q => by
  rw [dSet_e, if_neg (fun w => hj (by rw [← w.1, ← w.2]; exact q))]
  exact h.2 a b q⟩
theorem FXv.en {N : Nat} {y : Int64} {v : Int32} (h : FXv m0 L m) (he : EN N y v m m') : FXv m0 L m' := ⟨h.1.en he, fun k j q => by have := lvS_k q; rw [he.1 k (by omega) (by omega)]; exact h.2 k j q⟩
theorem FXv.sd (h : FXv m0 L m) (hsd : (m0.1 70 19).toInt = (s : Int)) : (m.1 70 19).toInt = (s : Int) ∧ (m.1 70 19).toNatClampNeg = s := h.1.sd hsd
theorem x_flat {Q : dM → Prop} (hL : L + s = 1) (hsd : (m0.1 70 19).toInt = (s : Int)) (hv : ∀ i, vk (K i)) (hP : ∀ i j : Nat, i < j → lvK K j → P i < P j) (hT : TIv K V P m0 L s cf cw cu n W st Ds m) (hk : K n = 0)
    (hB : (gTell K cf cw cu n).1 ≠ 0 → ∀ (m' : dM) (W' : gR), ST K P m' (gTell K cf cw cu n) W' → FXv m0 L m' → Q m')
    (hG : (gTell K cf cw cu n).1 = 0 → ∀ (m' : dM) (W' : gR) (st' : mSt), TIv K V P m0 L s (cf + ct (K n) 0) (cw + ct (K n) 1) (cu + ct (K n) 2) (gTell K cf cw cu n).2 W' st' Ds m' → WN K V n W st W' st' → Q m') (fin : ∀ m', Q m' → j_X12_tellOne_70_371 8 m' Q) :
    c_X12_roomFor_70 7 (m.1 80 (m.1 70 19).toNatClampNeg) (7 : Int32) m (fun m1 => (((m1.1 70 13).toInt ≤ 0 → c_X12_named_70 7 m1 (fun r2 m2 => ((0 ≤ (m2.1 70 19).toInt ∧ (m2.1 70 19).toInt < 2) ∧ c_X12_bounded_70 7 (0 : Int32) (9 : Int32) m2 (fun r3 m3 => ((0 ≤ (((7 : Int32) * (m2.1 70 19)) + (m2.1 80 (m2.1 70 19).toNatClampNeg)).toInt ∧ (((7 : Int32) * (m2.1 70 19)) + (m2.1 80 (m2.1 70 19).toNatClampNeg)).toInt < 14) ∧ ((0 ≤ (m3.1 70 19).toInt ∧ (m3.1 70 19).toInt < 2) ∧ c_X12_endsName_70 7 r2 (m3.1 80 (m3.1 70 19).toNatClampNeg) (dSet m3 81 (((7 : Int32) * (m2.1 70 19)) + (m2.1 80 (m2.1 70 19).toNatClampNeg)).toNatClampNeg r3) (fun m4 => (((m4.1 70 13).toInt ≠ 0 → j_X12_tellOne_70_371 (7 + 1) m4 Q) ∧ ((m4.1 70 13).toInt = 0 → ((0 ≤ (m4.1 70 19).toInt ∧ (m4.1 70 19).toInt < 2) ∧ ((0 ≤ (m4.1 70 19).toInt ∧ (m4.1 70 19).toInt < 2) ∧ j_X12_tellOne_70_371 (7 + 1) (dSet m4 80 (m4.1 70 19).toNatClampNeg ((m4.1 80 (m4.1 70 19).toNatClampNeg) + (1 : Int32))) Q)))))))))) ) ∧ (0 < (m1.1 70 13).toInt → Q m1))) := by
  have hs : s ≤ 1 := by omega
  obtain ⟨hS, hR, hF, hC, hQ, hW, hN, hD⟩ := hT
  have hC5 := hC.2.2.2.2
  have sd := hF.sd hsd
  have gT : gTell K cf cw cu n = if 7 ≤ cf then (2, n) else rb (gst n) (gsq K [22, 23, 59]) := by unfold gTell; rw [if_pos hk]
  have mT : mTell K V n st = mFlat V n st := by unfold mTell; rw [if_pos hk]
  rw [sd.2]
  refine Wp.deep (q_roomFor (most := 7) hR hS (by omega) hC.1 (by decide) hC.2.2.2.2.1 (fun m1 c1 h1 => ?_)) (Nat.le_of_ble_eq_true rfl)
  have f1 := h1.fl
  have e13 : (m1.1 70 13).toInt = flt m1 := rfl
  refine ⟨fun q => ?_, fun q => ?_⟩
  rotate_left
  · have z : (if 7 ≤ cf then ((2, n) : gR) else gst n).1 ≠ 0 := fun z => by have := f1.2.mpr z; omega
    have eT : gTell K cf cw cu n = if 7 ≤ cf then (2, n) else gst n := by
      rw [gT]
      by_cases q7 : 7 ≤ cf
      · rw [if_pos q7, if_pos q7]
      · rw [if_neg q7] at z
        rw [if_neg q7, if_neg q7, rb_f z]
    refine hB (by rw [eT]; exact z) m1 W (by rw [eT]; exact h1) (hF.cx c1)
  have z1 : (if 7 ≤ cf then ((2, n) : gR) else gst n).1 = 0 := f1.2.mp (by omega)
  have c7 : ¬ 7 ≤ cf := fun q7 => by rw [if_pos q7] at z1; exact absurd z1 (Nat.succ_ne_zero 1)
  rw [if_neg c7] at z1 h1 gT
  have g1 := gst_z z1
  rw [g1.1] at h1 gT
  have gT4 : gTell K cf cw cu n = rb (rb (gnd K 22 (n + 1)) (gnd K 23)) (gnd K 59) := by rw [gT, gsq_r, gsq_r, gsq_r, rb_id, rb_0]
  have C1 := hC.cx c1
  have F1 := hF.cx c1
  refine Wp.deep (q_named hv hP (hR.cx c1) h1 C1.2.2.2.1 (by omega) (fun w => by have := hW w; omega) (fun m2 W2 c2 h2 hw2 => ?_)) (Nat.le_of_ble_eq_true rfl)
  have c12 := c1.tr c2
  have F2 := hF.cx c12
  have C2 := hC.cx c12
  have sd2 := F2.sd hsd
  refine ⟨by omega, ?_⟩
  have hW2 : (gnd K 22 (n + 1)).1 = 0 → W2.1 ≠ 0 → W2.2 < (gnd K 22 (n + 1)).2 := fun z w => by
    have e := (gnd_0 z).1
    rw [e]
    show W2.2 < n + 1 + 1
    rcases hw2 z with ⟨-, e2⟩ | ⟨-, e2⟩
    · rw [e2] at w ⊢
      by_cases q0 : W.1 = 0
      · rw [wadd_z q0]; show n + 1 < n + 1 + 1; omega
      · rw [wadd_n q0]; have := hW q0; omega
    · rw [e2] at w ⊢; have := hW w; omega
  refine Wp.deep (q_bounded hv hP (hR.cx c12) h2 hW2 (fun v3 m3 W3 c3 h3 hw3 => ?_)) (Nat.le_of_ble_eq_true rfl)
  have c13 := c12.tr c3
  have F3 := hF.cx c13
  have C3 := hC.cx c13
  have sd3 := F3.sd hsd
  rw [sd2.2, sd3.2]
  have fm := dMulE (X := 7) (Y := (s : Int)) (x := (7 : Int32)) (y := m2.1 70 19) (by decide) sd2.1 (by omega) (by omega)
  have fa := dAddE (X := 7 * (s : Int)) (Y := (cf : Int)) (x := (7 : Int32) * m2.1 70 19) (y := m2.1 80 s) fm C2.1 (by omega) (by omega)
  refine ⟨by omega, ⟨by omega, ?_⟩⟩
  have e11 : (m1.1 70 11).toInt = ((n + 1 : Nat) : Int) := (h1.1 rfl).2.1
  have F3' : FXv m0 L (dSet m3 81 (((7 : Int32) * (m2.1 70 19)) + (m2.1 80 s)).toNatClampNeg v3) := F3.set (by decide) (by decide) (by rw [d_cn (i := 7 * s + cf) (by rw [fa]; omega)]; unfold lvS; omega)
  have S3' : ST K P (dSet m3 81 (((7 : Int32) * (m2.1 70 19)) + (m2.1 80 s)).toNatClampNeg v3) (rb (gnd K 22 (n + 1)) (gnd K 23)) W3 := h3.k (by decide)
  have R3' : RM K V P (dSet m3 81 (((7 : Int32) * (m2.1 70 19)) + (m2.1 80 s)).toNatClampNeg v3) := (hR.cx c13).of (fun k a b => dSet_k (by omega)) rfl
  have k3' : ∀ k : Nat, k ≠ 81 → (dSet m3 81 (((7 : Int32) * (m2.1 70 19)) + (m2.1 80 s)).toNatClampNeg v3).1 k = m3.1 k := fun k e => dSet_k e
  have m81 : ∀ j : Nat, (dSet m3 81 (((7 : Int32) * (m2.1 70 19)) + (m2.1 80 s)).toNatClampNeg v3).1 81 j = if j = 7 * s + cf then v3 else m3.1 81 j := fun j => by
    rw [d_cn (i := 7 * s + cf) (by rw [fa]; omega), dSet_e]
    by_cases q : j = 7 * s + cf
    · rw [if_pos ⟨rfl, q⟩, if_pos q]
    · rw [if_neg (fun w => q w.2), if_neg q]
  have l3' : (dSet m3 81 (((7 : Int32) * (m2.1 70 19)) + (m2.1 80 s)).toNatClampNeg v3).2 = m3.2 := rfl
  generalize dSet m3 81 (((7 : Int32) * (m2.1 70 19)) + (m2.1 80 s)).toNatClampNeg v3 = M3 at F3' S3' R3' k3' l3' m81 ⊢
  have N3 : nms M3 = ((cf + cu : Nat) : Int) := by unfold nms; rw [k3' 70 (by decide)]; exact C3.2.2.2.1
  refine Wp.deep (q_endsName (N := cf + cu) (tok := n + 1) hv R3' S3' e11 (by omega) N3 (by omega) (fun z4 m4 c4 h4 => ?_) (fun z4 m4 E4 h4 => ?_)) (Nat.le_of_ble_eq_true rfl)
  · rw [← gT4] at z4 h4
    have f4 := h4.fl
    exact ⟨fun _ => fin m4 (hB z4 m4 W3 h4 (F3'.cx c4)), fun q => absurd (f4.2.mp q) z4⟩
  · have r4 := rb_z z4
    have r3 := rb_z r4.1
    have t4 : gTell K cf cw cu n = (0, n + 4) := by
      rw [gT4, r4.2, r3.2, (gnd_0 r3.1).1]
      have a1 := r4.1
      rw [r3.2, (gnd_0 r3.1).1] at a1
      have a1 : (gnd K 23 (n + 1 + 1)).1 = 0 := a1
      show gnd K 59 (gnd K 23 (n + 1 + 1)).2 = _
      have a2 := z4
      rw [r4.2, r3.2, (gnd_0 r3.1).1] at a2
      have a2 : (gnd K 59 (gnd K 23 (n + 1 + 1)).2).1 = 0 := a2
      rw [(gnd_0 a1).1] at a2 ⊢
      have a2 : (gnd K 59 (n + 1 + 1 + 1)).1 = 0 := a2
      show gnd K 59 (n + 1 + 1 + 1) = _
      rw [(gnd_0 a2).1]
    rw [← gT4] at z4 h4
    have f4 := h4.fl
    have F4 := F3'.en E4
    have sd4 := F4.sd hsd
    rw [sd4.2]
    refine ⟨fun q => absurd (f4.2.mpr z4) q, fun _ => ⟨by omega, ⟨by omega, fin _ ?_⟩⟩⟩
    have e80 : m4.1 80 s = m3.1 80 s := by rw [E4.1 80 (by decide) (by decide), k3' 80 (by decide)]
    have e80' : (m4.1 80 s).toInt = (cf : Int) := by rw [e80]; exact C3.1
    have hw2' := hw2 r3.1
    have hw3' := hw3 r4.1
    have v21 : (gnd K 22 (n + 1)).2 = n + 2 := by rw [(gnd_0 r3.1).1]
    rw [v21] at hw3'
    have yn : M3.2.1 76 (n + 1) = V (n + 1) := by
      have hk1 := (gnd_0 r3.1).2.1
      exact (R3' (n + 1) (by omega) (h1.1 rfl).2.2.2.1).2.2.1 (by omega)
    rw [yn] at E4
    have cK : ct (K n) 0 = 1 ∧ ct (K n) 1 = 0 ∧ ct (K n) 2 = 0 := by rw [hk]; decide
    rw [t4] at h4 z4
    have S4 : ST K P (dSet m4 80 s (m4.1 80 s + 1)) (0, n + 4) W3 := h4.k (by decide)
    have R4 : RM K V P (dSet m4 80 s (m4.1 80 s + 1)) := R3'.of (fun k a b => by rw [dSet_k (by omega)]; exact E4.1 k (by omega) (by omega)) (by show m4.2.1 76 = M3.2.1 76; exact E4.2.2.2.2.1 76 (by decide))
    have tt4 : tt m4 = ((n + 4 : Nat) : Int) := (h4.1 rfl).2.1
    have tt0 : tt m = (n : Int) := (hS.1 rfl).2.1
    have jj : ∀ j : Nat, j = 12 ∨ j = 40 ∨ j = 46 → m4.1 70 j = m.1 70 j := fun j e => by rw [E4.2.1 j (by omega) (by omega) (by omega) (by omega) (by omega) (by omega), k3' 70 (by decide), c13.2.1 j (by omega) (by omega) (by omega) (by omega) (by omega)]
    have Q4 : LQ s (dSet m4 80 s (m4.1 80 s + 1)) := hQ.j (jj 12 (by omega)) (jj 46 (by omega)) (jj 40 (by omega)) (by show tt m ≤ tt m4; omega)
    have C4 : CT s (cf + 1) cw cu (dSet m4 80 s (m4.1 80 s + 1)) := by
      refine ⟨by rw [dSet_s]; exact d_inc e80' (by omega), ?_, ?_, ?_, by omega, by omega, by omega⟩
      · rw [dSet_k (by decide), E4.1 82 (by decide) (by decide), k3' 82 (by decide)]; exact C3.2.1
      · rw [dSet_k (by decide), E4.1 86 (by decide) (by decide), k3' 86 (by decide)]; exact C3.2.2.1
      · show (m4.1 70 20).toInt = _
        rw [E4.2.2.1]
        omega
    have key : (W3.1 ≠ 0 → W3.2 < n + 4) ∧ ∃ st' : mSt, (W3.1 = 0 → NH V s st' (dSet m4 80 s (m4.1 80 s + 1)) ∧ st'.1.length = cf + 1 ∧ st'.2.1.length = cw ∧ st'.2.2.1.length = cu) ∧ WN K V n W st W3 st' := by
      unfold WN
      rw [mT]
      by_cases w0 : W.1 = 0
      · obtain ⟨⟨hN1, hH1⟩, hl1, hl2, hl3⟩ := hN w0
        have kn : (∃ k : Nat, k < cf + cu ∧ m1.2.1 78 k = V (n + 1)) ↔ knw V st (V (n + 1)) = true := by
          rw [c1.2.2, ← hl1, ← hl3]; exact hN1.kn
        rcases hw2' with ⟨ex, e2⟩ | ⟨ex, e2⟩
        · have kt := kn.mp ex
          rw [wadd_z w0] at e2
          have e3 : W3 = (3, n + 1) := by
            rw [hw3'.2, e2]
            split
            · rfl
            · exact wadd_n (Nat.succ_ne_zero 2)
          have mf : mFlat V n st = ((3, n + 1), st) := by unfold mFlat; rw [kt]; rfl
          rw [e3, mf]
          exact ⟨fun _ => by show n + 1 < n + 4; omega, st, fun q => absurd q (Nat.succ_ne_zero 2), fun q => absurd w0 q, fun _ => ⟨fun q => absurd q (Nat.succ_ne_zero 2), fun _ => rfl⟩⟩
        · have kf : knw V st (V (n + 1)) = false := by
            cases hh : knw V st (V (n + 1)) with
            | false => rfl
            | true =>
              obtain ⟨k, k1, k2⟩ := kn.mpr hh
              exact absurd k2 (ex k k1)
          have mf : mFlat V n st = bnd V (n + 2) 0 9 ((0, 0), (st.1 ++ [n], st.2)) st := by unfold mFlat; rw [kf]; rfl
          rw [mf]
          unfold bnd
          have e3 := hw3'.2
          rw [e2] at e3
          by_cases inb : (0 : Int) ≤ iV V (n + 2) ∧ iV V (n + 2) ≤ 9
          · rw [if_pos inb] at ⊢
            rw [if_pos (show (0 : Int32).toInt ≤ iV V (n + 2) ∧ iV V (n + 2) ≤ (9 : Int32).toInt from inb)] at e3
            rw [e3]
            refine ⟨fun q => absurd w0 q, (st.1 ++ [n], st.2), fun _ => ⟨⟨?_, ?_⟩, ?_, hl2, hl3⟩, fun q => absurd w0 q, fun _ => ⟨fun _ => ⟨w0, rfl⟩, fun q => absurd rfl q⟩⟩
            · refine (hN1.cx c13).flat (N := cf + cu) (v := m3.1 80 s) (by omega) (by rw [hl1]; exact C3.1) kf (fun j => ?_) ?_ ?_ (fun j => ?_)
              · rw [dSet_k (by decide), E4.2.2.2.1 j, k3' 79 (by decide)]
              · rw [dSet_k (by decide), E4.1 83 (by decide) (by decide), k3' 83 (by decide)]
              · rw [dSet_k (by decide), E4.1 84 (by decide) (by decide), k3' 84 (by decide)]
              · show m4.2.1 78 j = _
                rw [E4.2.2.2.2.2.1 j, l3']
            · refine (hH1.of (m' := m3) (fun k e => c13.1 k (by omega))).flat (fun j => ?_) (fun k e => ?_)
              · rw [dSet_k (by decide), E4.1 81 (by decide) (by decide), m81, hl1, hw3'.1]
              · rw [dSet_k (by omega), E4.1 k (by omega) (by omega), k3' k (by omega)]
            · show (st.1 ++ [n]).length = cf + 1
              rw [List.length_append, hl1]; rfl
          · rw [if_neg inb]
            rw [if_neg (show ¬ ((0 : Int32).toInt ≤ iV V (n + 2) ∧ iV V (n + 2) ≤ (9 : Int32).toInt) from inb), wadd_z w0] at e3
            rw [e3]
            exact ⟨fun _ => by show n + 2 < n + 4; omega, st, fun q => absurd q (Nat.succ_ne_zero 4), fun q => absurd w0 q, fun _ => ⟨fun q => absurd q (Nat.succ_ne_zero 4), fun _ => rfl⟩⟩
      · have e2 : W2 = W := by
          rcases hw2' with ⟨-, e2⟩ | ⟨-, e2⟩
          · rw [e2, wadd_n w0]
          · exact e2
        have e3 : W3 = W := by
          rw [hw3'.2, e2]
          split
          · rfl
          · exact wadd_n w0
        rw [e3]
        exact ⟨fun q => by have := hW q; omega, st, fun q => absurd q w0, fun _ => rfl, fun q => absurd q w0⟩
    obtain ⟨kw, st', kn, kwn⟩ := key
    refine hG (by rw [t4]) _ W3 st' ?_ kwn
    rw [cK.1, cK.2.1, cK.2.2, t4]
    exact ⟨S4, R4, F4.set (by decide) (by decide) (by unfold lvS; omega), C4, Q4, kw, kn, hD.of (fun c h1 h2 => by rw [dSet_k (by omega), E4.1 c (by omega) (by omega), k3' c (by omega), c13.1 c (by omega)]) (jj 40 (by omega)) (jj 46 (by omega))⟩
end RFV
end
