/-! THE REFERENCE's expression: the codes that it puts -/
/-- what waits, the last first -/
def wL (g : Nat → Int32) : List Int → Prop
  | [] => True
  | w :: W => (g W.length).toInt = rk w ∧ (w = 40 ∨ w = 43 ∨ w = 45 ∨ w = 42 ∨ w = 47) ∧ wL g W
theorem wL_of {g g' : Nat → Int32} : ∀ (W : List Int), (∀ j : Nat, j < W.length → g' j = g j) → wL g W → wL g' W
  | [], _, _ => trivial
  | w :: W, e, h => by
    have e1 := e W.length (by rw [List.length_cons]; omega)
    exact ⟨by rw [e1]; exact h.1, h.2.1, wL_of W (fun j hj => e j (by rw [List.length_cons]; omega)) h.2.2⟩
theorem rk_op {w : Int} (h : w = 40 ∨ w = 43 ∨ w = 45 ∨ w = 42 ∨ w = 47) : (w = 40 ∧ rk w = 6) ∨ (w = 43 ∧ rk w = 8) ∨ (w = 45 ∧ rk w = 9) ∨ (w = 42 ∧ rk w = 10) ∨ (w = 47 ∧ rk w = 15) := by
  rcases h with rfl | rfl | rfl | rfl | rfl <;> decide
def xsT (x : Int32) : Bool := decide (x.toInt ≠ 0)
theorem SR.snoc {m : dM} {a : Nat} {L : lC} {x : Int32} (h : SR m a L) (hb : a + L.length < 840) (hx : cR (m.1 102 (a + L.length)) (m.1 103 (a + L.length)) x) : SR m a (L ++ [x]) := by
  refine ⟨by rw [List.length_append]; show a + (L.length + 1) ≤ 840; omega, fun j hj => ?_⟩
  rw [List.length_append] at hj
  have hj : j < L.length + 1 := hj
  by_cases q : j < L.length
  · rw [List.getD_eq_getElem?_getD, List.getElem?_append_left q, ← List.getD_eq_getElem?_getD]
    exact h.2 j q
  · have e : j = L.length := by omega
    subst e
    rw [List.getD_eq_getElem?_getD, List.getElem?_append_right (Nat.le_refl _), Nat.sub_self]
    exact hx
theorem SR.on {m m' : dM} {a : Nat} {L : lC} (h : SR m a L) (e : ∀ j : Nat, a ≤ j → j < a + L.length → m'.1 102 j = m.1 102 j ∧ m'.1 103 j = m.1 103 j) : SR m' a L := ⟨h.1, fun j hj => by rw [(e (a + j) (by omega) (by omega)).1, (e (a + j) (by omega) (by omega)).2]; exact h.2 j hj⟩
/-- what lies there when it has come out -/
def xO (x : Int32) (c0 : Nat) (L : List Int) (u : lC) (m : dM) (n q : Nat) : Prop := (fl (xsT x) L u).1.length = n ∧ (fl (xsT x) L u).2.length = q ∧ wL (m.1 104) (fl (xsT x) L u).1 ∧ SR m c0 (fl (xsT x) L u).2
theorem xcd {code x : Int32} (hc : 2 ≤ code.toInt ∧ code.toInt ≤ 5) (he : x = code - 2) : cR code 0 x := Or.inr (Or.inr ⟨hc.1, hc.2, he⟩)
theorem xo_1 {x1 : Int32} {Q : dM → Prop} {c0 : Nat} {B : Int} (hB : B ≤ 839) : ∀ (n : Nat) (m : dM) (o p c q : Nat) (L : List Int) (u : lC), n ≤ 64 → wtg m = n → Wk (m.1 104) n o p c → cds m = c0 + q → gDp m.1 q c0 0 (p + 1) → cds m + p ≤ B → L.length = n → u.length = q → wL (m.1 104) L → SR m c0 u →
    (∀ (m' : dM) (n' p' c' q' : Nat), CoF m p m' → wtg m' = n' → Wk (m'.1 104) n' o p' c' → c' ≤ 1 → (x1.toInt = 0 → c' = 0) → cds m' = c0 + q' → gDp m'.1 q' c0 0 (p' + 1) → cds m' + p' = cds m + p → q ≤ q' → m'.2 = m.2 → xO x1 c0 L u m' n' q' → Q m') → j_X12_comesOut_70_0 2 x1 m Q := by
  intro n
  induction n with
  | zero =>
    intro m o p c q L u hn hw hW hc hD hB' hL hu hWL hSR hQ
    have eL : L = [] := List.length_eq_zero_iff.mp hL
    subst eL
    have hW' : o = 0 ∧ p = 0 ∧ c = 0 := hW
    refine v_X12_comesOut_70_0 ⟨fun _ => hQ m 0 p c q ⟨fun _ _ _ _ => rfl, fun _ _ _ => rfl, fun _ _ => ⟨rfl, rfl⟩⟩ hw hW (by omega) (fun _ => hW'.2.2) hc hD rfl (Nat.le_refl _) rfl ⟨rfl, hu, trivial, hSR⟩, fun h => ?_⟩
    have h : 0 < wtg m := h
    exfalso; omega
  | succ n ih =>
    intro m o p c q L u hn hw hW hc hD hB' hL hu hWL hSR hQ
    obtain ⟨w, L', rfl⟩ : ∃ w L', L = w :: L' := by
      cases L with
      | nil => cases hL
      | cons w L' => exact ⟨w, L', rfl⟩
    have hL' : L'.length = n := by rw [List.length_cons] at hL; omega
    obtain ⟨hw1, hw2, hw3⟩ := hWL
    rw [hL'] at hw1
    have hop := rk_op hw2
    have ew : (m.1 70 50).toInt = wtg m := rfl
    have ec : (m.1 70 46).toInt = cds m := rfl
    have f := dSubE (X := wtg m) (Y := 1) (x := m.1 70 50) (y := (1 : Int32)) rfl (by decide) (by omega) (by omega)
    have ei : (m.1 70 50 - (1 : Int32)).toNatClampNeg = n := by
      have := d_cl (x := m.1 70 50 - (1 : Int32)) (by omega)
      omega
    have stay : (w = 40 ∨ (xsT x1 = true ∧ (w = 43 ∨ w = 45))) → c ≤ 1 → (x1.toInt = 0 → c = 0) → j_X12_comesOut_70_41 2 m Q := fun hst h1 h2 => v_X12_comesOut_70_41 (hQ m (n + 1) p c q ⟨fun _ _ _ _ => rfl, fun _ _ _ => rfl, fun _ _ => ⟨rfl, rfl⟩⟩ hw hW h1 h2 hc hD rfl (Nat.le_refl _) rfl (by unfold xO; rw [fl_s hst]; exact ⟨hL, hu, ⟨by rw [hL']; exact hw1, hw2, hw3⟩, hSR⟩))
    have out : ∀ (p1 c1 : Nat), p = p1 + 1 → Wk (m.1 104) n o p1 c1 → ¬ (w = 40 ∨ (xsT x1 = true ∧ (w = 43 ∨ w = 45))) → ∀ code : Int32, 2 ≤ code.toInt ∧ code.toInt ≤ 5 → opc w = code - 2 → c_X12_emit_70 1 code (0 : Int32) (dSet m 70 50 ((m.1 70 50) - (1 : Int32))) (fun m1 => j_X12_comesOut_70_0 2 x1 m1 Q) := by
      intro p1 c1 hp hW1 hst code hcode hopc
      refine v_X12_emit_70 ?_
      have ec' : ((dSet m 70 50 ((m.1 70 50) - (1 : Int32))).1 70 46) = m.1 70 46 := rfl
      rw [ec']
      have fc := dAddE (X := cds m) (Y := 1) (x := m.1 70 46) (y := (1 : Int32)) rfl (by decide) (by omega) (by omega)
      have eC : (m.1 70 46).toNatClampNeg = c0 + q := by
        have := d_cl (x := m.1 70 46) (by omega)
        omega
      refine ⟨by omega, ⟨by omega, ?_⟩⟩
      rw [eC]
      have r2 : ∀ j, j ≠ c0 + q → (dSet (dSet (dSet (dSet m 70 50 ((m.1 70 50) - (1 : Int32))) 102 (c0 + q) code) 103 (c0 + q) (0 : Int32)) 70 46 ((m.1 70 46) + (1 : Int32))).1 102 j = m.1 102 j ∧ (dSet (dSet (dSet (dSet m 70 50 ((m.1 70 50) - (1 : Int32))) 102 (c0 + q) code) 103 (c0 + q) (0 : Int32)) 70 46 ((m.1 70 46) + (1 : Int32))).1 103 j = m.1 103 j := fun j hj => by
        constructor
        · rw [dSet_k (by decide), dSet_k (by decide), dSet_j hj, dSet_k (by decide)]
        · rw [dSet_k (by decide), dSet_j hj, dSet_k (by decide), dSet_k (by decide)]
      have r1 : (dSet (dSet (dSet (dSet m 70 50 ((m.1 70 50) - (1 : Int32))) 102 (c0 + q) code) 103 (c0 + q) (0 : Int32)) 70 46 ((m.1 70 46) + (1 : Int32))).1 102 (c0 + q) = code := by rw [dSet_k (by decide), dSet_k (by decide), dSet_s]
      have r3 : (dSet (dSet (dSet (dSet m 70 50 ((m.1 70 50) - (1 : Int32))) 102 (c0 + q) code) 103 (c0 + q) (0 : Int32)) 70 46 ((m.1 70 46) + (1 : Int32))).1 103 (c0 + q) = 0 := by rw [dSet_k (by decide), dSet_s]
      generalize hM : (dSet (dSet (dSet (dSet m 70 50 ((m.1 70 50) - (1 : Int32))) 102 (c0 + q) code) 103 (c0 + q) (0 : Int32)) 70 46 ((m.1 70 46) + (1 : Int32))) = M at r1 r2 r3 ⊢
      have w1 : wtg M = n := by rw [← hM]; show (m.1 70 50 - (1 : Int32)).toInt = n; omega
      have w2 : cds M = c0 + (q + 1 : Nat) := by rw [← hM]; show (m.1 70 46 + (1 : Int32)).toInt = _; omega
      have w5 : M.2 = m.2 := by rw [← hM]; rfl
      have w3 : ∀ k : Nat, k ≠ 70 → k ≠ 102 → k ≠ 103 → M.1 k = m.1 k := fun k h1 h2 h3 => by rw [← hM, dSet_k h1, dSet_k h3, dSet_k h2, dSet_k h1]
      have w4 : ∀ j : Nat, j ≠ 46 → j ≠ 50 → M.1 70 j = m.1 70 j := fun j h1 h2 => by rw [← hM, dSet_j h1, dSet_k (by decide), dSet_k (by decide), dSet_j h2]
      have hD1 : gDp M.1 (q + 1) c0 0 (p1 + 1) := by
        refine gDp_op (gDp_congr (fun j h1 h2 => r2 j (by omega)) (by rw [← hp]; exact hD)) ?_ (by omega)
        rw [r1]; exact hcode
      have hS1 : SR M c0 (u ++ [opc w]) := by
        refine (hSR.on (fun j _ h2 => r2 j (by omega))).snoc (by omega) ?_
        rw [hu, r1, r3]
        exact xcd hcode hopc
      refine ih M o p1 c1 (q + 1) L' (u ++ [opc w]) (by omega) w1 (by rw [w3 104 (by decide) (by decide) (by decide)]; exact hW1) w2 hD1 (by omega) hL' (by rw [List.length_append, hu]; rfl) (by rw [w3 104 (by decide) (by decide) (by decide)]; exact hw3) hS1 ?_
      intro m' n' p' c' q' hF a1 a2 a3 a4 a5 a6 a7 a8 a9 a10
      refine hQ m' n' p' c' q' ⟨fun k h1 h2 h3 => (hF.1 k h1 h2 h3).trans (w3 k h1 h2 h3), fun j h1 h2 => (hF.2.1 j h1 h2).trans (w4 j h1 h2), fun j hj => ?_⟩ a1 a2 a3 a4 a5 a6 (by omega) (by omega) (a9.trans w5) (by unfold xO; rw [fl_w hst]; exact a10)
      have g1 := hF.2.2 j (by omega)
      have g2 := r2 j (by omega)
      exact ⟨g1.1.trans g2.1, g1.2.trans g2.2⟩
    refine v_X12_comesOut_70_0 ⟨fun h => by have h : wtg m ≤ 0 := h; exfalso; omega, fun _ => ⟨by omega, ?_⟩⟩
    rw [ei]
    have hW0 := hW
    unfold Wk at hW0
    rcases hW0 with ⟨a, b, o', c', d, w'⟩ | ⟨a, b, p', d, w'⟩ | ⟨a, b, p', c', d, i, w'⟩
    · exact ⟨fun _ => stay (Or.inl (by omega)) (by omega) (fun _ => b), fun h => absurd a h⟩
    · have w35 : w = 43 ∨ w = 45 := by omega
      have em : ∀ y : Int32, x1.toInt = 0 → y = m.1 104 n → j_X12_comesOut_70_42 2 x1 y m Q := fun y hx hy => by
        subst hy
        have hst : ¬ (w = 40 ∨ (xsT x1 = true ∧ (w = 43 ∨ w = 45))) := fun q => by
          rcases q with q | q
          · omega
          · exact of_decide_eq_true q.1 hx
        refine v_X12_comesOut_70_42 ⟨fun n8 => ⟨fun n9 => by exfalso; omega, fun n9 => out p' 0 d w' hst _ (by decide) (by unfold opc; rw [if_neg (by omega), if_pos (by omega)]; decide)⟩, fun n8 => out p' 0 d w' hst _ (by decide) (by unfold opc; rw [if_pos (by omega)]; decide)⟩
      have xst : x1.toInt ≠ 0 → xsT x1 = true := fun q => decide_eq_true q
      refine ⟨fun h => by exfalso; omega, fun _ => ⟨fun hx => em _ hx rfl, fun hx => ⟨fun _ => stay (Or.inr ⟨xst hx, w35⟩) (by omega) (fun h => absurd h hx), fun h8 => ⟨fun h9 => by exfalso; omega, fun _ => stay (Or.inr ⟨xst hx, w35⟩) (by omega) (fun h => absurd h hx)⟩⟩⟩⟩
    · have w27 : w = 42 ∨ w = 47 := by omega
      have hst : ¬ (w = 40 ∨ (xsT x1 = true ∧ (w = 43 ∨ w = 45))) := fun q => by omega
      have em : ∀ y : Int32, y = m.1 104 n → j_X12_comesOut_70_42 2 x1 y m Q := fun y hy => by
        subst hy
        refine v_X12_comesOut_70_42 ⟨fun n8 => ⟨fun n9 => ⟨fun n10 => out p' c' d w' hst _ (by decide) (by unfold opc; rw [if_neg (by omega), if_neg (by omega), if_neg (by omega)]; decide), fun n10 => out p' c' d w' hst _ (by decide) (by unfold opc; rw [if_neg (by omega), if_neg (by omega), if_pos (by omega)]; decide)⟩, fun n9 => by exfalso; omega⟩, fun n8 => by exfalso; omega⟩
      refine ⟨fun h => by exfalso; omega, fun _ => ⟨fun _ => em _ rfl, fun hx => ⟨fun h => by exfalso; omega, fun h8 => ⟨fun h9 => em _ rfl, fun h => by exfalso; omega⟩⟩⟩⟩
section RXC
variable {K : Nat → Int} {V : Nat → Int64} {P : Nat → Nat} {r W : gR} {me : dM} {s : Nat} {T : gR} {SX : lC}
/-- the waits and the codes, told -/
def WCt (me m : dM) (o p : Nat) (L : List Int) (u : lC) : Prop := L.length = o + p ∧ wL (m.1 104) L ∧ cds m = cds me + (u.length : Int) ∧ SR m (cds me).toNat u
theorem WCt.mv {m m' : dM} {o p : Nat} {L : List Int} {u : lC} {k : Int} (h : WCt me m o p L u) (hm : Mv k m m') : WCt me m' o p L u := by
  obtain ⟨k1, k2, k3, k4, k5⟩ := hm
  refine ⟨h.1, by rw [k1 104 (by decide)]; exact h.2.1, ?_, h.2.2.2.of (k1 102 (by decide)) (k1 103 (by decide))⟩
  unfold cds
  rw [k2 46 (by decide) (by decide) (by decide) (by decide) (by decide)]
  exact h.2.2.1
theorem rb_g {r : gR} (z : (rb r gst).1 = 0) : r.1 = 0 ∧ (rb r gst).2 = r.2 + 1 ∧ r.2 < 400 := by
  have z1 := (rb_z z).1
  rw [rb_k z1] at z ⊢
  unfold gst at z ⊢
  by_cases q : 400 ≤ r.2
  · rw [if_pos q] at z; exact absurd z (Nat.succ_ne_zero 1)
  · rw [if_neg q]; exact ⟨z1, rfl, by omega⟩
theorem xr_emit {m : dM} {o p c : Nat} {code val : Int32} {Q : dM → Prop} (hs : s ≤ 1) (hme : 420 * (s : Int) ≤ cds me) (hv : ∀ i, vk (K i)) (hR : RM K V P me) (h : ES me s m o p c p) (h2 : m.2 = me.2) (hS : ST K P m r W) (h0 : flt m = 0) {L : List Int} {u : lC} {x : Int32} (hC : WCt me m o p L u) (hcx : cR code val x) (hk : r.1 = 0 → K r.2 ≠ 24 ∧ K r.2 ≠ 25) (hcode : code.toInt < 2 ∧ (code.toInt ≠ 0 → 0 ≤ val.toInt ∧ val.toInt ≤ 8)) (hQ : ∀ m', EZ me s m' → m'.2 = me.2 → ST K P m' (rb r gst) W → (flt m' = 0 → ES me s m' o p c (p + 1) ∧ tt m + 1 ≤ tt m' ∧ WCt me m' o p L (u ++ [x])) → Q m') : c_X12_emit_70 2 code val m (fun m2 => c_X12_goesOn_70 2 m2 Q) := by
  obtain ⟨⟨x1, x2, x3, x4⟩, a2, a3, a4, a5, a6, a7, ⟨q, a8, a8'⟩, a9, a10, a11⟩ := h
  have hb := a10 h0
  obtain ⟨c1, c2, c3', c4⟩ := hC
  have eq : q = u.length := by omega
  have ec : (m.1 70 46).toInt = cds m := rfl
  have fc := dAddE (X := cds m) (Y := 1) (x := m.1 70 46) (y := (1 : Int32)) rfl (by decide) (by omega) (by omega)
  have eC : (m.1 70 46).toNatClampNeg = (cds me).toNat + q := by
    have := d_cl (x := m.1 70 46) (by omega)
    omega
  refine v_X12_emit_70 ⟨by omega, ⟨by omega, ?_⟩⟩
  rw [eC]
  have r2 : ∀ j, j ≠ (cds me).toNat + q → (dSet (dSet (dSet m 102 ((cds me).toNat + q) code) 103 ((cds me).toNat + q) val) 70 46 ((m.1 70 46) + (1 : Int32))).1 102 j = m.1 102 j ∧ (dSet (dSet (dSet m 102 ((cds me).toNat + q) code) 103 ((cds me).toNat + q) val) 70 46 ((m.1 70 46) + (1 : Int32))).1 103 j = m.1 103 j := fun j hj => by
    constructor
    · rw [dSet_k (by decide), dSet_k (by decide), dSet_j hj]
    · rw [dSet_k (by decide), dSet_j hj, dSet_k (by decide)]
  have r1 : (dSet (dSet (dSet m 102 ((cds me).toNat + q) code) 103 ((cds me).toNat + q) val) 70 46 ((m.1 70 46) + (1 : Int32))).1 102 ((cds me).toNat + q) = code := by rw [dSet_k (by decide), dSet_k (by decide), dSet_s]
  have r3 : (dSet (dSet (dSet m 102 ((cds me).toNat + q) code) 103 ((cds me).toNat + q) val) 70 46 ((m.1 70 46) + (1 : Int32))).1 103 ((cds me).toNat + q) = val := by rw [dSet_k (by decide), dSet_s]
  generalize hM : (dSet (dSet (dSet m 102 ((cds me).toNat + q) code) 103 ((cds me).toNat + q) val) 70 46 ((m.1 70 46) + (1 : Int32))) = M at r1 r2 r3 ⊢
  have w2 : cds M = cds me + (q + 1 : Nat) := by rw [← hM]; show (m.1 70 46 + (1 : Int32)).toInt = _; omega
  have w3 : ∀ k : Nat, k ≠ 70 → k ≠ 102 → k ≠ 103 → M.1 k = m.1 k := fun k h1 h2 h3 => by rw [← hM, dSet_k h1, dSet_k h3, dSet_k h2]
  have w4 : ∀ j : Nat, j ≠ 46 → M.1 70 j = m.1 70 j := fun j h1 => by rw [← hM, dSet_j h1, dSet_k (by decide), dSet_k (by decide)]
  have t1 : tt M = tt m := by unfold tt; rw [w4 11 (by decide)]
  have f1 : flt M = flt m := by unfold flt; rw [w4 13 (by decide)]
  have u1 : wst M = wst m := by unfold wst; rw [w4 15 (by decide)]
  have hD1 : gDp M.1 (q + 1) (cds me).toNat 0 (p + 1) := gDp_push (gDp_congr (fun j h1 h2 => r2 j (by omega)) a8') (by rw [r1]; exact hcode.1) (by rw [r1, r3]; exact hcode.2)
  have w5 : M.2 = m.2 := by rw [← hM]; rfl
  have hS1 : SR M (cds me).toNat (u ++ [x]) := by
    refine (c4.on (fun j _ h2 => r2 j (by omega))).snoc (by omega) ?_
    rw [← eq, r1, r3]
    exact hcx
  have XM : XF me s M := by
    refine ⟨fun k b1 b2 b3 b4 => (w3 k b1 b2 b3).trans (x1 k b1 b2 b3 b4), fun j b1 b2 b3 b4 b5 b6 b7 b8 => (w4 j b7).trans (x2 j b1 b2 b3 b4 b5 b6 b7 b8), fun j hj => ?_, x4.tr (Wz.eq u1)⟩
    have g2 := r2 j (by omega)
    have g3 := x3 j hj
    exact ⟨g2.1.trans g3.1, g2.2.trans g3.2⟩
  have SM : ST K P M r W := hS.of (w4 11 (by decide)) (w4 13 (by decide)) (w4 14 (by decide)) (w4 15 (by decide)) (w4 16 (by decide))
  refine r_goesOn (hR.xf XM (w5.trans h2)) SM hk (fun m3 h3 g3 S3 => ?_)
  obtain ⟨k1, k2, k3, k4, k5⟩ := h3
  have e46 : m3.1 70 46 = M.1 70 46 := k2 46 (by decide) (by decide) (by decide) (by decide) (by decide)
  have c3 : cds m3 = cds M := by unfold cds; rw [e46]
  have X3 : XF me s m3 := by
    refine ⟨fun k b1 b2 b3 b4 => (k1 k b1).trans ((w3 k b1 b2 b3).trans (x1 k b1 b2 b3 b4)), fun j b1 b2 b3 b4 b5 b6 b7 b8 => (k2 j b1 b3 b4 b5 b6).trans ((w4 j b7).trans (x2 j b1 b2 b3 b4 b5 b6 b7 b8)), fun j hj => ?_, x4.tr ((Wz.eq u1).tr k5)⟩
    rw [k1 102 (by decide), k1 103 (by decide)]
    have g2 := r2 j (by omega)
    have g3 := x3 j hj
    exact ⟨g2.1.trans g3.1, g2.2.trans g3.2⟩
  have hf3 : 0 ≤ flt m3 := by rcases k4 with z | z <;> omega
  have ht3 : tt m ≤ tt m3 := by rcases k4 with z | z <;> omega
  refine hQ m3 ⟨X3, k3, by omega, hf3, by omega, by omega⟩ (g3.trans (w5.trans h2)) S3 (fun hz => ?_)
  have ht4 : tt m3 = tt m + 1 := by rcases k4 with z | z <;> omega
  refine ⟨⟨X3, k3, by omega, hf3, ?_, ?_, ?_, ⟨q + 1, by omega, gDp_congr (fun j _ _ => by rw [k1 102 (by decide), k1 103 (by decide)]; exact ⟨rfl, rfl⟩) hD1⟩, by omega, fun _ => by omega, a11⟩, by omega, c1, by rw [k1 104 (by decide), w3 104 (by decide) (by decide) (by decide)]; exact c2, by rw [List.length_append]; show cds m3 = cds me + ((u.length + 1 : Nat) : Int); omega, hS1.of (k1 102 (by decide)) (k1 103 (by decide))⟩
  · unfold opn; rw [k2 12 (by decide) (by decide) (by decide) (by decide) (by decide), w4 12 (by decide)]; exact a5
  · unfold wtg; rw [k2 50 (by decide) (by decide) (by decide) (by decide) (by decide), w4 50 (by decide)]; exact a6
  · rw [k1 104 (by decide), w3 104 (by decide) (by decide) (by decide)]; exact a7
theorem xr_unit {m : dM} {o p c : Nat} {Q : dM → Prop} (hs : s ≤ 1) (hme : 420 * (s : Int) ≤ cds me) (hv : ∀ i, vk (K i)) (hR : RM K V P me) (h : ES me s m o p c p) (h2 : m.2 = me.2) (hS : ST K P m r W) (hT : TG K o false r T) (hV : ∀ n : Nat, K n = 23 → 0 ≤ (V n).toInt32.toInt ∧ (V n).toInt32.toInt ≤ 9999) {L : List Int} {u : lC} (hC : WCt me m o p L u) (hY : r.1 = 0 → sY K V o false r.2 L u = SX) (h40 : ¬ (r.1 = 0 ∧ K r.2 = 40)) (hQ : ∀ (m' : dM) (r' : gR), EZ me s m' → m'.2 = me.2 → ST K P m' r' W → TG K o true r' T → (flt m' = 0 → ES me s m' o p c (p + 1) ∧ flt m = 0 ∧ tt m + 1 ≤ tt m' ∧ ∃ u' : lC, WCt me m' o p L u' ∧ sY K V o true r'.2 L u' = SX) → Q m') : c_X12_unit_70 3 m Q := by
  have a2 := h.2.1
  have a4 := h.2.2.2.1
  have hRm := hR.xf h.1 h2
  have hf := hS.fl
  have bad : (r.1 = 0 → ¬ (K r.2 = 23 ∨ (13 ≤ K r.2 ∧ K r.2 ≤ 21))) → j_X12_unit_70_88 3 m Q := fun hn => by
    refine v_X12_unit_70_88 ?_
    refine Wp.deep (r_fail hRm hS (c := 1) (by decide) (by decide) (fun m' h' g' S' => v_X12_unit_70_93 (hQ m' _ (h.mv h' (by decide)).z (g'.trans h2) S' ?_ (fun h0 => ?_)))) (Nat.le_of_ble_eq_true rfl)
    · by_cases z : r.1 = 0
      · rw [if_pos z]
        refine ⟨fun q => absurd q (Nat.succ_ne_zero 0), fun _ => ?_⟩
        have e := hT.1 z
        rw [gX_U (hS.1 z).2.2.1, if_neg (hn z), if_neg (fun q => h40 ⟨z, q⟩)] at e
        exact e
      · rw [if_neg z]
        exact ⟨fun q => absurd q z, hT.2⟩
    · exfalso
      have := S'.fl.2.mp h0
      by_cases z : r.1 = 0
      · rw [if_pos z] at this; exact absurd this (Nat.succ_ne_zero 0)
      · rw [if_neg z] at this; exact z this
  have tr : (0 ≤ (m.1 70 11).toInt ∧ (m.1 70 11).toInt < 403) := ⟨a2.1, by have := a2.2; unfold tt at this; omega⟩
  have goes : ∀ (z : r.1 = 0) (hu : K r.2 = 23 ∨ (13 ≤ K r.2 ∧ K r.2 ≤ 21)), TG K o true (rb r gst) T := fun z hu => by
    have e := hT.1 z
    rw [gX_U (hS.1 z).2.2.1, if_pos hu] at e
    rw [rb_k z]
    unfold gst
    by_cases q : 400 ≤ r.2
    · rw [if_pos q] at e ⊢
      exact ⟨fun w => absurd w (Nat.succ_ne_zero 1), fun _ => e⟩
    · rw [if_neg q] at e ⊢
      exact ⟨fun _ => e, fun w => absurd rfl w⟩
  refine v_X12_unit_70 ?_
  refine Wp.deep (q_is (k := 23) hv hRm hS (by decide) (by unfold vk; omega) (fun h1 hk => ⟨fun q => absurd q (by decide), fun _ => ⟨tr, ?_⟩⟩) (fun h1 => ⟨fun _ => ⟨fun q => bad (fun z => absurd (hf.2.mpr z) q), fun h0 => ⟨tr, fun _ => bad ?_, fun hk => ⟨tr, fun _ => bad ?_, fun hk2 => ⟨tr, ?_⟩⟩⟩⟩, fun q => absurd rfl q⟩)) (Nat.le_of_ble_eq_true rfl)
  · exact xr_emit hs hme hv hR h h2 hS (hf.2.mpr h1) hC (x := 13 + (V r.2).toInt32) (by
      have b2 := (hS.1 h1).2
      rw [d_cn (show (m.1 70 11).toInt = (r.2 : Int) from b2.1), (hRm r.2 b2.2.1 b2.2.2.1).2.2.2 hk]
      exact Or.inl ⟨by decide, rfl, hV r.2 hk⟩) (fun _ => by omega) ⟨by decide, fun q => absurd rfl q⟩ (fun m' z g' S' e => v_X12_unit_70_93 (hQ m' _ z g' S' (goes h1 (Or.inl hk)) (fun h0 => ⟨(e h0).1, hf.2.mpr h1, (e h0).2.1, _, (e h0).2.2, by
        obtain ⟨y1, y2, y3⟩ := rb_g (S'.fl.2.mp h0)
        rw [y2, ← hY y1, sY_U (Nat.le_of_lt y3), if_pos hk]⟩)))
  all_goals
    have h0 : flt m = 0 := h0
    have z := hf.2.mp h0
    obtain ⟨b1, b2, b3, b4, b5⟩ := hS.1 z
    have ek : (m.1 73 (m.1 70 11).toNatClampNeg).toInt = rk (K r.2) := by
      rw [d_cn (show (m.1 70 11).toInt = (r.2 : Int) from b2)]
      exact (hRm r.2 b3 b4).1
    have ra := rk_rg (hv r.2)
    have ra1 := ra.1
    have ra2 := ra.2.1
    have n23 : K r.2 ≠ 23 := fun q => h1 ⟨z, q⟩
  · intro _ hu
    have := ra2 (by omega)
    omega
  · have := ra.2.2
    exfalso
    omega
  · have f := dSubE (X := (m.1 73 (m.1 70 11).toNatClampNeg).toInt) (Y := 33) (x := m.1 73 (m.1 70 11).toNatClampNeg) (y := (33 : Int32)) rfl (by decide) (by omega) (by omega)
    have hu : 13 ≤ K r.2 ∧ K r.2 ≤ 21 := by
      have := ra1 (by omega)
      have := ra2 this
      omega
    exact xr_emit hs hme hv hR h h2 hS h0 hC (x := vcd (K r.2)) (by
      have ra3 := ra2 (by omega)
      refine Or.inr (Or.inl ⟨by decide, ?_, by omega, by omega⟩)
      apply Int32.toInt_inj.mp
      have fa := dAddE (X := 4) (Y := (m.1 73 (m.1 70 11).toNatClampNeg - (33 : Int32)).toInt) (x := (4 : Int32)) (y := m.1 73 (m.1 70 11).toNatClampNeg - (33 : Int32)) (by decide) rfl (by omega) (by omega)
      have := vcd_i hu
      omega) (fun _ => by omega) ⟨by decide, fun _ => by omega⟩ (fun m' z g' S' e => v_X12_unit_70_93 (hQ m' _ z g' S' (goes (hf.2.mp h0) (Or.inr hu)) (fun h0' => ⟨(e h0').1, h0, (e h0').2.1, _, (e h0').2.2, by
        obtain ⟨y1, y2, y3⟩ := rb_g (S'.fl.2.mp h0')
        rw [y2, ← hY y1, sY_U (Nat.le_of_lt y3), if_neg n23, if_pos hu]⟩)))
theorem xr_out {m : dM} {o p c : Nat} {x : Int32} {Q : dM → Prop} (hs : s ≤ 1) (hme : 420 * (s : Int) ≤ cds me) (h : ES me s m o p c (p + 1)) (h2 : m.2 = me.2) (hS : ST K P m r W) {L : List Int} {u : lC} (hC : WCt me m o p L u) (hQ : ∀ (m' : dM) (p' c' : Nat), ES me s m' o p' c' (p' + 1) → c' ≤ 1 → (x.toInt = 0 → c' = 0) → tt m' = tt m → flt m' = flt m → m'.1 73 = m.1 73 → m'.1 70 11 = m.1 70 11 → m'.2 = me.2 → ST K P m' r W → WCt me m' o p' (fl (xsT x) L u).1 (fl (xsT x) L u).2 → Q m') : c_X12_comesOut_70 2 x m Q := by
  obtain ⟨⟨x1, x2, x3, x4⟩, a2, a3, a4, a5, a6, a7, ⟨q, a8, a8'⟩, a9, a10, a11⟩ := h
  obtain ⟨c1, c2, c3', c4⟩ := hC
  have eq : u.length = q := by omega
  have hl := Wk_len a7
  have h0 : (cds m) = ((cds me).toNat : Int) + q := by omega
  refine xo_1 (c0 := (cds me).toNat) (B := 420 * s + 401) (by omega) (o + p) m o p c q L u (by omega) a6 a7 h0 a8' a9 c1 eq c2 c4 ?_
  intro m' n' p' c' q' hF b1 b2 b3 b4 b5 b6 b7 b8 b9 b10
  have hl' := Wk_len b2
  have t1 : tt m' = tt m := by unfold tt; rw [hF.2.1 11 (by decide) (by decide)]
  have f1 : flt m' = flt m := by unfold flt; rw [hF.2.1 13 (by decide) (by decide)]
  have u1 : wst m' = wst m := by unfold wst; rw [hF.2.1 15 (by decide) (by decide)]
  have o1 : opn m' = o := by unfold opn; rw [hF.2.1 12 (by decide) (by decide)]; exact a5
  refine hQ m' p' c' ⟨⟨fun k e1 e2 e3 e4 => (hF.1 k e1 e2 e3).trans (x1 k e1 e2 e3 e4), fun j e1 e2 e3 e4 e5 e6 e7 e8 => (hF.2.1 j e7 e8).trans (x2 j e1 e2 e3 e4 e5 e6 e7 e8), fun j hj => ?_, x4.tr (Wz.eq u1)⟩, by omega, by omega, by omega, o1, by rw [← hl'.1]; exact b1, by rw [← hl'.1]; exact b2, ⟨q', by omega, b6⟩, by omega, fun hz => ?_, a11⟩ b3 b4 t1 f1 (hF.1 73 (by decide) (by decide) (by decide)) (hF.2.1 11 (by decide) (by decide)) (b9.trans h2) (hS.of (hF.2.1 11 (by decide) (by decide)) (hF.2.1 13 (by decide) (by decide)) (hF.2.1 14 (by decide) (by decide)) (hF.2.1 15 (by decide) (by decide)) (hF.2.1 16 (by decide) (by decide))) ⟨by rw [b10.1]; exact hl'.1, b10.2.2.1, by rw [b10.2.1]; omega, b10.2.2.2⟩
  · have g1 := hF.2.2 j (by omega)
    have g2 := x3 j hj
    exact ⟨g1.1.trans g2.1, g1.2.trans g2.2⟩
  · have := a10 (by omega)
    omega
theorem xr_204 {m : dM} {o p c : Nat} {Q : dM → Prop} (hs : s ≤ 1) (hme : 420 * (s : Int) ≤ cds me) (hQ : ∀ m', EQ me s m' → m'.2 = me.2 → ST K P m' T W → (flt m' = 0 → cds m' = cds me + (SX.length : Int) ∧ SR m' (cds me).toNat SX) → Q m') (h : ES me s m o p c (p + 1)) (h2 : m.2 = me.2) (hS : ST K P m T W) (hz : flt m = 0 → o = 0 ∧ tt me + 1 ≤ tt m) {L : List Int} {u : lC} (hC : WCt me m o p L u) (hX : flt m = 0 → (fl false L u).2 = SX) : j_X12_expression_70_204 4 m Q := by
  refine v_X12_expression_70_204 ?_
  refine Wp.deep (xr_out hs hme h h2 hS hC (fun m' p' c' h' b1 b2 b3 b4 _ _ g' S' C' => hQ m' ⟨h'.z, fun h0 => ?_⟩ g' S' (fun h0 => ?_))) (Nat.le_of_ble_eq_true rfl)
  · have hz := hz (by omega)
    have ho := hz.1
    subst ho
    obtain ⟨-, a2, a3, a4, a5, a6, a7, ⟨q, a8, a8'⟩, a9, a10, a11⟩ := h'
    have hl := Wk_len a7
    have hp : p' = 0 := by have := b2 (by decide); omega
    subst hp
    have hb := a10 h0
    refine ⟨by omega, by omega, by omega, by omega, by omega, by omega, by omega, ?_⟩
    rw [show (cds m' - cds me).toNat = q by omega]
    exact gDp_seg a8'
  · have e := hX (by omega)
    have e0 : xsT (0 : Int32) = false := by decide
    rw [e0, e] at C'
    exact C'.2.2
/-- a sign is pushed, and it goes on -/
theorem xr_push {m : dM} {o p c cn : Nat} {Q : dM → Prop} (hs : s ≤ 1) (hR : RM K V P me) (h : ES me s m o p c (p + 1)) (h2 : m.2 = me.2) (hS : ST K P m r W) (hk : r.1 = 0 → K r.2 ≠ 24 ∧ K r.2 ≠ 25) (h0 : flt m = 0) {L : List Int} {u : lC} {w : Int} (hC : WCt me m o p L u) (hw : (m.1 73 (m.1 70 11).toNatClampNeg).toInt = rk w ∧ (w = 40 ∨ w = 43 ∨ w = 45 ∨ w = 42 ∨ w = 47)) (hW : Wk (upd (m.1 104) (o + p) (m.1 73 (m.1 70 11).toNatClampNeg)) (o + p + 1) o (p + 1) cn) (hQ : ∀ m', ES me s m' o (p + 1) cn (p + 1) → Mv 1 m m' ∨ tt m + 1 ≤ tt m' ∨ 0 < flt m' → (flt m' = 0 → tt m' = tt m + 1) → m'.2 = me.2 → ST K P m' (rb r gst) W → WCt me m' o (p + 1) (w :: L) u → Q m') : (0 ≤ (m.1 70 11).toInt ∧ (m.1 70 11).toInt < 403) ∧ (0 ≤ (m.1 70 50).toInt ∧ (m.1 70 50).toInt < 64) ∧ c_X12_goesOn_70 3 (dSet (dSet m 104 (m.1 70 50).toNatClampNeg (m.1 73 (m.1 70 11).toNatClampNeg)) 70 50 ((m.1 70 50) + (1 : Int32))) Q := by
  obtain ⟨⟨x1, x2, x3, x4⟩, a2, a3, a4, a5, a6, a7, ⟨q, a8, a8'⟩, a9, a10, a11⟩ := h
  have hl := Wk_len a7
  have ew : (m.1 70 50).toInt = wtg m := rfl
  have et : (m.1 70 11).toInt = tt m := rfl
  have eW : (m.1 70 50).toNatClampNeg = o + p := by
    have := d_cl (x := m.1 70 50) (by omega)
    omega
  have fw := dAddE (X := wtg m) (Y := 1) (x := m.1 70 50) (y := (1 : Int32)) rfl (by decide) (by omega) (by omega)
  have hb := a10 h0
  refine ⟨by omega, by omega, ?_⟩
  rw [eW]
  have XM : XF me s (dSet (dSet m 104 (o + p) (m.1 73 (m.1 70 11).toNatClampNeg)) 70 50 ((m.1 70 50) + (1 : Int32))) := ⟨fun k e1 e2 e3 e4 => by rw [dSet_k e1, dSet_k e4]; exact x1 k e1 e2 e3 e4, fun j e1 e2 e3 e4 e5 e6 e7 e8 => by rw [dSet_j e8, dSet_k (by decide)]; exact x2 j e1 e2 e3 e4 e5 e6 e7 e8, fun j hj => x3 j hj, x4⟩
  refine Wp.deep (r_goesOn (m := dSet (dSet m 104 (o + p) (m.1 73 (m.1 70 11).toNatClampNeg)) 70 50 ((m.1 70 50) + (1 : Int32))) (hR.xf XM h2) (hS.of rfl rfl rfl rfl rfl) hk (fun m3 h3 g3 S3 => ?_)) (Nat.le_of_ble_eq_true rfl)
  obtain ⟨k1, k2, k3, k4, k5⟩ := h3
  have k4 : (flt m = 0 ∧ flt m3 = 0 ∧ tt m3 = tt m + 1) ∨ (0 < flt m3 ∧ tt m ≤ tt m3 ∧ tt m3 ≤ tt m + 1) := k4
  have k5 : Wz m m3 := k5
  have hf3 : 0 ≤ flt m3 := by rcases k4 with z | z <;> omega
  have ht3 : tt m ≤ tt m3 := by rcases k4 with z | z <;> omega
  have e46 : m3.1 70 46 = m.1 70 46 := k2 46 (by decide) (by decide) (by decide) (by decide) (by decide)
  have c3 : cds m3 = cds m := by unfold cds; rw [e46]
  refine hQ m3 ⟨⟨fun k e1 e2 e3 e4 => (k1 k e1).trans (by rw [dSet_k e1, dSet_k e4]; exact x1 k e1 e2 e3 e4), fun j e1 e2 e3 e4 e5 e6 e7 e8 => (k2 j e1 e3 e4 e5 e6).trans (by rw [dSet_j e8, dSet_k (by decide)]; exact x2 j e1 e2 e3 e4 e5 e6 e7 e8), fun j hj => ?_, x4.tr k5⟩, k3, by omega, hf3, ?_, ?_, ?_, ⟨q, by omega, gDp_congr (fun j _ _ => by rw [k1 102 (by decide), k1 103 (by decide)]; exact ⟨rfl, rfl⟩) a8'⟩, by omega, fun hz => ?_, a11⟩ ?_ (fun hz => by rcases k4 with z | z <;> omega) (g3.trans h2) S3 ?_
  · rw [k1 102 (by decide), k1 103 (by decide)]; exact x3 j hj
  · unfold opn; rw [k2 12 (by decide) (by decide) (by decide) (by decide) (by decide)]; exact a5
  · unfold wtg; rw [k2 50 (by decide) (by decide) (by decide) (by decide) (by decide)]; show (m.1 70 50 + (1 : Int32)).toInt = _; omega
  · rw [k1 104 (by decide), dSet_k (by decide), dSet_f, show o + (p + 1) = o + p + 1 by omega]; exact hW
  · rcases k4 with z | z <;> omega
  · right
    rcases k4 with z | z <;> omega
  · obtain ⟨c1, c2, c3', c4⟩ := hC
    refine ⟨by rw [List.length_cons, c1]; omega, ?_, by omega, c4.on (fun j _ _ => by rw [k1 102 (by decide), k1 103 (by decide)]; exact ⟨rfl, rfl⟩)⟩
    rw [k1 104 (by decide), dSet_k (by decide), dSet_f]
    refine ⟨by rw [c1]; unfold upd; rw [if_pos rfl]; exact hw.1, hw.2, wL_of L (fun j hj => ?_) c2⟩
    unfold upd
    rw [if_neg (by omega)]
end RXC
