/-! THE REFERENCE's expression, exactly, from its start to its end -/
section RGM
variable {K : Nat → Int} {V : Nat → Int64} {P : Nat → Nat} {W : gR} {me : dM} {s : Nat} {T : gR}
def GX (K : Nat → Int) (P : Nat → Nat) (me : dM) (s : Nat) (m : dM) (o p c D : Nat) (ph : Bool) (r T W : gR) : Prop := ES me s m o p c D ∧ m.2 = me.2 ∧ ST K P m r W ∧ TG K o ph r T
/-- behind a step -/
theorem TG.st {o o' : Nat} {ph ph' : Bool} {r T : gR} (h : TG K o ph r T) (h0 : r.1 = 0 → gX K 0 o ph r.2 = if 400 ≤ r.2 then (2, r.2) else gX K 0 o' ph' (r.2 + 1)) : TG K o' ph' (rb r gst) T := by
  by_cases z : r.1 = 0
  · have e := h.1 z
    rw [h0 z] at e
    rw [rb_k z]
    unfold gst
    by_cases q : 400 ≤ r.2
    · rw [if_pos q] at e ⊢
      exact ⟨fun w => absurd w (Nat.succ_ne_zero 1), fun _ => e⟩
    · rw [if_neg q] at e ⊢
      exact ⟨fun _ => e, fun w => absurd rfl w⟩
  · rw [rb_f z]
    exact ⟨fun q => absurd q z, h.2⟩
/-- behind a fault -/
theorem TG.fa {o o' : Nat} {ph ph' : Bool} {r T : gR} {c : Nat} (h : TG K o ph r T) (hc : c ≠ 0) (h0 : r.1 = 0 → gX K 0 o ph r.2 = (c, r.2)) : TG K o' ph' (if r.1 = 0 then (c, r.2) else r) T ∧ (if r.1 = 0 then (c, r.2) else r) = T ∧ T.1 ≠ 0 := by
  by_cases z : r.1 = 0
  · have e := h.1 z
    rw [h0 z] at e
    rw [if_pos z]
    exact ⟨⟨fun w => absurd w hc, fun _ => e⟩, e, by rw [← e]; exact hc⟩
  · rw [if_neg z]
    exact ⟨⟨fun q => absurd q z, h.2⟩, h.2 z, by rw [← h.2 z]; exact z⟩
theorem er_main {Q : dM → Prop} (hs : s ≤ 1) (hme : 420 * (s : Int) ≤ cds me) (hv : ∀ i, vk (K i)) (hR : RM K V P me) (hQ : ∀ m', EQ me s m' → m'.2 = me.2 → ST K P m' T W → Q m') : ∀ n : Nat,
    (∀ (x1 : Int32) (m : dM) (o p c : Nat) (r : gR), x1.toInt = 0 → GX K P me s m o p c p false r T W → mu m 6 3 n → j_X12_expression_70_12 4 x1 (1 : Int32) m Q) ∧
    (∀ (x1 : Int32) (m : dM) (o p c : Nat) (r : gR), x1.toInt = 0 → GX K P me s m o p c p false r T W → mu m 5 3 n → j_X12_expression_70_23 4 x1 m Q) ∧
    (∀ (x1 : Int32) (m : dM) (o p c : Nat) (r : gR), x1.toInt = 0 → GX K P me s m o p c p false r T W → o ≤ 6 → (flt m = 0 → o ≤ 5) → (r.1 = 0 → K r.2 = 40) → mu m 4 4 n → j_X12_expression_70_46 4 x1 m Q) ∧
    (∀ (x1 : Int32) (m : dM) (o p c : Nat) (r : gR), x1.toInt = 0 → GX K P me s m o p c (p + 1) true r T W → (flt m = 0 → tt me + 1 ≤ tt m) → mu m 6 3 n → j_X12_expression_70_96 4 x1 m Q) ∧
    (∀ (x1 : Int32) (m : dM) (o p c : Nat) (r : gR), x1.toInt = 0 → GX K P me s m o p c (p + 1) true r T W → (flt m = 0 → tt me + 1 ≤ tt m) → (r.1 = 0 → ¬ (K r.2 = 41 ∧ 0 < o)) → mu m 5 2 n → j_X12_expression_70_145 4 x1 m Q) ∧
    (∀ (x1 : Int32) (m : dM) (o p c : Nat) (r : gR), x1.toInt = 0 → GX K P me s m o p c (p + 1) true r T W → r.1 = 0 → tt me + 1 ≤ tt m → (K r.2 = 43 ∨ K r.2 = 45 ∨ K r.2 = 42 ∨ K r.2 = 47) → mu m 4 0 n → j_X12_expression_70_181 4 x1 m Q) := by
  intro n
  induction n with
  | zero =>
    refine ⟨fun x1 m o p c r hx h hμ => ?_, fun x1 m o p c r hx h hμ => ?_, fun x1 m o p c r hx h h6 h5 h40 hμ => ?_, fun x1 m o p c r hx h ht hμ => ?_, fun x1 m o p c r hx h ht h41 hμ => ?_, fun x1 m o p c r hx h h0 ht hk hμ => ?_⟩ <;> (have := h.1.2.1; exfalso; rcases hμ with q | q <;> omega)
  | succ n ih =>
    refine ⟨fun x1 m o p c r hx h hμ => ?_, fun x1 m o p c r hx h hμ => ?_, fun x1 m o p c r hx h h6 h5 h40 hμ => ?_, fun x1 m o p c r hx h ht hμ => ?_, fun x1 m o p c r hx h ht h41 hμ => ?_, fun x1 m o p c r hx h h0 ht hk hμ => ?_⟩
    · -- 12
      have hfl := h.2.2.1.fl
      have bad : flt m ≠ 0 → j_X12_expression_70_272 4 m Q := fun hf => v_X12_expression_70_272 (hQ m ⟨h.1.z, fun h0 => absurd h0 hf⟩ h.2.1 (by
        have z : r.1 ≠ 0 := fun z => hf (hfl.2.mpr z)
        rw [← h.2.2.2.2 z]; exact h.2.2.1))
      refine v_X12_expression_70_12 ⟨fun q => absurd q (by decide), fun _ => ⟨fun hf => bad hf, fun hf => ?_⟩⟩
      have hf : flt m = 0 := hf
      refine ih.2.1 x1 m o p c r hx h ?_
      left
      rcases hμ with q | q <;> omega
    · -- 23
      obtain ⟨hE, h2, hS, hT⟩ := h
      have hRm := hR.xf hE.1 h2
      have hfl := hS.fl
      refine v_X12_expression_70_23 ?_
      refine Wp.deep (q_is (k := 40) hv hRm hS (by decide) (by unfold vk; omega) (fun z hk => ⟨fun q => absurd q (by decide), fun _ => ?_⟩) (fun h1 => ⟨fun _ => ?_, fun q => absurd rfl q⟩)) (Nat.le_of_ble_eq_true rfl)
      · have h1 : flt m = 0 := hfl.2.mpr z
        have hb := hE.2.2.2.2.2.2.2.2.2.1 h1
        have eo : (m.1 70 12).toInt = o := hE.2.2.2.2.1
        refine ⟨fun hne => ?_, fun he => ?_⟩
        · refine ih.2.2.1 x1 m o p c r hx ⟨hE, h2, hS, hT⟩ (by omega) (fun _ => by omega) (fun _ => hk) ?_
          rcases hμ with q | q
          · left; omega
          · right; omega
        · have fa := TG.fa (o' := o) (ph' := false) (c := 2) hT (by decide) (fun _ => by rw [gX_U (hS.1 z).2.2.1, if_neg (by omega), if_pos hk, if_pos (by omega)])
          refine Wp.deep (r_fail hRm hS (c := 2) (by decide) (by decide) (fun m3 h3 g3 S3 => ?_)) (Nat.le_of_ble_eq_true rfl)
          have hf3 : flt m3 ≠ 0 := fun q => by
            have := S3.fl.2.mp q
            rw [fa.2.1] at this
            exact fa.2.2 this
          have hf4 := S3.fl.1
          refine ih.2.2.1 x1 m3 o p c _ hx ⟨hE.mv h3 (by decide), g3.trans h2, S3, fa.1⟩ (by omega) (fun q => by exfalso; omega) (fun q => by exfalso; rw [fa.2.1] at q; exact fa.2.2 q) ?_
          right
          have := hE.2.1
          rcases hμ with q | q <;> omega
      · refine r_unit hs hme hv hR hE h2 hS hT h1 (fun m2 r2 z g2 S2 T2 e => ⟨fun hc => ?_, fun hc => ?_⟩)
        · have hc : flt m2 ≤ 0 := hc
          have h0 : flt m2 = 0 := by have := z.2.2.2.1; omega
          have e := e h0
          refine ih.2.2.2.1 x1 m2 o p c r2 hx ⟨e.1, g2, S2, T2⟩ (fun _ => by have := hE.2.2.1; omega) ?_
          left
          have := hE.2.1
          rcases hμ with q | q <;> omega
        · have hc : 0 < flt m2 := hc
          have z2 : r2.1 ≠ 0 := fun q => by have := S2.fl.2.mpr q; omega
          exact hQ m2 ⟨z, fun h0 => by exfalso; omega⟩ g2 (by rw [← T2.2 z2]; exact S2)
    · -- 46
      obtain ⟨hE, h2, hS, hT⟩ := h
      have hfl := hS.fl
      have hT1 : TG K (o + 1) false (rb r gst) T := hT.st (fun z => by
        have := h5 (hfl.2.mpr z)
        have k40 := h40 z
        rw [gX_U (hS.1 z).2.2.1, if_neg (by omega), if_pos k40, if_neg (by omega)])
      obtain ⟨⟨x1', x2', x3', x4'⟩, a2, a3, a4, a5, a6, a7, ⟨q, a8, a8'⟩, a9, a10, a11⟩ := hE
      have eo : (m.1 70 12).toInt = o := a5
      have fo := dAddE (X := (o : Int)) (Y := 1) (x := m.1 70 12) (y := (1 : Int32)) eo (by decide) (by omega) (by omega)
      have XM : XF me s (dSet m 70 12 ((m.1 70 12) + (1 : Int32))) := ⟨fun k e1 e2 e3 e4 => by rw [dSet_k e1]; exact x1' k e1 e2 e3 e4, fun j e1 e2 e3 e4 e5 e6 e7 e8 => by rw [dSet_j e2]; exact x2' j e1 e2 e3 e4 e5 e6 e7 e8, fun j hj => x3' j hj, x4'⟩
      refine v_X12_expression_70_46 ?_
      refine Wp.deep (r_goesOn (m := dSet m 70 12 ((m.1 70 12) + (1 : Int32))) (hR.xf XM h2) (hS.of rfl rfl rfl rfl rfl) (fun z => by have := h40 z; omega) (fun m1 h1 g1 S1 => ?_)) (Nat.le_of_ble_eq_true rfl)
      have g1 : m1.2 = m.2 := g1
      obtain ⟨k1, k2, k3, k4, k5⟩ := h1
      have k4 : (flt m = 0 ∧ flt m1 = 0 ∧ tt m1 = tt m + 1) ∨ (0 < flt m1 ∧ tt m ≤ tt m1 ∧ tt m1 ≤ tt m + 1) := k4
      have k5 : Wz m m1 := k5
      have hf1 : 0 ≤ flt m1 := by rcases k4 with z | z <;> omega
      have ht1 : tt m ≤ tt m1 := by rcases k4 with z | z <;> omega
      have hl := Wk_len a7
      have e50 : m1.1 70 50 = m.1 70 50 := k2 50 (by decide) (by decide) (by decide) (by decide) (by decide)
      have ew : (m1.1 70 50).toInt = (o + p : Nat) := by rw [e50]; exact a6
      have eW : (m1.1 70 50).toNatClampNeg = o + p := by
        have := d_cl (x := m1.1 70 50) (by omega)
        omega
      have fw := dAddE (X := ((o + p : Nat) : Int)) (Y := 1) (x := m1.1 70 50) (y := (1 : Int32)) ew (by decide) (by omega) (by omega)
      refine ⟨by omega, ?_⟩
      rw [eW]
      have e46 : m1.1 70 46 = m.1 70 46 := k2 46 (by decide) (by decide) (by decide) (by decide) (by decide)
      have c1 : cds (dSet (dSet m1 104 (o + p) (6 : Int32)) 70 50 ((m1.1 70 50) + (1 : Int32))) = cds m := by show (m1.1 70 46).toInt = _; rw [e46]; rfl
      have f1 : flt (dSet (dSet m1 104 (o + p) (6 : Int32)) 70 50 ((m1.1 70 50) + (1 : Int32))) = flt m1 := rfl
      have t1 : tt (dSet (dSet m1 104 (o + p) (6 : Int32)) 70 50 ((m1.1 70 50) + (1 : Int32))) = tt m1 := rfl
      refine ih.2.1 x1 _ (o + 1) p 0 _ hx ⟨⟨⟨fun k e1 e2 e3 e4 => by rw [dSet_k e1, dSet_k e4, k1 k e1, dSet_k e1]; exact x1' k e1 e2 e3 e4, fun j e1 e2 e3 e4 e5 e6 e7 e8 => by rw [dSet_j e8, dSet_k (by decide), k2 j e1 e3 e4 e5 e6, dSet_j e2]; exact x2' j e1 e2 e3 e4 e5 e6 e7 e8, fun j hj => ?_, x4'.tr k5⟩, by omega, by omega, by omega, ?_, ?_, ?_, ⟨q, by omega, gDp_congr (fun j _ _ => ?_) a8'⟩, by omega, fun hz => ?_, by omega⟩, g1.trans h2, S1.of rfl rfl rfl rfl rfl, hT1⟩ ?_
      · rw [dSet_k (by decide), dSet_k (by decide), dSet_k (by decide), dSet_k (by decide), k1 102 (by decide), k1 103 (by decide)]; exact x3' j hj
      · show (m1.1 70 12).toInt = _
        rw [k2 12 (by decide) (by decide) (by decide) (by decide) (by decide)]
        show (m.1 70 12 + (1 : Int32)).toInt = _
        omega
      · show (m1.1 70 50 + (1 : Int32)).toInt = _
        omega
      · rw [dSet_k (by decide), dSet_f, show o + 1 + p = o + p + 1 by omega]
        refine Or.inl ⟨by unfold upd; rw [if_pos rfl]; decide, rfl, o, c, rfl, Wk_congr (fun j hj => ?_) a7⟩
        unfold upd
        rw [if_neg (by omega), k1 104 (by decide)]
        rfl
      · rw [dSet_k (by decide), dSet_k (by decide), dSet_k (by decide), dSet_k (by decide), k1 102 (by decide), k1 103 (by decide)]; exact ⟨rfl, rfl⟩
      · have h0 : flt m = 0 := by rcases k4 with z | z <;> omega
        have := a10 h0
        have := h5 h0
        omega
      · unfold mu
        rw [f1, t1]
        rcases k4 with z | z
        · left; rcases hμ with q | q <;> omega
        · right; rcases hμ with q | q <;> omega
    · -- 96
      have hE := h.1
      have h2 := h.2.1
      have hS := h.2.2.1
      have hT := h.2.2.2
      have hRm := hR.xf hE.1 h2
      have go : (r.1 = 0 → ¬ (K r.2 = 41 ∧ 0 < o)) → j_X12_expression_70_145 4 x1 m Q := fun hn => by
        refine ih.2.2.2.2.1 x1 m o p c r hx h ht hn ?_
        rcases hμ with q | q
        · left; omega
        · right; omega
      have eo : (m.1 70 12).toInt = o := hE.2.2.2.2.1
      refine v_X12_expression_70_96 ?_
      refine Wp.deep (q_is (k := 41) hv hRm hS (by decide) (by unfold vk; omega) (fun z hk => ⟨fun q => absurd q (by decide), fun _ => ⟨fun ho => go (fun _ q => by omega), fun ho => ?_⟩⟩) (fun h1 => ⟨fun _ => go (fun z q => h1 ⟨z, q.1⟩), fun q => absurd rfl q⟩)) (Nat.le_of_ble_eq_true rfl)
      have f0 : flt m = 0 := hS.fl.2.mpr z
      have hT1 : TG K (o - 1) true (rb r gst) T := hT.st (fun z => by rw [gX_O (hS.1 z).2.2.1, if_neg (by omega), if_pos (by omega), if_pos hk])
      refine Wp.deep (er_out hs hme hE h2 hS (fun m2 p' c' h' b1 b2 b3 b4 _ _ g2 S2 => ?_)) (Nat.le_of_ble_eq_true rfl)
      have hc' : c' = 0 := b2 (by decide)
      subst hc'
      obtain ⟨⟨x1', x2', x3', x4'⟩, a2, a3, a4, a5, a6, a7, ⟨q, a8, a8'⟩, a9, a10, a11⟩ := h'
      obtain ⟨o1, rfl⟩ : ∃ o1, o = o1 + 1 := ⟨o - 1, by omega⟩
      have eW : o1 + 1 + p' = (o1 + p') + 1 := by omega
      rw [eW] at a7
      have a7' := a7
      unfold Wk at a7'
      rcases a7' with ⟨-, -, o2, c2, d, w⟩ | ⟨-, b, -⟩ | ⟨-, b, -⟩
      · have ho2 : o2 = o1 := by omega
        subst ho2
        have ew : (m2.1 70 50).toInt = (o2 + 1 + p' : Nat) := a6
        have e12 : (m2.1 70 12).toInt = (o2 + 1 : Nat) := a5
        have fw := dSubE (X := ((o2 + 1 + p' : Nat) : Int)) (Y := 1) (x := m2.1 70 50) (y := (1 : Int32)) ew (by decide) (by omega) (by omega)
        have fo := dSubE (X := ((o2 + 1 : Nat) : Int)) (Y := 1) (x := m2.1 70 12) (y := (1 : Int32)) e12 (by decide) (by omega) (by omega)
        have hM : ES me s (dSet (dSet m2 70 50 ((m2.1 70 50) - (1 : Int32))) 70 12 ((m2.1 70 12) - (1 : Int32))) o2 p' c2 (p' + 1) := by
          refine ⟨⟨fun k e1 e2 e3 e4 => by rw [dSet_k e1, dSet_k e1]; exact x1' k e1 e2 e3 e4, fun j e1 e2 e3 e4 e5 e6 e7 e8 => by rw [dSet_j e2, dSet_j e8]; exact x2' j e1 e2 e3 e4 e5 e6 e7 e8, fun j hj => x3' j hj, x4'⟩, a2, a3, a4, ?_, ?_, w, ⟨q, a8, gDp_congr (g := m2.1) (fun j _ _ => ⟨rfl, rfl⟩) a8'⟩, a9, fun hz => ?_, by omega⟩
          · show (m2.1 70 12 - (1 : Int32)).toInt = _; omega
          · show (m2.1 70 50 - (1 : Int32)).toInt = _; omega
          · have := a10 hz
            refine ⟨this.1, by omega⟩
        refine Wp.deep (r_goesOn (m := dSet (dSet m2 70 50 ((m2.1 70 50) - (1 : Int32))) 70 12 ((m2.1 70 12) - (1 : Int32))) (hR.xf hM.1 g2) (S2.of rfl rfl rfl rfl rfl) (fun _ => by omega) (fun m3 h3 g3 S3 => ?_)) (Nat.le_of_ble_eq_true rfl)
        have g3 : m3.2 = m2.2 := g3
        have k4 : (flt m2 = 0 ∧ flt m3 = 0 ∧ tt m3 = tt m2 + 1) ∨ (0 < flt m3 ∧ tt m2 ≤ tt m3 ∧ tt m3 ≤ tt m2 + 1) := h3.2.2.2.1
        refine ih.2.2.2.1 x1 m3 o2 p' c2 _ hx ⟨hM.mv h3 (by decide), g3.trans g2, S3, hT1⟩ (fun h0 => ?_) ?_
        · rcases k4 with z | z
          · have := ht (by omega); omega
          · omega
        · unfold mu
          rcases k4 with z | z
          · left; rcases hμ with q | q <;> omega
          · right; rcases hμ with q | q <;> omega
      · exact absurd b (by decide)
      · exact absurd b (by decide)
    · -- 145
      have hE := h.1
      have h2 := h.2.1
      have hS := h.2.2.1
      have hT := h.2.2.2
      have hRm := hR.xf hE.1 h2
      have hfl := hS.fl
      have nx : r.1 = 0 → (K r.2 = 43 ∨ K r.2 = 45 ∨ K r.2 = 42 ∨ K r.2 = 47) → j_X12_expression_70_181 4 x1 m Q := fun z hk => by
        have h0 := hfl.2.mpr z
        refine ih.2.2.2.2.2 x1 m o p c r hx h z (ht h0) hk ?_
        rcases hμ with q | q
        · left; omega
        · right; omega
      have eo : (m.1 70 12).toInt = o := hE.2.2.2.2.1
      refine v_X12_expression_70_145 ?_
      refine Wp.deep (q_is (k := 43) hv hRm hS (by decide) (by unfold vk; omega) (fun z hk => ⟨fun _ => nx z (by omega), fun q => absurd q (by decide)⟩) (fun n1 => ⟨fun q => absurd rfl q, fun _ => ?_⟩)) (Nat.le_of_ble_eq_true rfl)
      refine Wp.deep (q_is (k := 45) hv hRm hS (by decide) (by unfold vk; omega) (fun z hk => ⟨fun _ => nx z (by omega), fun q => absurd q (by decide)⟩) (fun n2 => ⟨fun q => absurd rfl q, fun _ => ?_⟩)) (Nat.le_of_ble_eq_true rfl)
      refine Wp.deep (q_is (k := 42) hv hRm hS (by decide) (by unfold vk; omega) (fun z hk => ⟨fun _ => nx z (by omega), fun q => absurd q (by decide)⟩) (fun n3 => ⟨fun q => absurd rfl q, fun _ => ?_⟩)) (Nat.le_of_ble_eq_true rfl)
      refine Wp.deep (q_is (k := 47) hv hRm hS (by decide) (by unfold vk; omega) (fun z hk => ⟨fun q => absurd q (by decide), fun _ => nx z (by omega)⟩) (fun n4 => ⟨fun _ => ⟨fun ho => ?_, fun ho => ?_⟩, fun q => absurd rfl q⟩)) (Nat.le_of_ble_eq_true rfl)
      · have o0 : o = 0 := by omega
        refine er_204 hs hme hQ hE h2 ?_ (fun h0 => ⟨o0, ht h0⟩)
        by_cases z : r.1 = 0
        · have e := hT.1 z
          rw [gX_O (hS.1 z).2.2.1, if_neg (fun q => by rcases q with q | q | q | q; exact n1 ⟨z, q⟩; exact n2 ⟨z, q⟩; exact n3 ⟨z, q⟩; exact n4 ⟨z, q⟩), if_neg (by omega)] at e
          have er : r = (0, r.2) := by rw [← z]
          rw [← e, ← er]
          exact hS
        · rw [← hT.2 z]; exact hS
      · have fa := TG.fa (o' := o) (ph' := true) (c := 1) hT (by decide) (fun z => by rw [gX_O (hS.1 z).2.2.1, if_neg (fun q => by rcases q with q | q | q | q; exact n1 ⟨z, q⟩; exact n2 ⟨z, q⟩; exact n3 ⟨z, q⟩; exact n4 ⟨z, q⟩), if_pos (by omega), if_neg (fun q => h41 z ⟨q, by omega⟩)])
        refine Wp.deep (r_fail hRm hS (c := 1) (by decide) (by decide) (fun m5 h5 g5 S5 => ?_)) (Nat.le_of_ble_eq_true rfl)
        rw [fa.2.1] at S5
        exact er_204 hs hme hQ (hE.mv h5 (by decide)) (g5.trans h2) S5 (fun h0 => by exfalso; exact fa.2.2 (S5.fl.2.mp h0))
    · -- 181
      have hE := h.1
      have h2 := h.2.1
      have hS := h.2.2.1
      have hT := h.2.2.2
      have hRm := hR.xf hE.1 h2
      have hfl := hS.fl
      have f0 := hfl.2.mpr h0
      obtain ⟨s1, s2, s3, s4, s5⟩ := hS.1 h0
      have ek : (m.1 73 (m.1 70 11).toNatClampNeg).toInt = rk (K r.2) := by
        rw [d_cn (show (m.1 70 11).toInt = (r.2 : Int) from s2)]
        exact (hRm r.2 s3 s4).1
      have hT1 : TG K o false (rb r gst) T := hT.st (fun z => by rw [gX_O s3, if_pos hk])
      have hkk : r.1 = 0 → K r.2 ≠ 24 ∧ K r.2 ≠ 25 := fun _ => by omega
      have again : ∀ (m3 : dM) (p' c' : Nat), ES me s m3 o p' c' p' → (flt m3 = 0 → tt m3 = tt m + 1) → m3.2 = me.2 → ST K P m3 (rb r gst) W → j_X12_expression_70_12 4 x1 (1 : Int32) m3 Q := fun m3 p' c' h3 t3 g3 S3 => by
        refine ih.1 x1 m3 o p' c' _ hx ⟨h3, g3, S3, hT1⟩ ?_
        unfold mu
        have := h3.2.2.2.1
        have := hE.2.1
        by_cases hz : flt m3 = 0
        · left; have := t3 hz; rcases hμ with q | q <;> omega
        · right; rcases hμ with q | q <;> omega
      have strong : (rk (K r.2) = 10 ∨ rk (K r.2) = 15) → ∀ x : Int32, c_X12_comesOut_70 3 x m (fun m2 => (0 ≤ (m2.1 70 11).toInt ∧ (m2.1 70 11).toInt < 403) ∧ (0 ≤ (m2.1 70 50).toInt ∧ (m2.1 70 50).toInt < 64) ∧ c_X12_goesOn_70 3 (dSet (dSet m2 104 (m2.1 70 50).toNatClampNeg (m2.1 73 (m2.1 70 11).toNatClampNeg)) 70 50 ((m2.1 70 50) + (1 : Int32))) (fun m3 => j_X12_expression_70_12 4 x1 (1 : Int32) m3 Q)) := fun hk2 x => by
        refine Wp.deep (er_out hs hme hE h2 hS (fun m2 p' c' h' b1 b2 b3 b4 b5 b6 g2 S2 => ?_)) (Nat.le_of_ble_eq_true rfl)
        refine er_push (cn := 2) hs hR h' g2 S2 hkk (by omega) ?_ (fun m3 h3 _ t3 g3 S3 => again m3 _ _ h3 (fun hz => by have := t3 hz; omega) g3 S3)
        rw [b5, b6]
        refine Or.inr (Or.inr ⟨by unfold upd; rw [if_pos rfl, ek]; exact hk2, rfl, p', c', rfl, b1, Wk_congr (fun j hj => ?_) h'.2.2.2.2.2.2.1⟩)
        unfold upd
        rw [if_neg (by omega)]
      refine v_X12_expression_70_181 ?_
      refine Wp.deep (q_is (k := 42) hv hRm hS (by decide) (by unfold vk; omega) (fun z q2 => ⟨fun _ => strong (by rw [q2]; decide) _, fun q => absurd q (by decide)⟩) (fun g1 => ⟨fun q => absurd rfl q, fun _ => ?_⟩)) (Nat.le_of_ble_eq_true rfl)
      refine Wp.deep (q_is (k := 47) hv hRm hS (by decide) (by unfold vk; omega) (fun z q2 => ⟨fun q => absurd q (by decide), fun _ => strong (by rw [q2]; decide) _⟩) (fun g2 => ⟨fun _ => ?_, fun q => absurd rfl q⟩)) (Nat.le_of_ble_eq_true rfl)
      have hk2 : rk (K r.2) = 8 ∨ rk (K r.2) = 9 := by
        rcases hk with q | q | q | q
        · left; rw [q]; decide
        · right; rw [q]; decide
        · exact absurd ⟨h0, q⟩ g1
        · exact absurd ⟨h0, q⟩ g2
      refine Wp.deep (er_out hs hme hE h2 hS (fun m2 p' c' h' b1 b2 b3 b4 b5 b6 g2' S2 => ?_)) (Nat.le_of_ble_eq_true rfl)
      have hc' : c' = 0 := b2 (by decide)
      subst hc'
      refine er_push (cn := 1) hs hR h' g2' S2 hkk (by omega) ?_ (fun m3 h3 _ t3 g3 S3 => again m3 _ _ h3 (fun hz => by have := t3 hz; omega) g3 S3)
      rw [b5, b6]
      refine Or.inr (Or.inl ⟨by unfold upd; rw [if_pos rfl, ek]; exact hk2, rfl, p', rfl, Wk_congr (fun j hj => ?_) h'.2.2.2.2.2.2.1⟩)
      unfold upd
      rw [if_neg (by omega)]
theorem r_expression {Q : dM → Prop} {n : Nat} (hs : s ≤ 1) (hv : ∀ i, vk (K i)) (hR : RM K V P me) (hS : ST K P me (0, n) W) (ho : opn me = 0) (hc : 420 * (s : Int) ≤ cds me ∧ cds me ≤ 420 * s + tt me) (hQ : ∀ m', EQ me s m' → m'.2 = me.2 → ST K P m' (gE K n) W → Q m') : c_X12_expression_70 4 me Q := by
  refine v_X12_expression_70 ?_
  have ht := hS.2.2
  have hf : flt me = 0 := hS.fl.2.mpr rfl
  have hES : ES me s (dSet me 70 50 (0 : Int32)) 0 0 0 0 := by
    have c1 : cds (dSet me 70 50 (0 : Int32)) = cds me := rfl
    have f1 : flt (dSet me 70 50 (0 : Int32)) = flt me := rfl
    have t1 : tt (dSet me 70 50 (0 : Int32)) = tt me := rfl
    refine ⟨⟨fun k e1 _ _ _ => dSet_k e1, fun j _ _ _ _ _ _ _ e8 => dSet_j e8, fun j _ => ⟨rfl, rfl⟩, Wz.eq rfl⟩, by omega, by omega, by omega, ho, rfl, ⟨rfl, rfl, rfl⟩, ⟨0, by omega, rfl⟩, by omega, fun _ => ⟨by omega, by omega⟩, by omega⟩
  refine (er_main hs hc.1 hv hR hQ 4000).1 _ _ 0 0 0 (0, n) ho ⟨hES, rfl, hS.of rfl rfl rfl rfl rfl, fun _ => rfl, fun q => absurd rfl q⟩ ?_
  left
  have f1 : flt (dSet me 70 50 (0 : Int32)) = flt me := rfl
  have t1 : tt (dSet me 70 50 (0 : Int32)) = tt me := rfl
  omega
end RGM
