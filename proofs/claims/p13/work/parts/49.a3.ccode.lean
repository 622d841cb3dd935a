section
/-! THE CLASS's grammar puts these codes -/
def LG (m : dM) (L : lC) : Prop := (m.1 29 1).toInt = (L.length : Int) ∧ L.length ≤ 406 ∧ ∀ i : Nat, i < L.length → m.1 30 i = L.getD i 0
def FXl (m m' : dM) : Prop := ∀ k : Nat, 31 < k → k ≤ 36 → m'.1 k = m.1 k
theorem FXl.rf (m : dM) : FXl m m := fun _ _ _ => rfl
theorem FXl.tr {a b c : dM} (h : FXl a b) (h' : FXl b c) : FXl a c := fun k p q => (h' k p q).trans (h k p q)
theorem LG.of {m m' : dM} {L : lC} (h : LG m L) (e : m'.1 29 = m.1 29) (e' : m'.1 30 = m.1 30) : LG m' L := by
  unfold LG
  rw [e, e']
  exact h
section CGC
variable {K : Nat → Int} {V : Nat → Int64} {mb m : dM} {n : Nat}
/-- how a step came out, laws apart -/
theorem kk_kind {Q : Int32 → dM → Prop} (hK : KM K mb) (h : GO K mb m (0, n)) (hQ : ∀ r : Int32, r.toInt = K n → Q r m) : c_X2_kind_43 1 m Q := k_kind hK h hQ
theorem kk_step {Q : Int32 → dM → Prop} (h : GO K mb m (0, n)) (hk : K n ≠ 24 ∧ K n ≠ 25) (hQ : ∀ (r : Int32) (m' : dM), GO K mb m' (gst n) → RT r (gst n) → (∀ k : Nat, k ≠ 43 → m'.1 k = m.1 k) → Q r m') : c_X2_step_43 1 m Q := by
  obtain ⟨e2, e3, h4, h5⟩ := h.at
  refine v_X2_step_43 ⟨fun q => hQ _ _ ?_ ?_ (fun k hk => dSet_k hk), fun q => hQ _ _ ?_ ?_ (fun k hk => dSet_k hk)⟩
  · unfold gst
    rw [if_neg (by omega)]
    exact h.set2 (by omega) hk
  · unfold gst
    rw [if_neg (by omega)]
    exact ⟨fun _ => rfl, fun z => absurd rfl z⟩
  · unfold gst
    rw [if_pos (by omega)]
    exact h.set3 (by decide)
  · unfold gst
    rw [if_pos (by omega)]
    exact ⟨fun z => absurd z (by first | decide | exact Nat.succ_ne_zero _), fun _ => rfl⟩
theorem kk_need {x1 : Int32} {k : Int} {Q : Int32 → dM → Prop} (hK : KM K mb) (h : GO K mb m (0, n)) (hx : x1.toInt = k) (hk : k ≠ 24 ∧ k ≠ 25) (hQ : ∀ (r : Int32) (m' : dM), GO K mb m' (gnd K k n) → RT r (gnd K k n) → (∀ k : Nat, k ≠ 43 → m'.1 k = m.1 k) → Q r m') : c_X2_need_43 2 x1 m Q := by
  refine v_X2_need_43 (k_kind hK h (fun r hr => ⟨fun q => v_X2_fail_43 ⟨Or.inl rfl, hQ _ _ ?_ ?_ (fun k hk => dSet_k hk)⟩, fun q => kk_step h (by rw [← hr, q, hx]; exact hk) (fun r' m' h' hr' hf => ⟨hr'.b, hQ _ _ ?_ ?_ hf⟩)⟩))
  · unfold gnd
    rw [if_neg (by omega)]
    exact h.set3 (by decide)
  · unfold gnd
    rw [if_neg (by omega)]
    exact ⟨fun z => absurd z (by first | decide | exact Nat.succ_ne_zero _), fun _ => rfl⟩
  · unfold gnd
    rw [if_pos (by omega)]
    exact h'
  · unfold gnd
    rw [if_pos (by omega)]
    exact hr'
theorem kk_put {x1 : Int32} {g : gR} {L : lC} {Q : dM → Prop} (h : GO K mb m g) (hL : LG m L) (hQ : ∀ m' : dM, GO K mb m' g → (L.length < 406 → LG m' (L ++ [x1])) → FXl m m' → Q m') : c_X4_put_29 1 x1 m Q := by
  have hl' := hL.1
  have hGL := h.2.1
  have e29 : (m.1 29 1).toNatClampNeg = L.length := d_cn hl'
  refine v_X4_put_29 ⟨fun q => v_X4_put_29_32 (hQ _ h (fun z => by exfalso; omega) (FXl.rf m)), fun q => ⟨by omega, v_X4_put_29_32 (hQ _ ?_ (fun z => ?_) (fun k a b => by rw [dSet_k (by omega), dSet_k (by omega)]))⟩⟩
  · have h30 : GO K mb (dSet m 30 (m.1 29 1).toNatClampNeg x1) g := h.law (by decide) (by
      unfold GL
      rw [dSet_k (by decide), dSet_k (by decide)]
      exact hGL)
    refine h30.law (by decide) ⟨?_, fun j => ?_⟩
    · rw [dSet_s]
      have := dAddE (X := (m.1 29 1).toInt) (Y := 1) (x := m.1 29 1) (y := (1 : Int32)) rfl (by decide) (by omega) (by omega)
      omega
    · rw [dSet_k (by decide), dSet_k (by decide)]
      exact hGL.2 j
  · rw [e29]
    have f := d_inc hl' (by omega)
    refine ⟨by rw [dSet_s, List.length_append]; exact f, by rw [List.length_append]; show L.length + 1 ≤ 406; omega, fun i hi => ?_⟩
    rw [List.length_append] at hi
    have hi : i < L.length + 1 := hi
    rw [dSet_k (by decide)]
    by_cases e : i = L.length
    · subst e
      rw [dSet_s, getD_last]
    · rw [dSet_j e, getD_app (by omega)]
      exact hL.2.2 i (by omega)
end CGC
/-- a piece of an expression: what it put -/
def PT (K : Nat → Int) (V : Nat → Int64) (tp : List Int → Prop) (o n n' : Nat) (L : lC) (m m' : dM) : Prop := FXl m m' ∧ ∃ L' : lC, LG m' L' ∧ L'.length + n ≤ L.length + n' ∧ ∀ W : List Int, tp W → sY K V o false n W L = sY K V o true n' W L'
def tA (_ : List Int) : Prop := True
def tS (W : List Int) : Prop := rkW W ≤ 1
def tO (W : List Int) : Prop := rkW W = 0
def xU (K : Nat → Int) (V : Nat → Int64) (mb : dM) (o d : Nat) : Prop := ∀ (n : Nat) (m : dM) (x1 : Int32) (L : lC) (Q : Int32 → dM → Prop), GO K mb m (0, n) → LG m L → L.length ≤ 6 + n → x1.toInt = o → (∀ (r : Int32) (m' : dM) (g : gR), GO K mb m' g → RT r g → (g.1 = 0 → gX K o o false n = gX K o o true g.2 ∧ n < g.2 ∧ PT K V tA o n g.2 L m m') → (g.1 ≠ 0 → gX K o o false n = g) → Q r m') → c_X2_unit_43 d x1 m Q
def xP (K : Nat → Int) (V : Nat → Int64) (mb : dM) (o d : Nat) : Prop := ∀ (n : Nat) (m : dM) (x1 : Int32) (L : lC) (Q : Int32 → dM → Prop), GO K mb m (0, n) → LG m L → L.length ≤ 6 + n → x1.toInt = o → (∀ (r : Int32) (m' : dM) (g : gR), GO K mb m' g → RT r g → (g.1 = 0 → gX K o o false n = gX K o o true g.2 ∧ n < g.2 ∧ K g.2 ≠ 42 ∧ K g.2 ≠ 47 ∧ PT K V tS o n g.2 L m m') → (g.1 ≠ 0 → gX K o o false n = g) → Q r m') → c_X2_product_43 d x1 m Q
def xSm (K : Nat → Int) (V : Nat → Int64) (mb : dM) (o d : Nat) : Prop := ∀ (n : Nat) (m : dM) (x1 : Int32) (L : lC) (Q : Int32 → dM → Prop), GO K mb m (0, n) → LG m L → L.length ≤ 6 + n → x1.toInt = o → (∀ (r : Int32) (m' : dM), GO K mb m' (gX K o o false n) → RT r (gX K o o false n) → ((gX K o o false n).1 = 0 → PT K V tO o n (gX K o o false n).2 L m m') → Q r m') → c_X2_sum_43 d x1 m Q
section CSC
variable {K : Nat → Int} {V : Nat → Int64} {mb : dM}
theorem kk_unit {o d : Nat} (hVM : VM K V mb) (ho : o ≤ 6) (hd : 2 ≤ d) (hS : o < 6 → xSm K V mb (o + 1) d) : xU K V mb o (d + 1) := by
  intro n m x1 L Q h hL hlen hx hQ
  have hK : KM K mb := fun i a b => (hVM i a b).1
  obtain ⟨e2, e3, h4, h5⟩ := h.at
  have eU := gX_U (K := K) (b := o) (d := o) h4
  have sU := fun W : List Int => sY_U (K := K) (V := V) (d := o) (W := W) (o := L) h4
  have bad : ∀ (m' : dM) (c : Nat), GO K mb m' (c, n) → c ≠ 0 → gX K o o false n = (c, n) → Q 0 m' := fun m' c h' hc e => hQ 0 m' (c, n) h' ⟨fun z => absurd z hc, fun _ => rfl⟩ (fun z => absurd z hc) (fun _ => e)
  have st : ∀ (r : Int32) (m1 m' : dM) (c : Int32), (L.length < 406 → LG m1 (L ++ [c])) → FXl m m1 → (∀ k : Nat, k ≠ 43 → m'.1 k = m1.1 k) → GO K mb m' (gst n) → RT r (gst n) → (K n = 23 ∨ (13 ≤ K n ∧ K n ≤ 21)) → (∀ W : List Int, sY K V o false n W L = sY K V o true (n + 1) W (L ++ [c])) → Q r m' := fun r m1 m' c hL1 hX hf h' hr hu hs => by
    rw [if_pos hu] at eU
    refine hQ r m' (gst n) h' hr (fun z => ?_) (fun z => ?_)
    · unfold gst at z ⊢
      by_cases q : 400 ≤ n
      · rw [if_pos q] at z; exact absurd z (by first | decide | exact Nat.succ_ne_zero _)
      · rw [if_neg q] at eU ⊢
        refine ⟨eU, Nat.lt_succ_self n, hX.tr (fun k a b => hf k (by omega)), L ++ [c], (hL1 (by omega)).of (hf 29 (by decide)) (hf 30 (by decide)), ?_, fun W _ => hs W⟩
        rw [List.length_append]
        show L.length + 1 + n ≤ L.length + (n + 1)
        omega
    · unfold gst at z ⊢
      by_cases q : 400 ≤ n
      · rw [if_pos q] at eU ⊢
        exact eU
      · rw [if_neg q] at z; exact absurd rfl z
  refine v_X2_unit_43 (Wp.deep (k_kind hK h (fun r hr => ?_)) (by omega))
  have h67 : ¬ (K n = 23 ∨ (13 ≤ K n ∧ K n ≤ 21)) → j_X2_unit_43_67 (d + 1) x1 r m Q := fun hu => by
    rw [if_neg hu] at eU
    refine v_X2_unit_43_67 ⟨fun q40 => ⟨fun q6 => ?_, fun q6 => ?_⟩, fun q40 => ?_⟩
    · rw [if_pos (by omega), if_neg (by omega)] at eU
      refine Wp.deep (kk_step h (by omega) (fun r1 m1 h1 hr1 hf1 => ⟨fun z => ?_, fun z => ?_⟩)) (by omega)
      · have z := hr1.z z
        unfold gst at z h1
        by_cases q : 400 ≤ n
        · rw [if_pos q] at eU h1
          exact v_X2_unit_43_123 (bad _ 2 h1 (by first | decide | exact Nat.succ_ne_zero _) eU)
        · rw [if_neg q] at z; exact absurd rfl z
      · have z := hr1.nz z
        unfold gst at z h1
        by_cases q : 400 ≤ n
        · rw [if_pos q] at z; exact absurd z (by first | decide | exact Nat.succ_ne_zero _)
        · rw [if_neg q] at eU h1
          have eS := gX_seg (K := K) (b := o) (b' := o + 1) (by omega) _ (o + 1) false (n + 1) rfl (by omega) (by omega)
          rw [← eU] at eS
          have hok := gX_ok (K := K) (b := o + 1) _ (o + 1) false (n + 1) rfl (by omega)
          have hnp := gX_nop (K := K) (b := o + 1) _ (o + 1) false (n + 1) rfl (by omega)
          have hL1 : LG m1 L := hL.of (hf1 29 (by decide)) (hf1 30 (by decide))
          refine hS (by omega) (n + 1) m1 _ L _ h1 hL1 (by omega) (d_add hx (by decide) (by omega)) (fun r2 m2 h2 hr2 pt2 => ⟨fun z2 => ?_, fun z2 => ?_⟩)
          · have z2 := hr2.z z2
            rw [rb_f z2] at eS
            generalize gX K (o + 1) (o + 1) false (n + 1) = g at *
            exact v_X2_unit_43_123 (hQ 0 m2 g h2 ⟨fun q => absurd q z2, fun _ => rfl⟩ (fun q => absurd q z2) (fun _ => eS))
          · have z2 := hr2.nz z2
            rw [rb_k z2] at eS
            have hnp := hnp z2
            have pt2 := pt2 z2
            generalize gX K (o + 1) (o + 1) false (n + 1) = g at *
            obtain ⟨g1, g2⟩ := g
            have z2 : g1 = 0 := z2
            subst z2
            have hok1 : n + 1 ≤ g2 ∧ g2 ≤ 400 := hok.1
            have hnp : K g2 ≠ 43 ∧ K g2 ≠ 45 ∧ K g2 ≠ 42 ∧ K g2 ≠ 47 := hnp
            have eO := gX_O (K := K) (b := o) (d := o + 1) hok1.2
            rw [if_neg (by omega), if_pos (by omega)] at eO
            have eS : gX K o o false n = gX K o (o + 1) true g2 := eS
            rw [eO] at eS
            obtain ⟨fx2, L2, lg2, ln2, sy2⟩ := pt2
            have ln2 : L2.length + (n + 1) ≤ L.length + g2 := ln2
            have sy2 : ∀ W : List Int, tO W → sY K V (o + 1) false (n + 1) W L = sY K V (o + 1) true g2 W L2 := sy2
            refine Wp.deep (kk_need hK h2 (k := 41) (by decide) (by decide) (fun r3 m3 h3 hr3 hf3 => ⟨fun z3 => ?_, fun z3 => ?_⟩)) hd
            · have z3 := hr3.z z3
              have e : gnd K 41 g2 = gX K o o false n := by
                rw [eS]
                unfold gnd gst at z3 ⊢
                by_cases q4 : K g2 = 41
                · rw [if_pos q4] at z3 ⊢
                  rw [if_pos q4]
                  by_cases q5 : 400 ≤ g2
                  · rw [if_pos q5, if_pos q5]
                  · rw [if_neg q5] at z3; exact absurd rfl z3
                · rw [if_neg q4, if_neg q4]
              exact v_X2_unit_43_123 (hQ 0 m3 _ h3 ⟨fun q => absurd q z3, fun _ => rfl⟩ (fun q => absurd q z3) (fun _ => e.symm))
            · have z3 := hr3.nz z3
              obtain ⟨k1, k2, k3⟩ := gnd_z rfl z3
              have e : gX K o o false n = gX K o o true (g2 + 1) := by
                rw [eS, if_pos k2, if_neg (by omega)]
                rfl
              refine hQ 1 m3 _ h3 ⟨fun _ => rfl, fun q => absurd z3 q⟩ (fun _ => ?_) (fun q => absurd z3 q)
              rw [k1]
              have fx1 : FXl m m1 := fun k a b => hf1 k (by omega)
              have fx3 : FXl m2 m3 := fun k a b => hf3 k (by omega)
              refine ⟨e, by show n < g2 + 1; omega, (fx1.tr fx2).tr fx3, L2, lg2.of (hf3 29 (by decide)) (hf3 30 (by decide)), by show L2.length + n ≤ L.length + (g2 + 1); omega, fun W _ => ?_⟩
              show sY K V o false n W L = sY K V o true (g2 + 1) W L2
              rw [sU W, if_neg (fun q => hu (Or.inl q)), if_neg (fun q => hu (Or.inr q)), if_pos (by omega), sy2 (40 :: W) rfl, sY_O hok1.2, if_neg (by omega), if_neg (by omega), if_pos ⟨by omega, k2⟩, fl_s (Or.inl rfl)]
              rfl
    · rw [if_pos (by omega), if_pos (by omega)] at eU
      exact Wp.deep (k_fail h (c := 2) (by decide) (fun m' h' => ⟨Or.inl rfl, bad m' 2 h' (by first | decide | exact Nat.succ_ne_zero _) eU⟩)) (by omega)
    · rw [if_neg (by omega)] at eU
      exact Wp.deep (k_fail h (c := 1) (by decide) (fun m' h' => ⟨Or.inl rfl, bad m' 1 h' (by first | decide | exact Nat.succ_ne_zero _) eU⟩)) (by omega)
  refine ⟨fun q23 => ⟨fun q => h67 (by omega), fun q => ⟨fun q => h67 (by omega), fun q => ?_⟩⟩, fun q23 => ?_⟩
  · have hv : 13 ≤ K n ∧ K n ≤ 21 := by omega
    have ec : ((4 : Int32) + r) - (13 : Int32) = vcd (K n) := by
      apply Int32.toInt_inj.mp
      have f1 := dAddE (X := 4) (Y := r.toInt) (x := (4 : Int32)) (y := r) (by decide) rfl (by omega) (by omega)
      have f2 := dSubE (X := 4 + r.toInt) (Y := 13) (x := (4 : Int32) + r) (y := (13 : Int32)) f1 (by decide) (by omega) (by omega)
      rw [vcd_i hv]
      omega
    rw [ec]
    exact Wp.deep (kk_put h hL (fun m2 h2 hL2 hX2 => Wp.deep (kk_step h2 (by omega) (fun r3 m3 h3 hr3 hf3 => ⟨hr3.b, st r3 m2 m3 _ hL2 hX2 hf3 h3 hr3 (Or.inr hv) (fun W => by rw [sU W, if_neg (by omega), if_pos hv])⟩)) (by omega))) (by omega)
  · have h23 : K n = 23 := by omega
    refine Wp.deep (k_numberAt e2 h4 ?_) hd
    have ev : m.2.1 41 n = V n := by rw [h.1.2.2.1]; exact (hVM n h4 h5).2 (by omega)
    rw [ev]
    exact Wp.deep (kk_put h hL (fun m2 h2 hL2 hX2 => Wp.deep (kk_step h2 (by omega) (fun r3 m3 h3 hr3 hf3 => ⟨hr3.b, st r3 m2 m3 _ hL2 hX2 hf3 h3 hr3 (Or.inl h23) (fun W => by rw [sU W, if_pos h23])⟩)) (by omega))) (by omega)
theorem fl_top1 {W : List Int} {o : lC} (h : rkW W ≤ 1) : fl true W o = (W, o) := by
  cases W with
  | nil => rfl
  | cons w W =>
    have h : (if w = 40 then 0 else if w = 43 ∨ w = 45 then 1 else 2) ≤ 1 := h
    refine fl_s ?_
    by_cases q : w = 40
    · exact Or.inl q
    · rw [if_neg q] at h
      by_cases q2 : w = 43 ∨ w = 45
      · exact Or.inr ⟨rfl, q2⟩
      · rw [if_neg q2] at h; omega
theorem fl_top0 {W : List Int} {o : lC} (h : rkW W = 0) : fl false W o = (W, o) := by
  rcases rk0 h with e | ⟨W', e⟩
  · subst e; rfl
  · subst e; exact fl_s (Or.inl rfl)
theorem kk_product {o d : Nat} (hK : KM K mb) (hd : 1 ≤ d) (hU : xU K V mb o d) : xP K V mb o (d + 1) := by
  intro n m x1 L Q h hL hlen hx hQ
  have bad : ∀ (m' : dM) (g : gR), GO K mb m' g → g.1 ≠ 0 → gX K o o false n = g → Q 0 m' := fun m' g h' hc e => hQ 0 m' g h' ⟨fun z => absurd z hc, fun _ => rfl⟩ (fun z => absurd z hc) (fun _ => e)
  have loop : ∀ (f i n1 : Nat) (x2 : Int32) (m1 : dM), 401 - n1 ≤ f → x2.toInt = i → 2 * i ≤ n1 → n < n1 → GO K mb m1 (0, n1) → gX K o o false n = gX K o o true n1 → PT K V tS o n n1 L m m1 → j_X2_product_43_12 (d + 1) x1 x2 m1 Q := by
    intro f
    induction f with
    | zero => intro i n1 x2 m1 hf h2 hi hn h1 e pt; have := h1.at.2.2.1; omega
    | succ f ih =>
      intro i n1 x2 m1 hf h2 hi hn h1 e pt
      obtain ⟨a2, a3, a4, a5⟩ := h1.at
      have eO := gX_O (K := K) (b := o) (d := o) a4
      have fin : K n1 ≠ 42 → K n1 ≠ 47 → j_X2_product_43_83 (d + 1) m1 Q := fun q1 q2 => v_X2_product_43_83 (hQ 1 m1 (0, n1) h1 ⟨fun _ => rfl, fun z => absurd rfl z⟩ (fun _ => ⟨e, hn, q1, q2, pt⟩) (fun z => absurd rfl z))
      obtain ⟨fx1, L1, lg1, ln1, sy1⟩ := pt
      have body : (K n1 = 42 ∨ K n1 = 47) → ∀ v : Int32, v = opc (K n1) → c_X2_step_43 d m1 (fun r2 m2 => ((r2.toInt = 0 → j_X2_product_43_67 (d + 1) m2 Q) ∧ (r2.toInt ≠ 0 → c_X2_unit_43 d x1 m2 (fun r3 m3 => ((r3.toInt ≠ 0 → c_X4_put_29 d v m3 (fun m4 => j_X2_product_43_12 (d + 1) x1 (x2 + (1 : Int32)) m4 Q)) ∧ (r3.toInt = 0 → j_X2_product_43_67 (d + 1) m3 Q)))))) := fun hk v hv => by
        rw [if_pos (by omega)] at eO
        refine Wp.deep (kk_step h1 (by omega) (fun r2 m2 h2' hr2 hf2 => ⟨fun z => ?_, fun z => ?_⟩)) hd
        · have z := hr2.z z
          unfold gst at z h2'
          by_cases q : 400 ≤ n1
          · rw [if_pos q] at eO h2'
            exact v_X2_product_43_67 (bad _ (2, n1) h2' (by first | decide | exact Nat.succ_ne_zero _) (e.trans eO))
          · rw [if_neg q] at z; exact absurd rfl z
        · have z := hr2.nz z
          unfold gst at z h2'
          by_cases q : 400 ≤ n1
          · rw [if_pos q] at z; exact absurd z (by first | decide | exact Nat.succ_ne_zero _)
          · rw [if_neg q] at eO h2'
            refine hU (n1 + 1) m2 x1 L1 _ h2' (lg1.of (hf2 29 (by decide)) (hf2 30 (by decide))) (by omega) hx (fun r3 m3 g h3 hr3 ok3 no3 => ⟨fun z3 => ?_, fun z3 => ?_⟩)
            · have z3 := hr3.nz z3
              obtain ⟨g1, g2⟩ := g
              have z3 : g1 = 0 := z3
              subst z3
              obtain ⟨p1, p2, fx3, L3, lg3, ln3, sy3⟩ := ok3 rfl
              have p2 : n1 + 1 < g2 := p2
              have ln3 : L3.length + (n1 + 1) ≤ L1.length + g2 := ln3
              have sy3 : ∀ W : List Int, tA W → sY K V o false (n1 + 1) W L1 = sY K V o true g2 W L3 := sy3
              have g400 := h3.at.2.2.1
              refine Wp.deep (kk_put h3 lg3 (fun m4 h4 lg4 fx4 => ih (i + 1) g2 _ m4 (by omega) (d_add h2 (by decide) (by omega)) (by omega) (by omega) h4 ((e.trans eO).trans p1) ?_)) hd
              have fx2 : FXl m1 m2 := fun k a b => hf2 k (by omega)
              refine ⟨((fx1.tr fx2).tr fx3).tr fx4, L3 ++ [v], lg4 (by omega), by rw [List.length_append]; show L3.length + 1 + n ≤ L.length + g2; omega, fun W hW => ?_⟩
              rw [sy1 W hW, sY_O a4, if_pos hk, fl_top1 hW, sy3 (K n1 :: W) trivial, sY_strong g400 hk, hv]
            · exact v_X2_product_43_67 (bad _ g h3 (hr3.z z3) ((e.trans eO).trans (no3 (hr3.z z3))))
      have h37 : (K n1 = 42 ∨ K n1 = 47) → j_X2_product_43_37 (d + 1) x1 x2 m1 Q := fun q => v_X2_product_43_37 (Wp.deep (k_kind hK h1 (fun r hr => ⟨fun q2 => body q 3 (by unfold opc; rw [if_neg (by omega), if_neg (by omega), if_neg (by omega)]), fun q2 => body q 2 (by unfold opc; rw [if_neg (by omega), if_neg (by omega), if_pos (by omega)])⟩)) hd)
      exact v_X2_product_43_12 ⟨fun q => by exfalso; omega, fun _ => Wp.deep (k_kind hK h1 (fun r hr => ⟨fun q => h37 (by omega), fun q => Wp.deep (k_kind hK h1 (fun r' hr' => ⟨fun q' => fin (by omega) (by omega), fun q' => h37 (by omega)⟩)) hd⟩)) hd⟩
  refine v_X2_product_43 (hU n m x1 L _ h hL hlen hx (fun r m1 g h1 hr ok no => ⟨fun z => ?_, fun z => bad _ g h1 (hr.z z) (no (hr.z z))⟩))
  have z := hr.nz z
  obtain ⟨g1, g2⟩ := g
  have z : g1 = 0 := z
  subst z
  obtain ⟨p1, p2, fx, L1, lg1, ln1, sy1⟩ := ok rfl
  have p2 : n < g2 := p2
  exact loop 401 0 g2 _ m1 (by omega) (by decide) (by omega) p2 h1 p1 ⟨fx, L1, lg1, ln1, fun W _ => sy1 W trivial⟩
theorem kk_sum {o d : Nat} (hK : KM K mb) (hd : 1 ≤ d) (hU : xP K V mb o d) : xSm K V mb o (d + 1) := by
  intro n m x1 L Q h hL hlen hx hQ
  have bad : ∀ (m' : dM) (g : gR), GO K mb m' g → g.1 ≠ 0 → gX K o o false n = g → Q 0 m' := fun m' g h' hc e => hQ 0 m' (by rw [e]; exact h') (by rw [e]; exact ⟨fun z => absurd z hc, fun _ => rfl⟩) (fun z => by rw [e] at z; exact absurd z hc)
  have loop : ∀ (f i n1 : Nat) (x2 : Int32) (m1 : dM), 401 - n1 ≤ f → x2.toInt = i → 2 * i ≤ n1 → (K n1 ≠ 42 ∧ K n1 ≠ 47) → n < n1 → GO K mb m1 (0, n1) → gX K o o false n = gX K o o true n1 → PT K V tO o n n1 L m m1 → j_X2_sum_43_12 (d + 1) x1 x2 m1 Q := by
    intro f
    induction f with
    | zero => intro i n1 x2 m1 hf h2 hi hn hnn h1 e pt; have := h1.at.2.2.1; omega
    | succ f ih =>
      intro i n1 x2 m1 hf h2 hi hn hnn h1 e pt
      obtain ⟨a2, a3, a4, a5⟩ := h1.at
      have eO := gX_O (K := K) (b := o) (d := o) a4
      have fin : K n1 ≠ 43 → K n1 ≠ 45 → j_X2_sum_43_83 (d + 1) m1 Q := fun q1 q2 => by
        rw [if_neg (by omega), if_neg (Nat.lt_irrefl o)] at eO
        have e2 := e.trans eO
        exact v_X2_sum_43_83 (hQ 1 m1 (by rw [e2]; exact h1) (by rw [e2]; exact ⟨fun _ => rfl, fun z => absurd rfl z⟩) (fun _ => by rw [e2]; exact pt))
      obtain ⟨fx1, L1, lg1, ln1, sy1⟩ := pt
      have body : (K n1 = 43 ∨ K n1 = 45) → ∀ v : Int32, v = opc (K n1) → c_X2_step_43 d m1 (fun r2 m2 => ((r2.toInt = 0 → j_X2_sum_43_67 (d + 1) m2 Q) ∧ (r2.toInt ≠ 0 → c_X2_product_43 d x1 m2 (fun r3 m3 => ((r3.toInt ≠ 0 → c_X4_put_29 d v m3 (fun m4 => j_X2_sum_43_12 (d + 1) x1 (x2 + (1 : Int32)) m4 Q)) ∧ (r3.toInt = 0 → j_X2_sum_43_67 (d + 1) m3 Q)))))) := fun hk v hv => by
        rw [if_pos (by omega)] at eO
        refine Wp.deep (kk_step h1 (by omega) (fun r2 m2 h2' hr2 hf2 => ⟨fun z => ?_, fun z => ?_⟩)) hd
        · have z := hr2.z z
          unfold gst at z h2'
          by_cases q : 400 ≤ n1
          · rw [if_pos q] at eO h2'
            exact v_X2_sum_43_67 (bad _ (2, n1) h2' (by first | decide | exact Nat.succ_ne_zero _) (e.trans eO))
          · rw [if_neg q] at z; exact absurd rfl z
        · have z := hr2.nz z
          unfold gst at z h2'
          by_cases q : 400 ≤ n1
          · rw [if_pos q] at z; exact absurd z (by first | decide | exact Nat.succ_ne_zero _)
          · rw [if_neg q] at eO h2'
            refine hU (n1 + 1) m2 x1 L1 _ h2' (lg1.of (hf2 29 (by decide)) (hf2 30 (by decide))) (by omega) hx (fun r3 m3 g h3 hr3 ok3 no3 => ⟨fun z3 => ?_, fun z3 => ?_⟩)
            · have z3 := hr3.nz z3
              obtain ⟨g1, g2⟩ := g
              have z3 : g1 = 0 := z3
              subst z3
              obtain ⟨p1, p2, p3, p4, fx3, L3, lg3, ln3, sy3⟩ := ok3 rfl
              have p2 : n1 + 1 < g2 := p2
              have p3 : K g2 ≠ 42 := p3
              have p4 : K g2 ≠ 47 := p4
              have ln3 : L3.length + (n1 + 1) ≤ L1.length + g2 := ln3
              have sy3 : ∀ W : List Int, tS W → sY K V o false (n1 + 1) W L1 = sY K V o true g2 W L3 := sy3
              have g400 := h3.at.2.2.1
              refine Wp.deep (kk_put h3 lg3 (fun m4 h4 lg4 fx4 => ih (i + 1) g2 _ m4 (by omega) (d_add h2 (by decide) (by omega)) (by omega) ⟨p3, p4⟩ (by omega) h4 ((e.trans eO).trans p1) ?_)) hd
              have fx2 : FXl m1 m2 := fun k a b => hf2 k (by omega)
              refine ⟨((fx1.tr fx2).tr fx3).tr fx4, L3 ++ [v], lg4 (by omega), by rw [List.length_append]; show L3.length + 1 + n ≤ L.length + g2; omega, fun W hW => ?_⟩
              have tw : tS (K n1 :: W) := by
                show (if K n1 = 40 then 0 else if K n1 = 43 ∨ K n1 = 45 then 1 else 2) ≤ 1
                rw [if_neg (by omega), if_pos hk]
                exact Nat.le_refl _
              rw [sy1 W hW, sY_O a4, if_neg (by omega), if_pos hk, fl_top0 hW, sy3 (K n1 :: W) tw, sY_weak g400 hk ⟨p3, p4⟩, hv]
            · exact v_X2_sum_43_67 (bad _ g h3 (hr3.z z3) ((e.trans eO).trans (no3 (hr3.z z3))))
      have h37 : (K n1 = 43 ∨ K n1 = 45) → j_X2_sum_43_37 (d + 1) x1 x2 m1 Q := fun q => v_X2_sum_43_37 (Wp.deep (k_kind hK h1 (fun r hr => ⟨fun q2 => body q 1 (by unfold opc; rw [if_neg (by omega), if_pos (by omega)]), fun q2 => body q 0 (by unfold opc; rw [if_pos (by omega)])⟩)) hd)
      exact v_X2_sum_43_12 ⟨fun q => by exfalso; omega, fun _ => Wp.deep (k_kind hK h1 (fun r hr => ⟨fun q => h37 (by omega), fun q => Wp.deep (k_kind hK h1 (fun r' hr' => ⟨fun q' => fin (by omega) (by omega), fun q' => h37 (by omega)⟩)) hd⟩)) hd⟩
  refine v_X2_sum_43 (hU n m x1 L _ h hL hlen hx (fun r m1 g h1 hr ok no => ⟨fun z => ?_, fun z => bad _ g h1 (hr.z z) (no (hr.z z))⟩))
  have z := hr.nz z
  obtain ⟨g1, g2⟩ := g
  have z : g1 = 0 := z
  subst z
  obtain ⟨p1, p2, p3, p4, fx, L1, lg1, ln1, sy1⟩ := ok rfl
  have p2 : n < g2 := p2
  exact loop 401 0 g2 _ m1 (by omega) (by decide) (by omega) ⟨p3, p4⟩ p2 h1 p1 ⟨fx, L1, lg1, ln1, fun W hW => sy1 W (by show rkW W ≤ 1; have : rkW W = 0 := hW; omega)⟩
theorem kk_sums (hVM : VM K V mb) : ∀ (e o : Nat), o + e = 6 → xSm K V mb o (3 * e + 8) := by
  have hK : KM K mb := fun i a b => (hVM i a b).1
  intro e
  induction e with
  | zero => intro o ho; exact kk_sum hK (by omega) (kk_product hK (by omega) (kk_unit (d := 5) hVM (by omega) (by omega) (fun q => by exfalso; omega)))
  | succ e ih =>
    intro o ho
    have hS := ih (o + 1) (by omega)
    have := kk_sum hK (by omega) (kk_product hK (by omega) (kk_unit (o := o) (d := 3 * e + 8) hVM (by omega) (by omega) (fun _ => hS)))
    rw [show 3 * (e + 1) + 8 = 3 * e + 8 + 1 + 1 + 1 by omega]
    exact this
/-- an expression puts its codes -/
theorem kk_expr {n : Nat} {m : dM} {L : lC} {Q : Int32 → dM → Prop} (hVM : VM K V mb) (h : GO K mb m (0, n)) (hL : LG m L) (hlen : L.length ≤ 6 + n) (hQ : ∀ (r : Int32) (m' : dM), GO K mb m' (gE K n) → RT r (gE K n) → ((gE K n).1 = 0 → FXl m m' ∧ LG m' (L ++ cE K V n) ∧ (L ++ cE K V n).length ≤ 6 + (gE K n).2 ∧ n < (gE K n).2 + 1) → Q r m') : c_X2_sum_43 26 (0 : Int32) m Q := by
  have h4 := h.at.2.2.1
  have hok := gX_ok (K := K) (b := 0) _ 0 false n rfl h4
  have hnp := gX_nop (K := K) (b := 0) _ 0 false n rfl h4
  refine kk_sums hVM 6 0 rfl n m _ L Q h hL hlen (by decide) (fun r m' h' hr pt => hQ r m' h' hr (fun z => ?_))
  have z' : (gX K 0 0 false n).1 = 0 := z
  obtain ⟨fx, L1, lg1, ln1, sy1⟩ := pt z'
  have np := hnp z'
  have e := sy1 [] rfl
  rw [cE_pre, sY_O hok.1.2, if_neg (by omega), if_neg (by omega), if_neg (fun q => by omega)] at e
  have e : L ++ cE K V n = L1 := e
  have b1' := hok.1.1
  have b1' : n ≤ (gE K n).2 := b1'
  have ln1 : L1.length + n ≤ L.length + (gE K n).2 := ln1
  rw [e]
  exact ⟨fx, lg1, by omega, by omega⟩
end CSC
end
section
/-! THE CLASS's laws, as told -/
section LAP
variable (K : Nat → Int) (V : Nat → Int64)
/-- a law's pieces, from behind its sign of setting -/
def lIf : Nat → Nat → List lC
  | 0, n => [cE K V n]
  | r + 1, n => if K n = 10 then cE K V (n + 1) :: cE K V ((gE K (n + 1)).2 + 1) :: cE K V ((gE K ((gE K (n + 1)).2 + 1)).2 + 1) :: lIf r ((gE K ((gE K ((gE K (n + 1)).2 + 1)).2 + 1)).2 + 1) else [cE K V n]
def lawP (n : Nat) : List lC := lIf K V 4 (n + 2)
end LAP
def lDf (p : List lC) : lD := ((p.length - 1) / 3, fun i => p.getD i [])
/-- rows of a law under way -/
def PRo (m : dM) (a k : Nat) (p : List lC) : Prop := (m.1 36 k).toInt = (p.length : Int) ∧ p.length ≤ 13 ∧ ∀ i : Nat, i ≤ p.length → (m.1 (32 + k) i).toInt = ((a + (p.take i).flatten.length : Nat) : Int)
/-- the other laws -/
def FKl (k : Nat) (m m' : dM) : Prop := ∀ j : Nat, j < 4 → j ≠ k → m'.1 (32 + j) = m.1 (32 + j) ∧ m'.1 36 j = m.1 36 j
theorem FKl.rf (k : Nat) (m : dM) : FKl k m m := fun _ _ _ => ⟨rfl, rfl⟩
theorem FKl.tr {k : Nat} {a b c : dM} (h : FKl k a b) (h' : FKl k b c) : FKl k a c := fun j p q => ⟨(h' j p q).1.trans (h j p q).1, (h' j p q).2.trans (h j p q).2⟩
theorem FXl.fk {k : Nat} {a b : dM} (h : FXl a b) : FKl k a b := fun j p q => ⟨h _ (by omega) (by omega), by rw [h 36 (by omega) (by omega)]⟩
section CLW
variable {K : Nat → Int} {V : Nat → Int64} {mb : dM}
theorem PRo.of {m m' : dM} {a k : Nat} {p : List lC} (h : PRo m a k p) (e : ∀ c : Nat, 31 < c → c ≤ 36 → m'.1 c = m.1 c) (hk : k < 4) : PRo m' a k p := by
  unfold PRo
  rw [e 36 (by omega) (by omega), e (32 + k) (by omega) (by omega)]
  exact h
theorem take_app {p : List lC} {c : lC} {i : Nat} (h : i ≤ p.length) : (p ++ [c]).take i = p.take i := by
  rw [List.take_append_of_le_length h]
theorem kk_begin {x1 : Int32} {k n : Nat} {m : dM} {L : lC} {Q : dM → Prop} (h : GO K mb m (0, n)) (hx : x1.toInt = (k : Int)) (hk : k < 4) (hL : LG m L) (hQ : ∀ m' : dM, GO K mb m' (0, n) → LG m' L → PRo m' L.length k [] → FKl k m m' → Q m') : c_X4_begin_29 1 x1 m Q := by
  have hGL := h.2.1
  have ec := d_cn hx
  have h36 : GO K mb (dSet m 36 k (0 : Int32)) (0, n) := h.law (by decide) ⟨by rw [dSet_k (by decide)]; exact hGL.1, fun j => by
    rw [dSet_e]
    split
    · decide
    · exact hGL.2 j⟩
  have go : ∀ c : Nat, c = 32 + k → Q (dSet (dSet m 36 k (0 : Int32)) c 0 (m.1 29 1)) := fun c hc => by
    subst hc
    refine hQ _ (h36.law (by omega) ?_) (hL.of (by rw [dSet_k (by omega), dSet_k (by decide)]) (by rw [dSet_k (by omega), dSet_k (by decide)])) ⟨?_, Nat.zero_le _, fun i hi => ?_⟩ (fun j hj hne => ⟨by rw [dSet_k (by omega), dSet_k (by omega)], by rw [dSet_k (by omega), dSet_j hne]⟩)
    · have := h36.2.1
      unfold GL
      rw [dSet_k (show 29 ≠ 32 + k by omega), dSet_k (show 36 ≠ 32 + k by omega)]
      exact this
    · rw [dSet_k (by omega), dSet_s]; rfl
    · have : i = 0 := by have : i ≤ 0 := hi; omega
      subst this
      rw [dSet_s]
      exact hL.1
  refine v_X4_begin_29 ?_
  rw [ec]
  exact ⟨by omega, by omega, fun q => go 32 (by omega), fun q => go 33 (by omega), fun q => go 34 (by omega), fun q => go 35 (by omega)⟩
theorem kk_piece {x1 : Int32} {k n a : Nat} {p : List lC} {c : lC} {L : lC} {m : dM} {Q : dM → Prop} (h : GO K mb m (0, n)) (hx : x1.toInt = (k : Int)) (hk : k < 4) (hL : LG m L) (hP : PRo m a k p) (hlen : L.length = a + (p ++ [c]).flatten.length) (hp : p.length < 13) (hQ : ∀ m' : dM, GO K mb m' (0, n) → LG m' L → PRo m' a k (p ++ [c]) → FKl k m m' → Q m') : c_X4_endPiece_29 1 x1 m Q := by
  have hGL := h.2.1
  have ec := d_cn hx
  obtain ⟨p1, p2, p3⟩ := hP
  have f1 := d_inc p1 (by omega)
  have f1' := d_cn f1
  have h36 : GO K mb (dSet m 36 k (m.1 36 k + 1)) (0, n) := h.law (by decide) ⟨by rw [dSet_k (by decide)]; exact hGL.1, fun j => by
    rw [dSet_e]
    split
    · omega
    · exact hGL.2 j⟩
  have go : ∀ b : Nat, b = 32 + k → j_X4_endPiece_29_38 1 (dSet (dSet m 36 k (m.1 36 k + 1)) b (p.length + 1) (m.1 29 1)) Q := fun b hb => by
    subst hb
    refine v_X4_endPiece_29_38 (hQ _ (h36.law (by omega) ?_) (hL.of (by rw [dSet_k (by omega), dSet_k (by decide)]) (by rw [dSet_k (by omega), dSet_k (by decide)])) ⟨?_, ?_, fun i hi => ?_⟩ (fun j hj hne => ⟨by rw [dSet_k (by omega), dSet_k (by omega)], by rw [dSet_k (by omega), dSet_j hne]⟩))
    · have := h36.2.1
      unfold GL
      rw [dSet_k (show 29 ≠ 32 + k by omega), dSet_k (show 36 ≠ 32 + k by omega)]
      exact this
    · rw [dSet_k (by omega), dSet_s, List.length_append]; exact f1
    · rw [List.length_append]; show p.length + 1 ≤ 13; omega
    · rw [List.length_append] at hi
      have hi : i ≤ p.length + 1 := hi
      by_cases e : i = p.length + 1
      · subst e
        rw [dSet_s, List.take_of_length_le (by rw [List.length_append]; exact Nat.le_refl _), ← hlen]
        exact hL.1
      · rw [dSet_j e, dSet_k (by omega), take_app (by omega)]
        exact p3 i (by omega)
  have b14 : 0 ≤ (m.1 36 k + 1).toInt ∧ (m.1 36 k + 1).toInt < 14 := by omega
  refine v_X4_endPiece_29 ?_
  rw [ec, f1']
  exact ⟨by omega, fun q => by exfalso; omega, fun q => ⟨by omega, by omega, by omega, fun q => ⟨by omega, b14, go 32 (by omega)⟩, fun q => ⟨by omega, b14, go 33 (by omega)⟩, fun q => ⟨by omega, b14, go 34 (by omega)⟩, fun q => ⟨by omega, b14, go 35 (by omega)⟩⟩⟩
/-- a piece and what must follow it -/
theorem kk_exprPiece {x1 x2 : Int32} {e : Int} {k n a : Nat} {p : List lC} {L : lC} {m : dM} {Q : Int32 → dM → Prop} (hVM : VM K V mb) (h : GO K mb m (0, n)) (hx : x1.toInt = (k : Int)) (hk : k < 4) (h2 : x2.toInt = e) (he : e ≠ 24 ∧ e ≠ 25) (hL : LG m L) (hP : PRo m a k p) (hlen : L.length = a + p.flatten.length) (hL6 : L.length ≤ 6 + n) (hp : p.length < 13) (hQ : ∀ (r : Int32) (m' : dM), GO K mb m' (rb (gE K n) (gnd K e)) → RT r (rb (gE K n) (gnd K e)) → ((rb (gE K n) (gnd K e)).1 = 0 → LG m' (L ++ cE K V n) ∧ PRo m' a k (p ++ [cE K V n]) ∧ FKl k m m' ∧ (L ++ cE K V n).length = a + (p ++ [cE K V n]).flatten.length ∧ (L ++ cE K V n).length ≤ 6 + (rb (gE K n) (gnd K e)).2) → Q r m') (Q0 : dM → Prop) (hQ0 : ∀ m' : dM, GO K mb m' (rb (gE K n) (gnd K e)) → (rb (gE K n) (gnd K e)).1 ≠ 0 → Q0 m') : c_X2_sum_43 26 (0 : Int32) m (fun r1 m1 => (r1.toInt = 0 → Q0 m1) ∧ (r1.toInt ≠ 0 → c_X2_endPiece_43 26 x1 x2 m1 Q)) := by
  have hK : KM K mb := fun i a b => (hVM i a b).1
  refine kk_expr hVM h hL hL6 (fun r1 m1 h1 hr1 pt1 => ⟨fun z => ?_, fun z => ?_⟩)
  · have z := hr1.z z
    refine hQ0 m1 ?_ ?_
    · rw [rb_f z]; exact h1
    · rw [rb_f z]; exact z
  · have z := hr1.nz z
    obtain ⟨fx, lg, ll, lt'⟩ := pt1 z
    rw [rb_k z] at hQ
    have fl : (L ++ cE K V n).length = a + (p ++ [cE K V n]).flatten.length := by
      rw [List.length_append, List.flatten_append, List.length_append, hlen]
      simp
      omega
    generalize hg : gE K n = g at *
    obtain ⟨g1, g2⟩ := g
    have z : g1 = 0 := z
    subst z
    refine v_X2_endPiece_43 (Wp.deep (kk_piece (c := cE K V n) h1 hx hk lg (hP.of (fun c p q => fx c p q) hk) fl hp (fun m2 h2' lg2 pr2 fk2 => Wp.deep (kk_need hK h2' h2 he (fun r3 m3 h3 hr3 hf3 => ⟨hr3.b, hQ r3 m3 h3 hr3 (fun z3 => ?_)⟩)) (Nat.le_of_ble_eq_true rfl))) (Nat.le_of_ble_eq_true rfl))
    · obtain ⟨k1, k2, k3⟩ := gnd_z rfl z3
      have e3 : FXl m2 m3 := fun c p q => hf3 c (by omega)
      refine ⟨lg2.of (hf3 29 (by decide)) (hf3 30 (by decide)), pr2.of (fun c p q => hf3 c (by omega)) hk, (fx.fk.tr fk2).tr e3.fk, fl, ?_⟩
      have ll : (L ++ cE K V n).length ≤ 6 + g2 := ll
      rw [k1]
      show (L ++ cE K V n).length ≤ 6 + (g2 + 1)
      omega
end CLW
end
section
/-! THE CLASS's laws, as told, 2 -/
section LPO
variable {K : Nat → Int} {V : Nat → Int64}
theorem gEnd_z {e : Int} {n : Nat} (h : (rb (gE K n) (gnd K e)).1 = 0) : (gE K n).1 = 0 ∧ rb (gE K n) (gnd K e) = (0, (gE K n).2 + 1) ∧ (gE K n).2 < 400 := by
  obtain ⟨h1, h2⟩ := rb_z h
  rw [h2] at h ⊢
  obtain ⟨k1, k2, k3⟩ := gnd_z rfl h
  exact ⟨h1, k1, k3⟩
theorem gIf_0 {n : Nat} : gIf K 0 n = if K n = 10 then (2, n) else rb (gE K n) (gnd K 59) := rfl
theorem gIf_s {r n : Nat} : gIf K (r + 1) n = if K n = 10 then rb (gst n) (fun n => rb (rb (gE K n) (gnd K 60)) (fun n => rb (rb (gE K n) (gnd K 11)) (fun n => rb (rb (gE K n) (gnd K 12)) (gIf K r)))) else rb (gE K n) (gnd K 59) := by
  show (if K n = 10 then rb (gst n) (fun n => rb (gE K n) (fun n => rb (gnd K 60 n) (fun n => rb (gE K n) (fun n => rb (gnd K 11 n) (fun n => rb (gE K n) (fun n => rb (gnd K 12 n) (gIf K r))))))) else rb (gE K n) (gnd K 59)) = _
  simp only [rb_as]
theorem lIf_n {r n : Nat} (h : K n ≠ 10) : lIf K V r n = [cE K V n] := by
  cases r with
  | zero => rfl
  | succ r => show (if K n = 10 then _ else [cE K V n]) = _; rw [if_neg h]
theorem lIf_y {r n : Nat} (h : K n = 10) : lIf K V (r + 1) n = cE K V (n + 1) :: cE K V ((gE K (n + 1)).2 + 1) :: cE K V ((gE K ((gE K (n + 1)).2 + 1)).2 + 1) :: lIf K V r ((gE K ((gE K ((gE K (n + 1)).2 + 1)).2 + 1)).2 + 1) := by
  show (if K n = 10 then _ else [cE K V n]) = _
  rw [if_pos h]
/-- a law that is right: its pieces are right, and of the right number -/
theorem lIf_ok (hV : ∀ n : Nat, K n = 23 → 0 ≤ (V n).toInt32.toInt ∧ (V n).toInt32.toInt ≤ 9999) : ∀ (r n : Nat), n ≤ 400 → (gIf K r n).1 = 0 → (∃ q : Nat, q ≤ r ∧ (lIf K V r n).length = 3 * q + 1) ∧ ∀ (i : Nat) (c : lC), (lIf K V r n)[i]? = some c → wfL c 0
  | 0, n, hn, h => by
    rw [gIf_0] at h
    by_cases q : K n = 10
    · rw [if_pos q] at h; exact absurd h (Nat.succ_ne_zero 1)
    · rw [if_neg q] at h
      refine ⟨⟨0, Nat.le_refl _, rfl⟩, fun i c hc => ?_⟩
      match i, hc with
      | 0, hc =>
        have hc : some (cE K V n) = some c := hc
        cases hc
        exact cE_wf hV hn (gEnd_z h).1
      | i + 1, hc => cases hc
  | r + 1, n, hn, h => by
    rw [gIf_s] at h
    by_cases q : K n = 10
    · rw [if_pos q] at h
      obtain ⟨a1, a2⟩ := rb_z h
      rw [a2] at h
      obtain ⟨s1, s2⟩ := gst_z a1
      rw [s1] at h
      have h : (rb (rb (gE K (n + 1)) (gnd K 60)) (fun n => rb (rb (gE K n) (gnd K 11)) (fun n => rb (rb (gE K n) (gnd K 12)) (gIf K r)))).1 = 0 := h
      obtain ⟨b1', b2'⟩ := rb_z h
      rw [b2'] at h
      obtain ⟨c1, c2, c3⟩ := gEnd_z b1'
      rw [c2] at h
      have h : (rb (rb (gE K ((gE K (n + 1)).2 + 1)) (gnd K 11)) (fun n => rb (rb (gE K n) (gnd K 12)) (gIf K r))).1 = 0 := h
      obtain ⟨d1, d2⟩ := rb_z h
      rw [d2] at h
      obtain ⟨e1, e2, e3⟩ := gEnd_z d1
      rw [e2] at h
      have h : (rb (rb (gE K ((gE K ((gE K (n + 1)).2 + 1)).2 + 1)) (gnd K 12)) (gIf K r)).1 = 0 := h
      obtain ⟨f1, f2⟩ := rb_z h
      rw [f2] at h
      obtain ⟨g1, g2, g3⟩ := gEnd_z f1
      rw [g2] at h
      have h : (gIf K r ((gE K ((gE K ((gE K (n + 1)).2 + 1)).2 + 1)).2 + 1)).1 = 0 := h
      obtain ⟨⟨q', q1, q2⟩, w⟩ := lIf_ok hV r _ (by omega) h
      rw [lIf_y q]
      refine ⟨⟨q' + 1, by omega, by rw [List.length_cons, List.length_cons, List.length_cons, q2]; omega⟩, fun i c hc => ?_⟩
      match i, hc with
      | 0, hc =>
        have hc : some (cE K V (n + 1)) = some c := hc
        cases hc
        exact cE_wf hV (by omega) c1
      | 1, hc =>
        have hc : some (cE K V ((gE K (n + 1)).2 + 1)) = some c := hc
        cases hc
        exact cE_wf hV (by omega) e1
      | 2, hc =>
        have hc : some (cE K V ((gE K ((gE K (n + 1)).2 + 1)).2 + 1)) = some c := hc
        cases hc
        exact cE_wf hV (by omega) g1
      | i + 3, hc => exact w i c hc
    · rw [if_neg q] at h
      rw [lIf_n q]
      refine ⟨⟨0, Nat.zero_le _, rfl⟩, fun i c hc => ?_⟩
      match i, hc with
      | 0, hc =>
        have hc : some (cE K V n) = some c := hc
        cases hc
        exact cE_wf hV hn (gEnd_z h).1
      | i + 1, hc => cases hc
end LPO
/-- how a law, from a piece on, came out -/
def LE (m0 : dM) (a k : Nat) (p : List lC) (L : lC) (g : gR) (ps : List lC) (m' : dM) : Prop := g.1 = 0 → LG m' (L ++ ps.flatten) ∧ PRo m' a k (p ++ ps) ∧ FKl k m0 m' ∧ (L ++ ps.flatten).length = a + (p ++ ps).flatten.length ∧ (L ++ ps.flatten).length ≤ 6 + g.2
section CLV
variable {K : Nat → Int} {V : Nat → Int64} {mb : dM}
theorem kk_ifs {x1 : Int32} {k a : Nat} {Q : Int32 → dM → Prop} (hVM : VM K V mb) (hx : x1.toInt = (k : Int)) (hk : k < 4) : ∀ (r i n : Nat) (x2 : Int32) (m : dM) (p : List lC) (L : lC), i + r = 4 → x2.toInt = i → GO K mb m (0, n) → LG m L → PRo m a k p → L.length = a + p.flatten.length → L.length ≤ 6 + n → p.length = 3 * i → (∀ (v : Int32) (m' : dM), GO K mb m' (gIf K r n) → LE m a k p L (gIf K r n) (lIf K V r n) m' → Q v m') → j_X2_checkLaw_43_28 27 x1 x2 m Q := by
  have hK : KM K mb := fun i a b => (hVM i a b).1
  have one : ∀ (p : List lC) (L c : lC), L ++ c = L ++ [c].flatten := fun p L c => by rw [List.flatten_cons, List.flatten_nil, List.append_nil]
  have l122 : ∀ (n : Nat) (m : dM) (p : List lC) (L : lC), GO K mb m (0, n) → LG m L → PRo m a k p → L.length = a + p.flatten.length → L.length ≤ 6 + n → p.length < 13 → (∀ (v : Int32) (m' : dM), GO K mb m' (rb (gE K n) (gnd K 59)) → LE m a k p L (rb (gE K n) (gnd K 59)) [cE K V n] m' → Q v m') → j_X2_checkLaw_43_122 27 x1 m Q := by
    intro n m p L h hL hP hl' h6 hp hQ
    refine v_X2_checkLaw_43_122 (kk_exprPiece (e := 59) hVM h hx hk (by decide) (by decide) hL hP hl' h6 hp (fun r m' h' hr pt => ⟨fun z => v_X2_checkLaw_43_144 (hQ _ _ h' (fun q => absurd q (hr.z z))), fun z => hQ _ _ h' (fun q => ?_)⟩) _ (fun m' h' z => v_X2_checkLaw_43_144 (hQ _ _ h' (fun q => absurd q z))))
    obtain ⟨p1, p2, p3, p4, p5⟩ := pt q
    rw [one p L (cE K V n)] at p1 p4 p5
    exact ⟨p1, p2, p3, p4, p5⟩
  have l114 : ∀ (m m' : dM) (p : List lC) (L : lC) (g : gR) (ps : List lC), GO K mb m' g → g.1 ≠ 0 → (∀ (v : Int32) (m' : dM), GO K mb m' g → LE m a k p L g ps m' → Q v m') → j_X2_checkLaw_43_114 27 m' Q := fun m m' p L g ps h z hQ => v_X2_checkLaw_43_114 (hQ _ _ h (fun q => absurd q z))
  intro r
  induction r with
  | zero =>
    intro i n x2 m p L hi h2 h hL hP hl' h6 hpl hQ
    refine v_X2_checkLaw_43_28 ⟨fun q => by exfalso; omega, fun _ => Wp.deep (k_kind hK h (fun v hv => ⟨fun q => l122 n m p L h hL hP hl' h6 (by omega) (fun v m' h' he => hQ v m' ?_ ?_), fun q => ⟨fun q4 => by exfalso; omega, fun q4 => Wp.deep (k_fail h (c := 2) (by decide) (fun m' h' => ⟨Or.inl rfl, hQ _ _ ?_ (fun z => ?_)⟩)) (Nat.le_of_ble_eq_true rfl)⟩⟩)) (Nat.le_of_ble_eq_true rfl)⟩
    · rw [gIf_0, if_neg (by omega)]; exact h'
    · rw [gIf_0, if_neg (by omega)]; exact he
    · rw [gIf_0, if_pos (by omega)]; exact h'
    · rw [gIf_0, if_pos (by omega)] at z; exact absurd z (Nat.succ_ne_zero 1)
  | succ r ih =>
    intro i n x2 m p L hi h2 h hL hP hl' h6 hpl hQ
    rw [gIf_s] at hQ
    refine v_X2_checkLaw_43_28 ⟨fun q => by exfalso; omega, fun _ => Wp.deep (k_kind hK h (fun v hv => ⟨fun q => l122 n m p L h hL hP hl' h6 (by omega) (fun v m' h' he => hQ v m' ?_ ?_), fun q => ⟨fun q4 => ?_, fun q4 => by exfalso; omega⟩⟩)) (Nat.le_of_ble_eq_true rfl)⟩
    · rw [if_neg (by omega)]; exact h'
    · rw [if_neg (by omega), lIf_n (by omega)]; exact he
    · have k10 : K n = 10 := by omega
      rw [if_pos k10, lIf_y k10] at hQ
      refine Wp.deep (kk_step h (by omega) (fun r2 m2 h2' hr2 hf2 => ⟨fun z => ?_, fun z => ?_⟩)) (Nat.le_of_ble_eq_true rfl)
      · rw [rb_f (hr2.z z)] at hQ
        exact l114 m m2 p L _ _ h2' (hr2.z z) hQ
      · have z := hr2.nz z
        obtain ⟨s1, s2⟩ := gst_z z
        rw [rb_k z, s1] at hQ
        rw [s1] at h2'
        have hQ : ∀ (v : Int32) (m' : dM), GO K mb m' (rb (rb (gE K (n + 1)) (gnd K 60)) (fun n => rb (rb (gE K n) (gnd K 11)) (fun n => rb (rb (gE K n) (gnd K 12)) (gIf K r)))) → LE m a k p L (rb (rb (gE K (n + 1)) (gnd K 60)) (fun n => rb (rb (gE K n) (gnd K 11)) (fun n => rb (rb (gE K n) (gnd K 12)) (gIf K r)))) _ m' → Q v m' := hQ
        have fx2 : FXl m m2 := fun c p q => hf2 c (by omega)
        refine kk_exprPiece (e := 60) hVM h2' hx hk (by decide) (by decide) (hL.of (hf2 29 (by decide)) (hf2 30 (by decide))) (hP.of (fun c p q => hf2 c (by omega)) hk) hl' (by omega) (by omega) (fun r3 m3 h3 hr3 pt3 => ⟨fun z => ?_, fun z => ?_⟩) _ (fun m3 h3 z3 => ?_)
        · rw [rb_f z3] at hQ
          exact l114 m m3 p L _ _ h3 z3 hQ
        · rw [rb_f (hr3.z z)] at hQ
          exact l114 m m3 p L _ _ h3 (hr3.z z) hQ
        · have z := hr3.nz z
          obtain ⟨lg3, pr3, fk3, ll3, l63⟩ := pt3 z
          obtain ⟨c1, c2, c3⟩ := gEnd_z z
          rw [rb_k z, c2] at hQ
          rw [c2] at h3 l63
          have l63 : (L ++ cE K V (n + 1)).length ≤ 6 + ((gE K (n + 1)).2 + 1) := l63
          have hQ : ∀ (v : Int32) (m' : dM), GO K mb m' (rb (rb (gE K ((gE K (n + 1)).2 + 1)) (gnd K 11)) (fun n => rb (rb (gE K n) (gnd K 12)) (gIf K r))) → LE m a k p L (rb (rb (gE K ((gE K (n + 1)).2 + 1)) (gnd K 11)) (fun n => rb (rb (gE K n) (gnd K 12)) (gIf K r))) _ m' → Q v m' := hQ
          refine kk_exprPiece (e := 11) hVM h3 hx hk (by decide) (by decide) lg3 pr3 ll3 l63 (by rw [List.length_append]; show p.length + 1 < 13; omega) (fun r5 m5 h5 hr5 pt5 => ⟨fun z => ?_, fun z => ?_⟩) _ (fun m5 h5 z5 => ?_)
          · rw [rb_f z5] at hQ
            exact l114 m m5 p L _ _ h5 z5 hQ
          · rw [rb_f (hr5.z z)] at hQ
            exact l114 m m5 p L _ _ h5 (hr5.z z) hQ
          · have z := hr5.nz z
            obtain ⟨lg5, pr5, fk5, ll5, l65⟩ := pt5 z
            obtain ⟨d1, d2, d3⟩ := gEnd_z z
            rw [rb_k z, d2] at hQ
            rw [d2] at h5 l65
            have l65 : (L ++ cE K V (n + 1) ++ cE K V ((gE K (n + 1)).2 + 1)).length ≤ 6 + ((gE K ((gE K (n + 1)).2 + 1)).2 + 1) := l65
            have hQ : ∀ (v : Int32) (m' : dM), GO K mb m' (rb (rb (gE K ((gE K ((gE K (n + 1)).2 + 1)).2 + 1)) (gnd K 12)) (gIf K r)) → LE m a k p L (rb (rb (gE K ((gE K ((gE K (n + 1)).2 + 1)).2 + 1)) (gnd K 12)) (gIf K r)) _ m' → Q v m' := hQ
            refine kk_exprPiece (e := 12) hVM h5 hx hk (by decide) (by decide) lg5 pr5 ll5 l65 (by rw [List.length_append, List.length_append]; show p.length + 1 + 1 < 13; omega) (fun r7 m7 h7 hr7 pt7 => ⟨fun z => ?_, fun z => ?_⟩) _ (fun m7 h7 z7 => ?_)
            · rw [rb_f z7] at hQ
              exact l114 m m7 p L _ _ h7 z7 hQ
            · have z := hr7.nz z
              obtain ⟨lg7, pr7, fk7, ll7, l67⟩ := pt7 z
              obtain ⟨e1, e2, e3⟩ := gEnd_z z
              rw [rb_k z, e2] at hQ
              rw [e2] at h7 l67
              have l67 : (L ++ cE K V (n + 1) ++ cE K V ((gE K (n + 1)).2 + 1) ++ cE K V ((gE K ((gE K (n + 1)).2 + 1)).2 + 1)).length ≤ 6 + ((gE K ((gE K ((gE K (n + 1)).2 + 1)).2 + 1)).2 + 1) := l67
              have hQ : ∀ (v : Int32) (m' : dM), GO K mb m' (gIf K r ((gE K ((gE K ((gE K (n + 1)).2 + 1)).2 + 1)).2 + 1)) → LE m a k p L (gIf K r ((gE K ((gE K ((gE K (n + 1)).2 + 1)).2 + 1)).2 + 1)) _ m' → Q v m' := hQ
              refine ih (i + 1) _ _ m7 _ _ (by omega) (d_add h2 (by decide) (by omega)) h7 lg7 pr7 ll7 l67 (by rw [List.length_append, List.length_append, List.length_append]; show p.length + 1 + 1 + 1 = 3 * (i + 1); omega) (fun v m' h' he => hQ v m' h' (fun zz => ?_))
              obtain ⟨x1', x2', x3', x4', x5'⟩ := he zz
              have eL : L ++ cE K V (n + 1) ++ cE K V ((gE K (n + 1)).2 + 1) ++ cE K V ((gE K ((gE K (n + 1)).2 + 1)).2 + 1) ++ (lIf K V r ((gE K ((gE K ((gE K (n + 1)).2 + 1)).2 + 1)).2 + 1)).flatten = L ++ (cE K V (n + 1) :: cE K V ((gE K (n + 1)).2 + 1) :: cE K V ((gE K ((gE K (n + 1)).2 + 1)).2 + 1) :: lIf K V r ((gE K ((gE K ((gE K (n + 1)).2 + 1)).2 + 1)).2 + 1)).flatten := by
                simp only [List.flatten_cons, List.append_assoc]
              have eP : p ++ [cE K V (n + 1)] ++ [cE K V ((gE K (n + 1)).2 + 1)] ++ [cE K V ((gE K ((gE K (n + 1)).2 + 1)).2 + 1)] ++ lIf K V r ((gE K ((gE K ((gE K (n + 1)).2 + 1)).2 + 1)).2 + 1) = p ++ (cE K V (n + 1) :: cE K V ((gE K (n + 1)).2 + 1) :: cE K V ((gE K ((gE K (n + 1)).2 + 1)).2 + 1) :: lIf K V r ((gE K ((gE K ((gE K (n + 1)).2 + 1)).2 + 1)).2 + 1)) := by
                simp only [List.append_assoc, List.cons_append, List.nil_append]
              rw [eL] at x1' x4' x5'
              rw [eP] at x2' x4'
              exact ⟨x1', x2', (((fx2.fk (k := k)).tr fk3).tr fk5).tr (fk7.tr x3'), x4', x5'⟩
            · rw [rb_f (hr7.z z)] at hQ
              exact l114 m m7 p L _ _ h7 (hr7.z z) hQ
theorem kk_law {x1 : Int32} {k n : Nat} {m : dM} {L : lC} {Q : Int32 → dM → Prop} (hVM : VM K V mb) (hx : x1.toInt = (k : Int)) (hk : k < 4) (h : GO K mb m (0, n)) (hkn : K n ≠ 24 ∧ K n ≠ 25) (hL : LG m L) (h6 : L.length ≤ 6 + n) (hQ : ∀ (v : Int32) (m' : dM), GO K mb m' (gLaw K n) → LE m L.length k [] L (gLaw K n) (lawP K V n) m' → Q v m') : c_X2_checkLaw_43 27 x1 m Q := by
  have hK : KM K mb := fun i a b => (hVM i a b).1
  unfold gLaw at hQ
  refine v_X2_checkLaw_43 (Wp.deep (kk_begin h hx hk hL (fun m1 h1 lg1 pr1 fk1 => Wp.deep (kk_step h1 hkn (fun r2 m2 h2 hr2 hf2 => ⟨fun z => ?_, fun z => ?_⟩)) (Nat.le_of_ble_eq_true rfl))) (Nat.le_of_ble_eq_true rfl))
  · rw [rb_f (hr2.z z)] at hQ
    exact v_X2_checkLaw_43_24 (hQ _ _ h2 (fun q => absurd q (hr2.z z)))
  · have z := hr2.nz z
    obtain ⟨s1, s2⟩ := gst_z z
    rw [rb_k z, s1] at hQ
    rw [s1] at h2
    have hQ : ∀ (v : Int32) (m' : dM), GO K mb m' (rb (gnd K 61 (n + 1)) (gIf K 4)) → LE m L.length k [] L (rb (gnd K 61 (n + 1)) (gIf K 4)) (lawP K V n) m' → Q v m' := hQ
    refine Wp.deep (kk_need hK h2 (k := 61) (by decide) (by decide) (fun r3 m3 h3 hr3 hf3 => ⟨fun z => ?_, fun z => ?_⟩)) (Nat.le_of_ble_eq_true rfl)
    · have z := hr3.nz z
      obtain ⟨k1, k2, k3⟩ := gnd_z rfl z
      rw [rb_k z, k1] at hQ
      rw [k1] at h3
      have hQ : ∀ (v : Int32) (m' : dM), GO K mb m' (gIf K 4 (n + 2)) → LE m L.length k [] L (gIf K 4 (n + 2)) (lIf K V 4 (n + 2)) m' → Q v m' := hQ
      have fx2 : FXl m1 m2 := fun c p q => hf2 c (by omega)
      have fx3 : FXl m2 m3 := fun c p q => hf3 c (by omega)
      refine kk_ifs (a := L.length) hVM hx hk 4 0 (n + 2) _ m3 [] L rfl (by decide) h3 ((lg1.of (hf2 29 (by decide)) (hf2 30 (by decide))).of (hf3 29 (by decide)) (hf3 30 (by decide))) ((pr1.of fx2 hk).of fx3 hk) rfl (by omega) rfl (fun v m' h' he => hQ v m' h' (fun zz => ?_))
      obtain ⟨x1', x2', x3', x4', x5'⟩ := he zz
      exact ⟨x1', x2', ((fk1.tr fx2.fk).tr fx3.fk).tr x3', x4', x5'⟩
    · rw [rb_f (hr3.z z)] at hQ
      exact v_X2_checkLaw_43_24 (hQ _ _ h3 (fun q => absurd q (hr3.z z)))
end CLV
end
section
/-! THE CLASS's grammar with its laws: all of a text -/
section CRX
variable {K : Nat → Int} {mb : dM}
theorem kk_row {a b : Nat} {x1 x2 : Int32} {n : Nat} {m : dM} {Q : dM → Prop} (hK : KM K mb) (h : GO K mb m (0, n)) (hk : K n ≠ 24 ∧ K n ≠ 25) (h1 : x1.toInt = a) (h2 : x2.toInt = b) (ha : a ≤ 3) (hb : b ≤ 3) (hQ : ∀ m' : dM, GO K mb m' (rb (gst n) (gsq K (List.replicate a 22 ++ (List.replicate b 23 ++ [59])))) → (∀ k : Nat, k ≠ 43 → m'.1 k = m.1 k) → Q m') : c_X2_checkRow_43 3 x1 x2 m Q := by
  generalize hR : rb (gst n) (gsq K (List.replicate a 22 ++ (List.replicate b 23 ++ [59]))) = R at hQ
  have l57 : ∀ (x3 : Int32) (m' : dM) (g : gR), GO K mb m' g → (∀ k : Nat, k ≠ 43 → m'.1 k = m.1 k) → RT x3 g → rb g (gsq K [59]) = R → j_X2_checkRow_43_57 3 x3 m' Q := by
    intro x3 m' g h' hF hr e
    refine v_X2_checkRow_43_57 ⟨fun z => v_X2_checkRow_43_68 (hQ _ ?_ hF), fun z => ?_⟩
    · rw [rb_f (hr.z z)] at e
      rw [← e]; exact h'
    · have z := hr.nz z
      rw [rb_k z] at e
      obtain ⟨g1, g2⟩ := g
      have z : g1 = 0 := z
      subst z
      refine kk_need hK h' (k := 59) (by decide) (by decide) (fun r m2 h2 hr2 hf2 => v_X2_checkRow_43_68 (hQ _ ?_ (fun k hk => (hf2 k hk).trans (hF k hk))))
      have e : rb (gnd K 59 g2) (fun n => (0, n)) = R := e
      by_cases q : (gnd K 59 g2).1 = 0
      · rw [rb_k q] at e
        rw [← e, ← q]; exact h2
      · rw [rb_f q] at e
        rw [← e]; exact h2
  have l34 : ∀ (f i : Nat) (x3 x4 : Int32) (m' : dM) (g : gR), i + f = b → x4.toInt = i → GO K mb m' g → (∀ k : Nat, k ≠ 43 → m'.1 k = m.1 k) → RT x3 g → rb g (gsq K (List.replicate f 23 ++ [59])) = R → j_X2_checkRow_43_34 3 x2 x3 x4 m' Q := by
    intro f
    induction f with
    | zero =>
      intro i x3 x4 m' g hi h4 h' hF hr e
      exact v_X2_checkRow_43_34 ⟨fun _ => l57 x3 m' g h' hF hr e, fun q => by exfalso; omega⟩
    | succ f ih =>
      intro i x3 x4 m' g hi h4 h' hF hr e
      refine v_X2_checkRow_43_34 ⟨fun q => by exfalso; omega, fun _ => ⟨fun z => l57 x3 m' g h' hF hr ?_, fun z => ?_⟩⟩
      · rw [rb_f (hr.z z)] at e ⊢
        exact e
      · have z := hr.nz z
        rw [rb_k z] at e
        obtain ⟨g1, g2⟩ := g
        have z : g1 = 0 := z
        subst z
        exact kk_need hK h' (k := 23) (by decide) (by decide) (fun r m2 h2 hr2 hf2 => ih (i + 1) r _ m2 (gnd K 23 g2) (by omega) (d_add h4 (by decide) (by omega)) h2 (fun k hk => (hf2 k hk).trans (hF k hk)) hr2 e)
  have l8 : ∀ (f i : Nat) (x3 x4 : Int32) (m' : dM) (g : gR), i + f = a → x4.toInt = i → GO K mb m' g → (∀ k : Nat, k ≠ 43 → m'.1 k = m.1 k) → RT x3 g → rb g (gsq K (List.replicate f 22 ++ (List.replicate b 23 ++ [59]))) = R → j_X2_checkRow_43_8 3 x1 x2 x3 x4 m' Q := by
    intro f
    induction f with
    | zero =>
      intro i x3 x4 m' g hi h4 h' hF hr e
      exact v_X2_checkRow_43_8 ⟨fun _ => v_X2_checkRow_43_31 (l34 b 0 x3 _ m' g (by omega) (by decide) h' hF hr e), fun q => by exfalso; omega⟩
    | succ f ih =>
      intro i x3 x4 m' g hi h4 h' hF hr e
      refine v_X2_checkRow_43_8 ⟨fun q => by exfalso; omega, fun _ => ⟨fun z => v_X2_checkRow_43_31 (l34 b 0 x3 _ m' g (by omega) (by decide) h' hF hr ?_), fun z => ?_⟩⟩
      · rw [rb_f (hr.z z)] at e ⊢
        exact e
      · have z := hr.nz z
        rw [rb_k z] at e
        obtain ⟨g1, g2⟩ := g
        have z : g1 = 0 := z
        subst z
        exact kk_need hK h' (k := 22) (by decide) (by decide) (fun r m2 h2 hr2 hf2 => ih (i + 1) r _ m2 (gnd K 22 g2) (by omega) (d_add h4 (by decide) (by omega)) h2 (fun k hk => (hf2 k hk).trans (hF k hk)) hr2 e)
  exact v_X2_checkRow_43 (Wp.deep (kk_step h hk (fun r m1 h1' hr hf1 => l8 a 0 r _ m1 (gst n) (by omega) (by decide) h1' hf1 hr hR)) (Nat.le_of_ble_eq_true rfl))
theorem kk_counted {a b c most : Nat} {x1 x2 x3 x4 : Int32} {n : Nat} {m : dM} {Q : dM → Prop} (hK : KM K mb) (h : GO K mb m (0, n)) (hk : K n ≠ 24 ∧ K n ≠ 25) (h1 : x1.toInt = ((c + 1 : Nat) : Int)) (h2 : x2.toInt = most) (h3 : x3.toInt = a) (h4 : x4.toInt = b) (ha : a ≤ 3) (hb : b ≤ 3) (hQ : ∀ m' : dM, GO K mb m' (if most ≤ c then (2, n) else rb (gst n) (gsq K (List.replicate a 22 ++ (List.replicate b 23 ++ [59])))) → (∀ k : Nat, k ≠ 43 → m'.1 k = m.1 k) → Q m') : c_X2_checkCounted_43 4 x1 x2 x3 x4 m Q := by
  refine v_X2_checkCounted_43 ⟨fun q => kk_row hK h hk h3 h4 ha hb (fun m' h' hf => v_X2_checkCounted_43_20 (hQ _ ?_ hf)), fun q => v_X2_checkCounted_43_20 (hQ _ ?_ (fun k hk => dSet_k hk))⟩
  · rw [if_neg (by omega)]; exact h'
  · rw [if_pos (by omega)]; exact h.set3 (by decide)
end CRX
section LTL
/-- codes from a on, in all that was put -/
def SGL (L : lC) (a : Nat) (p : lC) : Prop := a + p.length ≤ L.length ∧ ∀ j : Nat, j < p.length → L.getD (a + j) 0 = p.getD j 0
theorem SGL.app {L x : lC} {a : Nat} {p : lC} (h : SGL L a p) : SGL (L ++ x) a p := by
  refine ⟨by rw [List.length_append]; have := h.1; omega, fun j hj => ?_⟩
  rw [List.getD_eq_getElem?_getD, List.getElem?_append_left (by have := h.1; omega), ← List.getD_eq_getElem?_getD]
  exact h.2 j hj
def LDL (m : dM) (L : lC) (k : Nat) (D : lD) : Prop := (m.1 36 k).toInt = ((3 * D.1 + 1 : Nat) : Int) ∧ lOk D ∧ ∀ i : Nat, i ≤ 3 * D.1 → ∃ a : Nat, (m.1 (32 + k) i).toInt = (a : Int) ∧ (m.1 (32 + k) (i + 1)).toInt = ((a + (D.2 i).length : Nat) : Int) ∧ SGL L a (D.2 i)
theorem LDL.of {m m' : dM} {L x : lC} {k : Nat} {D : lD} (h : LDL m L k D) (e : m'.1 (32 + k) = m.1 (32 + k)) (e' : m'.1 36 k = m.1 36 k) : LDL m' (L ++ x) k D := by
  obtain ⟨a, b, c⟩ := h
  refine ⟨by rw [e']; exact a, b, fun i hi => ?_⟩
  obtain ⟨y, y1, y2, y3⟩ := c i hi
  exact ⟨y, by rw [e]; exact y1, by rw [e]; exact y2, y3.app⟩
theorem flat_at {p : List lC} {i : Nat} (h : i < p.length) : p.flatten = (p.take i).flatten ++ (p.getD i [] ++ (p.drop (i + 1)).flatten) := by
  have e : p = p.take i ++ (p.getD i [] :: p.drop (i + 1)) := by
    rw [List.getD_eq_getElem?_getD, List.getElem?_eq_getElem h, Option.getD_some, ← List.drop_eq_getElem_cons h, List.take_append_drop]
  have := congrArg List.flatten e
  rw [List.flatten_append, List.flatten_cons] at this
  exact this
theorem take_at {p : List lC} {i : Nat} (h : i < p.length) : (p.take (i + 1)).flatten.length = (p.take i).flatten.length + (p.getD i []).length := by
  rw [List.take_add_one, List.flatten_append, List.length_append, List.getD_eq_getElem?_getD, List.getElem?_eq_getElem h]
  simp
/-- a law that has come out right lies as it must -/
theorem LE.ldl {m0 m' : dM} {k q : Nat} {L : lC} {g : gR} {p : List lC} (h : LE m0 L.length k [] L g p m') (z : g.1 = 0) (hq : q ≤ 4) (hp : p.length = 3 * q + 1) (hw : ∀ (i : Nat) (c : lC), p[i]? = some c → wfL c 0) : LDL m' (L ++ p.flatten) k (lDf p) := by
  obtain ⟨h1, ⟨h2, h3, h4⟩, h5, h6, h7⟩ := h z
  have e0 : (lDf p).1 = q := by show (p.length - 1) / 3 = q; omega
  unfold LDL
  rw [e0]
  refine ⟨by rw [h2]; show ((p.length : Nat) : Int) = _; rw [hp], ⟨by rw [e0]; exact hq, fun i hi => ?_⟩, fun i hi => ?_⟩
  · rw [e0] at hi
    have hi' : i < p.length := by omega
    refine hw i _ ?_
    show p[i]? = some (p.getD i [])
    rw [List.getD_eq_getElem?_getD, List.getElem?_eq_getElem hi']
    rfl
  · have hi' : i < p.length := by omega
    have f := flat_at hi'
    refine ⟨L.length + (p.take i).flatten.length, h4 i (by show i ≤ p.length; omega), ?_, ?_, fun j hj => ?_⟩
    · have := h4 (i + 1) (by show i + 1 ≤ p.length; omega)
      rw [this]
      show ((L.length + (p.take (i + 1)).flatten.length : Nat) : Int) = _
      rw [take_at hi']
      show ((L.length + ((p.take i).flatten.length + (p.getD i []).length) : Nat) : Int) = ((L.length + (p.take i).flatten.length + (p.getD i []).length : Nat) : Int)
      omega
    · show L.length + (p.take i).flatten.length + (p.getD i []).length ≤ _
      rw [List.length_append, f, List.length_append, List.length_append]
      omega
    · have hj : j < (p.getD i []).length := hj
      show (L ++ p.flatten).getD (L.length + (p.take i).flatten.length + j) 0 = (p.getD i []).getD j 0
      rw [f, List.getD_eq_getElem?_getD, List.getElem?_append_right (by omega), show L.length + (p.take i).flatten.length + j - L.length = (p.take i).flatten.length + j by omega, List.getElem?_append_right (by omega), show (p.take i).flatten.length + j - (p.take i).flatten.length = j by omega, List.getElem?_append_left hj, ← List.getD_eq_getElem?_getD]
def LT (m : dM) (n : Nat) (Ds : Nat → lD) : Prop := ∃ L : lC, LG m L ∧ L.length ≤ 6 + n ∧ ∀ k : Nat, k < 4 → LDL m L k (Ds k)
theorem LT.of {m m' : dM} {n n' : Nat} {Ds : Nat → lD} (h : LT m n Ds) (e : ∀ k : Nat, 29 ≤ k → k ≤ 36 → m'.1 k = m.1 k) (hn : n ≤ n') : LT m' n' Ds := by
  obtain ⟨L, h1, h2, h3⟩ := h
  refine ⟨L, h1.of (e 29 (by omega) (by omega)) (e 30 (by omega) (by omega)), by omega, fun k hk => ?_⟩
  have := (h3 k hk).of (x := []) (m' := m') (e (32 + k) (by omega) (by omega)) (by rw [e 36 (by omega) (by omega)])
  rw [List.append_nil] at this
  exact this
end LTL
section LAT
variable (K : Nat → Int) (V : Nat → Int64)
/-- the laws behind a TELL; behind all -/
def lTl (n : Nat) (Ds : Nat → lD) : Nat → lD := fun j => if (3 ≤ K n ∧ K n ≤ 6) ∧ (j : Int) = K n - 3 then lDf (lawP K V n) else Ds j
def lAll : Nat → Nat → Nat → Nat → Nat → (Nat → lD) → (Nat → lD)
  | 0, _, _, _, _, Ds => Ds
  | f + 1, cf, cw, cu, n, Ds => if K n = 24 then Ds else lAll f (cf + ct (K n) 0) (cw + ct (K n) 1) (cu + ct (K n) 2) (gTell K cf cw cu n).2 (lTl K V n Ds)
end LAT
section CCK
variable {K : Nat → Int} {V : Nat → Int64} {mb : dM}
theorem GT.vm {m : dM} {cf cw cu : Nat} {r : gR} (h : GT K mb m cf cw cu r) (hV : VM K V mb) : VM K V m := hV.of (h.1.1 39 (by omega)) (by rw [h.1.2.1])
theorem kk_told {x1 : Int32} {n cf cw cu : Nat} {m : dM} {Ds : Nat → lD} {Q : dM → Prop} (hVM : VM K V mb) (hV9 : ∀ n : Nat, K n = 23 → 0 ≤ (V n).toInt32.toInt ∧ (V n).toInt32.toInt ≤ 9999) (h : GT K mb m cf cw cu (0, n)) (hT : LT m n Ds) (hx : x1.toInt = K n) (hk : K n ≠ 24) (hc : cf ≤ 400 ∧ cw ≤ 400 ∧ cu ≤ 400) (hQ : ∀ m' : dM, GT K mb m' (cf + ct (K n) 0) (cw + ct (K n) 1) (cu + ct (K n) 2) (gTell K cf cw cu n) → ((gTell K cf cw cu n).1 = 0 → LT m' (gTell K cf cw cu n).2 (lTl K V n Ds)) → Q m') : c_X2_checkTold_43 28 x1 m Q := by
  have hVm := h.vm hVM
  have hKm : KM K m := fun i a b => (hVm i a b).1
  have hg := h.go
  obtain ⟨e4, e5, e6⟩ := h.2.2.2.2
  have n400 : n ≤ 400 := h.2.2.2.1.1
  have noLaw : ∀ m' : dM, ¬ (3 ≤ K n ∧ K n ≤ 6) → (∀ k : Nat, k ≠ 43 → m'.1 k = m.1 k) → (gTell K cf cw cu n).1 = 0 → LT m' (gTell K cf cw cu n).2 (lTl K V n Ds) := fun m' hn hf z => by
    have e : lTl K V n Ds = Ds := funext fun j => by unfold lTl; rw [if_neg (fun q => hn q.1)]
    rw [e]
    have := gTell_lt z
    exact hT.of (fun k a b => hf k (by omega)) (by omega)
  have cnt : ∀ (j : Nat) (v : Int32), j = 4 ∨ j = 5 ∨ j = 6 → GO K (dSet m 43 j v) (dSet m 43 j v) (0, n) ∧ KM K (dSet m 43 j v) := fun j v hj => by
    refine ⟨⟨⟨fun _ _ => rfl, fun _ _ _ => rfl, rfl, rfl⟩, h.2.1.set43, ?_, hg.2.2.2.1, hg.2.2.2.2⟩, fun i a b => ?_⟩
    · rw [dSet_j (by omega), dSet_j (by omega)]; exact hg.2.2.1
    · rw [dSet_k (by decide)]; exact hKm i a b
  have fin : ∀ (m' : dM), GT K mb m' (cf + ct (K n) 0) (cw + ct (K n) 1) (cu + ct (K n) 2) (gTell K cf cw cu n) → ((gTell K cf cw cu n).1 = 0 → LT m' (gTell K cf cw cu n).2 (lTl K V n Ds)) → j_X2_checkTold_43_165 28 m' Q := fun m' h' ht => v_X2_checkTold_43_165 (hQ m' h' ht)
  have laws : 3 ≤ K n ∧ K n ≤ 6 → c_X2_checkLaw_43 27 (x1 - (3 : Int32)) m (fun r4 m4 => j_X2_checkTold_43_165 28 m4 Q) := fun q => by
    have f3 := dSubE (X := x1.toInt) (Y := 3) (x := x1) (y := (3 : Int32)) rfl (by decide) (by omega) (by omega)
    obtain ⟨L, l1, l2, l3⟩ := hT
    obtain ⟨k, hk'⟩ : ∃ k : Nat, K n - 3 = (k : Int) := ⟨(K n - 3).toNat, by omega⟩
    have eT : gTell K cf cw cu n = gLaw K n := by
      unfold gTell
      rw [if_neg (by omega), if_neg (by omega), if_neg (by omega), if_pos q]
    refine kk_law (k := k) hVm (by omega) (by omega) hg (by omega) l1 l2 (fun v m' h' he => fin m' ?_ (fun z => ?_))
    · rw [eT]
      unfold ct
      rw [if_neg (by omega), if_neg (by omega), if_neg (by omega)]
      exact h.up (fun _ _ => rfl) rfl h' e4 e5 e6
    · rw [eT] at z ⊢
      have zi : (gIf K 4 (n + 2)).1 = 0 ∧ n + 2 ≤ 400 := by
        unfold gLaw at z
        obtain ⟨a1, a2⟩ := rb_z z
        rw [a2] at z
        obtain ⟨s1, s2⟩ := gst_z a1
        rw [s1] at z
        have z : (rb (gnd K 61 (n + 1)) (gIf K 4)).1 = 0 := z
        obtain ⟨b1', b2'⟩ := rb_z z
        rw [b2'] at z
        obtain ⟨k1, k2, k3⟩ := gnd_z rfl b1'
        rw [k1] at z
        exact ⟨z, by omega⟩
      obtain ⟨⟨q', q1, q2⟩, w⟩ := lIf_ok hV9 4 (n + 2) zi.2 zi.1
      have ld := he.ldl z q1 q2 w
      obtain ⟨x1', x2', x3', x4', x5'⟩ := he z
      refine ⟨L ++ (lawP K V n).flatten, x1', x5', fun j hj => ?_⟩
      unfold lTl
      by_cases e : (j : Int) = K n - 3
      · rw [if_pos ⟨q, e⟩]
        have : j = k := by omega
        subst this
        exact ld
      · rw [if_neg (fun y => e y.2)]
        have := x3' j hj (fun y => e (by omega))
        exact (l3 j hj).of this.1 this.2
  have rows : ∀ (b : Nat) (x2 : Int32), x2.toInt = b → b ≤ 3 → 7 ≤ K n → K n ≠ 25 → gTell K cf cw cu n = rb (gst n) (gsq K (List.replicate 0 22 ++ (List.replicate b 23 ++ [59]))) → c_X2_checkRow_43 27 (0 : Int32) x2 m (fun m8 => j_X2_checkTold_43_165 28 m8 Q) := fun b x2 h2 hb hk3 hk25 eT => by
    refine Wp.deep (kk_row hKm hg ⟨hk, hk25⟩ (a := 0) (b := b) (by decide) h2 (by decide) hb (fun m' h' hf => fin m' ?_ (noLaw m' (by omega) hf))) (Nat.le_of_ble_eq_true rfl)
    rw [eT]
    unfold ct
    rw [if_neg (by omega), if_neg (by omega), if_neg (by omega)]
    exact h.up (fun _ _ => rfl) rfl h' e4 e5 e6
  refine v_X2_checkTold_43 ⟨fun q => ?_, fun q => ?_, fun q => ?_, fun q => laws (by omega), fun q => laws (by omega), fun q => laws (by omega), fun q => laws (by omega), fun q => ?_, fun q => ?_, fun q => ?_, fun q => ?_⟩
  · have f := d_add (k := 1) (K := 1) e4 (by decide) (by omega)
    have g := cnt 4 (m.1 43 4 + 1) (Or.inl rfl)
    refine Wp.deep (kk_counted g.2 g.1 (by omega) (c := cf) (most := 7) (a := 1) (b := 1) f (by decide) (by decide) (by decide) (by decide) (by decide) (fun m' h' hf => fin m' ?_ (noLaw m' (by omega) (fun k hk => by rw [hf k hk, dSet_k hk])))) (Nat.le_of_ble_eq_true rfl)
    have eT : gTell K cf cw cu n = if 7 ≤ cf then (2, n) else rb (gst n) (gsq K [22, 23, 59]) := by
      unfold gTell
      rw [if_pos (by omega)]
    rw [eT]
    unfold ct
    rw [if_pos (by omega), if_neg (by omega), if_neg (by omega)]
    exact h.up (fun k a => dSet_k a) rfl h' (by rw [dSet_s]; exact f) (by rw [dSet_j (by decide)]; exact e5) (by rw [dSet_j (by decide)]; exact e6)
  · have f := d_add (k := 1) (K := 1) e5 (by decide) (by omega)
    have g := cnt 5 (m.1 43 5 + 1) (Or.inr (Or.inl rfl))
    refine Wp.deep (kk_counted g.2 g.1 (by omega) (c := cw) (most := 10) (a := 2) (b := 1) f (by decide) (by decide) (by decide) (by decide) (by decide) (fun m' h' hf => fin m' ?_ (noLaw m' (by omega) (fun k hk => by rw [hf k hk, dSet_k hk])))) (Nat.le_of_ble_eq_true rfl)
    have eT : gTell K cf cw cu n = if 10 ≤ cw then (2, n) else rb (gst n) (gsq K [22, 22, 23, 59]) := by
      unfold gTell
      rw [if_neg (by omega), if_pos (by omega)]
    rw [eT]
    unfold ct
    rw [if_neg (by omega), if_pos (by omega), if_neg (by omega)]
    exact h.up (fun k a => dSet_k a) rfl h' (by rw [dSet_j (by decide)]; exact e4) (by rw [dSet_s]; exact f) (by rw [dSet_j (by decide)]; exact e6)
  · have f := d_add (k := 1) (K := 1) e6 (by decide) (by omega)
    have g := cnt 6 (m.1 43 6 + 1) (Or.inr (Or.inr rfl))
    refine Wp.deep (kk_counted g.2 g.1 (by omega) (c := cu) (most := 8) (a := 2) (b := 3) f (by decide) (by decide) (by decide) (by decide) (by decide) (fun m' h' hf => fin m' ?_ (noLaw m' (by omega) (fun k hk => by rw [hf k hk, dSet_k hk])))) (Nat.le_of_ble_eq_true rfl)
    have eT : gTell K cf cw cu n = if 8 ≤ cu then (2, n) else rb (gst n) (gsq K [22, 22, 23, 23, 23, 59]) := by
      unfold gTell
      rw [if_neg (by omega), if_neg (by omega), if_pos (by omega)]
    rw [eT]
    unfold ct
    rw [if_neg (by omega), if_neg (by omega), if_pos (by omega)]
    exact h.up (fun k a => dSet_k a) rfl h' (by rw [dSet_j (by decide)]; exact e4) (by rw [dSet_j (by decide)]; exact e5) (by rw [dSet_s]; exact f)
  · refine rows 2 _ (by decide) (by decide) (by omega) (by omega) ?_
    unfold gTell
    rw [if_neg (by omega), if_neg (by omega), if_neg (by omega), if_neg (by omega), if_pos (by omega)]
    rfl
  · refine rows 1 _ (by decide) (by decide) (by omega) (by omega) ?_
    unfold gTell
    rw [if_neg (by omega), if_neg (by omega), if_neg (by omega), if_neg (by omega), if_neg (by omega), if_pos (by omega)]
    rfl
  · refine rows 1 _ (by decide) (by decide) (by omega) (by omega) ?_
    unfold gTell
    rw [if_neg (by omega), if_neg (by omega), if_neg (by omega), if_neg (by omega), if_neg (by omega), if_pos (by omega)]
    rfl
  · have eT : gTell K cf cw cu n = (1, n) := by
      unfold gTell
      rw [if_neg (by omega), if_neg (by omega), if_neg (by omega), if_neg (by omega), if_neg (by omega), if_neg (by omega)]
    refine fin _ ?_ (fun z => ?_)
    · rw [eT]
      unfold ct
      rw [if_neg (by omega), if_neg (by omega), if_neg (by omega)]
      exact h.up (M := m) (fun _ _ => rfl) rfl (hg.set3 (by decide)) e4 e5 e6
    · rw [eT] at z; exact absurd z (Nat.succ_ne_zero 0)
theorem kk_check {m : dM} {Ds : Nat → lD} {Q : Int32 → dM → Prop} (hVM : VM K V m) (hV9 : ∀ n : Nat, K n = 23 → 0 ≤ (V n).toInt32.toInt ∧ (V n).toInt32.toInt ≤ 9999) (hL : GL m) (hT : LT m 0 Ds) (hQ : ∀ (r : Int32) (m' : dM), OF m m' → GL m' → r.toInt = ((gAll K 401 0 0 0 0).1 : Int) → (m'.1 43 2).toInt = ((gAll K 401 0 0 0 0).2 : Int) → (m'.1 43 3).toInt = ((gAll K 401 0 0 0 0).1 : Int) → ((gAll K 401 0 0 0 0).2 ≤ 400 ∧ lvK K (gAll K 401 0 0 0 0).2) → ((gAll K 401 0 0 0 0).1 = 0 → LT m' 400 (lAll K V 401 0 0 0 0 Ds)) → Q r m') : c_X2_check_43 29 m Q := by
  have hK : KM K m := fun i a b => (hVM i a b).1
  generalize hR : gAll K 401 0 0 0 0 = R at hQ
  generalize hRL : lAll K V 401 0 0 0 0 Ds = RL' at hQ
  have fin : ∀ (m' : dM) (cf cw cu : Nat), GT K m m' cf cw cu R → (R.1 = 0 → LT m' 400 RL') → j_X2_check_43_64 29 m' Q := fun m' cf cw cu h ht => v_X2_check_43_64 (hQ _ _ h.1 h.2.1 h.2.2.1.2 h.2.2.1.1 h.2.2.1.2 h.2.2.2.1 ht)
  have loop : ∀ (f i cf cw cu : Nat) (g : gR) (x1 : Int32) (m' : dM) (D : Nat → lD), i + f = 401 → x1.toInt = i → (g.1 = 0 → i ≤ g.2) → (cf ≤ i ∧ cw ≤ i ∧ cu ≤ i) → GT K m m' cf cw cu g → (g.1 = 0 → LT m' g.2 D ∧ lAll K V f cf cw cu g.2 D = RL') → rb g (fun n => gAll K f cf cw cu n) = R → j_X2_check_43_27 29 x1 m' Q := by
    intro f
    induction f with
    | zero =>
      intro i cf cw cu g x1 m' D hi hx hg hc h hD e
      by_cases z : g.1 = 0
      · have := hg z
        have := h.2.2.2.1.1
        exfalso; omega
      · rw [rb_f z] at e
        refine v_X2_check_43_27 ⟨fun _ => fin m' cf cw cu ?_ (fun q => ?_), fun q => by exfalso; omega⟩
        · rw [← e]; exact h
        · rw [← e] at q; exact absurd q z
    | succ f ih =>
      intro i cf cw cu g x1 m' D hi hx hg hc h hD e
      refine v_X2_check_43_27 ⟨fun q => by exfalso; omega, fun _ => ⟨fun z => fin m' cf cw cu ?_ (fun q => ?_), fun z => ?_⟩⟩
      · have e3 := h.2.2.1.2
        rw [rb_f (by omega)] at e
        rw [← e]; exact h
      · have e3 := h.2.2.1.2
        rw [rb_f (by omega)] at e
        rw [← e] at q
        exfalso; omega
      · have e3 := h.2.2.1.2
        have z : g.1 = 0 := by omega
        have hgi := hg z
        obtain ⟨hT', hA⟩ := hD z
        rw [rb_k z] at e
        obtain ⟨g1, n⟩ := g
        have z : g1 = 0 := z
        subst z
        have hgi : i ≤ n := hgi
        have hn : n ≤ 400 := h.2.2.2.1.1
        have hT' : LT m' n D := hT'
        have hA : lAll K V (f + 1) cf cw cu n D = RL' := hA
        have hKm := h.km hK
        have e : gAll K (f + 1) cf cw cu n = R := e
        unfold gAll at e
        unfold lAll at hA
        refine Wp.deep (k_kind hKm h.go (fun r hr => ⟨fun q => fin m' cf cw cu ?_ (fun _ => ?_), fun q => Wp.deep (k_kind hKm h.go (fun r2 hr2 => ?_)) (Nat.le_of_ble_eq_true rfl)⟩)) (Nat.le_of_ble_eq_true rfl)
        · rw [if_pos (by omega)] at e
          rw [← e]; exact h
        · rw [if_pos (by omega)] at hA
          rw [← hA]; exact hT'.of (fun _ _ _ => rfl) hn
        · rw [if_neg (by omega)] at e hA
          refine kk_told hVM hV9 h hT' hr2 (by omega) (by omega) (fun m2 h2 ht2 => ih (i + 1) _ _ _ _ _ m2 _ (by omega) (d_add hx (by decide) (by omega)) (fun z => ?_) ?_ h2 (fun z => ⟨ht2 z, hA⟩) e)
          · have := gTell_lt z
            omega
          · unfold ct
            split <;> split <;> split <;> omega
  refine v_X2_check_43 (loop 401 0 0 0 0 (0, 0) _ _ Ds rfl (by decide) (fun _ => Nat.le_refl _) (by decide) ?_ (fun _ => ⟨hT.of (fun k a b => by rw [dSet_k (by omega), dSet_k (by omega), dSet_k (by omega), dSet_k (by omega), dSet_k (by omega)]) (Nat.le_refl _), hRL⟩) hR)
  refine ⟨⟨fun k hk => ?_, rfl, rfl⟩, GL.set43 (GL.set43 (GL.set43 (GL.set43 (GL.set43 hL)))), ⟨rfl, rfl⟩, ⟨by decide, fun j hj => by exact absurd hj (Nat.not_lt_zero j)⟩, rfl, rfl, rfl⟩
  rw [dSet_k (by omega), dSet_k (by omega), dSet_k (by omega), dSet_k (by omega), dSet_k (by omega)]
end CCK
end
section
/-! THE HOUSE that a text tells -/
def lD0 (k : Nat) : lD := lDf [dfl k]
/-- as told, with these laws -/
def hoX (V : Nat → Int64) (s : mSt) (Ds : Nat → lD) : Ho := ((s.1.length, s.2.1.length, s.2.2.1.length), (fun w => (wE s w).1, fun w => (wE s w).2, fun u => (s.2.2.1.getD u (0, 0)).2), (fun f => (V (s.1.getD f 0 + 2)).toInt32, fun w => (V ((s.2.1.getD w (0, 0, 0)).1 + 3)).toInt32, fun u => (V ((s.2.2.1.getD u (0, 0)).1 + 3)).toInt32, fun u => (V ((s.2.2.1.getD u (0, 0)).1 + 4)).toInt32, fun u => (V ((s.2.2.1.getD u (0, 0)).1 + 5)).toInt32), (oV V s.2.2.2.1 1 0, oV V s.2.2.2.1 2 0, oV V s.2.2.2.2.1 1 100, oV V s.2.2.2.2.2 1 0), Ds)
/-- what a text that is right keeps -/
def MI (V : Nat → Int64) (s : mSt) : Prop :=
  (∀ w : Nat, w < s.2.1.length → (wE s w).1 < s.1.length ∧ (wE s w).2 < s.1.length ∧ (wE s w).1 ≠ (wE s w).2 ∧ 1 ≤ iV V ((s.2.1.getD w (0, 0, 0)).1 + 3) ∧ iV V ((s.2.1.getD w (0, 0, 0)).1 + 3) ≤ 99) ∧
  (∀ u : Nat, u < s.2.2.1.length → (s.2.2.1.getD u (0, 0)).2 < s.1.length ∧ (1 ≤ iV V ((s.2.2.1.getD u (0, 0)).1 + 3) ∧ iV V ((s.2.2.1.getD u (0, 0)).1 + 3) ≤ 19) ∧ 0 ≤ iV V ((s.2.2.1.getD u (0, 0)).1 + 4) ∧ iV V ((s.2.2.1.getD u (0, 0)).1 + 4) ≤ iV V ((s.2.2.1.getD u (0, 0)).1 + 5) ∧ iV V ((s.2.2.1.getD u (0, 0)).1 + 5) ≤ 23) ∧
  (0 ≤ (oV V s.2.2.2.2.1 1 100).toInt ∧ (oV V s.2.2.2.2.1 1 100).toInt ≤ 999)
section MIS
variable {K : Nat → Int} {V : Nat → Int64}
theorem MI_0 : MI V mS0 := ⟨fun w hw => absurd hw (Nat.not_lt_zero w), fun u hu => absurd hu (Nat.not_lt_zero u), by show 0 ≤ (100 : Int32).toInt ∧ (100 : Int32).toInt ≤ 999; decide⟩
theorem bnd_z {i : Nat} {lo hi : Int} {r : gR × mSt} {s : mSt} (h : (bnd V i lo hi r s).1.1 = 0) : (lo ≤ iV V i ∧ iV V i ≤ hi) ∧ bnd V i lo hi r s = r := by
  unfold bnd at h ⊢
  by_cases q : lo ≤ iV V i ∧ iV V i ≤ hi
  · rw [if_pos q]; exact ⟨q, rfl⟩
  · rw [if_neg q] at h; exact absurd h (Nat.succ_ne_zero 4)
theorem MI_tell {n : Nat} {s : mSt} (h : MI V s) (z : (mTell K V n s).1.1 = 0) : MI V (mTell K V n s).2 := by
  obtain ⟨hw, hu, hc⟩ := h
  generalize hg : mTell K V n s = g at z ⊢
  unfold mTell at hg
  split at hg
  · -- flat
    unfold mFlat at hg
    cases e : knw V s (V (n + 1)) with
    | true => rw [e, cond_true] at hg; subst hg; exact absurd z (Nat.succ_ne_zero 2)
    | false =>
      rw [e, cond_false] at hg
      subst hg
      obtain ⟨b, eq⟩ := bnd_z z
      rw [eq]
      refine ⟨fun w hw' => ?_, fun u hu' => ?_, hc⟩
      · obtain ⟨a1, a2, a3⟩ := hw w hw'
        refine ⟨?_, ?_, a3⟩
        · show (wE s w).1 < (s.1 ++ [n]).length; rw [List.length_append]; omega
        · show (wE s w).2 < (s.1 ++ [n]).length; rw [List.length_append]; omega
      · obtain ⟨a1, a2⟩ := hu u hu'
        refine ⟨?_, a2⟩
        show (s.2.2.1.getD u (0, 0)).2 < (s.1 ++ [n]).length; rw [List.length_append]; omega
  · split at hg
    · -- wire
      unfold mWire at hg
      split at hg
      · subst hg; exact absurd z (Nat.succ_ne_zero 3)
      · rename_i a ha
        split at hg
        · subst hg; exact absurd z (Nat.succ_ne_zero 3)
        · rename_i b hb
          split at hg
          · subst hg; exact absurd z (Nat.succ_ne_zero 2)
          · rename_i hne
            subst hg
            obtain ⟨bb, eq⟩ := bnd_z z
            rw [eq]
            have la := fF_lt ha
            have lb := fF_lt hb
            refine ⟨fun w hw' => ?_, hu, hc⟩
            have hw' : w < (s.2.1 ++ [(n, a, b)]).length := hw'
            rw [List.length_append] at hw'
            have hw' : w < s.2.1.length + 1 := hw'
            show ((s.2.1 ++ [(n, a, b)]).getD w (0, 0, 0)).2.1 < s.1.length ∧ ((s.2.1 ++ [(n, a, b)]).getD w (0, 0, 0)).2.2 < s.1.length ∧ ((s.2.1 ++ [(n, a, b)]).getD w (0, 0, 0)).2.1 ≠ ((s.2.1 ++ [(n, a, b)]).getD w (0, 0, 0)).2.2 ∧ 1 ≤ iV V (((s.2.1 ++ [(n, a, b)]).getD w (0, 0, 0)).1 + 3) ∧ iV V (((s.2.1 ++ [(n, a, b)]).getD w (0, 0, 0)).1 + 3) ≤ 99
            by_cases e : w = s.2.1.length
            · subst e
              rw [getD_last]
              exact ⟨la, lb, fun q => hne (Or.inl q), bb.1, bb.2⟩
            · rw [getD_app (by omega)]
              exact hw w (by omega)
    · split at hg
      · -- use
        unfold mUse at hg
        cases e : knw V s (V (n + 1)) with
        | true => rw [e, cond_true] at hg; subst hg; exact absurd z (Nat.succ_ne_zero 2)
        | false =>
          rw [e, cond_false] at hg
          split at hg
          · subst hg; exact absurd z (Nat.succ_ne_zero 3)
          · rename_i h' hh
            subst hg
            obtain ⟨b3, eq3⟩ := bnd_z z
            rw [eq3] at z ⊢
            obtain ⟨b4, eq4⟩ := bnd_z z
            rw [eq4] at z ⊢
            obtain ⟨b5, eq5⟩ := bnd_z z
            rw [eq5]
            have lh := fF_lt hh
            refine ⟨hw, fun u hu' => ?_, hc⟩
            have hu' : u < (s.2.2.1 ++ [(n, h')]).length := hu'
            rw [List.length_append] at hu'
            have hu' : u < s.2.2.1.length + 1 := hu'
            show ((s.2.2.1 ++ [(n, h')]).getD u (0, 0)).2 < s.1.length ∧ (1 ≤ iV V (((s.2.2.1 ++ [(n, h')]).getD u (0, 0)).1 + 3) ∧ iV V (((s.2.2.1 ++ [(n, h')]).getD u (0, 0)).1 + 3) ≤ 19) ∧ 0 ≤ iV V (((s.2.2.1 ++ [(n, h')]).getD u (0, 0)).1 + 4) ∧ iV V (((s.2.2.1 ++ [(n, h')]).getD u (0, 0)).1 + 4) ≤ iV V (((s.2.2.1 ++ [(n, h')]).getD u (0, 0)).1 + 5) ∧ iV V (((s.2.2.1 ++ [(n, h')]).getD u (0, 0)).1 + 5) ≤ 23
            by_cases e2 : u = s.2.2.1.length
            · subst e2
              rw [getD_last]
              exact ⟨lh, b3, b4.1, b5.1, b5.2⟩
            · rw [getD_app (by omega)]
              exact hu u (by omega)
      · split at hg
        · subst hg
          obtain ⟨b1', eq1⟩ := bnd_z z
          rw [eq1] at z ⊢
          obtain ⟨b2', eq2⟩ := bnd_z z
          rw [eq2]
          exact ⟨hw, hu, hc⟩
        · split at hg
          · subst hg
            obtain ⟨b1', eq1⟩ := bnd_z z
            rw [eq1]
            exact ⟨hw, hu, b1'⟩
          · split at hg
            · subst hg
              obtain ⟨b1', eq1⟩ := bnd_z z
              rw [eq1]
              exact ⟨hw, hu, hc⟩
            · subst hg
              exact ⟨hw, hu, hc⟩
theorem MI_all : ∀ (f n : Nat) (s : mSt), MI V s → (mAll K V f n s).1.1 = 0 → MI V (mAll K V f n s).2
  | 0, n, s, h, _ => h
  | f + 1, n, s, h, z => by
    unfold mAll at z ⊢
    by_cases q : K n = 24
    · rw [if_pos q]; exact h
    · rw [if_neg q] at z ⊢
      by_cases q2 : (mTell K V n s).1.1 = 0
      · rw [mGo_k q2] at z ⊢
        exact MI_all f _ _ (MI_tell h q2) z
      · rw [mGo_f q2] at z; exact absurd z q2
theorem MI_rd (z : (rdR K V).1.1 = 0) : MI V (rdR K V).2 := by
  unfold rdR at z ⊢
  by_cases q : (gAll K 401 0 0 0 0).1 = 0
  · rw [if_pos q] at z ⊢; exact MI_all _ _ _ MI_0 z
  · rw [if_neg q] at z; exact absurd z q
theorem hoX_ok {s : mSt} {Ds : Nat → lD} (h : MI V s) (h7 : s.1.length ≤ 7) (h10 : s.2.1.length ≤ 10) (h8 : s.2.2.1.length ≤ 8) (hD : ∀ k : Nat, k < 4 → lOk (Ds k)) : hOk (hoX V s Ds) := ⟨h7, h10, h8, fun w hw => ⟨(h.1 w hw).1, (h.1 w hw).2.1, (h.1 w hw).2.2.1⟩, fun u hu => ⟨(h.2.1 u hu).1, (h.2.1 u hu).2.1⟩, hD⟩
end MIS
/-- uses' hours are hours of a day -/
def hBo (H : Ho) : Prop := ∀ u : Nat, u < hoU H → 0 ≤ (hoO H u).toInt ∧ (hoO H u).toInt ≤ (hoI H u).toInt ∧ (hoI H u).toInt ≤ 23
theorem hoX_b {V : Nat → Int64} {s : mSt} {Ds : Nat → lD} (h : MI V s) : hBo (hoX V s Ds) := fun u hu => (h.2.1 u hu).2.2
/-- how it stands at first -/
def sz0 (H : Ho) (R : Nat → Int32) : Zt := ((0, hoC H, 0, 0, 0, b1 (hoU H) - 1), R, fun _ => 0, fun _ => 0)
theorem bt_all {u i : Nat} (hu : u ≤ 8) : bt (b1 u - 1) i = decide (i < u) := by
  by_cases q : i < 32
  · match u, hu with
    | 0, _ | 1, _ | 2, _ | 3, _ | 4, _ | 5, _ | 6, _ | 7, _ | 8, _ =>
      match i, q with
      | 0, _ | 1, _ | 2, _ | 3, _ | 4, _ | 5, _ | 6, _ | 7, _ | 8, _ | 9, _ | 10, _ | 11, _ | 12, _ | 13, _ | 14, _ | 15, _ | 16, _ | 17, _ | 18, _ | 19, _ | 20, _ | 21, _ | 22, _ | 23, _ | 24, _ | 25, _ | 26, _ | 27, _ | 28, _ | 29, _ | 30, _ | 31, _ => decide
      | i + 32, q => omega
    | u + 9, h => omega
  · rw [bt_big (by omega)]
    simp
    omega
theorem sz0_ok {V : Nat → Int64} {s : mSt} {Ds : Nat → lD} {R : Nat → Int32} (h : MI V s) (h8 : s.2.2.1.length ≤ 8) (hR : ∀ w : Nat, w < s.2.1.length → R w = (V ((s.2.1.getD w (0, 0, 0)).1 + 3)).toInt32) : zOk (hoX V s Ds) (sz0 (hoX V s Ds) R) := by
  refine ⟨⟨h.2.2.1, by have := h.2.2.2; show (oV V s.2.2.2.2.1 1 100).toInt ≤ 99999; omega⟩, by show 0 ≤ (0 : Int32).toInt ∧ (0 : Int32).toInt ≤ 999999; decide, fun i hi => ?_, fun i hi => ?_, fun i hi => ?_, fun w hw => ?_, fun w hw => by show 0 ≤ (0 : Int32).toInt ∧ (0 : Int32).toInt ≤ 999; decide⟩
  · have hi : bt (0 : Int32) i = true := hi
    rw [bt_0] at hi; cases hi
  · have hi : bt (0 : Int32) i = true := hi
    rw [bt_0] at hi; cases hi
  · have hi : bt (b1 s.2.2.1.length - 1) i = true := hi
    rw [bt_all h8] at hi
    exact of_decide_eq_true hi
  · show 0 ≤ (R w).toInt ∧ (R w).toInt ≤ 99
    rw [hR w hw]
    have r := (h.1 w hw).2.2.2
    exact ⟨Int.le_trans (show (0 : Int) ≤ 1 by decide) r.1, r.2⟩
end
section
/-! THE CLASS: an empty draft's laws; the draft copied; how it stands at first -/
theorem dw_b {B : Nat → Int32} {p : Nat} : ∀ k : Nat, k ≤ 4 → (∀ j : Nat, j < k → 48 ≤ (B (p + j)).toInt ∧ (B (p + j)).toInt ≤ 57) → 0 ≤ (dw B p k).toInt ∧ (dw B p k).toInt < (10 : Int) ^ k
  | 0, _, _ => by show 0 ≤ (0 : Int32).toInt ∧ (0 : Int32).toInt < 1; decide
  | k + 1, hk, h => by
    have ih := dw_b k (by omega) (fun j hj => h j (by omega))
    have hb := h k (by omega)
    have p4 : (10 : Int) ^ k ≤ 1000 := by
      match k, hk with
      | 0, _ | 1, _ | 2, _ | 3, _ => decide
      | k + 4, hk => omega
    have f1 := dMulE (X := 10) (Y := (dw B p k).toInt) (x := (10 : Int32)) (y := dw B p k) (by decide) rfl (by omega) (by omega)
    have f2 := dAddE (X := 10 * (dw B p k).toInt) (Y := (B (p + k)).toInt) (x := 10 * dw B p k) (y := B (p + k)) f1 rfl (by omega) (by omega)
    have f3 := dSubE (X := 10 * (dw B p k).toInt + (B (p + k)).toInt) (Y := 48) (x := 10 * dw B p k + B (p + k)) (y := (48 : Int32)) f2 (by decide) (by omega) (by omega)
    have e : (10 : Int) ^ (k + 1) = 10 * (10 : Int) ^ k := by rw [Int.pow_succ]; omega
    show 0 ≤ ((10 * dw B p k + B (p + k)) - 48).toInt ∧ ((10 * dw B p k + B (p + k)) - 48).toInt < (10 : Int) ^ (k + 1)
    omega
theorem tV9 {B : Nat → Int32} {n i : Nat} (h : tK B n i = 23) : 0 ≤ (tV B n i).toInt32.toInt ∧ (tV B n i).toInt32.toInt ≤ 9999 := by
  unfold tK kd at h
  unfold tV
  by_cases q : n ≤ tP B n i
  · rw [if_pos q] at h; exact absurd h (by decide)
  · rw [if_neg q] at h
    cases e : bL B (tP B n i) with
    | true =>
      rw [e, cond_true] at h
      split at h
      · have := wk_le (nm B (tP B n i) (rnn (bL B) n (tP B n i))); omega
      · exact absurd h (by decide)
    | false =>
      rw [e, cond_false] at h
      rw [cond_false]
      cases e2 : bD B (tP B n i) with
      | true =>
        rw [e2, cond_true] at h
        by_cases q4 : rnn (bD B) n (tP B n i) ≤ 4
        · rw [dw_eq]
          have b := dw_b (B := B) (p := tP B n i) (rnn (bD B) n (tP B n i)) q4 (fun j hj => by
            have := (rnn_in _ (tP B n i) j rfl hj).1
            unfold bD at this
            exact of_decide_eq_true this)
          have p4 : (10 : Int) ^ (rnn (bD B) n (tP B n i)) ≤ 10000 := by
            generalize rnn (bD B) n (tP B n i) = k at q4
            match k, q4 with
            | 0, _ | 1, _ | 2, _ | 3, _ | 4, _ => decide
            | k + 5, hk => omega
          omega
        · rw [if_neg q4] at h; exact absurd h (by decide)
      | false =>
        rw [e2, cond_false] at h
        unfold sg at h
        split at h
        · omega
        · exact absurd h (by decide)
section UCL
variable {mb m : dM}
theorem u_put {x1 : Int32} {L : lC} {Q : dM → Prop} (h : GG mb m) (hL : LG m L) (hl' : L.length < 406) (hQ : ∀ m' : dM, GG mb m' → LG m' (L ++ [x1]) → FXl m m' → Q m') : c_X4_put_29 1 x1 m Q := by
  have hGL := h.2.2
  have e29 : (m.1 29 1).toNatClampNeg = L.length := d_cn hL.1
  have hl2 := hL.1
  refine v_X4_put_29 ⟨fun q => by exfalso; omega, fun q => ⟨by omega, v_X4_put_29_32 (hQ _ ?_ ?_ (fun k a b => by rw [dSet_k (by omega), dSet_k (by omega)]))⟩⟩
  · have h30 : GG mb (dSet m 30 (m.1 29 1).toNatClampNeg x1) := h.law (by decide) (by
      unfold GL
      rw [dSet_k (by decide), dSet_k (by decide)]
      exact hGL)
    refine h30.law (by decide) ⟨?_, fun j => ?_⟩
    · rw [dSet_s]
      have := dAddE (X := (m.1 29 1).toInt) (Y := 1) (x := m.1 29 1) (y := (1 : Int32)) rfl (by decide) (by omega) (by omega)
      omega
    · rw [dSet_k (by decide), dSet_k (by decide)]
      exact hGL.2 j
  · rw [e29]
    have f := d_inc hl2 (by omega)
    refine ⟨by rw [dSet_s, List.length_append]; exact f, by rw [List.length_append]; show L.length + 1 ≤ 406; omega, fun i hi => ?_⟩
    rw [List.length_append] at hi
    have hi : i < L.length + 1 := hi
    rw [dSet_k (by decide)]
    by_cases e : i = L.length
    · subst e
      rw [dSet_s, getD_last]
    · rw [dSet_j e, getD_app (by omega)]
      exact hL.2.2 i (by omega)
theorem u_begin {x1 : Int32} {k : Nat} {L : lC} {Q : dM → Prop} (h : GG mb m) (hx : x1.toInt = (k : Int)) (hk : k < 4) (hL : LG m L) (hQ : ∀ m' : dM, GG mb m' → LG m' L → PRo m' L.length k [] → FKl k m m' → Q m') : c_X4_begin_29 1 x1 m Q := by
  have hGL := h.2.2
  have ec := d_cn hx
  have h36 : GG mb (dSet m 36 k (0 : Int32)) := h.law (by decide) ⟨by rw [dSet_k (by decide)]; exact hGL.1, fun j => by
    rw [dSet_e]
    split
    · decide
    · exact hGL.2 j⟩
  have go : ∀ c : Nat, c = 32 + k → Q (dSet (dSet m 36 k (0 : Int32)) c 0 (m.1 29 1)) := fun c hc => by
    subst hc
    refine hQ _ (h36.law (by omega) ?_) (hL.of (by rw [dSet_k (by omega), dSet_k (by decide)]) (by rw [dSet_k (by omega), dSet_k (by decide)])) ⟨?_, Nat.zero_le _, fun i hi => ?_⟩ (fun j hj hne => ⟨by rw [dSet_k (by omega), dSet_k (by omega)], by rw [dSet_k (by omega), dSet_j hne]⟩)
    · have := h36.2.2
      unfold GL
      rw [dSet_k (show 29 ≠ 32 + k by omega), dSet_k (show 36 ≠ 32 + k by omega)]
      exact this
    · rw [dSet_k (by omega), dSet_s]; rfl
    · have : i = 0 := by have : i ≤ 0 := hi; omega
      subst this
      rw [dSet_s]
      exact hL.1
  refine v_X4_begin_29 ?_
  rw [ec]
  exact ⟨by omega, by omega, fun q => go 32 (by omega), fun q => go 33 (by omega), fun q => go 34 (by omega), fun q => go 35 (by omega)⟩
theorem u_piece {x1 : Int32} {k a : Nat} {c : lC} {L : lC} {Q : dM → Prop} (h : GG mb m) (hx : x1.toInt = (k : Int)) (hk : k < 4) (hL : LG m L) (hP : PRo m a k []) (hlen : L.length = a + c.length) (hQ : ∀ m' : dM, GG mb m' → LG m' L → PRo m' a k [c] → FKl k m m' → Q m') : c_X4_endPiece_29 1 x1 m Q := by
  have hGL := h.2.2
  have ec := d_cn hx
  obtain ⟨p1, p2, p3⟩ := hP
  have p1 : (m.1 36 k).toInt = 0 := p1
  have f1 := d_inc (i := 0) p1 (by omega)
  have f1' := d_cn f1
  have h36 : GG mb (dSet m 36 k (m.1 36 k + 1)) := h.law (by decide) ⟨by rw [dSet_k (by decide)]; exact hGL.1, fun j => by
    rw [dSet_e]
    split
    · omega
    · exact hGL.2 j⟩
  have go : ∀ b : Nat, b = 32 + k → j_X4_endPiece_29_38 1 (dSet (dSet m 36 k (m.1 36 k + 1)) b (0 + 1) (m.1 29 1)) Q := fun b hb => by
    subst hb
    refine v_X4_endPiece_29_38 (hQ _ (h36.law (by omega) ?_) (hL.of (by rw [dSet_k (by omega), dSet_k (by decide)]) (by rw [dSet_k (by omega), dSet_k (by decide)])) ⟨?_, by show 1 ≤ 13; omega, fun i hi => ?_⟩ (fun j hj hne => ⟨by rw [dSet_k (by omega), dSet_k (by omega)], by rw [dSet_k (by omega), dSet_j hne]⟩))
    · have := h36.2.2
      unfold GL
      rw [dSet_k (show 29 ≠ 32 + k by omega), dSet_k (show 36 ≠ 32 + k by omega)]
      exact this
    · rw [dSet_k (by omega), dSet_s]; exact f1
    · have hi : i ≤ 1 := hi
      by_cases e : i = 1
      · subst e
        rw [dSet_s, hL.1, hlen]
        show _ = ((a + ([c].flatten).length : Nat) : Int)
        rw [List.flatten_cons, List.flatten_nil, List.append_nil]
      · have : i = 0 := by omega
        subst this
        rw [dSet_j (by decide), dSet_k (by omega)]
        exact p3 0 (Nat.le_refl _)
  have b14 : 0 ≤ (m.1 36 k + 1).toInt ∧ (m.1 36 k + 1).toInt < 14 := by omega
  refine v_X4_endPiece_29 ?_
  rw [ec, f1']
  exact ⟨by omega, fun q => by exfalso; omega, fun q => ⟨by omega, by omega, by omega, fun q => ⟨by omega, b14, go 32 (by omega)⟩, fun q => ⟨by omega, b14, go 33 (by omega)⟩, fun q => ⟨by omega, b14, go 34 (by omega)⟩, fun q => ⟨by omega, b14, go 35 (by omega)⟩⟩⟩
theorem wf_dfl (k : Nat) : wfL (dfl k) 0 := by
  unfold dfl
  split
  · exact ⟨by decide, fun _ => ⟨by decide, ⟨by decide, fun _ => ⟨by decide, ⟨by decide, fun q => absurd q (by decide), fun _ => ⟨by decide, rfl⟩⟩⟩, fun q => absurd q (by decide)⟩⟩, fun q => absurd q (by decide)⟩
  · split
    · exact ⟨by decide, fun _ => ⟨by decide, rfl⟩, fun q => absurd q (by decide)⟩
    · split
      · exact ⟨by decide, fun _ => ⟨by decide, rfl⟩, fun q => absurd q (by decide)⟩
      · exact ⟨by decide, fun _ => ⟨by decide, rfl⟩, fun q => absurd q (by decide)⟩
/-- one piece alone -/
theorem PRo.l1 {a k : Nat} {c L : lC} (h : PRo m a k [c]) (hw : wfL c 0) (hS : SGL L a c) : LDL m L k (lDf [c]) := by
  obtain ⟨p1, p2, p3⟩ := h
  have e0 : (lDf [c]).1 = 0 := by show ([c].length - 1) / 3 = 0; rw [List.length_singleton]
  unfold LDL lOk
  rw [e0]
  refine ⟨p1, ⟨Nat.zero_le _, fun i hi => ?_⟩, fun i hi => ?_⟩
  · have : i = 0 := by omega
    subst this
    exact hw
  · have : i = 0 := by omega
    subst this
    refine ⟨a, p3 0 (Nat.zero_le _), ?_, hS⟩
    have := p3 1 (Nat.le_refl _)
    rw [this]
    show ((a + ([c].flatten).length : Nat) : Int) = _
    rw [List.flatten_cons, List.flatten_nil, List.append_nil]
    rfl
theorem PRo.fk {m' : dM} {a k j : Nat} {p : List lC} (h : PRo m a k p) (hF : FKl j m m') (hk : k < 4) (hne : k ≠ j) : PRo m' a k p := by
  have := hF k hk hne
  unfold PRo
  rw [this.1, this.2]
  exact h
theorem u_clear {Q : dM → Prop} (h : GL m) (hQ : ∀ m' : dM, GG m m' → LT m' 0 lD0 → Q m') : c_X4_clear_29 2 m Q := by
  have h0 : GG m (dSet m 29 1 (0 : Int32)) := GG.law ⟨fun _ _ => rfl, rfl, h⟩ (by decide) ⟨by rw [dSet_s]; decide, fun j => by rw [dSet_k (by decide)]; exact h.2 j⟩
  have l0 : LG (dSet m 29 1 (0 : Int32)) [] := ⟨by rw [dSet_s]; rfl, by decide, fun i hi => absurd hi (Nat.not_lt_zero i)⟩
  refine v_X4_clear_29 (u_begin (k := 0) h0 (by decide) (by decide) l0 (fun m1 g1 l1 p1 f1 => u_put g1 l1 (by decide) (fun m2 g2 l2 f2 => u_put g2 l2 (by decide) (fun m3 g3 l3 f3 => u_put g3 l3 (by decide) (fun m4 g4 l4 f4 => ?_)))))
  refine u_piece (k := 0) (a := 0) (c := [4, 5, 1]) g4 (by decide) (by decide) l4 (((p1.of f2 (by decide)).of f3 (by decide)).of f4 (by decide)) rfl (fun m5 g5 l5 p5 f5 => ?_)
  refine u_begin (k := 1) g5 (by decide) (by decide) l5 (fun m6 g6 l6 p6 f6 => u_put g6 l6 (by decide) (fun m7 g7 l7 f7 => ?_))
  refine u_piece (k := 1) (a := 3) (c := [13]) g7 (by decide) (by decide) l7 (p6.of f7 (by decide)) rfl (fun m8 g8 l8 p8 f8 => ?_)
  refine u_begin (k := 2) g8 (by decide) (by decide) l8 (fun m9 g9 l9 p9 f9 => u_put g9 l9 (by decide) (fun m10 g10 l10 f10 => ?_))
  refine u_piece (k := 2) (a := 4) (c := [5]) g10 (by decide) (by decide) l10 (p9.of f10 (by decide)) rfl (fun m11 g11 l11 p11 f11 => ?_)
  refine u_begin (k := 3) g11 (by decide) (by decide) l11 (fun m12 g12 l12 p12 f12 => u_put g12 l12 (by decide) (fun m13 g13 l13 f13 => ?_))
  refine u_piece (k := 3) (a := 5) (c := [9]) g13 (by decide) (by decide) l13 (p12.of f13 (by decide)) rfl (fun m14 g14 l14 p14 f14 => hQ m14 g14 ?_)
  have k0 : PRo m14 0 0 [[4, 5, 1]] := ((((((((p5.fk f6 (by decide) (by decide)).of f7 (by decide)).fk f8 (by decide) (by decide)).fk f9 (by decide) (by decide)).of f10 (by decide)).fk f11 (by decide) (by decide)).fk f12 (by decide) (by decide)).of f13 (by decide)).fk f14 (by decide) (by decide)
  have k1 : PRo m14 3 1 [[13]] := (((((p8.fk f9 (by decide) (by decide)).of f10 (by decide)).fk f11 (by decide) (by decide)).fk f12 (by decide) (by decide)).of f13 (by decide)).fk f14 (by decide) (by decide)
  have k2 : PRo m14 4 2 [[5]] := ((p11.fk f12 (by decide) (by decide)).of f13 (by decide)).fk f14 (by decide) (by decide)
  refine ⟨_, l14, by decide, fun k hk => ?_⟩
  match k, hk with
  | 0, _ => exact k0.l1 (wf_dfl 0) ⟨by decide, fun j hj => by match j, hj with | 0, _ | 1, _ | 2, _ => rfl | j + 3, hj => exact absurd hj (by show ¬ j + 3 < 3; omega)⟩
  | 1, _ => exact k1.l1 (wf_dfl 1) ⟨by decide, fun j hj => by match j, hj with | 0, _ => rfl | j + 1, hj => exact absurd hj (by show ¬ j + 1 < 1; omega)⟩
  | 2, _ => exact k2.l1 (wf_dfl 2) ⟨by decide, fun j hj => by match j, hj with | 0, _ => rfl | j + 1, hj => exact absurd hj (by show ¬ j + 1 < 1; omega)⟩
  | 3, _ => exact p14.l1 (wf_dfl 3) ⟨by decide, fun j hj => by match j, hj with | 0, _ => rfl | j + 1, hj => exact absurd hj (by show ¬ j + 1 < 1; omega)⟩
  | k + 4, h => omega
end UCL
end
section
/-! THE CLASS's read, and how it stands then -/
section UCO
variable {m : dM} {V : Nat → Int64} {s : mSt} {Ds : Nat → lD} {n : Nat}
theorem u_lcopy {m0 : dM} {Q : dM → Prop} (hQ : ∀ m' : dM, (∀ k : Nat, (k < 14 ∨ 18 < k) → m'.1 k = m0.1 k) → m'.2 = m0.2 → (∀ k : Nat, k < 4 → m'.1 18 k = m0.1 36 k ∧ ∀ j : Nat, j < 14 → m'.1 (14 + k) j = m0.1 (32 + k) j) → Q m') : ∀ (f i : Nat) (x2 : Int32) (M : dM), i + f = 4 → x2.toInt = (i : Int) → (∀ k : Nat, (k < 14 ∨ 18 < k) → M.1 k = m0.1 k) → M.2 = m0.2 → (∀ k : Nat, k < i → M.1 18 k = m0.1 36 k ∧ ∀ j : Nat, j < 14 → M.1 (14 + k) j = m0.1 (32 + k) j) → j_X4_copy_11_29_27 1 x2 M Q := by
  intro f
  induction f with
  | zero =>
    intro i x2 M hi h2 hF hM hv
    exact v_X4_copy_11_29_27 ⟨fun _ => hQ M hF hM (fun k hk => hv k (by omega)), fun q => by exfalso; omega⟩
  | succ f ih =>
    intro i x2 M hi h2 hF hM hv
    have go : ∀ a b : Nat, a = 32 + i → b = 14 + i → j_X4_copy_11_29_27 1 (x2 + (1 : Int32)) (dCpy (dSet M 18 i (M.1 36 i)) a (0 : Int).toNat b (0 : Int).toNat (14 : Int).toNat) Q := fun a b ha hb => by
      subst ha hb
      refine ih (i + 1) _ _ (by omega) (d_inc h2 (by omega)) (fun k hk => by rw [dCpy_k (by omega), dSet_k (by omega)]; exact hF k hk) hM (fun k hk => ?_)
      by_cases e : k = i
      · subst e
        refine ⟨by rw [dCpy_k (by omega), dSet_s, hF 36 (by omega)], fun j hj => ?_⟩
        rw [dCpy_e, if_pos (by simp; omega), dSet_k (by omega), hF _ (by omega)]
        congr 1
        simp
      · obtain ⟨a1, a2⟩ := hv k (by omega)
        refine ⟨by rw [dCpy_k (by omega), dSet_j e]; exact a1, fun j hj => ?_⟩
        rw [dCpy_k (by omega), dSet_k (by omega)]
        exact a2 j hj
    refine v_X4_copy_11_29_27 ?_
    rw [d_cn h2]
    refine ⟨fun q => by exfalso; omega, fun _ => ⟨by omega, by omega, by omega, ?_⟩⟩
    refine ⟨fun q => ⟨by omega, fun _ => go _ _ (by omega) (by omega), fun q => by exfalso; omega, fun q => by exfalso; omega, fun q => by exfalso; omega⟩, fun q => ⟨by omega, fun q => by exfalso; omega, fun _ => go _ _ (by omega) (by omega), fun q => by exfalso; omega, fun q => by exfalso; omega⟩, fun q => ⟨by omega, fun q => by exfalso; omega, fun q => by exfalso; omega, fun _ => go _ _ (by omega) (by omega), fun q => by exfalso; omega⟩, fun q => ⟨by omega, fun q => by exfalso; omega, fun q => by exfalso; omega, fun q => by exfalso; omega, fun _ => go _ _ (by omega) (by omega)⟩⟩
theorem u_copy {Q : dM → Prop} (hS : MS V s m) (hT : LT m n Ds) (hI : MI V s) (hQ : ∀ m' : dM, (∀ k : Nat, (k < 2 ∨ 18 < k) → m'.1 k = m.1 k) → m'.2 = m.2 → (∀ j : Nat, j < 7 → m'.1 2 j = m.1 20 j) → hOk (hoX V s Ds) → CH (hoX V s Ds) m' → Q m') : c_X3_copy_2_20 2 m Q := by
  obtain ⟨L, lg, ln, ld⟩ := hT
  obtain ⟨⟨s1, s1'⟩, ⟨s2, s2'⟩, ⟨s3, s3'⟩, s4, s5, s6, s7, s8, s9, s10⟩ := hS
  refine v_X3_copy_2_20 ?_
  have e2 : ∀ j : Nat, j < 7 → (dSet (dSet (dSet (dSet (dSet (dSet (dSet m 2 0 (m.1 20 0)) 2 1 (m.1 20 1)) 2 2 (m.1 20 2)) 2 3 (m.1 20 3)) 2 4 (m.1 20 4)) 2 5 (m.1 20 5)) 2 6 (m.1 20 6)).1 2 j = m.1 20 j := fun j hj => by
    match j, hj with
    | 0, _ | 1, _ | 2, _ | 3, _ | 4, _ | 5, _ | 6, _ => rfl
    | j + 7, hj => omega
  have ek : ∀ k : Nat, k ≠ 2 → (dSet (dSet (dSet (dSet (dSet (dSet (dSet m 2 0 (m.1 20 0)) 2 1 (m.1 20 1)) 2 2 (m.1 20 2)) 2 3 (m.1 20 3)) 2 4 (m.1 20 4)) 2 5 (m.1 20 5)) 2 6 (m.1 20 6)).1 k = m.1 k := fun k hk => by rw [dSet_k hk, dSet_k hk, dSet_k hk, dSet_k hk, dSet_k hk, dSet_k hk, dSet_k hk]
  have e2' : (dSet (dSet (dSet (dSet (dSet (dSet (dSet m 2 0 (m.1 20 0)) 2 1 (m.1 20 1)) 2 2 (m.1 20 2)) 2 3 (m.1 20 3)) 2 4 (m.1 20 4)) 2 5 (m.1 20 5)) 2 6 (m.1 20 6)).2 = m.2 := rfl
  generalize dSet (dSet (dSet (dSet (dSet (dSet (dSet m 2 0 (m.1 20 0)) 2 1 (m.1 20 1)) 2 2 (m.1 20 2)) 2 3 (m.1 20 3)) 2 4 (m.1 20 4)) 2 5 (m.1 20 5)) 2 6 (m.1 20 6) = M at e2 ek e2' ⊢
  -- one row after the other
  have cp : ∀ (A : dM) (a b l j : Nat), j < l → (dCpy A a (0 : Int).toNat b (0 : Int).toNat ((l : Int)).toNat).1 b j = A.1 a j := fun A a b l j hj => by
    rw [dCpy_e, if_pos (by simp; omega)]
    congr 1
    simp
  have r3 : ∀ j : Nat, j < 7 → (dCpy (dCpy (dCpy (dCpy (dCpy (dCpy (dCpy (dCpy M 21 (0 : Int).toNat 3 (0 : Int).toNat (7 : Int).toNat) 22 (0 : Int).toNat 4 (0 : Int).toNat (10 : Int).toNat) 23 (0 : Int).toNat 5 (0 : Int).toNat (10 : Int).toNat) 24 (0 : Int).toNat 6 (0 : Int).toNat (10 : Int).toNat) 25 (0 : Int).toNat 7 (0 : Int).toNat (8 : Int).toNat) 26 (0 : Int).toNat 8 (0 : Int).toNat (8 : Int).toNat) 27 (0 : Int).toNat 9 (0 : Int).toNat (8 : Int).toNat) 28 (0 : Int).toNat 10 (0 : Int).toNat (8 : Int).toNat).1 3 j = m.1 21 j := fun j hj => by
    rw [dCpy_k (by decide), dCpy_k (by decide), dCpy_k (by decide), dCpy_k (by decide), dCpy_k (by decide), dCpy_k (by decide), dCpy_k (by decide)]
    exact (cp _ 21 3 7 j hj).trans (by rw [ek 21 (by decide)])
  have r4 : ∀ j : Nat, j < 10 → (dCpy (dCpy (dCpy (dCpy (dCpy (dCpy (dCpy (dCpy M 21 (0 : Int).toNat 3 (0 : Int).toNat (7 : Int).toNat) 22 (0 : Int).toNat 4 (0 : Int).toNat (10 : Int).toNat) 23 (0 : Int).toNat 5 (0 : Int).toNat (10 : Int).toNat) 24 (0 : Int).toNat 6 (0 : Int).toNat (10 : Int).toNat) 25 (0 : Int).toNat 7 (0 : Int).toNat (8 : Int).toNat) 26 (0 : Int).toNat 8 (0 : Int).toNat (8 : Int).toNat) 27 (0 : Int).toNat 9 (0 : Int).toNat (8 : Int).toNat) 28 (0 : Int).toNat 10 (0 : Int).toNat (8 : Int).toNat).1 4 j = m.1 22 j := fun j hj => by
    rw [dCpy_k (by decide), dCpy_k (by decide), dCpy_k (by decide), dCpy_k (by decide), dCpy_k (by decide), dCpy_k (by decide)]
    exact (cp _ 22 4 10 j hj).trans (by rw [dCpy_k (by decide), ek 22 (by decide)])
  have r5 : ∀ j : Nat, j < 10 → (dCpy (dCpy (dCpy (dCpy (dCpy (dCpy (dCpy (dCpy M 21 (0 : Int).toNat 3 (0 : Int).toNat (7 : Int).toNat) 22 (0 : Int).toNat 4 (0 : Int).toNat (10 : Int).toNat) 23 (0 : Int).toNat 5 (0 : Int).toNat (10 : Int).toNat) 24 (0 : Int).toNat 6 (0 : Int).toNat (10 : Int).toNat) 25 (0 : Int).toNat 7 (0 : Int).toNat (8 : Int).toNat) 26 (0 : Int).toNat 8 (0 : Int).toNat (8 : Int).toNat) 27 (0 : Int).toNat 9 (0 : Int).toNat (8 : Int).toNat) 28 (0 : Int).toNat 10 (0 : Int).toNat (8 : Int).toNat).1 5 j = m.1 23 j := fun j hj => by
    rw [dCpy_k (by decide), dCpy_k (by decide), dCpy_k (by decide), dCpy_k (by decide), dCpy_k (by decide)]
    exact (cp _ 23 5 10 j hj).trans (by rw [dCpy_k (by decide), dCpy_k (by decide), ek 23 (by decide)])
  have r6 : ∀ j : Nat, j < 10 → (dCpy (dCpy (dCpy (dCpy (dCpy (dCpy (dCpy (dCpy M 21 (0 : Int).toNat 3 (0 : Int).toNat (7 : Int).toNat) 22 (0 : Int).toNat 4 (0 : Int).toNat (10 : Int).toNat) 23 (0 : Int).toNat 5 (0 : Int).toNat (10 : Int).toNat) 24 (0 : Int).toNat 6 (0 : Int).toNat (10 : Int).toNat) 25 (0 : Int).toNat 7 (0 : Int).toNat (8 : Int).toNat) 26 (0 : Int).toNat 8 (0 : Int).toNat (8 : Int).toNat) 27 (0 : Int).toNat 9 (0 : Int).toNat (8 : Int).toNat) 28 (0 : Int).toNat 10 (0 : Int).toNat (8 : Int).toNat).1 6 j = m.1 24 j := fun j hj => by
    rw [dCpy_k (by decide), dCpy_k (by decide), dCpy_k (by decide), dCpy_k (by decide)]
    exact (cp _ 24 6 10 j hj).trans (by rw [dCpy_k (by decide), dCpy_k (by decide), dCpy_k (by decide), ek 24 (by decide)])
  have r7 : ∀ j : Nat, j < 8 → (dCpy (dCpy (dCpy (dCpy (dCpy (dCpy (dCpy (dCpy M 21 (0 : Int).toNat 3 (0 : Int).toNat (7 : Int).toNat) 22 (0 : Int).toNat 4 (0 : Int).toNat (10 : Int).toNat) 23 (0 : Int).toNat 5 (0 : Int).toNat (10 : Int).toNat) 24 (0 : Int).toNat 6 (0 : Int).toNat (10 : Int).toNat) 25 (0 : Int).toNat 7 (0 : Int).toNat (8 : Int).toNat) 26 (0 : Int).toNat 8 (0 : Int).toNat (8 : Int).toNat) 27 (0 : Int).toNat 9 (0 : Int).toNat (8 : Int).toNat) 28 (0 : Int).toNat 10 (0 : Int).toNat (8 : Int).toNat).1 7 j = m.1 25 j := fun j hj => by
    rw [dCpy_k (by decide), dCpy_k (by decide), dCpy_k (by decide)]
    exact (cp _ 25 7 8 j hj).trans (by rw [dCpy_k (by decide), dCpy_k (by decide), dCpy_k (by decide), dCpy_k (by decide), ek 25 (by decide)])
  have r8 : ∀ j : Nat, j < 8 → (dCpy (dCpy (dCpy (dCpy (dCpy (dCpy (dCpy (dCpy M 21 (0 : Int).toNat 3 (0 : Int).toNat (7 : Int).toNat) 22 (0 : Int).toNat 4 (0 : Int).toNat (10 : Int).toNat) 23 (0 : Int).toNat 5 (0 : Int).toNat (10 : Int).toNat) 24 (0 : Int).toNat 6 (0 : Int).toNat (10 : Int).toNat) 25 (0 : Int).toNat 7 (0 : Int).toNat (8 : Int).toNat) 26 (0 : Int).toNat 8 (0 : Int).toNat (8 : Int).toNat) 27 (0 : Int).toNat 9 (0 : Int).toNat (8 : Int).toNat) 28 (0 : Int).toNat 10 (0 : Int).toNat (8 : Int).toNat).1 8 j = m.1 26 j := fun j hj => by
    rw [dCpy_k (by decide), dCpy_k (by decide)]
    exact (cp _ 26 8 8 j hj).trans (by rw [dCpy_k (by decide), dCpy_k (by decide), dCpy_k (by decide), dCpy_k (by decide), dCpy_k (by decide), ek 26 (by decide)])
  have r9 : ∀ j : Nat, j < 8 → (dCpy (dCpy (dCpy (dCpy (dCpy (dCpy (dCpy (dCpy M 21 (0 : Int).toNat 3 (0 : Int).toNat (7 : Int).toNat) 22 (0 : Int).toNat 4 (0 : Int).toNat (10 : Int).toNat) 23 (0 : Int).toNat 5 (0 : Int).toNat (10 : Int).toNat) 24 (0 : Int).toNat 6 (0 : Int).toNat (10 : Int).toNat) 25 (0 : Int).toNat 7 (0 : Int).toNat (8 : Int).toNat) 26 (0 : Int).toNat 8 (0 : Int).toNat (8 : Int).toNat) 27 (0 : Int).toNat 9 (0 : Int).toNat (8 : Int).toNat) 28 (0 : Int).toNat 10 (0 : Int).toNat (8 : Int).toNat).1 9 j = m.1 27 j := fun j hj => by
    rw [dCpy_k (by decide)]
    exact (cp _ 27 9 8 j hj).trans (by rw [dCpy_k (by decide), dCpy_k (by decide), dCpy_k (by decide), dCpy_k (by decide), dCpy_k (by decide), dCpy_k (by decide), ek 27 (by decide)])
  have r10 : ∀ j : Nat, j < 8 → (dCpy (dCpy (dCpy (dCpy (dCpy (dCpy (dCpy (dCpy M 21 (0 : Int).toNat 3 (0 : Int).toNat (7 : Int).toNat) 22 (0 : Int).toNat 4 (0 : Int).toNat (10 : Int).toNat) 23 (0 : Int).toNat 5 (0 : Int).toNat (10 : Int).toNat) 24 (0 : Int).toNat 6 (0 : Int).toNat (10 : Int).toNat) 25 (0 : Int).toNat 7 (0 : Int).toNat (8 : Int).toNat) 26 (0 : Int).toNat 8 (0 : Int).toNat (8 : Int).toNat) 27 (0 : Int).toNat 9 (0 : Int).toNat (8 : Int).toNat) 28 (0 : Int).toNat 10 (0 : Int).toNat (8 : Int).toNat).1 10 j = m.1 28 j := fun j hj => (cp _ 28 10 8 j hj).trans (by rw [dCpy_k (by decide), dCpy_k (by decide), dCpy_k (by decide), dCpy_k (by decide), dCpy_k (by decide), dCpy_k (by decide), dCpy_k (by decide), ek 28 (by decide)])
  have ck : ∀ k : Nat, (k < 3 ∨ 10 < k) → (dCpy (dCpy (dCpy (dCpy (dCpy (dCpy (dCpy (dCpy M 21 (0 : Int).toNat 3 (0 : Int).toNat (7 : Int).toNat) 22 (0 : Int).toNat 4 (0 : Int).toNat (10 : Int).toNat) 23 (0 : Int).toNat 5 (0 : Int).toNat (10 : Int).toNat) 24 (0 : Int).toNat 6 (0 : Int).toNat (10 : Int).toNat) 25 (0 : Int).toNat 7 (0 : Int).toNat (8 : Int).toNat) 26 (0 : Int).toNat 8 (0 : Int).toNat (8 : Int).toNat) 27 (0 : Int).toNat 9 (0 : Int).toNat (8 : Int).toNat) 28 (0 : Int).toNat 10 (0 : Int).toNat (8 : Int).toNat).1 k = M.1 k := fun k hk => by rw [dCpy_k (by omega), dCpy_k (by omega), dCpy_k (by omega), dCpy_k (by omega), dCpy_k (by omega), dCpy_k (by omega), dCpy_k (by omega), dCpy_k (by omega)]
  have c2 : (dCpy (dCpy (dCpy (dCpy (dCpy (dCpy (dCpy (dCpy M 21 (0 : Int).toNat 3 (0 : Int).toNat (7 : Int).toNat) 22 (0 : Int).toNat 4 (0 : Int).toNat (10 : Int).toNat) 23 (0 : Int).toNat 5 (0 : Int).toNat (10 : Int).toNat) 24 (0 : Int).toNat 6 (0 : Int).toNat (10 : Int).toNat) 25 (0 : Int).toNat 7 (0 : Int).toNat (8 : Int).toNat) 26 (0 : Int).toNat 8 (0 : Int).toNat (8 : Int).toNat) 27 (0 : Int).toNat 9 (0 : Int).toNat (8 : Int).toNat) 28 (0 : Int).toNat 10 (0 : Int).toNat (8 : Int).toNat).2 = M.2 := rfl
  generalize dCpy (dCpy (dCpy (dCpy (dCpy (dCpy (dCpy (dCpy M 21 (0 : Int).toNat 3 (0 : Int).toNat (7 : Int).toNat) 22 (0 : Int).toNat 4 (0 : Int).toNat (10 : Int).toNat) 23 (0 : Int).toNat 5 (0 : Int).toNat (10 : Int).toNat) 24 (0 : Int).toNat 6 (0 : Int).toNat (10 : Int).toNat) 25 (0 : Int).toNat 7 (0 : Int).toNat (8 : Int).toNat) 26 (0 : Int).toNat 8 (0 : Int).toNat (8 : Int).toNat) 27 (0 : Int).toNat 9 (0 : Int).toNat (8 : Int).toNat) 28 (0 : Int).toNat 10 (0 : Int).toNat (8 : Int).toNat = N at r3 r4 r5 r6 r7 r8 r9 r10 ck c2 ⊢
  have nk : ∀ k : Nat, (k < 2 ∨ 10 < k) → N.1 k = m.1 k := fun k hk => by rw [ck k (by omega), ek k (by omega)]
  have b := lg.1
  have b2' := lg.2.1
  have e29 : N.1 29 1 = m.1 29 1 := by rw [nk 29 (by omega)]
  refine v_X4_copy_11_29 ⟨by rw [e29]; omega, ?_⟩
  rw [e29, b, Int.toNat_natCast]
  have p12 : ∀ j : Nat, j < L.length → (dSet (dCpy N 30 (0 : Int).toNat 12 (0 : Int).toNat L.length) 11 1 (m.1 29 1)).1 12 j = L.getD j 0 := fun j hj => by
    rw [dSet_k (by decide), dCpy_e, if_pos (by simp; omega), nk 30 (by omega), show (0 : Int).toNat + (j - (0 : Int).toNat) = j by simp]
    exact lg.2.2 j hj
  have pk : ∀ k : Nat, k ≠ 11 → k ≠ 12 → (dSet (dCpy N 30 (0 : Int).toNat 12 (0 : Int).toNat L.length) 11 1 (m.1 29 1)).1 k = N.1 k := fun k h1 h2 => by rw [dSet_k h1, dCpy_k h2]
  have p2' : (dSet (dCpy N 30 (0 : Int).toNat 12 (0 : Int).toNat L.length) 11 1 (m.1 29 1)).2 = N.2 := rfl
  generalize dSet (dCpy N 30 (0 : Int).toNat 12 (0 : Int).toNat L.length) 11 1 (m.1 29 1) = N' at p12 pk p2' ⊢
  refine u_lcopy (m0 := N') (fun m' hF h2 hl' => ?_) 4 0 _ N' rfl (by decide) (fun _ _ => rfl) rfl (fun k hk => absurd hk (Nat.not_lt_zero k))
  have q2 : ∀ j : Nat, j < 7 → m'.1 2 j = m.1 20 j := fun j hj => by rw [hF 2 (by omega), pk 2 (by decide) (by decide), ck 2 (by omega)]; exact e2 j hj
  have hr : ∀ k : Nat, 3 ≤ k → k ≤ 10 → m'.1 k = N.1 k := fun k a b => by rw [hF k (by omega), pk k (by omega) (by omega)]
  have hD : ∀ k : Nat, k < 4 → lOk (Ds k) := fun k hk => (ld k hk).2.1
  have hO : hOk (hoX V s Ds) := hoX_ok hI s1' s2' s3' hD
  refine hQ m' (fun k hk => by rw [hF k (by omega), pk k (by omega) (by omega), nk k (by omega)]) (by rw [h2, p2', c2, e2']) q2 hO ⟨⟨⟨?_, s1'⟩, ⟨?_, s2'⟩, fun w hw => ?_⟩, ?_, fun f hf => ?_, fun w hw => ?_, fun u hu => ?_, ⟨?_, ?_, ?_, ?_⟩, fun k hk => ?_⟩
  · rw [q2 0 (by decide)]; exact s1
  · rw [q2 1 (by decide)]; exact s2
  · have hw : w < s.2.1.length := hw
    obtain ⟨⟨a1, a2, a3⟩, _⟩ := s5 w hw
    obtain ⟨i1, i2, i3, _⟩ := hI.1 w hw
    refine ⟨⟨?_, ?_⟩, i1, i2, i3⟩
    · rw [hr 4 (by omega) (by omega), r4 w (by omega)]; exact a1
    · rw [hr 5 (by omega) (by omega), r5 w (by omega)]; exact a2
  · rw [q2 2 (by decide)]; exact s3
  · have hf : f < s.1.length := hf
    rw [hr 3 (by omega) (by omega), r3 f (by omega)]; exact (s4 f hf).2
  · have hw : w < s.2.1.length := hw
    rw [hr 6 (by omega) (by omega), r6 w (by omega)]; exact (s5 w hw).1.2.2
  · have hu : u < s.2.2.1.length := hu
    obtain ⟨_, a1, a2, a3, a4⟩ := s6 u hu
    rw [hr 7 (by omega) (by omega), hr 8 (by omega) (by omega), hr 9 (by omega) (by omega), hr 10 (by omega) (by omega), r7 u (by omega), r8 u (by omega), r9 u (by omega), r10 u (by omega)]
    exact ⟨a1, a2, a3, a4⟩
  · rw [q2 3 (by decide)]; exact s7
  · rw [q2 4 (by decide)]; exact s8
  · rw [q2 5 (by decide)]; exact s9
  · rw [q2 6 (by decide)]; exact s10
  · obtain ⟨d1, d2, d3⟩ := ld k hk
    obtain ⟨g1, g2⟩ := hl' k hk
    have n36 : N'.1 36 k = m.1 36 k := by rw [pk 36 (by decide) (by decide), nk 36 (by omega)]
    have n32 : N'.1 (32 + k) = m.1 (32 + k) := by rw [pk (32 + k) (by omega) (by omega), nk (32 + k) (by omega)]
    show LC m' k (Ds k)
    refine ⟨by rw [g1, n36]; exact d1, d2, fun i hi => ?_⟩
    obtain ⟨a, a1, a2, a3⟩ := d3 i hi
    have q4 := d2.1
    refine ⟨a, by rw [g2 i (by omega), n32]; exact a1, by rw [g2 (i + 1) (by omega), n32]; exact a2, by have := a3.1; omega, fun j hj => ?_⟩
    rw [hF 12 (by omega), p12 (a + j) (by have := a3.1; omega)]
    exact a3.2 j hj
theorem u_begin47 {H : Ho} {Q : dM → Prop} (hH : CH H m) (hu : hoU H ≤ 8) (hQ : ∀ m' : dM, (∀ k : Nat, (k < 47 ∨ 50 < k) → m'.1 k = m.1 k) → m'.2 = m.2 → CZ 47 m' (sz0 H (m.1 6)) → Q m') : c_X7_begin_47_2 2 m Q := by
  refine v_X7_begin_47_2 ?_
  rw [b1_of hH.2.1]
  refine y_fill49 (fun m1 h1 e1 v1 => y_fill50 (fun m2 h2 e2 v2 => hQ m2 (fun k hk => ?_) (by rw [e2, e1]; rfl) ⟨⟨?_, ?_, ?_, ?_, ?_, ?_⟩, fun j hj => ?_, fun j hj => ?_, fun j hj => v2 j hj⟩))
  · rw [h2 k (by omega), h1 k (by omega), dCpy_k (by omega), dSet_k (by omega), dSet_k (by omega), dSet_k (by omega), dSet_k (by omega), dSet_k (by omega), dSet_k (by omega)]
  · rw [h2 47 (by decide), h1 47 (by decide), dCpy_k (by decide), dSet_j (by decide), dSet_j (by decide), dSet_j (by decide), dSet_j (by decide), dSet_j (by decide), dSet_s]; rfl
  · rw [h2 47 (by decide), h1 47 (by decide), dCpy_k (by decide), dSet_j (by decide), dSet_j (by decide), dSet_j (by decide), dSet_j (by decide), dSet_s]; exact hH.2.2.2.2.2.1.2.2.1
  · rw [h2 47 (by decide), h1 47 (by decide), dCpy_k (by decide), dSet_j (by decide), dSet_j (by decide), dSet_j (by decide), dSet_s]; rfl
  · rw [h2 47 (by decide), h1 47 (by decide), dCpy_k (by decide), dSet_j (by decide), dSet_j (by decide), dSet_s]; rfl
  · rw [h2 47 (by decide), h1 47 (by decide), dCpy_k (by decide), dSet_j (by decide), dSet_s]; rfl
  · rw [h2 47 (by decide), h1 47 (by decide), dCpy_k (by decide), dSet_s]; rfl
  · show m2.1 48 j = m.1 6 j
    rw [h2 48 (by decide), h1 48 (by decide), dCpy_e, if_pos (by simp; omega), dSet_k (by decide), dSet_k (by decide), dSet_k (by decide), dSet_k (by decide), dSet_k (by decide), dSet_k (by decide), show (0 : Int).toNat + (j - (0 : Int).toNat) = j by simp]
  · show m2.1 49 j = 0
    rw [h2 49 (by decide)]
    exact v1 j hj
end UCO
end
section
/-! THE CLASS's read, and how it stands then, 2 -/
theorem MS.s0 {V : Nat → Int64} {s : mSt} {m : dM} {j : Nat} {v : Int32} (h : MS V s m) : MS V s (dSet m 0 j v) := by
  unfold MS
  rw [dSet_k (by decide), dSet_k (by decide), dSet_k (by decide), dSet_k (by decide), dSet_k (by decide), dSet_k (by decide), dSet_k (by decide), dSet_k (by decide), dSet_k (by decide)]
  exact h
/-- what a call leaves that changes none of these cells -/
theorem KC.fr2 {H : Ho} {S : Zt} {P : List Zt} {L : Nat → Zt} {m m' : dM} (h : KC H S P L m) (e : ∀ k : Nat, (2 ≤ k ∧ k < 20) ∨ 44 < k → m'.1 k = m.1 k) : KC H S P L m' := ⟨⟨h.1.1, h.1.2.1.of (fun k a b _ => e k (by omega)), h.1.2.2.of (fun k a b => e k (by omega))⟩, h.2.1.of (fun k a b => e k (by omega)), h.2.2.1.of (by rw [e 51 (by omega)]) (by rw [e 51 (by omega)]) (e 52 (by omega)), h.2.2.2.of (by rw [e 51 (by omega)]) (e 53 (by omega))⟩
/-- the laws of a text -/
def rdL (B : Nat → Int32) (n : Nat) : Nat → lD := lAll (tK B n) (tV B n) 401 0 0 0 0 lD0
def rdH (B : Nat → Int32) (n : Nat) : Ho := hoX (tV B n) (rdR (tK B n) (tV B n)).2 (rdL B n)
def RdK (B : Nat → Int32) (n : Nat) (H : Ho) (S : Zt) (P : List Zt) (L : Nat → Zt) (m' : dM) : Prop := ((rdR (tK B n) (tV B n)).1.1 = 0 → ∃ R : Nat → Int32, (∀ w : Nat, w < hoW (rdH B n) → R w = hoR (rdH B n) w) ∧ KC (rdH B n) (sz0 (rdH B n) R) [] L m') ∧ ((rdR (tK B n) (tV B n)).1.1 ≠ 0 → KC H S P L m')
theorem u_draft {m : dM} {Q : dM → Prop} (h : GL m) (hQ : ∀ m' : dM, (∀ k : Nat, (k < 20 ∨ (20 < k ∧ k < 29) ∨ k = 31 ∨ 36 < k) → m'.1 k = m.1 k) → m'.2 = m.2 → GL m' → (∀ V : Nat → Int64, MS V mS0 m') → LT m' 0 lD0 → Q m') : c_X3_clear_20 3 m Q := by
  refine v_X3_clear_20 (u_clear (m := dSet (dSet (dSet (dSet (dSet (dSet (dSet m 20 0 (0 : Int32)) 20 1 (0 : Int32)) 20 2 (0 : Int32)) 20 3 (0 : Int32)) 20 4 (0 : Int32)) 20 5 (100 : Int32)) 20 6 (0 : Int32)) ?_ (fun m' h' lt => hQ m' (fun k hk => ?_) h'.2.1 h'.2.2 (fun V => ?_) lt))
  · unfold GL
    rw [dSet_k (by decide), dSet_k (by decide), dSet_k (by decide), dSet_k (by decide), dSet_k (by decide), dSet_k (by decide), dSet_k (by decide), dSet_k (by decide), dSet_k (by decide), dSet_k (by decide), dSet_k (by decide), dSet_k (by decide), dSet_k (by decide), dSet_k (by decide)]
    exact h
  · rw [h'.1 k (by omega), dSet_k (by omega), dSet_k (by omega), dSet_k (by omega), dSet_k (by omega), dSet_k (by omega), dSet_k (by omega), dSet_k (by omega)]
  · have e20 := h'.1 20 (by omega)
    unfold MS
    rw [e20]
    exact ⟨⟨rfl, by decide⟩, ⟨rfl, by decide⟩, ⟨rfl, by decide⟩, fun i hi => absurd hi (Nat.not_lt_zero i), fun i hi => absurd hi (Nat.not_lt_zero i), fun i hi => absurd hi (Nat.not_lt_zero i), rfl, rfl, rfl, rfl⟩
theorem p_read {m : dM} {B : Nat → Int32} {n : Nat} {H : Ho} {S : Zt} {P : List Zt} {L : Nat → Zt} {Q : Int32 → dM → Prop} (hL : GL m) (hKC : KC H S P L m) (hn : (m.1 0 1).toInt = (n : Int)) (h2000 : n ≤ 2000) (hB : ∀ i : Nat, B i = if i < n then (m.1 1 i) &&& 255 else 0) (hQ : ∀ (r : Int32) (m' : dM), RD B n r m m' → RdK B n H S P L m' → Q r m') : c_X11_read_0 70 m Q := by
  refine v_X11_read_0 (Wp.deep (f_scan hn h2000 hB (fun m1 e1 l1 e38 hT => ?_)) (Nat.le_of_ble_eq_true rfl))
  have gL1 : GL (dSet m1 0 1 (0 : Int32)) := by
    unfold GL
    rw [dSet_k (by decide), dSet_k (by decide), e1 29 (by decide) (by decide) (by decide), e1 36 (by decide) (by decide) (by decide)]
    exact hL
  refine Wp.deep (u_draft gL1 (fun m2 e2 p2 gL2 hM2 lt2 => ?_)) (Nat.le_of_ble_eq_true rfl)
  have f2 : ∀ k : Nat, k ≠ 0 → (k < 20 ∨ (20 < k ∧ k < 29) ∨ k = 31 ∨ 36 < k) → m2.1 k = m1.1 k := fun k h0 hk => by rw [e2 k hk, dSet_k h0]
  have hK2 : KM (tK B n) m2 := fun i h1 h2 => by
    rw [f2 39 (by decide) (by omega)]
    exact (hT i h1 h2).1
  have hV2 : VM (tK B n) (tV B n) m2 := fun i h1 h2 => by
    refine ⟨hK2 i h1 h2, fun hk => ?_⟩
    have : m2.2.1 41 = m1.2.1 41 := by rw [p2]; rfl
    rw [this]
    exact (hT i h1 h2).2.2 hk
  have hP2 : ∀ i : Nat, i ≤ 400 → lvK (tK B n) i → (m2.1 40 i).toInt = ((tP B n i : Nat) : Int) := fun i h1 h2 => by
    rw [f2 40 (by decide) (by omega)]
    exact (hT i h1 h2).2.1
  refine Wp.deep (kk_check hV2 (fun i h => tV9 h) gL2 lt2 (fun r3 m3 F3 gL3 hr3 n3 c3 hl3 lt3 => ?_)) (Nat.le_of_ble_eq_true rfl)
  -- frames up to here
  have f3 : ∀ k : Nat, (2 ≤ k ∧ k < 20) ∨ 43 < k → m3.1 k = m.1 k := fun k hk => by
    rw [F3.1 k (by omega), f2 k (by omega) (by omega), e1 k (by omega) (by omega) (by omega)]
  have t3 : m3.1 0 1 = 0 := by rw [F3.1 0 (by omega), e2 0 (by omega)]; rfl
  generalize hG : gAll (tK B n) 401 0 0 0 0 = G at hr3 n3 c3 hl3 lt3
  have fin : ∀ (r : Int32) (m' : dM), RD B n r m m' → RdK B n H S P L m' → j_X11_read_0_123 70 r m' Q := fun r m' h h2 => v_X11_read_0_123 (hQ r m' h h2)
  refine v_X2_faultAt_43 ⟨fun z => Wp.deep (h_placeAt n3 hl3.1 ?_) (Nat.le_of_ble_eq_true rfl), fun z => ?_⟩
  · have zG : G.1 ≠ 0 := by omega
    have eR : rdR (tK B n) (tV B n) = (G, mS0) := by
      unfold rdR
      rw [hG, if_neg zG]
    refine ⟨fun _ => v_X11_read_0_69 ⟨fun _ => fin _ _ ?_ ⟨fun q => by rw [eR] at q; exact absurd q zG, fun _ => hKC.fr2 (fun k hk => by rw [dSet_k (by omega)]; exact f3 k (by omega))⟩, fun q => by exfalso; omega⟩, fun q => by exfalso; omega⟩
    unfold RD
    rw [eR]
    refine ⟨fun k hk => ?_, by rw [dSet_j (by decide)]; exact t3, hr3, ?_, fun q => absurd q zG, fun _ => ⟨?_, ?_, ?_⟩⟩
    · rw [dSet_k (by omega)]; exact f3 k (by omega)
    · rw [dSet_s, if_neg zG, F3.1 40 (by omega)]
      exact hP2 _ hl3.1 hl3.2
    · rw [dSet_k (by decide), f3 2 (by omega)]
    · rw [dSet_k (by decide), f3 51 (by omega)]
    · rw [dSet_k (by decide), f3 67 (by omega)]
  · have zG : G.1 = 0 := by omega
    have eR : rdR (tK B n) (tV B n) = mAll (tK B n) (tV B n) 401 0 mS0 := by
      unfold rdR
      rw [hG, if_pos zG]
    refine ⟨fun q => by exfalso; omega, fun _ => ?_⟩
    have fM : ∀ k : Nat, k ≠ 0 → (dSet m3 0 2 (-1 : Int32)).1 k = m3.1 k := fun k hk => dSet_k hk
    have tM : (dSet m3 0 2 (-1 : Int32)).1 0 1 = 0 := by rw [dSet_j (by decide)]; exact t3
    have lM : (dSet m3 0 2 (-1 : Int32)).2 = m3.2 := rfl
    generalize dSet m3 0 2 (-1 : Int32) = M at fM tM lM ⊢
    have hVM : VM (tK B n) (tV B n) M := hV2.of (by rw [fM 39 (by decide), F3.1 39 (by omega)]) (by rw [lM, F3.2.1])
    have hMM : MS (tV B n) mS0 M := (hM2 (tV B n)).of20 (by rw [fM 20 (by decide), F3.1 20 (by omega)])
    refine Wp.deep (h_check hVM hMM hG zG hl3.1 hl3.2 (fun r5 m5 F5 hr5 c5 bad5 ok5 => ?_)) (Nat.le_of_ble_eq_true rfl)
    rw [← eR] at hr5 c5 bad5 ok5
    have f5 : ∀ k : Nat, (2 ≤ k ∧ k < 20) ∨ 44 < k → m5.1 k = m.1 k := fun k hk => by
      rw [F5.1 k (by omega), fM k (by omega), f3 k (by omega)]
    have t5 : m5.1 0 1 = 0 := by rw [F5.1 0 (by omega)]; exact tM
    refine v_X5_faultAt_44 ⟨fun z5 => ?_, fun z5 => ?_⟩
    · have zR : (rdR (tK B n) (tV B n)).1.1 ≠ 0 := by omega
      obtain ⟨b1, b2, b3⟩ := bad5 zR
      refine Wp.deep (h_placeAt b1 b2 ?_) (Nat.le_of_ble_eq_true rfl)
      refine v_X11_read_0_69 ⟨fun _ => fin _ _ ?_ ⟨fun q => absurd q zR, fun _ => hKC.fr2 (fun k hk => by rw [dSet_k (by omega)]; exact f5 k (by omega))⟩, fun q => by exfalso; omega⟩
      refine ⟨fun k hk => ?_, by rw [dSet_j (by decide)]; exact t5, hr5, ?_, fun q => absurd q zR, fun _ => ⟨?_, ?_, ?_⟩⟩
      · rw [dSet_k (by omega)]; exact f5 k (by omega)
      · rw [dSet_s, if_neg zR, F5.1 40 (by omega), fM 40 (by decide), F3.1 40 (by omega)]
        exact hP2 _ b2 b3
      · rw [dSet_k (by decide), f5 2 (by omega)]
      · rw [dSet_k (by decide), f5 51 (by omega)]
      · rw [dSet_k (by decide), f5 67 (by omega)]
    · have zR : (rdR (tK B n) (tV B n)).1.1 = 0 := by omega
      have hS := ok5 zR
      refine v_X11_read_0_69 ⟨fun q => by exfalso; omega, fun _ => ?_⟩
      have gL5 : GL (dSet m5 0 2 (-1 : Int32)) := by
        unfold GL
        rw [dSet_k (by decide), dSet_k (by decide), F5.1 29 (by omega), F5.1 36 (by omega), fM 29 (by decide), fM 36 (by decide)]
        exact gL3
      have lt5 : LT (dSet m5 0 2 (-1 : Int32)) 400 (lAll (tK B n) (tV B n) 401 0 0 0 0 lD0) := (lt3 zG).of (fun k a b => by rw [dSet_k (by omega), F5.1 k (by omega), fM k (by omega)]) (Nat.le_refl _)
      have hI := MI_rd (K := tK B n) (V := tV B n) zR
      refine Wp.deep (u_copy hS.s0 lt5 hI (fun m6 e6 l6 c6 hO6 ch6 => ?_)) (Nat.le_of_ble_eq_true rfl)
      refine v_X0_houseIsNew_54 (v_X10_houseIsNew_57 ?_)
      have ch6' : CH (hoX (tV B n) (rdR (tK B n) (tV B n)).2 (lAll (tK B n) (tV B n) 401 0 0 0 0 lD0)) (dSet m6 57 1 (-1 : Int32)) := ch6.of (fun k a b _ => dSet_k (by omega))
      refine Wp.deep (u_begin47 ch6' hO6.2.2.1 (fun m7 e7 l7 z7 => v_X6_clear_51 (v_X6_clearSlots_51 (v_X9_clear_67 (fin _ _ ?_ ⟨fun _ => ?_, fun q => absurd zR q⟩))))) (Nat.le_of_ble_eq_true rfl)
      rotate_left
      · refine ⟨(dSet m6 57 1 (-1 : Int32)).1 6, fun w hw => ?_, ⟨⟨hO6, ch6'.of (fun k a b _ => by rw [dSet_k (by omega), dSet_k (by omega), dSet_k (by omega), dSet_k (by omega), e7 k (by omega)]), fun q => ?_⟩, z7.of (fun k a b => by rw [dSet_k (by omega), dSet_k (by omega), dSet_k (by omega), dSet_k (by omega)]), ⟨0, by decide, rfl, rfl, Nat.zero_le _, fun k T hT => by cases hT⟩, fun i hi => ?_, fun i hi hb => ?_⟩⟩
        · rw [dSet_k (by decide)]
          exact ch6.2.2.2.1 w hw
        · exfalso
          refine q ?_
          rw [dSet_k (by decide), dSet_k (by decide), dSet_k (by decide), dSet_k (by decide), e7 57 (by omega), dSet_s]
          decide
        · have : (dSet (dSet (dSet (dSet m7 51 2 (0 : Int32)) 51 3 (0 : Int32)) 51 4 (0 : Int32)) 67 3 (0 : Int32)).1 51 4 = 0 := rfl
          rw [this, bt_0]
        · exfalso
          have : (dSet (dSet (dSet (dSet m7 51 2 (0 : Int32)) 51 3 (0 : Int32)) 51 4 (0 : Int32)) 67 3 (0 : Int32)).1 51 4 = 0 := rfl
          rw [this, bt_0] at hb
          cases hb
      have k7 : ∀ k : Nat, k ≠ 57 → (k < 2 ∨ 50 < k) → m7.1 k = (dSet m5 0 2 (-1 : Int32)).1 k := fun k h1 hk => by rw [e7 k (by omega), dSet_k h1, e6 k (by omega)]
      refine ⟨fun k hk => ?_, ?_, hr5, ?_, fun _ => ⟨?_, rfl, rfl⟩, fun q => absurd zR q⟩
      · rw [dSet_k (by omega), dSet_k (by omega), dSet_k (by omega), dSet_k (by omega), k7 k (by omega) (by omega), dSet_k (by omega)]
        exact f5 k (by omega)
      · rw [dSet_k (by decide), dSet_k (by decide), dSet_k (by decide), dSet_k (by decide), k7 0 (by decide) (by omega), dSet_j (by decide)]
        exact t5
      · rw [dSet_k (by decide), dSet_k (by decide), dSet_k (by decide), dSet_k (by decide), k7 0 (by decide) (by omega), dSet_s, if_pos zR]
        decide
      · rw [dSet_k (by decide), dSet_k (by decide), dSet_k (by decide), dSet_k (by decide), e7 2 (by omega), dSet_k (by decide), c6 0 (by decide), dSet_k (by decide)]
        exact hS.1.1
end
