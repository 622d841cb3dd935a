/-! THE CLASS's grammar puts these codes -/
def LG (m : dM) (L : lC) : Prop := (m.1 29 1).toInt = (L.length : Int) ∧ L.length ≤ 406 ∧ ∀ i : Nat, i < L.length → m.1 30 i = L.getD i 0
def FXl (m m' : dM) : Prop := ∀ k : Nat, 31 < k → k ≤ 36 → m'.1 k = m.1 k
theorem FXl.rf (m : dM) : FXl m m := fun _ _ _ => rfl
theorem FXl.tr {a b c : dM} (h : FXl a b) (h' : FXl b c) : FXl a c := fun k p q => (h' k p q).trans (h k p q)
theorem LG.of {m m' : dM} {L : lC} (h : LG m L) (e : m'.1 29 = m.1 29) (e' : m'.1 30 = m.1 30) : LG m' L := by
  unfold LG
  rw [e, e']
  exact h
section CGC
variable {K : Nat → Int} {V : Nat → Int64} {mb m : dM} {n : Nat}
/-- how a step came out, laws apart -/
theorem kk_kind {Q : Int32 → dM → Prop} (hK : KM K mb) (h : GO K mb m (0, n)) (hQ : ∀ r : Int32, r.toInt = K n → Q r m) : c_X2_kind_43 1 m Q := k_kind hK h hQ
theorem kk_step {Q : Int32 → dM → Prop} (h : GO K mb m (0, n)) (hk : K n ≠ 24 ∧ K n ≠ 25) (hQ : ∀ (r : Int32) (m' : dM), GO K mb m' (gst n) → RT r (gst n) → (∀ k : Nat, k ≠ 43 → m'.1 k = m.1 k) → Q r m') : c_X2_step_43 1 m Q := by
  obtain ⟨e2, e3, h4, h5⟩ := h.at
  refine v_X2_step_43 ⟨fun q => hQ _ _ ?_ ?_ (fun k hk => dSet_k hk), fun q => hQ _ _ ?_ ?_ (fun k hk => dSet_k hk)⟩
  · unfold gst
    rw [if_neg (by omega)]
    exact h.set2 (by omega) hk
  · unfold gst
    rw [if_neg (by omega)]
    exact ⟨fun _ => rfl, fun z => absurd rfl z⟩
  · unfold gst
    rw [if_pos (by omega)]
    exact h.set3 (by decide)
  · unfold gst
    rw [if_pos (by omega)]
    exact ⟨fun z => absurd z (by first | decide | exact Nat.succ_ne_zero _), fun _ => rfl⟩
theorem kk_need {x1 : Int32} {k : Int} {Q : Int32 → dM → Prop} (hK : KM K mb) (h : GO K mb m (0, n)) (hx : x1.toInt = k) (hk : k ≠ 24 ∧ k ≠ 25) (hQ : ∀ (r : Int32) (m' : dM), GO K mb m' (gnd K k n) → RT r (gnd K k n) → (∀ k : Nat, k ≠ 43 → m'.1 k = m.1 k) → Q r m') : c_X2_need_43 2 x1 m Q := by
  refine v_X2_need_43 (k_kind hK h (fun r hr => ⟨fun q => v_X2_fail_43 ⟨Or.inl rfl, hQ _ _ ?_ ?_ (fun k hk => dSet_k hk)⟩, fun q => kk_step h (by rw [← hr, q, hx]; exact hk) (fun r' m' h' hr' hf => ⟨hr'.b, hQ _ _ ?_ ?_ hf⟩)⟩))
  · unfold gnd
    rw [if_neg (by omega)]
    exact h.set3 (by decide)
  · unfold gnd
    rw [if_neg (by omega)]
    exact ⟨fun z => absurd z (by first | decide | exact Nat.succ_ne_zero _), fun _ => rfl⟩
  · unfold gnd
    rw [if_pos (by omega)]
    exact h'
  · unfold gnd
    rw [if_pos (by omega)]
    exact hr'
theorem kk_put {x1 : Int32} {g : gR} {L : lC} {Q : dM → Prop} (h : GO K mb m g) (hL : LG m L) (hQ : ∀ m' : dM, GO K mb m' g → (L.length < 406 → LG m' (L ++ [x1])) → FXl m m' → Q m') : c_X4_put_29 1 x1 m Q := by
  have hl' := hL.1
  have hGL := h.2.1
  have e29 : (m.1 29 1).toNatClampNeg = L.length := d_cn hl'
  refine v_X4_put_29 ⟨fun q => v_X4_put_29_32 (hQ _ h (fun z => by exfalso; omega) (FXl.rf m)), fun q => ⟨by omega, v_X4_put_29_32 (hQ _ ?_ (fun z => ?_) (fun k a b => by rw [dSet_k (by omega), dSet_k (by omega)]))⟩⟩
  · have h30 : GO K mb (dSet m 30 (m.1 29 1).toNatClampNeg x1) g := h.law (by decide) (by
      unfold GL
      rw [dSet_k (by decide), dSet_k (by decide)]
      exact hGL)
    refine h30.law (by decide) ⟨?_, fun j => ?_⟩
    · rw [dSet_s]
      have := dAddE (X := (m.1 29 1).toInt) (Y := 1) (x := m.1 29 1) (y := (1 : Int32)) rfl (by decide) (by omega) (by omega)
      omega
    · rw [dSet_k (by decide), dSet_k (by decide)]
      exact hGL.2 j
  · rw [e29]
    have f := d_inc hl' (by omega)
    refine ⟨by rw [dSet_s, List.length_append]; exact f, by rw [List.length_append]; show L.length + 1 ≤ 406; omega, fun i hi => ?_⟩
    rw [List.length_append] at hi
    have hi : i < L.length + 1 := hi
    rw [dSet_k (by decide)]
    by_cases e : i = L.length
    · subst e
      rw [dSet_s, getD_last]
    · rw [dSet_j e, getD_app (by omega)]
      exact hL.2.2 i (by omega)
end CGC
/-- a piece of an expression: what it put -/
def PT (K : Nat → Int) (V : Nat → Int64) (tp : List Int → Prop) (o n n' : Nat) (L : lC) (m m' : dM) : Prop := FXl m m' ∧ ∃ L' : lC, LG m' L' ∧ L'.length + n ≤ L.length + n' ∧ ∀ W : List Int, tp W → sY K V o false n W L = sY K V o true n' W L'
def tA (_ : List Int) : Prop := True
def tS (W : List Int) : Prop := rkW W ≤ 1
def tO (W : List Int) : Prop := rkW W = 0
def xU (K : Nat → Int) (V : Nat → Int64) (mb : dM) (o d : Nat) : Prop := ∀ (n : Nat) (m : dM) (x1 : Int32) (L : lC) (Q : Int32 → dM → Prop), GO K mb m (0, n) → LG m L → L.length ≤ 6 + n → x1.toInt = o → (∀ (r : Int32) (m' : dM) (g : gR), GO K mb m' g → RT r g → (g.1 = 0 → gX K o o false n = gX K o o true g.2 ∧ n < g.2 ∧ PT K V tA o n g.2 L m m') → (g.1 ≠ 0 → gX K o o false n = g) → Q r m') → c_X2_unit_43 d x1 m Q
def xP (K : Nat → Int) (V : Nat → Int64) (mb : dM) (o d : Nat) : Prop := ∀ (n : Nat) (m : dM) (x1 : Int32) (L : lC) (Q : Int32 → dM → Prop), GO K mb m (0, n) → LG m L → L.length ≤ 6 + n → x1.toInt = o → (∀ (r : Int32) (m' : dM) (g : gR), GO K mb m' g → RT r g → (g.1 = 0 → gX K o o false n = gX K o o true g.2 ∧ n < g.2 ∧ K g.2 ≠ 42 ∧ K g.2 ≠ 47 ∧ PT K V tS o n g.2 L m m') → (g.1 ≠ 0 → gX K o o false n = g) → Q r m') → c_X2_product_43 d x1 m Q
def xSm (K : Nat → Int) (V : Nat → Int64) (mb : dM) (o d : Nat) : Prop := ∀ (n : Nat) (m : dM) (x1 : Int32) (L : lC) (Q : Int32 → dM → Prop), GO K mb m (0, n) → LG m L → L.length ≤ 6 + n → x1.toInt = o → (∀ (r : Int32) (m' : dM), GO K mb m' (gX K o o false n) → RT r (gX K o o false n) → ((gX K o o false n).1 = 0 → PT K V tO o n (gX K o o false n).2 L m m') → Q r m') → c_X2_sum_43 d x1 m Q
section CSC
variable {K : Nat → Int} {V : Nat → Int64} {mb : dM}
theorem kk_unit {o d : Nat} (hVM : VM K V mb) (ho : o ≤ 6) (hd : 2 ≤ d) (hS : o < 6 → xSm K V mb (o + 1) d) : xU K V mb o (d + 1) := by
  intro n m x1 L Q h hL hlen hx hQ
  have hK : KM K mb := fun i a b => (hVM i a b).1
  obtain ⟨e2, e3, h4, h5⟩ := h.at
  have eU := gX_U (K := K) (b := o) (d := o) h4
  have sU := fun W : List Int => sY_U (K := K) (V := V) (d := o) (W := W) (o := L) h4
  have bad : ∀ (m' : dM) (c : Nat), GO K mb m' (c, n) → c ≠ 0 → gX K o o false n = (c, n) → Q 0 m' := fun m' c h' hc e => hQ 0 m' (c, n) h' ⟨fun z => absurd z hc, fun _ => rfl⟩ (fun z => absurd z hc) (fun _ => e)
  have st : ∀ (r : Int32) (m1 m' : dM) (c : Int32), (L.length < 406 → LG m1 (L ++ [c])) → FXl m m1 → (∀ k : Nat, k ≠ 43 → m'.1 k = m1.1 k) → GO K mb m' (gst n) → RT r (gst n) → (K n = 23 ∨ (13 ≤ K n ∧ K n ≤ 21)) → (∀ W : List Int, sY K V o false n W L = sY K V o true (n + 1) W (L ++ [c])) → Q r m' := fun r m1 m' c hL1 hX hf h' hr hu hs => by
    rw [if_pos hu] at eU
    refine hQ r m' (gst n) h' hr (fun z => ?_) (fun z => ?_)
    · unfold gst at z ⊢
      by_cases q : 400 ≤ n
      · rw [if_pos q] at z; exact absurd z (by first | decide | exact Nat.succ_ne_zero _)
      · rw [if_neg q] at eU ⊢
        refine ⟨eU, Nat.lt_succ_self n, hX.tr (fun k a b => hf k (by omega)), L ++ [c], (hL1 (by omega)).of (hf 29 (by decide)) (hf 30 (by decide)), ?_, fun W _ => hs W⟩
        rw [List.length_append]
        show L.length + 1 + n ≤ L.length + (n + 1)
        omega
    · unfold gst at z ⊢
      by_cases q : 400 ≤ n
      · rw [if_pos q] at eU ⊢
        exact eU
      · rw [if_neg q] at z; exact absurd rfl z
  refine v_X2_unit_43 (Wp.deep (k_kind hK h (fun r hr => ?_)) (by omega))
  have h67 : ¬ (K n = 23 ∨ (13 ≤ K n ∧ K n ≤ 21)) → j_X2_unit_43_67 (d + 1) x1 r m Q := fun hu => by
    rw [if_neg hu] at eU
    refine v_X2_unit_43_67 ⟨fun q40 => ⟨fun q6 => ?_, fun q6 => ?_⟩, fun q40 => ?_⟩
    · rw [if_pos (by omega), if_neg (by omega)] at eU
      refine Wp.deep (kk_step h (by omega) (fun r1 m1 h1 hr1 hf1 => ⟨fun z => ?_, fun z => ?_⟩)) (by omega)
      · have z := hr1.z z
        unfold gst at z h1
        by_cases q : 400 ≤ n
        · rw [if_pos q] at eU h1
          exact v_X2_unit_43_123 (bad _ 2 h1 (by first | decide | exact Nat.succ_ne_zero _) eU)
        · rw [if_neg q] at z; exact absurd rfl z
      · have z := hr1.nz z
        unfold gst at z h1
        by_cases q : 400 ≤ n
        · rw [if_pos q] at z; exact absurd z (by first | decide | exact Nat.succ_ne_zero _)
        · rw [if_neg q] at eU h1
          have eS := gX_seg (K := K) (b := o) (b' := o + 1) (by omega) _ (o + 1) false (n + 1) rfl (by omega) (by omega)
          rw [← eU] at eS
          have hok := gX_ok (K := K) (b := o + 1) _ (o + 1) false (n + 1) rfl (by omega)
          have hnp := gX_nop (K := K) (b := o + 1) _ (o + 1) false (n + 1) rfl (by omega)
          have hL1 : LG m1 L := hL.of (hf1 29 (by decide)) (hf1 30 (by decide))
          refine hS (by omega) (n + 1) m1 _ L _ h1 hL1 (by omega) (d_add hx (by decide) (by omega)) (fun r2 m2 h2 hr2 pt2 => ⟨fun z2 => ?_, fun z2 => ?_⟩)
          · have z2 := hr2.z z2
            rw [rb_f z2] at eS
            generalize gX K (o + 1) (o + 1) false (n + 1) = g at *
            exact v_X2_unit_43_123 (hQ 0 m2 g h2 ⟨fun q => absurd q z2, fun _ => rfl⟩ (fun q => absurd q z2) (fun _ => eS))
          · have z2 := hr2.nz z2
            rw [rb_k z2] at eS
            have hnp := hnp z2
            have pt2 := pt2 z2
            generalize gX K (o + 1) (o + 1) false (n + 1) = g at *
            obtain ⟨g1, g2⟩ := g
            have z2 : g1 = 0 := z2
            subst z2
            have hok1 : n + 1 ≤ g2 ∧ g2 ≤ 400 := hok.1
            have hnp : K g2 ≠ 43 ∧ K g2 ≠ 45 ∧ K g2 ≠ 42 ∧ K g2 ≠ 47 := hnp
            have eO := gX_O (K := K) (b := o) (d := o + 1) hok1.2
            rw [if_neg (by omega), if_pos (by omega)] at eO
            have eS : gX K o o false n = gX K o (o + 1) true g2 := eS
            rw [eO] at eS
            obtain ⟨fx2, L2, lg2, ln2, sy2⟩ := pt2
            have ln2 : L2.length + (n + 1) ≤ L.length + g2 := ln2
            have sy2 : ∀ W : List Int, tO W → sY K V (o + 1) false (n + 1) W L = sY K V (o + 1) true g2 W L2 := sy2
            refine Wp.deep (kk_need hK h2 (k := 41) (by decide) (by decide) (fun r3 m3 h3 hr3 hf3 => ⟨fun z3 => ?_, fun z3 => ?_⟩)) hd
            · have z3 := hr3.z z3
              have e : gnd K 41 g2 = gX K o o false n := by
                rw [eS]
                unfold gnd gst at z3 ⊢
                by_cases q4 : K g2 = 41
                · rw [if_pos q4] at z3 ⊢
                  rw [if_pos q4]
                  by_cases q5 : 400 ≤ g2
                  · rw [if_pos q5, if_pos q5]
                  · rw [if_neg q5] at z3; exact absurd rfl z3
                · rw [if_neg q4, if_neg q4]
              exact v_X2_unit_43_123 (hQ 0 m3 _ h3 ⟨fun q => absurd q z3, fun _ => rfl⟩ (fun q => absurd q z3) (fun _ => e.symm))
            · have z3 := hr3.nz z3
              obtain ⟨k1, k2, k3⟩ := gnd_z rfl z3
              have e : gX K o o false n = gX K o o true (g2 + 1) := by
                rw [eS, if_pos k2, if_neg (by omega)]
                rfl
              refine hQ 1 m3 _ h3 ⟨fun _ => rfl, fun q => absurd z3 q⟩ (fun _ => ?_) (fun q => absurd z3 q)
              rw [k1]
              have fx1 : FXl m m1 := fun k a b => hf1 k (by omega)
              have fx3 : FXl m2 m3 := fun k a b => hf3 k (by omega)
              refine ⟨e, by show n < g2 + 1; omega, (fx1.tr fx2).tr fx3, L2, lg2.of (hf3 29 (by decide)) (hf3 30 (by decide)), by show L2.length + n ≤ L.length + (g2 + 1); omega, fun W _ => ?_⟩
              show sY K V o false n W L = sY K V o true (g2 + 1) W L2
              rw [sU W, if_neg (fun q => hu (Or.inl q)), if_neg (fun q => hu (Or.inr q)), if_pos (by omega), sy2 (40 :: W) rfl, sY_O hok1.2, if_neg (by omega), if_neg (by omega), if_pos ⟨by omega, k2⟩, fl_s (Or.inl rfl)]
              rfl
    · rw [if_pos (by omega), if_pos (by omega)] at eU
      exact Wp.deep (k_fail h (c := 2) (by decide) (fun m' h' => ⟨Or.inl rfl, bad m' 2 h' (by first | decide | exact Nat.succ_ne_zero _) eU⟩)) (by omega)
    · rw [if_neg (by omega)] at eU
      exact Wp.deep (k_fail h (c := 1) (by decide) (fun m' h' => ⟨Or.inl rfl, bad m' 1 h' (by first | decide | exact Nat.succ_ne_zero _) eU⟩)) (by omega)
  refine ⟨fun q23 => ⟨fun q => h67 (by omega), fun q => ⟨fun q => h67 (by omega), fun q => ?_⟩⟩, fun q23 => ?_⟩
  · have hv : 13 ≤ K n ∧ K n ≤ 21 := by omega
    have ec : ((4 : Int32) + r) - (13 : Int32) = vcd (K n) := by
      apply Int32.toInt_inj.mp
      have f1 := dAddE (X := 4) (Y := r.toInt) (x := (4 : Int32)) (y := r) (by decide) rfl (by omega) (by omega)
      have f2 := dSubE (X := 4 + r.toInt) (Y := 13) (x := (4 : Int32) + r) (y := (13 : Int32)) f1 (by decide) (by omega) (by omega)
      rw [vcd_i hv]
      omega
    rw [ec]
    exact Wp.deep (kk_put h hL (fun m2 h2 hL2 hX2 => Wp.deep (kk_step h2 (by omega) (fun r3 m3 h3 hr3 hf3 => ⟨hr3.b, st r3 m2 m3 _ hL2 hX2 hf3 h3 hr3 (Or.inr hv) (fun W => by rw [sU W, if_neg (by omega), if_pos hv])⟩)) (by omega))) (by omega)
  · have h23 : K n = 23 := by omega
    refine Wp.deep (k_numberAt e2 h4 ?_) hd
    have ev : m.2.1 41 n = V n := by rw [h.1.2.2.1]; exact (hVM n h4 h5).2 (by omega)
    rw [ev]
    exact Wp.deep (kk_put h hL (fun m2 h2 hL2 hX2 => Wp.deep (kk_step h2 (by omega) (fun r3 m3 h3 hr3 hf3 => ⟨hr3.b, st r3 m2 m3 _ hL2 hX2 hf3 h3 hr3 (Or.inl h23) (fun W => by rw [sU W, if_pos h23])⟩)) (by omega))) (by omega)
theorem fl_top1 {W : List Int} {o : lC} (h : rkW W ≤ 1) : fl true W o = (W, o) := by
  cases W with
  | nil => rfl
  | cons w W =>
    have h : (if w = 40 then 0 else if w = 43 ∨ w = 45 then 1 else 2) ≤ 1 := h
    refine fl_s ?_
    by_cases q : w = 40
    · exact Or.inl q
    · rw [if_neg q] at h
      by_cases q2 : w = 43 ∨ w = 45
      · exact Or.inr ⟨rfl, q2⟩
      · rw [if_neg q2] at h; omega
theorem fl_top0 {W : List Int} {o : lC} (h : rkW W = 0) : fl false W o = (W, o) := by
  rcases rk0 h with e | ⟨W', e⟩
  · subst e; rfl
  · subst e; exact fl_s (Or.inl rfl)
theorem kk_product {o d : Nat} (hK : KM K mb) (hd : 1 ≤ d) (hU : xU K V mb o d) : xP K V mb o (d + 1) := by
  intro n m x1 L Q h hL hlen hx hQ
  have bad : ∀ (m' : dM) (g : gR), GO K mb m' g → g.1 ≠ 0 → gX K o o false n = g → Q 0 m' := fun m' g h' hc e => hQ 0 m' g h' ⟨fun z => absurd z hc, fun _ => rfl⟩ (fun z => absurd z hc) (fun _ => e)
  have loop : ∀ (f i n1 : Nat) (x2 : Int32) (m1 : dM), 401 - n1 ≤ f → x2.toInt = i → 2 * i ≤ n1 → n < n1 → GO K mb m1 (0, n1) → gX K o o false n = gX K o o true n1 → PT K V tS o n n1 L m m1 → j_X2_product_43_12 (d + 1) x1 x2 m1 Q := by
    intro f
    induction f with
    | zero => intro i n1 x2 m1 hf h2 hi hn h1 e pt; have := h1.at.2.2.1; omega
    | succ f ih =>
      intro i n1 x2 m1 hf h2 hi hn h1 e pt
      obtain ⟨a2, a3, a4, a5⟩ := h1.at
      have eO := gX_O (K := K) (b := o) (d := o) a4
      have fin : K n1 ≠ 42 → K n1 ≠ 47 → j_X2_product_43_83 (d + 1) m1 Q := fun q1 q2 => v_X2_product_43_83 (hQ 1 m1 (0, n1) h1 ⟨fun _ => rfl, fun z => absurd rfl z⟩ (fun _ => ⟨e, hn, q1, q2, pt⟩) (fun z => absurd rfl z))
      obtain ⟨fx1, L1, lg1, ln1, sy1⟩ := pt
      have body : (K n1 = 42 ∨ K n1 = 47) → ∀ v : Int32, v = opc (K n1) → c_X2_step_43 d m1 (fun r2 m2 => ((r2.toInt = 0 → j_X2_product_43_67 (d + 1) m2 Q) ∧ (r2.toInt ≠ 0 → c_X2_unit_43 d x1 m2 (fun r3 m3 => ((r3.toInt ≠ 0 → c_X4_put_29 d v m3 (fun m4 => j_X2_product_43_12 (d + 1) x1 (x2 + (1 : Int32)) m4 Q)) ∧ (r3.toInt = 0 → j_X2_product_43_67 (d + 1) m3 Q)))))) := fun hk v hv => by
        rw [if_pos (by omega)] at eO
        refine Wp.deep (kk_step h1 (by omega) (fun r2 m2 h2' hr2 hf2 => ⟨fun z => ?_, fun z => ?_⟩)) hd
        · have z := hr2.z z
          unfold gst at z h2'
          by_cases q : 400 ≤ n1
          · rw [if_pos q] at eO h2'
            exact v_X2_product_43_67 (bad _ (2, n1) h2' (by first | decide | exact Nat.succ_ne_zero _) (e.trans eO))
          · rw [if_neg q] at z; exact absurd rfl z
        · have z := hr2.nz z
          unfold gst at z h2'
          by_cases q : 400 ≤ n1
          · rw [if_pos q] at z; exact absurd z (by first | decide | exact Nat.succ_ne_zero _)
          · rw [if_neg q] at eO h2'
            refine hU (n1 + 1) m2 x1 L1 _ h2' (lg1.of (hf2 29 (by decide)) (hf2 30 (by decide))) (by omega) hx (fun r3 m3 g h3 hr3 ok3 no3 => ⟨fun z3 => ?_, fun z3 => ?_⟩)
            · have z3 := hr3.nz z3
              obtain ⟨g1, g2⟩ := g
              have z3 : g1 = 0 := z3
              subst z3
              obtain ⟨p1, p2, fx3, L3, lg3, ln3, sy3⟩ := ok3 rfl
              have p2 : n1 + 1 < g2 := p2
              have ln3 : L3.length + (n1 + 1) ≤ L1.length + g2 := ln3
              have sy3 : ∀ W : List Int, tA W → sY K V o false (n1 + 1) W L1 = sY K V o true g2 W L3 := sy3
              have g400 := h3.at.2.2.1
              refine Wp.deep (kk_put h3 lg3 (fun m4 h4 lg4 fx4 => ih (i + 1) g2 _ m4 (by omega) (d_add h2 (by decide) (by omega)) (by omega) (by omega) h4 ((e.trans eO).trans p1) ?_)) hd
              have fx2 : FXl m1 m2 := fun k a b => hf2 k (by omega)
              refine ⟨((fx1.tr fx2).tr fx3).tr fx4, L3 ++ [v], lg4 (by omega), by rw [List.length_append]; show L3.length + 1 + n ≤ L.length + g2; omega, fun W hW => ?_⟩
              rw [sy1 W hW, sY_O a4, if_pos hk, fl_top1 hW, sy3 (K n1 :: W) trivial, sY_strong g400 hk, hv]
            · exact v_X2_product_43_67 (bad _ g h3 (hr3.z z3) ((e.trans eO).trans (no3 (hr3.z z3))))
      have h37 : (K n1 = 42 ∨ K n1 = 47) → j_X2_product_43_37 (d + 1) x1 x2 m1 Q := fun q => v_X2_product_43_37 (Wp.deep (k_kind hK h1 (fun r hr => ⟨fun q2 => body q 3 (by unfold opc; rw [if_neg (by omega), if_neg (by omega), if_neg (by omega)]), fun q2 => body q 2 (by unfold opc; rw [if_neg (by omega), if_neg (by omega), if_pos (by omega)])⟩)) hd)
      exact v_X2_product_43_12 ⟨fun q => by exfalso; omega, fun _ => Wp.deep (k_kind hK h1 (fun r hr => ⟨fun q => h37 (by omega), fun q => Wp.deep (k_kind hK h1 (fun r' hr' => ⟨fun q' => fin (by omega) (by omega), fun q' => h37 (by omega)⟩)) hd⟩)) hd⟩
  refine v_X2_product_43 (hU n m x1 L _ h hL hlen hx (fun r m1 g h1 hr ok no => ⟨fun z => ?_, fun z => bad _ g h1 (hr.z z) (no (hr.z z))⟩))
  have z := hr.nz z
  obtain ⟨g1, g2⟩ := g
  have z : g1 = 0 := z
  subst z
  obtain ⟨p1, p2, fx, L1, lg1, ln1, sy1⟩ := ok rfl
  have p2 : n < g2 := p2
  exact loop 401 0 g2 _ m1 (by omega) (by decide) (by omega) p2 h1 p1 ⟨fx, L1, lg1, ln1, fun W _ => sy1 W trivial⟩
theorem kk_sum {o d : Nat} (hK : KM K mb) (hd : 1 ≤ d) (hU : xP K V mb o d) : xSm K V mb o (d + 1) := by
  intro n m x1 L Q h hL hlen hx hQ
  have bad : ∀ (m' : dM) (g : gR), GO K mb m' g → g.1 ≠ 0 → gX K o o false n = g → Q 0 m' := fun m' g h' hc e => hQ 0 m' (by rw [e]; exact h') (by rw [e]; exact ⟨fun z => absurd z hc, fun _ => rfl⟩) (fun z => by rw [e] at z; exact absurd z hc)
  have loop : ∀ (f i n1 : Nat) (x2 : Int32) (m1 : dM), 401 - n1 ≤ f → x2.toInt = i → 2 * i ≤ n1 → (K n1 ≠ 42 ∧ K n1 ≠ 47) → n < n1 → GO K mb m1 (0, n1) → gX K o o false n = gX K o o true n1 → PT K V tO o n n1 L m m1 → j_X2_sum_43_12 (d + 1) x1 x2 m1 Q := by
    intro f
    induction f with
    | zero => intro i n1 x2 m1 hf h2 hi hn hnn h1 e pt; have := h1.at.2.2.1; omega
    | succ f ih =>
      intro i n1 x2 m1 hf h2 hi hn hnn h1 e pt
      obtain ⟨a2, a3, a4, a5⟩ := h1.at
      have eO := gX_O (K := K) (b := o) (d := o) a4
      have fin : K n1 ≠ 43 → K n1 ≠ 45 → j_X2_sum_43_83 (d + 1) m1 Q := fun q1 q2 => by
        rw [if_neg (by omega), if_neg (Nat.lt_irrefl o)] at eO
        have e2 := e.trans eO
        exact v_X2_sum_43_83 (hQ 1 m1 (by rw [e2]; exact h1) (by rw [e2]; exact ⟨fun _ => rfl, fun z => absurd rfl z⟩) (fun _ => by rw [e2]; exact pt))
      obtain ⟨fx1, L1, lg1, ln1, sy1⟩ := pt
      have body : (K n1 = 43 ∨ K n1 = 45) → ∀ v : Int32, v = opc (K n1) → c_X2_step_43 d m1 (fun r2 m2 => ((r2.toInt = 0 → j_X2_sum_43_67 (d + 1) m2 Q) ∧ (r2.toInt ≠ 0 → c_X2_product_43 d x1 m2 (fun r3 m3 => ((r3.toInt ≠ 0 → c_X4_put_29 d v m3 (fun m4 => j_X2_sum_43_12 (d + 1) x1 (x2 + (1 : Int32)) m4 Q)) ∧ (r3.toInt = 0 → j_X2_sum_43_67 (d + 1) m3 Q)))))) := fun hk v hv => by
        rw [if_pos (by omega)] at eO
        refine Wp.deep (kk_step h1 (by omega) (fun r2 m2 h2' hr2 hf2 => ⟨fun z => ?_, fun z => ?_⟩)) hd
        · have z := hr2.z z
          unfold gst at z h2'
          by_cases q : 400 ≤ n1
          · rw [if_pos q] at eO h2'
            exact v_X2_sum_43_67 (bad _ (2, n1) h2' (by first | decide | exact Nat.succ_ne_zero _) (e.trans eO))
          · rw [if_neg q] at z; exact absurd rfl z
        · have z := hr2.nz z
          unfold gst at z h2'
          by_cases q : 400 ≤ n1
          · rw [if_pos q] at z; exact absurd z (by first | decide | exact Nat.succ_ne_zero _)
          · rw [if_neg q] at eO h2'
            refine hU (n1 + 1) m2 x1 L1 _ h2' (lg1.of (hf2 29 (by decide)) (hf2 30 (by decide))) (by omega) hx (fun r3 m3 g h3 hr3 ok3 no3 => ⟨fun z3 => ?_, fun z3 => ?_⟩)
            · have z3 := hr3.nz z3
              obtain ⟨g1, g2⟩ := g
              have z3 : g1 = 0 := z3
              subst z3
              obtain ⟨p1, p2, p3, p4, fx3, L3, lg3, ln3, sy3⟩ := ok3 rfl
              have p2 : n1 + 1 < g2 := p2
              have p3 : K g2 ≠ 42 := p3
              have p4 : K g2 ≠ 47 := p4
              have ln3 : L3.length + (n1 + 1) ≤ L1.length + g2 := ln3
              have sy3 : ∀ W : List Int, tS W → sY K V o false (n1 + 1) W L1 = sY K V o true g2 W L3 := sy3
              have g400 := h3.at.2.2.1
              refine Wp.deep (kk_put h3 lg3 (fun m4 h4 lg4 fx4 => ih (i + 1) g2 _ m4 (by omega) (d_add h2 (by decide) (by omega)) (by omega) ⟨p3, p4⟩ (by omega) h4 ((e.trans eO).trans p1) ?_)) hd
              have fx2 : FXl m1 m2 := fun k a b => hf2 k (by omega)
              refine ⟨((fx1.tr fx2).tr fx3).tr fx4, L3 ++ [v], lg4 (by omega), by rw [List.length_append]; show L3.length + 1 + n ≤ L.length + g2; omega, fun W hW => ?_⟩
              have tw : tS (K n1 :: W) := by
                show (if K n1 = 40 then 0 else if K n1 = 43 ∨ K n1 = 45 then 1 else 2) ≤ 1
                rw [if_neg (by omega), if_pos hk]
                exact Nat.le_refl _
              rw [sy1 W hW, sY_O a4, if_neg (by omega), if_pos hk, fl_top0 hW, sy3 (K n1 :: W) tw, sY_weak g400 hk ⟨p3, p4⟩, hv]
            · exact v_X2_sum_43_67 (bad _ g h3 (hr3.z z3) ((e.trans eO).trans (no3 (hr3.z z3))))
      have h37 : (K n1 = 43 ∨ K n1 = 45) → j_X2_sum_43_37 (d + 1) x1 x2 m1 Q := fun q => v_X2_sum_43_37 (Wp.deep (k_kind hK h1 (fun r hr => ⟨fun q2 => body q 1 (by unfold opc; rw [if_neg (by omega), if_pos (by omega)]), fun q2 => body q 0 (by unfold opc; rw [if_pos (by omega)])⟩)) hd)
      exact v_X2_sum_43_12 ⟨fun q => by exfalso; omega, fun _ => Wp.deep (k_kind hK h1 (fun r hr => ⟨fun q => h37 (by omega), fun q => Wp.deep (k_kind hK h1 (fun r' hr' => ⟨fun q' => fin (by omega) (by omega), fun q' => h37 (by omega)⟩)) hd⟩)) hd⟩
  refine v_X2_sum_43 (hU n m x1 L _ h hL hlen hx (fun r m1 g h1 hr ok no => ⟨fun z => ?_, fun z => bad _ g h1 (hr.z z) (no (hr.z z))⟩))
  have z := hr.nz z
  obtain ⟨g1, g2⟩ := g
  have z : g1 = 0 := z
  subst z
  obtain ⟨p1, p2, p3, p4, fx, L1, lg1, ln1, sy1⟩ := ok rfl
  have p2 : n < g2 := p2
  exact loop 401 0 g2 _ m1 (by omega) (by decide) (by omega) ⟨p3, p4⟩ p2 h1 p1 ⟨fx, L1, lg1, ln1, fun W hW => sy1 W (by show rkW W ≤ 1; have : rkW W = 0 := hW; omega)⟩
theorem kk_sums (hVM : VM K V mb) : ∀ (e o : Nat), o + e = 6 → xSm K V mb o (3 * e + 8) := by
  have hK : KM K mb := fun i a b => (hVM i a b).1
  intro e
  induction e with
  | zero => intro o ho; exact kk_sum hK (by omega) (kk_product hK (by omega) (kk_unit (d := 5) hVM (by omega) (by omega) (fun q => by exfalso; omega)))
  | succ e ih =>
    intro o ho
    have hS := ih (o + 1) (by omega)
    have := kk_sum hK (by omega) (kk_product hK (by omega) (kk_unit (o := o) (d := 3 * e + 8) hVM (by omega) (by omega) (fun _ => hS)))
    rw [show 3 * (e + 1) + 8 = 3 * e + 8 + 1 + 1 + 1 by omega]
    exact this
/-- an expression puts its codes -/
theorem kk_expr {n : Nat} {m : dM} {L : lC} {Q : Int32 → dM → Prop} (hVM : VM K V mb) (h : GO K mb m (0, n)) (hL : LG m L) (hlen : L.length ≤ 6 + n) (hQ : ∀ (r : Int32) (m' : dM), GO K mb m' (gE K n) → RT r (gE K n) → ((gE K n).1 = 0 → FXl m m' ∧ LG m' (L ++ cE K V n) ∧ (L ++ cE K V n).length ≤ 6 + (gE K n).2 ∧ n < (gE K n).2 + 1) → Q r m') : c_X2_sum_43 26 (0 : Int32) m Q := by
  have h4 := h.at.2.2.1
  have hok := gX_ok (K := K) (b := 0) _ 0 false n rfl h4
  have hnp := gX_nop (K := K) (b := 0) _ 0 false n rfl h4
  refine kk_sums hVM 6 0 rfl n m _ L Q h hL hlen (by decide) (fun r m' h' hr pt => hQ r m' h' hr (fun z => ?_))
  have z' : (gX K 0 0 false n).1 = 0 := z
  obtain ⟨fx, L1, lg1, ln1, sy1⟩ := pt z'
  have np := hnp z'
  have e := sy1 [] rfl
  rw [cE_pre, sY_O hok.1.2, if_neg (by omega), if_neg (by omega), if_neg (fun q => by omega)] at e
  have e : L ++ cE K V n = L1 := e
  have b1' := hok.1.1
  have b1' : n ≤ (gE K n).2 := b1'
  have ln1 : L1.length + n ≤ L.length + (gE K n).2 := ln1
  rw [e]
  exact ⟨fx, lg1, by omega, by omega⟩
end CSC
