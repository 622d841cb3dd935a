section
/-! THE CLASS's meaning, 4: surge, coins, seed; all of a text -/
section CMA
variable {K : Nat → Int} {V : Nat → Int64}
theorem MS.sg {s : mSt} {m : dM} {n : Nat} (h : MS V s m) : MS V (s.1, s.2.1, s.2.2.1, (some n, s.2.2.2.2)) (dSet (dSet m 20 3 (V (n + 1)).toInt32) 20 4 (V (n + 2)).toInt32) := by
  obtain ⟨a1, a2, a3, a4, a5, a6, a7, a8, a9, a10⟩ := h
  exact ⟨a1, a2, a3, a4, a5, a6, rfl, rfl, a9, a10⟩
theorem MS.co {s : mSt} {m : dM} {n : Nat} (h : MS V s m) : MS V (s.1, s.2.1, s.2.2.1, (s.2.2.2.1, some n, s.2.2.2.2.2)) (dSet m 20 5 (V (n + 1)).toInt32) := by
  obtain ⟨a1, a2, a3, a4, a5, a6, a7, a8, a9, a10⟩ := h
  exact ⟨a1, a2, a3, a4, a5, a6, a7, a8, rfl, a10⟩
theorem MS.se {s : mSt} {m : dM} {n : Nat} (h : MS V s m) : MS V (s.1, s.2.1, s.2.2.1, (s.2.2.2.1, s.2.2.2.2.1, some n)) (dSet m 20 6 (V (n + 1)).toInt32) := by
  obtain ⟨a1, a2, a3, a4, a5, a6, a7, a8, a9, a10⟩ := h
  exact ⟨a1, a2, a3, a4, a5, a6, a7, a8, a9, rfl⟩
theorem h_takeSurge {s : mSt} {n : Nat} {m : dM} {Q : Int32 → dM → Prop} (hV : VM K V m) (hM : MS V s m) (hx : (m.1 44 4).toInt = ((n + 1 : Nat) : Int)) (h0 : (m.1 44 5).toInt = 0) (hn : n + 3 < 400) (hl : lvK K (n + 4)) (hk1 : K (n + 1) = 23) (hk2 : K (n + 2) = 23) (hQ : ∀ (r : Int32) (m' : dM), TO K V (bnd V (n + 1) 0 100 (bnd V (n + 2) 0 19 ((0, 0), (s.1, s.2.1, s.2.2.1, (some n, s.2.2.2.2))) s) s) (n + 3) m r m' → Q r m') : c_X5_takeSurge_44 4 m Q := by
  have e2 := d_inc hx (by omega)
  refine v_X5_takeSurge_44 (Wp.deep (h_numberAt hV hx (by omega) (hl.dn (by omega)) (by omega) ?_) (Nat.le_of_ble_eq_true rfl))
  have F1 : MF m (dSet m 20 3 (V (n + 1)).toInt32) := (MF.rf m).set (Or.inl (by decide))
  refine Wp.deep (h_numberAt (i := n + 2) (hV.mf F1) e2 (by omega) (hl.dn (by omega)) (by omega) ?_) (Nat.le_of_ble_eq_true rfl)
  have F2 : MF m (dSet (dSet m 20 3 (V (n + 1)).toInt32) 20 4 (V (n + 2)).toInt32) := F1.set (Or.inl (by decide))
  have hM2 := hM.sg (n := n)
  have p44 : ((dSet (dSet m 20 3 (V (n + 1)).toInt32) 20 4 (V (n + 2)).toInt32).1 44 4).toInt = ((n + 1 : Nat) : Int) := hx
  have p445 : ((dSet (dSet m 20 3 (V (n + 1)).toInt32) 20 4 (V (n + 2)).toInt32).1 44 5).toInt = 0 := h0
  generalize dSet (dSet m 20 3 (V (n + 1)).toInt32) 20 4 (V (n + 2)).toInt32 = M at F2 hM2 p44 p445 ⊢
  have hVM := hV.mf F2
  have t0 := ti_0
  have t19 := ti_19
  have t100 := ti_100
  refine h_within (i := n + 1) hVM p44 (by omega) (hl.dn (by omega)) (by omega) (fun hb1 M6 s6 q44 q445 => ⟨fun q => absurd q (by decide), fun _ => ?_⟩) (fun hb1 M6 s6 q44 q445 => ⟨fun _ => v_X5_takeSurge_44_62 (hQ _ _ ?_), fun q => absurd (by decide) q⟩)
  · refine h_within (i := n + 2) (hVM.s44 s6) q44 (by omega) (hl.dn (by omega)) (by omega) (fun hb2 M7 s7 r44 r445 => ⟨fun q => absurd q (by decide), fun _ => hQ _ _ ?_⟩) (fun hb2 M7 s7 r44 r445 => ⟨fun _ => v_X5_takeSurge_44_62 (hQ _ _ ?_), fun q => absurd (by decide) q⟩)
    · unfold bnd
      rw [if_pos (by omega), if_pos (by omega)]
      exact ⟨S44.mf F2 (s6.tr s7), fun _ => ⟨rfl, r44, by rw [r445, q445]; exact p445, MS.s44 hM2 (s6.tr s7)⟩, fun q => absurd rfl q⟩
    · unfold bnd
      rw [if_pos (by omega), if_neg (by omega)]
      exact ⟨S44.mf F2 (s6.tr s7), fun q => absurd q (Nat.succ_ne_zero _), fun _ => ⟨rfl, r44, r445, by show n + 2 ≤ 400; omega, hl.dn (show n + 2 ≤ n + 4 by omega)⟩⟩
  · unfold bnd
    rw [if_neg (by omega)]
    exact ⟨S44.mf F2 s6, fun q => absurd q (Nat.succ_ne_zero _), fun _ => ⟨rfl, q44, q445, by show n + 1 ≤ 400; omega, hl.dn (show n + 1 ≤ n + 4 by omega)⟩⟩
theorem h_takeCoins {s : mSt} {n : Nat} {m : dM} {Q : Int32 → dM → Prop} (hV : VM K V m) (hM : MS V s m) (hx : (m.1 44 4).toInt = ((n + 1 : Nat) : Int)) (h0 : (m.1 44 5).toInt = 0) (hn : n + 2 < 400) (hl : lvK K (n + 3)) (hk1 : K (n + 1) = 23) (hQ : ∀ (r : Int32) (m' : dM), TO K V (bnd V (n + 1) 0 999 ((0, 0), (s.1, s.2.1, s.2.2.1, (s.2.2.2.1, some n, s.2.2.2.2.2))) s) (n + 2) m r m' → Q r m') : c_X5_takeCoins_44 4 m Q := by
  refine v_X5_takeCoins_44 (Wp.deep (h_numberAt hV hx (by omega) (hl.dn (by omega)) (by omega) ?_) (Nat.le_of_ble_eq_true rfl))
  have F2 : MF m (dSet m 20 5 (V (n + 1)).toInt32) := (MF.rf m).set (Or.inl (by decide))
  have hM2 := hM.co (n := n)
  have p44 : ((dSet m 20 5 (V (n + 1)).toInt32).1 44 4).toInt = ((n + 1 : Nat) : Int) := hx
  have p445 : ((dSet m 20 5 (V (n + 1)).toInt32).1 44 5).toInt = 0 := h0
  generalize dSet m 20 5 (V (n + 1)).toInt32 = M at F2 hM2 p44 p445 ⊢
  have hVM := hV.mf F2
  have t0 := ti_0
  have t999 := ti_999
  refine h_within (i := n + 1) hVM p44 (by omega) (hl.dn (by omega)) (by omega) (fun hb1 M6 s6 q44 q445 => ⟨Or.inr rfl, hQ _ _ ?_⟩) (fun hb1 M6 s6 q44 q445 => ⟨Or.inl rfl, hQ _ _ ?_⟩)
  · unfold bnd
    rw [if_pos (by omega)]
    exact ⟨S44.mf F2 s6, fun _ => ⟨rfl, q44, by rw [q445]; exact p445, MS.s44 hM2 s6⟩, fun q => absurd rfl q⟩
  · unfold bnd
    rw [if_neg (by omega)]
    exact ⟨S44.mf F2 s6, fun q => absurd q (Nat.succ_ne_zero _), fun _ => ⟨rfl, q44, q445, by show n + 1 ≤ 400; omega, hl.dn (show n + 1 ≤ n + 3 by omega)⟩⟩
theorem h_takeSeed {s : mSt} {n : Nat} {m : dM} {Q : Int32 → dM → Prop} (hV : VM K V m) (hM : MS V s m) (hx : (m.1 44 4).toInt = ((n + 1 : Nat) : Int)) (h0 : (m.1 44 5).toInt = 0) (hn : n + 2 < 400) (hl : lvK K (n + 3)) (hk1 : K (n + 1) = 23) (hQ : ∀ (r : Int32) (m' : dM), TO K V (bnd V (n + 1) 0 9999 ((0, 0), (s.1, s.2.1, s.2.2.1, (s.2.2.2.1, s.2.2.2.2.1, some n))) s) (n + 2) m r m' → Q r m') : c_X5_takeSeed_44 4 m Q := by
  refine v_X5_takeSeed_44 (Wp.deep (h_numberAt hV hx (by omega) (hl.dn (by omega)) (by omega) ?_) (Nat.le_of_ble_eq_true rfl))
  have F2 : MF m (dSet m 20 6 (V (n + 1)).toInt32) := (MF.rf m).set (Or.inl (by decide))
  have hM2 := hM.se (n := n)
  have p44 : ((dSet m 20 6 (V (n + 1)).toInt32).1 44 4).toInt = ((n + 1 : Nat) : Int) := hx
  have p445 : ((dSet m 20 6 (V (n + 1)).toInt32).1 44 5).toInt = 0 := h0
  generalize dSet m 20 6 (V (n + 1)).toInt32 = M at F2 hM2 p44 p445 ⊢
  have hVM := hV.mf F2
  have t0 := ti_0
  have t9999 := ti_9999
  refine h_within (i := n + 1) hVM p44 (by omega) (hl.dn (by omega)) (by omega) (fun hb1 M6 s6 q44 q445 => ⟨Or.inr rfl, hQ _ _ ?_⟩) (fun hb1 M6 s6 q44 q445 => ⟨Or.inl rfl, hQ _ _ ?_⟩)
  · unfold bnd
    rw [if_pos (by omega)]
    exact ⟨S44.mf F2 s6, fun _ => ⟨rfl, q44, by rw [q445]; exact p445, MS.s44 hM2 s6⟩, fun q => absurd rfl q⟩
  · unfold bnd
    rw [if_neg (by omega)]
    exact ⟨S44.mf F2 s6, fun q => absurd q (Nat.succ_ne_zero _), fun _ => ⟨rfl, q44, q445, by show n + 1 ≤ 400; omega, hl.dn (show n + 1 ≤ n + 3 by omega)⟩⟩
/-- on to behind the next sign of end -/
theorem h_skip_0 {e : Nat} {Q : dM → Prop} (he : e < 400) (hke : K e = 59) (hl : lvK K e) : ∀ (f i : Nat) (m : dM), i + f = e → VM K V m → (m.1 44 4).toInt = (i : Int) → (∀ j : Nat, i ≤ j → j < e → K j ≠ 59) → (∀ m' : dM, S44 m m' → (m'.1 44 4).toInt = ((e + 1 : Nat) : Int) → m'.1 44 5 = m.1 44 5 → Q m') → j_X5_skipEnd_44_0 2 m Q := by
  intro f
  induction f with
  | zero =>
    intro i m hi hV hx hj hQ
    have hi : i = e := by omega
    subst hi
    refine v_X5_skipEnd_44_0 ⟨fun q => by exfalso; omega, fun _ => h_kindAt hV hx (by omega) hl (fun r hr => ⟨fun _ => v_X5_skipEnd_44_39 (hQ _ ⟨fun k a => dSet_k a, rfl⟩ ?_ ?_), fun q => by exfalso; omega⟩)⟩
    · rw [dSet_s]; exact d_inc hx (by omega)
    · rw [dSet_j (by decide)]
  | succ f ih =>
    intro i m hi hV hx hj hQ
    have hne := hj i (Nat.le_refl _) (by omega)
    refine v_X5_skipEnd_44_0 ⟨fun q => by exfalso; omega, fun _ => h_kindAt hV hx (by omega) (hl.dn (by omega)) (fun r hr => ⟨fun q => by exfalso; omega, fun _ => ?_⟩)⟩
    have s1 : S44 m (dSet m 44 4 (m.1 44 4 + 1)) := ⟨fun k a => dSet_k a, rfl⟩
    have e1 : ((dSet m 44 4 (m.1 44 4 + 1)).1 44 4).toInt = ((i + 1 : Nat) : Int) := by rw [dSet_s]; exact d_inc hx (by omega)
    have e5 : (dSet m 44 4 (m.1 44 4 + 1)).1 44 5 = m.1 44 5 := by rw [dSet_j (by decide)]
    generalize dSet m 44 4 (m.1 44 4 + 1) = M at s1 e1 e5 ⊢
    exact ih (i + 1) M (by omega) (hV.s44 s1) e1 (fun j a b => hj j (by omega) b) (fun m' a b c => hQ m' (s1.tr a) b (c.trans e5))
theorem h_skip {e i : Nat} {m : dM} {Q : dM → Prop} (he : e < 400) (hke : K e = 59) (hl : lvK K e) (hie : i ≤ e) (hV : VM K V m) (hx : (m.1 44 4).toInt = (i : Int)) (hj : ∀ j : Nat, i ≤ j → j < e → K j ≠ 59) (hQ : ∀ m' : dM, S44 m m' → (m'.1 44 4).toInt = ((e + 1 : Nat) : Int) → m'.1 44 5 = m.1 44 5 → Q m') : c_X5_skipEnd_44 2 m Q :=
  h_skip_0 he hke hl (e - i) i m (by omega) hV hx hj hQ
/-- one TELL, to behind its end -/
theorem h_one {s : mSt} {n n' : Nat} {m : dM} {x : Int32} {A B : dM → Prop} (hV : VM K V m) (hM : MS V s m) (hx : (m.1 44 4).toInt = (n : Int)) (h0 : (m.1 44 5).toInt = 0) (hr : x.toInt = K n) (hk : K n ≠ 24) (hg : gTell K s.1.length s.2.1.length s.2.2.1.length n = (0, n')) (hn' : n' ≤ 400) (hl : lvK K n') (hA : (mTell K V n s).1.1 ≠ 0 → ∀ m' : dM, MF m m' → (m'.1 44 4).toInt = ((mTell K V n s).1.2 : Int) → (m'.1 44 5).toInt = ((mTell K V n s).1.1 : Int) → (mTell K V n s).1.2 ≤ 400 ∧ lvK K (mTell K V n s).1.2 → A m') (hB : (mTell K V n s).1.1 = 0 → ∀ m' : dM, MF m m' → (m'.1 44 4).toInt = (n' : Int) → (m'.1 44 5).toInt = 0 → MS V (mTell K V n s).2 m' → B m') :
    c_X5_takeTold_44 5 x (dSet m 44 4 (m.1 44 4 + 1)) (fun r3 m3 => ((r3.toInt = 0 → A m3) ∧ (r3.toInt ≠ 0 → c_X5_skipEnd_44 5 m3 B))) := by
  have hlt : n < n' := by
    have := gTell_lt (K := K) (cf := s.1.length) (cw := s.2.1.length) (cu := s.2.2.1.length) (n := n) (by rw [hg])
    rw [hg] at this
    exact this
  have s1 : S44 m (dSet m 44 4 (m.1 44 4 + 1)) := ⟨fun k a => dSet_k a, rfl⟩
  have e1 : ((dSet m 44 4 (m.1 44 4 + 1)).1 44 4).toInt = ((n + 1 : Nat) : Int) := by rw [dSet_s]; exact d_inc hx (by omega)
  have e5 : ((dSet m 44 4 (m.1 44 4 + 1)).1 44 5).toInt = 0 := by rw [dSet_j (by decide)]; exact h0
  generalize dSet m 44 4 (m.1 44 4 + 1) = M at s1 e1 e5 ⊢
  have hVM := hV.s44 s1
  have hMM := hM.s44 s1
  have FM : MF m M := S44.mf (MF.rf m) s1
  generalize hR : mTell K V n s = R at hA hB
  have fin : ∀ (e e' : Nat) (r : Int32) (m' : dM), TO K V R e M r m' → e' + 1 = n' → K e' = 59 → e ≤ e' → (∀ j : Nat, e ≤ j → j < e' → K j ≠ 59) → (r = 0 ∨ r = 1) ∧ ((r.toInt = 0 → A m') ∧ (r.toInt ≠ 0 → c_X5_skipEnd_44 5 m' B)) := by
    intro e e' r m' ⟨t1, t2, t3⟩ he hke hee hj
    by_cases z : R.1.1 = 0
    · obtain ⟨u1, u2, u3, u4⟩ := t2 z
      refine ⟨Or.inr u1, fun q => by rw [u1] at q; exact absurd q (by decide), fun _ => ?_⟩
      refine Wp.deep (h_skip (e := e') (by omega) hke (hl.dn (by omega)) hee (hVM.mf t1) u2 hj (fun m2 a b c => hB z m2 (S44.mf (FM.tr t1) a) ?_ (by rw [c]; exact u3) (MS.s44 u4 a))) (Nat.le_of_ble_eq_true rfl)
      rw [b, he]
    · obtain ⟨u1, u2, u3, u4⟩ := t3 z
      exact ⟨Or.inl u1, fun _ => hA z m' (FM.tr t1) u2 u3 u4, fun q => by rw [u1] at q; exact absurd (by decide) q⟩
  have law : 3 ≤ K n ∧ K n ≤ 6 → ((((1 : Int32).toInt = 0 → A M) ∧ ((1 : Int32).toInt ≠ 0 → c_X5_skipEnd_44 5 M B))) := fun q => by
    have eT : gTell K s.1.length s.2.1.length s.2.2.1.length n = gLaw K n := by
      unfold gTell
      rw [if_neg (by omega), if_neg (by omega), if_neg (by omega), if_pos q]
    rw [eT] at hg
    obtain ⟨e, x1, x2, x3, x4⟩ := gLaw_z (K := K) (n := n) (by rw [hg])
    have en : e + 1 = n' := by rw [hg] at x1; exact (Prod.mk.inj x1).2.symm
    have eR : R = ((0, 0), s) := by
      rw [← hR]
      unfold mTell
      rw [if_neg (by omega), if_neg (by omega), if_neg (by omega), if_neg (by omega), if_neg (by omega), if_neg (by omega)]
    have := fin (n + 1) e 1 M ⟨MF.rf M, fun _ => ⟨rfl, e1, e5, by rw [eR]; exact hMM⟩, fun z => by rw [eR] at z; exact absurd rfl z⟩ en x3 x4.1 x4.2
    exact this.2
  have row : ∀ (ks : List Int), gTell K s.1.length s.2.1.length s.2.2.1.length n = rb (gst n) (gsq K ks) → n' = n + 1 + ks.length ∧ ∀ (i : Nat) (k : Int), ks[i]? = some k → K (n + 1 + i) = k ∧ n + 1 + i < 400 := fun ks eT => by
    rw [eT] at hg
    obtain ⟨a, b⟩ := grow_z (K := K) (ks := ks) (n := n) (by rw [hg])
    rw [hg] at a
    exact ⟨(Prod.mk.inj a).2, b⟩
  refine v_X5_takeTold_44 ⟨fun q => ?_, fun q => ?_, fun q => ?_, fun q => law (by omega), fun q => law (by omega), fun q => law (by omega), fun q => law (by omega), fun q => ?_, fun q => ?_, fun q => ?_, fun q => ?_⟩
  · have eT : gTell K s.1.length s.2.1.length s.2.2.1.length n = if 7 ≤ s.1.length then (2, n) else rb (gst n) (gsq K [22, 23, 59]) := by
      unfold gTell
      rw [if_pos (by omega)]
    have hc : ¬ 7 ≤ s.1.length := fun z => by
      rw [if_pos z, hg] at eT
      exact absurd (Prod.mk.inj eT).1 (by decide)
    rw [if_neg hc] at eT
    obtain ⟨a, b⟩ := row _ eT
    have a : n' = n + 4 := a
    have eR : R = mFlat V n s := by
      rw [← hR]
      unfold mTell
      rw [if_pos (by omega)]
    exact h_takeFlat hVM hMM e1 e5 (by omega) (by rw [← a]; exact hl) (b 0 22 rfl).1 (b 1 23 rfl).1 (by omega) (fun r m' ht => fin (n + 3) (n + 3) r m' (by rw [eR]; exact ht) (by omega) (b 2 59 rfl).1 (Nat.le_refl _) (fun j h1 h2 => by omega))
  · have eT : gTell K s.1.length s.2.1.length s.2.2.1.length n = if 10 ≤ s.2.1.length then (2, n) else rb (gst n) (gsq K [22, 22, 23, 59]) := by
      unfold gTell
      rw [if_neg (by omega), if_pos (by omega)]
    have hc : ¬ 10 ≤ s.2.1.length := fun z => by
      rw [if_pos z, hg] at eT
      exact absurd (Prod.mk.inj eT).1 (by decide)
    rw [if_neg hc] at eT
    obtain ⟨a, b⟩ := row _ eT
    have a : n' = n + 5 := a
    have eR : R = mWire V n s := by
      rw [← hR]
      unfold mTell
      rw [if_neg (by omega), if_pos (by omega)]
    exact h_takeWire hVM hMM e1 e5 (by omega) (by rw [← a]; exact hl) (b 0 22 rfl).1 (b 1 22 rfl).1 (b 2 23 rfl).1 (by omega) (fun r m' ht => fin (n + 4) (n + 4) r m' (by rw [eR]; exact ht) (by omega) (b 3 59 rfl).1 (Nat.le_refl _) (fun j h1 h2 => by omega))
  · have eT : gTell K s.1.length s.2.1.length s.2.2.1.length n = if 8 ≤ s.2.2.1.length then (2, n) else rb (gst n) (gsq K [22, 22, 23, 23, 23, 59]) := by
      unfold gTell
      rw [if_neg (by omega), if_neg (by omega), if_pos (by omega)]
    have hc : ¬ 8 ≤ s.2.2.1.length := fun z => by
      rw [if_pos z, hg] at eT
      exact absurd (Prod.mk.inj eT).1 (by decide)
    rw [if_neg hc] at eT
    obtain ⟨a, b⟩ := row _ eT
    have a : n' = n + 7 := a
    have eR : R = mUse V n s := by
      rw [← hR]
      unfold mTell
      rw [if_neg (by omega), if_neg (by omega), if_pos (by omega)]
    exact h_takeUse hVM hMM e1 e5 (by omega) (by rw [← a]; exact hl) (b 0 22 rfl).1 (b 1 22 rfl).1 (b 2 23 rfl).1 (b 3 23 rfl).1 (b 4 23 rfl).1 (by omega) (fun r m' ht => fin (n + 6) (n + 6) r m' (by rw [eR]; exact ht) (by omega) (b 5 59 rfl).1 (Nat.le_refl _) (fun j h1 h2 => by omega))
  · have eT : gTell K s.1.length s.2.1.length s.2.2.1.length n = rb (gst n) (gsq K [23, 23, 59]) := by
      unfold gTell
      rw [if_neg (by omega), if_neg (by omega), if_neg (by omega), if_neg (by omega), if_pos (by omega)]
    obtain ⟨a, b⟩ := row _ eT
    have a : n' = n + 4 := a
    have eR : R = bnd V (n + 1) 0 100 (bnd V (n + 2) 0 19 ((0, 0), (s.1, s.2.1, s.2.2.1, (some n, s.2.2.2.2))) s) s := by
      rw [← hR]
      unfold mTell
      rw [if_neg (by omega), if_neg (by omega), if_neg (by omega), if_pos (by omega)]
    exact h_takeSurge hVM hMM e1 e5 (by omega) (by rw [← a]; exact hl) (b 0 23 rfl).1 (b 1 23 rfl).1 (fun r m' ht => fin (n + 3) (n + 3) r m' (by rw [eR]; exact ht) (by omega) (b 2 59 rfl).1 (Nat.le_refl _) (fun j h1 h2 => by omega))
  · have eT : gTell K s.1.length s.2.1.length s.2.2.1.length n = rb (gst n) (gsq K [23, 59]) := by
      unfold gTell
      rw [if_neg (by omega), if_neg (by omega), if_neg (by omega), if_neg (by omega), if_neg (by omega), if_pos (by omega)]
    obtain ⟨a, b⟩ := row _ eT
    have a : n' = n + 3 := a
    have eR : R = bnd V (n + 1) 0 999 ((0, 0), (s.1, s.2.1, s.2.2.1, (s.2.2.2.1, some n, s.2.2.2.2.2))) s := by
      rw [← hR]
      unfold mTell
      rw [if_neg (by omega), if_neg (by omega), if_neg (by omega), if_neg (by omega), if_pos (by omega)]
    exact h_takeCoins hVM hMM e1 e5 (by omega) (by rw [← a]; exact hl) (b 0 23 rfl).1 (fun r m' ht => fin (n + 2) (n + 2) r m' (by rw [eR]; exact ht) (by omega) (b 1 59 rfl).1 (Nat.le_refl _) (fun j h1 h2 => by omega))
  · have eT : gTell K s.1.length s.2.1.length s.2.2.1.length n = rb (gst n) (gsq K [23, 59]) := by
      unfold gTell
      rw [if_neg (by omega), if_neg (by omega), if_neg (by omega), if_neg (by omega), if_neg (by omega), if_pos (by omega)]
    obtain ⟨a, b⟩ := row _ eT
    have a : n' = n + 3 := a
    have eR : R = bnd V (n + 1) 0 9999 ((0, 0), (s.1, s.2.1, s.2.2.1, (s.2.2.2.1, s.2.2.2.2.1, some n))) s := by
      rw [← hR]
      unfold mTell
      rw [if_neg (by omega), if_neg (by omega), if_neg (by omega), if_neg (by omega), if_neg (by omega), if_pos (by omega)]
    exact h_takeSeed hVM hMM e1 e5 (by omega) (by rw [← a]; exact hl) (b 0 23 rfl).1 (fun r m' ht => fin (n + 2) (n + 2) r m' (by rw [eR]; exact ht) (by omega) (b 1 59 rfl).1 (Nat.le_refl _) (fun j h1 h2 => by omega))
  · exfalso
    have eT : gTell K s.1.length s.2.1.length s.2.2.1.length n = (1, n) := by
      unfold gTell
      rw [if_neg (by omega), if_neg (by omega), if_neg (by omega), if_neg (by omega), if_neg (by omega), if_neg (by omega)]
    rw [eT] at hg
    exact absurd (Prod.mk.inj hg).1 (by decide)
/-- the lists grow as the counts of the grammar do -/
theorem mTell_len {s : mSt} {n : Nat} (h : (mTell K V n s).1.1 = 0) : (mTell K V n s).2.1.length = s.1.length + ct (K n) 0 ∧ (mTell K V n s).2.2.1.length = s.2.1.length + ct (K n) 1 ∧ (mTell K V n s).2.2.2.1.length = s.2.2.1.length + ct (K n) 2 := by
  have bz : ∀ (i : Nat) (lo hi : Int) (r : gR × mSt), (bnd V i lo hi r s).1.1 = 0 → bnd V i lo hi r s = r := fun i lo hi r h => by
    unfold bnd at h ⊢
    split at h
    · rw [if_pos (by assumption)]
    · exact absurd h (Nat.succ_ne_zero _)
  generalize hR : mTell K V n s = R at h ⊢
  unfold mTell at hR
  unfold ct
  by_cases k0 : K n = 0
  · rw [if_pos k0] at hR
    rw [if_pos k0, if_neg (by omega), if_neg (by omega)]
    unfold mFlat at hR
    cases hkn : knw V s (V (n + 1)) with
    | true => rw [hkn] at hR; rw [← hR] at h; exact absurd h (Nat.succ_ne_zero _)
    | false =>
      rw [hkn] at hR
      have hR : bnd V (n + 2) 0 9 ((0, 0), (s.1 ++ [n], s.2)) s = R := hR
      rw [← hR] at h
      rw [bz _ _ _ _ h] at hR
      rw [← hR]
      exact ⟨List.length_append, rfl, rfl⟩
  · rw [if_neg k0] at hR
    by_cases k1 : K n = 1
    · rw [if_pos k1] at hR
      rw [if_neg k0, if_pos k1, if_neg (by omega)]
      unfold mWire at hR
      split at hR
      · rw [← hR] at h; exact absurd h (Nat.succ_ne_zero _)
      · split at hR
        · rw [← hR] at h; exact absurd h (Nat.succ_ne_zero _)
        · split at hR
          · rw [← hR] at h; exact absurd h (Nat.succ_ne_zero _)
          · rw [← hR] at h
            rw [bz _ _ _ _ h] at hR
            rw [← hR]
            exact ⟨rfl, List.length_append, rfl⟩
    · rw [if_neg k1] at hR
      by_cases k2 : K n = 2
      · rw [if_pos k2] at hR
        rw [if_neg k0, if_neg k1, if_pos k2]
        unfold mUse at hR
        cases hkn : knw V s (V (n + 1)) with
        | true => rw [hkn] at hR; rw [← hR] at h; exact absurd h (Nat.succ_ne_zero _)
        | false =>
          rw [hkn, cond_false] at hR
          split at hR
          · rw [← hR] at h; exact absurd h (Nat.succ_ne_zero _)
          · rw [← hR] at h
            have h1 := bz _ _ _ _ h
            rw [h1] at h hR
            have h2 := bz _ _ _ _ h
            rw [h2] at h hR
            have h3 := bz _ _ _ _ h
            rw [h3] at hR
            rw [← hR]
            exact ⟨rfl, rfl, List.length_append⟩
      · rw [if_neg k2] at hR
        rw [if_neg k0, if_neg k1, if_neg k2]
        by_cases k7 : K n = 7
        · rw [if_pos k7] at hR
          rw [← hR] at h
          have h1 := bz _ _ _ _ h
          rw [h1] at h hR
          have h2 := bz _ _ _ _ h
          rw [h2] at hR
          rw [← hR]
          exact ⟨rfl, rfl, rfl⟩
        · rw [if_neg k7] at hR
          by_cases k8 : K n = 8
          · rw [if_pos k8] at hR
            rw [← hR] at h
            rw [bz _ _ _ _ h] at hR
            rw [← hR]
            exact ⟨rfl, rfl, rfl⟩
          · rw [if_neg k8] at hR
            by_cases k9 : K n = 9
            · rw [if_pos k9] at hR
              rw [← hR] at h
              rw [bz _ _ _ _ h] at hR
              rw [← hR]
              exact ⟨rfl, rfl, rfl⟩
            · rw [if_neg k9] at hR
              rw [← hR]
              exact ⟨rfl, rfl, rfl⟩
theorem h_check {m : dM} {Q : Int32 → dM → Prop} (hV : VM K V m) (hM : MS V mS0 m) {R : gR} (hG : gAll K 401 0 0 0 0 = R) (hR0 : R.1 = 0) (hR : R.2 ≤ 400) (hl : lvK K R.2) (hQ : ∀ (r : Int32) (m' : dM), MF m m' → r.toInt = ((mAll K V 401 0 mS0).1.1 : Int) → (m'.1 44 5).toInt = ((mAll K V 401 0 mS0).1.1 : Int) → ((mAll K V 401 0 mS0).1.1 ≠ 0 → (m'.1 44 4).toInt = ((mAll K V 401 0 mS0).1.2 : Int) ∧ (mAll K V 401 0 mS0).1.2 ≤ 400 ∧ lvK K (mAll K V 401 0 mS0).1.2) → ((mAll K V 401 0 mS0).1.1 = 0 → MS V (mAll K V 401 0 mS0).2 m') → Q r m') : c_X5_check_44 6 m Q := by
  generalize hA : mAll K V 401 0 mS0 = M at hQ
  have bad : ∀ (m' : dM), MF m m' → M.1.1 ≠ 0 → (m'.1 44 4).toInt = (M.1.2 : Int) → (m'.1 44 5).toInt = (M.1.1 : Int) → M.1.2 ≤ 400 ∧ lvK K M.1.2 → j_X5_check_44_82 6 m' Q := fun m' hF h a b c => v_X5_check_44_82 (hQ _ _ hF b b (fun _ => ⟨a, c⟩) (fun z => absurd z h))
  have badL : ∀ (i : Nat) (x1 : Int32) (m' : dM), x1.toInt = i → MF m m' → M.1.1 ≠ 0 → (m'.1 44 4).toInt = (M.1.2 : Int) → (m'.1 44 5).toInt = (M.1.1 : Int) → M.1.2 ≤ 400 ∧ lvK K M.1.2 → j_X5_check_44_12 6 x1 m' Q := fun i x1 m' hx hF h a b c => v_X5_check_44_12 ⟨fun _ => bad m' hF h a b c, fun _ => ⟨fun _ => bad m' hF h a b c, fun q => by exfalso; omega⟩⟩
  have loop : ∀ (f i n : Nat) (s : mSt) (x1 : Int32) (m' : dM), i + f = 401 → x1.toInt = i → i ≤ n → MF m m' → (m'.1 44 4).toInt = (n : Int) → (m'.1 44 5).toInt = 0 → MS V s m' → gAll K f s.1.length s.2.1.length s.2.2.1.length n = R → mAll K V f n s = M → j_X5_check_44_12 6 x1 m' Q := by
    intro f
    induction f with
    | zero =>
      intro i n s x1 m' hi hx hin hF h4 h5 hS hg hm
      have := gAll_le (K := K) 0 s.1.length s.2.1.length s.2.2.1.length n
      rw [hg] at this
      exfalso; omega
    | succ f ih =>
      intro i n s x1 m' hi hx hin hF h4 h5 hS hg hm
      have hle := gAll_le (K := K) (f + 1) s.1.length s.2.1.length s.2.2.1.length n
      rw [hg] at hle
      have hVm := hV.mf hF
      have hln := hl.dn hle
      refine v_X5_check_44_12 ⟨fun q => by exfalso; omega, fun _ => ⟨fun q => absurd h5 q, fun _ => Wp.deep (h_kindAt hVm h4 (by omega) hln (fun r hr => ⟨fun q => ?_, fun q => Wp.deep (h_kindAt hVm h4 (by omega) hln (fun r2 hr2 => ?_)) (Nat.le_of_ble_eq_true rfl)⟩)) (Nat.le_of_ble_eq_true rfl)⟩⟩
      · unfold mAll at hm
        rw [if_pos (by omega)] at hm
        rw [← hm] at hQ
        exact v_X5_check_44_82 (hQ _ _ hF h5 h5 (fun z => absurd rfl z) (fun _ => hS))
      · have hk : K n ≠ 24 := by omega
        unfold gAll at hg
        rw [if_neg hk] at hg
        unfold mAll at hm
        rw [if_neg hk] at hm
        have hz := rb_z (r := gTell K s.1.length s.2.1.length s.2.2.1.length n) (by rw [hg]; exact hR0)
        rw [hz.2] at hg
        generalize hgt : gTell K s.1.length s.2.1.length s.2.2.1.length n = g at hz hg hm
        obtain ⟨g1, n'⟩ := g
        have z1 : g1 = 0 := hz.1
        subst z1
        have hg : gAll K f (s.1.length + ct (K n) 0) (s.2.1.length + ct (K n) 1) (s.2.2.1.length + ct (K n) 2) n' = R := hg
        have hle2 := gAll_le (K := K) f (s.1.length + ct (K n) 0) (s.2.1.length + ct (K n) 1) (s.2.2.1.length + ct (K n) 2) n'
        rw [hg] at hle2
        have hlt : n < n' := by
          have := gTell_lt (K := K) (cf := s.1.length) (cw := s.2.1.length) (cu := s.2.2.1.length) (n := n) (by rw [hgt])
          rw [hgt] at this
          exact this
        refine h_one hVm hS h4 h5 hr2 hk hgt (by omega) (hl.dn hle2) (fun z m2 F2 a b c => ?_) (fun z m2 F2 a b c => ?_)
        · rw [mGo_f z] at hm
          rw [hm] at a b c z
          exact v_X5_check_44_76 (badL (i + 1) _ m2 (d_inc hx (by omega)) (hF.tr F2) z a b c)
        · rw [mGo_k z] at hm
          obtain ⟨l1, l2, l3⟩ := mTell_len z
          refine v_X5_check_44_76 (ih (i + 1) n' (mTell K V n s).2 _ m2 (by omega) (d_inc hx (by omega)) (by omega) (hF.tr F2) a b c ?_ hm)
          rw [l1, l2, l3]
          exact hg
  have s1 : S44 m (dSet (dSet m 44 4 (0 : Int32)) 44 5 (0 : Int32)) := ⟨fun k a => by rw [dSet_k a, dSet_k a], rfl⟩
  exact v_X5_check_44 (loop 401 0 0 mS0 _ _ rfl (by decide) (Nat.le_refl _) (S44.mf (MF.rf m) s1) (by rw [dSet_j (by decide), dSet_s]; decide) (by rw [dSet_s]; decide) (MS.s44 hM s1) hG hA)
end CMA
end
section
/-! THE CLASS's read, exactly: its fault and where -/
/-- laws alone have changed -/
def GG (mb m : dM) : Prop := (∀ k : Nat, (k < 29 ∨ k = 31 ∨ 36 < k) → m.1 k = mb.1 k) ∧ m.2 = mb.2 ∧ GL m
section CRE
variable {mb m : dM}
theorem GG.law {k j : Nat} {v : Int32} (h : GG mb m) (hk : k = 29 ∨ k = 30 ∨ (32 ≤ k ∧ k ≤ 36)) (hL : GL (dSet m k j v)) : GG mb (dSet m k j v) := ⟨fun a ha => by rw [dSet_k (by omega)]; exact h.1 a ha, h.2.1, hL⟩
theorem l_put {x1 : Int32} {Q : dM → Prop} (h : GG mb m) (hQ : ∀ m' : dM, GG mb m' → Q m') : c_X4_put_29 1 x1 m Q := by
  have hL := h.2.2
  have hb := hL.1
  refine v_X4_put_29 ⟨fun q => v_X4_put_29_32 (hQ _ h), fun q => ⟨by omega, v_X4_put_29_32 (hQ _ ?_)⟩⟩
  have h30 : GG mb (dSet m 30 (m.1 29 1).toNatClampNeg x1) := h.law (by decide) (by
    unfold GL
    rw [dSet_k (by decide), dSet_k (by decide)]
    exact hL)
  refine h30.law (by decide) ⟨?_, fun j => ?_⟩
  · rw [dSet_s]
    have := dAddE (X := (m.1 29 1).toInt) (Y := 1) (x := m.1 29 1) (y := (1 : Int32)) rfl (by decide) (by omega) (by omega)
    omega
  · rw [dSet_k (by decide), dSet_k (by decide)]
    exact hL.2 j
theorem l_begin {x1 : Int32} {Q : dM → Prop} (h : GG mb m) (hx : 0 ≤ x1.toInt ∧ x1.toInt < 4) (hQ : ∀ m' : dM, GG mb m' → Q m') : c_X4_begin_29 1 x1 m Q := by
  have hL := h.2.2
  have h36 : GG mb (dSet m 36 x1.toNatClampNeg (0 : Int32)) := h.law (by decide) ⟨by rw [dSet_k (by decide)]; exact hL.1, fun j => by
    rw [dSet_e]
    split
    · decide
    · exact hL.2 j⟩
  have go : ∀ k : Nat, 32 ≤ k → k ≤ 35 → GG mb (dSet (dSet m 36 x1.toNatClampNeg (0 : Int32)) k 0 (m.1 29 1)) := fun k h1 h2 => h36.law (by omega) (by
    have := h36.2.2
    unfold GL
    rw [dSet_k (show 29 ≠ k by omega), dSet_k (show 36 ≠ k by omega)]
    exact this)
  exact v_X4_begin_29 ⟨hx, hx, fun _ => hQ _ (go 32 (by decide) (by decide)), fun _ => hQ _ (go 33 (by decide) (by decide)), fun _ => hQ _ (go 34 (by decide) (by decide)), fun _ => hQ _ (go 35 (by decide) (by decide))⟩
theorem l_piece {x1 : Int32} {Q : dM → Prop} (h : GG mb m) (hx : 0 ≤ x1.toInt ∧ x1.toInt < 4) (hQ : ∀ m' : dM, GG mb m' → Q m') : c_X4_endPiece_29 1 x1 m Q := by
  have hL := h.2.2
  have hj := hL.2 x1.toNatClampNeg
  refine v_X4_endPiece_29 ⟨hx, fun q => v_X4_endPiece_29_38 (hQ _ h), fun q => ?_⟩
  have f1 := dAddE (X := (m.1 36 x1.toNatClampNeg).toInt) (Y := 1) (x := m.1 36 x1.toNatClampNeg) (y := (1 : Int32)) rfl (by decide) (by omega) (by omega)
  have h36 : GG mb (dSet m 36 x1.toNatClampNeg (m.1 36 x1.toNatClampNeg + 1)) := h.law (by decide) ⟨by rw [dSet_k (by decide)]; exact hL.1, fun j => by
    rw [dSet_e]
    split
    · omega
    · exact hL.2 j⟩
  have go : ∀ k j : Nat, 32 ≤ k → k ≤ 35 → GG mb (dSet (dSet m 36 x1.toNatClampNeg (m.1 36 x1.toNatClampNeg + 1)) k j (m.1 29 1)) := fun k j h1 h2 => h36.law (by omega) (by
    have := h36.2.2
    unfold GL
    rw [dSet_k (show 29 ≠ k by omega), dSet_k (show 36 ≠ k by omega)]
    exact this)
  have b14 : 0 ≤ (m.1 36 x1.toNatClampNeg + 1).toInt ∧ (m.1 36 x1.toNatClampNeg + 1).toInt < 14 := by omega
  exact ⟨hx, hx, hx, fun _ => ⟨hx, b14, v_X4_endPiece_29_38 (hQ _ (go 32 _ (by decide) (by decide)))⟩, fun _ => ⟨hx, b14, v_X4_endPiece_29_38 (hQ _ (go 33 _ (by decide) (by decide)))⟩, fun _ => ⟨hx, b14, v_X4_endPiece_29_38 (hQ _ (go 34 _ (by decide) (by decide)))⟩, fun _ => ⟨hx, b14, v_X4_endPiece_29_38 (hQ _ (go 35 _ (by decide) (by decide)))⟩⟩
theorem l_clear {Q : dM → Prop} (h : GL m) (hQ : ∀ m' : dM, GG m m' → Q m') : c_X4_clear_29 2 m Q := by
  have h0 : GG m (dSet m 29 1 (0 : Int32)) := GG.law ⟨fun _ _ => rfl, rfl, h⟩ (by decide) ⟨by rw [dSet_s]; decide, fun j => by rw [dSet_k (by decide)]; exact h.2 j⟩
  exact v_X4_clear_29 (l_begin h0 (by decide) (fun m1 h1 => l_put h1 (fun m2 h2 => l_put h2 (fun m3 h3 => l_put h3 (fun m4 h4 => l_piece h4 (by decide) (fun m5 h5 => l_begin h5 (by decide) (fun m6 h6 => l_put h6 (fun m7 h7 => l_piece h7 (by decide) (fun m8 h8 => l_begin h8 (by decide) (fun m9 h9 => l_put h9 (fun m10 h10 => l_piece h10 (by decide) (fun m11 h11 => l_begin h11 (by decide) (fun m12 h12 => l_put h12 (fun m13 h13 => l_piece h13 (by decide) (fun m14 h14 => hQ m14 h14)))))))))))))))
/-- an empty draft -/
theorem l_draft {Q : dM → Prop} (h : GL m) (hQ : ∀ m' : dM, (∀ k : Nat, (k < 20 ∨ (20 < k ∧ k < 29) ∨ k = 31 ∨ 36 < k) → m'.1 k = m.1 k) → m'.2 = m.2 → GL m' → (∀ V : Nat → Int64, MS V mS0 m') → Q m') : c_X3_clear_20 3 m Q := by
  refine v_X3_clear_20 (l_clear (m := dSet (dSet (dSet (dSet (dSet (dSet (dSet m 20 0 (0 : Int32)) 20 1 (0 : Int32)) 20 2 (0 : Int32)) 20 3 (0 : Int32)) 20 4 (0 : Int32)) 20 5 (100 : Int32)) 20 6 (0 : Int32)) ?_ (fun m' h' => hQ m' (fun k hk => ?_) h'.2.1 h'.2.2 (fun V => ?_)))
  · unfold GL
    rw [dSet_k (by decide), dSet_k (by decide), dSet_k (by decide), dSet_k (by decide), dSet_k (by decide), dSet_k (by decide), dSet_k (by decide), dSet_k (by decide), dSet_k (by decide), dSet_k (by decide), dSet_k (by decide), dSet_k (by decide), dSet_k (by decide), dSet_k (by decide)]
    exact h
  · rw [h'.1 k (by omega), dSet_k (by omega), dSet_k (by omega), dSet_k (by omega), dSet_k (by omega), dSet_k (by omega), dSet_k (by omega), dSet_k (by omega)]
  · have e20 := h'.1 20 (by omega)
    unfold MS
    rw [e20]
    exact ⟨⟨rfl, by decide⟩, ⟨rfl, by decide⟩, ⟨rfl, by decide⟩, fun i hi => absurd hi (Nat.not_lt_zero i), fun i hi => absurd hi (Nat.not_lt_zero i), fun i hi => absurd hi (Nat.not_lt_zero i), rfl, rfl, rfl, rfl⟩
theorem n_lcopy_27 {m0 : dM} {Q : dM → Prop} (hQ : ∀ m' : dM, (∀ k : Nat, (k < 11 ∨ 18 < k) → m'.1 k = m0.1 k) → m'.2 = m0.2 → Q m') : ∀ (f : Nat) (x2 : Int32) (m : dM), (∀ k : Nat, (k < 11 ∨ 18 < k) → m.1 k = m0.1 k) → m.2 = m0.2 → 0 ≤ x2.toInt ∧ x2.toInt ≤ 4 → 4 - x2.toInt < (f : Int) → j_X4_copy_11_29_27 1 x2 m Q := by
  intro f
  induction f with
  | zero => intro x2 m hF h2 hx hμ; exfalso; omega
  | succ f ih =>
    intro x2 m hF h2 hx hμ
    refine v_X4_copy_11_29_27 ?_
    refine ⟨fun hc => hQ _ hF h2, fun hc => ?_⟩
    have f1 := dAddE (X := x2.toInt) (Y := 1) (x := x2) (y := (1 : Int32)) rfl (by decide) (by omega) (by omega)
    have go : ∀ a b : Nat, (b = 14 ∨ b = 15 ∨ b = 16 ∨ b = 17) → j_X4_copy_11_29_27 1 (x2 + 1) (dCpy (dSet m 18 x2.toNatClampNeg (m.1 36 x2.toNatClampNeg)) a (0 : Int).toNat b (0 : Int).toNat (14 : Int).toNat) Q := fun a b hb => ih _ _ (fun k hk => by rw [dCpy_k (by omega), dSet_k (by omega)]; exact hF k hk) h2 (by omega) (by omega)
    refine ⟨by omega, ⟨by omega, ⟨by omega, ?_⟩⟩⟩
    refine ⟨fun _ => ⟨by omega, fun _ => ?_, fun _ => ?_, fun _ => ?_, fun _ => ?_⟩, fun _ => ⟨by omega, fun _ => ?_, fun _ => ?_, fun _ => ?_, fun _ => ?_⟩, fun _ => ⟨by omega, fun _ => ?_, fun _ => ?_, fun _ => ?_, fun _ => ?_⟩, fun _ => ⟨by omega, fun _ => ?_, fun _ => ?_, fun _ => ?_, fun _ => ?_⟩⟩
    all_goals exact go _ _ (by decide)
theorem n_copy {Q : dM → Prop} (hL : GL m) (hQ : ∀ m' : dM, (∀ k : Nat, (k < 2 ∨ 18 < k) → m'.1 k = m.1 k) → m'.2 = m.2 → (∀ j : Nat, j < 7 → m'.1 2 j = m.1 20 j) → Q m') : c_X3_copy_2_20 2 m Q := by
  refine v_X3_copy_2_20 ?_
  have e2 : ∀ j : Nat, j < 7 → (dSet (dSet (dSet (dSet (dSet (dSet (dSet m 2 0 (m.1 20 0)) 2 1 (m.1 20 1)) 2 2 (m.1 20 2)) 2 3 (m.1 20 3)) 2 4 (m.1 20 4)) 2 5 (m.1 20 5)) 2 6 (m.1 20 6)).1 2 j = m.1 20 j := fun j hj => by
    match j, hj with
    | 0, _ | 1, _ | 2, _ | 3, _ | 4, _ | 5, _ | 6, _ => rfl
    | j + 7, hj => omega
  have ek : ∀ k : Nat, k ≠ 2 → (dSet (dSet (dSet (dSet (dSet (dSet (dSet m 2 0 (m.1 20 0)) 2 1 (m.1 20 1)) 2 2 (m.1 20 2)) 2 3 (m.1 20 3)) 2 4 (m.1 20 4)) 2 5 (m.1 20 5)) 2 6 (m.1 20 6)).1 k = m.1 k := fun k hk => by rw [dSet_k hk, dSet_k hk, dSet_k hk, dSet_k hk, dSet_k hk, dSet_k hk, dSet_k hk]
  have e2' : (dSet (dSet (dSet (dSet (dSet (dSet (dSet m 2 0 (m.1 20 0)) 2 1 (m.1 20 1)) 2 2 (m.1 20 2)) 2 3 (m.1 20 3)) 2 4 (m.1 20 4)) 2 5 (m.1 20 5)) 2 6 (m.1 20 6)).2 = m.2 := rfl
  generalize dSet (dSet (dSet (dSet (dSet (dSet (dSet m 2 0 (m.1 20 0)) 2 1 (m.1 20 1)) 2 2 (m.1 20 2)) 2 3 (m.1 20 3)) 2 4 (m.1 20 4)) 2 5 (m.1 20 5)) 2 6 (m.1 20 6) = M at e2 ek e2' ⊢
  have ck : ∀ k : Nat, (k < 3 ∨ 10 < k) → (dCpy (dCpy (dCpy (dCpy (dCpy (dCpy (dCpy (dCpy M 21 (0 : Int).toNat 3 (0 : Int).toNat (7 : Int).toNat) 22 (0 : Int).toNat 4 (0 : Int).toNat (10 : Int).toNat) 23 (0 : Int).toNat 5 (0 : Int).toNat (10 : Int).toNat) 24 (0 : Int).toNat 6 (0 : Int).toNat (10 : Int).toNat) 25 (0 : Int).toNat 7 (0 : Int).toNat (8 : Int).toNat) 26 (0 : Int).toNat 8 (0 : Int).toNat (8 : Int).toNat) 27 (0 : Int).toNat 9 (0 : Int).toNat (8 : Int).toNat) 28 (0 : Int).toNat 10 (0 : Int).toNat (8 : Int).toNat).1 k = M.1 k := fun k hk => by rw [dCpy_k (by omega), dCpy_k (by omega), dCpy_k (by omega), dCpy_k (by omega), dCpy_k (by omega), dCpy_k (by omega), dCpy_k (by omega), dCpy_k (by omega)]
  have c2 : (dCpy (dCpy (dCpy (dCpy (dCpy (dCpy (dCpy (dCpy M 21 (0 : Int).toNat 3 (0 : Int).toNat (7 : Int).toNat) 22 (0 : Int).toNat 4 (0 : Int).toNat (10 : Int).toNat) 23 (0 : Int).toNat 5 (0 : Int).toNat (10 : Int).toNat) 24 (0 : Int).toNat 6 (0 : Int).toNat (10 : Int).toNat) 25 (0 : Int).toNat 7 (0 : Int).toNat (8 : Int).toNat) 26 (0 : Int).toNat 8 (0 : Int).toNat (8 : Int).toNat) 27 (0 : Int).toNat 9 (0 : Int).toNat (8 : Int).toNat) 28 (0 : Int).toNat 10 (0 : Int).toNat (8 : Int).toNat).2 = M.2 := rfl
  generalize dCpy (dCpy (dCpy (dCpy (dCpy (dCpy (dCpy (dCpy M 21 (0 : Int).toNat 3 (0 : Int).toNat (7 : Int).toNat) 22 (0 : Int).toNat 4 (0 : Int).toNat (10 : Int).toNat) 23 (0 : Int).toNat 5 (0 : Int).toNat (10 : Int).toNat) 24 (0 : Int).toNat 6 (0 : Int).toNat (10 : Int).toNat) 25 (0 : Int).toNat 7 (0 : Int).toNat (8 : Int).toNat) 26 (0 : Int).toNat 8 (0 : Int).toNat (8 : Int).toNat) 27 (0 : Int).toNat 9 (0 : Int).toNat (8 : Int).toNat) 28 (0 : Int).toNat 10 (0 : Int).toNat (8 : Int).toNat = N at ck c2 ⊢
  have b := hL.1
  have e29 : N.1 29 1 = m.1 29 1 := by rw [ck 29 (by omega), ek 29 (by decide)]
  refine v_X4_copy_11_29 ⟨by rw [e29]; omega, ?_⟩
  refine n_lcopy_27 (m0 := N) (fun m' hF h2 => hQ m' (fun k hk => ?_) (by rw [h2, c2, e2']) (fun j hj => ?_)) 6 _ _ (fun k hk => ?_) rfl (by decide) (by decide)
  · rw [hF k (by omega), ck k (by omega), ek k (by omega)]
  · rw [hF 2 (by omega), ck 2 (by omega)]; exact e2 j hj
  · rw [dSet_k (by omega), dCpy_k (by omega)]
theorem n_fill49 {x1 : Int32} {Q : dM → Prop} (hQ : ∀ m' : dM, (∀ k : Nat, k ≠ 49 → m'.1 k = m.1 k) → m'.2 = m.2 → Q m') : c_J7_fill_49 1 x1 m Q := by
  have loop : ∀ (f i : Nat) (x3 : Int32) (M : dM), i + f = 10 → x3.toInt = i → (∀ k : Nat, k ≠ 49 → M.1 k = m.1 k) → M.2 = m.2 → j_J7_fill_49_5 1 x1 x3 (10 : Int32) M Q := by
    intro f
    induction f with
    | zero => intro i x3 M hi h3 hF h2; exact v_J7_fill_49_5 ⟨fun _ => hQ M hF h2, fun q => by
      have e : (10 : Int32).toInt = 10 := by decide
      exfalso; omega⟩
    | succ f ih =>
      intro i x3 M hi h3 hF h2
      have e : (10 : Int32).toInt = 10 := by decide
      exact v_J7_fill_49_5 ⟨fun q => by exfalso; omega, fun _ => ⟨by omega, ih (i + 1) _ _ (by omega) (d_inc h3 (by omega)) (fun k hk => by rw [dSet_k hk]; exact hF k hk) h2⟩⟩
  exact v_J7_fill_49 (loop 10 0 _ m rfl (by decide) (fun _ _ => rfl) rfl)
theorem n_fill50 {x1 : Int32} {Q : dM → Prop} (hQ : ∀ m' : dM, (∀ k : Nat, k ≠ 50 → m'.1 k = m.1 k) → m'.2 = m.2 → Q m') : c_J7_fill_50 1 x1 m Q := by
  have loop : ∀ (f i : Nat) (x3 : Int32) (M : dM), i + f = 7 → x3.toInt = i → (∀ k : Nat, k ≠ 50 → M.1 k = m.1 k) → M.2 = m.2 → j_J7_fill_50_5 1 x1 x3 (7 : Int32) M Q := by
    intro f
    induction f with
    | zero => intro i x3 M hi h3 hF h2; exact v_J7_fill_50_5 ⟨fun _ => hQ M hF h2, fun q => by
      have e : (7 : Int32).toInt = 7 := by decide
      exfalso; omega⟩
    | succ f ih =>
      intro i x3 M hi h3 hF h2
      have e : (7 : Int32).toInt = 7 := by decide
      exact v_J7_fill_50_5 ⟨fun q => by exfalso; omega, fun _ => ⟨by omega, ih (i + 1) _ _ (by omega) (d_inc h3 (by omega)) (fun k hk => by rw [dSet_k hk]; exact hF k hk) h2⟩⟩
  exact v_J7_fill_50 (loop 7 0 _ m rfl (by decide) (fun _ _ => rfl) rfl)
theorem n_begin {Q : dM → Prop} (hQ : ∀ m' : dM, (∀ k : Nat, (k < 47 ∨ 50 < k) → m'.1 k = m.1 k) → m'.2 = m.2 → Q m') : c_X7_begin_47_2 2 m Q := by
  refine v_X7_begin_47_2 (n_fill49 (fun m1 h1 e1 => n_fill50 (fun m2 h2 e2 => hQ m2 (fun k hk => ?_) (by rw [e2, e1]; rfl))))
  rw [h2 k (by omega), h1 k (by omega), dCpy_k (by omega), dSet_k (by omega), dSet_k (by omega), dSet_k (by omega), dSet_k (by omega), dSet_k (by omega), dSet_k (by omega)]
end CRE
end
section
/-! THE CLASS's read, exactly, 2 -/
/-- a text's fault and where; what it tells -/
def rdR (K : Nat → Int) (V : Nat → Int64) : gR × mSt := if (gAll K 401 0 0 0 0).1 = 0 then mAll K V 401 0 mS0 else (gAll K 401 0 0 0 0, mS0)
def RD (B : Nat → Int32) (n : Nat) (r : Int32) (m m' : dM) : Prop :=
  (∀ k : Nat, 70 ≤ k → m'.1 k = m.1 k) ∧ m'.1 0 1 = 0 ∧ r.toInt = ((rdR (tK B n) (tV B n)).1.1 : Int) ∧ (m'.1 0 2).toInt = (if (rdR (tK B n) (tV B n)).1.1 = 0 then -1 else ((tP B n (rdR (tK B n) (tV B n)).1.2 : Nat) : Int)) ∧
  ((rdR (tK B n) (tV B n)).1.1 = 0 → (m'.1 2 0).toInt = ((rdR (tK B n) (tV B n)).2.1.length : Int) ∧ m'.1 51 4 = 0 ∧ m'.1 67 3 = 0) ∧ ((rdR (tK B n) (tV B n)).1.1 ≠ 0 → m'.1 2 0 = m.1 2 0 ∧ m'.1 51 4 = m.1 51 4 ∧ m'.1 67 3 = m.1 67 3)
theorem MS.of20 {V : Nat → Int64} {m m' : dM} (h : MS V mS0 m) (e : m'.1 20 = m.1 20) : MS V mS0 m' := by
  obtain ⟨a1, a2, a3, a4, a5, a6, a7⟩ := h
  unfold MS
  rw [e]
  exact ⟨a1, a2, a3, fun i hi => absurd hi (Nat.not_lt_zero i), fun i hi => absurd hi (Nat.not_lt_zero i), fun i hi => absurd hi (Nat.not_lt_zero i), a7⟩
theorem f_read {m : dM} {B : Nat → Int32} {n : Nat} {Q : Int32 → dM → Prop} (hL : GL m) (hn : (m.1 0 1).toInt = (n : Int)) (h2000 : n ≤ 2000) (hB : ∀ i : Nat, B i = if i < n then (m.1 1 i) &&& 255 else 0) (hQ : ∀ (r : Int32) (m' : dM), RD B n r m m' → Q r m') : c_X11_read_0 70 m Q := by
  refine v_X11_read_0 (Wp.deep (f_scan hn h2000 hB (fun m1 e1 l1 e38 hT => ?_)) (Nat.le_of_ble_eq_true rfl))
  have gL1 : GL (dSet m1 0 1 (0 : Int32)) := by
    unfold GL
    rw [dSet_k (by decide), dSet_k (by decide), e1 29 (by decide) (by decide) (by decide), e1 36 (by decide) (by decide) (by decide)]
    exact hL
  refine Wp.deep (l_draft gL1 (fun m2 e2 p2 gL2 hM2 => ?_)) (Nat.le_of_ble_eq_true rfl)
  have f2 : ∀ k : Nat, k ≠ 0 → (k < 20 ∨ (20 < k ∧ k < 29) ∨ k = 31 ∨ 36 < k) → m2.1 k = m1.1 k := fun k h0 hk => by rw [e2 k hk, dSet_k h0]
  have hK2 : KM (tK B n) m2 := fun i h1 h2 => by
    rw [f2 39 (by decide) (by omega)]
    exact (hT i h1 h2).1
  have hV2 : VM (tK B n) (tV B n) m2 := fun i h1 h2 => by
    refine ⟨hK2 i h1 h2, fun hk => ?_⟩
    have : m2.2.1 41 = m1.2.1 41 := by rw [p2]; rfl
    rw [this]
    exact (hT i h1 h2).2.2 hk
  have hP2 : ∀ i : Nat, i ≤ 400 → lvK (tK B n) i → (m2.1 40 i).toInt = ((tP B n i : Nat) : Int) := fun i h1 h2 => by
    rw [f2 40 (by decide) (by omega)]
    exact (hT i h1 h2).2.1
  refine Wp.deep (k_check hK2 gL2 (fun r3 m3 F3 gL3 hr3 n3 c3 hl3 => ?_)) (Nat.le_of_ble_eq_true rfl)
  -- frames up to here
  have f3 : ∀ k : Nat, (2 ≤ k ∧ k < 20) ∨ 43 < k → m3.1 k = m.1 k := fun k hk => by
    rw [F3.1 k (by omega), f2 k (by omega) (by omega), e1 k (by omega) (by omega) (by omega)]
  have t3 : m3.1 0 1 = 0 := by rw [F3.1 0 (by omega), e2 0 (by omega)]; rfl
  generalize hG : gAll (tK B n) 401 0 0 0 0 = G at hr3 n3 c3 hl3
  have fin : ∀ (r : Int32) (m' : dM), RD B n r m m' → j_X11_read_0_123 70 r m' Q := fun r m' h => v_X11_read_0_123 (hQ r m' h)
  refine v_X2_faultAt_43 ⟨fun z => Wp.deep (h_placeAt n3 hl3.1 ?_) (Nat.le_of_ble_eq_true rfl), fun z => ?_⟩
  · have zG : G.1 ≠ 0 := by omega
    have eR : rdR (tK B n) (tV B n) = (G, mS0) := by
      unfold rdR
      rw [hG, if_neg zG]
    refine ⟨fun _ => v_X11_read_0_69 ⟨fun _ => fin _ _ ?_, fun q => by exfalso; omega⟩, fun q => by exfalso; omega⟩
    unfold RD
    rw [eR]
    refine ⟨fun k hk => ?_, by rw [dSet_j (by decide)]; exact t3, hr3, ?_, fun q => absurd q zG, fun _ => ⟨?_, ?_, ?_⟩⟩
    · rw [dSet_k (by omega)]; exact f3 k (by omega)
    · rw [dSet_s, if_neg zG, F3.1 40 (by omega)]
      exact hP2 _ hl3.1 hl3.2
    · rw [dSet_k (by decide), f3 2 (by omega)]
    · rw [dSet_k (by decide), f3 51 (by omega)]
    · rw [dSet_k (by decide), f3 67 (by omega)]
  · have zG : G.1 = 0 := by omega
    have eR : rdR (tK B n) (tV B n) = mAll (tK B n) (tV B n) 401 0 mS0 := by
      unfold rdR
      rw [hG, if_pos zG]
    refine ⟨fun q => by exfalso; omega, fun _ => ?_⟩
    have fM : ∀ k : Nat, k ≠ 0 → (dSet m3 0 2 (-1 : Int32)).1 k = m3.1 k := fun k hk => dSet_k hk
    have tM : (dSet m3 0 2 (-1 : Int32)).1 0 1 = 0 := by rw [dSet_j (by decide)]; exact t3
    have lM : (dSet m3 0 2 (-1 : Int32)).2 = m3.2 := rfl
    generalize dSet m3 0 2 (-1 : Int32) = M at fM tM lM ⊢
    have hVM : VM (tK B n) (tV B n) M := hV2.of (by rw [fM 39 (by decide), F3.1 39 (by omega)]) (by rw [lM, F3.2.1])
    have hMM : MS (tV B n) mS0 M := (hM2 (tV B n)).of20 (by rw [fM 20 (by decide), F3.1 20 (by omega)])
    refine Wp.deep (h_check hVM hMM hG zG hl3.1 hl3.2 (fun r5 m5 F5 hr5 c5 bad5 ok5 => ?_)) (Nat.le_of_ble_eq_true rfl)
    rw [← eR] at hr5 c5 bad5 ok5
    have f5 : ∀ k : Nat, (2 ≤ k ∧ k < 20) ∨ 44 < k → m5.1 k = m.1 k := fun k hk => by
      rw [F5.1 k (by omega), fM k (by omega), f3 k (by omega)]
    have t5 : m5.1 0 1 = 0 := by rw [F5.1 0 (by omega)]; exact tM
    refine v_X5_faultAt_44 ⟨fun z5 => ?_, fun z5 => ?_⟩
    · have zR : (rdR (tK B n) (tV B n)).1.1 ≠ 0 := by omega
      obtain ⟨b1, b2, b3⟩ := bad5 zR
      refine Wp.deep (h_placeAt b1 b2 ?_) (Nat.le_of_ble_eq_true rfl)
      refine v_X11_read_0_69 ⟨fun _ => fin _ _ ?_, fun q => by exfalso; omega⟩
      refine ⟨fun k hk => ?_, by rw [dSet_j (by decide)]; exact t5, hr5, ?_, fun q => absurd q zR, fun _ => ⟨?_, ?_, ?_⟩⟩
      · rw [dSet_k (by omega)]; exact f5 k (by omega)
      · rw [dSet_s, if_neg zR, F5.1 40 (by omega), fM 40 (by decide), F3.1 40 (by omega)]
        exact hP2 _ b2 b3
      · rw [dSet_k (by decide), f5 2 (by omega)]
      · rw [dSet_k (by decide), f5 51 (by omega)]
      · rw [dSet_k (by decide), f5 67 (by omega)]
    · have zR : (rdR (tK B n) (tV B n)).1.1 = 0 := by omega
      have hS := ok5 zR
      refine v_X11_read_0_69 ⟨fun q => by exfalso; omega, fun _ => ?_⟩
      have gL5 : GL (dSet m5 0 2 (-1 : Int32)) := by
        unfold GL
        rw [dSet_k (by decide), dSet_k (by decide), F5.1 29 (by omega), F5.1 36 (by omega), fM 29 (by decide), fM 36 (by decide)]
        exact gL3
      refine Wp.deep (n_copy gL5 (fun m6 e6 l6 c6 => ?_)) (Nat.le_of_ble_eq_true rfl)
      refine v_X0_houseIsNew_54 (v_X10_houseIsNew_57 ?_)
      refine Wp.deep (n_begin (fun m7 e7 l7 => v_X6_clear_51 (v_X6_clearSlots_51 (v_X9_clear_67 (fin _ _ ?_))))) (Nat.le_of_ble_eq_true rfl)
      have k7 : ∀ k : Nat, k ≠ 57 → (k < 2 ∨ 50 < k) → m7.1 k = (dSet m5 0 2 (-1 : Int32)).1 k := fun k h1 hk => by rw [e7 k (by omega), dSet_k h1, e6 k (by omega)]
      refine ⟨fun k hk => ?_, ?_, hr5, ?_, fun _ => ⟨?_, rfl, rfl⟩, fun q => absurd zR q⟩
      · rw [dSet_k (by omega), dSet_k (by omega), dSet_k (by omega), dSet_k (by omega), k7 k (by omega) (by omega), dSet_k (by omega)]
        exact f5 k (by omega)
      · rw [dSet_k (by decide), dSet_k (by decide), dSet_k (by decide), dSet_k (by decide), k7 0 (by decide) (by omega), dSet_j (by decide)]
        exact t5
      · rw [dSet_k (by decide), dSet_k (by decide), dSet_k (by decide), dSet_k (by decide), k7 0 (by decide) (by omega), dSet_s, if_pos zR]
        decide
      · rw [dSet_k (by decide), dSet_k (by decide), dSet_k (by decide), dSet_k (by decide), e7 2 (by omega), dSet_k (by decide), c6 0 (by decide), dSet_k (by decide)]
        exact hS.1.1
end
section
/-! THE REFERENCE's parser, exactly: its pieces -/
def vk (c : Int) : Prop := (0 ≤ c ∧ c ≤ 25) ∨ c = 40 ∨ c = 41 ∨ c = 42 ∨ c = 43 ∨ c = 45 ∨ c = 47 ∨ c = 59 ∨ c = 60 ∨ c = 61
def kr (x : Int) : Int := if 20 ≤ x then x - 20 else if x = 1 then 22 else if x = 2 then 23 else if x = 0 then 24 else if x = 3 then 25 else if x = 4 then 59 else if x = 5 then 61 else if x = 6 then 40 else if x = 7 then 41 else if x = 8 then 43 else if x = 9 then 45 else if x = 10 then 42 else if x = 13 then 60 else 47
theorem vk_cs {c : Int} (h : vk c) : (0 ≤ c ∧ c ≤ 21) ∨ c = 22 ∨ c = 23 ∨ c = 24 ∨ c = 25 ∨ c = 40 ∨ c = 41 ∨ c = 42 ∨ c = 43 ∨ c = 45 ∨ c = 47 ∨ c = 59 ∨ c = 60 ∨ c = 61 := by
  unfold vk at h
  rcases h with h | h | h | h | h | h | h | h | h | h <;> omega
theorem kr_rk {c : Int} (h : vk c) : kr (rk c) = c := by
  rcases vk_cs h with q | rfl | rfl | rfl | rfl | rfl | rfl | rfl | rfl | rfl | rfl | rfl | rfl | rfl
  · unfold rk
    rw [if_pos (by omega)]
    unfold kr
    rw [if_pos (by omega)]
    omega
  all_goals decide
theorem rk_inj {a b : Int} (ha : vk a) (hb : vk b) : rk a = rk b ↔ a = b := ⟨fun e => by rw [← kr_rk ha, e, kr_rk hb], fun e => by rw [e]⟩
theorem rk_rg {c : Int} (h : vk c) : ((20 ≤ rk c ∧ rk c ≤ 41) → (0 ≤ c ∧ c ≤ 21)) ∧ (0 ≤ c ∧ c ≤ 21 → rk c = 20 + c) ∧ (0 ≤ rk c ∧ rk c ≤ 41) := by
  rcases vk_cs h with q | rfl | rfl | rfl | rfl | rfl | rfl | rfl | rfl | rfl | rfl | rfl | rfl | rfl
  · have e : rk c = 20 + c := by unfold rk; rw [if_pos (by omega)]
    rw [e]
    exact ⟨fun _ => q, fun _ => rfl, by omega⟩
  all_goals decide
def plc (m : dM) : Int := (m.1 70 14).toInt
def Cx (m m' : dM) : Prop := (∀ k : Nat, k ≠ 70 → m'.1 k = m.1 k) ∧ (∀ j : Nat, j ≠ 11 → j ≠ 13 → j ≠ 14 → j ≠ 15 → j ≠ 16 → m'.1 70 j = m.1 70 j) ∧ m'.2 = m.2
theorem Cx.rf (m : dM) : Cx m m := ⟨fun _ _ => rfl, fun _ _ _ _ _ _ => rfl, rfl⟩
theorem Cx.tr {a b c : dM} (h : Cx a b) (h' : Cx b c) : Cx a c := ⟨fun k q => (h'.1 k q).trans (h.1 k q), fun j a1 a2 a3 a4 a5 => (h'.2.1 j a1 a2 a3 a4 a5).trans (h.2.1 j a1 a2 a3 a4 a5), h'.2.2.trans h.2.2⟩
def RM (K : Nat → Int) (V : Nat → Int64) (P : Nat → Nat) (m : dM) : Prop := ∀ i : Nat, i ≤ 400 → lvK K i → (m.1 73 i).toInt = rk (K i) ∧ (m.1 74 i).toInt = (P i : Int) ∧ (K i ≤ 22 → m.2.1 76 i = V i) ∧ (K i = 23 → m.1 75 i = (V i).toInt32)
def WR (P : Nat → Nat) (m : dM) (W : gR) : Prop := (m.1 70 15).toInt = (W.1 : Int) ∧ (W.1 ≠ 0 → (m.1 70 16).toInt = (P W.2 : Int))
/-- where the reader stands: no fault, and at which token; or its fault and where -/
def ST (K : Nat → Int) (P : Nat → Nat) (m : dM) (r W : gR) : Prop := (r.1 = 0 → flt m = 0 ∧ tt m = (r.2 : Int) ∧ r.2 ≤ 400 ∧ lvK K r.2 ∧ WR P m W) ∧ (r.1 ≠ 0 → flt m = (r.1 : Int) ∧ plc m = (P r.2 : Int)) ∧ (0 ≤ tt m ∧ tt m ≤ 400)
def wadd (W w : gR) : gR := if W.1 = 0 then w else W
section RPR
variable {K : Nat → Int} {V : Nat → Int64} {P : Nat → Nat} {m : dM} {r W : gR}
theorem RM.cx {m' : dM} (h : RM K V P m) (hc : Cx m m') : RM K V P m' := fun i a b => by rw [hc.1 73 (by decide), hc.1 74 (by decide), hc.1 75 (by decide), hc.2.2]; exact h i a b
theorem RM.of {m' : dM} (h : RM K V P m) (h1 : ∀ k : Nat, 73 ≤ k → k ≤ 75 → m'.1 k = m.1 k) (h2 : m'.2.1 76 = m.2.1 76) : RM K V P m' := fun i a b => by rw [h1 73 (by decide) (by decide), h1 74 (by decide) (by decide), h1 75 (by decide) (by decide), h2]; exact h i a b
theorem WR.of {m' : dM} (h : WR P m W) (h15 : m'.1 70 15 = m.1 70 15) (h16 : m'.1 70 16 = m.1 70 16) : WR P m' W := by unfold WR; rw [h15, h16]; exact h
theorem ST.of {m' : dM} (h : ST K P m r W) (h11 : m'.1 70 11 = m.1 70 11) (h13 : m'.1 70 13 = m.1 70 13) (h14 : m'.1 70 14 = m.1 70 14) (h15 : m'.1 70 15 = m.1 70 15) (h16 : m'.1 70 16 = m.1 70 16) : ST K P m' r W := by
  unfold ST WR flt tt plc
  rw [h11, h13, h14, h15, h16]
  exact h
/-- not by what it holds of the control fields -/
theorem ST.k {k j : Nat} {v : Int32} (h : ST K P m r W) (hk : k ≠ 70) : ST K P (dSet m k j v) r W := h.of (by rw [dSet_k (fun e => hk e.symm)]) (by rw [dSet_k (fun e => hk e.symm)]) (by rw [dSet_k (fun e => hk e.symm)]) (by rw [dSet_k (fun e => hk e.symm)]) (by rw [dSet_k (fun e => hk e.symm)])
theorem ST.j {j : Nat} {v : Int32} (h : ST K P m r W) (hj : j ≠ 11 ∧ j ≠ 13 ∧ j ≠ 14 ∧ j ≠ 15 ∧ j ≠ 16) : ST K P (dSet m 70 j v) r W := h.of (dSet_j (fun e => hj.1 e.symm)) (dSet_j (fun e => hj.2.1 e.symm)) (dSet_j (fun e => hj.2.2.1 e.symm)) (dSet_j (fun e => hj.2.2.2.1 e.symm)) (dSet_j (fun e => hj.2.2.2.2 e.symm))
theorem ST.W' {W' : gR} (h : ST K P m r W) (hr : r.1 ≠ 0) : ST K P m r W' := ⟨fun z => absurd z hr, h.2.1, h.2.2⟩
theorem ST.fl (h : ST K P m r W) : 0 ≤ flt m ∧ (flt m = 0 ↔ r.1 = 0) := by
  by_cases z : r.1 = 0
  · have := (h.1 z).1; exact ⟨by omega, by omega⟩
  · have := (h.2.1 z).1; exact ⟨by omega, by omega⟩
theorem q_fail {x1 : Int32} {c : Nat} {Q : dM → Prop} (hR : RM K V P m) (h : ST K P m r W) (hx : x1.toInt = c) (hc : c ≠ 0) (hQ : ∀ m' : dM, Cx m m' → tt m' = tt m → ST K P m' (if r.1 = 0 then (c, r.2) else r) W → Q m') : c_X12_fail_70 1 x1 m Q := by
  have hf := h.fl
  have ht := h.2.2
  have et : (m.1 70 11).toInt = tt m := rfl
  have ef : (m.1 70 13).toInt = flt m := rfl
  refine v_X12_fail_70 ⟨fun q => ⟨by omega, ?_⟩, fun q => ?_⟩
  · have z : r.1 = 0 := hf.2.mp (by omega)
    obtain ⟨a1, a2, a3, a4, a5⟩ := h.1 z
    refine hQ _ ⟨fun k hk => by rw [dSet_k hk, dSet_k hk], fun j b1 b2 b3 b4 b5 => by rw [dSet_j b3, dSet_j b2], rfl⟩ rfl ?_
    rw [if_pos z]
    refine ⟨fun q => absurd q hc, fun _ => ⟨hx, ?_⟩, ht⟩
    show (m.1 74 (m.1 70 11).toNatClampNeg).toInt = (P r.2 : Int)
    rw [d_cn (show (m.1 70 11).toInt = (r.2 : Int) from a2)]
    exact (hR r.2 a3 a4).2.1
  · have z : r.1 ≠ 0 := fun z => by have := hf.2.mpr z; omega
    refine hQ m (Cx.rf m) rfl ?_
    rw [if_neg z]
    exact h
theorem q_goesOn {Q : dM → Prop} (hR : RM K V P m) (h : ST K P m r W) (hk : r.1 = 0 → K r.2 ≠ 24 ∧ K r.2 ≠ 25) (hQ : ∀ m' : dM, Cx m m' → ST K P m' (rb r gst) W → Q m') : c_X12_goesOn_70 2 m Q := by
  have ht := h.2.2
  have et : (m.1 70 11).toInt = tt m := rfl
  refine v_X12_goesOn_70 ⟨fun q => v_X12_goesOn_70_28 (hQ _ ⟨fun k hk => dSet_k hk, fun j b1 b2 b3 b4 b5 => dSet_j b1, rfl⟩ ?_), fun q => q_fail hR h (c := 2) (by decide) (by decide) (fun m' hc ht' h' => v_X12_goesOn_70_28 (hQ m' hc ?_))⟩
  · have f := dAddE (X := tt m) (Y := 1) (x := m.1 70 11) (y := (1 : Int32)) rfl (by decide) (by omega) (by omega)
    have e1 : tt (dSet m 70 11 (m.1 70 11 + 1)) = tt m + 1 := f
    by_cases z : r.1 = 0
    · obtain ⟨a1, a2, a3, a4, a5⟩ := h.1 z
      rw [rb_k z]
      unfold gst
      rw [if_neg (by omega)]
      exact ⟨fun _ => ⟨a1, by show tt (dSet m 70 11 (m.1 70 11 + 1)) = ((r.2 + 1 : Nat) : Int); omega, by show r.2 + 1 ≤ 400; omega, a4.up (hk z), a5⟩, fun q => absurd rfl q, by omega⟩
    · rw [rb_f z]
      exact ⟨fun q => absurd q z, fun _ => h.2.1 z, by omega⟩
  · by_cases z : r.1 = 0
    · obtain ⟨a1, a2, a3, a4, a5⟩ := h.1 z
      rw [rb_k z]
      unfold gst
      rw [if_pos (by omega)]
      rw [if_pos z] at h'
      exact h'
    · rw [rb_f z]
      rw [if_neg z] at h'
      exact h'
theorem q_is {x1 : Int32} {k : Int} {Q : Int32 → dM → Prop} (hv : ∀ i, vk (K i)) (hR : RM K V P m) (h : ST K P m r W) (hx : x1.toInt = rk k) (hk : vk k) (h1 : r.1 = 0 → K r.2 = k → Q 1 m) (h0 : ¬ (r.1 = 0 ∧ K r.2 = k) → Q 0 m) : c_X12_is_70 1 x1 m Q := by
  have hf := h.fl
  refine p_is h.2.2 (fun a b => ?_) (fun a => h0 (fun ⟨z, b⟩ => ?_))
  · have z := hf.2.mp a
    obtain ⟨a1, a2, a3, a4, a5⟩ := h.1 z
    refine h1 z ((rk_inj (hv r.2) hk).mp ?_)
    rw [d_cn (show (m.1 70 11).toInt = (r.2 : Int) from a2), (hR r.2 a3 a4).1, hx] at b
    exact b
  · obtain ⟨a1, a2, a3, a4, a5⟩ := h.1 z
    refine a ⟨a1, ?_⟩
    rw [d_cn (show (m.1 70 11).toInt = (r.2 : Int) from a2), (hR r.2 a3 a4).1, hx, b]
theorem q_must {x1 : Int32} {k : Int} {Q : dM → Prop} (hv : ∀ i, vk (K i)) (hR : RM K V P m) (h : ST K P m r W) (hx : x1.toInt = rk k) (hk : vk k) (hk2 : k ≠ 24 ∧ k ≠ 25) (hQ : ∀ m' : dM, Cx m m' → ST K P m' (rb r (gnd K k)) W → Q m') : c_X12_must_70 3 x1 m Q := by
  refine v_X12_must_70 (Wp.deep (q_is hv hR h hx hk (fun z a => ⟨fun q => absurd q (by decide), fun _ => q_goesOn hR h (fun _ => by rw [a]; exact hk2) (fun m' hc h' => v_X12_must_70_20 (hQ m' hc ?_))⟩) (fun a => ⟨fun _ => Wp.deep (q_fail hR h (c := 1) (by decide) (by decide) (fun m' hc _ h' => v_X12_must_70_20 (hQ m' hc ?_))) (Nat.le_of_ble_eq_true rfl), fun q => absurd rfl q⟩)) (Nat.le_of_ble_eq_true rfl))
  · rw [rb_k z] at h' ⊢
    unfold gnd
    rw [if_pos a]
    exact h'
  · by_cases z : r.1 = 0
    · rw [rb_k z]
      rw [if_pos z] at h'
      unfold gnd
      rw [if_neg (fun q => a ⟨z, q⟩)]
      exact h'
    · rw [rb_f z]
      rw [if_neg z] at h'
      exact h'
theorem q_roomFor {x1 x2 : Int32} {c most n : Nat} {Q : dM → Prop} (hR : RM K V P m) (h : ST K P m (0, n) W) (hk : K n ≠ 24 ∧ K n ≠ 25) (h1 : x1.toInt = c) (h2 : x2.toInt = most) (hc : c ≤ most) (hQ : ∀ m' : dM, Cx m m' → ST K P m' (if most ≤ c then (2, n) else gst n) W → Q m') : c_X12_roomFor_70 3 x1 x2 m Q := by
  have l10 : ∀ (m' : dM) (g : gR), Cx m m' → ST K P m' g W → (g.1 = 0 → g = (0, n) ∧ ¬ most ≤ c) → (g.1 ≠ 0 → g = (2, n) ∧ most ≤ c) → j_X12_roomFor_70_10 3 m' Q := fun m' g hc' h' g0 g1 => by
    have hf := h'.fl
    refine v_X12_roomFor_70_10 ⟨fun q => v_X12_roomFor_70_21 (hQ m' hc' ?_), fun q => ?_⟩
    · have z : g.1 ≠ 0 := fun z => q (hf.2.mpr z)
      rw [if_pos (g1 z).2, ← (g1 z).1]
      exact h'
    · have z : g.1 = 0 := hf.2.mp q
      obtain ⟨e, e2⟩ := g0 z
      rw [e] at h'
      refine q_goesOn (hR.cx hc') h' (fun _ => hk) (fun m2 hc2 h2' => v_X12_roomFor_70_21 (hQ m2 (hc'.tr hc2) ?_))
      rw [if_neg e2]
      exact h2'
  refine v_X12_roomFor_70 ⟨fun q => l10 m (0, n) (Cx.rf m) h (fun _ => ⟨rfl, by omega⟩) (fun z => absurd rfl z), fun q => Wp.deep (q_fail hR h (c := 2) (by decide) (by decide) (fun m' hc' _ h' => l10 m' (2, n) hc' h' (fun z => absurd z (Nat.succ_ne_zero 1)) (fun _ => ⟨rfl, by omega⟩))) (Nat.le_of_ble_eq_true rfl)⟩
theorem q_wrong {x1 x2 : Int32} {c tok : Nat} {Q : dM → Prop} (hP : ∀ i j : Nat, i < j → lvK K j → P i < P j) (hR : RM K V P m) (h : ST K P m r W) (h1 : x1.toInt = c) (hc : c ≠ 0) (h2 : x2.toInt = tok) (ht : tok ≤ 400) (hl : r.1 = 0 → lvK K tok) (hW : r.1 = 0 → W.1 ≠ 0 → W.2 < tok ∨ (W.2 = tok ∧ W.1 ≤ c)) (hQ : ∀ m' : dM, Cx m m' → tt m' = tt m → ST K P m' r (wadd W (c, tok)) → Q m') : c_X12_wrong_70 1 x1 x2 m Q := by
  have hf := h.fl
  have ef : (m.1 70 13).toInt = flt m := rfl
  refine v_X12_wrong_70 ⟨by omega, fun q => v_X12_wrong_70_45 (hQ m (Cx.rf m) rfl (h.W' (fun z => by have := hf.2.mpr z; omega))), fun q => ?_⟩
  have z : r.1 = 0 := hf.2.mp (by omega)
  obtain ⟨a1, a2, a3, a4, a5⟩ := h.1 z
  have e74 : (m.1 74 x2.toNatClampNeg).toInt = (P tok : Int) := by rw [d_cn h2]; exact (hR tok ht (hl z)).2.1
  have set : W.1 = 0 → j_X12_wrong_70_46 1 x1 (m.1 74 x2.toNatClampNeg) m Q := fun w0 => v_X12_wrong_70_46 (hQ _ ⟨fun k hk => by rw [dSet_k hk, dSet_k hk], fun j b1 b2 b3 b4 b5 => by rw [dSet_j b5, dSet_j b4], rfl⟩ rfl (by
    unfold wadd
    rw [if_pos w0]
    exact ⟨fun _ => ⟨a1, a2, a3, a4, h1, fun _ => e74⟩, fun q => absurd z q, h.2.2⟩))
  have stay : W.1 ≠ 0 → j_X12_wrong_70_45 1 m Q := fun w0 => v_X12_wrong_70_45 (hQ m (Cx.rf m) rfl (by
    unfold wadd
    rw [if_neg w0]
    exact h))
  have e15 := a5.1
  refine ⟨fun w => set (by omega), fun w => ?_⟩
  have w0 : W.1 ≠ 0 := by omega
  have e16 := a5.2 w0
  rcases hW z w0 with lt | ⟨eq, le⟩
  · have := hP W.2 tok lt (hl z)
    exact ⟨fun _ => stay w0, fun q => by exfalso; omega⟩
  · rw [eq] at e16
    exact ⟨fun q => by exfalso; omega, fun _ => ⟨fun q => by exfalso; omega, fun _ => ⟨fun q => by exfalso; omega, fun _ => stay w0⟩⟩⟩
end RPR
end
section
/-! THE REFERENCE's parser, exactly: names and numbers -/
section RNA
variable {K : Nat → Int} {V : Nat → Int64} {P : Nat → Nat} {m : dM} {r W : gR}
theorem wadd_w {W w : gR} : wadd (wadd W w) w = wadd W w := by
  unfold wadd
  by_cases z : W.1 = 0
  · rw [if_pos z]
    by_cases z2 : w.1 = 0
    · rw [if_pos z2]
    · rw [if_neg z2]
  · rw [if_neg z, if_neg z]
theorem q_named {n N : Nat} {Q : Int32 → dM → Prop} (hv : ∀ i, vk (K i)) (hP : ∀ i j : Nat, i < j → lvK K j → P i < P j) (hR : RM K V P m) (h : ST K P m (0, n) W) (hN : nms m = (N : Int)) (hN2 : N ≤ 15) (hW : W.1 ≠ 0 → W.2 < n) (hQ : ∀ (m' : dM) (W' : gR), Cx m m' → ST K P m' (gnd K 22 n) W' → ((gnd K 22 n).1 = 0 → ((∃ k : Nat, k < N ∧ m.2.1 78 k = V n) ∧ W' = wadd W (3, n)) ∨ ((∀ k : Nat, k < N → m.2.1 78 k ≠ V n) ∧ W' = W)) → Q (m.1 70 11) m') : c_X12_named_70 4 m Q := by
  obtain ⟨a1, a2, a3, a4, a5⟩ := h.1 rfl
  have a2 : (m.1 70 11).toInt = (n : Int) := a2
  have a3 : n ≤ 400 := a3
  refine v_X12_named_70 (q_must hv hR h (k := 22) (by decide) (Or.inl (by decide)) (by decide) (fun m1 c1 h1 => ?_))
  have h1 : ST K P m1 (gnd K 22 n) W := h1
  have eN : ∀ m' : dM, Cx m m' → (m'.1 70 20).toInt = (N : Int) := fun m' c => by rw [c.2.1 20 (by decide) (by decide) (by decide) (by decide) (by decide)]; exact hN
  by_cases z : (gnd K 22 n).1 = 0
  · have hk : K n = 22 := (gnd_0 z).2.1
    have loop : ∀ (f i : Nat) (x2 : Int32) (m' : dM) (W' : gR), i + f = N → x2.toInt = i → Cx m m' → ST K P m' (gnd K 22 n) W' → (((∃ k : Nat, k < i ∧ m.2.1 78 k = V n) ∧ W' = wadd W (3, n)) ∨ ((∀ k : Nat, k < i → m.2.1 78 k ≠ V n) ∧ W' = W)) → j_X12_named_70_12 4 (m.1 70 11) x2 m' Q := by
      intro f
      induction f with
      | zero =>
        intro i x2 m' W' hi h2 hc h' hw
        have e := eN m' hc
        refine v_X12_named_70_12 ⟨fun _ => v_X12_named_70_55 (hQ m' W' hc h' (fun _ => ?_)), fun q => by exfalso; omega⟩
        rw [show N = i by omega]
        exact hw
      | succ f ih =>
        intro i x2 m' W' hi h2 hc h' hw
        have e := eN m' hc
        have hf := h'.fl
        refine v_X12_named_70_12 ⟨fun q => by exfalso; omega, fun _ => ⟨fun q => absurd (hf.2.mpr z) q, fun _ => ⟨by omega, by omega, ?_⟩⟩⟩
        rw [d_cn h2, d_cn a2]
        have e76 : m'.2.1 76 n = V n := by rw [hc.2.2]; exact (hR n a3 a4).2.2.1 (by omega)
        have e78 : m'.2.1 78 i = m.2.1 78 i := by rw [hc.2.2]
        rw [e76, e78]
        have hcm := dCmpE (m.2.1 78 i) (V n)
        refine ⟨fun q => v_X12_named_70_49 (ih (i + 1) _ m' W' (by omega) (d_inc h2 (by omega)) hc h' ?_), fun q => ?_⟩
        · have ne : m.2.1 78 i ≠ V n := fun e => q (hcm.2.2.mpr e)
          rcases hw with ⟨⟨k, k1, k2⟩, w⟩ | ⟨k1, w⟩
          · exact Or.inl ⟨⟨k, by omega, k2⟩, w⟩
          · refine Or.inr ⟨fun k hk => ?_, w⟩
            by_cases ek : k = i
            · rw [ek]; exact ne
            · exact k1 k (by omega)
        · have eq : m.2.1 78 i = V n := hcm.2.2.mp q
          refine Wp.deep (q_wrong (c := 3) (tok := n) hP (hR.cx hc) h' (by decide) (by decide) a2 a3 (fun _ => a4) (fun _ w0 => ?_) (fun m2 c2 _ h2' => v_X12_named_70_49 (ih (i + 1) _ m2 (wadd W' (3, n)) (by omega) (d_inc h2 (by omega)) (hc.tr c2) h2' (Or.inl ⟨⟨i, by omega, eq⟩, ?_⟩)))) (Nat.le_of_ble_eq_true rfl)
          · rcases hw with ⟨-, w⟩ | ⟨-, w⟩
            · rw [w] at w0 ⊢
              unfold wadd at w0 ⊢
              by_cases q0 : W.1 = 0
              · rw [if_pos q0]; exact Or.inr ⟨rfl, Nat.le_refl _⟩
              · rw [if_neg q0] at w0 ⊢; exact Or.inl (hW w0)
            · rw [w] at w0 ⊢; exact Or.inl (hW w0)
          · rcases hw with ⟨-, w⟩ | ⟨-, w⟩
            · rw [w]; exact wadd_w
            · rw [w]
    exact loop N 0 _ m1 W (by omega) (by decide) c1 h1 (Or.inr ⟨fun k hk => by omega, rfl⟩)
  · have hf := h1.fl
    have e := eN m1 c1
    have fin : j_X12_named_70_55 4 (m.1 70 11) m1 Q := v_X12_named_70_55 (hQ m1 W c1 h1 (fun q => absurd q z))
    exact v_X12_named_70_12 ⟨fun _ => fin, fun _ => ⟨fun _ => fin, fun q => absurd (hf.2.mp q) z⟩⟩
theorem q_knownFlat {N : Nat} {Q : Int32 → dM → Prop} (hv : ∀ i, vk (K i)) (hP : ∀ i j : Nat, i < j → lvK K j → P i < P j) (hR : RM K V P m) (h : ST K P m r W) (hN : nms m = (N : Int)) (hN2 : N ≤ 15) (hW : r.1 = 0 → W.1 ≠ 0 → W.2 < r.2) (hQ : ∀ (v : Int32) (m' : dM) (W' : gR), Cx m m' → ST K P m' (rb r (gnd K 22)) W' → ((rb r (gnd K 22)).1 = 0 → ((∃ k : Nat, k < N ∧ m.2.1 78 k = V r.2 ∧ 0 ≤ (m.1 79 k).toInt ∧ v = m.1 79 k) ∧ W' = W) ∨ ((∀ k : Nat, k < N → m.2.1 78 k = V r.2 → (m.1 79 k).toInt < 0) ∧ v = -1 ∧ W' = wadd W (4, r.2))) → Q v m') : c_X12_knownFlat_70 4 m Q := by
  refine v_X12_knownFlat_70 (q_must hv hR h (k := 22) (by decide) (Or.inl (by decide)) (by decide) (fun m1 c1 h1 => ?_))
  have hf := h1.fl
  have ef : (m1.1 70 13).toInt = flt m1 := rfl
  have eN : (m1.1 70 20).toInt = (N : Int) := by rw [c1.2.1 20 (by decide) (by decide) (by decide) (by decide) (by decide)]; exact hN
  refine ⟨fun q => ?_, fun q => hQ _ m1 W c1 h1 (fun z => by have := hf.2.mpr z; exfalso; omega)⟩
  have z : (rb r (gnd K 22)).1 = 0 := hf.2.mp (by omega)
  have zr := (rb_z z).1
  obtain ⟨a1, a2, a3, a4, a5⟩ := h.1 zr
  have a2 : (m.1 70 11).toInt = (r.2 : Int) := a2
  have hk : K r.2 = 22 := by
    have z2 := z
    rw [(rb_z z).2] at z2
    exact (gnd_0 z2).2.1
  have loop : ∀ (f i : Nat) (x2 : Int32), i + f = N → x2.toInt = i → (∀ k : Nat, k < i → m.2.1 78 k = V r.2 → (m.1 79 k).toInt < 0) → j_X12_knownFlat_70_21 4 (m.1 70 11) x2 m1 Q := by
    intro f
    induction f with
    | zero =>
      intro i x2 hi h2 hw
      refine v_X12_knownFlat_70_21 ⟨fun _ => Wp.deep (q_wrong (c := 4) (tok := r.2) hP (hR.cx c1) h1 (by decide) (by decide) a2 a3 (fun _ => a4) (fun _ w0 => Or.inl (hW zr w0)) (fun m2 c2 _ h2' => hQ _ m2 _ (c1.tr c2) h2' (fun _ => Or.inr ⟨?_, rfl, rfl⟩))) (Nat.le_of_ble_eq_true rfl), fun q => by exfalso; omega⟩
      rw [show N = i by omega]
      exact hw
    | succ f ih =>
      intro i x2 hi h2 hw
      refine v_X12_knownFlat_70_21 ⟨fun q => by exfalso; omega, fun _ => ⟨by omega, by omega, ?_⟩⟩
      rw [d_cn h2, d_cn a2]
      have e76 : m1.2.1 76 r.2 = V r.2 := by rw [c1.2.2]; exact (hR r.2 a3 a4).2.2.1 (by omega)
      have e78 : m1.2.1 78 i = m.2.1 78 i := by rw [c1.2.2]
      have e79 : m1.1 79 i = m.1 79 i := by rw [c1.1 79 (by decide)]
      rw [e76, e78, e79]
      have hcm := dCmpE (m.2.1 78 i) (V r.2)
      have next : (m.2.1 78 i = V r.2 → (m.1 79 i).toInt < 0) → j_X12_knownFlat_70_61 4 (m.1 70 11) x2 m1 Q := fun hn => v_X12_knownFlat_70_61 (ih (i + 1) _ (by omega) (d_inc h2 (by omega)) (fun k hk2 he => by
        by_cases ek : k = i
        · rw [ek] at he ⊢; exact hn he
        · exact hw k (by omega) he))
      refine ⟨fun q => next (fun e => absurd (hcm.2.2.mpr e) q), fun q => ⟨by omega, fun q2 => next (fun _ => q2), fun q2 => ⟨by omega, ?_⟩⟩⟩
      exact hQ _ m1 W c1 h1 (fun _ => Or.inl ⟨⟨i, by omega, hcm.2.2.mp q, q2, rfl⟩, rfl⟩)
  exact loop N 0 _ (by omega) (by decide) (fun k hk => by omega)
theorem q_bounded {x1 x2 : Int32} {Q : Int32 → dM → Prop} (hv : ∀ i, vk (K i)) (hP : ∀ i j : Nat, i < j → lvK K j → P i < P j) (hR : RM K V P m) (h : ST K P m r W) (hW : r.1 = 0 → W.1 ≠ 0 → W.2 < r.2) (hQ : ∀ (v : Int32) (m' : dM) (W' : gR), Cx m m' → ST K P m' (rb r (gnd K 23)) W' → ((rb r (gnd K 23)).1 = 0 → v = (V r.2).toInt32 ∧ W' = (if x1.toInt ≤ iV V r.2 ∧ iV V r.2 ≤ x2.toInt then W else wadd W (5, r.2))) → Q v m') : c_X12_bounded_70 3 x1 x2 m Q := by
  have hf := h.fl
  have ef : (m.1 70 13).toInt = flt m := rfl
  have no : (r.1 = 0 → K r.2 ≠ 23) → j_X12_bounded_70_15 3 x1 m Q := fun hn => by
    refine v_X12_bounded_70_15 (Wp.deep (q_fail hR h (c := 1) (by decide) (by decide) (fun m' hc _ h' => hQ _ m' W hc ?_ (fun z => ?_))) (Nat.le_of_ble_eq_true rfl))
    · by_cases z : r.1 = 0
      · rw [rb_k z]
        rw [if_pos z] at h'
        unfold gnd
        rw [if_neg (hn z)]
        exact h'
      · rw [rb_f z]
        rw [if_neg z] at h'
        exact h'
    · exfalso
      have z1 := (rb_z z).1
      rw [(rb_z z).2] at z
      exact hn z1 (gnd_0 z).2.1
  refine v_X12_bounded_70 ⟨fun q => no (fun z => by have := hf.2.mpr z; exfalso; omega), fun q => ?_⟩
  have zr : r.1 = 0 := hf.2.mp (by omega)
  obtain ⟨a1, a2, a3, a4, a5⟩ := h.1 zr
  have a2' : (m.1 70 11).toInt = (r.2 : Int) := a2
  refine Wp.deep (q_is hv hR h (k := 23) (by decide) (Or.inl (by decide)) (fun _ hk => ⟨fun _ => ⟨by omega, ?_⟩, fun q => absurd q (by decide)⟩) (fun hk => ⟨fun q => absurd rfl q, fun _ => no (fun z hk2 => hk ⟨z, hk2⟩)⟩)) (Nat.le_of_ble_eq_true rfl)
  rw [d_cn a2', (hR r.2 a3 a4).2.2.2 hk]
  have go : ∀ (m1 : dM) (W1 : gR), Cx m m1 → ST K P m1 r W1 → (W1 = if x1.toInt ≤ iV V r.2 ∧ iV V r.2 ≤ x2.toInt then W else wadd W (5, r.2)) → j_X12_bounded_70_51 3 (V r.2).toInt32 m1 Q := fun m1 W1 c1 h1 e => by
    refine v_X12_bounded_70_51 (q_goesOn (hR.cx c1) h1 (fun _ => by omega) (fun m2 c2 h2 => hQ _ m2 W1 (c1.tr c2) ?_ (fun _ => ⟨rfl, e⟩)))
    rw [rb_k zr] at h2 ⊢
    unfold gnd
    rw [if_pos hk]
    exact h2
  have bad : ¬ (x1.toInt ≤ iV V r.2 ∧ iV V r.2 ≤ x2.toInt) → j_X12_bounded_70_42 3 (V r.2).toInt32 m Q := fun hb => v_X12_bounded_70_42 (Wp.deep (q_wrong (c := 5) (tok := r.2) hP hR h (by decide) (by decide) a2' a3 (fun _ => a4) (fun _ w0 => Or.inl (hW zr w0)) (fun m1 c1 _ h1 => go m1 _ c1 h1 (by rw [if_neg hb]))) (Nat.le_of_ble_eq_true rfl))
  unfold iV at bad go
  exact ⟨fun q => bad (by omega), fun q => ⟨fun q2 => go m W (Cx.rf m) h (by rw [if_pos ⟨q, q2⟩]), fun q2 => bad (by omega)⟩⟩
/-- a name more -/
def EN (N : Nat) (y : Int64) (v : Int32) (m m' : dM) : Prop := (∀ k : Nat, k ≠ 70 → k ≠ 79 → m'.1 k = m.1 k) ∧ (∀ j : Nat, j ≠ 11 → j ≠ 13 → j ≠ 14 → j ≠ 15 → j ≠ 16 → j ≠ 20 → m'.1 70 j = m.1 70 j) ∧ (m'.1 70 20).toInt = ((N + 1 : Nat) : Int) ∧ (∀ j : Nat, m'.1 79 j = if j = N then v else m.1 79 j) ∧ (∀ k : Nat, k ≠ 78 → m'.2.1 k = m.2.1 k) ∧ (∀ j : Nat, m'.2.1 78 j = if j = N then y else m.2.1 78 j) ∧ m'.2.2 = m.2.2
theorem q_endsName {x1 x2 : Int32} {tok N : Nat} {Q : dM → Prop} (hv : ∀ i, vk (K i)) (hR : RM K V P m) (h : ST K P m r W) (h1 : x1.toInt = tok) (ht : tok ≤ 400) (hN : nms m = (N : Int)) (hN2 : N < 15) (hQ0 : (rb r (gnd K 59)).1 ≠ 0 → ∀ m' : dM, Cx m m' → ST K P m' (rb r (gnd K 59)) W → Q m') (hQ1 : (rb r (gnd K 59)).1 = 0 → ∀ m' : dM, EN N (m.2.1 76 tok) x2 m m' → ST K P m' (rb r (gnd K 59)) W → Q m') : c_X12_endsName_70 4 x1 x2 m Q := by
  refine v_X12_endsName_70 (q_must hv hR h (k := 59) (by decide) (by unfold vk; omega) (by decide) (fun m1 c1 h1' => ?_))
  have hf := h1'.fl
  have ef : (m1.1 70 13).toInt = flt m1 := rfl
  have eN : (m1.1 70 20).toInt = (N : Int) := by rw [c1.2.1 20 (by decide) (by decide) (by decide) (by decide) (by decide)]; exact hN
  refine ⟨fun q => ⟨by omega, by omega, by omega, ?_⟩, fun q => hQ0 (fun z => by have := hf.2.mpr z; omega) m1 c1 h1'⟩
  have z : (rb r (gnd K 59)).1 = 0 := hf.2.mp (by omega)
  rw [d_cn h1, d_cn eN]
  have e76 : m1.2.1 76 tok = m.2.1 76 tok := by rw [c1.2.2]
  rw [e76]
  refine hQ1 z _ ⟨fun k b1 b2 => ?_, fun j b1 b2 b3 b4 b5 b6 => ?_, ?_, fun j => ?_, fun k b1 => ?_, fun j => ?_, ?_⟩ ?_
  · rw [dSet_k b1, dSet_k b2]; exact c1.1 k b1
  · rw [dSet_j b6, dSet_k (by decide)]; exact c1.2.1 j b1 b2 b3 b4 b5
  · rw [dSet_s]; exact d_inc eN (by omega)
  · rw [dSet_k (by decide), dSet_e]
    by_cases q : j = N
    · rw [if_pos ⟨rfl, q⟩, if_pos q]
    · rw [if_neg (fun w => q w.2), if_neg q]
      show m1.1 79 j = _
      rw [c1.1 79 (by decide)]
  · show (dSetL m1 78 N (m.2.1 76 tok)).2.1 k = _
    rw [← c1.2.2]
    funext j
    rw [dSetL_e, if_neg (fun w => b1 w.1)]
  · show (dSetL m1 78 N (m.2.1 76 tok)).2.1 78 j = _
    rw [dSetL_e, c1.2.2]
    by_cases q : j = N
    · rw [if_pos ⟨rfl, q⟩, if_pos q]
    · rw [if_neg (fun w => q w.2), if_neg q]
  · show m1.2.2 = m.2.2
    rw [c1.2.2]
  · exact ST.j (ST.k (m := dSetL m1 78 N (m.2.1 76 tok)) (h1'.of rfl rfl rfl rfl rfl) (by decide)) (by decide)
end RNA
end
section
/-! THE REFERENCE's expression, exactly -/
theorem co_1 {x1 : Int32} {Q : dM → Prop} {c0 : Nat} {B : Int} (hB : B ≤ 839) : ∀ (n : Nat) (m : dM) (o p c q : Nat), n ≤ 64 → wtg m = n → Wk (m.1 104) n o p c → cds m = c0 + q → gDp m.1 q c0 0 (p + 1) → cds m + p ≤ B →
    (∀ (m' : dM) (n' p' c' q' : Nat), CoF m p m' → wtg m' = n' → Wk (m'.1 104) n' o p' c' → c' ≤ 1 → (x1.toInt = 0 → c' = 0) → cds m' = c0 + q' → gDp m'.1 q' c0 0 (p' + 1) → cds m' + p' = cds m + p → q ≤ q' → m'.2 = m.2 → Q m') → j_X12_comesOut_70_0 2 x1 m Q := by
  intro n
  induction n with
  | zero =>
    intro m o p c q hn hw hW hc hD hB' hQ
    have hW' : o = 0 ∧ p = 0 ∧ c = 0 := hW
    refine v_X12_comesOut_70_0 ⟨fun _ => hQ m 0 p c q ⟨fun _ _ _ _ => rfl, fun _ _ _ => rfl, fun _ _ => ⟨rfl, rfl⟩⟩ hw hW (by omega) (fun _ => hW'.2.2) hc hD rfl (Nat.le_refl _) rfl, fun h => ?_⟩
    have h : 0 < wtg m := h
    exfalso; omega
  | succ n ih =>
    intro m o p c q hn hw hW hc hD hB' hQ
    have ew : (m.1 70 50).toInt = wtg m := rfl
    have ec : (m.1 70 46).toInt = cds m := rfl
    have f := dSubE (X := wtg m) (Y := 1) (x := m.1 70 50) (y := (1 : Int32)) rfl (by decide) (by omega) (by omega)
    have ei : (m.1 70 50 - (1 : Int32)).toNatClampNeg = n := by
      have := d_cl (x := m.1 70 50 - (1 : Int32)) (by omega)
      omega
    have stay : c ≤ 1 → (x1.toInt = 0 → c = 0) → j_X12_comesOut_70_41 2 m Q := fun h1 h2 => v_X12_comesOut_70_41 (hQ m (n + 1) p c q ⟨fun _ _ _ _ => rfl, fun _ _ _ => rfl, fun _ _ => ⟨rfl, rfl⟩⟩ hw hW h1 h2 hc hD rfl (Nat.le_refl _) rfl)
    have out : ∀ (p1 c1 : Nat), p = p1 + 1 → Wk (m.1 104) n o p1 c1 → ∀ code : Int32, 2 ≤ code.toInt ∧ code.toInt ≤ 5 → c_X12_emit_70 1 code (0 : Int32) (dSet m 70 50 ((m.1 70 50) - (1 : Int32))) (fun m1 => j_X12_comesOut_70_0 2 x1 m1 Q) := by
      intro p1 c1 hp hW1 code hcode
      refine v_X12_emit_70 ?_
      have ec' : ((dSet m 70 50 ((m.1 70 50) - (1 : Int32))).1 70 46) = m.1 70 46 := rfl
      rw [ec']
      have fc := dAddE (X := cds m) (Y := 1) (x := m.1 70 46) (y := (1 : Int32)) rfl (by decide) (by omega) (by omega)
      have eC : (m.1 70 46).toNatClampNeg = c0 + q := by
        have := d_cl (x := m.1 70 46) (by omega)
        omega
      refine ⟨by omega, ⟨by omega, ?_⟩⟩
      rw [eC]
      have r2 : ∀ j, j ≠ c0 + q → (dSet (dSet (dSet (dSet m 70 50 ((m.1 70 50) - (1 : Int32))) 102 (c0 + q) code) 103 (c0 + q) (0 : Int32)) 70 46 ((m.1 70 46) + (1 : Int32))).1 102 j = m.1 102 j ∧ (dSet (dSet (dSet (dSet m 70 50 ((m.1 70 50) - (1 : Int32))) 102 (c0 + q) code) 103 (c0 + q) (0 : Int32)) 70 46 ((m.1 70 46) + (1 : Int32))).1 103 j = m.1 103 j := fun j hj => by
        constructor
        · rw [dSet_k (by decide), dSet_k (by decide), dSet_j hj, dSet_k (by decide)]
        · rw [dSet_k (by decide), dSet_j hj, dSet_k (by decide), dSet_k (by decide)]
      have r1 : (dSet (dSet (dSet (dSet m 70 50 ((m.1 70 50) - (1 : Int32))) 102 (c0 + q) code) 103 (c0 + q) (0 : Int32)) 70 46 ((m.1 70 46) + (1 : Int32))).1 102 (c0 + q) = code := by rw [dSet_k (by decide), dSet_k (by decide), dSet_s]
      generalize hM : (dSet (dSet (dSet (dSet m 70 50 ((m.1 70 50) - (1 : Int32))) 102 (c0 + q) code) 103 (c0 + q) (0 : Int32)) 70 46 ((m.1 70 46) + (1 : Int32))) = M at r1 r2 ⊢
      have w1 : wtg M = n := by rw [← hM]; show (m.1 70 50 - (1 : Int32)).toInt = n; omega
      have w2 : cds M = c0 + (q + 1 : Nat) := by rw [← hM]; show (m.1 70 46 + (1 : Int32)).toInt = _; omega
      have w5 : M.2 = m.2 := by rw [← hM]; rfl
      have w3 : ∀ k : Nat, k ≠ 70 → k ≠ 102 → k ≠ 103 → M.1 k = m.1 k := fun k h1 h2 h3 => by rw [← hM, dSet_k h1, dSet_k h3, dSet_k h2, dSet_k h1]
      have w4 : ∀ j : Nat, j ≠ 46 → j ≠ 50 → M.1 70 j = m.1 70 j := fun j h1 h2 => by rw [← hM, dSet_j h1, dSet_k (by decide), dSet_k (by decide), dSet_j h2]
      have hD1 : gDp M.1 (q + 1) c0 0 (p1 + 1) := by
        refine gDp_op (gDp_congr (fun j h1 h2 => r2 j (by omega)) (by rw [← hp]; exact hD)) ?_ (by omega)
        rw [r1]; exact hcode
      refine ih M o p1 c1 (q + 1) (by omega) w1 (by rw [w3 104 (by decide) (by decide) (by decide)]; exact hW1) w2 hD1 (by omega) ?_
      intro m' n' p' c' q' hF a1 a2 a3 a4 a5 a6 a7 a8 a9
      refine hQ m' n' p' c' q' ⟨fun k h1 h2 h3 => (hF.1 k h1 h2 h3).trans (w3 k h1 h2 h3), fun j h1 h2 => (hF.2.1 j h1 h2).trans (w4 j h1 h2), fun j hj => ?_⟩ a1 a2 a3 a4 a5 a6 (by omega) (by omega) (a9.trans w5)
      have g1 := hF.2.2 j (by omega)
      have g2 := r2 j (by omega)
      exact ⟨g1.1.trans g2.1, g1.2.trans g2.2⟩
    refine v_X12_comesOut_70_0 ⟨fun h => by have h : wtg m ≤ 0 := h; exfalso; omega, fun _ => ⟨by omega, ?_⟩⟩
    rw [ei]
    have hW0 := hW
    unfold Wk at hW0
    rcases hW0 with ⟨a, b, o', c', d, w⟩ | ⟨a, b, p', d, w⟩ | ⟨a, b, p', c', d, i, w⟩
    · exact ⟨fun _ => stay (by omega) (fun _ => b), fun h => absurd a h⟩
    · have em : ∀ y : Int32, y = m.1 104 n → j_X12_comesOut_70_42 2 x1 y m Q := fun y hy => by
        subst hy
        refine v_X12_comesOut_70_42 ⟨fun _ => ⟨fun _ => ⟨fun _ => out p' 0 d w _ (by decide), fun _ => out p' 0 d w _ (by decide)⟩, fun _ => out p' 0 d w _ (by decide)⟩, fun _ => out p' 0 d w _ (by decide)⟩
      refine ⟨fun h => by exfalso; omega, fun _ => ⟨fun _ => em _ rfl, fun hx => ⟨fun _ => stay (by omega) (fun h => absurd h hx), fun h8 => ⟨fun h9 => by exfalso; omega, fun _ => stay (by omega) (fun h => absurd h hx)⟩⟩⟩⟩
    · have em : ∀ y : Int32, y = m.1 104 n → j_X12_comesOut_70_42 2 x1 y m Q := fun y hy => by
        subst hy
        refine v_X12_comesOut_70_42 ⟨fun _ => ⟨fun _ => ⟨fun _ => out p' c' d w _ (by decide), fun _ => out p' c' d w _ (by decide)⟩, fun _ => out p' c' d w _ (by decide)⟩, fun _ => out p' c' d w _ (by decide)⟩
      refine ⟨fun h => by exfalso; omega, fun _ => ⟨fun _ => em _ rfl, fun hx => ⟨fun h => by exfalso; omega, fun h8 => ⟨fun h9 => em _ rfl, fun h => by exfalso; omega⟩⟩⟩⟩
section RGX
variable {K : Nat → Int} {V : Nat → Int64} {P : Nat → Nat} {r W : gR}
theorem r_fail {x1 : Int32} {c : Nat} {m : dM} {Q : dM → Prop} (hR : RM K V P m) (h : ST K P m r W) (hx : x1.toInt = c) (hc : c ≠ 0) (hQ : ∀ m' : dM, Mv 0 m m' → m'.2 = m.2 → ST K P m' (if r.1 = 0 then (c, r.2) else r) W → Q m') : c_X12_fail_70 1 x1 m Q := by
  have hf := h.fl
  have ht := h.2.2
  have et : (m.1 70 11).toInt = tt m := rfl
  have ef : (m.1 70 13).toInt = flt m := rfl
  refine v_X12_fail_70 ⟨fun q => ⟨by omega, ?_⟩, fun q => ?_⟩
  · have z : r.1 = 0 := hf.2.mp (by omega)
    obtain ⟨a1, a2, a3, a4, a5⟩ := h.1 z
    have e1 : flt (dSet (dSet m 70 13 x1) 70 14 (m.1 74 (m.1 70 11).toNatClampNeg)) = x1.toInt := rfl
    have e2 : tt (dSet (dSet m 70 13 x1) 70 14 (m.1 74 (m.1 70 11).toNatClampNeg)) = tt m := rfl
    refine hQ _ ⟨fun k hk => by rw [dSet_k hk, dSet_k hk], fun j b1 b2 b3 b4 b5 => by rw [dSet_j b3, dSet_j b2], ht, Or.inr (by omega), Wz.eq rfl⟩ rfl ?_
    rw [if_pos z]
    refine ⟨fun q => absurd q hc, fun _ => ⟨hx, ?_⟩, ht⟩
    show (m.1 74 (m.1 70 11).toNatClampNeg).toInt = (P r.2 : Int)
    rw [d_cn (show (m.1 70 11).toInt = (r.2 : Int) from a2)]
    exact (hR r.2 a3 a4).2.1
  · have z : r.1 ≠ 0 := fun z => by have := hf.2.mpr z; omega
    refine hQ m (Mv.rf ht hf.1) rfl ?_
    rw [if_neg z]
    exact h
theorem r_goesOn {m : dM} {Q : dM → Prop} (hR : RM K V P m) (h : ST K P m r W) (hk : r.1 = 0 → K r.2 ≠ 24 ∧ K r.2 ≠ 25) (hQ : ∀ m' : dM, Mv 1 m m' → m'.2 = m.2 → ST K P m' (rb r gst) W → Q m') : c_X12_goesOn_70 2 m Q := by
  have ht := h.2.2
  have hf := h.fl
  have et : (m.1 70 11).toInt = tt m := rfl
  refine v_X12_goesOn_70 ⟨fun q => ?_, fun q => ?_⟩
  · have f := dAddE (X := tt m) (Y := 1) (x := m.1 70 11) (y := (1 : Int32)) rfl (by decide) (by omega) (by omega)
    have e1 : tt (dSet m 70 11 (m.1 70 11 + 1)) = tt m + 1 := f
    have e2 : flt (dSet m 70 11 (m.1 70 11 + 1)) = flt m := rfl
    refine v_X12_goesOn_70_28 (hQ _ ⟨fun k hk => dSet_k hk, fun j b1 b2 b3 b4 b5 => dSet_j b1, by omega, ?_, Wz.eq rfl⟩ rfl ?_)
    · by_cases h0 : flt m = 0
      · left; omega
      · right; omega
    by_cases z : r.1 = 0
    · obtain ⟨a1, a2, a3, a4, a5⟩ := h.1 z
      rw [rb_k z]
      unfold gst
      rw [if_neg (by omega)]
      exact ⟨fun _ => ⟨a1, by show tt (dSet m 70 11 (m.1 70 11 + 1)) = ((r.2 + 1 : Nat) : Int); omega, by show r.2 + 1 ≤ 400; omega, a4.up (hk z), a5⟩, fun q => absurd rfl q, by omega⟩
    · rw [rb_f z]
      exact ⟨fun q => absurd q z, fun _ => h.2.1 z, by omega⟩
  · refine Wp.deep (r_fail hR h (c := 2) (by decide) (by decide) (fun m' hc ht' h' => v_X12_goesOn_70_28 (hQ m' ⟨hc.1, hc.2.1, hc.2.2.1, Or.inr ?_, hc.2.2.2.2⟩ ht' ?_))) (Nat.le_of_ble_eq_true rfl)
    · have hf' := h'.fl
      have : flt m' ≠ 0 := fun e => by
        have := hf'.2.mp e
        by_cases z : r.1 = 0
        · rw [if_pos z] at this; exact absurd this (Nat.succ_ne_zero 1)
        · rw [if_neg z] at this; exact z this
      rcases hc.2.2.2.1 with w | w <;> omega
    · by_cases z : r.1 = 0
      · obtain ⟨a1, a2, a3, a4, a5⟩ := h.1 z
        rw [rb_k z]
        unfold gst
        rw [if_pos (by omega)]
        rw [if_pos z] at h'
        exact h'
      · rw [rb_f z]
        rw [if_neg z] at h'
        exact h'
/-- an expression under way: its cells, and what will come of it -/
def TG (K : Nat → Int) (o : Nat) (ph : Bool) (r T : gR) : Prop := (r.1 = 0 → gX K 0 o ph r.2 = T) ∧ (r.1 ≠ 0 → r = T)
variable {me : dM} {s : Nat} {T : gR}
theorem RM.xf {m : dM} (h : RM K V P me) (hx : XF me s m) (h2 : m.2 = me.2) : RM K V P m := h.of (fun k a b => hx.1 k (by omega) (by omega) (by omega) (by omega)) (by rw [h2])
theorem er_emit {m : dM} {o p c : Nat} {code val : Int32} {Q : dM → Prop} (hs : s ≤ 1) (hme : 420 * (s : Int) ≤ cds me) (hv : ∀ i, vk (K i)) (hR : RM K V P me) (h : ES me s m o p c p) (h2 : m.2 = me.2) (hS : ST K P m r W) (h0 : flt m = 0) (hk : r.1 = 0 → K r.2 ≠ 24 ∧ K r.2 ≠ 25) (hcode : code.toInt < 2 ∧ (code.toInt ≠ 0 → 0 ≤ val.toInt ∧ val.toInt ≤ 8)) (hQ : ∀ m', EZ me s m' → m'.2 = me.2 → ST K P m' (rb r gst) W → (flt m' = 0 → ES me s m' o p c (p + 1) ∧ tt m + 1 ≤ tt m') → Q m') : c_X12_emit_70 2 code val m (fun m2 => c_X12_goesOn_70 2 m2 Q) := by
  obtain ⟨⟨x1, x2, x3, x4⟩, a2, a3, a4, a5, a6, a7, ⟨q, a8, a8'⟩, a9, a10, a11⟩ := h
  have hb := a10 h0
  have ec : (m.1 70 46).toInt = cds m := rfl
  have fc := dAddE (X := cds m) (Y := 1) (x := m.1 70 46) (y := (1 : Int32)) rfl (by decide) (by omega) (by omega)
  have eC : (m.1 70 46).toNatClampNeg = (cds me).toNat + q := by
    have := d_cl (x := m.1 70 46) (by omega)
    omega
  refine v_X12_emit_70 ⟨by omega, ⟨by omega, ?_⟩⟩
  rw [eC]
  have r2 : ∀ j, j ≠ (cds me).toNat + q → (dSet (dSet (dSet m 102 ((cds me).toNat + q) code) 103 ((cds me).toNat + q) val) 70 46 ((m.1 70 46) + (1 : Int32))).1 102 j = m.1 102 j ∧ (dSet (dSet (dSet m 102 ((cds me).toNat + q) code) 103 ((cds me).toNat + q) val) 70 46 ((m.1 70 46) + (1 : Int32))).1 103 j = m.1 103 j := fun j hj => by
    constructor
    · rw [dSet_k (by decide), dSet_k (by decide), dSet_j hj]
    · rw [dSet_k (by decide), dSet_j hj, dSet_k (by decide)]
  have r1 : (dSet (dSet (dSet m 102 ((cds me).toNat + q) code) 103 ((cds me).toNat + q) val) 70 46 ((m.1 70 46) + (1 : Int32))).1 102 ((cds me).toNat + q) = code := by rw [dSet_k (by decide), dSet_k (by decide), dSet_s]
  have r3 : (dSet (dSet (dSet m 102 ((cds me).toNat + q) code) 103 ((cds me).toNat + q) val) 70 46 ((m.1 70 46) + (1 : Int32))).1 103 ((cds me).toNat + q) = val := by rw [dSet_k (by decide), dSet_s]
  generalize hM : (dSet (dSet (dSet m 102 ((cds me).toNat + q) code) 103 ((cds me).toNat + q) val) 70 46 ((m.1 70 46) + (1 : Int32))) = M at r1 r2 r3 ⊢
  have w2 : cds M = cds me + (q + 1 : Nat) := by rw [← hM]; show (m.1 70 46 + (1 : Int32)).toInt = _; omega
  have w3 : ∀ k : Nat, k ≠ 70 → k ≠ 102 → k ≠ 103 → M.1 k = m.1 k := fun k h1 h2 h3 => by rw [← hM, dSet_k h1, dSet_k h3, dSet_k h2]
  have w4 : ∀ j : Nat, j ≠ 46 → M.1 70 j = m.1 70 j := fun j h1 => by rw [← hM, dSet_j h1, dSet_k (by decide), dSet_k (by decide)]
  have t1 : tt M = tt m := by unfold tt; rw [w4 11 (by decide)]
  have f1 : flt M = flt m := by unfold flt; rw [w4 13 (by decide)]
  have u1 : wst M = wst m := by unfold wst; rw [w4 15 (by decide)]
  have hD1 : gDp M.1 (q + 1) (cds me).toNat 0 (p + 1) := gDp_push (gDp_congr (fun j h1 h2 => r2 j (by omega)) a8') (by rw [r1]; exact hcode.1) (by rw [r1, r3]; exact hcode.2)
  have w5 : M.2 = m.2 := by rw [← hM]; rfl
  have XM : XF me s M := by
    refine ⟨fun k b1 b2 b3 b4 => (w3 k b1 b2 b3).trans (x1 k b1 b2 b3 b4), fun j b1 b2 b3 b4 b5 b6 b7 b8 => (w4 j b7).trans (x2 j b1 b2 b3 b4 b5 b6 b7 b8), fun j hj => ?_, x4.tr (Wz.eq u1)⟩
    have g2 := r2 j (by omega)
    have g3 := x3 j hj
    exact ⟨g2.1.trans g3.1, g2.2.trans g3.2⟩
  have SM : ST K P M r W := hS.of (w4 11 (by decide)) (w4 13 (by decide)) (w4 14 (by decide)) (w4 15 (by decide)) (w4 16 (by decide))
  refine r_goesOn (hR.xf XM (w5.trans h2)) SM hk (fun m3 h3 g3 S3 => ?_)
  obtain ⟨k1, k2, k3, k4, k5⟩ := h3
  have e46 : m3.1 70 46 = M.1 70 46 := k2 46 (by decide) (by decide) (by decide) (by decide) (by decide)
  have c3 : cds m3 = cds M := by unfold cds; rw [e46]
  have X3 : XF me s m3 := by
    refine ⟨fun k b1 b2 b3 b4 => (k1 k b1).trans ((w3 k b1 b2 b3).trans (x1 k b1 b2 b3 b4)), fun j b1 b2 b3 b4 b5 b6 b7 b8 => (k2 j b1 b3 b4 b5 b6).trans ((w4 j b7).trans (x2 j b1 b2 b3 b4 b5 b6 b7 b8)), fun j hj => ?_, x4.tr ((Wz.eq u1).tr k5)⟩
    rw [k1 102 (by decide), k1 103 (by decide)]
    have g2 := r2 j (by omega)
    have g3 := x3 j hj
    exact ⟨g2.1.trans g3.1, g2.2.trans g3.2⟩
  have hf3 : 0 ≤ flt m3 := by rcases k4 with z | z <;> omega
  have ht3 : tt m ≤ tt m3 := by rcases k4 with z | z <;> omega
  refine hQ m3 ⟨X3, k3, by omega, hf3, by omega, by omega⟩ (g3.trans (w5.trans h2)) S3 (fun hz => ?_)
  have ht4 : tt m3 = tt m + 1 := by rcases k4 with z | z <;> omega
  refine ⟨⟨X3, k3, by omega, hf3, ?_, ?_, ?_, ⟨q + 1, by omega, gDp_congr (fun j _ _ => by rw [k1 102 (by decide), k1 103 (by decide)]; exact ⟨rfl, rfl⟩) hD1⟩, by omega, fun _ => by omega, a11⟩, by omega⟩
  · unfold opn; rw [k2 12 (by decide) (by decide) (by decide) (by decide) (by decide), w4 12 (by decide)]; exact a5
  · unfold wtg; rw [k2 50 (by decide) (by decide) (by decide) (by decide) (by decide), w4 50 (by decide)]; exact a6
  · rw [k1 104 (by decide), w3 104 (by decide) (by decide) (by decide)]; exact a7
theorem r_unit {m : dM} {o p c : Nat} {Q : dM → Prop} (hs : s ≤ 1) (hme : 420 * (s : Int) ≤ cds me) (hv : ∀ i, vk (K i)) (hR : RM K V P me) (h : ES me s m o p c p) (h2 : m.2 = me.2) (hS : ST K P m r W) (hT : TG K o false r T) (h40 : ¬ (r.1 = 0 ∧ K r.2 = 40)) (hQ : ∀ (m' : dM) (r' : gR), EZ me s m' → m'.2 = me.2 → ST K P m' r' W → TG K o true r' T → (flt m' = 0 → ES me s m' o p c (p + 1) ∧ flt m = 0 ∧ tt m + 1 ≤ tt m') → Q m') : c_X12_unit_70 3 m Q := by
  have a2 := h.2.1
  have a4 := h.2.2.2.1
  have hRm := hR.xf h.1 h2
  have hf := hS.fl
  have bad : (r.1 = 0 → ¬ (K r.2 = 23 ∨ (13 ≤ K r.2 ∧ K r.2 ≤ 21))) → j_X12_unit_70_88 3 m Q := fun hn => by
    refine v_X12_unit_70_88 ?_
    refine Wp.deep (r_fail hRm hS (c := 1) (by decide) (by decide) (fun m' h' g' S' => v_X12_unit_70_93 (hQ m' _ (h.mv h' (by decide)).z (g'.trans h2) S' ?_ (fun h0 => ?_)))) (Nat.le_of_ble_eq_true rfl)
    · by_cases z : r.1 = 0
      · rw [if_pos z]
        refine ⟨fun q => absurd q (Nat.succ_ne_zero 0), fun _ => ?_⟩
        have e := hT.1 z
        rw [gX_U (hS.1 z).2.2.1, if_neg (hn z), if_neg (fun q => h40 ⟨z, q⟩)] at e
        exact e
      · rw [if_neg z]
        exact ⟨fun q => absurd q z, hT.2⟩
    · exfalso
      have := S'.fl.2.mp h0
      by_cases z : r.1 = 0
      · rw [if_pos z] at this; exact absurd this (Nat.succ_ne_zero 0)
      · rw [if_neg z] at this; exact z this
  have tr : (0 ≤ (m.1 70 11).toInt ∧ (m.1 70 11).toInt < 403) := ⟨a2.1, by have := a2.2; unfold tt at this; omega⟩
  have goes : ∀ (z : r.1 = 0) (hu : K r.2 = 23 ∨ (13 ≤ K r.2 ∧ K r.2 ≤ 21)), TG K o true (rb r gst) T := fun z hu => by
    have e := hT.1 z
    rw [gX_U (hS.1 z).2.2.1, if_pos hu] at e
    rw [rb_k z]
    unfold gst
    by_cases q : 400 ≤ r.2
    · rw [if_pos q] at e ⊢
      exact ⟨fun w => absurd w (Nat.succ_ne_zero 1), fun _ => e⟩
    · rw [if_neg q] at e ⊢
      exact ⟨fun _ => e, fun w => absurd rfl w⟩
  refine v_X12_unit_70 ?_
  refine Wp.deep (q_is (k := 23) hv hRm hS (by decide) (by unfold vk; omega) (fun h1 hk => ⟨fun q => absurd q (by decide), fun _ => ⟨tr, ?_⟩⟩) (fun h1 => ⟨fun _ => ⟨fun q => bad (fun z => absurd (hf.2.mpr z) q), fun h0 => ⟨tr, fun _ => bad ?_, fun hk => ⟨tr, fun _ => bad ?_, fun hk2 => ⟨tr, ?_⟩⟩⟩⟩, fun q => absurd rfl q⟩)) (Nat.le_of_ble_eq_true rfl)
  · exact er_emit hs hme hv hR h h2 hS (hf.2.mpr h1) (fun _ => by omega) ⟨by decide, fun q => absurd rfl q⟩ (fun m' z g' S' e => v_X12_unit_70_93 (hQ m' _ z g' S' (goes h1 (Or.inl hk)) (fun h0 => ⟨(e h0).1, hf.2.mpr h1, (e h0).2⟩)))
  all_goals
    have h0 : flt m = 0 := h0
    have z := hf.2.mp h0
    obtain ⟨b1, b2, b3, b4, b5⟩ := hS.1 z
    have ek : (m.1 73 (m.1 70 11).toNatClampNeg).toInt = rk (K r.2) := by
      rw [d_cn (show (m.1 70 11).toInt = (r.2 : Int) from b2)]
      exact (hRm r.2 b3 b4).1
    have ra := rk_rg (hv r.2)
    have ra1 := ra.1
    have ra2 := ra.2.1
    have n23 : K r.2 ≠ 23 := fun q => h1 ⟨z, q⟩
  · intro _ hu
    have := ra2 (by omega)
    omega
  · have := ra.2.2
    exfalso
    omega
  · have f := dSubE (X := (m.1 73 (m.1 70 11).toNatClampNeg).toInt) (Y := 33) (x := m.1 73 (m.1 70 11).toNatClampNeg) (y := (33 : Int32)) rfl (by decide) (by omega) (by omega)
    have hu : 13 ≤ K r.2 ∧ K r.2 ≤ 21 := by
      have := ra1 (by omega)
      have := ra2 this
      omega
    exact er_emit hs hme hv hR h h2 hS h0 (fun _ => by omega) ⟨by decide, fun _ => by omega⟩ (fun m' z g' S' e => v_X12_unit_70_93 (hQ m' _ z g' S' (goes (hf.2.mp h0) (Or.inr hu)) (fun h0' => ⟨(e h0').1, h0, (e h0').2⟩)))
theorem er_out {m : dM} {o p c : Nat} {x : Int32} {Q : dM → Prop} (hs : s ≤ 1) (hme : 420 * (s : Int) ≤ cds me) (h : ES me s m o p c (p + 1)) (h2 : m.2 = me.2) (hS : ST K P m r W) (hQ : ∀ (m' : dM) (p' c' : Nat), ES me s m' o p' c' (p' + 1) → c' ≤ 1 → (x.toInt = 0 → c' = 0) → tt m' = tt m → flt m' = flt m → m'.1 73 = m.1 73 → m'.1 70 11 = m.1 70 11 → m'.2 = me.2 → ST K P m' r W → Q m') : c_X12_comesOut_70 2 x m Q := by
  obtain ⟨⟨x1, x2, x3, x4⟩, a2, a3, a4, a5, a6, a7, ⟨q, a8, a8'⟩, a9, a10, a11⟩ := h
  have hl := Wk_len a7
  have h0 : (cds m) = ((cds me).toNat : Int) + q := by omega
  refine co_1 (c0 := (cds me).toNat) (B := 420 * s + 401) (by omega) (o + p) m o p c q (by omega) a6 a7 h0 a8' a9 ?_
  intro m' n' p' c' q' hF b1 b2 b3 b4 b5 b6 b7 b8 b9
  have hl' := Wk_len b2
  have t1 : tt m' = tt m := by unfold tt; rw [hF.2.1 11 (by decide) (by decide)]
  have f1 : flt m' = flt m := by unfold flt; rw [hF.2.1 13 (by decide) (by decide)]
  have u1 : wst m' = wst m := by unfold wst; rw [hF.2.1 15 (by decide) (by decide)]
  have o1 : opn m' = o := by unfold opn; rw [hF.2.1 12 (by decide) (by decide)]; exact a5
  refine hQ m' p' c' ⟨⟨fun k e1 e2 e3 e4 => (hF.1 k e1 e2 e3).trans (x1 k e1 e2 e3 e4), fun j e1 e2 e3 e4 e5 e6 e7 e8 => (hF.2.1 j e7 e8).trans (x2 j e1 e2 e3 e4 e5 e6 e7 e8), fun j hj => ?_, x4.tr (Wz.eq u1)⟩, by omega, by omega, by omega, o1, by rw [← hl'.1]; exact b1, by rw [← hl'.1]; exact b2, ⟨q', by omega, b6⟩, by omega, fun hz => ?_, a11⟩ b3 b4 t1 f1 (hF.1 73 (by decide) (by decide) (by decide)) (hF.2.1 11 (by decide) (by decide)) (b9.trans h2) (hS.of (hF.2.1 11 (by decide) (by decide)) (hF.2.1 13 (by decide) (by decide)) (hF.2.1 14 (by decide) (by decide)) (hF.2.1 15 (by decide) (by decide)) (hF.2.1 16 (by decide) (by decide)))
  · have g1 := hF.2.2 j (by omega)
    have g2 := x3 j hj
    exact ⟨g1.1.trans g2.1, g1.2.trans g2.2⟩
  · have := a10 (by omega)
    omega
theorem er_204 {m : dM} {o p c : Nat} {Q : dM → Prop} (hs : s ≤ 1) (hme : 420 * (s : Int) ≤ cds me) (hQ : ∀ m', EQ me s m' → m'.2 = me.2 → ST K P m' T W → Q m') (h : ES me s m o p c (p + 1)) (h2 : m.2 = me.2) (hS : ST K P m T W) (hz : flt m = 0 → o = 0 ∧ tt me + 1 ≤ tt m) : j_X12_expression_70_204 4 m Q := by
  refine v_X12_expression_70_204 ?_
  refine Wp.deep (er_out hs hme h h2 hS (fun m' p' c' h' b1 b2 b3 b4 _ _ g' S' => hQ m' ⟨h'.z, fun h0 => ?_⟩ g' S')) (Nat.le_of_ble_eq_true rfl)
  have hz := hz (by omega)
  have ho := hz.1
  subst ho
  obtain ⟨-, a2, a3, a4, a5, a6, a7, ⟨q, a8, a8'⟩, a9, a10, a11⟩ := h'
  have hl := Wk_len a7
  have hp : p' = 0 := by have := b2 (by decide); omega
  subst hp
  have hb := a10 h0
  refine ⟨by omega, by omega, by omega, by omega, by omega, by omega, by omega, ?_⟩
  rw [show (cds m' - cds me).toNat = q by omega]
  exact gDp_seg a8'
/-- a sign is pushed, and it goes on -/
theorem er_push {m : dM} {o p c cn : Nat} {Q : dM → Prop} (hs : s ≤ 1) (hR : RM K V P me) (h : ES me s m o p c (p + 1)) (h2 : m.2 = me.2) (hS : ST K P m r W) (hk : r.1 = 0 → K r.2 ≠ 24 ∧ K r.2 ≠ 25) (h0 : flt m = 0) (hW : Wk (upd (m.1 104) (o + p) (m.1 73 (m.1 70 11).toNatClampNeg)) (o + p + 1) o (p + 1) cn) (hQ : ∀ m', ES me s m' o (p + 1) cn (p + 1) → Mv 1 m m' ∨ tt m + 1 ≤ tt m' ∨ 0 < flt m' → (flt m' = 0 → tt m' = tt m + 1) → m'.2 = me.2 → ST K P m' (rb r gst) W → Q m') : (0 ≤ (m.1 70 11).toInt ∧ (m.1 70 11).toInt < 403) ∧ (0 ≤ (m.1 70 50).toInt ∧ (m.1 70 50).toInt < 64) ∧ c_X12_goesOn_70 3 (dSet (dSet m 104 (m.1 70 50).toNatClampNeg (m.1 73 (m.1 70 11).toNatClampNeg)) 70 50 ((m.1 70 50) + (1 : Int32))) Q := by
  obtain ⟨⟨x1, x2, x3, x4⟩, a2, a3, a4, a5, a6, a7, ⟨q, a8, a8'⟩, a9, a10, a11⟩ := h
  have hl := Wk_len a7
  have ew : (m.1 70 50).toInt = wtg m := rfl
  have et : (m.1 70 11).toInt = tt m := rfl
  have eW : (m.1 70 50).toNatClampNeg = o + p := by
    have := d_cl (x := m.1 70 50) (by omega)
    omega
  have fw := dAddE (X := wtg m) (Y := 1) (x := m.1 70 50) (y := (1 : Int32)) rfl (by decide) (by omega) (by omega)
  have hb := a10 h0
  refine ⟨by omega, by omega, ?_⟩
  rw [eW]
  have XM : XF me s (dSet (dSet m 104 (o + p) (m.1 73 (m.1 70 11).toNatClampNeg)) 70 50 ((m.1 70 50) + (1 : Int32))) := ⟨fun k e1 e2 e3 e4 => by rw [dSet_k e1, dSet_k e4]; exact x1 k e1 e2 e3 e4, fun j e1 e2 e3 e4 e5 e6 e7 e8 => by rw [dSet_j e8, dSet_k (by decide)]; exact x2 j e1 e2 e3 e4 e5 e6 e7 e8, fun j hj => x3 j hj, x4⟩
  refine Wp.deep (r_goesOn (m := dSet (dSet m 104 (o + p) (m.1 73 (m.1 70 11).toNatClampNeg)) 70 50 ((m.1 70 50) + (1 : Int32))) (hR.xf XM h2) (hS.of rfl rfl rfl rfl rfl) hk (fun m3 h3 g3 S3 => ?_)) (Nat.le_of_ble_eq_true rfl)
  obtain ⟨k1, k2, k3, k4, k5⟩ := h3
  have k4 : (flt m = 0 ∧ flt m3 = 0 ∧ tt m3 = tt m + 1) ∨ (0 < flt m3 ∧ tt m ≤ tt m3 ∧ tt m3 ≤ tt m + 1) := k4
  have k5 : Wz m m3 := k5
  have hf3 : 0 ≤ flt m3 := by rcases k4 with z | z <;> omega
  have ht3 : tt m ≤ tt m3 := by rcases k4 with z | z <;> omega
  have e46 : m3.1 70 46 = m.1 70 46 := k2 46 (by decide) (by decide) (by decide) (by decide) (by decide)
  have c3 : cds m3 = cds m := by unfold cds; rw [e46]
  refine hQ m3 ⟨⟨fun k e1 e2 e3 e4 => (k1 k e1).trans (by rw [dSet_k e1, dSet_k e4]; exact x1 k e1 e2 e3 e4), fun j e1 e2 e3 e4 e5 e6 e7 e8 => (k2 j e1 e3 e4 e5 e6).trans (by rw [dSet_j e8, dSet_k (by decide)]; exact x2 j e1 e2 e3 e4 e5 e6 e7 e8), fun j hj => ?_, x4.tr k5⟩, k3, by omega, hf3, ?_, ?_, ?_, ⟨q, by omega, gDp_congr (fun j _ _ => by rw [k1 102 (by decide), k1 103 (by decide)]; exact ⟨rfl, rfl⟩) a8'⟩, by omega, fun hz => ?_, a11⟩ ?_ (fun hz => by rcases k4 with z | z <;> omega) (g3.trans h2) S3
  · rw [k1 102 (by decide), k1 103 (by decide)]; exact x3 j hj
  · unfold opn; rw [k2 12 (by decide) (by decide) (by decide) (by decide) (by decide)]; exact a5
  · unfold wtg; rw [k2 50 (by decide) (by decide) (by decide) (by decide) (by decide)]; show (m.1 70 50 + (1 : Int32)).toInt = _; omega
  · rw [k1 104 (by decide), dSet_k (by decide), dSet_f, show o + (p + 1) = o + p + 1 by omega]; exact hW
  · rcases k4 with z | z <;> omega
  · right
    rcases k4 with z | z <;> omega
end RGX
end
section
/-! THE REFERENCE's expression, exactly, from its start to its end -/
section RGM
variable {K : Nat → Int} {V : Nat → Int64} {P : Nat → Nat} {W : gR} {me : dM} {s : Nat} {T : gR}
def GX (K : Nat → Int) (P : Nat → Nat) (me : dM) (s : Nat) (m : dM) (o p c D : Nat) (ph : Bool) (r T W : gR) : Prop := ES me s m o p c D ∧ m.2 = me.2 ∧ ST K P m r W ∧ TG K o ph r T
/-- behind a step -/
theorem TG.st {o o' : Nat} {ph ph' : Bool} {r T : gR} (h : TG K o ph r T) (h0 : r.1 = 0 → gX K 0 o ph r.2 = if 400 ≤ r.2 then (2, r.2) else gX K 0 o' ph' (r.2 + 1)) : TG K o' ph' (rb r gst) T := by
  by_cases z : r.1 = 0
  · have e := h.1 z
    rw [h0 z] at e
    rw [rb_k z]
    unfold gst
    by_cases q : 400 ≤ r.2
    · rw [if_pos q] at e ⊢
      exact ⟨fun w => absurd w (Nat.succ_ne_zero 1), fun _ => e⟩
    · rw [if_neg q] at e ⊢
      exact ⟨fun _ => e, fun w => absurd rfl w⟩
  · rw [rb_f z]
    exact ⟨fun q => absurd q z, h.2⟩
/-- behind a fault -/
theorem TG.fa {o o' : Nat} {ph ph' : Bool} {r T : gR} {c : Nat} (h : TG K o ph r T) (hc : c ≠ 0) (h0 : r.1 = 0 → gX K 0 o ph r.2 = (c, r.2)) : TG K o' ph' (if r.1 = 0 then (c, r.2) else r) T ∧ (if r.1 = 0 then (c, r.2) else r) = T ∧ T.1 ≠ 0 := by
  by_cases z : r.1 = 0
  · have e := h.1 z
    rw [h0 z] at e
    rw [if_pos z]
    exact ⟨⟨fun w => absurd w hc, fun _ => e⟩, e, by rw [← e]; exact hc⟩
  · rw [if_neg z]
    exact ⟨⟨fun q => absurd q z, h.2⟩, h.2 z, by rw [← h.2 z]; exact z⟩
theorem er_main {Q : dM → Prop} (hs : s ≤ 1) (hme : 420 * (s : Int) ≤ cds me) (hv : ∀ i, vk (K i)) (hR : RM K V P me) (hQ : ∀ m', EQ me s m' → m'.2 = me.2 → ST K P m' T W → Q m') : ∀ n : Nat,
    (∀ (x1 : Int32) (m : dM) (o p c : Nat) (r : gR), x1.toInt = 0 → GX K P me s m o p c p false r T W → mu m 6 3 n → j_X12_expression_70_12 4 x1 (1 : Int32) m Q) ∧
    (∀ (x1 : Int32) (m : dM) (o p c : Nat) (r : gR), x1.toInt = 0 → GX K P me s m o p c p false r T W → mu m 5 3 n → j_X12_expression_70_23 4 x1 m Q) ∧
    (∀ (x1 : Int32) (m : dM) (o p c : Nat) (r : gR), x1.toInt = 0 → GX K P me s m o p c p false r T W → o ≤ 6 → (flt m = 0 → o ≤ 5) → (r.1 = 0 → K r.2 = 40) → mu m 4 4 n → j_X12_expression_70_46 4 x1 m Q) ∧
    (∀ (x1 : Int32) (m : dM) (o p c : Nat) (r : gR), x1.toInt = 0 → GX K P me s m o p c (p + 1) true r T W → (flt m = 0 → tt me + 1 ≤ tt m) → mu m 6 3 n → j_X12_expression_70_96 4 x1 m Q) ∧
    (∀ (x1 : Int32) (m : dM) (o p c : Nat) (r : gR), x1.toInt = 0 → GX K P me s m o p c (p + 1) true r T W → (flt m = 0 → tt me + 1 ≤ tt m) → (r.1 = 0 → ¬ (K r.2 = 41 ∧ 0 < o)) → mu m 5 2 n → j_X12_expression_70_145 4 x1 m Q) ∧
    (∀ (x1 : Int32) (m : dM) (o p c : Nat) (r : gR), x1.toInt = 0 → GX K P me s m o p c (p + 1) true r T W → r.1 = 0 → tt me + 1 ≤ tt m → (K r.2 = 43 ∨ K r.2 = 45 ∨ K r.2 = 42 ∨ K r.2 = 47) → mu m 4 0 n → j_X12_expression_70_181 4 x1 m Q) := by
  intro n
  induction n with
  | zero =>
    refine ⟨fun x1 m o p c r hx h hμ => ?_, fun x1 m o p c r hx h hμ => ?_, fun x1 m o p c r hx h h6 h5 h40 hμ => ?_, fun x1 m o p c r hx h ht hμ => ?_, fun x1 m o p c r hx h ht h41 hμ => ?_, fun x1 m o p c r hx h h0 ht hk hμ => ?_⟩ <;> (have := h.1.2.1; exfalso; rcases hμ with q | q <;> omega)
  | succ n ih =>
    refine ⟨fun x1 m o p c r hx h hμ => ?_, fun x1 m o p c r hx h hμ => ?_, fun x1 m o p c r hx h h6 h5 h40 hμ => ?_, fun x1 m o p c r hx h ht hμ => ?_, fun x1 m o p c r hx h ht h41 hμ => ?_, fun x1 m o p c r hx h h0 ht hk hμ => ?_⟩
    · -- 12
      have hfl := h.2.2.1.fl
      have bad : flt m ≠ 0 → j_X12_expression_70_272 4 m Q := fun hf => v_X12_expression_70_272 (hQ m ⟨h.1.z, fun h0 => absurd h0 hf⟩ h.2.1 (by
        have z : r.1 ≠ 0 := fun z => hf (hfl.2.mpr z)
        rw [← h.2.2.2.2 z]; exact h.2.2.1))
      refine v_X12_expression_70_12 ⟨fun q => absurd q (by decide), fun _ => ⟨fun hf => bad hf, fun hf => ?_⟩⟩
      have hf : flt m = 0 := hf
      refine ih.2.1 x1 m o p c r hx h ?_
      left
      rcases hμ with q | q <;> omega
    · -- 23
      obtain ⟨hE, h2, hS, hT⟩ := h
      have hRm := hR.xf hE.1 h2
      have hfl := hS.fl
      refine v_X12_expression_70_23 ?_
      refine Wp.deep (q_is (k := 40) hv hRm hS (by decide) (by unfold vk; omega) (fun z hk => ⟨fun q => absurd q (by decide), fun _ => ?_⟩) (fun h1 => ⟨fun _ => ?_, fun q => absurd rfl q⟩)) (Nat.le_of_ble_eq_true rfl)
      · have h1 : flt m = 0 := hfl.2.mpr z
        have hb := hE.2.2.2.2.2.2.2.2.2.1 h1
        have eo : (m.1 70 12).toInt = o := hE.2.2.2.2.1
        refine ⟨fun hne => ?_, fun he => ?_⟩
        · refine ih.2.2.1 x1 m o p c r hx ⟨hE, h2, hS, hT⟩ (by omega) (fun _ => by omega) (fun _ => hk) ?_
          rcases hμ with q | q
          · left; omega
          · right; omega
        · have fa := TG.fa (o' := o) (ph' := false) (c := 2) hT (by decide) (fun _ => by rw [gX_U (hS.1 z).2.2.1, if_neg (by omega), if_pos hk, if_pos (by omega)])
          refine Wp.deep (r_fail hRm hS (c := 2) (by decide) (by decide) (fun m3 h3 g3 S3 => ?_)) (Nat.le_of_ble_eq_true rfl)
          have hf3 : flt m3 ≠ 0 := fun q => by
            have := S3.fl.2.mp q
            rw [fa.2.1] at this
            exact fa.2.2 this
          have hf4 := S3.fl.1
          refine ih.2.2.1 x1 m3 o p c _ hx ⟨hE.mv h3 (by decide), g3.trans h2, S3, fa.1⟩ (by omega) (fun q => by exfalso; omega) (fun q => by exfalso; rw [fa.2.1] at q; exact fa.2.2 q) ?_
          right
          have := hE.2.1
          rcases hμ with q | q <;> omega
      · refine r_unit hs hme hv hR hE h2 hS hT h1 (fun m2 r2 z g2 S2 T2 e => ⟨fun hc => ?_, fun hc => ?_⟩)
        · have hc : flt m2 ≤ 0 := hc
          have h0 : flt m2 = 0 := by have := z.2.2.2.1; omega
          have e := e h0
          refine ih.2.2.2.1 x1 m2 o p c r2 hx ⟨e.1, g2, S2, T2⟩ (fun _ => by have := hE.2.2.1; omega) ?_
          left
          have := hE.2.1
          rcases hμ with q | q <;> omega
        · have hc : 0 < flt m2 := hc
          have z2 : r2.1 ≠ 0 := fun q => by have := S2.fl.2.mpr q; omega
          exact hQ m2 ⟨z, fun h0 => by exfalso; omega⟩ g2 (by rw [← T2.2 z2]; exact S2)
    · -- 46
      obtain ⟨hE, h2, hS, hT⟩ := h
      have hfl := hS.fl
      have hT1 : TG K (o + 1) false (rb r gst) T := hT.st (fun z => by
        have := h5 (hfl.2.mpr z)
        have k40 := h40 z
        rw [gX_U (hS.1 z).2.2.1, if_neg (by omega), if_pos k40, if_neg (by omega)])
      obtain ⟨⟨x1', x2', x3', x4'⟩, a2, a3, a4, a5, a6, a7, ⟨q, a8, a8'⟩, a9, a10, a11⟩ := hE
      have eo : (m.1 70 12).toInt = o := a5
      have fo := dAddE (X := (o : Int)) (Y := 1) (x := m.1 70 12) (y := (1 : Int32)) eo (by decide) (by omega) (by omega)
      have XM : XF me s (dSet m 70 12 ((m.1 70 12) + (1 : Int32))) := ⟨fun k e1 e2 e3 e4 => by rw [dSet_k e1]; exact x1' k e1 e2 e3 e4, fun j e1 e2 e3 e4 e5 e6 e7 e8 => by rw [dSet_j e2]; exact x2' j e1 e2 e3 e4 e5 e6 e7 e8, fun j hj => x3' j hj, x4'⟩
      refine v_X12_expression_70_46 ?_
      refine Wp.deep (r_goesOn (m := dSet m 70 12 ((m.1 70 12) + (1 : Int32))) (hR.xf XM h2) (hS.of rfl rfl rfl rfl rfl) (fun z => by have := h40 z; omega) (fun m1 h1 g1 S1 => ?_)) (Nat.le_of_ble_eq_true rfl)
      have g1 : m1.2 = m.2 := g1
      obtain ⟨k1, k2, k3, k4, k5⟩ := h1
      have k4 : (flt m = 0 ∧ flt m1 = 0 ∧ tt m1 = tt m + 1) ∨ (0 < flt m1 ∧ tt m ≤ tt m1 ∧ tt m1 ≤ tt m + 1) := k4
      have k5 : Wz m m1 := k5
      have hf1 : 0 ≤ flt m1 := by rcases k4 with z | z <;> omega
      have ht1 : tt m ≤ tt m1 := by rcases k4 with z | z <;> omega
      have hl := Wk_len a7
      have e50 : m1.1 70 50 = m.1 70 50 := k2 50 (by decide) (by decide) (by decide) (by decide) (by decide)
      have ew : (m1.1 70 50).toInt = (o + p : Nat) := by rw [e50]; exact a6
      have eW : (m1.1 70 50).toNatClampNeg = o + p := by
        have := d_cl (x := m1.1 70 50) (by omega)
        omega
      have fw := dAddE (X := ((o + p : Nat) : Int)) (Y := 1) (x := m1.1 70 50) (y := (1 : Int32)) ew (by decide) (by omega) (by omega)
      refine ⟨by omega, ?_⟩
      rw [eW]
      have e46 : m1.1 70 46 = m.1 70 46 := k2 46 (by decide) (by decide) (by decide) (by decide) (by decide)
      have c1 : cds (dSet (dSet m1 104 (o + p) (6 : Int32)) 70 50 ((m1.1 70 50) + (1 : Int32))) = cds m := by show (m1.1 70 46).toInt = _; rw [e46]; rfl
      have f1 : flt (dSet (dSet m1 104 (o + p) (6 : Int32)) 70 50 ((m1.1 70 50) + (1 : Int32))) = flt m1 := rfl
      have t1 : tt (dSet (dSet m1 104 (o + p) (6 : Int32)) 70 50 ((m1.1 70 50) + (1 : Int32))) = tt m1 := rfl
      refine ih.2.1 x1 _ (o + 1) p 0 _ hx ⟨⟨⟨fun k e1 e2 e3 e4 => by rw [dSet_k e1, dSet_k e4, k1 k e1, dSet_k e1]; exact x1' k e1 e2 e3 e4, fun j e1 e2 e3 e4 e5 e6 e7 e8 => by rw [dSet_j e8, dSet_k (by decide), k2 j e1 e3 e4 e5 e6, dSet_j e2]; exact x2' j e1 e2 e3 e4 e5 e6 e7 e8, fun j hj => ?_, x4'.tr k5⟩, by omega, by omega, by omega, ?_, ?_, ?_, ⟨q, by omega, gDp_congr (fun j _ _ => ?_) a8'⟩, by omega, fun hz => ?_, by omega⟩, g1.trans h2, S1.of rfl rfl rfl rfl rfl, hT1⟩ ?_
      · rw [dSet_k (by decide), dSet_k (by decide), dSet_k (by decide), dSet_k (by decide), k1 102 (by decide), k1 103 (by decide)]; exact x3' j hj
      · show (m1.1 70 12).toInt = _
        rw [k2 12 (by decide) (by decide) (by decide) (by decide) (by decide)]
        show (m.1 70 12 + (1 : Int32)).toInt = _
        omega
      · show (m1.1 70 50 + (1 : Int32)).toInt = _
        omega
      · rw [dSet_k (by decide), dSet_f, show o + 1 + p = o + p + 1 by omega]
        refine Or.inl ⟨by unfold upd; rw [if_pos rfl]; decide, rfl, o, c, rfl, Wk_congr (fun j hj => ?_) a7⟩
        unfold upd
        rw [if_neg (by omega), k1 104 (by decide)]
        rfl
      · rw [dSet_k (by decide), dSet_k (by decide), dSet_k (by decide), dSet_k (by decide), k1 102 (by decide), k1 103 (by decide)]; exact ⟨rfl, rfl⟩
      · have h0 : flt m = 0 := by rcases k4 with z | z <;> omega
        have := a10 h0
        have := h5 h0
        omega
      · unfold mu
        rw [f1, t1]
        rcases k4 with z | z
        · left; rcases hμ with q | q <;> omega
        · right; rcases hμ with q | q <;> omega
    · -- 96
      have hE := h.1
      have h2 := h.2.1
      have hS := h.2.2.1
      have hT := h.2.2.2
      have hRm := hR.xf hE.1 h2
      have go : (r.1 = 0 → ¬ (K r.2 = 41 ∧ 0 < o)) → j_X12_expression_70_145 4 x1 m Q := fun hn => by
        refine ih.2.2.2.2.1 x1 m o p c r hx h ht hn ?_
        rcases hμ with q | q
        · left; omega
        · right; omega
      have eo : (m.1 70 12).toInt = o := hE.2.2.2.2.1
      refine v_X12_expression_70_96 ?_
      refine Wp.deep (q_is (k := 41) hv hRm hS (by decide) (by unfold vk; omega) (fun z hk => ⟨fun q => absurd q (by decide), fun _ => ⟨fun ho => go (fun _ q => by omega), fun ho => ?_⟩⟩) (fun h1 => ⟨fun _ => go (fun z q => h1 ⟨z, q.1⟩), fun q => absurd rfl q⟩)) (Nat.le_of_ble_eq_true rfl)
      have f0 : flt m = 0 := hS.fl.2.mpr z
      have hT1 : TG K (o - 1) true (rb r gst) T := hT.st (fun z => by rw [gX_O (hS.1 z).2.2.1, if_neg (by omega), if_pos (by omega), if_pos hk])
      refine Wp.deep (er_out hs hme hE h2 hS (fun m2 p' c' h' b1 b2 b3 b4 _ _ g2 S2 => ?_)) (Nat.le_of_ble_eq_true rfl)
      have hc' : c' = 0 := b2 (by decide)
      subst hc'
      obtain ⟨⟨x1', x2', x3', x4'⟩, a2, a3, a4, a5, a6, a7, ⟨q, a8, a8'⟩, a9, a10, a11⟩ := h'
      obtain ⟨o1, rfl⟩ : ∃ o1, o = o1 + 1 := ⟨o - 1, by omega⟩
      have eW : o1 + 1 + p' = (o1 + p') + 1 := by omega
      rw [eW] at a7
      have a7' := a7
      unfold Wk at a7'
      rcases a7' with ⟨-, -, o2, c2, d, w⟩ | ⟨-, b, -⟩ | ⟨-, b, -⟩
      · have ho2 : o2 = o1 := by omega
        subst ho2
        have ew : (m2.1 70 50).toInt = (o2 + 1 + p' : Nat) := a6
        have e12 : (m2.1 70 12).toInt = (o2 + 1 : Nat) := a5
        have fw := dSubE (X := ((o2 + 1 + p' : Nat) : Int)) (Y := 1) (x := m2.1 70 50) (y := (1 : Int32)) ew (by decide) (by omega) (by omega)
        have fo := dSubE (X := ((o2 + 1 : Nat) : Int)) (Y := 1) (x := m2.1 70 12) (y := (1 : Int32)) e12 (by decide) (by omega) (by omega)
        have hM : ES me s (dSet (dSet m2 70 50 ((m2.1 70 50) - (1 : Int32))) 70 12 ((m2.1 70 12) - (1 : Int32))) o2 p' c2 (p' + 1) := by
          refine ⟨⟨fun k e1 e2 e3 e4 => by rw [dSet_k e1, dSet_k e1]; exact x1' k e1 e2 e3 e4, fun j e1 e2 e3 e4 e5 e6 e7 e8 => by rw [dSet_j e2, dSet_j e8]; exact x2' j e1 e2 e3 e4 e5 e6 e7 e8, fun j hj => x3' j hj, x4'⟩, a2, a3, a4, ?_, ?_, w, ⟨q, a8, gDp_congr (g := m2.1) (fun j _ _ => ⟨rfl, rfl⟩) a8'⟩, a9, fun hz => ?_, by omega⟩
          · show (m2.1 70 12 - (1 : Int32)).toInt = _; omega
          · show (m2.1 70 50 - (1 : Int32)).toInt = _; omega
          · have := a10 hz
            refine ⟨this.1, by omega⟩
        refine Wp.deep (r_goesOn (m := dSet (dSet m2 70 50 ((m2.1 70 50) - (1 : Int32))) 70 12 ((m2.1 70 12) - (1 : Int32))) (hR.xf hM.1 g2) (S2.of rfl rfl rfl rfl rfl) (fun _ => by omega) (fun m3 h3 g3 S3 => ?_)) (Nat.le_of_ble_eq_true rfl)
        have g3 : m3.2 = m2.2 := g3
        have k4 : (flt m2 = 0 ∧ flt m3 = 0 ∧ tt m3 = tt m2 + 1) ∨ (0 < flt m3 ∧ tt m2 ≤ tt m3 ∧ tt m3 ≤ tt m2 + 1) := h3.2.2.2.1
        refine ih.2.2.2.1 x1 m3 o2 p' c2 _ hx ⟨hM.mv h3 (by decide), g3.trans g2, S3, hT1⟩ (fun h0 => ?_) ?_
        · rcases k4 with z | z
          · have := ht (by omega); omega
          · omega
        · unfold mu
          rcases k4 with z | z
          · left; rcases hμ with q | q <;> omega
          · right; rcases hμ with q | q <;> omega
      · exact absurd b (by decide)
      · exact absurd b (by decide)
    · -- 145
      have hE := h.1
      have h2 := h.2.1
      have hS := h.2.2.1
      have hT := h.2.2.2
      have hRm := hR.xf hE.1 h2
      have hfl := hS.fl
      have nx : r.1 = 0 → (K r.2 = 43 ∨ K r.2 = 45 ∨ K r.2 = 42 ∨ K r.2 = 47) → j_X12_expression_70_181 4 x1 m Q := fun z hk => by
        have h0 := hfl.2.mpr z
        refine ih.2.2.2.2.2 x1 m o p c r hx h z (ht h0) hk ?_
        rcases hμ with q | q
        · left; omega
        · right; omega
      have eo : (m.1 70 12).toInt = o := hE.2.2.2.2.1
      refine v_X12_expression_70_145 ?_
      refine Wp.deep (q_is (k := 43) hv hRm hS (by decide) (by unfold vk; omega) (fun z hk => ⟨fun _ => nx z (by omega), fun q => absurd q (by decide)⟩) (fun n1 => ⟨fun q => absurd rfl q, fun _ => ?_⟩)) (Nat.le_of_ble_eq_true rfl)
      refine Wp.deep (q_is (k := 45) hv hRm hS (by decide) (by unfold vk; omega) (fun z hk => ⟨fun _ => nx z (by omega), fun q => absurd q (by decide)⟩) (fun n2 => ⟨fun q => absurd rfl q, fun _ => ?_⟩)) (Nat.le_of_ble_eq_true rfl)
      refine Wp.deep (q_is (k := 42) hv hRm hS (by decide) (by unfold vk; omega) (fun z hk => ⟨fun _ => nx z (by omega), fun q => absurd q (by decide)⟩) (fun n3 => ⟨fun q => absurd rfl q, fun _ => ?_⟩)) (Nat.le_of_ble_eq_true rfl)
      refine Wp.deep (q_is (k := 47) hv hRm hS (by decide) (by unfold vk; omega) (fun z hk => ⟨fun q => absurd q (by decide), fun _ => nx z (by omega)⟩) (fun n4 => ⟨fun _ => ⟨fun ho => ?_, fun ho => ?_⟩, fun q => absurd rfl q⟩)) (Nat.le_of_ble_eq_true rfl)
      · have o0 : o = 0 := by omega
        refine er_204 hs hme hQ hE h2 ?_ (fun h0 => ⟨o0, ht h0⟩)
        by_cases z : r.1 = 0
        · have e := hT.1 z
          rw [gX_O (hS.1 z).2.2.1, if_neg (fun q => by rcases q with q | q | q | q; exact n1 ⟨z, q⟩; exact n2 ⟨z, q⟩; exact n3 ⟨z, q⟩; exact n4 ⟨z, q⟩), if_neg (by omega)] at e
          have er : r = (0, r.2) := by rw [← z]
          rw [← e, ← er]
          exact hS
        · rw [← hT.2 z]; exact hS
      · have fa := TG.fa (o' := o) (ph' := true) (c := 1) hT (by decide) (fun z => by rw [gX_O (hS.1 z).2.2.1, if_neg (fun q => by rcases q with q | q | q | q; exact n1 ⟨z, q⟩; exact n2 ⟨z, q⟩; exact n3 ⟨z, q⟩; exact n4 ⟨z, q⟩), if_pos (by omega), if_neg (fun q => h41 z ⟨q, by omega⟩)])
        refine Wp.deep (r_fail hRm hS (c := 1) (by decide) (by decide) (fun m5 h5 g5 S5 => ?_)) (Nat.le_of_ble_eq_true rfl)
        rw [fa.2.1] at S5
        exact er_204 hs hme hQ (hE.mv h5 (by decide)) (g5.trans h2) S5 (fun h0 => by exfalso; exact fa.2.2 (S5.fl.2.mp h0))
    · -- 181
      have hE := h.1
      have h2 := h.2.1
      have hS := h.2.2.1
      have hT := h.2.2.2
      have hRm := hR.xf hE.1 h2
      have hfl := hS.fl
      have f0 := hfl.2.mpr h0
      obtain ⟨s1, s2, s3, s4, s5⟩ := hS.1 h0
      have ek : (m.1 73 (m.1 70 11).toNatClampNeg).toInt = rk (K r.2) := by
        rw [d_cn (show (m.1 70 11).toInt = (r.2 : Int) from s2)]
        exact (hRm r.2 s3 s4).1
      have hT1 : TG K o false (rb r gst) T := hT.st (fun z => by rw [gX_O s3, if_pos hk])
      have hkk : r.1 = 0 → K r.2 ≠ 24 ∧ K r.2 ≠ 25 := fun _ => by omega
      have again : ∀ (m3 : dM) (p' c' : Nat), ES me s m3 o p' c' p' → (flt m3 = 0 → tt m3 = tt m + 1) → m3.2 = me.2 → ST K P m3 (rb r gst) W → j_X12_expression_70_12 4 x1 (1 : Int32) m3 Q := fun m3 p' c' h3 t3 g3 S3 => by
        refine ih.1 x1 m3 o p' c' _ hx ⟨h3, g3, S3, hT1⟩ ?_
        unfold mu
        have := h3.2.2.2.1
        have := hE.2.1
        by_cases hz : flt m3 = 0
        · left; have := t3 hz; rcases hμ with q | q <;> omega
        · right; rcases hμ with q | q <;> omega
      have strong : (rk (K r.2) = 10 ∨ rk (K r.2) = 15) → ∀ x : Int32, c_X12_comesOut_70 3 x m (fun m2 => (0 ≤ (m2.1 70 11).toInt ∧ (m2.1 70 11).toInt < 403) ∧ (0 ≤ (m2.1 70 50).toInt ∧ (m2.1 70 50).toInt < 64) ∧ c_X12_goesOn_70 3 (dSet (dSet m2 104 (m2.1 70 50).toNatClampNeg (m2.1 73 (m2.1 70 11).toNatClampNeg)) 70 50 ((m2.1 70 50) + (1 : Int32))) (fun m3 => j_X12_expression_70_12 4 x1 (1 : Int32) m3 Q)) := fun hk2 x => by
        refine Wp.deep (er_out hs hme hE h2 hS (fun m2 p' c' h' b1 b2 b3 b4 b5 b6 g2 S2 => ?_)) (Nat.le_of_ble_eq_true rfl)
        refine er_push (cn := 2) hs hR h' g2 S2 hkk (by omega) ?_ (fun m3 h3 _ t3 g3 S3 => again m3 _ _ h3 (fun hz => by have := t3 hz; omega) g3 S3)
        rw [b5, b6]
        refine Or.inr (Or.inr ⟨by unfold upd; rw [if_pos rfl, ek]; exact hk2, rfl, p', c', rfl, b1, Wk_congr (fun j hj => ?_) h'.2.2.2.2.2.2.1⟩)
        unfold upd
        rw [if_neg (by omega)]
      refine v_X12_expression_70_181 ?_
      refine Wp.deep (q_is (k := 42) hv hRm hS (by decide) (by unfold vk; omega) (fun z q2 => ⟨fun _ => strong (by rw [q2]; decide) _, fun q => absurd q (by decide)⟩) (fun g1 => ⟨fun q => absurd rfl q, fun _ => ?_⟩)) (Nat.le_of_ble_eq_true rfl)
      refine Wp.deep (q_is (k := 47) hv hRm hS (by decide) (by unfold vk; omega) (fun z q2 => ⟨fun q => absurd q (by decide), fun _ => strong (by rw [q2]; decide) _⟩) (fun g2 => ⟨fun _ => ?_, fun q => absurd rfl q⟩)) (Nat.le_of_ble_eq_true rfl)
      have hk2 : rk (K r.2) = 8 ∨ rk (K r.2) = 9 := by
        rcases hk with q | q | q | q
        · left; rw [q]; decide
        · right; rw [q]; decide
        · exact absurd ⟨h0, q⟩ g1
        · exact absurd ⟨h0, q⟩ g2
      refine Wp.deep (er_out hs hme hE h2 hS (fun m2 p' c' h' b1 b2 b3 b4 b5 b6 g2' S2 => ?_)) (Nat.le_of_ble_eq_true rfl)
      have hc' : c' = 0 := b2 (by decide)
      subst hc'
      refine er_push (cn := 1) hs hR h' g2' S2 hkk (by omega) ?_ (fun m3 h3 _ t3 g3 S3 => again m3 _ _ h3 (fun hz => by have := t3 hz; omega) g3 S3)
      rw [b5, b6]
      refine Or.inr (Or.inl ⟨by unfold upd; rw [if_pos rfl, ek]; exact hk2, rfl, p', rfl, Wk_congr (fun j hj => ?_) h'.2.2.2.2.2.2.1⟩)
      unfold upd
      rw [if_neg (by omega)]
theorem r_expression {Q : dM → Prop} {n : Nat} (hs : s ≤ 1) (hv : ∀ i, vk (K i)) (hR : RM K V P me) (hS : ST K P me (0, n) W) (ho : opn me = 0) (hc : 420 * (s : Int) ≤ cds me ∧ cds me ≤ 420 * s + tt me) (hQ : ∀ m', EQ me s m' → m'.2 = me.2 → ST K P m' (gE K n) W → Q m') : c_X12_expression_70 4 me Q := by
  refine v_X12_expression_70 ?_
  have ht := hS.2.2
  have hf : flt me = 0 := hS.fl.2.mpr rfl
  have hES : ES me s (dSet me 70 50 (0 : Int32)) 0 0 0 0 := by
    have c1 : cds (dSet me 70 50 (0 : Int32)) = cds me := rfl
    have f1 : flt (dSet me 70 50 (0 : Int32)) = flt me := rfl
    have t1 : tt (dSet me 70 50 (0 : Int32)) = tt me := rfl
    refine ⟨⟨fun k e1 _ _ _ => dSet_k e1, fun j _ _ _ _ _ _ _ e8 => dSet_j e8, fun j _ => ⟨rfl, rfl⟩, Wz.eq rfl⟩, by omega, by omega, by omega, ho, rfl, ⟨rfl, rfl, rfl⟩, ⟨0, by omega, rfl⟩, by omega, fun _ => ⟨by omega, by omega⟩, by omega⟩
  refine (er_main hs hc.1 hv hR hQ 4000).1 _ _ 0 0 0 (0, n) ho ⟨hES, rfl, hS.of rfl rfl rfl rfl rfl, fun _ => rfl, fun q => absurd rfl q⟩ ?_
  left
  have f1 : flt (dSet me 70 50 (0 : Int32)) = flt me := rfl
  have t1 : tt (dSet me 70 50 (0 : Int32)) = tt me := rfl
  omega
end RGM
end
section
/-! THE REFERENCE's law, exactly -/
theorem rb_as {r : gR} {f g : Nat → gR} : rb (rb r f) g = rb r (fun n => rb (f n) g) := by
  by_cases z : r.1 = 0
  · rw [rb_k z, rb_k z]
  · rw [rb_f z, rb_f z, rb_f z]
section RLW
variable {K : Nat → Int} {V : Nat → Int64} {P : Nat → Nat} {r W : gR}
theorem r_must {x1 : Int32} {k : Int} {m : dM} {Q : dM → Prop} (hv : ∀ i, vk (K i)) (hR : RM K V P m) (h : ST K P m r W) (hx : x1.toInt = rk k) (hk : vk k) (hk2 : k ≠ 24 ∧ k ≠ 25) (hQ : ∀ m' : dM, Mv 1 m m' → m'.2 = m.2 → ST K P m' (rb r (gnd K k)) W → Q m') : c_X12_must_70 3 x1 m Q := by
  refine v_X12_must_70 (Wp.deep (q_is hv hR h hx hk (fun z a => ⟨fun q => absurd q (by decide), fun _ => r_goesOn hR h (fun _ => by rw [a]; exact hk2) (fun m' hc g' h' => v_X12_must_70_20 (hQ m' hc g' ?_))⟩) (fun a => ⟨fun _ => Wp.deep (r_fail hR h (c := 1) (by decide) (by decide) (fun m' hc g' h' => v_X12_must_70_20 (hQ m' ⟨hc.1, hc.2.1, hc.2.2.1, Or.inr ?_, hc.2.2.2.2⟩ g' ?_))) (Nat.le_of_ble_eq_true rfl), fun q => absurd rfl q⟩)) (Nat.le_of_ble_eq_true rfl))
  · rw [rb_k z] at h' ⊢
    unfold gnd
    rw [if_pos a]
    exact h'
  · have hf' := h'.fl
    have : flt m' ≠ 0 := fun e => by
      have := hf'.2.mp e
      by_cases z : r.1 = 0
      · rw [if_pos z] at this; exact absurd this (Nat.succ_ne_zero 0)
      · rw [if_neg z] at this; exact z this
    rcases hc.2.2.2.1 with w | w <;> omega
  · by_cases z : r.1 = 0
    · rw [rb_k z]
      rw [if_pos z] at h'
      unfold gnd
      rw [if_neg (fun q => a ⟨z, q⟩)]
      exact h'
    · rw [rb_f z]
      rw [if_neg z] at h'
      exact h'
variable {mb : dM} {s : Nat} {T : gR}
theorem RM.lf {m : dM} (h : RM K V P mb) (hx : LF mb s m) (h2 : m.2 = mb.2) : RM K V P m := h.of (fun k a b => hx.1 k (by omega) (by omega)) (by rw [h2])
def LSz (mb : dM) (s : Nat) (e : Int) (bm : Int) (m : dM) : Prop := LF mb s m ∧ (0 ≤ tt m ∧ tt m ≤ 400) ∧ tt mb ≤ tt m ∧ 0 ≤ flt m ∧ (brs mb ≤ brs m ∧ brs m ≤ 130 * s + bm) ∧ (flt m = 0 → flt mb = 0 ∧ opn m = 0 ∧ (cds mb ≤ cds m ∧ cds m ≤ 420 * s + tt m) ∧ 4 * (brs m - 130 * s) + e ≤ tt m)
theorem LSz.mv {m m' : dM} {e bm : Int} {k : Int} (h : LSz mb s e bm m) (hm : Mv k m m') (hk : 0 ≤ k) : LSz mb s (e + k) bm m' := by
  obtain ⟨h1, h2, h3, h4, h5, h6⟩ := h
  have hm' := hm
  obtain ⟨k1, k2, k3, k4, k5⟩ := hm
  have b1 : brs m' = brs m := by unfold brs; rw [k2 40 (by decide) (by decide) (by decide) (by decide) (by decide)]
  have c1 : cds m' = cds m := by unfold cds; rw [k2 46 (by decide) (by decide) (by decide) (by decide) (by decide)]
  have o1 : opn m' = opn m := by unfold opn; rw [k2 12 (by decide) (by decide) (by decide) (by decide) (by decide)]
  refine ⟨h1.mv hm', k3, by rcases k4 with q | q <;> omega, by rcases k4 with q | q <;> omega, by omega, fun h0 => ?_⟩
  have z : flt m = 0 ∧ tt m' = tt m + k := by rcases k4 with q | q <;> omega
  have h6 := h6 z.1
  exact ⟨h6.1, by omega, by omega, by omega⟩
theorem LSz.br {m : dM} {k : Nat} {e bm : Int} {v : Int32} (h : LSz mb s e bm m) (hk : 97 ≤ k) (hk2 : k ≤ 101) (hb0 : 0 ≤ brs mb) (hb2 : bm < 130) : LSz mb s e bm (dSet m k (m.1 70 40).toNatClampNeg v) := by
  obtain ⟨h1, h2, h3, h4, h5, h6⟩ := h
  obtain ⟨e1, e2, e3, e4, e5⟩ := brs_set (m := m) (j := (m.1 70 40).toNatClampNeg) (v := v) (show k ≠ 70 by omega)
  refine ⟨h1.br hk hk2 h5.1 (by omega) (by omega), by omega, by omega, by omega, by omega, fun h0 => ?_⟩
  have h6 := h6 (by omega)
  exact ⟨h6.1, by omega, by omega, by omega⟩
theorem LSz.weak {m : dM} {e e' bm bm' : Int} (h : LSz mb s e bm m) (he : e' ≤ e) (hb : bm ≤ bm') : LSz mb s e' bm' m := by
  obtain ⟨h1, h2, h3, h4, h5, h6⟩ := h
  refine ⟨h1, h2, h3, h4, by omega, fun h0 => ?_⟩
  have h6 := h6 h0
  exact ⟨h6.1, h6.2.1, h6.2.2.1, by omega⟩
theorem LSz.bad {m : dM} {e e' bm : Int} (h : LSz mb s e bm m) (hf : 0 < flt m) : LSz mb s e' bm m := by
  obtain ⟨h1, h2, h3, h4, h5, h6⟩ := h
  exact ⟨h1, h2, h3, h4, h5, fun h0 => by exfalso; omega⟩
def LY (K : Nat → Int) (P : Nat → Nat) (mb : dM) (s : Nat) (e bm : Int) (m : dM) (r W : gR) : Prop := LSz mb s e bm m ∧ m.2 = mb.2 ∧ ST K P m r W
/-- an expression told within a law -/
theorem LY.ex {m : dM} {e bm : Int} {Q : dM → Prop} (hs : s ≤ 1) (hcb : 420 * (s : Int) ≤ cds mb) (hv : ∀ i, vk (K i)) (hR : RM K V P mb) (h : LY K P mb s e bm m r W) (hQ : ∀ m', LY K P mb s (e + 1) bm m' (rb r (gE K)) W → brs m' = brs m → tt m ≤ tt m' → (flt m' = 0 → flt m = 0) → Q m') : c_X12_expression_70 4 m Q := by
  obtain ⟨h, g2, hS⟩ := h
  by_cases z : r.1 = 0
  · have h0 : flt m = 0 := hS.fl.2.mpr z
    have h6 := h.2.2.2.2.2 h0
    have er : r = (0, r.2) := by rw [← z]
    have hS' : ST K P m (0, r.2) W := by rw [← er]; exact hS
    refine r_expression hs hv (hR.lf h.1 g2) hS' h6.2.1 ⟨by omega, h6.2.2.1.2⟩ (fun m' hq g' S' => ?_)
    obtain ⟨⟨x, z2, z3, z4, z5, z6⟩, hz⟩ := hq
    have b1 : brs m' = brs m := by unfold brs; rw [x.2.1 40 (by decide) (by decide) (by decide) (by decide) (by decide) (by decide) (by decide) (by decide)]
    refine hQ m' ⟨⟨h.1.xf h6.2.2.1.1 x, z2, by have := h.2.2.1; omega, z4, by have := h.2.2.2.2.1; omega, fun h0' => ?_⟩, g'.trans g2, by rw [rb_k z]; exact S'⟩ b1 z3 (fun _ => h0)
    have hz := hz h0'
    exact ⟨h6.1, hz.1, by omega, by omega⟩
  · have hf : 0 < flt m := by have := h.2.2.2.1; have := hS.fl.2; omega
    refine p_exprBad hf ?_
    have f1 : flt (dSet m 70 50 (0 : Int32)) = flt m := rfl
    obtain ⟨⟨h1, h2, h3, h4, h5⟩, t2, t3, t4, t5, t6⟩ := h
    exact hQ _ ⟨⟨⟨fun k e1 e2 => by rw [dSet_k e1]; exact h1 k e1 e2, fun j e1 e2 e3 e4 e5 e6 e7 e8 e9 => by rw [dSet_j e9]; exact h2 j e1 e2 e3 e4 e5 e6 e7 e8 e9, fun k j e1 e2 e3 => by rw [dSet_k (by omega)]; exact h3 k j e1 e2 e3, fun j e1 => h4 j e1, h5⟩, t2, t3, t4, t5, fun q => by exfalso; omega⟩, g2, by rw [rb_f z]; exact hS.of rfl rfl rfl rfl rfl⟩ rfl (Int.le_refl _) (fun q => by exfalso; omega)
theorem LY.br {m : dM} {k : Nat} {e bm : Int} {v : Int32} (h : LY K P mb s e bm m r W) (hk : 97 ≤ k) (hk2 : k ≤ 101) (hb0 : 0 ≤ brs mb) (hb2 : bm < 130) : LY K P mb s e bm (dSet m k (m.1 70 40).toNatClampNeg v) r W := ⟨h.1.br hk hk2 hb0 hb2, h.2.1, h.2.2.k (by omega)⟩
theorem LY.mv {m m' : dM} {e bm : Int} {k : Int} {r' : gR} (h : LY K P mb s e bm m r W) (hm : Mv k m m') (hk : 0 ≤ k) (h2 : m'.2 = m.2) (hS : ST K P m' r' W) : LY K P mb s (e + k) bm m' r' W := ⟨h.1.mv hm hk, h2.trans h.2.1, hS⟩
theorem LY.rm {m : dM} {e bm : Int} (h : LY K P mb s e bm m r W) (hR : RM K V P mb) : RM K V P m := hR.lf h.1.1 h.2.1
theorem LY.weak {m : dM} {e e' bm bm' : Int} (h : LY K P mb s e bm m r W) (he : e' ≤ e) (hb : bm ≤ bm') : LY K P mb s e' bm' m r W := ⟨h.1.weak he hb, h.2⟩
/-- a term: an expression, and a branch is done -/
theorem LY.term {m : dM} {e bm : Int} {Q : dM → Prop} (hs : s ≤ 1) (hcb : 420 * (s : Int) ≤ cds mb) (hbb : 130 * (s : Int) ≤ brs mb) (hbm : bm ≤ 110) (hv : ∀ i, vk (K i)) (hR : RM K V P mb) (h : LY K P mb s e bm m r W)
    (hQ : ∀ m', LY K P mb s (e - 3) (bm + 1) m' (rb r (gE K)) W → tt m ≤ tt m' → (flt m' = 0 → flt m = 0) → Q m') : c_X12_term_70 5 m Q := by
  have hb5 := h.1.2.2.2.2.1
  have eb : ((m.1 70 40).toNatClampNeg : Int) = brs m := d_cl (show 0 ≤ brs m by omega)
  have fin : ∀ m1 : dM, LY K P mb s (e + 1) bm m1 (rb r (gE K)) W → brs m1 = brs m → tt m ≤ tt m1 → (flt m1 = 0 → flt m = 0) → j_X12_term_70_24 5 m1 Q := by
    intro m1 h1 hb htt hff
    have eb1 : (m1.1 70 40).toInt = brs m1 := rfl
    have fb := dAddE (X := brs m1) (Y := 1) (x := m1.1 70 40) (y := (1 : Int32)) rfl (by decide) (by omega) (by omega)
    have g1 := h1.br (k := 101) (v := m1.1 70 46) (by omega) (by omega) (by omega) (by omega)
    have SS := g1.2.2.j (j := 40) (v := m1.1 70 40 + 1) (by decide)
    refine v_X12_term_70_24 ⟨by omega, hQ _ ⟨?_, h1.2.1, SS⟩ (show tt m ≤ tt m1 from htt) (show flt m1 = 0 → flt m = 0 from hff)⟩
    have eb2 : ((m1.1 70 40).toNatClampNeg : Int) = brs m1 := d_cl (show 0 ≤ brs m1 by omega)
    generalize hM : dSet m1 101 (m1.1 70 40).toNatClampNeg (m1.1 70 46) = M at g1 SS ⊢
    have e40 : M.1 70 40 = m1.1 70 40 := by rw [← hM]; rfl
    obtain ⟨⟨⟨h1, h2, h3, h4, h5⟩, t2, t3, t4, t5, t6⟩, -⟩ := g1
    have bM : brs M = brs m1 := by unfold brs; rw [e40]
    have c1 : cds (dSet M 70 40 (m1.1 70 40 + 1)) = cds M := rfl
    have f1 : flt (dSet M 70 40 (m1.1 70 40 + 1)) = flt M := rfl
    have q1 : tt (dSet M 70 40 (m1.1 70 40 + 1)) = tt M := rfl
    have o1 : opn (dSet M 70 40 (m1.1 70 40 + 1)) = opn M := rfl
    have b1 : brs (dSet M 70 40 (m1.1 70 40 + 1)) = brs m1 + 1 := fb
    refine ⟨⟨fun k a1 a2 => by rw [dSet_k a1]; exact h1 k a1 a2, fun j a1 a2 a3 a4 a5 a6 a7 a8 a9 => by rw [dSet_j a7]; exact h2 j a1 a2 a3 a4 a5 a6 a7 a8 a9, fun k j a1 a2 a3 => by rw [dSet_k (by omega)]; exact h3 k j a1 a2 a3, fun j a1 => h4 j a1, h5⟩, by omega, by omega, by omega, by omega, fun h0 => ?_⟩
    have t6 := t6 (by omega)
    exact ⟨t6.1, by omega, by omega, by omega⟩
  have eb0 : (m.1 70 40).toInt = brs m := rfl
  have g1 := h.br (k := 100) (v := m.1 70 46) (by omega) (by omega) (by omega) (by omega)
  refine v_X12_term_70 ⟨by omega, fun hf => ?_, fun hf => ?_⟩
  · have hf : flt m ≠ 0 := hf
    have z : r.1 ≠ 0 := fun z => hf (h.2.2.fl.2.mpr z)
    have f1 : flt (dSet m 100 (m.1 70 40).toNatClampNeg (m.1 70 46)) = flt m := rfl
    exact fin _ ⟨⟨g1.1.1, g1.1.2.1, g1.1.2.2.1, g1.1.2.2.2.1, g1.1.2.2.2.2.1, fun q => by exfalso; omega⟩, g1.2.1, by rw [rb_f z]; exact g1.2.2⟩ rfl (Int.le_refl _) (fun q => q)
  · have hf : flt m = 0 := hf
    exact g1.ex hs hcb hv hR (fun m1 h1 hb htt hz => fin m1 h1 hb htt (fun _ => hf))
theorem LY.must {x1 : Int32} {k : Int} {m : dM} {e bm : Int} {Q : dM → Prop} (hv : ∀ i, vk (K i)) (hR : RM K V P mb) (h : LY K P mb s e bm m r W) (hx : x1.toInt = rk k) (hk : vk k) (hk2 : k ≠ 24 ∧ k ≠ 25) (hQ : ∀ m' : dM, Mv 1 m m' → LY K P mb s (e + 1) bm m' (rb r (gnd K k)) W → Q m') : c_X12_must_70 3 x1 m Q := r_must hv (h.rm hR) h.2.2 hx hk hk2 (fun m' hm g' S' => hQ m' hm (h.mv hm (by decide) g' S'))
theorem rl_main {x1 x2 : Int32} {Q : dM → Prop} (hs : s ≤ 1) (hcb : 420 * (s : Int) ≤ cds mb) (hbb : 130 * (s : Int) ≤ brs mb) (hx1 : 0 ≤ x1.toInt ∧ x1.toInt ≤ 3) (hsd : (mb.1 70 19).toInt = s) (hv : ∀ i, vk (K i)) (hR : RM K V P mb)
    (hQ1 : ∀ m', LY K P mb s 0 101 m' T W → 0 < flt m' → Q m') (hQ2 : ∀ m', LY K P mb s 0 101 m' T W → flt m' = 0 → Q (dSet (dSet m' 95 (((4 : Int32) * (m'.1 70 19)) + x1).toNatClampNeg x2) 96 (((4 : Int32) * (m'.1 70 19)) + x1).toNatClampNeg (m'.1 70 40))) : ∀ n : Nat,
    (∀ (x3 : Int32) (b : Nat) (m : dM) (r : gR), LY K P mb s 2 100 m r W → x3.toInt = b → b ≤ 4 → rb r (gIf K (4 - b)) = T → mu m 6 1 n → j_X12_tellLaw_70_12 6 x1 x2 x3 m Q) ∧
    (∀ (x3 : Int32) (b : Nat) (m : dM) (r : gR), LY K P mb s 2 99 m r W → x3.toInt = b → b ≤ 4 → rb r (gIf K (4 - b)) = T → (r.1 = 0 → b ≤ 3 ∧ K r.2 = 10) → mu m 5 0 n → j_X12_tellLaw_70_38 6 x1 x2 x3 m Q) ∧
    (∀ (x3 : Int32) (b : Nat) (m : dM) (r : gR), LY K P mb s 6 99 m r W → x3.toInt = b → b ≤ 4 → rb r (fun n => rb (gnd K 11 n) (fun n => rb (gE K n) (fun n => rb (gnd K 12 n) (gIf K (4 - b))))) = T → mu m 7 2 n → j_X12_tellLaw_70_110 6 x1 x2 x3 m Q) := by
  have last : ∀ (m : dM) (r : gR), LY K P mb s 2 100 m r W → rb (rb r (gE K)) (gnd K 59) = T → j_X12_tellLaw_70_129 6 x1 x2 m Q := by
    intro m r h hT
    have hb5 := h.1.2.2.2.2.1
    have eb0 : (m.1 70 40).toInt = brs m := rfl
    have g := h.br (k := 97) (v := (0 : Int32)) (by omega) (by omega) (by omega) (by omega)
    refine v_X12_tellLaw_70_129 ⟨by omega, ?_⟩
    refine g.term hs hcb hbb (by omega) hv hR (fun m1 h1 _ _ => ?_)
    refine Wp.deep (h1.must (k := 59) hv hR (by decide) (by unfold vk; omega) (by decide) (fun m2 hm2 h2 => ?_)) (Nat.le_of_ble_eq_true rfl)
    rw [hT] at h2
    have g2 : LY K P mb s 0 101 m2 T W := h2.weak (by decide) (by decide)
    have e19 : (m2.1 70 19).toInt = s := by rw [g2.1.1.2.1 19 (by decide) (by decide) (by decide) (by decide) (by decide) (by decide) (by decide) (by decide) (by decide)]; exact hsd
    have fm := dMulE (X := 4) (Y := (s : Int)) (x := (4 : Int32)) (y := m2.1 70 19) (by decide) e19 (by omega) (by omega)
    have fa := dAddE (X := 4 * (s : Int)) (Y := x1.toInt) (x := (4 : Int32) * m2.1 70 19) (y := x1) fm rfl (by omega) (by omega)
    refine ⟨fun hc => ⟨by omega, ⟨by omega, hQ2 m2 g2 ?_⟩⟩, fun hc => hQ1 m2 g2 hc⟩
    have hc : flt m2 ≤ 0 := hc
    have := g2.1.2.2.2.1
    omega
  have gIf_n : ∀ (b n : Nat), K n ≠ 10 → gIf K b n = rb (gE K n) (gnd K 59) := fun b n hn => by
    cases b with
    | zero => show (if K n = 10 then _ else _) = _; rw [if_neg hn]
    | succ b => show (if K n = 10 then _ else _) = _; rw [if_neg hn]
  intro n
  induction n with
  | zero =>
    refine ⟨fun x3 b m r h h3 hb hT hμ => ?_, fun x3 b m r h h3 hb hT h4 hμ => ?_, fun x3 b m r h h3 hb hT hμ => ?_⟩ <;> (have := h.1.2.1; exfalso; rcases hμ with q | q <;> omega)
  | succ n ih =>
    refine ⟨fun x3 b m r h h3 hb hT hμ => ?_, fun x3 b m r h h3 hb hT h4 hμ => ?_, fun x3 b m r h h3 hb hT hμ => ?_⟩
    · have hfl := h.2.2.fl
      have hl : (r.1 = 0 → K r.2 ≠ 10) → rb (rb r (gE K)) (gnd K 59) = T := fun hn => by
        rw [rb_as, ← hT]
        by_cases z : r.1 = 0
        · rw [rb_k z, rb_k z, gIf_n _ _ (hn z)]
        · rw [rb_f z, rb_f z]
      refine v_X12_tellLaw_70_12 ⟨fun q => last m r h (hl (fun z => absurd (hfl.2.mpr z) q)), fun h0 => ?_⟩
      have h0 : flt m = 0 := h0
      have h6 := h.1.2.2.2.2.2 h0
      have hb5 := h.1.2.2.2.2.1
      have h' : LY K P mb s 2 99 m r W := ⟨⟨h.1.1, h.1.2.1, h.1.2.2.1, h.1.2.2.2.1, by have := h.1.2.1; omega, h.1.2.2.2.2.2⟩, h.2⟩
      refine Wp.deep (q_is (k := 10) hv (h.rm hR) h.2.2 (by decide) (by unfold vk; omega) (fun z hk => ⟨fun q => absurd q (by decide), fun _ => ⟨fun hne => ?_, fun he => ?_⟩⟩) (fun h1 => ⟨fun _ => last m r h (hl (fun z hk => h1 ⟨z, hk⟩)), fun q => absurd rfl q⟩)) (Nat.le_of_ble_eq_true rfl)
      · have e4 : (4 : Int32).toInt = 4 := by decide
        refine ih.2.1 x3 b m r h' h3 hb hT (fun _ => ⟨by omega, hk⟩) ?_
        left
        rcases hμ with q | q <;> omega
      · have e4 : (4 : Int32).toInt = 4 := by decide
        have b4 : b = 4 := by omega
        refine Wp.deep (r_fail (h.rm hR) h.2.2 (c := 2) (by decide) (by decide) (fun m2 h2 g2 S2 => ?_)) (Nat.le_of_ble_eq_true rfl)
        rw [if_pos z] at S2
        have f2 := S2.fl
        have hf2 : flt m2 ≠ 0 := fun q => absurd (f2.2.mp q) (Nat.succ_ne_zero 1)
        refine ih.2.1 x3 b m2 (2, r.2) ((h'.mv h2 (by decide) g2 S2).weak (by decide) (by decide)) h3 hb ?_ (fun q => absurd q (Nat.succ_ne_zero 1)) ?_
        · rw [← hT, rb_k z, b4, rb_2]
          show _ = (if K r.2 = 10 then _ else _)
          rw [if_pos hk]
        · right
          have := h.1.2.1
          rcases hμ with q | q <;> omega
    · have hfl := h.2.2.fl
      have bd : 0 < flt m → LY K P mb s 0 101 m T W := fun hc => by
        have z : r.1 ≠ 0 := fun z => by have := hfl.2.mpr z; omega
        rw [rb_f z] at hT
        rw [← hT]
        exact ⟨(LSz.bad h.1 hc).weak (Int.le_refl _) (by decide), h.2⟩
      refine v_X12_tellLaw_70_38 ⟨fun hc => ?_, fun hc => hQ1 m (bd hc) hc⟩
      have h0 : flt m = 0 := by
        have hc : flt m ≤ 0 := hc
        have := h.1.2.2.2.1
        omega
      have z := hfl.2.mp h0
      obtain ⟨h34, hk10⟩ := h4 z
      have f3 := dAddE (X := x3.toInt) (Y := 1) (x := x3) (y := (1 : Int32)) rfl (by decide) (by omega) (by omega)
      have hT' : rb (rb (rb (rb (rb r gst) (gE K)) (gnd K 60)) (gE K)) (fun n => rb (gnd K 11 n) (fun n => rb (gE K n) (fun n => rb (gnd K 12 n) (gIf K (4 - (b + 1)))))) = T := by
        rw [rb_as, rb_as, rb_as, rb_as, ← hT, rb_k z, rb_k z, show 4 - b = (4 - (b + 1)) + 1 by omega]
        show _ = (if K r.2 = 10 then _ else _)
        rw [if_pos hk10]
      refine Wp.deep (r_goesOn (h.rm hR) h.2.2 (fun _ => by omega) (fun m1 h1 gg1 S1 => ?_)) (Nat.le_of_ble_eq_true rfl)
      have k41 := h1.2.2.2.1
      have g1 : LY K P mb s 3 99 m1 (rb r gst) W := h.mv h1 (by decide) gg1 S1
      have hb5 := g1.1.2.2.2.2.1
      have eb0 : (m1.1 70 40).toInt = brs m1 := rfl
      refine ⟨by omega, ⟨by omega, ?_⟩⟩
      have g2 : LY K P mb s 3 99 (dSet (dSet m1 97 (m1.1 70 40).toNatClampNeg (1 : Int32)) 98 (m1.1 70 40).toNatClampNeg (m1.1 70 46)) (rb r gst) W :=
        (g1.br (k := 97) (v := (1 : Int32)) (by omega) (by omega) (by omega) (by omega)).br (k := 98) (v := m1.1 70 46) (by omega) (by omega) (by omega) (by omega)
      refine Wp.deep (g2.ex hs hcb hv hR (fun m2 g3 hb ht2 hz => ?_)) (Nat.le_of_ble_eq_true rfl)
      have hb' : brs m2 = brs m1 := hb
      refine Wp.deep (g3.must (k := 60) hv hR (by decide) (by unfold vk; omega) (by decide) (fun m3 h3' g4 => ?_)) (Nat.le_of_ble_eq_true rfl)
      have hb6 := g4.1.2.2.2.2.1
      have w3 : (m3.1 70 40).toInt = brs m3 := rfl
      refine ⟨by omega, ?_⟩
      have g5 := g4.br (k := 99) (v := m3.1 70 46) (by omega) (by omega) (by omega) (by omega)
      have k43 := h3'.2.2.2.1
      refine ⟨fun hf => ?_, fun hf => ?_⟩
      · have hf : flt m3 ≠ 0 := hf
        have w4 : flt (dSet m3 99 (m3.1 70 40).toNatClampNeg (m3.1 70 46)) = flt m3 := rfl
        have := g4.1.2.2.2.1
        have z3 : (rb (rb (rb r gst) (gE K)) (gnd K 60)).1 ≠ 0 := fun q => hf (g4.2.2.fl.2.mpr q)
        rw [rb_f z3] at hT'
        refine ih.2.2 _ (b + 1) _ _ ⟨LSz.bad g5.1 (by omega), g5.2⟩ (by omega) (by omega) hT' ?_
        right
        have := h.1.2.1
        rcases hμ with q | q <;> omega
      · have hf : flt m3 = 0 := hf
        refine Wp.deep (g5.ex hs hcb hv hR (fun m4 g6 hb4 ht4 hz4 => ?_)) (Nat.le_of_ble_eq_true rfl)
        refine ih.2.2 _ (b + 1) _ _ g6 (by omega) (by omega) hT' ?_
        have t4 := g6.1.2.1
        have s4 := g6.1.2.2.2.1
        have a1 : tt m1 ≤ tt m2 := ht2
        have a2 : tt m3 ≤ tt m4 := ht4
        have a3 := h.1.2.1
        unfold mu
        by_cases q0 : flt m4 = 0
        · left
          rcases k43 with y | y <;> rcases hμ with q | q <;> rcases k41 with z | z <;> omega
        · right
          rcases hμ with q | q <;> omega
    · refine v_X12_tellLaw_70_110 ?_
      refine Wp.deep (h.must (k := 11) hv hR (by decide) (by unfold vk; omega) (by decide) (fun m1 h1 g1 => ?_)) (Nat.le_of_ble_eq_true rfl)
      have k41 := h1.2.2.2.1
      refine g1.term hs hcb hbb (by omega) hv hR (fun m2 g2 a1 a2 => ?_)
      refine Wp.deep (g2.must (k := 12) hv hR (by decide) (by unfold vk; omega) (by decide) (fun m3 h3' g3 => ?_)) (Nat.le_of_ble_eq_true rfl)
      refine ih.1 x3 b m3 _ (g3.weak (by decide) (by decide)) h3 hb (by rw [rb_as, rb_as, rb_as]; exact hT) ?_
      have k43 := h3'.2.2.2.1
      have a3 := h.1.2.1
      have a4 := g3.1.2.2.2.1
      unfold mu
      by_cases q0 : flt m3 = 0
      · left
        rcases k43 with y | y <;> rcases k41 with z | z <;> rcases hμ with q | q <;> omega
      · right
        rcases hμ with q | q <;> omega
/-- a law told: what has changed -/
def LX (mb : dM) (s : Nat) (m : dM) : Prop := (∀ k : Nat, k ≠ 70 → k < 95 ∨ 104 < k → m.1 k = mb.1 k) ∧ (∀ j : Nat, j ≠ 11 → j ≠ 12 → j ≠ 13 → j ≠ 14 → j ≠ 15 → j ≠ 16 → j ≠ 40 → j ≠ 46 → j ≠ 50 → m.1 70 j = mb.1 70 j) ∧ m.2 = mb.2 ∧ (flt m = 0 → opn m = 0 ∧ (cds mb ≤ cds m ∧ cds m ≤ 420 * s + tt m) ∧ brs mb ≤ brs m ∧ 4 * (brs m - 130 * s) ≤ tt m)
theorem r_tellLaw {x1 : Int32} {Q : dM → Prop} (hs : s ≤ 1) (hsd : (mb.1 70 19).toInt = s) (hx1 : 0 ≤ x1.toInt ∧ x1.toInt ≤ 3) (hv : ∀ i, vk (K i)) (hR : RM K V P mb) (hS : ST K P mb r W) (hb : 130 * (s : Int) ≤ brs mb ∧ brs mb ≤ 130 * s + 100) (hc : 420 * (s : Int) ≤ cds mb) (hG : r.1 = 0 → opn mb = 0 ∧ cds mb ≤ 420 * s + tt mb ∧ 4 * (brs mb - 130 * s) + 1 ≤ tt mb) (hQ : ∀ m', LX mb s m' → ST K P m' (rb r (fun n => rb (gnd K 61 n) (gIf K 4))) W → Q m') : c_X12_tellLaw_70 6 x1 mb Q := by
  have hfl := hS.fl
  have st0 : LY K P mb s 1 100 mb r W := by
    refine ⟨⟨⟨fun _ _ _ => rfl, fun _ _ _ _ _ _ _ _ _ _ => rfl, fun _ _ _ _ _ => rfl, fun _ _ => ⟨rfl, rfl⟩, Wz.eq rfl⟩, hS.2.2, Int.le_refl _, hfl.1, ⟨Int.le_refl _, hb.2⟩, fun h0 => ?_⟩, rfl, hS⟩
    have g := hG (hfl.2.mp h0)
    exact ⟨h0, g.1, ⟨Int.le_refl _, g.2.1⟩, g.2.2⟩
  refine v_X12_tellLaw_70 ?_
  refine Wp.deep (st0.must (k := 61) hv hR (by decide) (by unfold vk; omega) (by decide) (fun m1 h1 st1 => ?_)) (Nat.le_of_ble_eq_true rfl)
  refine (rl_main (x2 := m1.1 70 40) (T := rb r (fun n => rb (gnd K 61 n) (gIf K 4))) hs hc hb.1 hx1 hsd hv hR (fun m' h' hf' => ?_) (fun m' h' hf' => ?_) 5000).1 (0 : Int32) 0 m1 _ st1 (by decide) (by decide) rb_as ?_
  · exact hQ m' ⟨fun k e1 e2 => h'.1.1.1 k e1 (by omega), h'.1.1.2.1, h'.2.1, fun q => by exfalso; omega⟩ h'.2.2
  · have h6 := h'.1.2.2.2.2.2 hf'
    refine hQ _ ⟨fun k e1 e2 => by rw [dSet_k (by omega), dSet_k (by omega)]; exact h'.1.1.1 k e1 (by omega), h'.1.1.2.1, h'.2.1, fun _ => ⟨h6.2.1, h6.2.2.1, h'.1.2.2.2.2.1.1, ?_⟩⟩ ((h'.2.2.k (by decide)).k (by decide))
    have w := h6.2.2.2
    show 4 * (brs m' - 130 * s) ≤ tt m'
    omega
  · have k4 := h1.2.2.2.1
    unfold mu
    have := h1.2.2.1
    rcases k4 with z | z
    · left; omega
    · right; omega
end RLW
end
section
/-! THE REFERENCE's table of names, and its wires, exactly -/
def NM (V : Nat → Int64) (s : Nat) (st : mSt) (m : dM) : Prop :=
  (∀ k : Nat, k < st.1.length + st.2.2.1.length → (∃ i : Nat, i < st.1.length ∧ m.2.1 78 k = fN V st i ∧ (m.1 79 k).toInt = (i : Int)) ∨ (∃ u : Nat, u < st.2.2.1.length ∧ m.2.1 78 k = uN V st u ∧ (m.1 79 k).toInt < 0)) ∧
  (∀ i : Nat, i < st.1.length → ∃ k : Nat, k < st.1.length + st.2.2.1.length ∧ m.2.1 78 k = fN V st i ∧ (m.1 79 k).toInt = (i : Int)) ∧
  (∀ u : Nat, u < st.2.2.1.length → ∃ k : Nat, k < st.1.length + st.2.2.1.length ∧ m.2.1 78 k = uN V st u) ∧
  (∀ i j : Nat, i < st.1.length → j < st.1.length → fN V st i = fN V st j → i = j) ∧
  (∀ w : Nat, w < st.2.1.length → (m.1 83 (10 * s + w)).toInt = ((wE st w).1 : Int) ∧ (m.1 84 (10 * s + w)).toInt = ((wE st w).2 : Int))
section RTB
variable {V : Nat → Int64} {s : Nat} {st : mSt} {m m' : dM}
theorem NM.of (h : NM V s st m) (h79 : m'.1 79 = m.1 79) (h83 : m'.1 83 = m.1 83) (h84 : m'.1 84 = m.1 84) (h78 : m'.2.1 78 = m.2.1 78) : NM V s st m' := by
  unfold NM
  rw [h79, h83, h84, h78]
  exact h
theorem NM.cx (h : NM V s st m) (hc : Cx m m') : NM V s st m' := h.of (hc.1 79 (by decide)) (hc.1 83 (by decide)) (hc.1 84 (by decide)) (by rw [hc.2.2])
theorem fF_is {y : Int64} {a : Nat} (ha : a < st.1.length) (e : fN V st a = y) (inj : ∀ i j : Nat, i < st.1.length → j < st.1.length → fN V st i = fN V st j → i = j) : fF V st y = some a := by
  cases h : fF V st y with
  | none =>
    have := (ix_none _ _).mp h
    exact absurd e (this a (Nat.zero_le _) (by omega))
  | some b =>
    have hb := ix_some _ _ h
    rw [inj a b ha (by omega) (by rw [e, hb.2.2])]
theorem NM.kn (h : NM V s st m) {y : Int64} : (∃ k : Nat, k < st.1.length + st.2.2.1.length ∧ m.2.1 78 k = y) ↔ knw V st y = true := by
  obtain ⟨h1, h2, h3, h4, -⟩ := h
  constructor
  · rintro ⟨k, hk, e⟩
    rcases h1 k hk with ⟨i, hi, e1, -⟩ | ⟨u, hu, e1, -⟩
    · have : fF V st y = some i := fF_is hi (by rw [← e1, e]) h4
      unfold knw
      rw [this]
      rfl
    · unfold knw
      cases hu2 : uF V st y with
      | none =>
        have := (ix_none _ _).mp hu2
        exact absurd (by rw [← e1, e]) (this u (Nat.zero_le _) (by omega))
      | some b => rw [Bool.or_eq_true]; exact Or.inr rfl
  · intro hy
    unfold knw at hy
    rw [Bool.or_eq_true] at hy
    rcases hy with q | q
    · cases hf : fF V st y with
      | none => rw [hf] at q; cases q
      | some b =>
        have hb := ix_some _ _ hf
        obtain ⟨k, hk, e, -⟩ := h2 b (by omega)
        exact ⟨k, hk, by rw [e, hb.2.2]⟩
    · cases hf : uF V st y with
      | none => rw [hf] at q; cases q
      | some b =>
        have hb := ix_some _ _ hf
        obtain ⟨k, hk, e⟩ := h3 b (by omega)
        exact ⟨k, hk, by rw [e, hb.2.2]⟩
theorem NM.sm (h : NM V s st m) {y : Int64} {k : Nat} (hk : k < st.1.length + st.2.2.1.length) (e : m.2.1 78 k = y) (h0 : 0 ≤ (m.1 79 k).toInt) : ∃ a : Nat, fF V st y = some a ∧ (m.1 79 k).toInt = (a : Int) := by
  obtain ⟨h1, h2, h3, h4, -⟩ := h
  rcases h1 k hk with ⟨i, hi, e1, e2⟩ | ⟨u, hu, e1, e2⟩
  · exact ⟨i, fF_is hi (by rw [← e1, e]) h4, e2⟩
  · exfalso; omega
theorem NM.nn (h : NM V s st m) {y : Int64} (hn : ∀ k : Nat, k < st.1.length + st.2.2.1.length → m.2.1 78 k = y → (m.1 79 k).toInt < 0) : fF V st y = none := by
  cases hf : fF V st y with
  | none => rfl
  | some b =>
    have hb := ix_some _ _ hf
    obtain ⟨k, hk, e, e2⟩ := h.2.1 b (by omega)
    have := hn k hk (by rw [e, hb.2.2])
    omega
/-- a flat more -/
theorem NM.flat {n N : Nat} {v : Int32} (h : NM V s st m) (hN : N = st.1.length + st.2.2.1.length) (hv : v.toInt = (st.1.length : Int)) (hk : knw V st (V (n + 1)) = false) (h79 : ∀ j : Nat, m'.1 79 j = if j = N then v else m.1 79 j) (h83 : m'.1 83 = m.1 83) (h84 : m'.1 84 = m.1 84) (h78 : ∀ j : Nat, m'.2.1 78 j = if j = N then V (n + 1) else m.2.1 78 j) : NM V s (st.1 ++ [n], st.2) m' := by
  have hnk : ∀ i : Nat, i < st.1.length → fN V st i ≠ V (n + 1) := fun i hi e => by
    have : knw V st (V (n + 1)) = true := by
      obtain ⟨k, hk, e1, -⟩ := h.2.1 i hi
      exact h.kn.mp ⟨k, hk, by rw [e1, e]⟩
    rw [hk] at this
    cases this
  obtain ⟨h1, h2, h3, h4, h5⟩ := h
  have l1 : (st.1 ++ [n]).length = st.1.length + 1 := by rw [List.length_append]; rfl
  have f1 : ∀ i : Nat, i < st.1.length → fN V (st.1 ++ [n], st.2) i = fN V st i := fun i hi => by
    show V ((st.1 ++ [n]).getD i 0 + 1) = _
    rw [getD_app hi]
    rfl
  have f2 : fN V (st.1 ++ [n], st.2) st.1.length = V (n + 1) := by
    show V ((st.1 ++ [n]).getD st.1.length 0 + 1) = _
    rw [getD_last]
  unfold NM
  rw [h83, h84]
  show (∀ k : Nat, k < (st.1 ++ [n]).length + st.2.2.1.length → (∃ i : Nat, i < (st.1 ++ [n]).length ∧ m'.2.1 78 k = fN V (st.1 ++ [n], st.2) i ∧ (m'.1 79 k).toInt = (i : Int)) ∨ (∃ u : Nat, u < st.2.2.1.length ∧ m'.2.1 78 k = uN V st u ∧ (m'.1 79 k).toInt < 0)) ∧ (∀ i : Nat, i < (st.1 ++ [n]).length → ∃ k : Nat, k < (st.1 ++ [n]).length + st.2.2.1.length ∧ m'.2.1 78 k = fN V (st.1 ++ [n], st.2) i ∧ (m'.1 79 k).toInt = (i : Int)) ∧ (∀ u : Nat, u < st.2.2.1.length → ∃ k : Nat, k < (st.1 ++ [n]).length + st.2.2.1.length ∧ m'.2.1 78 k = uN V st u) ∧ (∀ i j : Nat, i < (st.1 ++ [n]).length → j < (st.1 ++ [n]).length → fN V (st.1 ++ [n], st.2) i = fN V (st.1 ++ [n], st.2) j → i = j) ∧ (∀ w : Nat, w < st.2.1.length → (m.1 83 (10 * s + w)).toInt = ((wE st w).1 : Int) ∧ (m.1 84 (10 * s + w)).toInt = ((wE st w).2 : Int))
  rw [l1]
  refine ⟨fun k hk => ?_, fun i hi => ?_, fun u hu => ?_, fun i j hi hj e => ?_, h5⟩
  · rw [h78, h79]
    by_cases q : k = N
    · rw [if_pos q, if_pos q]
      exact Or.inl ⟨st.1.length, by omega, f2.symm, hv⟩
    · rw [if_neg q, if_neg q]
      rcases h1 k (by omega) with ⟨i, hi, e1, e2⟩ | w
      · exact Or.inl ⟨i, by omega, by rw [f1 i hi]; exact e1, e2⟩
      · exact Or.inr w
  · by_cases q : i = st.1.length
    · refine ⟨N, by omega, ?_, ?_⟩
      · rw [h78, if_pos rfl, q, f2]
      · rw [h79, if_pos rfl, q]; exact hv
    · obtain ⟨k, hk, e1, e2⟩ := h2 i (by omega)
      refine ⟨k, by omega, ?_, ?_⟩
      · rw [h78, if_neg (by omega), f1 i (by omega)]; exact e1
      · rw [h79, if_neg (by omega)]; exact e2
  · obtain ⟨k, hk, e1⟩ := h3 u hu
    exact ⟨k, by omega, by rw [h78, if_neg (by omega)]; exact e1⟩
  · by_cases qi : i = st.1.length
    · by_cases qj : j = st.1.length
      · omega
      · exfalso
        rw [qi, f2, f1 j (by omega)] at e
        exact hnk j (by omega) e.symm
    · by_cases qj : j = st.1.length
      · exfalso
        rw [qj, f2, f1 i (by omega)] at e
        exact hnk i (by omega) e
      · rw [f1 i (by omega), f1 j (by omega)] at e
        exact h4 i j (by omega) (by omega) e
/-- a use more -/
theorem NM.use {n N a : Nat} {v : Int32} {z : Option Nat × Option Nat × Option Nat} (h : NM V s st m) (hN : N = st.1.length + st.2.2.1.length) (hv : v.toInt < 0) (h79 : ∀ j : Nat, m'.1 79 j = if j = N then v else m.1 79 j) (h83 : m'.1 83 = m.1 83) (h84 : m'.1 84 = m.1 84) (h78 : ∀ j : Nat, m'.2.1 78 j = if j = N then V (n + 1) else m.2.1 78 j) : NM V s (st.1, st.2.1, st.2.2.1 ++ [(n, a)], z) m' := by
  obtain ⟨h1, h2, h3, h4, h5⟩ := h
  have l1 : (st.2.2.1 ++ [(n, a)]).length = st.2.2.1.length + 1 := by rw [List.length_append]; rfl
  have f1 : ∀ u : Nat, u < st.2.2.1.length → uN V (st.1, st.2.1, st.2.2.1 ++ [(n, a)], z) u = uN V st u := fun i hi => by
    show V (((st.2.2.1 ++ [(n, a)]).getD i (0, 0)).1 + 1) = _
    rw [getD_app hi]
    rfl
  have f2 : uN V (st.1, st.2.1, st.2.2.1 ++ [(n, a)], z) st.2.2.1.length = V (n + 1) := by
    show V (((st.2.2.1 ++ [(n, a)]).getD st.2.2.1.length (0, 0)).1 + 1) = _
    rw [getD_last]
  unfold NM
  rw [h83, h84]
  show (∀ k : Nat, k < st.1.length + (st.2.2.1 ++ [(n, a)]).length → (∃ i : Nat, i < st.1.length ∧ m'.2.1 78 k = fN V st i ∧ (m'.1 79 k).toInt = (i : Int)) ∨ (∃ u : Nat, u < (st.2.2.1 ++ [(n, a)]).length ∧ m'.2.1 78 k = uN V (st.1, st.2.1, st.2.2.1 ++ [(n, a)], z) u ∧ (m'.1 79 k).toInt < 0)) ∧ (∀ i : Nat, i < st.1.length → ∃ k : Nat, k < st.1.length + (st.2.2.1 ++ [(n, a)]).length ∧ m'.2.1 78 k = fN V st i ∧ (m'.1 79 k).toInt = (i : Int)) ∧ (∀ u : Nat, u < (st.2.2.1 ++ [(n, a)]).length → ∃ k : Nat, k < st.1.length + (st.2.2.1 ++ [(n, a)]).length ∧ m'.2.1 78 k = uN V (st.1, st.2.1, st.2.2.1 ++ [(n, a)], z) u) ∧ (∀ i j : Nat, i < st.1.length → j < st.1.length → fN V st i = fN V st j → i = j) ∧ (∀ w : Nat, w < st.2.1.length → (m.1 83 (10 * s + w)).toInt = ((wE st w).1 : Int) ∧ (m.1 84 (10 * s + w)).toInt = ((wE st w).2 : Int))
  rw [l1]
  refine ⟨fun k hk => ?_, fun i hi => ?_, fun u hu => ?_, h4, h5⟩
  · rw [h78, h79]
    by_cases q : k = N
    · rw [if_pos q, if_pos q]
      exact Or.inr ⟨st.2.2.1.length, by omega, f2.symm, hv⟩
    · rw [if_neg q, if_neg q]
      rcases h1 k (by omega) with w | ⟨u, hu, e1, e2⟩
      · exact Or.inl w
      · exact Or.inr ⟨u, by omega, by rw [f1 u hu]; exact e1, e2⟩
  · obtain ⟨k, hk, e1, e2⟩ := h2 i hi
    exact ⟨k, by omega, by rw [h78, if_neg (by omega)]; exact e1, by rw [h79, if_neg (by omega)]; exact e2⟩
  · by_cases q : u = st.2.2.1.length
    · exact ⟨N, by omega, by rw [h78, if_pos rfl, q, f2]⟩
    · obtain ⟨k, hk, e1⟩ := h3 u (by omega)
      exact ⟨k, by omega, by rw [h78, if_neg (by omega), f1 u (by omega)]; exact e1⟩
/-- a wire more -/
theorem NM.wire {n a b : Nat} {v1 v2 : Int32} (h : NM V s st m) (h1 : v1.toInt = (a : Int)) (h2 : v2.toInt = (b : Int)) (h79 : m'.1 79 = m.1 79) (h83 : ∀ j : Nat, m'.1 83 j = if j = 10 * s + st.2.1.length then v1 else m.1 83 j) (h84 : ∀ j : Nat, m'.1 84 j = if j = 10 * s + st.2.1.length then v2 else m.1 84 j) (h78 : m'.2.1 78 = m.2.1 78) : NM V s (st.1, st.2.1 ++ [(n, a, b)], st.2.2) m' := by
  obtain ⟨g1, g2, g3, g4, g5⟩ := h
  have l1 : (st.2.1 ++ [(n, a, b)]).length = st.2.1.length + 1 := by rw [List.length_append]; rfl
  unfold NM
  rw [h79, h78]
  show (∀ k : Nat, k < st.1.length + st.2.2.1.length → (∃ i : Nat, i < st.1.length ∧ m.2.1 78 k = fN V st i ∧ (m.1 79 k).toInt = (i : Int)) ∨ (∃ u : Nat, u < st.2.2.1.length ∧ m.2.1 78 k = uN V st u ∧ (m.1 79 k).toInt < 0)) ∧ (∀ i : Nat, i < st.1.length → ∃ k : Nat, k < st.1.length + st.2.2.1.length ∧ m.2.1 78 k = fN V st i ∧ (m.1 79 k).toInt = (i : Int)) ∧ (∀ u : Nat, u < st.2.2.1.length → ∃ k : Nat, k < st.1.length + st.2.2.1.length ∧ m.2.1 78 k = uN V st u) ∧ (∀ i j : Nat, i < st.1.length → j < st.1.length → fN V st i = fN V st j → i = j) ∧ (∀ w : Nat, w < (st.2.1 ++ [(n, a, b)]).length → (m'.1 83 (10 * s + w)).toInt = ((wE (st.1, st.2.1 ++ [(n, a, b)], st.2.2) w).1 : Int) ∧ (m'.1 84 (10 * s + w)).toInt = ((wE (st.1, st.2.1 ++ [(n, a, b)], st.2.2) w).2 : Int))
  rw [l1]
  refine ⟨g1, g2, g3, g4, fun w hw => ?_⟩
  rw [h83, h84]
  by_cases q : w = st.2.1.length
  · have e : wE (st.1, st.2.1 ++ [(n, a, b)], st.2.2) w = (a, b) := by
      show ((st.2.1 ++ [(n, a, b)]).getD w (0, 0, 0)).2 = _
      rw [q, getD_last]
    rw [e, if_pos (by omega), if_pos (by omega)]
    exact ⟨h1, h2⟩
  · have e : wE (st.1, st.2.1 ++ [(n, a, b)], st.2.2) w = wE st w := by
      show ((st.2.1 ++ [(n, a, b)]).getD w (0, 0, 0)).2 = _
      rw [getD_app (by omega)]
      rfl
    rw [e, if_neg (by omega), if_neg (by omega)]
    exact g5 w (by omega)
/-- areWired -/
theorem q_areWired {x1 x2 : Int32} {a b : Nat} {Q : Int32 → dM → Prop} (hs : s ≤ 1) (hsd : (m.1 70 19).toInt = (s : Int)) (hw : (m.1 82 s).toInt = (st.2.1.length : Int)) (h10 : st.2.1.length ≤ 10) (hW : ∀ w : Nat, w < st.2.1.length → (m.1 83 (10 * s + w)).toInt = ((wE st w).1 : Int) ∧ (m.1 84 (10 * s + w)).toInt = ((wE st w).2 : Int)) (h1 : x1.toInt = (a : Int)) (h2 : x2.toInt = (b : Int)) (hy : wx (wE st) a b st.2.1.length 0 = true → Q 1 m) (hn : wx (wE st) a b st.2.1.length 0 = false → Q 0 m) : c_X12_areWired_70 1 x1 x2 m Q := by
  have fm := dMulE (X := 10) (Y := (s : Int)) (x := (10 : Int32)) (y := m.1 70 19) (by decide) hsd (by omega) (by omega)
  have fa := dAddE (X := 10 * (s : Int)) (Y := (st.2.1.length : Int)) (x := (10 : Int32) * m.1 70 19) (y := m.1 82 s) fm hw (by omega) (by omega)
  have H : ∀ (f i : Nat) (x3 : Int32), i + f = st.2.1.length → x3.toInt = ((10 * s + i : Nat) : Int) → (wx (wE st) a b f i = true → Q 1 m) → (wx (wE st) a b f i = false → Q 0 m) → j_X12_areWired_70_8 1 x1 x2 x3 m Q := by
    intro f
    induction f with
    | zero =>
      intro i x3 hi h3 y n
      refine v_X12_areWired_70_8 ⟨by omega, ?_⟩
      rw [d_cn hsd]
      exact ⟨fun _ => n rfl, fun q => by exfalso; omega⟩
    | succ f ih =>
      intro i x3 hi h3 y n
      have w := hW i (by omega)
      rw [wx_s] at y n
      have last : (wE st i = (a, b) ∨ wE st i = (b, a)) → j_X12_areWired_70_69 1 m Q := fun q => v_X12_areWired_70_69 (y (by rw [if_pos q]))
      have nx : ¬ (wE st i = (a, b) ∨ wE st i = (b, a)) → j_X12_areWired_70_71 1 x1 x2 x3 m Q := fun q => v_X12_areWired_70_71 (ih (i + 1) _ (by omega) (by
        have := d_inc h3 (by omega)
        rw [this]; omega) (fun z => y (by rw [if_neg q]; exact z)) (fun z => n (by rw [if_neg q]; exact z)))
      have eE : ∀ c d : Nat, ((wE st i).1 : Int) = (c : Int) → ((wE st i).2 : Int) = (d : Int) → wE st i = (c, d) := fun c d e1 e2 => Prod.ext (by omega) (by omega)
      have neE : ∀ c d : Nat, ¬ (((wE st i).1 : Int) = (c : Int) ∧ ((wE st i).2 : Int) = (d : Int)) → wE st i ≠ (c, d) := fun c d e1 e2 => e1 (by rw [e2]; exact ⟨rfl, rfl⟩)
      have md : wE st i ≠ (a, b) → j_X12_areWired_70_49 1 x1 x2 x3 m Q := fun q => by
        refine v_X12_areWired_70_49 ⟨by omega, ?_⟩
        rw [d_cn h3]
        refine ⟨fun z => nx (fun o => ?_), fun z => ⟨by omega, fun z2 => nx (fun o => ?_), fun z2 => last (Or.inr (eE b a (by omega) (by omega)))⟩⟩
        · rcases o with o | o
          · exact q o
          · rw [o] at w; exact z (by rw [w.1, h2])
        · rcases o with o | o
          · exact q o
          · rw [o] at w; exact z2 (by rw [w.2, h1])
      refine v_X12_areWired_70_8 ⟨by omega, ?_⟩
      rw [d_cn hsd]
      refine ⟨fun q => by exfalso; omega, fun _ => ⟨by omega, ?_⟩⟩
      rw [d_cn h3]
      refine ⟨fun z => md (neE a b (by omega)), fun z => ⟨by omega, fun z2 => last (Or.inl (eE a b (by omega) (by omega))), fun z2 => md (neE a b (by omega))⟩⟩
  exact v_X12_areWired_70 (H st.2.1.length 0 _ (by omega) (by rw [fm]; omega) hy hn)
end RTB
end
section
/-! THE REFERENCE's tells, exactly: what holds at the start of one; a flat -/
theorem wadd_n {W w : gR} (h : W.1 ≠ 0) : wadd W w = W := by unfold wadd; rw [if_neg h]
theorem wadd_z {W w : gR} (h : W.1 = 0) : wadd W w = w := by unfold wadd; rw [if_pos h]
theorem rb_id {K : Nat → Int} {r : gR} : rb r (gsq K []) = r := by
  by_cases z : r.1 = 0
  · rw [rb_k z]
    show (0, r.2) = r
    rw [← z]
  · rw [rb_f z]
theorem gsq_r {K : Nat → Int} {r : gR} {k : Int} {ks : List Int} : rb r (gsq K (k :: ks)) = rb (rb r (gnd K k)) (gsq K ks) := by
  rw [rb_as]
  rfl
def FX (m0 : dM) (L : Nat) (m : dM) : Prop := (∀ k : Nat, k < 70 ∨ k = 71 ∨ 105 ≤ k → m.1 k = m0.1 k) ∧ (∀ j : Nat, (j = 2 ∨ j = 18 ∨ j = 19 ∨ 51 ≤ j) → m.1 70 j = m0.1 70 j) ∧ m.1 80 L = m0.1 80 L
def CT (s cf cw cu : Nat) (m : dM) : Prop := (m.1 80 s).toInt = (cf : Int) ∧ (m.1 82 s).toInt = (cw : Int) ∧ (m.1 86 s).toInt = (cu : Int) ∧ nms m = ((cf + cu : Nat) : Int) ∧ cf ≤ 7 ∧ cw ≤ 10 ∧ cu ≤ 8
def LQ (s : Nat) (m : dM) : Prop := opn m = 0 ∧ (420 * (s : Int) ≤ cds m ∧ cds m ≤ 420 * s + tt m) ∧ (130 * (s : Int) ≤ brs m ∧ 4 * (brs m - 130 * s) ≤ tt m)
/-- at the start of a tell -/
def TI (K : Nat → Int) (V : Nat → Int64) (P : Nat → Nat) (m0 : dM) (L s cf cw cu n : Nat) (W : gR) (st : mSt) (m : dM) : Prop := ST K P m (0, n) W ∧ RM K V P m ∧ FX m0 L m ∧ CT s cf cw cu m ∧ LQ s m ∧ (W.1 ≠ 0 → W.2 < n) ∧ (W.1 = 0 → NM V s st m ∧ st.1.length = cf ∧ st.2.1.length = cw ∧ st.2.2.1.length = cu)
/-- what comes of the meaning -/
def WN (K : Nat → Int) (V : Nat → Int64) (n : Nat) (W : gR) (st : mSt) (W' : gR) (st' : mSt) : Prop := (W.1 ≠ 0 → W' = W) ∧ (W.1 = 0 → ((mTell K V n st).1.1 = 0 → W'.1 = 0 ∧ st' = (mTell K V n st).2) ∧ ((mTell K V n st).1.1 ≠ 0 → W' = (mTell K V n st).1))
section RFL
variable {K : Nat → Int} {V : Nat → Int64} {P : Nat → Nat} {m0 m m' : dM} {L s cf cw cu n : Nat} {W : gR} {st : mSt}
theorem FX.cx (h : FX m0 L m) (hc : Cx m m') : FX m0 L m' := ⟨fun k e => (hc.1 k (by omega)).trans (h.1 k e), fun j e => (hc.2.1 j (by omega) (by omega) (by omega) (by omega) (by omega)).trans (h.2.1 j e), by rw [hc.1 80 (by decide)]; exact h.2.2⟩
theorem FX.set {k j : Nat} {v : Int32} (h : FX m0 L m) (hk : 72 ≤ k) (hk2 : k ≤ 104) (hj : k = 80 → j ≠ L) : FX m0 L (dSet m k j v) := ⟨fun a e => by rw [dSet_k (by omega)]; exact h.1 a e, fun a e => by rw [dSet_k (by omega)]; exact h.2.1 a e, by
  by_cases q : k = 80
  · subst q
    rw [dSet_j (fun e => hj rfl e.symm)]; exact h.2.2
  · rw [dSet_k (fun e => q e.symm)]; exact h.2.2⟩
theorem FX.en {N : Nat} {y : Int64} {v : Int32} (h : FX m0 L m) (he : EN N y v m m') : FX m0 L m' := ⟨fun k e => (he.1 k (by omega) (by omega)).trans (h.1 k e), fun j e => (he.2.1 j (by omega) (by omega) (by omega) (by omega) (by omega) (by omega)).trans (h.2.1 j e), by rw [he.1 80 (by decide) (by decide)]; exact h.2.2⟩
theorem FX.sd (h : FX m0 L m) (hsd : (m0.1 70 19).toInt = (s : Int)) : (m.1 70 19).toInt = (s : Int) ∧ (m.1 70 19).toNatClampNeg = s := by
  have e : (m.1 70 19).toInt = (s : Int) := by rw [h.2.1 19 (by omega)]; exact hsd
  exact ⟨e, d_cn e⟩
theorem CT.cx (h : CT s cf cw cu m) (hc : Cx m m') : CT s cf cw cu m' := by
  unfold CT nms
  rw [hc.1 80 (by decide), hc.1 82 (by decide), hc.1 86 (by decide), hc.2.1 20 (by decide) (by decide) (by decide) (by decide) (by decide)]
  exact h
theorem LQ.j (h : LQ s m) (h12 : m'.1 70 12 = m.1 70 12) (h46 : m'.1 70 46 = m.1 70 46) (h40 : m'.1 70 40 = m.1 70 40) (ht : tt m ≤ tt m') : LQ s m' := by
  obtain ⟨a, b, c⟩ := h
  have e1 : opn m' = opn m := by unfold opn; rw [h12]
  have e2 : cds m' = cds m := by unfold cds; rw [h46]
  have e3 : brs m' = brs m := by unfold brs; rw [h40]
  exact ⟨by omega, by omega, by omega⟩
theorem e_flat {Q : dM → Prop} (hL : L + s = 1) (hsd : (m0.1 70 19).toInt = (s : Int)) (hv : ∀ i, vk (K i)) (hP : ∀ i j : Nat, i < j → lvK K j → P i < P j) (hT : TI K V P m0 L s cf cw cu n W st m) (hk : K n = 0)
    (hB : (gTell K cf cw cu n).1 ≠ 0 → ∀ (m' : dM) (W' : gR), ST K P m' (gTell K cf cw cu n) W' → FX m0 L m' → Q m')
    (hG : (gTell K cf cw cu n).1 = 0 → ∀ (m' : dM) (W' : gR) (st' : mSt), TI K V P m0 L s (cf + ct (K n) 0) (cw + ct (K n) 1) (cu + ct (K n) 2) (gTell K cf cw cu n).2 W' st' m' → WN K V n W st W' st' → Q m') (fin : ∀ m', Q m' → j_X12_tellOne_70_371 8 m' Q) :
    c_X12_roomFor_70 7 (m.1 80 (m.1 70 19).toNatClampNeg) (7 : Int32) m (fun m1 => (((m1.1 70 13).toInt ≤ 0 → c_X12_named_70 7 m1 (fun r2 m2 => ((0 ≤ (m2.1 70 19).toInt ∧ (m2.1 70 19).toInt < 2) ∧ c_X12_bounded_70 7 (0 : Int32) (9 : Int32) m2 (fun r3 m3 => ((0 ≤ (((7 : Int32) * (m2.1 70 19)) + (m2.1 80 (m2.1 70 19).toNatClampNeg)).toInt ∧ (((7 : Int32) * (m2.1 70 19)) + (m2.1 80 (m2.1 70 19).toNatClampNeg)).toInt < 14) ∧ ((0 ≤ (m3.1 70 19).toInt ∧ (m3.1 70 19).toInt < 2) ∧ c_X12_endsName_70 7 r2 (m3.1 80 (m3.1 70 19).toNatClampNeg) (dSet m3 81 (((7 : Int32) * (m2.1 70 19)) + (m2.1 80 (m2.1 70 19).toNatClampNeg)).toNatClampNeg r3) (fun m4 => (((m4.1 70 13).toInt ≠ 0 → j_X12_tellOne_70_371 (7 + 1) m4 Q) ∧ ((m4.1 70 13).toInt = 0 → ((0 ≤ (m4.1 70 19).toInt ∧ (m4.1 70 19).toInt < 2) ∧ ((0 ≤ (m4.1 70 19).toInt ∧ (m4.1 70 19).toInt < 2) ∧ j_X12_tellOne_70_371 (7 + 1) (dSet m4 80 (m4.1 70 19).toNatClampNeg ((m4.1 80 (m4.1 70 19).toNatClampNeg) + (1 : Int32))) Q)))))))))) ) ∧ (0 < (m1.1 70 13).toInt → Q m1))) := by
  have hs : s ≤ 1 := by omega
  obtain ⟨hS, hR, hF, hC, hQ, hW, hN⟩ := hT
  have hC5 := hC.2.2.2.2
  have sd := hF.sd hsd
  have gT : gTell K cf cw cu n = if 7 ≤ cf then (2, n) else rb (gst n) (gsq K [22, 23, 59]) := by unfold gTell; rw [if_pos hk]
  have mT : mTell K V n st = mFlat V n st := by unfold mTell; rw [if_pos hk]
  rw [sd.2]
  refine Wp.deep (q_roomFor (most := 7) hR hS (by omega) hC.1 (by decide) hC.2.2.2.2.1 (fun m1 c1 h1 => ?_)) (Nat.le_of_ble_eq_true rfl)
  have f1 := h1.fl
  have e13 : (m1.1 70 13).toInt = flt m1 := rfl
  refine ⟨fun q => ?_, fun q => ?_⟩
  rotate_left
  · have z : (if 7 ≤ cf then ((2, n) : gR) else gst n).1 ≠ 0 := fun z => by have := f1.2.mpr z; omega
    have eT : gTell K cf cw cu n = if 7 ≤ cf then (2, n) else gst n := by
      rw [gT]
      by_cases q7 : 7 ≤ cf
      · rw [if_pos q7, if_pos q7]
      · rw [if_neg q7] at z
        rw [if_neg q7, if_neg q7, rb_f z]
    refine hB (by rw [eT]; exact z) m1 W (by rw [eT]; exact h1) (hF.cx c1)
  have z1 : (if 7 ≤ cf then ((2, n) : gR) else gst n).1 = 0 := f1.2.mp (by omega)
  have c7 : ¬ 7 ≤ cf := fun q7 => by rw [if_pos q7] at z1; exact absurd z1 (Nat.succ_ne_zero 1)
  rw [if_neg c7] at z1 h1 gT
  have g1 := gst_z z1
  rw [g1.1] at h1 gT
  have gT4 : gTell K cf cw cu n = rb (rb (gnd K 22 (n + 1)) (gnd K 23)) (gnd K 59) := by rw [gT, gsq_r, gsq_r, gsq_r, rb_id, rb_0]
  have C1 := hC.cx c1
  have F1 := hF.cx c1
  refine Wp.deep (q_named hv hP (hR.cx c1) h1 C1.2.2.2.1 (by omega) (fun w => by have := hW w; omega) (fun m2 W2 c2 h2 hw2 => ?_)) (Nat.le_of_ble_eq_true rfl)
  have c12 := c1.tr c2
  have F2 := hF.cx c12
  have C2 := hC.cx c12
  have sd2 := F2.sd hsd
  refine ⟨by omega, ?_⟩
  have hW2 : (gnd K 22 (n + 1)).1 = 0 → W2.1 ≠ 0 → W2.2 < (gnd K 22 (n + 1)).2 := fun z w => by
    have e := (gnd_0 z).1
    rw [e]
    show W2.2 < n + 1 + 1
    rcases hw2 z with ⟨-, e2⟩ | ⟨-, e2⟩
    · rw [e2] at w ⊢
      by_cases q0 : W.1 = 0
      · rw [wadd_z q0]; show n + 1 < n + 1 + 1; omega
      · rw [wadd_n q0]; have := hW q0; omega
    · rw [e2] at w ⊢; have := hW w; omega
  refine Wp.deep (q_bounded hv hP (hR.cx c12) h2 hW2 (fun v3 m3 W3 c3 h3 hw3 => ?_)) (Nat.le_of_ble_eq_true rfl)
  have c13 := c12.tr c3
  have F3 := hF.cx c13
  have C3 := hC.cx c13
  have sd3 := F3.sd hsd
  rw [sd2.2, sd3.2]
  have fm := dMulE (X := 7) (Y := (s : Int)) (x := (7 : Int32)) (y := m2.1 70 19) (by decide) sd2.1 (by omega) (by omega)
  have fa := dAddE (X := 7 * (s : Int)) (Y := (cf : Int)) (x := (7 : Int32) * m2.1 70 19) (y := m2.1 80 s) fm C2.1 (by omega) (by omega)
  refine ⟨by omega, ⟨by omega, ?_⟩⟩
  have e11 : (m1.1 70 11).toInt = ((n + 1 : Nat) : Int) := (h1.1 rfl).2.1
  have F3' : FX m0 L (dSet m3 81 (((7 : Int32) * (m2.1 70 19)) + (m2.1 80 s)).toNatClampNeg v3) := F3.set (by decide) (by decide) (fun e => absurd e (by decide))
  have S3' : ST K P (dSet m3 81 (((7 : Int32) * (m2.1 70 19)) + (m2.1 80 s)).toNatClampNeg v3) (rb (gnd K 22 (n + 1)) (gnd K 23)) W3 := h3.k (by decide)
  have R3' : RM K V P (dSet m3 81 (((7 : Int32) * (m2.1 70 19)) + (m2.1 80 s)).toNatClampNeg v3) := (hR.cx c13).of (fun k a b => dSet_k (by omega)) rfl
  have k3' : ∀ k : Nat, k ≠ 81 → (dSet m3 81 (((7 : Int32) * (m2.1 70 19)) + (m2.1 80 s)).toNatClampNeg v3).1 k = m3.1 k := fun k e => dSet_k e
  have l3' : (dSet m3 81 (((7 : Int32) * (m2.1 70 19)) + (m2.1 80 s)).toNatClampNeg v3).2 = m3.2 := rfl
  generalize dSet m3 81 (((7 : Int32) * (m2.1 70 19)) + (m2.1 80 s)).toNatClampNeg v3 = M3 at F3' S3' R3' k3' l3' ⊢
  have N3 : nms M3 = ((cf + cu : Nat) : Int) := by unfold nms; rw [k3' 70 (by decide)]; exact C3.2.2.2.1
  refine Wp.deep (q_endsName (N := cf + cu) (tok := n + 1) hv R3' S3' e11 (by omega) N3 (by omega) (fun z4 m4 c4 h4 => ?_) (fun z4 m4 E4 h4 => ?_)) (Nat.le_of_ble_eq_true rfl)
  · rw [← gT4] at z4 h4
    have f4 := h4.fl
    exact ⟨fun _ => fin m4 (hB z4 m4 W3 h4 (F3'.cx c4)), fun q => absurd (f4.2.mp q) z4⟩
  · have r4 := rb_z z4
    have r3 := rb_z r4.1
    have t4 : gTell K cf cw cu n = (0, n + 4) := by
      rw [gT4, r4.2, r3.2, (gnd_0 r3.1).1]
      have a1 := r4.1
      rw [r3.2, (gnd_0 r3.1).1] at a1
      have a1 : (gnd K 23 (n + 1 + 1)).1 = 0 := a1
      show gnd K 59 (gnd K 23 (n + 1 + 1)).2 = _
      have a2 := z4
      rw [r4.2, r3.2, (gnd_0 r3.1).1] at a2
      have a2 : (gnd K 59 (gnd K 23 (n + 1 + 1)).2).1 = 0 := a2
      rw [(gnd_0 a1).1] at a2 ⊢
      have a2 : (gnd K 59 (n + 1 + 1 + 1)).1 = 0 := a2
      show gnd K 59 (n + 1 + 1 + 1) = _
      rw [(gnd_0 a2).1]
    rw [← gT4] at z4 h4
    have f4 := h4.fl
    have F4 := F3'.en E4
    have sd4 := F4.sd hsd
    rw [sd4.2]
    refine ⟨fun q => absurd (f4.2.mpr z4) q, fun _ => ⟨by omega, ⟨by omega, fin _ ?_⟩⟩⟩
    have e80 : m4.1 80 s = m3.1 80 s := by rw [E4.1 80 (by decide) (by decide), k3' 80 (by decide)]
    have e80' : (m4.1 80 s).toInt = (cf : Int) := by rw [e80]; exact C3.1
    have hw2' := hw2 r3.1
    have hw3' := hw3 r4.1
    have v21 : (gnd K 22 (n + 1)).2 = n + 2 := by rw [(gnd_0 r3.1).1]
    rw [v21] at hw3'
    have yn : M3.2.1 76 (n + 1) = V (n + 1) := by
      have hk1 := (gnd_0 r3.1).2.1
      exact (R3' (n + 1) (by omega) (h1.1 rfl).2.2.2.1).2.2.1 (by omega)
    rw [yn] at E4
    have cK : ct (K n) 0 = 1 ∧ ct (K n) 1 = 0 ∧ ct (K n) 2 = 0 := by rw [hk]; decide
    rw [t4] at h4 z4
    have S4 : ST K P (dSet m4 80 s (m4.1 80 s + 1)) (0, n + 4) W3 := h4.k (by decide)
    have R4 : RM K V P (dSet m4 80 s (m4.1 80 s + 1)) := R3'.of (fun k a b => by rw [dSet_k (by omega)]; exact E4.1 k (by omega) (by omega)) (by show m4.2.1 76 = M3.2.1 76; exact E4.2.2.2.2.1 76 (by decide))
    have tt4 : tt m4 = ((n + 4 : Nat) : Int) := (h4.1 rfl).2.1
    have tt0 : tt m = (n : Int) := (hS.1 rfl).2.1
    have jj : ∀ j : Nat, j = 12 ∨ j = 40 ∨ j = 46 → m4.1 70 j = m.1 70 j := fun j e => by rw [E4.2.1 j (by omega) (by omega) (by omega) (by omega) (by omega) (by omega), k3' 70 (by decide), c13.2.1 j (by omega) (by omega) (by omega) (by omega) (by omega)]
    have Q4 : LQ s (dSet m4 80 s (m4.1 80 s + 1)) := hQ.j (jj 12 (by omega)) (jj 46 (by omega)) (jj 40 (by omega)) (by show tt m ≤ tt m4; omega)
    have C4 : CT s (cf + 1) cw cu (dSet m4 80 s (m4.1 80 s + 1)) := by
      refine ⟨by rw [dSet_s]; exact d_inc e80' (by omega), ?_, ?_, ?_, by omega, by omega, by omega⟩
      · rw [dSet_k (by decide), E4.1 82 (by decide) (by decide), k3' 82 (by decide)]; exact C3.2.1
      · rw [dSet_k (by decide), E4.1 86 (by decide) (by decide), k3' 86 (by decide)]; exact C3.2.2.1
      · show (m4.1 70 20).toInt = _
        rw [E4.2.2.1]
        omega
    have key : (W3.1 ≠ 0 → W3.2 < n + 4) ∧ ∃ st' : mSt, (W3.1 = 0 → NM V s st' (dSet m4 80 s (m4.1 80 s + 1)) ∧ st'.1.length = cf + 1 ∧ st'.2.1.length = cw ∧ st'.2.2.1.length = cu) ∧ WN K V n W st W3 st' := by
      unfold WN
      rw [mT]
      by_cases w0 : W.1 = 0
      · obtain ⟨hN1, hl1, hl2, hl3⟩ := hN w0
        have kn : (∃ k : Nat, k < cf + cu ∧ m1.2.1 78 k = V (n + 1)) ↔ knw V st (V (n + 1)) = true := by
          rw [c1.2.2, ← hl1, ← hl3]; exact hN1.kn
        rcases hw2' with ⟨ex, e2⟩ | ⟨ex, e2⟩
        · have kt := kn.mp ex
          rw [wadd_z w0] at e2
          have e3 : W3 = (3, n + 1) := by
            rw [hw3'.2, e2]
            split
            · rfl
            · exact wadd_n (Nat.succ_ne_zero 2)
          have mf : mFlat V n st = ((3, n + 1), st) := by unfold mFlat; rw [kt]; rfl
          rw [e3, mf]
          exact ⟨fun _ => by show n + 1 < n + 4; omega, st, fun q => absurd q (Nat.succ_ne_zero 2), fun q => absurd w0 q, fun _ => ⟨fun q => absurd q (Nat.succ_ne_zero 2), fun _ => rfl⟩⟩
        · have kf : knw V st (V (n + 1)) = false := by
            cases hh : knw V st (V (n + 1)) with
            | false => rfl
            | true =>
              obtain ⟨k, k1, k2⟩ := kn.mpr hh
              exact absurd k2 (ex k k1)
          have mf : mFlat V n st = bnd V (n + 2) 0 9 ((0, 0), (st.1 ++ [n], st.2)) st := by unfold mFlat; rw [kf]; rfl
          rw [mf]
          unfold bnd
          have e3 := hw3'.2
          rw [e2] at e3
          by_cases inb : (0 : Int) ≤ iV V (n + 2) ∧ iV V (n + 2) ≤ 9
          · rw [if_pos inb] at ⊢
            rw [if_pos (show (0 : Int32).toInt ≤ iV V (n + 2) ∧ iV V (n + 2) ≤ (9 : Int32).toInt from inb)] at e3
            rw [e3]
            refine ⟨fun q => absurd w0 q, (st.1 ++ [n], st.2), fun _ => ⟨?_, ?_, hl2, hl3⟩, fun q => absurd w0 q, fun _ => ⟨fun _ => ⟨w0, rfl⟩, fun q => absurd rfl q⟩⟩
            · refine (hN1.cx c13).flat (N := cf + cu) (v := m3.1 80 s) (by omega) (by rw [hl1]; exact C3.1) kf (fun j => ?_) ?_ ?_ (fun j => ?_)
              · rw [dSet_k (by decide), E4.2.2.2.1 j, k3' 79 (by decide)]
              · rw [dSet_k (by decide), E4.1 83 (by decide) (by decide), k3' 83 (by decide)]
              · rw [dSet_k (by decide), E4.1 84 (by decide) (by decide), k3' 84 (by decide)]
              · show m4.2.1 78 j = _
                rw [E4.2.2.2.2.2.1 j, l3']
            · show (st.1 ++ [n]).length = cf + 1
              rw [List.length_append, hl1]; rfl
          · rw [if_neg inb]
            rw [if_neg (show ¬ ((0 : Int32).toInt ≤ iV V (n + 2) ∧ iV V (n + 2) ≤ (9 : Int32).toInt) from inb), wadd_z w0] at e3
            rw [e3]
            exact ⟨fun _ => by show n + 2 < n + 4; omega, st, fun q => absurd q (Nat.succ_ne_zero 4), fun q => absurd w0 q, fun _ => ⟨fun q => absurd q (Nat.succ_ne_zero 4), fun _ => rfl⟩⟩
      · have e2 : W2 = W := by
          rcases hw2' with ⟨-, e2⟩ | ⟨-, e2⟩
          · rw [e2, wadd_n w0]
          · exact e2
        have e3 : W3 = W := by
          rw [hw3'.2, e2]
          split
          · rfl
          · exact wadd_n w0
        rw [e3]
        exact ⟨fun q => by have := hW q; omega, st, fun q => absurd q w0, fun _ => rfl, fun q => absurd q w0⟩
    obtain ⟨kw, st', kn, kwn⟩ := key
    refine hG (by rw [t4]) _ W3 st' ?_ kwn
    rw [cK.1, cK.2.1, cK.2.2, t4]
    exact ⟨S4, R4, F4.set (by decide) (by decide) (fun _ => by omega), C4, Q4, kw, kn⟩
end RFL
end
