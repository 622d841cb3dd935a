/-! THE CLASS's meaning, 4: surge, coins, seed; all of a text -/
section CMA
variable {K : Nat → Int} {V : Nat → Int64}
theorem MS.sg {s : mSt} {m : dM} {n : Nat} (h : MS V s m) : MS V (s.1, s.2.1, s.2.2.1, (some n, s.2.2.2.2)) (dSet (dSet m 20 3 (V (n + 1)).toInt32) 20 4 (V (n + 2)).toInt32) := by
  obtain ⟨a1, a2, a3, a4, a5, a6, a7, a8, a9, a10⟩ := h
  exact ⟨a1, a2, a3, a4, a5, a6, rfl, rfl, a9, a10⟩
theorem MS.co {s : mSt} {m : dM} {n : Nat} (h : MS V s m) : MS V (s.1, s.2.1, s.2.2.1, (s.2.2.2.1, some n, s.2.2.2.2.2)) (dSet m 20 5 (V (n + 1)).toInt32) := by
  obtain ⟨a1, a2, a3, a4, a5, a6, a7, a8, a9, a10⟩ := h
  exact ⟨a1, a2, a3, a4, a5, a6, a7, a8, rfl, a10⟩
theorem MS.se {s : mSt} {m : dM} {n : Nat} (h : MS V s m) : MS V (s.1, s.2.1, s.2.2.1, (s.2.2.2.1, s.2.2.2.2.1, some n)) (dSet m 20 6 (V (n + 1)).toInt32) := by
  obtain ⟨a1, a2, a3, a4, a5, a6, a7, a8, a9, a10⟩ := h
  exact ⟨a1, a2, a3, a4, a5, a6, a7, a8, a9, rfl⟩
theorem h_takeSurge {s : mSt} {n : Nat} {m : dM} {Q : Int32 → dM → Prop} (hV : VM K V m) (hM : MS V s m) (hx : (m.1 44 4).toInt = ((n + 1 : Nat) : Int)) (h0 : (m.1 44 5).toInt = 0) (hn : n + 3 < 400) (hl : lvK K (n + 4)) (hk1 : K (n + 1) = 23) (hk2 : K (n + 2) = 23) (hQ : ∀ (r : Int32) (m' : dM), TO K V (bnd V (n + 1) 0 100 (bnd V (n + 2) 0 19 ((0, 0), (s.1, s.2.1, s.2.2.1, (some n, s.2.2.2.2))) s) s) (n + 3) m r m' → Q r m') : c_X5_takeSurge_44 4 m Q := by
  have e2 := d_inc hx (by omega)
  refine v_X5_takeSurge_44 (Wp.deep (h_numberAt hV hx (by omega) (hl.dn (by omega)) (by omega) ?_) (Nat.le_of_ble_eq_true rfl))
  have F1 : MF m (dSet m 20 3 (V (n + 1)).toInt32) := (MF.rf m).set (Or.inl (by decide))
  refine Wp.deep (h_numberAt (i := n + 2) (hV.mf F1) e2 (by omega) (hl.dn (by omega)) (by omega) ?_) (Nat.le_of_ble_eq_true rfl)
  have F2 : MF m (dSet (dSet m 20 3 (V (n + 1)).toInt32) 20 4 (V (n + 2)).toInt32) := F1.set (Or.inl (by decide))
  have hM2 := hM.sg (n := n)
  have p44 : ((dSet (dSet m 20 3 (V (n + 1)).toInt32) 20 4 (V (n + 2)).toInt32).1 44 4).toInt = ((n + 1 : Nat) : Int) := hx
  have p445 : ((dSet (dSet m 20 3 (V (n + 1)).toInt32) 20 4 (V (n + 2)).toInt32).1 44 5).toInt = 0 := h0
  generalize dSet (dSet m 20 3 (V (n + 1)).toInt32) 20 4 (V (n + 2)).toInt32 = M at F2 hM2 p44 p445 ⊢
  have hVM := hV.mf F2
  have t0 := ti_0
  have t19 := ti_19
  have t100 := ti_100
  refine h_within (i := n + 1) hVM p44 (by omega) (hl.dn (by omega)) (by omega) (fun hb1 M6 s6 q44 q445 => ⟨fun q => absurd q (by decide), fun _ => ?_⟩) (fun hb1 M6 s6 q44 q445 => ⟨fun _ => v_X5_takeSurge_44_62 (hQ _ _ ?_), fun q => absurd (by decide) q⟩)
  · refine h_within (i := n + 2) (hVM.s44 s6) q44 (by omega) (hl.dn (by omega)) (by omega) (fun hb2 M7 s7 r44 r445 => ⟨fun q => absurd q (by decide), fun _ => hQ _ _ ?_⟩) (fun hb2 M7 s7 r44 r445 => ⟨fun _ => v_X5_takeSurge_44_62 (hQ _ _ ?_), fun q => absurd (by decide) q⟩)
    · unfold bnd
      rw [if_pos (by omega), if_pos (by omega)]
      exact ⟨S44.mf F2 (s6.tr s7), fun _ => ⟨rfl, r44, by rw [r445, q445]; exact p445, MS.s44 hM2 (s6.tr s7)⟩, fun q => absurd rfl q⟩
    · unfold bnd
      rw [if_pos (by omega), if_neg (by omega)]
      exact ⟨S44.mf F2 (s6.tr s7), fun q => absurd q (Nat.succ_ne_zero _), fun _ => ⟨rfl, r44, r445, by show n + 2 ≤ 400; omega, hl.dn (show n + 2 ≤ n + 4 by omega)⟩⟩
  · unfold bnd
    rw [if_neg (by omega)]
    exact ⟨S44.mf F2 s6, fun q => absurd q (Nat.succ_ne_zero _), fun _ => ⟨rfl, q44, q445, by show n + 1 ≤ 400; omega, hl.dn (show n + 1 ≤ n + 4 by omega)⟩⟩
theorem h_takeCoins {s : mSt} {n : Nat} {m : dM} {Q : Int32 → dM → Prop} (hV : VM K V m) (hM : MS V s m) (hx : (m.1 44 4).toInt = ((n + 1 : Nat) : Int)) (h0 : (m.1 44 5).toInt = 0) (hn : n + 2 < 400) (hl : lvK K (n + 3)) (hk1 : K (n + 1) = 23) (hQ : ∀ (r : Int32) (m' : dM), TO K V (bnd V (n + 1) 0 999 ((0, 0), (s.1, s.2.1, s.2.2.1, (s.2.2.2.1, some n, s.2.2.2.2.2))) s) (n + 2) m r m' → Q r m') : c_X5_takeCoins_44 4 m Q := by
  refine v_X5_takeCoins_44 (Wp.deep (h_numberAt hV hx (by omega) (hl.dn (by omega)) (by omega) ?_) (Nat.le_of_ble_eq_true rfl))
  have F2 : MF m (dSet m 20 5 (V (n + 1)).toInt32) := (MF.rf m).set (Or.inl (by decide))
  have hM2 := hM.co (n := n)
  have p44 : ((dSet m 20 5 (V (n + 1)).toInt32).1 44 4).toInt = ((n + 1 : Nat) : Int) := hx
  have p445 : ((dSet m 20 5 (V (n + 1)).toInt32).1 44 5).toInt = 0 := h0
  generalize dSet m 20 5 (V (n + 1)).toInt32 = M at F2 hM2 p44 p445 ⊢
  have hVM := hV.mf F2
  have t0 := ti_0
  have t999 := ti_999
  refine h_within (i := n + 1) hVM p44 (by omega) (hl.dn (by omega)) (by omega) (fun hb1 M6 s6 q44 q445 => ⟨Or.inr rfl, hQ _ _ ?_⟩) (fun hb1 M6 s6 q44 q445 => ⟨Or.inl rfl, hQ _ _ ?_⟩)
  · unfold bnd
    rw [if_pos (by omega)]
    exact ⟨S44.mf F2 s6, fun _ => ⟨rfl, q44, by rw [q445]; exact p445, MS.s44 hM2 s6⟩, fun q => absurd rfl q⟩
  · unfold bnd
    rw [if_neg (by omega)]
    exact ⟨S44.mf F2 s6, fun q => absurd q (Nat.succ_ne_zero _), fun _ => ⟨rfl, q44, q445, by show n + 1 ≤ 400; omega, hl.dn (show n + 1 ≤ n + 3 by omega)⟩⟩
theorem h_takeSeed {s : mSt} {n : Nat} {m : dM} {Q : Int32 → dM → Prop} (hV : VM K V m) (hM : MS V s m) (hx : (m.1 44 4).toInt = ((n + 1 : Nat) : Int)) (h0 : (m.1 44 5).toInt = 0) (hn : n + 2 < 400) (hl : lvK K (n + 3)) (hk1 : K (n + 1) = 23) (hQ : ∀ (r : Int32) (m' : dM), TO K V (bnd V (n + 1) 0 9999 ((0, 0), (s.1, s.2.1, s.2.2.1, (s.2.2.2.1, s.2.2.2.2.1, some n))) s) (n + 2) m r m' → Q r m') : c_X5_takeSeed_44 4 m Q := by
  refine v_X5_takeSeed_44 (Wp.deep (h_numberAt hV hx (by omega) (hl.dn (by omega)) (by omega) ?_) (Nat.le_of_ble_eq_true rfl))
  have F2 : MF m (dSet m 20 6 (V (n + 1)).toInt32) := (MF.rf m).set (Or.inl (by decide))
  have hM2 := hM.se (n := n)
  have p44 : ((dSet m 20 6 (V (n + 1)).toInt32).1 44 4).toInt = ((n + 1 : Nat) : Int) := hx
  have p445 : ((dSet m 20 6 (V (n + 1)).toInt32).1 44 5).toInt = 0 := h0
  generalize dSet m 20 6 (V (n + 1)).toInt32 = M at F2 hM2 p44 p445 ⊢
  have hVM := hV.mf F2
  have t0 := ti_0
  have t9999 := ti_9999
  refine h_within (i := n + 1) hVM p44 (by omega) (hl.dn (by omega)) (by omega) (fun hb1 M6 s6 q44 q445 => ⟨Or.inr rfl, hQ _ _ ?_⟩) (fun hb1 M6 s6 q44 q445 => ⟨Or.inl rfl, hQ _ _ ?_⟩)
  · unfold bnd
    rw [if_pos (by omega)]
    exact ⟨S44.mf F2 s6, fun _ => ⟨rfl, q44, by rw [q445]; exact p445, MS.s44 hM2 s6⟩, fun q => absurd rfl q⟩
  · unfold bnd
    rw [if_neg (by omega)]
    exact ⟨S44.mf F2 s6, fun q => absurd q (Nat.succ_ne_zero _), fun _ => ⟨rfl, q44, q445, by show n + 1 ≤ 400; omega, hl.dn (show n + 1 ≤ n + 3 by omega)⟩⟩
/-- on to behind the next sign of end -/
theorem h_skip_0 {e : Nat} {Q : dM → Prop} (he : e < 400) (hke : K e = 59) (hl : lvK K e) : ∀ (f i : Nat) (m : dM), i + f = e → VM K V m → (m.1 44 4).toInt = (i : Int) → (∀ j : Nat, i ≤ j → j < e → K j ≠ 59) → (∀ m' : dM, S44 m m' → (m'.1 44 4).toInt = ((e + 1 : Nat) : Int) → m'.1 44 5 = m.1 44 5 → Q m') → j_X5_skipEnd_44_0 2 m Q := by
  intro f
  induction f with
  | zero =>
    intro i m hi hV hx hj hQ
    have hi : i = e := by omega
    subst hi
    refine v_X5_skipEnd_44_0 ⟨fun q => by exfalso; omega, fun _ => h_kindAt hV hx (by omega) hl (fun r hr => ⟨fun _ => v_X5_skipEnd_44_39 (hQ _ ⟨fun k a => dSet_k a, rfl⟩ ?_ ?_), fun q => by exfalso; omega⟩)⟩
    · rw [dSet_s]; exact d_inc hx (by omega)
    · rw [dSet_j (by decide)]
  | succ f ih =>
    intro i m hi hV hx hj hQ
    have hne := hj i (Nat.le_refl _) (by omega)
    refine v_X5_skipEnd_44_0 ⟨fun q => by exfalso; omega, fun _ => h_kindAt hV hx (by omega) (hl.dn (by omega)) (fun r hr => ⟨fun q => by exfalso; omega, fun _ => ?_⟩)⟩
    have s1 : S44 m (dSet m 44 4 (m.1 44 4 + 1)) := ⟨fun k a => dSet_k a, rfl⟩
    have e1 : ((dSet m 44 4 (m.1 44 4 + 1)).1 44 4).toInt = ((i + 1 : Nat) : Int) := by rw [dSet_s]; exact d_inc hx (by omega)
    have e5 : (dSet m 44 4 (m.1 44 4 + 1)).1 44 5 = m.1 44 5 := by rw [dSet_j (by decide)]
    generalize dSet m 44 4 (m.1 44 4 + 1) = M at s1 e1 e5 ⊢
    exact ih (i + 1) M (by omega) (hV.s44 s1) e1 (fun j a b => hj j (by omega) b) (fun m' a b c => hQ m' (s1.tr a) b (c.trans e5))
theorem h_skip {e i : Nat} {m : dM} {Q : dM → Prop} (he : e < 400) (hke : K e = 59) (hl : lvK K e) (hie : i ≤ e) (hV : VM K V m) (hx : (m.1 44 4).toInt = (i : Int)) (hj : ∀ j : Nat, i ≤ j → j < e → K j ≠ 59) (hQ : ∀ m' : dM, S44 m m' → (m'.1 44 4).toInt = ((e + 1 : Nat) : Int) → m'.1 44 5 = m.1 44 5 → Q m') : c_X5_skipEnd_44 2 m Q :=
  h_skip_0 he hke hl (e - i) i m (by omega) hV hx hj hQ
/-- one TELL, to behind its end -/
theorem h_one {s : mSt} {n n' : Nat} {m : dM} {x : Int32} {A B : dM → Prop} (hV : VM K V m) (hM : MS V s m) (hx : (m.1 44 4).toInt = (n : Int)) (h0 : (m.1 44 5).toInt = 0) (hr : x.toInt = K n) (hk : K n ≠ 24) (hg : gTell K s.1.length s.2.1.length s.2.2.1.length n = (0, n')) (hn' : n' ≤ 400) (hl : lvK K n') (hA : (mTell K V n s).1.1 ≠ 0 → ∀ m' : dM, MF m m' → (m'.1 44 4).toInt = ((mTell K V n s).1.2 : Int) → (m'.1 44 5).toInt = ((mTell K V n s).1.1 : Int) → (mTell K V n s).1.2 ≤ 400 ∧ lvK K (mTell K V n s).1.2 → A m') (hB : (mTell K V n s).1.1 = 0 → ∀ m' : dM, MF m m' → (m'.1 44 4).toInt = (n' : Int) → (m'.1 44 5).toInt = 0 → MS V (mTell K V n s).2 m' → B m') :
    c_X5_takeTold_44 5 x (dSet m 44 4 (m.1 44 4 + 1)) (fun r3 m3 => ((r3.toInt = 0 → A m3) ∧ (r3.toInt ≠ 0 → c_X5_skipEnd_44 5 m3 B))) := by
  have hlt : n < n' := by
    have := gTell_lt (K := K) (cf := s.1.length) (cw := s.2.1.length) (cu := s.2.2.1.length) (n := n) (by rw [hg])
    rw [hg] at this
    exact this
  have s1 : S44 m (dSet m 44 4 (m.1 44 4 + 1)) := ⟨fun k a => dSet_k a, rfl⟩
  have e1 : ((dSet m 44 4 (m.1 44 4 + 1)).1 44 4).toInt = ((n + 1 : Nat) : Int) := by rw [dSet_s]; exact d_inc hx (by omega)
  have e5 : ((dSet m 44 4 (m.1 44 4 + 1)).1 44 5).toInt = 0 := by rw [dSet_j (by decide)]; exact h0
  generalize dSet m 44 4 (m.1 44 4 + 1) = M at s1 e1 e5 ⊢
  have hVM := hV.s44 s1
  have hMM := hM.s44 s1
  have FM : MF m M := S44.mf (MF.rf m) s1
  generalize hR : mTell K V n s = R at hA hB
  have fin : ∀ (e e' : Nat) (r : Int32) (m' : dM), TO K V R e M r m' → e' + 1 = n' → K e' = 59 → e ≤ e' → (∀ j : Nat, e ≤ j → j < e' → K j ≠ 59) → (r = 0 ∨ r = 1) ∧ ((r.toInt = 0 → A m') ∧ (r.toInt ≠ 0 → c_X5_skipEnd_44 5 m' B)) := by
    intro e e' r m' ⟨t1, t2, t3⟩ he hke hee hj
    by_cases z : R.1.1 = 0
    · obtain ⟨u1, u2, u3, u4⟩ := t2 z
      refine ⟨Or.inr u1, fun q => by rw [u1] at q; exact absurd q (by decide), fun _ => ?_⟩
      refine Wp.deep (h_skip (e := e') (by omega) hke (hl.dn (by omega)) hee (hVM.mf t1) u2 hj (fun m2 a b c => hB z m2 (S44.mf (FM.tr t1) a) ?_ (by rw [c]; exact u3) (MS.s44 u4 a))) (Nat.le_of_ble_eq_true rfl)
      rw [b, he]
    · obtain ⟨u1, u2, u3, u4⟩ := t3 z
      exact ⟨Or.inl u1, fun _ => hA z m' (FM.tr t1) u2 u3 u4, fun q => by rw [u1] at q; exact absurd (by decide) q⟩
  have law : 3 ≤ K n ∧ K n ≤ 6 → ((((1 : Int32).toInt = 0 → A M) ∧ ((1 : Int32).toInt ≠ 0 → c_X5_skipEnd_44 5 M B))) := fun q => by
    have eT : gTell K s.1.length s.2.1.length s.2.2.1.length n = gLaw K n := by
      unfold gTell
      rw [if_neg (by omega), if_neg (by omega), if_neg (by omega), if_pos q]
    rw [eT] at hg
    obtain ⟨e, x1, x2, x3, x4⟩ := gLaw_z (K := K) (n := n) (by rw [hg])
    have en : e + 1 = n' := by rw [hg] at x1; exact (Prod.mk.inj x1).2.symm
    have eR : R = ((0, 0), s) := by
      rw [← hR]
      unfold mTell
      rw [if_neg (by omega), if_neg (by omega), if_neg (by omega), if_neg (by omega), if_neg (by omega), if_neg (by omega)]
    have := fin (n + 1) e 1 M ⟨MF.rf M, fun _ => ⟨rfl, e1, e5, by rw [eR]; exact hMM⟩, fun z => by rw [eR] at z; exact absurd rfl z⟩ en x3 x4.1 x4.2
    exact this.2
  have row : ∀ (ks : List Int), gTell K s.1.length s.2.1.length s.2.2.1.length n = rb (gst n) (gsq K ks) → n' = n + 1 + ks.length ∧ ∀ (i : Nat) (k : Int), ks[i]? = some k → K (n + 1 + i) = k ∧ n + 1 + i < 400 := fun ks eT => by
    rw [eT] at hg
    obtain ⟨a, b⟩ := grow_z (K := K) (ks := ks) (n := n) (by rw [hg])
    rw [hg] at a
    exact ⟨(Prod.mk.inj a).2, b⟩
  refine v_X5_takeTold_44 ⟨fun q => ?_, fun q => ?_, fun q => ?_, fun q => law (by omega), fun q => law (by omega), fun q => law (by omega), fun q => law (by omega), fun q => ?_, fun q => ?_, fun q => ?_, fun q => ?_⟩
  · have eT : gTell K s.1.length s.2.1.length s.2.2.1.length n = if 7 ≤ s.1.length then (2, n) else rb (gst n) (gsq K [22, 23, 59]) := by
      unfold gTell
      rw [if_pos (by omega)]
    have hc : ¬ 7 ≤ s.1.length := fun z => by
      rw [if_pos z, hg] at eT
      exact absurd (Prod.mk.inj eT).1 (by decide)
    rw [if_neg hc] at eT
    obtain ⟨a, b⟩ := row _ eT
    have a : n' = n + 4 := a
    have eR : R = mFlat V n s := by
      rw [← hR]
      unfold mTell
      rw [if_pos (by omega)]
    exact h_takeFlat hVM hMM e1 e5 (by omega) (by rw [← a]; exact hl) (b 0 22 rfl).1 (b 1 23 rfl).1 (by omega) (fun r m' ht => fin (n + 3) (n + 3) r m' (by rw [eR]; exact ht) (by omega) (b 2 59 rfl).1 (Nat.le_refl _) (fun j h1 h2 => by omega))
  · have eT : gTell K s.1.length s.2.1.length s.2.2.1.length n = if 10 ≤ s.2.1.length then (2, n) else rb (gst n) (gsq K [22, 22, 23, 59]) := by
      unfold gTell
      rw [if_neg (by omega), if_pos (by omega)]
    have hc : ¬ 10 ≤ s.2.1.length := fun z => by
      rw [if_pos z, hg] at eT
      exact absurd (Prod.mk.inj eT).1 (by decide)
    rw [if_neg hc] at eT
    obtain ⟨a, b⟩ := row _ eT
    have a : n' = n + 5 := a
    have eR : R = mWire V n s := by
      rw [← hR]
      unfold mTell
      rw [if_neg (by omega), if_pos (by omega)]
    exact h_takeWire hVM hMM e1 e5 (by omega) (by rw [← a]; exact hl) (b 0 22 rfl).1 (b 1 22 rfl).1 (b 2 23 rfl).1 (by omega) (fun r m' ht => fin (n + 4) (n + 4) r m' (by rw [eR]; exact ht) (by omega) (b 3 59 rfl).1 (Nat.le_refl _) (fun j h1 h2 => by omega))
  · have eT : gTell K s.1.length s.2.1.length s.2.2.1.length n = if 8 ≤ s.2.2.1.length then (2, n) else rb (gst n) (gsq K [22, 22, 23, 23, 23, 59]) := by
      unfold gTell
      rw [if_neg (by omega), if_neg (by omega), if_pos (by omega)]
    have hc : ¬ 8 ≤ s.2.2.1.length := fun z => by
      rw [if_pos z, hg] at eT
      exact absurd (Prod.mk.inj eT).1 (by decide)
    rw [if_neg hc] at eT
    obtain ⟨a, b⟩ := row _ eT
    have a : n' = n + 7 := a
    have eR : R = mUse V n s := by
      rw [← hR]
      unfold mTell
      rw [if_neg (by omega), if_neg (by omega), if_pos (by omega)]
    exact h_takeUse hVM hMM e1 e5 (by omega) (by rw [← a]; exact hl) (b 0 22 rfl).1 (b 1 22 rfl).1 (b 2 23 rfl).1 (b 3 23 rfl).1 (b 4 23 rfl).1 (by omega) (fun r m' ht => fin (n + 6) (n + 6) r m' (by rw [eR]; exact ht) (by omega) (b 5 59 rfl).1 (Nat.le_refl _) (fun j h1 h2 => by omega))
  · have eT : gTell K s.1.length s.2.1.length s.2.2.1.length n = rb (gst n) (gsq K [23, 23, 59]) := by
      unfold gTell
      rw [if_neg (by omega), if_neg (by omega), if_neg (by omega), if_neg (by omega), if_pos (by omega)]
    obtain ⟨a, b⟩ := row _ eT
    have a : n' = n + 4 := a
    have eR : R = bnd V (n + 1) 0 100 (bnd V (n + 2) 0 19 ((0, 0), (s.1, s.2.1, s.2.2.1, (some n, s.2.2.2.2))) s) s := by
      rw [← hR]
      unfold mTell
      rw [if_neg (by omega), if_neg (by omega), if_neg (by omega), if_pos (by omega)]
    exact h_takeSurge hVM hMM e1 e5 (by omega) (by rw [← a]; exact hl) (b 0 23 rfl).1 (b 1 23 rfl).1 (fun r m' ht => fin (n + 3) (n + 3) r m' (by rw [eR]; exact ht) (by omega) (b 2 59 rfl).1 (Nat.le_refl _) (fun j h1 h2 => by omega))
  · have eT : gTell K s.1.length s.2.1.length s.2.2.1.length n = rb (gst n) (gsq K [23, 59]) := by
      unfold gTell
      rw [if_neg (by omega), if_neg (by omega), if_neg (by omega), if_neg (by omega), if_neg (by omega), if_pos (by omega)]
    obtain ⟨a, b⟩ := row _ eT
    have a : n' = n + 3 := a
    have eR : R = bnd V (n + 1) 0 999 ((0, 0), (s.1, s.2.1, s.2.2.1, (s.2.2.2.1, some n, s.2.2.2.2.2))) s := by
      rw [← hR]
      unfold mTell
      rw [if_neg (by omega), if_neg (by omega), if_neg (by omega), if_neg (by omega), if_pos (by omega)]
    exact h_takeCoins hVM hMM e1 e5 (by omega) (by rw [← a]; exact hl) (b 0 23 rfl).1 (fun r m' ht => fin (n + 2) (n + 2) r m' (by rw [eR]; exact ht) (by omega) (b 1 59 rfl).1 (Nat.le_refl _) (fun j h1 h2 => by omega))
  · have eT : gTell K s.1.length s.2.1.length s.2.2.1.length n = rb (gst n) (gsq K [23, 59]) := by
      unfold gTell
      rw [if_neg (by omega), if_neg (by omega), if_neg (by omega), if_neg (by omega), if_neg (by omega), if_pos (by omega)]
    obtain ⟨a, b⟩ := row _ eT
    have a : n' = n + 3 := a
    have eR : R = bnd V (n + 1) 0 9999 ((0, 0), (s.1, s.2.1, s.2.2.1, (s.2.2.2.1, s.2.2.2.2.1, some n))) s := by
      rw [← hR]
      unfold mTell
      rw [if_neg (by omega), if_neg (by omega), if_neg (by omega), if_neg (by omega), if_neg (by omega), if_pos (by omega)]
    exact h_takeSeed hVM hMM e1 e5 (by omega) (by rw [← a]; exact hl) (b 0 23 rfl).1 (fun r m' ht => fin (n + 2) (n + 2) r m' (by rw [eR]; exact ht) (by omega) (b 1 59 rfl).1 (Nat.le_refl _) (fun j h1 h2 => by omega))
  · exfalso
    have eT : gTell K s.1.length s.2.1.length s.2.2.1.length n = (1, n) := by
      unfold gTell
      rw [if_neg (by omega), if_neg (by omega), if_neg (by omega), if_neg (by omega), if_neg (by omega), if_neg (by omega)]
    rw [eT] at hg
    exact absurd (Prod.mk.inj hg).1 (by decide)
/-- the lists grow as the counts of the grammar do -/
theorem mTell_len {s : mSt} {n : Nat} (h : (mTell K V n s).1.1 = 0) : (mTell K V n s).2.1.length = s.1.length + ct (K n) 0 ∧ (mTell K V n s).2.2.1.length = s.2.1.length + ct (K n) 1 ∧ (mTell K V n s).2.2.2.1.length = s.2.2.1.length + ct (K n) 2 := by
  have bz : ∀ (i : Nat) (lo hi : Int) (r : gR × mSt), (bnd V i lo hi r s).1.1 = 0 → bnd V i lo hi r s = r := fun i lo hi r h => by
    unfold bnd at h ⊢
    split at h
    · rw [if_pos (by assumption)]
    · exact absurd h (Nat.succ_ne_zero _)
  generalize hR : mTell K V n s = R at h ⊢
  unfold mTell at hR
  unfold ct
  by_cases k0 : K n = 0
  · rw [if_pos k0] at hR
    rw [if_pos k0, if_neg (by omega), if_neg (by omega)]
    unfold mFlat at hR
    cases hkn : knw V s (V (n + 1)) with
    | true => rw [hkn] at hR; rw [← hR] at h; exact absurd h (Nat.succ_ne_zero _)
    | false =>
      rw [hkn] at hR
      have hR : bnd V (n + 2) 0 9 ((0, 0), (s.1 ++ [n], s.2)) s = R := hR
      rw [← hR] at h
      rw [bz _ _ _ _ h] at hR
      rw [← hR]
      exact ⟨List.length_append, rfl, rfl⟩
  · rw [if_neg k0] at hR
    by_cases k1 : K n = 1
    · rw [if_pos k1] at hR
      rw [if_neg k0, if_pos k1, if_neg (by omega)]
      unfold mWire at hR
      split at hR
      · rw [← hR] at h; exact absurd h (Nat.succ_ne_zero _)
      · split at hR
        · rw [← hR] at h; exact absurd h (Nat.succ_ne_zero _)
        · split at hR
          · rw [← hR] at h; exact absurd h (Nat.succ_ne_zero _)
          · rw [← hR] at h
            rw [bz _ _ _ _ h] at hR
            rw [← hR]
            exact ⟨rfl, List.length_append, rfl⟩
    · rw [if_neg k1] at hR
      by_cases k2 : K n = 2
      · rw [if_pos k2] at hR
        rw [if_neg k0, if_neg k1, if_pos k2]
        unfold mUse at hR
        cases hkn : knw V s (V (n + 1)) with
        | true => rw [hkn] at hR; rw [← hR] at h; exact absurd h (Nat.succ_ne_zero _)
        | false =>
          rw [hkn, cond_false] at hR
          split at hR
          · rw [← hR] at h; exact absurd h (Nat.succ_ne_zero _)
          · rw [← hR] at h
            have h1 := bz _ _ _ _ h
            rw [h1] at h hR
            have h2 := bz _ _ _ _ h
            rw [h2] at h hR
            have h3 := bz _ _ _ _ h
            rw [h3] at hR
            rw [← hR]
            exact ⟨rfl, rfl, List.length_append⟩
      · rw [if_neg k2] at hR
        rw [if_neg k0, if_neg k1, if_neg k2]
        by_cases k7 : K n = 7
        · rw [if_pos k7] at hR
          rw [← hR] at h
          have h1 := bz _ _ _ _ h
          rw [h1] at h hR
          have h2 := bz _ _ _ _ h
          rw [h2] at hR
          rw [← hR]
          exact ⟨rfl, rfl, rfl⟩
        · rw [if_neg k7] at hR
          by_cases k8 : K n = 8
          · rw [if_pos k8] at hR
            rw [← hR] at h
            rw [bz _ _ _ _ h] at hR
            rw [← hR]
            exact ⟨rfl, rfl, rfl⟩
          · rw [if_neg k8] at hR
            by_cases k9 : K n = 9
            · rw [if_pos k9] at hR
              rw [← hR] at h
              rw [bz _ _ _ _ h] at hR
              rw [← hR]
              exact ⟨rfl, rfl, rfl⟩
            · rw [if_neg k9] at hR
              rw [← hR]
              exact ⟨rfl, rfl, rfl⟩
theorem h_check {m : dM} {Q : Int32 → dM → Prop} (hV : VM K V m) (hM : MS V mS0 m) {R : gR} (hG : gAll K 401 0 0 0 0 = R) (hR0 : R.1 = 0) (hR : R.2 ≤ 400) (hl : lvK K R.2) (hQ : ∀ (r : Int32) (m' : dM), MF m m' → r.toInt = ((mAll K V 401 0 mS0).1.1 : Int) → (m'.1 44 5).toInt = ((mAll K V 401 0 mS0).1.1 : Int) → ((mAll K V 401 0 mS0).1.1 ≠ 0 → (m'.1 44 4).toInt = ((mAll K V 401 0 mS0).1.2 : Int) ∧ (mAll K V 401 0 mS0).1.2 ≤ 400 ∧ lvK K (mAll K V 401 0 mS0).1.2) → ((mAll K V 401 0 mS0).1.1 = 0 → MS V (mAll K V 401 0 mS0).2 m') → Q r m') : c_X5_check_44 6 m Q := by
  generalize hA : mAll K V 401 0 mS0 = M at hQ
  have bad : ∀ (m' : dM), MF m m' → M.1.1 ≠ 0 → (m'.1 44 4).toInt = (M.1.2 : Int) → (m'.1 44 5).toInt = (M.1.1 : Int) → M.1.2 ≤ 400 ∧ lvK K M.1.2 → j_X5_check_44_82 6 m' Q := fun m' hF h a b c => v_X5_check_44_82 (hQ _ _ hF b b (fun _ => ⟨a, c⟩) (fun z => absurd z h))
  have badL : ∀ (i : Nat) (x1 : Int32) (m' : dM), x1.toInt = i → MF m m' → M.1.1 ≠ 0 → (m'.1 44 4).toInt = (M.1.2 : Int) → (m'.1 44 5).toInt = (M.1.1 : Int) → M.1.2 ≤ 400 ∧ lvK K M.1.2 → j_X5_check_44_12 6 x1 m' Q := fun i x1 m' hx hF h a b c => v_X5_check_44_12 ⟨fun _ => bad m' hF h a b c, fun _ => ⟨fun _ => bad m' hF h a b c, fun q => by exfalso; omega⟩⟩
  have loop : ∀ (f i n : Nat) (s : mSt) (x1 : Int32) (m' : dM), i + f = 401 → x1.toInt = i → i ≤ n → MF m m' → (m'.1 44 4).toInt = (n : Int) → (m'.1 44 5).toInt = 0 → MS V s m' → gAll K f s.1.length s.2.1.length s.2.2.1.length n = R → mAll K V f n s = M → j_X5_check_44_12 6 x1 m' Q := by
    intro f
    induction f with
    | zero =>
      intro i n s x1 m' hi hx hin hF h4 h5 hS hg hm
      have := gAll_le (K := K) 0 s.1.length s.2.1.length s.2.2.1.length n
      rw [hg] at this
      exfalso; omega
    | succ f ih =>
      intro i n s x1 m' hi hx hin hF h4 h5 hS hg hm
      have hle := gAll_le (K := K) (f + 1) s.1.length s.2.1.length s.2.2.1.length n
      rw [hg] at hle
      have hVm := hV.mf hF
      have hln := hl.dn hle
      refine v_X5_check_44_12 ⟨fun q => by exfalso; omega, fun _ => ⟨fun q => absurd h5 q, fun _ => Wp.deep (h_kindAt hVm h4 (by omega) hln (fun r hr => ⟨fun q => ?_, fun q => Wp.deep (h_kindAt hVm h4 (by omega) hln (fun r2 hr2 => ?_)) (Nat.le_of_ble_eq_true rfl)⟩)) (Nat.le_of_ble_eq_true rfl)⟩⟩
      · unfold mAll at hm
        rw [if_pos (by omega)] at hm
        rw [← hm] at hQ
        exact v_X5_check_44_82 (hQ _ _ hF h5 h5 (fun z => absurd rfl z) (fun _ => hS))
      · have hk : K n ≠ 24 := by omega
        unfold gAll at hg
        rw [if_neg hk] at hg
        unfold mAll at hm
        rw [if_neg hk] at hm
        have hz := rb_z (r := gTell K s.1.length s.2.1.length s.2.2.1.length n) (by rw [hg]; exact hR0)
        rw [hz.2] at hg
        generalize hgt : gTell K s.1.length s.2.1.length s.2.2.1.length n = g at hz hg hm
        obtain ⟨g1, n'⟩ := g
        have z1 : g1 = 0 := hz.1
        subst z1
        have hg : gAll K f (s.1.length + ct (K n) 0) (s.2.1.length + ct (K n) 1) (s.2.2.1.length + ct (K n) 2) n' = R := hg
        have hle2 := gAll_le (K := K) f (s.1.length + ct (K n) 0) (s.2.1.length + ct (K n) 1) (s.2.2.1.length + ct (K n) 2) n'
        rw [hg] at hle2
        have hlt : n < n' := by
          have := gTell_lt (K := K) (cf := s.1.length) (cw := s.2.1.length) (cu := s.2.2.1.length) (n := n) (by rw [hgt])
          rw [hgt] at this
          exact this
        refine h_one hVm hS h4 h5 hr2 hk hgt (by omega) (hl.dn hle2) (fun z m2 F2 a b c => ?_) (fun z m2 F2 a b c => ?_)
        · rw [mGo_f z] at hm
          rw [hm] at a b c z
          exact v_X5_check_44_76 (badL (i + 1) _ m2 (d_inc hx (by omega)) (hF.tr F2) z a b c)
        · rw [mGo_k z] at hm
          obtain ⟨l1, l2, l3⟩ := mTell_len z
          refine v_X5_check_44_76 (ih (i + 1) n' (mTell K V n s).2 _ m2 (by omega) (d_inc hx (by omega)) (by omega) (hF.tr F2) a b c ?_ hm)
          rw [l1, l2, l3]
          exact hg
  have s1 : S44 m (dSet (dSet m 44 4 (0 : Int32)) 44 5 (0 : Int32)) := ⟨fun k a => by rw [dSet_k a, dSet_k a], rfl⟩
  exact v_X5_check_44 (loop 401 0 0 mS0 _ _ rfl (by decide) (Nat.le_refl _) (S44.mf (MF.rf m) s1) (by rw [dSet_j (by decide), dSet_s]; decide) (by rw [dSet_s]; decide) (MS.s44 hM s1) hG hA)
end CMA
