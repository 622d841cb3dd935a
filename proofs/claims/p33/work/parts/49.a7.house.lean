/-! THE HOUSE that a text tells -/
def lD0 (k : Nat) : lD := lDf [dfl k]
/-- as told, with these laws -/
def hoX (V : Nat → Int64) (s : mSt) (Ds : Nat → lD) : Ho := ((s.1.length, s.2.1.length, s.2.2.1.length), (fun w => (wE s w).1, fun w => (wE s w).2, fun u => (s.2.2.1.getD u (0, 0)).2), (fun f => (V (s.1.getD f 0 + 2)).toInt32, fun w => (V ((s.2.1.getD w (0, 0, 0)).1 + 3)).toInt32, fun u => (V ((s.2.2.1.getD u (0, 0)).1 + 3)).toInt32, fun u => (V ((s.2.2.1.getD u (0, 0)).1 + 4)).toInt32, fun u => (V ((s.2.2.1.getD u (0, 0)).1 + 5)).toInt32), (oV V s.2.2.2.1 1 0, oV V s.2.2.2.1 2 0, oV V s.2.2.2.2.1 1 100, oV V s.2.2.2.2.2 1 0), Ds)
/-- what a text that is right keeps -/
def MI (V : Nat → Int64) (s : mSt) : Prop :=
  (∀ w : Nat, w < s.2.1.length → (wE s w).1 < s.1.length ∧ (wE s w).2 < s.1.length ∧ (wE s w).1 ≠ (wE s w).2 ∧ 1 ≤ iV V ((s.2.1.getD w (0, 0, 0)).1 + 3) ∧ iV V ((s.2.1.getD w (0, 0, 0)).1 + 3) ≤ 99) ∧
  (∀ u : Nat, u < s.2.2.1.length → (s.2.2.1.getD u (0, 0)).2 < s.1.length ∧ (1 ≤ iV V ((s.2.2.1.getD u (0, 0)).1 + 3) ∧ iV V ((s.2.2.1.getD u (0, 0)).1 + 3) ≤ 19) ∧ 0 ≤ iV V ((s.2.2.1.getD u (0, 0)).1 + 4) ∧ iV V ((s.2.2.1.getD u (0, 0)).1 + 4) ≤ iV V ((s.2.2.1.getD u (0, 0)).1 + 5) ∧ iV V ((s.2.2.1.getD u (0, 0)).1 + 5) ≤ 23) ∧
  (0 ≤ (oV V s.2.2.2.2.1 1 100).toInt ∧ (oV V s.2.2.2.2.1 1 100).toInt ≤ 999)
section MIS
variable {K : Nat → Int} {V : Nat → Int64}
theorem MI_0 : MI V mS0 := ⟨fun w hw => absurd hw (Nat.not_lt_zero w), fun u hu => absurd hu (Nat.not_lt_zero u), by show 0 ≤ (100 : Int32).toInt ∧ (100 : Int32).toInt ≤ 999; decide⟩
theorem bnd_z {i : Nat} {lo hi : Int} {r : gR × mSt} {s : mSt} (h : (bnd V i lo hi r s).1.1 = 0) : (lo ≤ iV V i ∧ iV V i ≤ hi) ∧ bnd V i lo hi r s = r := by
  unfold bnd at h ⊢
  by_cases q : lo ≤ iV V i ∧ iV V i ≤ hi
  · rw [if_pos q]; exact ⟨q, rfl⟩
  · rw [if_neg q] at h; exact absurd h (Nat.succ_ne_zero 4)
theorem MI_tell {n : Nat} {s : mSt} (h : MI V s) (z : (mTell K V n s).1.1 = 0) : MI V (mTell K V n s).2 := by
  obtain ⟨hw, hu, hc⟩ := h
  generalize hg : mTell K V n s = g at z ⊢
  unfold mTell at hg
  split at hg
  · -- flat
    unfold mFlat at hg
    cases e : knw V s (V (n + 1)) with
    | true => rw [e, cond_true] at hg; subst hg; exact absurd z (Nat.succ_ne_zero 2)
    | false =>
      rw [e, cond_false] at hg
      subst hg
      obtain ⟨b, eq⟩ := bnd_z z
      rw [eq]
      refine ⟨fun w hw' => ?_, fun u hu' => ?_, hc⟩
      · obtain ⟨a1, a2, a3⟩ := hw w hw'
        refine ⟨?_, ?_, a3⟩
        · show (wE s w).1 < (s.1 ++ [n]).length; rw [List.length_append]; omega
        · show (wE s w).2 < (s.1 ++ [n]).length; rw [List.length_append]; omega
      · obtain ⟨a1, a2⟩ := hu u hu'
        refine ⟨?_, a2⟩
        show (s.2.2.1.getD u (0, 0)).2 < (s.1 ++ [n]).length; rw [List.length_append]; omega
  · split at hg
    · -- wire
      unfold mWire at hg
      split at hg
      · subst hg; exact absurd z (Nat.succ_ne_zero 3)
      · rename_i a ha
        split at hg
        · subst hg; exact absurd z (Nat.succ_ne_zero 3)
        · rename_i b hb
          split at hg
          · subst hg; exact absurd z (Nat.succ_ne_zero 2)
          · rename_i hne
            subst hg
            obtain ⟨bb, eq⟩ := bnd_z z
            rw [eq]
            have la := fF_lt ha
            have lb := fF_lt hb
            refine ⟨fun w hw' => ?_, hu, hc⟩
            have hw' : w < (s.2.1 ++ [(n, a, b)]).length := hw'
            rw [List.length_append] at hw'
            have hw' : w < s.2.1.length + 1 := hw'
            show ((s.2.1 ++ [(n, a, b)]).getD w (0, 0, 0)).2.1 < s.1.length ∧ ((s.2.1 ++ [(n, a, b)]).getD w (0, 0, 0)).2.2 < s.1.length ∧ ((s.2.1 ++ [(n, a, b)]).getD w (0, 0, 0)).2.1 ≠ ((s.2.1 ++ [(n, a, b)]).getD w (0, 0, 0)).2.2 ∧ 1 ≤ iV V (((s.2.1 ++ [(n, a, b)]).getD w (0, 0, 0)).1 + 3) ∧ iV V (((s.2.1 ++ [(n, a, b)]).getD w (0, 0, 0)).1 + 3) ≤ 99
            by_cases e : w = s.2.1.length
            · subst e
              rw [getD_last]
              exact ⟨la, lb, fun q => hne (Or.inl q), bb.1, bb.2⟩
            · rw [getD_app (by omega)]
              exact hw w (by omega)
    · split at hg
      · -- use
        unfold mUse at hg
        cases e : knw V s (V (n + 1)) with
        | true => rw [e, cond_true] at hg; subst hg; exact absurd z (Nat.succ_ne_zero 2)
        | false =>
          rw [e, cond_false] at hg
          split at hg
          · subst hg; exact absurd z (Nat.succ_ne_zero 3)
          · rename_i h' hh
            subst hg
            obtain ⟨b3, eq3⟩ := bnd_z z
            rw [eq3] at z ⊢
            obtain ⟨b4, eq4⟩ := bnd_z z
            rw [eq4] at z ⊢
            obtain ⟨b5, eq5⟩ := bnd_z z
            rw [eq5]
            have lh := fF_lt hh
            refine ⟨hw, fun u hu' => ?_, hc⟩
            have hu' : u < (s.2.2.1 ++ [(n, h')]).length := hu'
            rw [List.length_append] at hu'
            have hu' : u < s.2.2.1.length + 1 := hu'
            show ((s.2.2.1 ++ [(n, h')]).getD u (0, 0)).2 < s.1.length ∧ (1 ≤ iV V (((s.2.2.1 ++ [(n, h')]).getD u (0, 0)).1 + 3) ∧ iV V (((s.2.2.1 ++ [(n, h')]).getD u (0, 0)).1 + 3) ≤ 19) ∧ 0 ≤ iV V (((s.2.2.1 ++ [(n, h')]).getD u (0, 0)).1 + 4) ∧ iV V (((s.2.2.1 ++ [(n, h')]).getD u (0, 0)).1 + 4) ≤ iV V (((s.2.2.1 ++ [(n, h')]).getD u (0, 0)).1 + 5) ∧ iV V (((s.2.2.1 ++ [(n, h')]).getD u (0, 0)).1 + 5) ≤ 23
            by_cases e2 : u = s.2.2.1.length
            · subst e2
              rw [getD_last]
              exact ⟨lh, b3, b4.1, b5.1, b5.2⟩
            · rw [getD_app (by omega)]
              exact hu u (by omega)
      · split at hg
        · subst hg
          obtain ⟨b1', eq1⟩ := bnd_z z
          rw [eq1] at z ⊢
          obtain ⟨b2', eq2⟩ := bnd_z z
          rw [eq2]
          exact ⟨hw, hu, hc⟩
        · split at hg
          · subst hg
            obtain ⟨b1', eq1⟩ := bnd_z z
            rw [eq1]
            exact ⟨hw, hu, b1'⟩
          · split at hg
            · subst hg
              obtain ⟨b1', eq1⟩ := bnd_z z
              rw [eq1]
              exact ⟨hw, hu, hc⟩
            · subst hg
              exact ⟨hw, hu, hc⟩
theorem MI_all : ∀ (f n : Nat) (s : mSt), MI V s → (mAll K V f n s).1.1 = 0 → MI V (mAll K V f n s).2
  | 0, n, s, h, _ => h
  | f + 1, n, s, h, z => by
    unfold mAll at z ⊢
    by_cases q : K n = 24
    · rw [if_pos q]; exact h
    · rw [if_neg q] at z ⊢
      by_cases q2 : (mTell K V n s).1.1 = 0
      · rw [mGo_k q2] at z ⊢
        exact MI_all f _ _ (MI_tell h q2) z
      · rw [mGo_f q2] at z; exact absurd z q2
theorem MI_rd (z : (rdR K V).1.1 = 0) : MI V (rdR K V).2 := by
  unfold rdR at z ⊢
  by_cases q : (gAll K 401 0 0 0 0).1 = 0
  · rw [if_pos q] at z ⊢; exact MI_all _ _ _ MI_0 z
  · rw [if_neg q] at z; exact absurd z q
theorem hoX_ok {s : mSt} {Ds : Nat → lD} (h : MI V s) (h7 : s.1.length ≤ 7) (h10 : s.2.1.length ≤ 10) (h8 : s.2.2.1.length ≤ 8) (hD : ∀ k : Nat, k < 4 → lOk (Ds k)) : hOk (hoX V s Ds) := ⟨h7, h10, h8, fun w hw => ⟨(h.1 w hw).1, (h.1 w hw).2.1, (h.1 w hw).2.2.1⟩, fun u hu => ⟨(h.2.1 u hu).1, (h.2.1 u hu).2.1⟩, hD⟩
end MIS
/-- uses' hours are hours of a day -/
def hBo (H : Ho) : Prop := ∀ u : Nat, u < hoU H → 0 ≤ (hoO H u).toInt ∧ (hoO H u).toInt ≤ (hoI H u).toInt ∧ (hoI H u).toInt ≤ 23
theorem hoX_b {V : Nat → Int64} {s : mSt} {Ds : Nat → lD} (h : MI V s) : hBo (hoX V s Ds) := fun u hu => (h.2.1 u hu).2.2
/-- how it stands at first -/
def sz0 (H : Ho) (R : Nat → Int32) : Zt := ((0, hoC H, 0, 0, 0, b1 (hoU H) - 1), R, fun _ => 0, fun _ => 0)
theorem bt_all {u i : Nat} (hu : u ≤ 8) : bt (b1 u - 1) i = decide (i < u) := by
  by_cases q : i < 32
  · match u, hu with
    | 0, _ | 1, _ | 2, _ | 3, _ | 4, _ | 5, _ | 6, _ | 7, _ | 8, _ =>
      match i, q with
      | 0, _ | 1, _ | 2, _ | 3, _ | 4, _ | 5, _ | 6, _ | 7, _ | 8, _ | 9, _ | 10, _ | 11, _ | 12, _ | 13, _ | 14, _ | 15, _ | 16, _ | 17, _ | 18, _ | 19, _ | 20, _ | 21, _ | 22, _ | 23, _ | 24, _ | 25, _ | 26, _ | 27, _ | 28, _ | 29, _ | 30, _ | 31, _ => decide
      | i + 32, q => omega
    | u + 9, h => omega
  · rw [bt_big (by omega)]
    simp
    omega
theorem sz0_ok {V : Nat → Int64} {s : mSt} {Ds : Nat → lD} {R : Nat → Int32} (h : MI V s) (h8 : s.2.2.1.length ≤ 8) (hR : ∀ w : Nat, w < s.2.1.length → R w = (V ((s.2.1.getD w (0, 0, 0)).1 + 3)).toInt32) : zOk (hoX V s Ds) (sz0 (hoX V s Ds) R) := by
  refine ⟨⟨h.2.2.1, by have := h.2.2.2; show (oV V s.2.2.2.2.1 1 100).toInt ≤ 99999; omega⟩, by show 0 ≤ (0 : Int32).toInt ∧ (0 : Int32).toInt ≤ 999999; decide, fun i hi => ?_, fun i hi => ?_, fun i hi => ?_, fun w hw => ?_, fun w hw => by show 0 ≤ (0 : Int32).toInt ∧ (0 : Int32).toInt ≤ 999; decide⟩
  · have hi : bt (0 : Int32) i = true := hi
    rw [bt_0] at hi; cases hi
  · have hi : bt (0 : Int32) i = true := hi
    rw [bt_0] at hi; cases hi
  · have hi : bt (b1 s.2.2.1.length - 1) i = true := hi
    rw [bt_all h8] at hi
    exact of_decide_eq_true hi
  · show 0 ≤ (R w).toInt ∧ (R w).toInt ≤ 99
    rw [hR w hw]
    have r := (h.1 w hw).2.2.2
    exact ⟨Int.le_trans (show (0 : Int) ≤ 1 by decide) r.1, r.2⟩
