/-! THE CLASS's read, and how it stands then -/
section UCO
variable {m : dM} {V : Nat → Int64} {s : mSt} {Ds : Nat → lD} {n : Nat}
theorem u_lcopy {m0 : dM} {Q : dM → Prop} (hQ : ∀ m' : dM, (∀ k : Nat, (k < 14 ∨ 18 < k) → m'.1 k = m0.1 k) → m'.2 = m0.2 → (∀ k : Nat, k < 4 → m'.1 18 k = m0.1 36 k ∧ ∀ j : Nat, j < 14 → m'.1 (14 + k) j = m0.1 (32 + k) j) → Q m') : ∀ (f i : Nat) (x2 : Int32) (M : dM), i + f = 4 → x2.toInt = (i : Int) → (∀ k : Nat, (k < 14 ∨ 18 < k) → M.1 k = m0.1 k) → M.2 = m0.2 → (∀ k : Nat, k < i → M.1 18 k = m0.1 36 k ∧ ∀ j : Nat, j < 14 → M.1 (14 + k) j = m0.1 (32 + k) j) → j_X4_copy_11_29_27 1 x2 M Q := by
  intro f
  induction f with
  | zero =>
    intro i x2 M hi h2 hF hM hv
    exact v_X4_copy_11_29_27 ⟨fun _ => hQ M hF hM (fun k hk => hv k (by omega)), fun q => by exfalso; omega⟩
  | succ f ih =>
    intro i x2 M hi h2 hF hM hv
    have go : ∀ a b : Nat, a = 32 + i → b = 14 + i → j_X4_copy_11_29_27 1 (x2 + (1 : Int32)) (dCpy (dSet M 18 i (M.1 36 i)) a (0 : Int).toNat b (0 : Int).toNat (14 : Int).toNat) Q := fun a b ha hb => by
      subst ha hb
      refine ih (i + 1) _ _ (by omega) (d_inc h2 (by omega)) (fun k hk => by rw [dCpy_k (by omega), dSet_k (by omega)]; exact hF k hk) hM (fun k hk => ?_)
      by_cases e : k = i
      · subst e
        refine ⟨by rw [dCpy_k (by omega), dSet_s, hF 36 (by omega)], fun j hj => ?_⟩
        rw [dCpy_e, if_pos (by simp; omega), dSet_k (by omega), hF _ (by omega)]
        congr 1
        simp
      · obtain ⟨a1, a2⟩ := hv k (by omega)
        refine ⟨by rw [dCpy_k (by omega), dSet_j e]; exact a1, fun j hj => ?_⟩
        rw [dCpy_k (by omega), dSet_k (by omega)]
        exact a2 j hj
    refine v_X4_copy_11_29_27 ?_
    rw [d_cn h2]
    refine ⟨fun q => by exfalso; omega, fun _ => ⟨by omega, by omega, by omega, ?_⟩⟩
    refine ⟨fun q => ⟨by omega, fun _ => go _ _ (by omega) (by omega), fun q => by exfalso; omega, fun q => by exfalso; omega, fun q => by exfalso; omega⟩, fun q => ⟨by omega, fun q => by exfalso; omega, fun _ => go _ _ (by omega) (by omega), fun q => by exfalso; omega, fun q => by exfalso; omega⟩, fun q => ⟨by omega, fun q => by exfalso; omega, fun q => by exfalso; omega, fun _ => go _ _ (by omega) (by omega), fun q => by exfalso; omega⟩, fun q => ⟨by omega, fun q => by exfalso; omega, fun q => by exfalso; omega, fun q => by exfalso; omega, fun _ => go _ _ (by omega) (by omega)⟩⟩
theorem u_copy {Q : dM → Prop} (hS : MS V s m) (hT : LT m n Ds) (hI : MI V s) (hQ : ∀ m' : dM, (∀ k : Nat, (k < 2 ∨ 18 < k) → m'.1 k = m.1 k) → m'.2 = m.2 → (∀ j : Nat, j < 7 → m'.1 2 j = m.1 20 j) → hOk (hoX V s Ds) → CH (hoX V s Ds) m' → Q m') : c_X3_copy_2_20 2 m Q := by
  obtain ⟨L, lg, ln, ld⟩ := hT
  obtain ⟨⟨s1, s1'⟩, ⟨s2, s2'⟩, ⟨s3, s3'⟩, s4, s5, s6, s7, s8, s9, s10⟩ := hS
  refine v_X3_copy_2_20 ?_
  have e2 : ∀ j : Nat, j < 7 → (dSet (dSet (dSet (dSet (dSet (dSet (dSet m 2 0 (m.1 20 0)) 2 1 (m.1 20 1)) 2 2 (m.1 20 2)) 2 3 (m.1 20 3)) 2 4 (m.1 20 4)) 2 5 (m.1 20 5)) 2 6 (m.1 20 6)).1 2 j = m.1 20 j := fun j hj => by
    match j, hj with
    | 0, _ | 1, _ | 2, _ | 3, _ | 4, _ | 5, _ | 6, _ => rfl
    | j + 7, hj => omega
  have ek : ∀ k : Nat, k ≠ 2 → (dSet (dSet (dSet (dSet (dSet (dSet (dSet m 2 0 (m.1 20 0)) 2 1 (m.1 20 1)) 2 2 (m.1 20 2)) 2 3 (m.1 20 3)) 2 4 (m.1 20 4)) 2 5 (m.1 20 5)) 2 6 (m.1 20 6)).1 k = m.1 k := fun k hk => by rw [dSet_k hk, dSet_k hk, dSet_k hk, dSet_k hk, dSet_k hk, dSet_k hk, dSet_k hk]
  have e2' : (dSet (dSet (dSet (dSet (dSet (dSet (dSet m 2 0 (m.1 20 0)) 2 1 (m.1 20 1)) 2 2 (m.1 20 2)) 2 3 (m.1 20 3)) 2 4 (m.1 20 4)) 2 5 (m.1 20 5)) 2 6 (m.1 20 6)).2 = m.2 := rfl
  generalize dSet (dSet (dSet (dSet (dSet (dSet (dSet m 2 0 (m.1 20 0)) 2 1 (m.1 20 1)) 2 2 (m.1 20 2)) 2 3 (m.1 20 3)) 2 4 (m.1 20 4)) 2 5 (m.1 20 5)) 2 6 (m.1 20 6) = M at e2 ek e2' ⊢
  -- one row after the other
  have cp : ∀ (A : dM) (a b l j : Nat), j < l → (dCpy A a (0 : Int).toNat b (0 : Int).toNat ((l : Int)).toNat).1 b j = A.1 a j := fun A a b l j hj => by
    rw [dCpy_e, if_pos (by simp; omega)]
    congr 1
    simp
  have r3 : ∀ j : Nat, j < 7 → (dCpy (dCpy (dCpy (dCpy (dCpy (dCpy (dCpy (dCpy M 21 (0 : Int).toNat 3 (0 : Int).toNat (7 : Int).toNat) 22 (0 : Int).toNat 4 (0 : Int).toNat (10 : Int).toNat) 23 (0 : Int).toNat 5 (0 : Int).toNat (10 : Int).toNat) 24 (0 : Int).toNat 6 (0 : Int).toNat (10 : Int).toNat) 25 (0 : Int).toNat 7 (0 : Int).toNat (8 : Int).toNat) 26 (0 : Int).toNat 8 (0 : Int).toNat (8 : Int).toNat) 27 (0 : Int).toNat 9 (0 : Int).toNat (8 : Int).toNat) 28 (0 : Int).toNat 10 (0 : Int).toNat (8 : Int).toNat).1 3 j = m.1 21 j := fun j hj => by
    rw [dCpy_k (by decide), dCpy_k (by decide), dCpy_k (by decide), dCpy_k (by decide), dCpy_k (by decide), dCpy_k (by decide), dCpy_k (by decide)]
    exact (cp _ 21 3 7 j hj).trans (by rw [ek 21 (by decide)])
  have r4 : ∀ j : Nat, j < 10 → (dCpy (dCpy (dCpy (dCpy (dCpy (dCpy (dCpy (dCpy M 21 (0 : Int).toNat 3 (0 : Int).toNat (7 : Int).toNat) 22 (0 : Int).toNat 4 (0 : Int).toNat (10 : Int).toNat) 23 (0 : Int).toNat 5 (0 : Int).toNat (10 : Int).toNat) 24 (0 : Int).toNat 6 (0 : Int).toNat (10 : Int).toNat) 25 (0 : Int).toNat 7 (0 : Int).toNat (8 : Int).toNat) 26 (0 : Int).toNat 8 (0 : Int).toNat (8 : Int).toNat) 27 (0 : Int).toNat 9 (0 : Int).toNat (8 : Int).toNat) 28 (0 : Int).toNat 10 (0 : Int).toNat (8 : Int).toNat).1 4 j = m.1 22 j := fun j hj => by
    rw [dCpy_k (by decide), dCpy_k (by decide), dCpy_k (by decide), dCpy_k (by decide), dCpy_k (by decide), dCpy_k (by decide)]
    exact (cp _ 22 4 10 j hj).trans (by rw [dCpy_k (by decide), ek 22 (by decide)])
  have r5 : ∀ j : Nat, j < 10 → (dCpy (dCpy (dCpy (dCpy (dCpy (dCpy (dCpy (dCpy M 21 (0 : Int).toNat 3 (0 : Int).toNat (7 : Int).toNat) 22 (0 : Int).toNat 4 (0 : Int).toNat (10 : Int).toNat) 23 (0 : Int).toNat 5 (0 : Int).toNat (10 : Int).toNat) 24 (0 : Int).toNat 6 (0 : Int).toNat (10 : Int).toNat) 25 (0 : Int).toNat 7 (0 : Int).toNat (8 : Int).toNat) 26 (0 : Int).toNat 8 (0 : Int).toNat (8 : Int).toNat) 27 (0 : Int).toNat 9 (0 : Int).toNat (8 : Int).toNat) 28 (0 : Int).toNat 10 (0 : Int).toNat (8 : Int).toNat).1 5 j = m.1 23 j := fun j hj => by
    rw [dCpy_k (by decide), dCpy_k (by decide), dCpy_k (by decide), dCpy_k (by decide), dCpy_k (by decide)]
    exact (cp _ 23 5 10 j hj).trans (by rw [dCpy_k (by decide), dCpy_k (by decide), ek 23 (by decide)])
  have r6 : ∀ j : Nat, j < 10 → (dCpy (dCpy (dCpy (dCpy (dCpy (dCpy (dCpy (dCpy M 21 (0 : Int).toNat 3 (0 : Int).toNat (7 : Int).toNat) 22 (0 : Int).toNat 4 (0 : Int).toNat (10 : Int).toNat) 23 (0 : Int).toNat 5 (0 : Int).toNat (10 : Int).toNat) 24 (0 : Int).toNat 6 (0 : Int).toNat (10 : Int).toNat) 25 (0 : Int).toNat 7 (0 : Int).toNat (8 : Int).toNat) 26 (0 : Int).toNat 8 (0 : Int).toNat (8 : Int).toNat) 27 (0 : Int).toNat 9 (0 : Int).toNat (8 : Int).toNat) 28 (0 : Int).toNat 10 (0 : Int).toNat (8 : Int).toNat).1 6 j = m.1 24 j := fun j hj => by
    rw [dCpy_k (by decide), dCpy_k (by decide), dCpy_k (by decide), dCpy_k (by decide)]
    exact (cp _ 24 6 10 j hj).trans (by rw [dCpy_k (by decide), dCpy_k (by decide), dCpy_k (by decide), ek 24 (by decide)])
  have r7 : ∀ j : Nat, j < 8 → (dCpy (dCpy (dCpy (dCpy (dCpy (dCpy (dCpy (dCpy M 21 (0 : Int).toNat 3 (0 : Int).toNat (7 : Int).toNat) 22 (0 : Int).toNat 4 (0 : Int).toNat (10 : Int).toNat) 23 (0 : Int).toNat 5 (0 : Int).toNat (10 : Int).toNat) 24 (0 : Int).toNat 6 (0 : Int).toNat (10 : Int).toNat) 25 (0 : Int).toNat 7 (0 : Int).toNat (8 : Int).toNat) 26 (0 : Int).toNat 8 (0 : Int).toNat (8 : Int).toNat) 27 (0 : Int).toNat 9 (0 : Int).toNat (8 : Int).toNat) 28 (0 : Int).toNat 10 (0 : Int).toNat (8 : Int).toNat).1 7 j = m.1 25 j := fun j hj => by
    rw [dCpy_k (by decide), dCpy_k (by decide), dCpy_k (by decide)]
    exact (cp _ 25 7 8 j hj).trans (by rw [dCpy_k (by decide), dCpy_k (by decide), dCpy_k (by decide), dCpy_k (by decide), ek 25 (by decide)])
  have r8 : ∀ j : Nat, j < 8 → (dCpy (dCpy (dCpy (dCpy (dCpy (dCpy (dCpy (dCpy M 21 (0 : Int).toNat 3 (0 : Int).toNat (7 : Int).toNat) 22 (0 : Int).toNat 4 (0 : Int).toNat (10 : Int).toNat) 23 (0 : Int).toNat 5 (0 : Int).toNat (10 : Int).toNat) 24 (0 : Int).toNat 6 (0 : Int).toNat (10 : Int).toNat) 25 (0 : Int).toNat 7 (0 : Int).toNat (8 : Int).toNat) 26 (0 : Int).toNat 8 (0 : Int).toNat (8 : Int).toNat) 27 (0 : Int).toNat 9 (0 : Int).toNat (8 : Int).toNat) 28 (0 : Int).toNat 10 (0 : Int).toNat (8 : Int).toNat).1 8 j = m.1 26 j := fun j hj => by
    rw [dCpy_k (by decide), dCpy_k (by decide)]
    exact (cp _ 26 8 8 j hj).trans (by rw [dCpy_k (by decide), dCpy_k (by decide), dCpy_k (by decide), dCpy_k (by decide), dCpy_k (by decide), ek 26 (by decide)])
  have r9 : ∀ j : Nat, j < 8 → (dCpy (dCpy (dCpy (dCpy (dCpy (dCpy (dCpy (dCpy M 21 (0 : Int).toNat 3 (0 : Int).toNat (7 : Int).toNat) 22 (0 : Int).toNat 4 (0 : Int).toNat (10 : Int).toNat) 23 (0 : Int).toNat 5 (0 : Int).toNat (10 : Int).toNat) 24 (0 : Int).toNat 6 (0 : Int).toNat (10 : Int).toNat) 25 (0 : Int).toNat 7 (0 : Int).toNat (8 : Int).toNat) 26 (0 : Int).toNat 8 (0 : Int).toNat (8 : Int).toNat) 27 (0 : Int).toNat 9 (0 : Int).toNat (8 : Int).toNat) 28 (0 : Int).toNat 10 (0 : Int).toNat (8 : Int).toNat).1 9 j = m.1 27 j := fun j hj => by
    rw [dCpy_k (by decide)]
    exact (cp _ 27 9 8 j hj).trans (by rw [dCpy_k (by decide), dCpy_k (by decide), dCpy_k (by decide), dCpy_k (by decide), dCpy_k (by decide), dCpy_k (by decide), ek 27 (by decide)])
  have r10 : ∀ j : Nat, j < 8 → (dCpy (dCpy (dCpy (dCpy (dCpy (dCpy (dCpy (dCpy M 21 (0 : Int).toNat 3 (0 : Int).toNat (7 : Int).toNat) 22 (0 : Int).toNat 4 (0 : Int).toNat (10 : Int).toNat) 23 (0 : Int).toNat 5 (0 : Int).toNat (10 : Int).toNat) 24 (0 : Int).toNat 6 (0 : Int).toNat (10 : Int).toNat) 25 (0 : Int).toNat 7 (0 : Int).toNat (8 : Int).toNat) 26 (0 : Int).toNat 8 (0 : Int).toNat (8 : Int).toNat) 27 (0 : Int).toNat 9 (0 : Int).toNat (8 : Int).toNat) 28 (0 : Int).toNat 10 (0 : Int).toNat (8 : Int).toNat).1 10 j = m.1 28 j := fun j hj => (cp _ 28 10 8 j hj).trans (by rw [dCpy_k (by decide), dCpy_k (by decide), dCpy_k (by decide), dCpy_k (by decide), dCpy_k (by decide), dCpy_k (by decide), dCpy_k (by decide), ek 28 (by decide)])
  have ck : ∀ k : Nat, (k < 3 ∨ 10 < k) → (dCpy (dCpy (dCpy (dCpy (dCpy (dCpy (dCpy (dCpy M 21 (0 : Int).toNat 3 (0 : Int).toNat (7 : Int).toNat) 22 (0 : Int).toNat 4 (0 : Int).toNat (10 : Int).toNat) 23 (0 : Int).toNat 5 (0 : Int).toNat (10 : Int).toNat) 24 (0 : Int).toNat 6 (0 : Int).toNat (10 : Int).toNat) 25 (0 : Int).toNat 7 (0 : Int).toNat (8 : Int).toNat) 26 (0 : Int).toNat 8 (0 : Int).toNat (8 : Int).toNat) 27 (0 : Int).toNat 9 (0 : Int).toNat (8 : Int).toNat) 28 (0 : Int).toNat 10 (0 : Int).toNat (8 : Int).toNat).1 k = M.1 k := fun k hk => by rw [dCpy_k (by omega), dCpy_k (by omega), dCpy_k (by omega), dCpy_k (by omega), dCpy_k (by omega), dCpy_k (by omega), dCpy_k (by omega), dCpy_k (by omega)]
  have c2 : (dCpy (dCpy (dCpy (dCpy (dCpy (dCpy (dCpy (dCpy M 21 (0 : Int).toNat 3 (0 : Int).toNat (7 : Int).toNat) 22 (0 : Int).toNat 4 (0 : Int).toNat (10 : Int).toNat) 23 (0 : Int).toNat 5 (0 : Int).toNat (10 : Int).toNat) 24 (0 : Int).toNat 6 (0 : Int).toNat (10 : Int).toNat) 25 (0 : Int).toNat 7 (0 : Int).toNat (8 : Int).toNat) 26 (0 : Int).toNat 8 (0 : Int).toNat (8 : Int).toNat) 27 (0 : Int).toNat 9 (0 : Int).toNat (8 : Int).toNat) 28 (0 : Int).toNat 10 (0 : Int).toNat (8 : Int).toNat).2 = M.2 := rfl
  generalize dCpy (dCpy (dCpy (dCpy (dCpy (dCpy (dCpy (dCpy M 21 (0 : Int).toNat 3 (0 : Int).toNat (7 : Int).toNat) 22 (0 : Int).toNat 4 (0 : Int).toNat (10 : Int).toNat) 23 (0 : Int).toNat 5 (0 : Int).toNat (10 : Int).toNat) 24 (0 : Int).toNat 6 (0 : Int).toNat (10 : Int).toNat) 25 (0 : Int).toNat 7 (0 : Int).toNat (8 : Int).toNat) 26 (0 : Int).toNat 8 (0 : Int).toNat (8 : Int).toNat) 27 (0 : Int).toNat 9 (0 : Int).toNat (8 : Int).toNat) 28 (0 : Int).toNat 10 (0 : Int).toNat (8 : Int).toNat = N at r3 r4 r5 r6 r7 r8 r9 r10 ck c2 ⊢
  have nk : ∀ k : Nat, (k < 2 ∨ 10 < k) → N.1 k = m.1 k := fun k hk => by rw [ck k (by omega), ek k (by omega)]
  have b := lg.1
  have b2' := lg.2.1
  have e29 : N.1 29 1 = m.1 29 1 := by rw [nk 29 (by omega)]
  refine v_X4_copy_11_29 ⟨by rw [e29]; omega, ?_⟩
  rw [e29, b, Int.toNat_natCast]
  have p12 : ∀ j : Nat, j < L.length → (dSet (dCpy N 30 (0 : Int).toNat 12 (0 : Int).toNat L.length) 11 1 (m.1 29 1)).1 12 j = L.getD j 0 := fun j hj => by
    rw [dSet_k (by decide), dCpy_e, if_pos (by simp; omega), nk 30 (by omega), show (0 : Int).toNat + (j - (0 : Int).toNat) = j by simp]
    exact lg.2.2 j hj
  have pk : ∀ k : Nat, k ≠ 11 → k ≠ 12 → (dSet (dCpy N 30 (0 : Int).toNat 12 (0 : Int).toNat L.length) 11 1 (m.1 29 1)).1 k = N.1 k := fun k h1 h2 => by rw [dSet_k h1, dCpy_k h2]
  have p2' : (dSet (dCpy N 30 (0 : Int).toNat 12 (0 : Int).toNat L.length) 11 1 (m.1 29 1)).2 = N.2 := rfl
  generalize dSet (dCpy N 30 (0 : Int).toNat 12 (0 : Int).toNat L.length) 11 1 (m.1 29 1) = N' at p12 pk p2' ⊢
  refine u_lcopy (m0 := N') (fun m' hF h2 hl' => ?_) 4 0 _ N' rfl (by decide) (fun _ _ => rfl) rfl (fun k hk => absurd hk (Nat.not_lt_zero k))
  have q2 : ∀ j : Nat, j < 7 → m'.1 2 j = m.1 20 j := fun j hj => by rw [hF 2 (by omega), pk 2 (by decide) (by decide), ck 2 (by omega)]; exact e2 j hj
  have hr : ∀ k : Nat, 3 ≤ k → k ≤ 10 → m'.1 k = N.1 k := fun k a b => by rw [hF k (by omega), pk k (by omega) (by omega)]
  have hD : ∀ k : Nat, k < 4 → lOk (Ds k) := fun k hk => (ld k hk).2.1
  have hO : hOk (hoX V s Ds) := hoX_ok hI s1' s2' s3' hD
  refine hQ m' (fun k hk => by rw [hF k (by omega), pk k (by omega) (by omega), nk k (by omega)]) (by rw [h2, p2', c2, e2']) q2 hO ⟨⟨⟨?_, s1'⟩, ⟨?_, s2'⟩, fun w hw => ?_⟩, ?_, fun f hf => ?_, fun w hw => ?_, fun u hu => ?_, ⟨?_, ?_, ?_, ?_⟩, fun k hk => ?_⟩
  · rw [q2 0 (by decide)]; exact s1
  · rw [q2 1 (by decide)]; exact s2
  · have hw : w < s.2.1.length := hw
    obtain ⟨⟨a1, a2, a3⟩, _⟩ := s5 w hw
    obtain ⟨i1, i2, i3, _⟩ := hI.1 w hw
    refine ⟨⟨?_, ?_⟩, i1, i2, i3⟩
    · rw [hr 4 (by omega) (by omega), r4 w (by omega)]; exact a1
    · rw [hr 5 (by omega) (by omega), r5 w (by omega)]; exact a2
  · rw [q2 2 (by decide)]; exact s3
  · have hf : f < s.1.length := hf
    rw [hr 3 (by omega) (by omega), r3 f (by omega)]; exact (s4 f hf).2
  · have hw : w < s.2.1.length := hw
    rw [hr 6 (by omega) (by omega), r6 w (by omega)]; exact (s5 w hw).1.2.2
  · have hu : u < s.2.2.1.length := hu
    obtain ⟨_, a1, a2, a3, a4⟩ := s6 u hu
    rw [hr 7 (by omega) (by omega), hr 8 (by omega) (by omega), hr 9 (by omega) (by omega), hr 10 (by omega) (by omega), r7 u (by omega), r8 u (by omega), r9 u (by omega), r10 u (by omega)]
    exact ⟨a1, a2, a3, a4⟩
  · rw [q2 3 (by decide)]; exact s7
  · rw [q2 4 (by decide)]; exact s8
  · rw [q2 5 (by decide)]; exact s9
  · rw [q2 6 (by decide)]; exact s10
  · obtain ⟨d1, d2, d3⟩ := ld k hk
    obtain ⟨g1, g2⟩ := hl' k hk
    have n36 : N'.1 36 k = m.1 36 k := by rw [pk 36 (by decide) (by decide), nk 36 (by omega)]
    have n32 : N'.1 (32 + k) = m.1 (32 + k) := by rw [pk (32 + k) (by omega) (by omega), nk (32 + k) (by omega)]
    show LC m' k (Ds k)
    refine ⟨by rw [g1, n36]; exact d1, d2, fun i hi => ?_⟩
    obtain ⟨a, a1, a2, a3⟩ := d3 i hi
    have q4 := d2.1
    refine ⟨a, by rw [g2 i (by omega), n32]; exact a1, by rw [g2 (i + 1) (by omega), n32]; exact a2, by have := a3.1; omega, fun j hj => ?_⟩
    rw [hF 12 (by omega), p12 (a + j) (by have := a3.1; omega)]
    exact a3.2 j hj
theorem u_begin47 {H : Ho} {Q : dM → Prop} (hH : CH H m) (hu : hoU H ≤ 8) (hQ : ∀ m' : dM, (∀ k : Nat, (k < 47 ∨ 50 < k) → m'.1 k = m.1 k) → m'.2 = m.2 → CZ 47 m' (sz0 H (m.1 6)) → Q m') : c_X7_begin_47_2 2 m Q := by
  refine v_X7_begin_47_2 ?_
  rw [b1_of hH.2.1]
  refine y_fill49 (fun m1 h1 e1 v1 => y_fill50 (fun m2 h2 e2 v2 => hQ m2 (fun k hk => ?_) (by rw [e2, e1]; rfl) ⟨⟨?_, ?_, ?_, ?_, ?_, ?_⟩, fun j hj => ?_, fun j hj => ?_, fun j hj => v2 j hj⟩))
  · rw [h2 k (by omega), h1 k (by omega), dCpy_k (by omega), dSet_k (by omega), dSet_k (by omega), dSet_k (by omega), dSet_k (by omega), dSet_k (by omega), dSet_k (by omega)]
  · rw [h2 47 (by decide), h1 47 (by decide), dCpy_k (by decide), dSet_j (by decide), dSet_j (by decide), dSet_j (by decide), dSet_j (by decide), dSet_j (by decide), dSet_s]; rfl
  · rw [h2 47 (by decide), h1 47 (by decide), dCpy_k (by decide), dSet_j (by decide), dSet_j (by decide), dSet_j (by decide), dSet_j (by decide), dSet_s]; exact hH.2.2.2.2.2.1.2.2.1
  · rw [h2 47 (by decide), h1 47 (by decide), dCpy_k (by decide), dSet_j (by decide), dSet_j (by decide), dSet_j (by decide), dSet_s]; rfl
  · rw [h2 47 (by decide), h1 47 (by decide), dCpy_k (by decide), dSet_j (by decide), dSet_j (by decide), dSet_s]; rfl
  · rw [h2 47 (by decide), h1 47 (by decide), dCpy_k (by decide), dSet_j (by decide), dSet_s]; rfl
  · rw [h2 47 (by decide), h1 47 (by decide), dCpy_k (by decide), dSet_s]; rfl
  · show m2.1 48 j = m.1 6 j
    rw [h2 48 (by decide), h1 48 (by decide), dCpy_e, if_pos (by simp; omega), dSet_k (by decide), dSet_k (by decide), dSet_k (by decide), dSet_k (by decide), dSet_k (by decide), dSet_k (by decide), show (0 : Int).toNat + (j - (0 : Int).toNat) = j by simp]
  · show m2.1 49 j = 0
    rw [h2 49 (by decide)]
    exact v1 j hj
end UCO
