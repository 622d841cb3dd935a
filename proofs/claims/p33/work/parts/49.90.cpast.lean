/-! THE CLASS: what is kept, taken back, held, gone on from -/
def CPz (c : Nat) (m : dM) (i : Nat) (S : Zt) : Prop := (m.1 c (33 * i) = szH S ∧ m.1 c (33 * i + 1) = szC S ∧ m.1 c (33 * i + 2) = szQ S ∧ m.1 c (33 * i + 3) = szG S ∧ m.1 c (33 * i + 4) = szP S ∧ m.1 c (33 * i + 5) = szA S) ∧ (∀ j : Nat, j < 10 → m.1 c (33 * i + 6 + j) = szR S j) ∧ (∀ j : Nat, j < 10 → m.1 c (33 * i + 16 + j) = szE S j) ∧ ∀ j : Nat, j < 7 → m.1 c (33 * i + 26 + j) = szD S j
theorem CPz.of {c i : Nat} {m m' : dM} {S : Zt} (h : CPz c m i S) (e : ∀ p : Nat, 33 * i ≤ p → p < 33 * i + 33 → m'.1 c p = m.1 c p) : CPz c m' i S := by
  obtain ⟨⟨a0, a1, a2, a3, a4, a5⟩, b, d, f⟩ := h
  refine ⟨⟨?_, ?_, ?_, ?_, ?_, ?_⟩, fun j hj => ?_, fun j hj => ?_, fun j hj => ?_⟩
  · rw [e _ (by omega) (by omega)]; exact a0
  · rw [e _ (by omega) (by omega)]; exact a1
  · rw [e _ (by omega) (by omega)]; exact a2
  · rw [e _ (by omega) (by omega)]; exact a3
  · rw [e _ (by omega) (by omega)]; exact a4
  · rw [e _ (by omega) (by omega)]; exact a5
  · rw [e _ (by omega) (by omega)]; exact b j hj
  · rw [e _ (by omega) (by omega)]; exact d j hj
  · rw [e _ (by omega) (by omega)]; exact f j hj
theorem y_writeTo52 {x : Int32} {i : Nat} {m : dM} {S : Zt} {Q : dM → Prop} (hZ : CZ 47 m S) (hx : x.toInt = ((33 * i : Nat) : Int)) (hi : i < 40) (hQ : ∀ m' : dM, (∀ a : Nat, a ≠ 52 → m'.1 a = m.1 a) → m'.2 = m.2 → (∀ p : Nat, (p < 33 * i ∨ 33 * i + 33 ≤ p) → m'.1 52 p = m.1 52 p) → CPz 52 m' i S → Q m') : c_X7_writeTo_47_52 1 x m Q := by
  have e1 := d_add (k := 1) (K := 1) hx (by decide) (by omega)
  have e2 := d_add (k := 2) (K := 2) hx (by decide) (by omega)
  have e3 := d_add (k := 3) (K := 3) hx (by decide) (by omega)
  have e4 := d_add (k := 4) (K := 4) hx (by decide) (by omega)
  have e5 := d_add (k := 5) (K := 5) hx (by decide) (by omega)
  have e6 := d_add (k := 6) (K := 6) hx (by decide) (by omega)
  have e7 := d_add (k := 10) (K := 10) e6 (by decide) (by omega)
  have e8 := d_add (k := 20) (K := 20) e6 (by decide) (by omega)
  have en : ((1320 : Int32) - (33 : Int32)).toInt = 1287 := by decide
  obtain ⟨⟨z0, z1, z2, z3, z4, z5⟩, zR, zE, zD⟩ := hZ
  refine v_X7_writeTo_47_52 ⟨fun q => by exfalso; omega, fun _ => ⟨fun _ => ?_, fun q => by exfalso; omega⟩⟩
  rw [d_cn hx, d_cn e1, d_cn e2, d_cn e3, d_cn e4, d_cn e5, e6, e7, e8, Int.toNat_natCast, Int.toNat_natCast, Int.toNat_natCast]
  refine ⟨by omega, by omega, by omega, by omega, by omega, by omega, by omega, by omega, by omega, hQ _ (fun a ha => ?_) rfl (fun p hp => ?_) ?_⟩
  · rw [dCpy_k ha, dCpy_k ha, dCpy_k ha, dSet_k ha, dSet_k ha, dSet_k ha, dSet_k ha, dSet_k ha, dSet_k ha]
  · rw [dCpy_e, if_neg (by omega), dCpy_e, if_neg (by omega), dCpy_e, if_neg (by omega), dSet_j (by omega), dSet_j (by omega), dSet_j (by omega), dSet_j (by omega), dSet_j (by omega), dSet_j (by omega)]
  · refine ⟨⟨?_, ?_, ?_, ?_, ?_, ?_⟩, fun j hj => ?_, fun j hj => ?_, fun j hj => ?_⟩
    · rw [dCpy_e, if_neg (by omega), dCpy_e, if_neg (by omega), dCpy_e, if_neg (by omega), dSet_j (by omega), dSet_j (by omega), dSet_j (by omega), dSet_j (by omega), dSet_j (by omega), dSet_s]; exact z0
    · rw [dCpy_e, if_neg (by omega), dCpy_e, if_neg (by omega), dCpy_e, if_neg (by omega), dSet_j (by omega), dSet_j (by omega), dSet_j (by omega), dSet_j (by omega), dSet_s]; exact z1
    · rw [dCpy_e, if_neg (by omega), dCpy_e, if_neg (by omega), dCpy_e, if_neg (by omega), dSet_j (by omega), dSet_j (by omega), dSet_j (by omega), dSet_s]; exact z2
    · rw [dCpy_e, if_neg (by omega), dCpy_e, if_neg (by omega), dCpy_e, if_neg (by omega), dSet_j (by omega), dSet_j (by omega), dSet_s]; exact z3
    · rw [dCpy_e, if_neg (by omega), dCpy_e, if_neg (by omega), dCpy_e, if_neg (by omega), dSet_j (by omega), dSet_s]; exact z4
    · rw [dCpy_e, if_neg (by omega), dCpy_e, if_neg (by omega), dCpy_e, if_neg (by omega), dSet_s]; exact z5
    · rw [dCpy_e, if_neg (by omega), dCpy_e, if_neg (by omega), dCpy_e, if_pos (by omega), dSet_k (by decide), dSet_k (by decide), dSet_k (by decide), dSet_k (by decide), dSet_k (by decide), dSet_k (by decide), show (0 : Int).toNat + (33 * i + 6 + j - (33 * i + 6)) = j by simp]; exact zR j hj
    · rw [dCpy_e, if_neg (by omega), dCpy_e, if_pos (by omega), dCpy_k (by decide), dSet_k (by decide), dSet_k (by decide), dSet_k (by decide), dSet_k (by decide), dSet_k (by decide), dSet_k (by decide), show (0 : Int).toNat + (33 * i + 16 + j - (33 * i + 6 + 10)) = j by simp]; exact zE j hj
    · rw [dCpy_e, if_pos (by omega), dCpy_k (by decide), dCpy_k (by decide), dSet_k (by decide), dSet_k (by decide), dSet_k (by decide), dSet_k (by decide), dSet_k (by decide), dSet_k (by decide), show (0 : Int).toNat + (33 * i + 26 + j - (33 * i + 6 + 20)) = j by simp]; exact zD j hj
theorem y_readFrom52 {x : Int32} {i : Nat} {m : dM} {S : Zt} {Q : dM → Prop} (hP : CPz 52 m i S) (hx : x.toInt = ((33 * i : Nat) : Int)) (hi : i < 40) (hQ : ∀ m' : dM, (∀ a : Nat, (a < 47 ∨ 50 < a) → m'.1 a = m.1 a) → m'.2 = m.2 → CZ 47 m' S → Q m') : c_X7_readFrom_47_52 1 x m Q := by
  have e1 := d_add (k := 1) (K := 1) hx (by decide) (by omega)
  have e2 := d_add (k := 2) (K := 2) hx (by decide) (by omega)
  have e3 := d_add (k := 3) (K := 3) hx (by decide) (by omega)
  have e4 := d_add (k := 4) (K := 4) hx (by decide) (by omega)
  have e5 := d_add (k := 5) (K := 5) hx (by decide) (by omega)
  have e6 := d_add (k := 6) (K := 6) hx (by decide) (by omega)
  have e7 := d_add (k := 10) (K := 10) e6 (by decide) (by omega)
  have e8 := d_add (k := 20) (K := 20) e6 (by decide) (by omega)
  have en : ((1320 : Int32) - (33 : Int32)).toInt = 1287 := by decide
  obtain ⟨⟨z0, z1, z2, z3, z4, z5⟩, zR, zE, zD⟩ := hP
  refine v_X7_readFrom_47_52 ⟨fun q => by exfalso; omega, fun _ => ⟨fun _ => ?_, fun q => by exfalso; omega⟩⟩
  rw [d_cn hx, d_cn e1, d_cn e2, d_cn e3, d_cn e4, d_cn e5, e6, e7, e8, Int.toNat_natCast, Int.toNat_natCast, Int.toNat_natCast]
  refine ⟨by omega, by omega, by omega, by omega, by omega, by omega, by omega, by omega, by omega, hQ _ (fun a ha => ?_) rfl ⟨⟨?_, ?_, ?_, ?_, ?_, ?_⟩, fun j hj => ?_, fun j hj => ?_, fun j hj => ?_⟩⟩
  · rw [dCpy_k (by omega), dCpy_k (by omega), dCpy_k (by omega), dSet_k (by omega), dSet_k (by omega), dSet_k (by omega), dSet_k (by omega), dSet_k (by omega), dSet_k (by omega)]
  · rw [dCpy_k (by decide), dCpy_k (by decide), dCpy_k (by decide), dSet_j (by decide), dSet_j (by decide), dSet_j (by decide), dSet_j (by decide), dSet_j (by decide), dSet_s]; exact z0
  · rw [dCpy_k (by decide), dCpy_k (by decide), dCpy_k (by decide), dSet_j (by decide), dSet_j (by decide), dSet_j (by decide), dSet_j (by decide), dSet_s]; exact z1
  · rw [dCpy_k (by decide), dCpy_k (by decide), dCpy_k (by decide), dSet_j (by decide), dSet_j (by decide), dSet_j (by decide), dSet_s]; exact z2
  · rw [dCpy_k (by decide), dCpy_k (by decide), dCpy_k (by decide), dSet_j (by decide), dSet_j (by decide), dSet_s]; exact z3
  · rw [dCpy_k (by decide), dCpy_k (by decide), dCpy_k (by decide), dSet_j (by decide), dSet_s]; exact z4
  · rw [dCpy_k (by decide), dCpy_k (by decide), dCpy_k (by decide), dSet_s]; exact z5
  · rw [dCpy_k (by decide), dCpy_k (by decide), dCpy_e, if_pos (by simp; omega), dSet_k (by decide), dSet_k (by decide), dSet_k (by decide), dSet_k (by decide), dSet_k (by decide), dSet_k (by decide), show 33 * i + 6 + (j - (0 : Int).toNat) = 33 * i + 6 + j by simp]; exact zR j hj
  · rw [dCpy_k (by decide), dCpy_e, if_pos (by simp; omega), dCpy_k (by decide), dSet_k (by decide), dSet_k (by decide), dSet_k (by decide), dSet_k (by decide), dSet_k (by decide), dSet_k (by decide), show 33 * i + 6 + 10 + (j - (0 : Int).toNat) = 33 * i + 16 + j by simp]; exact zE j hj
  · rw [dCpy_e, if_pos (by simp; omega), dCpy_k (by decide), dCpy_k (by decide), dSet_k (by decide), dSet_k (by decide), dSet_k (by decide), dSet_k (by decide), dSet_k (by decide), dSet_k (by decide), show 33 * i + 6 + 20 + (j - (0 : Int).toNat) = 33 * i + 26 + j by simp]; exact zD j hj
theorem y_writeTo53 {x : Int32} {i : Nat} {m : dM} {S : Zt} {Q : dM → Prop} (hZ : CZ 47 m S) (hx : x.toInt = ((33 * i : Nat) : Int)) (hi : i < 3) (hQ : ∀ m' : dM, (∀ a : Nat, a ≠ 53 → m'.1 a = m.1 a) → m'.2 = m.2 → (∀ p : Nat, (p < 33 * i ∨ 33 * i + 33 ≤ p) → m'.1 53 p = m.1 53 p) → CPz 53 m' i S → Q m') : c_X7_writeTo_47_53 1 x m Q := by
  have e1 := d_add (k := 1) (K := 1) hx (by decide) (by omega)
  have e2 := d_add (k := 2) (K := 2) hx (by decide) (by omega)
  have e3 := d_add (k := 3) (K := 3) hx (by decide) (by omega)
  have e4 := d_add (k := 4) (K := 4) hx (by decide) (by omega)
  have e5 := d_add (k := 5) (K := 5) hx (by decide) (by omega)
  have e6 := d_add (k := 6) (K := 6) hx (by decide) (by omega)
  have e7 := d_add (k := 10) (K := 10) e6 (by decide) (by omega)
  have e8 := d_add (k := 20) (K := 20) e6 (by decide) (by omega)
  have en : ((99 : Int32) - (33 : Int32)).toInt = 66 := by decide
  obtain ⟨⟨z0, z1, z2, z3, z4, z5⟩, zR, zE, zD⟩ := hZ
  refine v_X7_writeTo_47_53 ⟨fun q => by exfalso; omega, fun _ => ⟨fun _ => ?_, fun q => by exfalso; omega⟩⟩
  rw [d_cn hx, d_cn e1, d_cn e2, d_cn e3, d_cn e4, d_cn e5, e6, e7, e8, Int.toNat_natCast, Int.toNat_natCast, Int.toNat_natCast]
  refine ⟨by omega, by omega, by omega, by omega, by omega, by omega, by omega, by omega, by omega, hQ _ (fun a ha => ?_) rfl (fun p hp => ?_) ?_⟩
  · rw [dCpy_k ha, dCpy_k ha, dCpy_k ha, dSet_k ha, dSet_k ha, dSet_k ha, dSet_k ha, dSet_k ha, dSet_k ha]
  · rw [dCpy_e, if_neg (by omega), dCpy_e, if_neg (by omega), dCpy_e, if_neg (by omega), dSet_j (by omega), dSet_j (by omega), dSet_j (by omega), dSet_j (by omega), dSet_j (by omega), dSet_j (by omega)]
  · refine ⟨⟨?_, ?_, ?_, ?_, ?_, ?_⟩, fun j hj => ?_, fun j hj => ?_, fun j hj => ?_⟩
    · rw [dCpy_e, if_neg (by omega), dCpy_e, if_neg (by omega), dCpy_e, if_neg (by omega), dSet_j (by omega), dSet_j (by omega), dSet_j (by omega), dSet_j (by omega), dSet_j (by omega), dSet_s]; exact z0
    · rw [dCpy_e, if_neg (by omega), dCpy_e, if_neg (by omega), dCpy_e, if_neg (by omega), dSet_j (by omega), dSet_j (by omega), dSet_j (by omega), dSet_j (by omega), dSet_s]; exact z1
    · rw [dCpy_e, if_neg (by omega), dCpy_e, if_neg (by omega), dCpy_e, if_neg (by omega), dSet_j (by omega), dSet_j (by omega), dSet_j (by omega), dSet_s]; exact z2
    · rw [dCpy_e, if_neg (by omega), dCpy_e, if_neg (by omega), dCpy_e, if_neg (by omega), dSet_j (by omega), dSet_j (by omega), dSet_s]; exact z3
    · rw [dCpy_e, if_neg (by omega), dCpy_e, if_neg (by omega), dCpy_e, if_neg (by omega), dSet_j (by omega), dSet_s]; exact z4
    · rw [dCpy_e, if_neg (by omega), dCpy_e, if_neg (by omega), dCpy_e, if_neg (by omega), dSet_s]; exact z5
    · rw [dCpy_e, if_neg (by omega), dCpy_e, if_neg (by omega), dCpy_e, if_pos (by omega), dSet_k (by decide), dSet_k (by decide), dSet_k (by decide), dSet_k (by decide), dSet_k (by decide), dSet_k (by decide), show (0 : Int).toNat + (33 * i + 6 + j - (33 * i + 6)) = j by simp]; exact zR j hj
    · rw [dCpy_e, if_neg (by omega), dCpy_e, if_pos (by omega), dCpy_k (by decide), dSet_k (by decide), dSet_k (by decide), dSet_k (by decide), dSet_k (by decide), dSet_k (by decide), dSet_k (by decide), show (0 : Int).toNat + (33 * i + 16 + j - (33 * i + 6 + 10)) = j by simp]; exact zE j hj
    · rw [dCpy_e, if_pos (by omega), dCpy_k (by decide), dCpy_k (by decide), dSet_k (by decide), dSet_k (by decide), dSet_k (by decide), dSet_k (by decide), dSet_k (by decide), dSet_k (by decide), show (0 : Int).toNat + (33 * i + 26 + j - (33 * i + 6 + 20)) = j by simp]; exact zD j hj
theorem y_readFrom53 {x : Int32} {i : Nat} {m : dM} {S : Zt} {Q : dM → Prop} (hP : CPz 53 m i S) (hx : x.toInt = ((33 * i : Nat) : Int)) (hi : i < 3) (hQ : ∀ m' : dM, (∀ a : Nat, (a < 47 ∨ 50 < a) → m'.1 a = m.1 a) → m'.2 = m.2 → CZ 47 m' S → Q m') : c_X7_readFrom_47_53 1 x m Q := by
  have e1 := d_add (k := 1) (K := 1) hx (by decide) (by omega)
  have e2 := d_add (k := 2) (K := 2) hx (by decide) (by omega)
  have e3 := d_add (k := 3) (K := 3) hx (by decide) (by omega)
  have e4 := d_add (k := 4) (K := 4) hx (by decide) (by omega)
  have e5 := d_add (k := 5) (K := 5) hx (by decide) (by omega)
  have e6 := d_add (k := 6) (K := 6) hx (by decide) (by omega)
  have e7 := d_add (k := 10) (K := 10) e6 (by decide) (by omega)
  have e8 := d_add (k := 20) (K := 20) e6 (by decide) (by omega)
  have en : ((99 : Int32) - (33 : Int32)).toInt = 66 := by decide
  obtain ⟨⟨z0, z1, z2, z3, z4, z5⟩, zR, zE, zD⟩ := hP
  refine v_X7_readFrom_47_53 ⟨fun q => by exfalso; omega, fun _ => ⟨fun _ => ?_, fun q => by exfalso; omega⟩⟩
  rw [d_cn hx, d_cn e1, d_cn e2, d_cn e3, d_cn e4, d_cn e5, e6, e7, e8, Int.toNat_natCast, Int.toNat_natCast, Int.toNat_natCast]
  refine ⟨by omega, by omega, by omega, by omega, by omega, by omega, by omega, by omega, by omega, hQ _ (fun a ha => ?_) rfl ⟨⟨?_, ?_, ?_, ?_, ?_, ?_⟩, fun j hj => ?_, fun j hj => ?_, fun j hj => ?_⟩⟩
  · rw [dCpy_k (by omega), dCpy_k (by omega), dCpy_k (by omega), dSet_k (by omega), dSet_k (by omega), dSet_k (by omega), dSet_k (by omega), dSet_k (by omega), dSet_k (by omega)]
  · rw [dCpy_k (by decide), dCpy_k (by decide), dCpy_k (by decide), dSet_j (by decide), dSet_j (by decide), dSet_j (by decide), dSet_j (by decide), dSet_j (by decide), dSet_s]; exact z0
  · rw [dCpy_k (by decide), dCpy_k (by decide), dCpy_k (by decide), dSet_j (by decide), dSet_j (by decide), dSet_j (by decide), dSet_j (by decide), dSet_s]; exact z1
  · rw [dCpy_k (by decide), dCpy_k (by decide), dCpy_k (by decide), dSet_j (by decide), dSet_j (by decide), dSet_j (by decide), dSet_s]; exact z2
  · rw [dCpy_k (by decide), dCpy_k (by decide), dCpy_k (by decide), dSet_j (by decide), dSet_j (by decide), dSet_s]; exact z3
  · rw [dCpy_k (by decide), dCpy_k (by decide), dCpy_k (by decide), dSet_j (by decide), dSet_s]; exact z4
  · rw [dCpy_k (by decide), dCpy_k (by decide), dCpy_k (by decide), dSet_s]; exact z5
  · rw [dCpy_k (by decide), dCpy_k (by decide), dCpy_e, if_pos (by simp; omega), dSet_k (by decide), dSet_k (by decide), dSet_k (by decide), dSet_k (by decide), dSet_k (by decide), dSet_k (by decide), show 33 * i + 6 + (j - (0 : Int).toNat) = 33 * i + 6 + j by simp]; exact zR j hj
  · rw [dCpy_k (by decide), dCpy_e, if_pos (by simp; omega), dCpy_k (by decide), dSet_k (by decide), dSet_k (by decide), dSet_k (by decide), dSet_k (by decide), dSet_k (by decide), dSet_k (by decide), show 33 * i + 6 + 10 + (j - (0 : Int).toNat) = 33 * i + 16 + j by simp]; exact zE j hj
  · rw [dCpy_e, if_pos (by simp; omega), dCpy_k (by decide), dCpy_k (by decide), dSet_k (by decide), dSet_k (by decide), dSet_k (by decide), dSet_k (by decide), dSet_k (by decide), dSet_k (by decide), show 33 * i + 6 + 20 + (j - (0 : Int).toNat) = 33 * i + 26 + j by simp]; exact zD j hj
/-- the ring: the last kept first -/
def CP (m : dM) (P : List Zt) : Prop := ∃ n : Nat, n < 40 ∧ (m.1 51 2).toInt = (n : Int) ∧ (m.1 51 3).toInt = (P.length : Int) ∧ P.length ≤ 40 ∧ ∀ (k : Nat) (T : Zt), P[k]? = some T → CPz 52 m ((n + 39 - k) % 40) T
def pKeep (S : Zt) (P : List Zt) : List Zt := (S :: P).take 40
theorem y_mod40 {x : Int32} {n : Nat} (h : x.toInt = (n : Int)) (hn : n < 1000) : (x - x / (40 : Int32) * (40 : Int32)).toInt = ((n % 40 : Nat) : Int) := by
  have e40 : (40 : Int32).toInt = 40 := by decide
  have hd : (x / (40 : Int32)).toInt = ((n / 40 : Nat) : Int) := by
    rw [Int32.toInt_div_of_ne_right _ _ (by decide), h, e40]
    rfl
  have hm := dMulE (X := ((n / 40 : Nat) : Int)) (Y := 40) hd e40 (by omega) (by omega)
  have hs := dSubE (X := (n : Int)) (Y := ((n / 40 : Nat) : Int) * 40) h hm (by omega) (by omega)
  omega
theorem y_keep {m : dM} {S : Zt} {P : List Zt} {Q : dM → Prop} (hZ : CZ 47 m S) (hP : CP m P) (hQ : ∀ m' : dM, (∀ a : Nat, a ≠ 51 → a ≠ 52 → m'.1 a = m.1 a) → (∀ j : Nat, j ≠ 2 → j ≠ 3 → m'.1 51 j = m.1 51 j) → m'.2 = m.2 → CP m' (pKeep S P) → Q m') : c_X6_keep_51_47 2 m Q := by
  obtain ⟨n, n1, n2, n3, n4, n5⟩ := hP
  have e33 := dMulE (X := (n : Int)) (Y := 33) (x := m.1 51 2) (y := (33 : Int32)) n2 (by decide) (by omega) (by omega)
  refine v_X6_keep_51_47 (y_writeTo52 hZ (i := n) (by omega) n1 (fun M hk h2 hp hc => ?_))
  have a2 : M.1 51 2 = m.1 51 2 := by rw [hk 51 (by decide)]
  have a3 : M.1 51 3 = m.1 51 3 := by rw [hk 51 (by decide)]
  rw [a2, a3]
  have f1 := d_inc n2 (by omega)
  have f2 := y_mod40 f1 (by omega)
  have f3 := dAddE (X := (P.length : Int)) (Y := 1) (x := m.1 51 3) (y := (1 : Int32)) n3 (by decide) (by omega) (by omega)
  have lti : ((40 : Int32) < m.1 51 3 + 1) ↔ (40 : Int32).toInt < (m.1 51 3 + 1).toInt := Int32.lt_iff_toInt_lt
  have e40 : (40 : Int32).toInt = 40 := by decide
  have hl' : (pKeep S P).length = min 40 (P.length + 1) := by unfold pKeep; rw [List.length_take, List.length_cons]
  refine hQ _ (fun a h1 h3 => by rw [dSet_k h1, dSet_k h1]; exact hk a h3) (fun j h1 h3 => by rw [dSet_j h3, dSet_j h1, hk 51 (by decide)]) h2 ⟨(n + 1) % 40, by omega, ?_, ?_, by omega, fun k T hT => ?_⟩
  · rw [dSet_j (by decide), dSet_s]; exact f2
  · rw [dSet_s, hl']
    by_cases q : (40 : Int32) < m.1 51 3 + 1
    · have := lti.mp q
      rw [if_pos q]; omega
    · have : ¬ (40 : Int32).toInt < (m.1 51 3 + 1).toInt := fun z => q (lti.mpr z)
      rw [if_neg q]; omega
  · have hk40 : k < 40 ∧ (S :: P)[k]? = some T := by
      unfold pKeep at hT
      rw [List.getElem?_take] at hT
      by_cases q : k < 40
      · rw [if_pos q] at hT; exact ⟨q, hT⟩
      · rw [if_neg q] at hT; cases hT
    have set : ∀ i : Nat, CPz 52 M i T → CPz 52 (dSet (dSet M 51 2 (m.1 51 2 + 1 - (m.1 51 2 + 1) / 40 * 40)) 51 3 (if (40 : Int32) < m.1 51 3 + 1 then 40 else m.1 51 3 + 1)) i T := fun i hi => hi.of (fun p _ _ => by rw [dSet_k (by decide), dSet_k (by decide)])
    refine set _ ?_
    match k, hk40 with
    | 0, ⟨_, h0⟩ =>
      have h0 : some S = some T := h0
      cases h0
      rw [show ((n + 1) % 40 + 39 - 0) % 40 = n by omega]
      exact hc
    | k + 1, ⟨hk', h0⟩ =>
      have h0 : P[k]? = some T := h0
      have := n5 k T h0
      have hl2 : k < P.length := (List.getElem?_eq_some_iff.mp h0).1
      rw [show ((n + 1) % 40 + 39 - (k + 1)) % 40 = (n + 39 - k) % 40 by omega]
      exact this.of (fun p q1 q2 => hp p (by
        have : (n + 39 - k) % 40 ≠ n := by omega
        omega))
theorem y_takeBack {m : dM} {P : List Zt} {Q : Int32 → dM → Prop} (hP : CP m P) (h0 : P = [] → Q 0 m) (h1 : ∀ (S : Zt) (P' : List Zt) (m' : dM), P = S :: P' → (∀ a : Nat, (a < 47 ∨ 51 < a) → m'.1 a = m.1 a) → (∀ j : Nat, j ≠ 2 → j ≠ 3 → m'.1 51 j = m.1 51 j) → m'.2 = m.2 → CZ 47 m' S → CP m' P' → Q 1 m') : c_X6_takeBack_51_47 2 m Q := by
  obtain ⟨n, n1, n2, n3, n4, n5⟩ := hP
  have f1 := d_add (k := 40) (K := 40) n2 (by decide) (by omega)
  have f2 := dSubE (X := ((n + 40 : Nat) : Int)) (Y := 1) (x := m.1 51 2 + 40) (y := (1 : Int32)) f1 (by decide) (by omega) (by omega)
  have f3 := y_mod40 (x := m.1 51 2 + 40 - 1) (n := n + 39) (by omega) (by omega)
  have e33 := dMulE (X := (((n + 39) % 40 : Nat) : Int)) (Y := 33) (x := m.1 51 2 + 40 - 1 - (m.1 51 2 + 40 - 1) / 40 * 40) (y := (33 : Int32)) f3 (by decide) (by omega) (by omega)
  refine v_X6_takeBack_51_47 ⟨fun ne => ?_, fun ee => h0 (List.length_eq_zero_iff.mp (by omega))⟩
  match P, n3, n4, n5, h1 with
  | [], n3, _, _, _ => exact absurd n3 ne
  | S :: P', n3, n4, n5, h1 =>
    rw [List.length_cons] at n3 n4
    have hS := n5 0 S rfl
    rw [show n + 39 - 0 = n + 39 by omega] at hS
    refine y_readFrom52 (i := (n + 39) % 40) (hS.of (fun p _ _ => by rw [dSet_k (by decide), dSet_k (by decide)])) (by omega) (by omega) (fun M hk h2 hZ => h1 S P' M rfl (fun a ha => by rw [hk a (by omega), dSet_k (by omega), dSet_k (by omega)]) (fun j q1 q2 => by rw [hk 51 (by omega), dSet_j q2, dSet_j q1]) h2 hZ ⟨(n + 39) % 40, by omega, ?_, ?_, by omega, fun k T hT => ?_⟩)
    · rw [hk 51 (by omega), dSet_j (by decide), dSet_s]; exact f3
    · have f4 := dSubE (X := ((P'.length + 1 : Nat) : Int)) (Y := 1) (x := m.1 51 3) (y := (1 : Int32)) n3 (by decide) (by omega) (by omega)
      rw [hk 51 (by omega), dSet_s]; omega
    · have hl2 : k < P'.length := (List.getElem?_eq_some_iff.mp hT).1
      have := n5 (k + 1) T hT
      rw [show ((n + 39) % 40 + 39 - k) % 40 = (n + 39 - (k + 1)) % 40 by omega]
      exact this.of (fun p _ _ => by rw [hk 52 (by omega), dSet_k (by decide), dSet_k (by decide)])
