/-! THE REFERENCE: copies, what is recorded -/
def RZf (H : Ho) (f : Nat → Int32) (S : Zt) : Prop := (f 55 = szH S ∧ f 56 = szC S ∧ f 57 = szQ S) ∧ (∀ w : Nat, w < hoW H → f w = szR S w ∧ f (10 + w) = bi (bt (szG S) w) ∧ f (20 + w) = szE S w ∧ f (30 + w) = bi (bt (szP S) w)) ∧ (∀ g : Nat, g < hoF H → f (40 + g) = szD S g) ∧ ∀ u : Nat, u < hoU H → f (47 + u) = bi (bt (szA S) u)
theorem RZf.of {H : Ho} {f f' : Nat → Int32} {S : Zt} (h : RZf H f S) (hO : hOk H) (e : ∀ j : Nat, j < 58 → f' j = f j) : RZf H f' S := by
  obtain ⟨⟨a, b, c⟩, d, g, i⟩ := h
  obtain ⟨o1, o2, o3, _⟩ := hO
  refine ⟨⟨by rw [e 55 (by omega)]; exact a, by rw [e 56 (by omega)]; exact b, by rw [e 57 (by omega)]; exact c⟩, fun w hw => ?_, fun k hk => by rw [e _ (by omega)]; exact g k hk, fun u hu => by rw [e _ (by omega)]; exact i u hu⟩
  rw [e _ (by omega), e _ (by omega), e _ (by omega), e _ (by omega)]
  exact d w hw
theorem RZ.f {H : Ho} {r : Nat} {m : dM} {S : Zt} (h : RZ H r m S) : RZf H (m.1 r) S := h
theorem RZf.z {H : Ho} {r : Nat} {m : dM} {S : Zt} (h : RZf H (m.1 r) S) : RZ H r m S := h
def RP (H : Ho) (m : dM) (P : List Zt) : Prop := (m.1 70 61).toInt = (P.length : Int) ∧ P.length ≤ 40 ∧ ∀ (k : Nat) (T : Zt), P[k]? = some T → RZf H (fun j => m.1 111 (58 * (P.length - 1 - k) + j)) T
def RSl (H : Ho) (m : dM) (L : Nat → Zt) : Prop := ∀ i : Nat, i < 3 → (m.1 115 i).toInt ≠ 0 → RZf H (fun j => m.1 116 (58 * i + j)) (L i)
def KR (H : Ho) (S : Zt) (P : List Zt) (L : Nat → Zt) (s : Nat) (m : dM) : Prop := RW H s m ∧ RZ H 107 m S ∧ RP H m P ∧ RSl H m L
/-- scratch alone has changed -/
def RsF (m0 m : dM) : Prop := (∀ k : Nat, k ≠ 70 → (k < 105 ∨ 110 < k ∨ k = 107) → k ≠ 114 → m.1 k = m0.1 k) ∧ (∀ j : Nat, j ≠ 53 → j ≠ 56 → j ≠ 57 → j ≠ 60 → m.1 70 j = m0.1 70 j) ∧ m.2 = m0.2
theorem RsF.rf (m : dM) : RsF m m := ⟨fun _ _ _ _ => rfl, fun _ _ _ _ _ => rfl, rfl⟩
theorem RsF.tr {a b c : dM} (h : RsF a b) (h' : RsF b c) : RsF a c := ⟨fun k q1 q2 q3 => (h'.1 k q1 q2 q3).trans (h.1 k q1 q2 q3), fun j q1 q2 q3 q4 => (h'.2.1 j q1 q2 q3 q4).trans (h.2.1 j q1 q2 q3 q4), h'.2.2.trans h.2.2⟩
theorem HaF.rs {a b : dM} (h : HaF a b) : RsF a b := ⟨fun k q1 q2 _ => h.1 k q1 (by omega), fun j q1 _ _ q2 => h.2.1 j q1 q2, h.2.2⟩
theorem XaF.rs {a b : dM} (h : XaF a b) : RsF a b := h.ha.rs
theorem RLF.rs {a b : dM} (h : RLF a b) : RsF a b := h.ha.rs
theorem RsF.set {a b : dM} {j : Nat} {v : Int32} (h : RsF a b) : RsF a (dSet b 108 j v) := ⟨fun k q1 q2 q3 => by rw [dSet_k (by omega)]; exact h.1 k q1 q2 q3, fun i q1 q2 q3 q4 => by rw [dSet_k (by decide)]; exact h.2.1 i q1 q2 q3 q4, h.2.2⟩
theorem RsF.s70 {a b : dM} {j : Nat} {v : Int32} (h : RsF a b) (hj : j = 56 ∨ j = 57 ∨ j = 60 ∨ j = 53) : RsF a (dSet b 70 j v) := ⟨fun k q1 q2 q3 => by rw [dSet_k q1]; exact h.1 k q1 q2 q3, fun i q1 q2 q3 q4 => by rw [dSet_j (by omega)]; exact h.2.1 i q1 q2 q3 q4, h.2.2⟩
section RPA
variable {H : Ho} {S T : Zt} {P : List Zt} {L : Nat → Zt} {s : Nat} {m : dM}
theorem RW.rs {m' : dM} (h : RW H s m) (hF : RsF m m') : RW H s m' := ⟨h.1, h.2.of (fun k a b => hF.1 k (by omega) (by omega) (by omega)) (hF.2.1 18 (by decide) (by decide) (by decide) (by decide))⟩
theorem RP.of {m' : dM} (h : RP H m P) (e : m'.1 70 61 = m.1 70 61) (e' : m'.1 111 = m.1 111) : RP H m' P := by
  unfold RP
  rw [e, e']
  exact h
theorem RSl.of {m' : dM} (h : RSl H m L) (e : m'.1 115 = m.1 115) (e' : m'.1 116 = m.1 116) : RSl H m' L := by
  unfold RSl
  rw [e, e']
  exact h
theorem KR.rs {m' : dM} (h : KR H S P L s m) (hF : RsF m m') : KR H S P L s m' := ⟨h.1.rs hF, h.2.1.of (hF.1 107 (by decide) (by decide) (by decide)), h.2.2.1.of (hF.2.1 61 (by decide) (by decide) (by decide) (by decide)) (hF.1 111 (by decide) (by decide) (by decide)), h.2.2.2.of (hF.1 115 (by decide) (by decide) (by decide)) (hF.1 116 (by decide) (by decide) (by decide))⟩
/-- a copy, its ways filled -/
def CY (H : Ho) (S : Zt) (s : Nat) (m : dM) : Prop := RW H s m ∧ RZ H 108 m S ∧ RL H (szG S) m
theorem y_copies {Q : dM → Prop} (hW : RW H s m) (hZ : RZ H 107 m S) (hQ : ∀ m' : dM, RsF m m' → CY H S s m' → m'.1 70 56 = hoE H → m'.1 70 57 = 0 → Q m') : c_X12_copies_70 6 m Q := by
  have loop : ∀ (t i : Nat) (x1 : Int32) (M : dM), i + t = 58 → x1.toInt = (i : Int) → (∀ k : Nat, k ≠ 108 → M.1 k = m.1 k) → M.2 = m.2 → (∀ j : Nat, j < i → M.1 108 j = m.1 107 j) → j_X12_copies_70_2 6 x1 M Q := by
    intro t
    induction t with
    | zero =>
      intro i x1 M hi h1 hk h2 hv
      have F : RsF m M := ⟨fun k q1 q2 _ => hk k (by omega), fun j _ _ _ _ => by rw [hk 70 (by decide)], h2⟩
      have W := hW.rs F
      have a := W.2.1.1
      have Z : RZ H 108 M S := (hZ.f.of hW.1 (fun j hj => hv j (by omega))).z
      refine v_X12_copies_70_2 ⟨fun _ => ?_, fun q => by exfalso; omega⟩
      rw [d_cn a.1, W.2.2.2.2.2.2.1.2.2.2, a.1]
      refine ⟨by omega, ?_⟩
      have F2 : RsF m (dSet (dSet M 70 56 (hoE H)) 70 57 (0 : Int32)) := (F.s70 (by decide)).s70 (by decide)
      have Z2 : RZ H 108 (dSet (dSet M 70 56 (hoE H)) 70 57 (0 : Int32)) S := Z.of (by rw [dSet_k (by decide), dSet_k (by decide)])
      have W2 := hW.rs F2
      refine y_fillsWays (G := bt (szG S)) W2.2.1 (Z2.rg (r := 0)) (fun M3 f3 d3 v3 => hQ M3 (F2.tr f3.rs) ⟨W2.rs f3.rs, Z2.of (f3.1 108 (by decide) (by decide)), d3, v3⟩ ?_ ?_)
      · rw [f3.1 70 (by decide) (by decide), dSet_j (by decide), dSet_s]
      · rw [f3.1 70 (by decide) (by decide), dSet_s]
    | succ t ih =>
      intro i x1 M hi h1 hk h2 hv
      refine v_X12_copies_70_2 ⟨fun q => by exfalso; omega, fun _ => ⟨by omega, by omega, ?_⟩⟩
      rw [d_cn h1]
      refine ih (i + 1) _ _ (by omega) (d_inc h1 (by omega)) (fun k q => by rw [dSet_k q]; exact hk k q) h2 (fun j hj => ?_)
      by_cases e : j = i
      · subst e; rw [dSet_s, hk 107 (by decide)]
      · rw [dSet_j e]; exact hv j (by omega)
  exact v_X12_copies_70 (loop 58 0 _ m rfl (by decide) (fun _ _ => rfl) rfl (fun j hj => absurd hj (Nat.not_lt_zero j)))
theorem y_keepsRow {Q : dM → Prop} (hO : hOk H) (hZ : RZ H 108 m T) (hQ : ∀ m' : dM, (∀ k : Nat, k ≠ 107 → m'.1 k = m.1 k) → m'.2 = m.2 → RZ H 107 m' T → Q m') : c_X12_keepsRow_70 1 m Q := by
  have loop : ∀ (t i : Nat) (x1 : Int32) (M : dM), i + t = 58 → x1.toInt = (i : Int) → (∀ k : Nat, k ≠ 107 → M.1 k = m.1 k) → M.2 = m.2 → (∀ j : Nat, j < i → M.1 107 j = m.1 108 j) → j_X12_keepsRow_70_2 1 x1 M Q := by
    intro t
    induction t with
    | zero =>
      intro i x1 M hi h1 hk h2 hv
      exact v_X12_keepsRow_70_2 ⟨fun _ => hQ M hk h2 (hZ.f.of hO (fun j hj => hv j (by omega))).z, fun q => by exfalso; omega⟩
    | succ t ih =>
      intro i x1 M hi h1 hk h2 hv
      refine v_X12_keepsRow_70_2 ⟨fun q => by exfalso; omega, fun _ => ⟨by omega, by omega, ?_⟩⟩
      rw [d_cn h1]
      refine ih (i + 1) _ _ (by omega) (d_inc h1 (by omega)) (fun k q => by rw [dSet_k q]; exact hk k q) h2 (fun j hj => ?_)
      by_cases e : j = i
      · subst e; rw [dSet_s, hk 108 (by decide)]
      · rw [dSet_j e]; exact hv j (by omega)
  exact v_X12_keepsRow_70 (loop 58 0 _ m rfl (by decide) (fun _ _ => rfl) rfl (fun j hj => absurd hj (Nat.not_lt_zero j)))
/-- what is recorded -/
theorem y_records {Q : dM → Prop} (hK : KR H S P L s m) (hZ : RZ H 108 m T) (hQ : ∀ m' : dM, (∀ k : Nat, k ≠ 70 → k ≠ 107 → k ≠ 111 → m'.1 k = m.1 k) → (∀ j : Nat, j ≠ 61 → m'.1 70 j = m.1 70 j) → m'.2 = m.2 → KR H T (pKeep S P) L s m' → Q m') : c_X12_records_70 2 m Q := by
  have hO := hK.1.1
  -- the push
  have l49 : ∀ (P' : List Zt) (M : dM), P'.length ≤ 39 → RP H M P' → (∀ k : Nat, k ≠ 70 → k ≠ 111 → M.1 k = m.1 k) → (∀ j : Nat, j ≠ 61 → M.1 70 j = m.1 70 j) → M.2 = m.2 → S :: P' = pKeep S P → j_X12_records_70_49 2 M Q := by
    intro P' M hl' hP hk hj h2 he
    obtain ⟨p1, p2, p3⟩ := hP
    have e107 : M.1 107 = m.1 107 := hk 107 (by decide) (by decide)
    have loop : ∀ (t i : Nat) (x1 : Int32) (M1 : dM), i + t = 58 → x1.toInt = (i : Int) → (∀ k : Nat, k ≠ 111 → M1.1 k = M.1 k) → M1.2 = M.2 → (∀ j : Nat, j < i → M1.1 111 (58 * P'.length + j) = m.1 107 j) → (∀ j : Nat, j < 58 * P'.length → M1.1 111 j = M.1 111 j) → j_X12_records_70_51 2 x1 M1 Q := by
      intro t
      induction t with
      | zero =>
        intro i x1 M1 hi h1 hk1 h21 hv hold'
        have u1 : M1.1 70 61 = M.1 70 61 := by rw [hk1 70 (by decide)]
        have f := d_inc (x := M1.1 70 61) (i := P'.length) (by rw [u1]; exact p1) (by omega)
        refine v_X12_records_70_51 ⟨fun _ => ?_, fun q => by exfalso; omega⟩
        refine y_keepsRow (T := T) hO (hZ.of (by rw [dSet_k (by decide), hk1 108 (by decide), hk 108 (by decide) (by decide)])) (fun M2 k2 e2 z2 => hQ M2 (fun k q1 q2 q3 => by rw [k2 k q2, dSet_k q1, hk1 k q3, hk k q1 q3]) (fun j q => by rw [k2 70 (by decide), dSet_j q, hk1 70 (by decide), hj j q]) (by rw [e2]; exact h21.trans h2) ⟨⟨hO, hK.1.2.of (fun k a b => by rw [k2 k (by omega), dSet_k (by omega), hk1 k (by omega), hk k (by omega) (by omega)]) (by rw [k2 70 (by decide), dSet_j (by decide), hk1 70 (by decide), hj 18 (by decide)])⟩, z2, ?_, hK.2.2.2.of (by rw [k2 115 (by decide), dSet_k (by decide), hk1 115 (by decide), hk 115 (by decide) (by decide)]) (by rw [k2 116 (by decide), dSet_k (by decide), hk1 116 (by decide), hk 116 (by decide) (by decide)])⟩)
        rw [← he]
        have e111 : M2.1 111 = M1.1 111 := by rw [k2 111 (by decide), dSet_k (by decide)]
        refine ⟨by rw [k2 70 (by decide), dSet_s, List.length_cons]; exact f, by rw [List.length_cons]; omega, fun k U hU => ?_⟩
        rw [List.length_cons, e111]
        match k, hU with
        | 0, hU =>
          have hU : some S = some U := hU
          cases hU
          exact hK.2.1.f.of hO (fun j hj' => by rw [show P'.length + 1 - 1 - 0 = P'.length by omega]; exact hv j (by omega))
        | k + 1, hU =>
          have hU : P'[k]? = some U := hU
          have hl2 : k < P'.length := (List.getElem?_eq_some_iff.mp hU).1
          refine (p3 k U hU).of hO (fun j hj' => ?_)
          show M1.1 111 (58 * (P'.length + 1 - 1 - (k + 1)) + j) = M.1 111 (58 * (P'.length - 1 - k) + j)
          rw [show P'.length + 1 - 1 - (k + 1) = P'.length - 1 - k by omega]
          exact hold' _ (by
            have : P'.length - 1 - k + 1 ≤ P'.length := by omega
            have := Nat.mul_le_mul_left 58 this
            omega)
      | succ t ih =>
        intro i x1 M1 hi h1 hk1 h21 hv hold'
        have u1 : M1.1 70 61 = M.1 70 61 := by rw [hk1 70 (by decide)]
        have fm := dMulE (X := 58) (Y := (P'.length : Int)) (x := (58 : Int32)) (y := M1.1 70 61) (by decide) (by rw [u1]; exact p1) (by omega) (by omega)
        have fa := dAddE (X := 58 * (P'.length : Int)) (Y := (i : Int)) fm h1 (by omega) (by omega)
        have fa' : ((58 : Int32) * M1.1 70 61 + x1).toInt = ((58 * P'.length + i : Nat) : Int) := by rw [fa]; omega
        refine v_X12_records_70_51 ⟨fun q => by exfalso; omega, fun _ => ⟨by omega, by omega, ?_⟩⟩
        rw [d_cn h1, d_cn fa']
        refine ih (i + 1) _ _ (by omega) (d_inc h1 (by omega)) (fun k q => by rw [dSet_k q]; exact hk1 k q) h21 (fun j hj' => ?_) (fun j hj' => ?_)
        · by_cases e : j = i
          · subst e; rw [dSet_s, hk1 107 (by decide), e107]
          · rw [dSet_j (by omega)]; exact hv j (by omega)
        · rw [dSet_j (by omega)]; exact hold' j hj'
    exact v_X12_records_70_49 (loop 58 0 _ M rfl (by decide) (fun _ _ => rfl) rfl (fun j hj' => absurd hj' (Nat.not_lt_zero j)) (fun j _ => rfl))
  obtain ⟨p1, p2, p3⟩ := hK.2.2.1
  refine v_X12_records_70 ⟨fun ne => l49 P m (by omega) hK.2.2.1 (fun _ _ _ => rfl) (fun _ _ => rfl) rfl ?_, fun ee => ?_⟩
  · unfold pKeep
    rw [List.take_of_length_le (by rw [List.length_cons]; omega)]
  · have loop : ∀ (t i : Nat) (x1 : Int32) (M : dM), i + t = 2262 → x1.toInt = (i : Int) → (∀ k : Nat, k ≠ 111 → M.1 k = m.1 k) → M.2 = m.2 → (∀ j : Nat, j < i → M.1 111 j = m.1 111 (j + 58)) → (∀ j : Nat, i ≤ j → M.1 111 j = m.1 111 j) → j_X12_records_70_11 2 x1 M Q := by
      intro t
      induction t with
      | zero =>
        intro i x1 M hi h1 hk h2 hv hr
        have u1 : M.1 70 61 = m.1 70 61 := by rw [hk 70 (by decide)]
        have f := dSubE (X := (40 : Int)) (Y := 1) (x := M.1 70 61) (y := (1 : Int32)) (by rw [u1]; exact ee) (by decide) (by omega) (by omega)
        refine v_X12_records_70_11 ⟨fun _ => l49 (P.take 39) _ (by rw [List.length_take]; omega) ?_ (fun k q1 q2 => by rw [dSet_k q1]; exact hk k q2) (fun j q => by rw [dSet_j q, hk 70 (by decide)]) h2 rfl, fun q => by exfalso; omega⟩
        have lt39 : (P.take 39).length = 39 := by rw [List.length_take]; omega
        refine ⟨by rw [dSet_s, lt39]; exact f, by rw [lt39]; omega, fun k U hU => ?_⟩
        rw [List.getElem?_take] at hU
        by_cases q : k < 39
        · rw [if_pos q] at hU
          refine (p3 k U hU).of hO (fun j hj' => ?_)
          show (dSet M 70 61 (M.1 70 61 - 1)).1 111 (58 * ((P.take 39).length - 1 - k) + j) = m.1 111 (58 * (P.length - 1 - k) + j)
          have hP40 : P.length = 40 := by omega
          rw [dSet_k (by decide), lt39, hv _ (by omega), hP40, show 58 * (39 - 1 - k) + j + 58 = 58 * (40 - 1 - k) + j by omega]
        · rw [if_neg q] at hU; cases hU
      | succ t ih =>
        intro i x1 M hi h1 hk h2 hv hr
        have f := d_add (k := 58) (K := 58) h1 (by decide) (by omega)
        refine v_X12_records_70_11 ⟨fun q => by exfalso; omega, fun _ => ⟨by omega, by omega, ?_⟩⟩
        rw [d_cn h1, d_cn f]
        refine ih (i + 1) _ _ (by omega) (d_inc h1 (by omega)) (fun k q => by rw [dSet_k q]; exact hk k q) h2 (fun j hj' => ?_) (fun j hj' => ?_)
        · by_cases e : j = i
          · subst e; rw [dSet_s, hr _ (by omega)]
          · rw [dSet_j e]; exact hv j (by omega)
        · rw [dSet_j (by omega)]; exact hr j (by omega)
    exact loop 2262 0 _ m rfl (by decide) (fun _ _ => rfl) rfl (fun j hj' => absurd hj' (Nat.not_lt_zero j)) (fun _ _ => rfl)
end RPA
