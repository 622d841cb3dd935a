section
/-! THE REFERENCE: copies, what is recorded -/
def RZf (H : Ho) (f : Nat → Int32) (S : Zt) : Prop := (f 55 = szH S ∧ f 56 = szC S ∧ f 57 = szQ S) ∧ (∀ w : Nat, w < hoW H → f w = szR S w ∧ f (10 + w) = bi (bt (szG S) w) ∧ f (20 + w) = szE S w ∧ f (30 + w) = bi (bt (szP S) w)) ∧ (∀ g : Nat, g < hoF H → f (40 + g) = szD S g) ∧ ∀ u : Nat, u < hoU H → f (47 + u) = bi (bt (szA S) u)
theorem RZf.of {H : Ho} {f f' : Nat → Int32} {S : Zt} (h : RZf H f S) (hO : hOk H) (e : ∀ j : Nat, j < 58 → f' j = f j) : RZf H f' S := by
  obtain ⟨⟨a, b, c⟩, d, g, i⟩ := h
  obtain ⟨o1, o2, o3, _⟩ := hO
  refine ⟨⟨by rw [e 55 (by omega)]; exact a, by rw [e 56 (by omega)]; exact b, by rw [e 57 (by omega)]; exact c⟩, fun w hw => ?_, fun k hk => by rw [e _ (by omega)]; exact g k hk, fun u hu => by rw [e _ (by omega)]; exact i u hu⟩
  rw [e _ (by omega), e _ (by omega), e _ (by omega), e _ (by omega)]
  exact d w hw
theorem RZ.f {H : Ho} {r : Nat} {m : dM} {S : Zt} (h : RZ H r m S) : RZf H (m.1 r) S := h
theorem RZf.z {H : Ho} {r : Nat} {m : dM} {S : Zt} (h : RZf H (m.1 r) S) : RZ H r m S := h
def RP (H : Ho) (m : dM) (P : List Zt) : Prop := (m.1 70 61).toInt = (P.length : Int) ∧ P.length ≤ 40 ∧ ∀ (k : Nat) (T : Zt), P[k]? = some T → RZf H (fun j => m.1 111 (58 * (P.length - 1 - k) + j)) T
def RSl (H : Ho) (m : dM) (L : Nat → Zt) : Prop := ∀ i : Nat, i < 3 → (m.1 115 i).toInt ≠ 0 → RZf H (fun j => m.1 116 (58 * i + j)) (L i)
def KR (H : Ho) (S : Zt) (P : List Zt) (L : Nat → Zt) (s : Nat) (m : dM) : Prop := RW H s m ∧ RZ H 107 m S ∧ RP H m P ∧ RSl H m L
/-- scratch alone has changed -/
def RsF (m0 m : dM) : Prop := (∀ k : Nat, k ≠ 70 → (k < 105 ∨ 110 < k ∨ k = 107) → k ≠ 114 → m.1 k = m0.1 k) ∧ (∀ j : Nat, j ≠ 53 → j ≠ 56 → j ≠ 57 → j ≠ 60 → m.1 70 j = m0.1 70 j) ∧ m.2 = m0.2
theorem RsF.rf (m : dM) : RsF m m := ⟨fun _ _ _ _ => rfl, fun _ _ _ _ _ => rfl, rfl⟩
theorem RsF.tr {a b c : dM} (h : RsF a b) (h' : RsF b c) : RsF a c := ⟨fun k q1 q2 q3 => (h'.1 k q1 q2 q3).trans (h.1 k q1 q2 q3), fun j q1 q2 q3 q4 => (h'.2.1 j q1 q2 q3 q4).trans (h.2.1 j q1 q2 q3 q4), h'.2.2.trans h.2.2⟩
theorem HaF.rs {a b : dM} (h : HaF a b) : RsF a b := ⟨fun k q1 q2 _ => h.1 k q1 (by omega), fun j q1 _ _ q2 => h.2.1 j q1 q2, h.2.2⟩
theorem XaF.rs {a b : dM} (h : XaF a b) : RsF a b := h.ha.rs
theorem RLF.rs {a b : dM} (h : RLF a b) : RsF a b := h.ha.rs
theorem RsF.set {a b : dM} {j : Nat} {v : Int32} (h : RsF a b) : RsF a (dSet b 108 j v) := ⟨fun k q1 q2 q3 => by rw [dSet_k (by omega)]; exact h.1 k q1 q2 q3, fun i q1 q2 q3 q4 => by rw [dSet_k (by decide)]; exact h.2.1 i q1 q2 q3 q4, h.2.2⟩
theorem RsF.s70 {a b : dM} {j : Nat} {v : Int32} (h : RsF a b) (hj : j = 56 ∨ j = 57 ∨ j = 60 ∨ j = 53) : RsF a (dSet b 70 j v) := ⟨fun k q1 q2 q3 => by rw [dSet_k q1]; exact h.1 k q1 q2 q3, fun i q1 q2 q3 q4 => by rw [dSet_j (by omega)]; exact h.2.1 i q1 q2 q3 q4, h.2.2⟩
section RPA
variable {H : Ho} {S T : Zt} {P : List Zt} {L : Nat → Zt} {s : Nat} {m : dM}
theorem RW.rs {m' : dM} (h : RW H s m) (hF : RsF m m') : RW H s m' := ⟨h.1, h.2.of (fun k a b => hF.1 k (by omega) (by omega) (by omega)) (hF.2.1 18 (by decide) (by decide) (by decide) (by decide))⟩
theorem RP.of {m' : dM} (h : RP H m P) (e : m'.1 70 61 = m.1 70 61) (e' : m'.1 111 = m.1 111) : RP H m' P := by
  unfold RP
  rw [e, e']
  exact h
theorem RSl.of {m' : dM} (h : RSl H m L) (e : m'.1 115 = m.1 115) (e' : m'.1 116 = m.1 116) : RSl H m' L := by
  unfold RSl
  rw [e, e']
  exact h
theorem KR.rs {m' : dM} (h : KR H S P L s m) (hF : RsF m m') : KR H S P L s m' := ⟨h.1.rs hF, h.2.1.of (hF.1 107 (by decide) (by decide) (by decide)), h.2.2.1.of (hF.2.1 61 (by decide) (by decide) (by decide) (by decide)) (hF.1 111 (by decide) (by decide) (by decide)), h.2.2.2.of (hF.1 115 (by decide) (by decide) (by decide)) (hF.1 116 (by decide) (by decide) (by decide))⟩
/-- a copy, its ways filled -/
def CY (H : Ho) (S : Zt) (s : Nat) (m : dM) : Prop := RW H s m ∧ RZ H 108 m S ∧ RL H (szG S) m
theorem y_copies {Q : dM → Prop} (hW : RW H s m) (hZ : RZ H 107 m S) (hQ : ∀ m' : dM, RsF m m' → CY H S s m' → m'.1 70 56 = hoE H → m'.1 70 57 = 0 → Q m') : c_X12_copies_70 6 m Q := by
  have loop : ∀ (t i : Nat) (x1 : Int32) (M : dM), i + t = 58 → x1.toInt = (i : Int) → (∀ k : Nat, k ≠ 108 → M.1 k = m.1 k) → M.2 = m.2 → (∀ j : Nat, j < i → M.1 108 j = m.1 107 j) → j_X12_copies_70_2 6 x1 M Q := by
    intro t
    induction t with
    | zero =>
      intro i x1 M hi h1 hk h2 hv
      have F : RsF m M := ⟨fun k q1 q2 _ => hk k (by omega), fun j _ _ _ _ => by rw [hk 70 (by decide)], h2⟩
      have W := hW.rs F
      have a := W.2.1.1
      have Z : RZ H 108 M S := (hZ.f.of hW.1 (fun j hj => hv j (by omega))).z
      refine v_X12_copies_70_2 ⟨fun _ => ?_, fun q => by exfalso; omega⟩
      rw [d_cn a.1, W.2.2.2.2.2.2.1.2.2.2, a.1]
      refine ⟨by omega, ?_⟩
      have F2 : RsF m (dSet (dSet M 70 56 (hoE H)) 70 57 (0 : Int32)) := (F.s70 (by decide)).s70 (by decide)
      have Z2 : RZ H 108 (dSet (dSet M 70 56 (hoE H)) 70 57 (0 : Int32)) S := Z.of (by rw [dSet_k (by decide), dSet_k (by decide)])
      have W2 := hW.rs F2
      refine y_fillsWays (G := bt (szG S)) W2.2.1 (Z2.rg (r := 0)) (fun M3 f3 d3 v3 => hQ M3 (F2.tr f3.rs) ⟨W2.rs f3.rs, Z2.of (f3.1 108 (by decide) (by decide)), d3, v3⟩ ?_ ?_)
      · rw [f3.1 70 (by decide) (by decide), dSet_j (by decide), dSet_s]
      · rw [f3.1 70 (by decide) (by decide), dSet_s]
    | succ t ih =>
      intro i x1 M hi h1 hk h2 hv
      refine v_X12_copies_70_2 ⟨fun q => by exfalso; omega, fun _ => ⟨by omega, by omega, ?_⟩⟩
      rw [d_cn h1]
      refine ih (i + 1) _ _ (by omega) (d_inc h1 (by omega)) (fun k q => by rw [dSet_k q]; exact hk k q) h2 (fun j hj => ?_)
      by_cases e : j = i
      · subst e; rw [dSet_s, hk 107 (by decide)]
      · rw [dSet_j e]; exact hv j (by omega)
  exact v_X12_copies_70 (loop 58 0 _ m rfl (by decide) (fun _ _ => rfl) rfl (fun j hj => absurd hj (Nat.not_lt_zero j)))
theorem y_keepsRow {Q : dM → Prop} (hO : hOk H) (hZ : RZ H 108 m T) (hQ : ∀ m' : dM, (∀ k : Nat, k ≠ 107 → m'.1 k = m.1 k) → m'.2 = m.2 → RZ H 107 m' T → Q m') : c_X12_keepsRow_70 1 m Q := by
  have loop : ∀ (t i : Nat) (x1 : Int32) (M : dM), i + t = 58 → x1.toInt = (i : Int) → (∀ k : Nat, k ≠ 107 → M.1 k = m.1 k) → M.2 = m.2 → (∀ j : Nat, j < i → M.1 107 j = m.1 108 j) → j_X12_keepsRow_70_2 1 x1 M Q := by
    intro t
    induction t with
    | zero =>
      intro i x1 M hi h1 hk h2 hv
      exact v_X12_keepsRow_70_2 ⟨fun _ => hQ M hk h2 (hZ.f.of hO (fun j hj => hv j (by omega))).z, fun q => by exfalso; omega⟩
    | succ t ih =>
      intro i x1 M hi h1 hk h2 hv
      refine v_X12_keepsRow_70_2 ⟨fun q => by exfalso; omega, fun _ => ⟨by omega, by omega, ?_⟩⟩
      rw [d_cn h1]
      refine ih (i + 1) _ _ (by omega) (d_inc h1 (by omega)) (fun k q => by rw [dSet_k q]; exact hk k q) h2 (fun j hj => ?_)
      by_cases e : j = i
      · subst e; rw [dSet_s, hk 108 (by decide)]
      · rw [dSet_j e]; exact hv j (by omega)
  exact v_X12_keepsRow_70 (loop 58 0 _ m rfl (by decide) (fun _ _ => rfl) rfl (fun j hj => absurd hj (Nat.not_lt_zero j)))
/-- what is recorded -/
theorem y_records {Q : dM → Prop} (hK : KR H S P L s m) (hZ : RZ H 108 m T) (hQ : ∀ m' : dM, (∀ k : Nat, k ≠ 70 → k ≠ 107 → k ≠ 111 → m'.1 k = m.1 k) → (∀ j : Nat, j ≠ 61 → m'.1 70 j = m.1 70 j) → m'.2 = m.2 → KR H T (pKeep S P) L s m' → Q m') : c_X12_records_70 2 m Q := by
  have hO := hK.1.1
  -- the push
  have l49 : ∀ (P' : List Zt) (M : dM), P'.length ≤ 39 → RP H M P' → (∀ k : Nat, k ≠ 70 → k ≠ 111 → M.1 k = m.1 k) → (∀ j : Nat, j ≠ 61 → M.1 70 j = m.1 70 j) → M.2 = m.2 → S :: P' = pKeep S P → j_X12_records_70_49 2 M Q := by
    intro P' M hl' hP hk hj h2 he
    obtain ⟨p1, p2, p3⟩ := hP
    have e107 : M.1 107 = m.1 107 := hk 107 (by decide) (by decide)
    have loop : ∀ (t i : Nat) (x1 : Int32) (M1 : dM), i + t = 58 → x1.toInt = (i : Int) → (∀ k : Nat, k ≠ 111 → M1.1 k = M.1 k) → M1.2 = M.2 → (∀ j : Nat, j < i → M1.1 111 (58 * P'.length + j) = m.1 107 j) → (∀ j : Nat, j < 58 * P'.length → M1.1 111 j = M.1 111 j) → j_X12_records_70_51 2 x1 M1 Q := by
      intro t
      induction t with
      | zero =>
        intro i x1 M1 hi h1 hk1 h21 hv hold'
        have u1 : M1.1 70 61 = M.1 70 61 := by rw [hk1 70 (by decide)]
        have f := d_inc (x := M1.1 70 61) (i := P'.length) (by rw [u1]; exact p1) (by omega)
        refine v_X12_records_70_51 ⟨fun _ => ?_, fun q => by exfalso; omega⟩
        refine y_keepsRow (T := T) hO (hZ.of (by rw [dSet_k (by decide), hk1 108 (by decide), hk 108 (by decide) (by decide)])) (fun M2 k2 e2 z2 => hQ M2 (fun k q1 q2 q3 => by rw [k2 k q2, dSet_k q1, hk1 k q3, hk k q1 q3]) (fun j q => by rw [k2 70 (by decide), dSet_j q, hk1 70 (by decide), hj j q]) (by rw [e2]; exact h21.trans h2) ⟨⟨hO, hK.1.2.of (fun k a b => by rw [k2 k (by omega), dSet_k (by omega), hk1 k (by omega), hk k (by omega) (by omega)]) (by rw [k2 70 (by decide), dSet_j (by decide), hk1 70 (by decide), hj 18 (by decide)])⟩, z2, ?_, hK.2.2.2.of (by rw [k2 115 (by decide), dSet_k (by decide), hk1 115 (by decide), hk 115 (by decide) (by decide)]) (by rw [k2 116 (by decide), dSet_k (by decide), hk1 116 (by decide), hk 116 (by decide) (by decide)])⟩)
        rw [← he]
        have e111 : M2.1 111 = M1.1 111 := by rw [k2 111 (by decide), dSet_k (by decide)]
        refine ⟨by rw [k2 70 (by decide), dSet_s, List.length_cons]; exact f, by rw [List.length_cons]; omega, fun k U hU => ?_⟩
        rw [List.length_cons, e111]
        match k, hU with
        | 0, hU =>
          have hU : some S = some U := hU
          cases hU
          exact hK.2.1.f.of hO (fun j hj' => by rw [show P'.length + 1 - 1 - 0 = P'.length by omega]; exact hv j (by omega))
        | k + 1, hU =>
          have hU : P'[k]? = some U := hU
          have hl2 : k < P'.length := (List.getElem?_eq_some_iff.mp hU).1
          refine (p3 k U hU).of hO (fun j hj' => ?_)
          show M1.1 111 (58 * (P'.length + 1 - 1 - (k + 1)) + j) = M.1 111 (58 * (P'.length - 1 - k) + j)
          rw [show P'.length + 1 - 1 - (k + 1) = P'.length - 1 - k by omega]
          exact hold' _ (by
            have : P'.length - 1 - k + 1 ≤ P'.length := by omega
            have := Nat.mul_le_mul_left 58 this
            omega)
      | succ t ih =>
        intro i x1 M1 hi h1 hk1 h21 hv hold'
        have u1 : M1.1 70 61 = M.1 70 61 := by rw [hk1 70 (by decide)]
        have fm := dMulE (X := 58) (Y := (P'.length : Int)) (x := (58 : Int32)) (y := M1.1 70 61) (by decide) (by rw [u1]; exact p1) (by omega) (by omega)
        have fa := dAddE (X := 58 * (P'.length : Int)) (Y := (i : Int)) fm h1 (by omega) (by omega)
        have fa' : ((58 : Int32) * M1.1 70 61 + x1).toInt = ((58 * P'.length + i : Nat) : Int) := by rw [fa]; omega
        refine v_X12_records_70_51 ⟨fun q => by exfalso; omega, fun _ => ⟨by omega, by omega, ?_⟩⟩
        rw [d_cn h1, d_cn fa']
        refine ih (i + 1) _ _ (by omega) (d_inc h1 (by omega)) (fun k q => by rw [dSet_k q]; exact hk1 k q) h21 (fun j hj' => ?_) (fun j hj' => ?_)
        · by_cases e : j = i
          · subst e; rw [dSet_s, hk1 107 (by decide), e107]
          · rw [dSet_j (by omega)]; exact hv j (by omega)
        · rw [dSet_j (by omega)]; exact hold' j hj'
    exact v_X12_records_70_49 (loop 58 0 _ M rfl (by decide) (fun _ _ => rfl) rfl (fun j hj' => absurd hj' (Nat.not_lt_zero j)) (fun j _ => rfl))
  obtain ⟨p1, p2, p3⟩ := hK.2.2.1
  refine v_X12_records_70 ⟨fun ne => l49 P m (by omega) hK.2.2.1 (fun _ _ _ => rfl) (fun _ _ => rfl) rfl ?_, fun ee => ?_⟩
  · unfold pKeep
    rw [List.take_of_length_le (by rw [List.length_cons]; omega)]
  · have loop : ∀ (t i : Nat) (x1 : Int32) (M : dM), i + t = 2262 → x1.toInt = (i : Int) → (∀ k : Nat, k ≠ 111 → M.1 k = m.1 k) → M.2 = m.2 → (∀ j : Nat, j < i → M.1 111 j = m.1 111 (j + 58)) → (∀ j : Nat, i ≤ j → M.1 111 j = m.1 111 j) → j_X12_records_70_11 2 x1 M Q := by
      intro t
      induction t with
      | zero =>
        intro i x1 M hi h1 hk h2 hv hr
        have u1 : M.1 70 61 = m.1 70 61 := by rw [hk 70 (by decide)]
        have f := dSubE (X := (40 : Int)) (Y := 1) (x := M.1 70 61) (y := (1 : Int32)) (by rw [u1]; exact ee) (by decide) (by omega) (by omega)
        refine v_X12_records_70_11 ⟨fun _ => l49 (P.take 39) _ (by rw [List.length_take]; omega) ?_ (fun k q1 q2 => by rw [dSet_k q1]; exact hk k q2) (fun j q => by rw [dSet_j q, hk 70 (by decide)]) h2 rfl, fun q => by exfalso; omega⟩
        have lt39 : (P.take 39).length = 39 := by rw [List.length_take]; omega
        refine ⟨by rw [dSet_s, lt39]; exact f, by rw [lt39]; omega, fun k U hU => ?_⟩
        rw [List.getElem?_take] at hU
        by_cases q : k < 39
        · rw [if_pos q] at hU
          refine (p3 k U hU).of hO (fun j hj' => ?_)
          show (dSet M 70 61 (M.1 70 61 - 1)).1 111 (58 * ((P.take 39).length - 1 - k) + j) = m.1 111 (58 * (P.length - 1 - k) + j)
          have hP40 : P.length = 40 := by omega
          rw [dSet_k (by decide), lt39, hv _ (by omega), hP40, show 58 * (39 - 1 - k) + j + 58 = 58 * (40 - 1 - k) + j by omega]
        · rw [if_neg q] at hU; cases hU
      | succ t ih =>
        intro i x1 M hi h1 hk h2 hv hr
        have f := d_add (k := 58) (K := 58) h1 (by decide) (by omega)
        refine v_X12_records_70_11 ⟨fun q => by exfalso; omega, fun _ => ⟨by omega, by omega, ?_⟩⟩
        rw [d_cn h1, d_cn f]
        refine ih (i + 1) _ _ (by omega) (d_inc h1 (by omega)) (fun k q => by rw [dSet_k q]; exact hk k q) h2 (fun j hj' => ?_) (fun j hj' => ?_)
        · by_cases e : j = i
          · subst e; rw [dSet_s, hr _ (by omega)]
          · rw [dSet_j e]; exact hv j (by omega)
        · rw [dSet_j (by omega)]; exact hr j (by omega)
    exact loop 2262 0 _ m rfl (by decide) (fun _ _ => rfl) rfl (fun j hj' => absurd hj' (Nat.not_lt_zero j)) (fun _ _ => rfl)
end RPA
end
section
/-! THE REFERENCE: the calls that change how it stands -/
section RCL
variable {H : Ho} {S : Zt} {P : List Zt} {L : Nat → Zt} {s : Nat} {m : dM}
/-- this one alone has changed -/
def RcF (m0 m : dM) : Prop := ∀ k : Nat, k < 70 → m.1 k = m0.1 k
theorem RcF.rf (m : dM) : RcF m m := fun _ _ => rfl
theorem RsF.rc {a b : dM} (h : RsF a b) : RcF a b := fun k q => h.1 k (by omega) (by omega) (by omega)
theorem RcF.tr {a b c : dM} (h : RcF a b) (h' : RcF b c) : RcF a c := fun k q => (h' k q).trans (h k q)
theorem y_isUser {x : Int32} {Q : Int32 → dM → Prop} (hW : RW H s m) (hT : 0 ≤ x.toInt ∧ x.toInt < (hoU H : Int) → Q 1 m) (hF : ¬ (0 ≤ x.toInt ∧ x.toInt < (hoU H : Int)) → Q 0 m) : c_X12_isUse_70 2 x m Q := by
  have a := hW.2.1.1
  have u8 := hW.1.2.2.1
  have f := dSubE (X := (hoU H : Int)) (Y := 1) (x := m.1 86 s) (y := (1 : Int32)) hW.2.2.1 (by decide) (by omega) (by omega)
  have z : (0 : Int32).toInt = 0 := by decide
  refine v_X12_isUse_70 ⟨by omega, ?_⟩
  rw [d_cn a.1]
  exact y_in (fun q => ⟨Or.inr rfl, hT (by omega)⟩) (fun q => ⟨Or.inl rfl, hF (by omega)⟩)
theorem y_isFlatr {x : Int32} {Q : Int32 → dM → Prop} (hW : RW H s m) (hT : 0 ≤ x.toInt ∧ x.toInt < (hoF H : Int) → Q 1 m) (hF : ¬ (0 ≤ x.toInt ∧ x.toInt < (hoF H : Int)) → Q 0 m) : c_X12_isFlat_70 2 x m Q := by
  have a := hW.2.1.1
  have f7 := hW.1.1
  have f := dSubE (X := (hoF H : Int)) (Y := 1) (x := m.1 80 s) (y := (1 : Int32)) hW.2.1.2.1.1 (by decide) (by omega) (by omega)
  have z : (0 : Int32).toInt = 0 := by decide
  refine v_X12_isFlat_70 ⟨by omega, ?_⟩
  rw [d_cn a.1]
  exact y_in (fun q => ⟨Or.inr rfl, hT (by omega)⟩) (fun q => ⟨Or.inl rfl, hF (by omega)⟩)
theorem bi_ne1 {b : Bool} (h : (bi b).toInt ≠ 1) : b = false := by cases b with | false => rfl | true => exact absurd rfl h
theorem bi_eq1 {b : Bool} (h : (bi b).toInt = 1) : b = true := by cases b with | true => rfl | false => exact absurd h (by decide)
theorem bi_eq0 {b : Bool} (h : (bi b).toInt = 0) : b = false := by cases b with | false => rfl | true => exact absurd h (by decide)
theorem bi_ne0 {b : Bool} (h : (bi b).toInt ≠ 0) : b = true := by cases b with | true => rfl | false => exact absurd rfl h
/-- one place of the copy has changed -/
theorem RZ.a {u : Nat} {v g : Int32} (h : RZ H 108 m S) (hO : hOk H) (hu : u < hoU H) (hg : ∀ i : Nat, i ≠ u → bt g i = bt (szA S) i) (hv : v = bi (bt g u)) : RZ H 108 (dSet m 108 (47 + u) v) (setA S g) := by
  obtain ⟨⟨a, b, c⟩, d, e, f⟩ := h
  obtain ⟨o1, o2, o3, _⟩ := hO
  refine ⟨⟨by rw [dSet_j (by omega)]; exact a, by rw [dSet_j (by omega)]; exact b, by rw [dSet_j (by omega)]; exact c⟩, fun w hw => ?_, fun k hk => by rw [dSet_j (by omega)]; exact e k hk, fun i hi => ?_⟩
  · rw [dSet_j (by omega), dSet_j (by omega), dSet_j (by omega), dSet_j (by omega)]
    exact d w hw
  · show _ = bi (bt g i)
    by_cases z : i = u
    · subst z; rw [dSet_s]; exact hv
    · rw [dSet_j (by omega), hg i z]; exact f i hi
theorem RZ.p {w : Nat} {v g : Int32} (h : RZ H 108 m S) (hO : hOk H) (hw : w < hoW H) (hg : ∀ i : Nat, i ≠ w → bt g i = bt (szP S) i) (hv : v = bi (bt g w)) : RZ H 108 (dSet m 108 (30 + w) v) (setP S g) := by
  obtain ⟨⟨a, b, c⟩, d, e, f⟩ := h
  obtain ⟨o1, o2, o3, _⟩ := hO
  refine ⟨⟨by rw [dSet_j (by omega)]; exact a, by rw [dSet_j (by omega)]; exact b, by rw [dSet_j (by omega)]; exact c⟩, fun i hi => ?_, fun k hk => by rw [dSet_j (by omega)]; exact e k hk, fun i hi => by rw [dSet_j (by omega)]; exact f i hi⟩
  obtain ⟨d1, d2, d3, d4⟩ := d i hi
  rw [dSet_j (show i ≠ 30 + w by omega), dSet_j (show 10 + i ≠ 30 + w by omega), dSet_j (show 20 + i ≠ 30 + w by omega)]
  refine ⟨d1, d2, d3, ?_⟩
  show _ = bi (bt g i)
  by_cases z : i = w
  · subst z; rw [dSet_s]; exact hv
  · rw [dSet_j (by omega), hg i z]; exact d4
theorem RZ.g {w : Nat} {v g : Int32} (h : RZ H 108 m S) (hO : hOk H) (hw : w < hoW H) (hg : ∀ i : Nat, i ≠ w → bt g i = bt (szG S) i) (hv : v = bi (bt g w)) : RZ H 108 (dSet m 108 (10 + w) v) (setG S g) := by
  obtain ⟨⟨a, b, c⟩, d, e, f⟩ := h
  obtain ⟨o1, o2, o3, _⟩ := hO
  refine ⟨⟨by rw [dSet_j (by omega)]; exact a, by rw [dSet_j (by omega)]; exact b, by rw [dSet_j (by omega)]; exact c⟩, fun i hi => ?_, fun k hk => by rw [dSet_j (by omega)]; exact e k hk, fun i hi => by rw [dSet_j (by omega)]; exact f i hi⟩
  obtain ⟨d1, d2, d3, d4⟩ := d i hi
  rw [dSet_j (show i ≠ 10 + w by omega), dSet_j (show 30 + i ≠ 10 + w by omega), dSet_j (show 20 + i ≠ 10 + w by omega)]
  refine ⟨d1, ?_, d3, d4⟩
  show _ = bi (bt g i)
  by_cases z : i = w
  · subst z; rw [dSet_s]; exact hv
  · rw [dSet_j (by omega), hg i z]; exact d2
theorem RZ.e {w : Nat} {v : Int32} (h : RZ H 108 m S) (hO : hOk H) (hw : w < hoW H) : RZ H 108 (dSet m 108 (20 + w) v) (setE S (upd (szE S) w v)) := by
  obtain ⟨⟨a, b, c⟩, d, e, f⟩ := h
  obtain ⟨o1, o2, o3, _⟩ := hO
  refine ⟨⟨by rw [dSet_j (by omega)]; exact a, by rw [dSet_j (by omega)]; exact b, by rw [dSet_j (by omega)]; exact c⟩, fun i hi => ?_, fun k hk => by rw [dSet_j (by omega)]; exact e k hk, fun i hi => by rw [dSet_j (by omega)]; exact f i hi⟩
  obtain ⟨d1, d2, d3, d4⟩ := d i hi
  rw [dSet_j (show i ≠ 20 + w by omega), dSet_j (show 30 + i ≠ 20 + w by omega), dSet_j (show 10 + i ≠ 20 + w by omega)]
  refine ⟨d1, d2, ?_, d4⟩
  show _ = upd (szE S) w v i
  rw [upd_j]
  by_cases z : i = w
  · subst z; rw [dSet_s, if_pos rfl]
  · rw [dSet_j (by omega), if_neg z]; exact d3
theorem RZ.r {w : Nat} {v : Int32} (h : RZ H 108 m S) (hO : hOk H) (hw : w < hoW H) : RZ H 108 (dSet m 108 w v) (setR S (upd (szR S) w v)) := by
  obtain ⟨⟨a, b, c⟩, d, e, f⟩ := h
  obtain ⟨o1, o2, o3, _⟩ := hO
  refine ⟨⟨by rw [dSet_j (by omega)]; exact a, by rw [dSet_j (by omega)]; exact b, by rw [dSet_j (by omega)]; exact c⟩, fun i hi => ?_, fun k hk => by rw [dSet_j (by omega)]; exact e k hk, fun i hi => by rw [dSet_j (by omega)]; exact f i hi⟩
  obtain ⟨d1, d2, d3, d4⟩ := d i hi
  rw [dSet_j (show 20 + i ≠ w by omega), dSet_j (show 30 + i ≠ w by omega), dSet_j (show 10 + i ≠ w by omega)]
  refine ⟨?_, d2, d3, d4⟩
  show _ = upd (szR S) w v i
  rw [upd_j]
  by_cases z : i = w
  · subst z; rw [dSet_s, if_pos rfl]
  · rw [dSet_j z, if_neg z]; exact d1
theorem bt_flip {g : Int32} {u i : Nat} (hu : u < 32) (h : i ≠ u) : bt (g ^^^ b1 u) i = bt g i := by rw [bt_xor, bt_1 hu, decide_eq_false h, Bool.xor_false]
theorem bt_flips {g : Int32} {u : Nat} (hu : u < 32) : bt (g ^^^ b1 u) u = !bt g u := by rw [bt_xor, bt_1 hu, decide_eq_true rfl, Bool.xor_true]
theorem bt_m1 {i : Nat} (h : i < 32) : bt (-1 : Int32) i = true := by
  have : (-1 : Int32) = ~~~(0 : Int32) := by decide
  rw [this, bt_not h, bt_0]
  rfl
theorem bt_off {g : Int32} {u i : Nat} (hu : u < 32) (h : i ≠ u) : bt (g &&& (b1 u ^^^ (-1 : Int32))) i = bt g i := by
  by_cases q : i < 32
  · rw [bt_and, bt_xor, bt_1 hu, decide_eq_false h, bt_m1 q, Bool.false_xor, Bool.and_true]
  · rw [bt_big (by omega), bt_big (by omega)]
theorem bt_offs {g : Int32} {u : Nat} (hu : u < 32) : bt (g &&& (b1 u ^^^ (-1 : Int32))) u = false := by
  rw [bt_and, bt_xor, bt_1 hu, decide_eq_true rfl, bt_m1 hu]
  simp
theorem q_agree {x1 x2 : Int32} {Q : Int32 → dM → Prop} (hK : KR H S P L s m) (h2 : x2 = 0 ∨ x2 = 1) (hQ : ∀ m' : dM, RcF m m' → KR H (aAgr H S P x1 x2).2.1 (aAgr H S P x1 x2).2.2 L s m' → Q (aAgr H S P x1 x2).1 m') : c_X12_agree_70 7 x1 x2 m Q := by
  have o3 := hK.1.1.2.2.1
  have no : ¬ ((0 ≤ x1.toInt ∧ x1.toInt < (hoU H : Int)) ∧ (bi (bt (szA S) x1.toNatClampNeg)).toInt ≠ x2.toInt) → j_X12_agree_70_30 7 m Q := fun q => by
    have e : aAgr H S P x1 x2 = (0, S, P) := if_neg q
    rw [e] at hQ
    exact v_X12_agree_70_30 (hQ m (RcF.rf m) hK)
  refine v_X12_agree_70 (Wp.deep (y_isUser hK.1 (fun hu => ⟨fun z => absurd z (by decide), fun _ => ?_⟩) (fun hu => ⟨fun _ => no (fun q => hu q.1), fun z => absurd rfl z⟩)) (Nat.le_of_ble_eq_true rfl))
  have hx := toNat_of hu.1
  generalize hn : x1.toNatClampNeg = u at *
  have e47 := d_add (k := x1) (K := u) (x := (47 : Int32)) (i := 47) (by decide) hx (by omega)
  rw [d_cn e47, hK.2.1.2.2.2 u (by omega)]
  have i0 : (0 : Int32).toInt = 0 := by decide
  have i1 : (1 : Int32).toInt = 1 := by decide
  have go : (bi (bt (szA S) u)).toInt ≠ x2.toInt → ∀ M : dM, RsF m M → CY H S s M → ∀ v : Int32, v.toInt = x2.toInt → c_X12_records_70 6 (dSet M 108 (47 + u) v) (fun m3 => Q (1 : Int32) m3) := fun ne M f cy v hv => by
    have e : aAgr H S P x1 x2 = (1, setA S (szA S ^^^ b1 u), pKeep S P) := by
      unfold aAgr
      rw [hn]
      exact if_pos ⟨hu, ne⟩
    rw [e] at hQ
    have hZ : RZ H 108 (dSet M 108 (47 + u) v) (setA S (szA S ^^^ b1 u)) := cy.2.1.a hK.1.1 (by omega) (fun i hi => bt_flip (by omega) hi) (by
      rw [bt_flips (by omega)]
      apply Int32.toInt_inj.mp
      cases g : bt (szA S) u with
      | true => rw [g] at ne; rcases h2 with q | q <;> subst q <;> first | (rw [hv]; rfl) | exact absurd rfl ne
      | false => rw [g] at ne; rcases h2 with q | q <;> subst q <;> first | exact absurd rfl ne | (rw [hv]; rfl))
    refine Wp.deep (y_records (hK.rs f.set) hZ (fun M2 a b c d => hQ M2 (f.set.rc.tr (fun k q => a k (by omega) (by omega) (by omega))) d)) (Nat.le_of_ble_eq_true rfl)
  have both : (bi (bt (szA S) u)).toInt ≠ x2.toInt → c_X12_copies_70 6 m (fun m2 => (x2.toInt = 0 → (0 ≤ ((47 : Int32) + x1).toInt ∧ ((47 : Int32) + x1).toInt < 58) ∧ c_X12_records_70 6 (dSet m2 108 (47 + u) (0 : Int32)) (fun m3 => Q (1 : Int32) m3)) ∧ (x2.toInt ≠ 0 → (0 ≤ ((47 : Int32) + x1).toInt ∧ ((47 : Int32) + x1).toInt < 58) ∧ c_X12_records_70 6 (dSet m2 108 (47 + u) (1 : Int32)) (fun m4 => Q (1 : Int32) m4))) := fun ne => y_copies hK.1 hK.2.1 (fun M f cy _ _ => ⟨fun z => ⟨by omega, go ne M f cy _ (by rw [z]; rfl)⟩, fun z => ⟨by omega, go ne M f cy _ (by rcases h2 with q | q <;> subst q <;> first | exact absurd rfl z | rfl)⟩⟩)
  refine ⟨by omega, fun n1 => ⟨fun n0 => both ?_, fun e0 => no ?_⟩, fun e1 => ⟨fun n0 => both ?_, fun e0 => no ?_⟩⟩
  · rw [bi_ne1 n1]; exact n0
  · rw [bi_ne1 n1]; exact fun q => q.2 e0
  · rw [bi_eq1 e1]; exact n0
  · rw [bi_eq1 e1]; exact fun q => q.2 e0
theorem q_pin {x1 x2 : Int32} {Q : Int32 → dM → Prop} (hK : KR H S P L s m) (h2 : x2 = 0 ∨ x2 = 1) (hQ : ∀ m' : dM, RcF m m' → KR H (aPin H S P x1 x2).2.1 (aPin H S P x1 x2).2.2 L s m' → Q (aPin H S P x1 x2).1 m') : c_X12_pin_70 7 x1 x2 m Q := by
  have o2 := hK.1.1.2.1
  have no : ¬ ((0 ≤ x1.toInt ∧ x1.toInt < (hoW H : Int)) ∧ bt (szG S) x1.toNatClampNeg = false ∧ (bi (bt (szP S) x1.toNatClampNeg)).toInt ≠ x2.toInt) → j_X12_pin_70_43 7 m Q := fun q => by
    have e : aPin H S P x1 x2 = (0, S, P) := if_neg q
    rw [e] at hQ
    exact v_X12_pin_70_43 (hQ m (RcF.rf m) hK)
  refine v_X12_pin_70 (Wp.deep (y_isWire hK.1.2.1 (fun hu => ⟨fun z => absurd z (by decide), fun _ => ?_⟩) (fun hu => ⟨fun _ => no (fun q => hu q.1), fun z => absurd rfl z⟩)) (Nat.le_of_ble_eq_true rfl))
  have hx := toNat_of hu.1
  generalize hn : x1.toNatClampNeg = u at *
  have e10 := d_add (k := x1) (K := u) (x := (10 : Int32)) (i := 10) (by decide) hx (by omega)
  have e30 := d_add (k := x1) (K := u) (x := (30 : Int32)) (i := 30) (by decide) hx (by omega)
  obtain ⟨z1, z2, z3, z4⟩ := hK.2.1.2.1 u (by omega)
  rw [d_cn e10, d_cn e30, z2, z4]
  have i0 : (0 : Int32).toInt = 0 := by decide
  have i1 : (1 : Int32).toInt = 1 := by decide
  have go : bt (szG S) u = false → (bi (bt (szP S) u)).toInt ≠ x2.toInt → ∀ M : dM, RsF m M → CY H S s M → ∀ v : Int32, v.toInt = x2.toInt → c_X12_records_70 6 (dSet M 108 (30 + u) v) (fun m3 => Q (1 : Int32) m3) := fun gg ne M f cy v hv => by
    have e : aPin H S P x1 x2 = (1, setP S (szP S ^^^ b1 u), pKeep S P) := by
      unfold aPin
      rw [hn]
      exact if_pos ⟨hu, gg, ne⟩
    rw [e] at hQ
    have hZ : RZ H 108 (dSet M 108 (30 + u) v) (setP S (szP S ^^^ b1 u)) := cy.2.1.p hK.1.1 (by omega) (fun i hi => bt_flip (by omega) hi) (by
      rw [bt_flips (by omega)]
      apply Int32.toInt_inj.mp
      cases g : bt (szP S) u with
      | true => rw [g] at ne; rcases h2 with q | q <;> subst q <;> first | (rw [hv]; rfl) | exact absurd rfl ne
      | false => rw [g] at ne; rcases h2 with q | q <;> subst q <;> first | exact absurd rfl ne | (rw [hv]; rfl))
    refine Wp.deep (y_records (hK.rs f.set) hZ (fun M2 a b c d => hQ M2 (f.set.rc.tr (fun k q => a k (by omega) (by omega) (by omega))) d)) (Nat.le_of_ble_eq_true rfl)
  have both : bt (szG S) u = false → (bi (bt (szP S) u)).toInt ≠ x2.toInt → c_X12_copies_70 6 m (fun m2 => (x2.toInt = 0 → (0 ≤ ((30 : Int32) + x1).toInt ∧ ((30 : Int32) + x1).toInt < 58) ∧ c_X12_records_70 6 (dSet m2 108 (30 + u) (0 : Int32)) (fun m3 => Q (1 : Int32) m3)) ∧ (x2.toInt ≠ 0 → (0 ≤ ((30 : Int32) + x1).toInt ∧ ((30 : Int32) + x1).toInt < 58) ∧ c_X12_records_70 6 (dSet m2 108 (30 + u) (1 : Int32)) (fun m4 => Q (1 : Int32) m4))) := fun gg ne => y_copies hK.1 hK.2.1 (fun M f cy _ _ => ⟨fun z => ⟨by omega, go gg ne M f cy _ (by rw [z]; rfl)⟩, fun z => ⟨by omega, go gg ne M f cy _ (by rcases h2 with q | q <;> subst q <;> first | exact absurd rfl z | rfl)⟩⟩)
  refine ⟨by omega, fun g1 => no (fun q => by rw [bi_eq1 g1] at q; cases q.2.1), fun g1 => ⟨by omega, fun n1 => ⟨fun n0 => both (bi_ne1 g1) ?_, fun e0 => no ?_⟩, fun e1 => ⟨fun n0 => both (bi_ne1 g1) ?_, fun e0 => no ?_⟩⟩⟩
  · rw [bi_ne1 n1]; exact n0
  · rw [bi_ne1 n1]; exact fun q => q.2.2 e0
  · rw [bi_eq1 e1]; exact n0
  · rw [bi_eq1 e1]; exact fun q => q.2.2 e0
theorem q_mend {x1 : Int32} {Q : Int32 → dM → Prop} (hK : KR H S P L s m) (hQ : ∀ m' : dM, RcF m m' → KR H (aMnd H S P x1).2.1 (aMnd H S P x1).2.2 L s m' → Q (aMnd H S P x1).1 m') : c_X12_mend_70 7 x1 m Q := by
  have o2 := hK.1.1.2.1
  refine v_X12_mend_70 (Wp.deep (y_isWire hK.1.2.1 (fun hu => ⟨fun _ => ?_, fun z => absurd z (by decide)⟩) (fun hu => ⟨fun z => absurd rfl z, fun _ => ?_⟩)) (Nat.le_of_ble_eq_true rfl))
  · have hx := toNat_of hu.1
    unfold aMnd at hQ
    rw [if_pos hu] at hQ
    generalize hn : x1.toNatClampNeg = w at *
    have hw : w < hoW H := by omega
    have e10 := d_add (k := x1) (K := w) (x := (10 : Int32)) (i := 10) (by decide) hx (by omega)
    have e20 := d_add (k := x1) (K := w) (x := (20 : Int32)) (i := 20) (by decide) hx (by omega)
    have e30 := d_add (k := x1) (K := w) (x := (30 : Int32)) (i := 30) (by decide) hx (by omega)
    refine y_copies hK.1 hK.2.1 (fun M1 f1 cy _ _ => ?_)
    have no : ¬ (bt (szG S) w = true ∧ (cst H S w).toInt ≤ (szC S).toInt) → ∀ M : dM, RsF m M → j_X12_mend_70_41 7 M Q := fun q M f => by
      rw [if_neg q] at hQ
      exact v_X12_mend_70_41 (hQ M f.rc (hK.rs f))
    rw [d_cn e10, d_cn e20, d_cn e30, (cy.2.1.2.1 w hw).2.1]
    refine ⟨by omega, fun g0 => no (fun q => by rw [bi_eq0 g0] at q; cases q.1) M1 f1, fun g1 => ?_⟩
    have g := bi_ne0 g1
    refine Wp.deep (y_costsOf cy.1 cy.2.1 hx hw (fun M2 f2 => ?_)) (Nat.le_of_ble_eq_true rfl)
    have Z2 := cy.2.1.xa f2 (Or.inr rfl)
    have W2 := cy.1.xa f2
    have F2 := f1.tr f2.rs
    rw [Z2.1.2.1]
    refine ⟨fun le => ?_, fun gt => no (fun q => by omega) M2 F2⟩
    rw [if_pos ⟨g, le⟩] at hQ
    refine Wp.deep (y_costsOf W2 Z2 hx hw (fun M3 f3 => ⟨by omega, by omega, by omega, ?_⟩)) (Nat.le_of_ble_eq_true rfl)
    have Z3 := Z2.xa f3 (Or.inr rfl)
    have F3 := F2.tr f3.rs
    have Z4 := (((Z3.c (v := szC S - cst H S w) hK.1.1).g (w := w) (v := 0) (g := szG S &&& (b1 w ^^^ (-1 : Int32))) hK.1.1 hw (fun i hi => bt_off (by omega) hi) (by rw [bt_offs (by omega)]; rfl)).e (w := w) (v := 0) hK.1.1 hw).p (w := w) (v := 0) (g := szP S &&& (b1 w ^^^ (-1 : Int32))) hK.1.1 hw (fun i hi => bt_off (by omega) hi) (by rw [bt_offs (by omega)]; rfl)
    refine Wp.deep (y_records (T := mnd S (cst H S w) w) (hK.rs F3.set.set.set.set) Z4 (fun M5 a b c d => ?_)) (Nat.le_of_ble_eq_true rfl)
    rw [d.2.1.1.2.1]
    exact hQ M5 (F3.set.set.set.set.rc.tr (fun k q => a k (by omega) (by omega) (by omega))) d
  · unfold aMnd at hQ
    rw [if_neg hu] at hQ
    exact hQ m (RcF.rf m) hK
theorem q_thicken {x1 : Int32} {Q : Int32 → dM → Prop} (hK : KR H S P L s m) (hZo : zOk H S) (hQ : ∀ m' : dM, RcF m m' → KR H (aThk H S P x1).2.1 (aThk H S P x1).2.2 L s m' → Q (aThk H S P x1).1 m') : c_X12_thicken_70 7 x1 m Q := by
  have o2 := hK.1.1.2.1
  refine v_X12_thicken_70 (Wp.deep (y_isWire hK.1.2.1 (fun hu => ⟨fun _ => ?_, fun z => absurd z (by decide)⟩) (fun hu => ⟨fun z => absurd rfl z, fun _ => ?_⟩)) (Nat.le_of_ble_eq_true rfl))
  · have hx := toNat_of hu.1
    unfold aThk at hQ
    rw [if_pos hu] at hQ
    generalize hn : x1.toNatClampNeg = w at *
    have hw : w < hoW H := by omega
    have e10 := d_add (k := x1) (K := w) (x := (10 : Int32)) (i := 10) (by decide) hx (by omega)
    have r99 := hZo.2.2.2.2.2.1 w hw
    refine y_copies hK.1 hK.2.1 (fun M1 f1 cy _ _ => ?_)
    have no : ¬ (bt (szG S) w = false ∧ (szR S w).toInt < 99 ∧ (cst H S w).toInt ≤ (szC S).toInt) → ∀ M : dM, RsF m M → j_X12_thicken_70_53 7 M Q := fun q M f => by
      rw [if_neg q] at hQ
      exact v_X12_thicken_70_53 (hQ M f.rc (hK.rs f))
    rw [d_cn e10, (cy.2.1.2.1 w hw).2.1, (cy.2.1.2.1 w hw).1]
    refine ⟨by omega, fun g1 => no (fun q => by rw [bi_eq1 g1] at q; cases q.1) M1 f1, fun g1 => ⟨by omega, fun r9 => no (fun q => by omega) M1 f1, fun r9 => ?_⟩⟩
    have g := bi_ne1 g1
    refine Wp.deep (y_costsOf cy.1 cy.2.1 hx hw (fun M2 f2 => ?_)) (Nat.le_of_ble_eq_true rfl)
    have Z2 := cy.2.1.xa f2 (Or.inr rfl)
    have W2 := cy.1.xa f2
    have F2 := f1.tr f2.rs
    rw [Z2.1.2.1]
    refine ⟨fun le => ?_, fun gt => no (fun q => by omega) M2 F2⟩
    rw [if_pos ⟨g, by omega, le⟩] at hQ
    refine Wp.deep (y_costsOf W2 Z2 hx hw (fun M3 f3 => ⟨by omega, by omega, ?_⟩)) (Nat.le_of_ble_eq_true rfl)
    have Z3 := Z2.xa f3 (Or.inr rfl)
    have F3 := F2.tr f3.rs
    have ev : (dSet M3 108 56 (szC S - cst H S w)).1 108 w = szR S w := by rw [dSet_j (by omega)]; exact (Z3.2.1 w hw).1
    rw [ev]
    have Z4 := (Z3.c (v := szC S - cst H S w) hK.1.1).r (w := w) (v := szR S w + 1) hK.1.1 hw
    refine Wp.deep (y_records (T := thk S (cst H S w) w) (hK.rs F3.set.set) Z4 (fun M5 a b c d => ?_)) (Nat.le_of_ble_eq_true rfl)
    rw [d.2.1.1.2.1]
    exact hQ M5 (F3.set.set.rc.tr (fun k q => a k (by omega) (by omega) (by omega))) d
  · unfold aThk at hQ
    rw [if_neg hu] at hQ
    exact hQ m (RcF.rf m) hK
end RCL
end
section
/-! THE REFERENCE: hours, undo, hold, restore -/
section RCM
variable {H : Ho} {S : Zt} {P : List Zt} {L : Nat → Zt} {s : Nat} {m : dM}
theorem mor_h {T : Zt} {M : dM} (h6 : M.1 70 56 = hoE H) (h7 : M.1 70 57 = 0) : mor H T M = sgA H (hoE H) (szH T) := by
  unfold mor
  rw [h6, h7, decide_eq_false (by decide)]
  rfl
theorem y_goes {x1 : Int32} {n : Nat} {Q : dM → Prop} (hC : CY H S s m) (hO : zOk H S) (h6 : m.1 70 56 = hoE H) (h7 : m.1 70 57 = 0) (hx : x1.toInt = (n : Int)) (hn : n ≤ 72) (hQ : ∀ m' : dM, RsF m m' → CY H (itr H n S) s m' → Q m') : c_X12_goes_70 7 x1 m Q := by
  have loop : ∀ (t i : Nat) (x2 : Int32) (T : Zt) (M : dM), i + t = n → x2.toInt = (i : Int) → RsF m M → CY H T s M → zOk H T → M.1 70 56 = hoE H → M.1 70 57 = 0 → itr H t T = itr H n S → j_X12_goes_70_2 7 x1 x2 M Q := by
    intro t
    induction t with
    | zero =>
      intro i x2 T M hi h2 hF hC' hT a b e
      have e : T = itr H n S := e
      rw [← e] at hQ
      exact v_X12_goes_70_2 ⟨fun _ => hQ M hF hC', fun q => by exfalso; omega⟩
    | succ t ih =>
      intro i x2 T M hi h2 hF hC' hT a b e
      refine v_X12_goes_70_2 ⟨fun q => by exfalso; omega, fun _ => y_hourGoes hC'.1 hC'.2.1 hC'.2.2 hT (fun M1 f1 W1 g1 Z1 L1 => ?_)⟩
      rw [mor_h a b] at Z1 L1
      exact ih (i + 1) _ (hst H T) M1 (by omega) (d_inc h2 (by omega)) (hF.tr f1.rs) ⟨W1, Z1, L1⟩ (hT.h hC.1.1) ((f1.2.1 56 (by decide) (by decide)).trans a) ((f1.2.1 57 (by decide) (by decide)).trans b) e
  exact v_X12_goes_70 (loop n 0 _ S m (by omega) (by decide) (RsF.rf m) hC hO h6 h7 rfl)
theorem y_isLong {x : Int32} {Q : Int32 → dM → Prop} (hT : 0 ≤ x.toInt ∧ x.toInt ≤ 72 → Q 1 m) (hF : ¬ (0 ≤ x.toInt ∧ x.toInt ≤ 72) → Q 0 m) : c_X12_isLong 2 x m Q := by
  have z : (0 : Int32).toInt = 0 := by decide
  have z7 := ti_72
  exact v_X12_isLong (y_in (fun q => ⟨Or.inr rfl, hT (by omega)⟩) (fun q => ⟨Or.inl rfl, hF (by omega)⟩))
theorem q_hours {x1 : Int32} {Q : Int32 → dM → Prop} (hK : KR H S P L s m) (hO : zOk H S) (hQ : ∀ m' : dM, RcF m m' → KR H (aHrs H S P x1).2.1 (aHrs H S P x1).2.2 L s m' → Q (aHrs H S P x1).1 m') : c_X12_hours_70 8 x1 m Q := by
  unfold aHrs at hQ
  refine v_X12_hours_70 (Wp.deep (y_isLong (fun q => ⟨fun _ => ⟨fun n0 => ?_, fun e0 => ?_⟩, fun z => absurd z (by decide)⟩) (fun q => ⟨fun z => absurd rfl z, fun _ => ?_⟩)) (Nat.le_of_ble_eq_true rfl))
  · rw [if_pos q, if_neg n0] at hQ
    have hx := toNat_of q.1
    refine Wp.deep (y_copies hK.1 hK.2.1 (fun M1 f1 cy a b => ?_)) (Nat.le_of_ble_eq_true rfl)
    refine y_goes cy hO a b hx (by omega) (fun M2 f2 cy2 => ?_)
    refine Wp.deep (y_records (hK.rs (f1.tr f2)) cy2.2.1 (fun M3 p q r d => ?_)) (Nat.le_of_ble_eq_true rfl)
    rw [d.2.1.1.1]
    exact hQ M3 ((f1.tr f2).rc.tr (fun k q => p k (by omega) (by omega) (by omega))) d
  · rw [if_pos q, if_pos e0] at hQ
    rw [hK.2.1.1.1]
    exact hQ m (RcF.rf m) hK
  · rw [if_neg q] at hQ
    exact hQ m (RcF.rf m) hK
theorem q_undo {Q : Int32 → dM → Prop} (hK : KR H S P L s m) (hQ : ∀ m' : dM, RcF m m' → KR H (aUnd S P).2.1 (aUnd S P).2.2 L s m' → Q (aUnd S P).1 m') : c_X12_undo_70 1 m Q := by
  obtain ⟨p1, p2, p3⟩ := hK.2.2.1
  refine v_X12_undo_70 ⟨fun ne => ?_, fun ee => ?_⟩
  · match P, p1, p2, p3, hQ with
    | [], p1, _, _, _ => exact absurd p1 ne
    | T :: P', p1, p2, p3, hQ =>
      have hQ : ∀ m' : dM, RcF m m' → KR H T P' L s m' → Q 1 m' := hQ
      rw [List.length_cons] at p1 p2
      have f := dSubE (X := ((P'.length + 1 : Nat) : Int)) (Y := 1) (x := m.1 70 61) (y := (1 : Int32)) p1 (by decide) (by omega) (by omega)
      have hT := p3 0 T rfl
      rw [List.length_cons] at hT
      have f' : (m.1 70 61 - 1).toInt = (P'.length : Int) := by omega
      have loop : ∀ (t i : Nat) (x1 : Int32) (M : dM), i + t = 58 → x1.toInt = (i : Int) → (∀ k : Nat, k ≠ 70 → k ≠ 107 → M.1 k = m.1 k) → (∀ j : Nat, j ≠ 61 → M.1 70 j = m.1 70 j) → (M.1 70 61).toInt = (P'.length : Int) → (∀ j : Nat, j < i → M.1 107 j = m.1 111 (58 * P'.length + j)) → j_X12_undo_70_21 1 x1 M Q := by
        intro t
        induction t with
        | zero =>
          intro i x1 M hi h1 hk hj h61 hv
          refine v_X12_undo_70_21 ⟨fun _ => hQ M (fun k q => hk k (by omega) (by omega)) ⟨⟨hK.1.1, hK.1.2.of (fun k a b => hk k (by omega) (by omega)) (hj 18 (by decide))⟩, ?_, ⟨h61, by omega, fun k U hU => ?_⟩, hK.2.2.2.of (hk 115 (by decide) (by decide)) (hk 116 (by decide) (by decide))⟩, fun q => by exfalso; omega⟩
          · exact (hT.of hK.1.1 (fun j hj' => by rw [hv j (by omega), show P'.length + 1 - 1 - 0 = P'.length by omega])).z
          · have hl2 : k < P'.length := (List.getElem?_eq_some_iff.mp hU).1
            have := p3 (k + 1) U hU
            rw [List.length_cons] at this
            refine this.of hK.1.1 (fun j _ => ?_)
            rw [hk 111 (by decide) (by decide), show P'.length + 1 - 1 - (k + 1) = P'.length - 1 - k by omega]
        | succ t ih =>
          intro i x1 M hi h1 hk hj h61 hv
          have fm := dMulE (X := 58) (Y := (P'.length : Int)) (x := (58 : Int32)) (y := M.1 70 61) (by decide) h61 (by omega) (by omega)
          have fa := dAddE (X := 58 * (P'.length : Int)) (Y := (i : Int)) fm h1 (by omega) (by omega)
          have fa' : ((58 : Int32) * M.1 70 61 + x1).toInt = ((58 * P'.length + i : Nat) : Int) := by rw [fa]; omega
          refine v_X12_undo_70_21 ⟨fun q => by exfalso; omega, fun _ => ⟨by omega, by omega, ?_⟩⟩
          rw [d_cn h1, d_cn fa', hk 111 (by decide) (by decide)]
          refine ih (i + 1) _ _ (by omega) (d_inc h1 (by omega)) (fun k q1 q2 => by rw [dSet_k q2]; exact hk k q1 q2) (fun j q => by rw [dSet_k (by decide)]; exact hj j q) (by rw [dSet_k (by decide)]; exact h61) (fun j hj' => ?_)
          by_cases e : j = i
          · subst e; rw [dSet_s]
          · rw [dSet_j e]; exact hv j (by omega)
      exact loop 58 0 _ _ rfl (by decide) (fun k q _ => dSet_k q) (fun j q => dSet_j q) (by rw [dSet_s]; exact f') (fun j hj' => absurd hj' (Nat.not_lt_zero j))
  · have e : P = [] := List.length_eq_zero_iff.mp (by omega)
    subst e
    exact hQ m (RcF.rf m) hK
theorem q_hold {x1 : Int32} {Q : Int32 → dM → Prop} (hK : KR H S P L s m) (hQ : ∀ (r : Int32) (m' : dM), RcF m m' → KR H S P (lHold L S x1) s m' → Q r m') : c_X12_hold_70 2 x1 m Q := by
  have z0 : (0 : Int32).toInt = 0 := by decide
  have z2 := ti_2
  refine v_X12_hold_70 (y_in (fun q => ⟨fun _ => ⟨by omega, ?_⟩, fun z => absurd z (by decide)⟩) (fun q => ⟨fun z => absurd rfl z, fun _ => hQ _ m (RcF.rf m) ⟨hK.1, hK.2.1, hK.2.2.1, fun i hi hb => ?_⟩⟩))
  · have hx := toNat_of (x := x1) (by omega)
    generalize x1.toNatClampNeg = u at *
    have loop : ∀ (t i : Nat) (x2 : Int32) (M : dM), i + t = 58 → x2.toInt = (i : Int) → (∀ k : Nat, k ≠ 115 → k ≠ 116 → M.1 k = m.1 k) → (∀ j : Nat, j ≠ u → M.1 115 j = m.1 115 j) → (∀ j : Nat, j < i → M.1 116 (58 * u + j) = m.1 107 j) → (∀ j : Nat, (j < 58 * u ∨ 58 * u + 58 ≤ j) → M.1 116 j = m.1 116 j) → j_X12_hold_70_20 2 x1 x2 M Q := by
      intro t
      induction t with
      | zero =>
        intro i x2 M hi h2 hk h115 hv ho
        refine v_X12_hold_70_20 ⟨fun _ => hQ _ M (fun k q => hk k (by omega) (by omega)) ⟨⟨hK.1.1, hK.1.2.of (fun k a b => hk k (by omega) (by omega)) (by rw [hk 70 (by decide) (by decide)])⟩, hK.2.1.of (hk 107 (by decide) (by decide)), hK.2.2.1.of (by rw [hk 70 (by decide) (by decide)]) (hk 111 (by decide) (by decide)), fun i' hi' hb => ?_⟩, fun q => by exfalso; omega⟩
        unfold lHold
        by_cases e : i' = u
        · subst e
          rw [if_pos ⟨by omega, hx⟩]
          exact hK.2.1.f.of hK.1.1 (fun j hj' => hv j (by omega))
        · rw [if_neg (by omega)]
          rw [h115 i' e] at hb
          refine (hK.2.2.2 i' hi' hb).of hK.1.1 (fun j hj' => ho _ ?_)
          omega
      | succ t ih =>
        intro i x2 M hi h2 hk h115 hv ho
        have fm := dMulE (X := 58) (Y := (u : Int)) (x := (58 : Int32)) (y := x1) (by decide) hx (by omega) (by omega)
        have fa := dAddE (X := 58 * (u : Int)) (Y := (i : Int)) fm h2 (by omega) (by omega)
        have fa' : ((58 : Int32) * x1 + x2).toInt = ((58 * u + i : Nat) : Int) := by rw [fa]; omega
        refine v_X12_hold_70_20 ⟨fun q => by exfalso; omega, fun _ => ⟨by omega, by omega, ?_⟩⟩
        rw [d_cn h2, d_cn fa', hk 107 (by decide) (by decide)]
        refine ih (i + 1) _ _ (by omega) (d_inc h2 (by omega)) (fun k q1 q2 => by rw [dSet_k q2]; exact hk k q1 q2) (fun j q => by rw [dSet_k (by decide)]; exact h115 j q) (fun j hj' => ?_) (fun j hj' => ?_)
        · by_cases e : j = i
          · subst e; rw [dSet_s]
          · rw [dSet_j (by omega)]; exact hv j (by omega)
        · rw [dSet_j (by omega)]; exact ho j hj'
    exact loop 58 0 _ _ rfl (by decide) (fun k q1 _ => dSet_k q1) (fun j q => dSet_j q) (fun j hj' => absurd hj' (Nat.not_lt_zero j)) (fun j _ => by rw [dSet_k (by decide)])
  · unfold lHold
    rw [if_neg (by omega)]
    exact hK.2.2.2 i hi hb
theorem q_restore {x1 : Int32} {held : Bool} {Q : Int32 → dM → Prop} (hK : KR H S P L s m) (hh : (0 ≤ x1.toInt ∧ x1.toInt < 3) → ((m.1 115 x1.toNatClampNeg).toInt ≠ 0 ↔ held = true)) (hQ : ∀ (r : Int32) (m' : dM), RcF m m' → KR H (aRes S P L x1 held).1 (aRes S P L x1 held).2 L s m' → Q r m') : c_X12_restore_70 2 x1 m Q := by
  have z0 : (0 : Int32).toInt = 0 := by decide
  have z2 := ti_2
  unfold aRes at hQ
  have no : ¬ ((0 ≤ x1.toInt ∧ x1.toInt < 3) ∧ held = true) → j_X12_restore_70_18 2 m Q := fun q => by
    rw [if_neg q] at hQ
    exact v_X12_restore_70_18 (hQ _ m (RcF.rf m) hK)
  refine v_X12_restore_70 (y_in (fun q => ⟨fun z => absurd z (by decide), fun _ => ⟨by omega, fun ne => ?_, fun ee => no (fun w => (hh w.1).mpr w.2 ee)⟩⟩) (fun q => ⟨fun _ => no (fun w => by omega), fun z => absurd rfl z⟩))
  have hb3 : 0 ≤ x1.toInt ∧ x1.toInt < 3 := by omega
  rw [if_pos ⟨hb3, (hh hb3).mp ne⟩] at hQ
  have hx := toNat_of hb3.1
  have hT := hK.2.2.2 x1.toNatClampNeg (by omega) ne
  generalize x1.toNatClampNeg = u at *
  have loop : ∀ (t i : Nat) (x2 : Int32) (M : dM), i + t = 58 → x2.toInt = (i : Int) → (∀ k : Nat, k ≠ 107 → M.1 k = m.1 k) → (∀ j : Nat, j < i → M.1 107 j = m.1 116 (58 * u + j)) → j_X12_restore_70_22 2 x1 x2 M Q := by
    intro t
    induction t with
    | zero =>
      intro i x2 M hi h2 hk hv
      refine v_X12_restore_70_22 ⟨fun _ => hQ _ _ (fun k q => by rw [dSet_k (by omega)]; exact hk k (by omega)) ⟨⟨hK.1.1, hK.1.2.of (fun k a b => by rw [dSet_k (by omega)]; exact hk k (by omega)) (by rw [dSet_j (by decide), hk 70 (by decide)])⟩, ?_, ⟨by rw [dSet_s]; rfl, Nat.zero_le _, fun k U hU => by cases hU⟩, hK.2.2.2.of (by rw [dSet_k (by decide)]; exact hk 115 (by decide)) (by rw [dSet_k (by decide)]; exact hk 116 (by decide))⟩, fun q => by exfalso; omega⟩
      have : RZ H 107 M (L u) := (hT.of hK.1.1 (fun j hj' => hv j (by omega))).z
      exact this.of (dSet_k (by decide))
    | succ t ih =>
      intro i x2 M hi h2 hk hv
      have fm := dMulE (X := 58) (Y := (u : Int)) (x := (58 : Int32)) (y := x1) (by decide) hx (by omega) (by omega)
      have fa := dAddE (X := 58 * (u : Int)) (Y := (i : Int)) fm h2 (by omega) (by omega)
      have fa' : ((58 : Int32) * x1 + x2).toInt = ((58 * u + i : Nat) : Int) := by rw [fa]; omega
      refine v_X12_restore_70_22 ⟨fun q => by exfalso; omega, fun _ => ⟨by omega, by omega, ?_⟩⟩
      rw [d_cn h2, d_cn fa', hk 116 (by decide)]
      refine ih (i + 1) _ _ (by omega) (d_inc h2 (by omega)) (fun k q => by rw [dSet_k q]; exact hk k q) (fun j hj' => ?_)
      by_cases e : j = i
      · subst e; rw [dSet_s]
      · rw [dSet_j e]; exact hv j (by omega)
  exact loop 58 0 _ m rfl (by decide) (fun _ _ => rfl) (fun j hj' => absurd hj' (Nat.not_lt_zero j))
end RCM
end
section
/-! THE CLASS: questions leave how it stands -/
section CKE
variable {H : Ho} {S : Zt} {P : List Zt} {L : Nat → Zt} {m : dM}
theorem k_has {x0 x1 : Int32} {Q : Int32 → dM → Prop} (hQ : ∀ r : Int32, r = 0 ∨ r = 1 → Q r m) : c_X11_has 1 x0 x1 m Q := v_X11_has ⟨fun _ => hQ _ (Or.inl rfl), fun _ => hQ _ (Or.inr rfl)⟩
theorem k_count {x : Int32} {Q : Int32 → dM → Prop} (hQ : ∀ r : Int32, Q r m) : c_J6_bitCount 1 x m Q := v_J6_bitCount (hQ _)
theorem k_ends {x : Int32} {w : Nat} {Q : Int32 → dM → Prop} (hx : x.toInt = (w : Int)) (hw : w < 10) (hQ : ∀ r : Int32, Q r m) : c_X3_endsOf_2 1 x m Q := v_X3_endsOf_2 ⟨by omega, by omega, hQ _⟩
theorem k_lit {x : Int32} {Q : Int32 → dM → Prop} (hW : CW H m) (hQ : ∀ r : Int32, Q r m) : c_X3_litWithout_2 2 x m Q := by
  have f7 := hW.1.1
  have w10 := hW.1.2.1
  have e20 := hW.2.1.1.1.1
  have e21 := hW.2.1.1.2.1.1
  have fin : ∀ y : Int32, j_X3_litWithout_2_88 2 y m Q := fun y => v_X3_litWithout_2_88 (hQ y)
  have l15 : ∀ (t : Nat) (x2 x3 : Int32), 0 ≤ x3.toInt → x3.toInt + (t : Int) = 8 → j_X3_litWithout_2_15 2 x x2 x3 m Q := by
    intro t
    induction t with
    | zero => intro x2 x3 h0 h; exact v_X3_litWithout_2_15 ⟨fun _ => fin _, fun q => by exfalso; omega⟩
    | succ t ih =>
      intro x2 x3 h0 h
      have f := dAddE (X := x3.toInt) (Y := 1) (x := x3) (y := (1 : Int32)) rfl (by decide) (by omega) (by omega)
      have l29 : ∀ (u w : Nat) (y x4 x5 : Int32), w + u = hoW H → x5.toInt = (w : Int) → j_X3_litWithout_2_29 2 x y x3 x4 x5 m Q := by
        intro u
        induction u with
        | zero => intro w y x4 x5 hw h5; exact v_X3_litWithout_2_29 ⟨fun _ => ⟨fun _ => ih y _ (by omega) (by omega), fun _ => fin _⟩, fun q => by exfalso; omega⟩
        | succ u ih2 =>
          intro w y x4 x5 hw h5
          have on : ∀ z : Int32, j_X3_litWithout_2_67 2 x z x3 x4 x5 m Q := fun z => v_X3_litWithout_2_67 (ih2 (w + 1) z x4 _ (by omega) (d_inc h5 (by omega)))
          exact v_X3_litWithout_2_29 ⟨fun q => by exfalso; omega, fun _ => k_ends h5 (by omega) (fun r1 => k_has (fun r2 _ => ⟨fun _ => on _, fun _ => ⟨fun _ => on _, fun _ => on _⟩⟩))⟩
      exact v_X3_litWithout_2_15 ⟨fun _ => fin _, fun _ => l29 (hoW H) 0 _ _ _ (by omega) (by decide)⟩
  have e1 : (1 : Int32).toInt = 1 := by decide
  exact v_X3_litWithout_2 ⟨fun _ => l15 7 _ _ (by omega) (by omega), fun _ => l15 7 _ _ (by omega) (by omega)⟩
/-- behind a question -/
theorem KC.t62 {m' : dM} (h : KC H S P L m) (hF : TyF 62 m m') (hW : CW H m') : KC H S P L m' := ⟨hW, h.2.1.of (fun k a b => hF.1 k (by omega) (by omega) (by omega) (by omega)), h.2.2.1.of (by rw [hF.1 51 (by decide) (by decide) (by decide) (by decide)]) (by rw [hF.1 51 (by decide) (by decide) (by decide) (by decide)]) (hF.1 52 (by decide) (by decide) (by decide) (by decide)), h.2.2.2.of (by rw [hF.1 51 (by decide) (by decide) (by decide) (by decide)]) (hF.1 53 (by decide) (by decide) (by decide) (by decide))⟩
theorem KC.s61 {k j : Nat} {v : Int32} (h : KC H S P L m) (hk : k = 61 ∨ k = 66) : KC H S P L (dSet m k j v) := ⟨⟨h.1.1, h.1.2.1.of (fun i a b _ => dSet_k (by omega)), h.1.2.2.of (fun i a b => dSet_k (by omega))⟩, h.2.1.of (fun i a b => dSet_k (by omega)), h.2.2.1.of (by rw [dSet_k (by omega)]) (by rw [dSet_k (by omega)]) (dSet_k (by omega)), h.2.2.2.of (by rw [dSet_k (by omega)]) (dSet_k (by omega))⟩
/-- a question's answer, whatever it is, and what it leaves -/
def QC (H : Ho) (S : Zt) (P : List Zt) (L : Nat → Zt) (m m' : dM) : Prop := CcF m m' ∧ KC H S P L m'
theorem QC.rf (h : KC H S P L m) : QC H S P L m m := ⟨CcF.rf m, h⟩
theorem QC.sc {a b : dM} (h : QC H S P L m a) (hF : ScF a b) (hW : CW H b) : QC H S P L m b := ⟨h.1.tr hF.cc, h.2.sc hF hW⟩
theorem QC.va {a b : dM} (h : QC H S P L m a) (hF : VaF a b) : QC H S P L m b := ⟨h.1.tr hF.sf.cc, h.2.va hF⟩
theorem QC.t62 {a b : dM} (h : QC H S P L m a) (hF : TyF 62 a b) (hW : CW H b) : QC H S P L m b := ⟨h.1.tr (hF.cc (Or.inr rfl)), h.2.t62 hF hW⟩
theorem QC.s61 {a : dM} {k j : Nat} {v : Int32} (h : QC H S P L m a) (hk : k = 61 ∨ k = 66) : QC H S P L m (dSet a k j v) := ⟨h.1.set (by omega), h.2.s61 hk⟩
theorem k_ways {Q : dM → Prop} {M : dM} (hq : QC H S P L m M) (hO : zOk H S) (hQ : ∀ m' : dM, QC H S P L m m' → LA H (szG S) m' → Q m') : c_X0_waysNow_54_47 3 M Q := by
  refine v_X0_waysNow_54_47 ?_
  rw [hq.2.2.1.1.2.2.2.1]
  exact y_lays hq.2.1 (hO.g1 hq.2.1.1) (fun M1 f1 w1 l1 => hQ M1 (hq.sc f1.sf w1) l1)
theorem k_usesNow {Q : Int32 → dM → Prop} {M : dM} (hq : QC H S P L m M) (hO : zOk H S) (hQ : ∀ m' : dM, QC H S P L m m' → LA H (szG S) m' → Q (onA H S (hod (szH S))) m') : c_X0_usesNow_54_47 4 M Q := by
  refine v_X0_usesNow_54_47 (v_X7_hourOfDay_47 ?_)
  rw [hq.2.2.1.1.1]
  exact y_usesAt47 hq.2.1 hq.2.2.1 (hO.g1 hq.2.1.1) (fun M1 f1 w1 l1 => hQ M1 (hq.sc f1.sf w1) l1)
/-- the amps of a flat's uses that are on -/
def amf (H : Ho) (on : Int32) (f : Nat) : Nat → Int32
  | 0 => 0
  | u + 1 => amf H on f u + cond (bt on u && decide (hoH H u = f)) (hoM H u) 0
theorem k_amps {x1 x2 : Int32} {f : Nat} {Q : Int32 → dM → Prop} {M : dM} (hW : CW H M) (hx : x2.toInt = (f : Int)) (hQ : Q (amf H x1 f (hoU H)) M) : c_X0_ampsOf_54 2 x1 x2 M Q := by
  have e22 := hW.2.1.2.1
  have u8 := hW.1.2.2.1
  have loop : ∀ (t u : Nat) (x3 x4 : Int32), u + t = hoU H → x4.toInt = (u : Int) → x3 = amf H x1 f u → j_X0_ampsOf_54_5 2 x1 x2 x3 x4 M Q := by
    intro t
    induction t with
    | zero =>
      intro u x3 x4 hu h4 h3
      refine v_X0_ampsOf_54_5 ⟨fun _ => ?_, fun q => by exfalso; omega⟩
      rw [h3, show u = hoU H by omega]
      exact hQ
    | succ t ih =>
      intro u x3 x4 hu h4 h3
      obtain ⟨b1', b2', b3', b4'⟩ := hW.2.1.2.2.2.2.1 u (by omega)
      have se : amf H x1 f (u + 1) = amf H x1 f u + cond (bt x1 u && decide (hoH H u = f)) (hoM H u) 0 := rfl
      refine v_X0_ampsOf_54_5 ⟨fun q => by exfalso; omega, fun _ => y_has h4 (by omega) (fun g => ⟨fun z => absurd z (by decide), fun _ => ⟨by omega, ?_⟩⟩) (fun g => ⟨fun _ => ih (u + 1) _ _ (by omega) (d_inc h4 (by omega)) ?_, fun z => absurd rfl z⟩)⟩
      · rw [d_cn h4, b1', b2']
        refine ⟨fun ne => ih (u + 1) _ _ (by omega) (d_inc h4 (by omega)) ?_, fun ee => ⟨by omega, ih (u + 1) _ _ (by omega) (d_inc h4 (by omega)) ?_⟩⟩
        · rw [se, g, decide_eq_false (by omega), Bool.and_false, cond_false, h3]
        · rw [se, g, decide_eq_true (by omega), h3]
          rfl
      · rw [se, g, Bool.false_and, cond_false, h3]
  exact v_X0_ampsOf_54 (loop (hoU H) 0 _ _ (by omega) (by decide) rfl)
theorem k_flat {x1 x2 : Int32} {Q : Int32 → dM → Prop} (hK : KC H S P L m) (hO : zOk H S) (hQ : ∀ (r : Int32) (m' : dM), QC H S P L m m' → Q r m') : c_X11_flat_0 6 x1 x2 m Q := by
  have q0 := QC.rf hK
  have f7 := hK.1.1.1
  refine v_X11_flat_0 (Wp.deep (y_isFlatc hK.1 (fun hu => ⟨fun _ => ?_, fun z => absurd z (by decide)⟩) (fun hu => ⟨fun z => absurd rfl z, fun _ => hQ _ m q0⟩)) (Nat.le_of_ble_eq_true rfl))
  have hx := toNat_of hu.1
  refine Wp.deep (k_ways q0 hO (fun M q1 l1 => ?_)) (Nat.le_of_ble_eq_true rfl)
  refine ⟨fun _ => ⟨by omega, hQ _ M q1⟩, fun _ => Wp.deep (k_has (fun r _ => ⟨fun _ => hQ _ M q1, fun _ => hQ _ M q1⟩)) (Nat.le_of_ble_eq_true rfl), fun _ => ⟨by omega, hQ _ M q1⟩, fun _ => Wp.deep (k_has (fun r _ => ⟨fun _ => hQ _ M q1, fun _ => ⟨by omega, hQ _ M q1⟩⟩)) (Nat.le_of_ble_eq_true rfl), fun _ => Wp.deep (y_quarrel47 q1.2.1 q1.2.2.1 hx (by omega) (fun M2 f2 => hQ _ M2 (q1.va f2))) (Nat.le_of_ble_eq_true rfl), fun _ => Wp.deep (k_usesNow q1 hO (fun M2 q2 l2 => Wp.deep (k_amps q2.2.1 hx (hQ _ M2 q2)) (Nat.le_of_ble_eq_true rfl))) (Nat.le_of_ble_eq_true rfl), fun _ => hQ _ M q1⟩
theorem k_load {x : Int32} {w : Nat} {Q : Int32 → dM → Prop} (hK : KC H S P L m) (hO : zOk H S) (hx : x.toInt = (w : Int)) (hw : w < hoW H) (hQ : ∀ m' : dM, QC H S P L m m' → Q (lod H (szG S) (onA H S (hod (szH S))) w) m') : c_X0_loadNow_54_47 5 x m Q := by
  have w10 := hK.1.1.2.1
  refine v_X0_loadNow_54_47 (k_usesNow (QC.rf hK) hO (fun M q1 l1 => Wp.deep (y_putOn47 q1.2.1 q1.2.2.1 (hO.g1 hK.1.1) (fun M2 f2 w2 l2 d2 => ?_)) (Nat.le_of_ble_eq_true rfl)))
  rw [d_cn hx, d2 w hw]
  exact ⟨by omega, hQ M2 (q1.sc f2 w2)⟩
theorem k_goingWith {on : Int32} {Q : Int32 → dM → Prop} {M : dM} (hq : QC H S P L m M) (hO : zOk H S) (hQ : ∀ m' : dM, QC H S P L m m' → Q (gng H S on (hod (szH S)) 0) m') : c_X0_goingWith_54_47 5 on M Q := by
  refine v_X0_goingWith_54_47 (Wp.deep (y_putOn47 hq.2.1 hq.2.2.1 (hO.g1 hq.2.1.1) (fun M2 f2 w2 l2 d2 => v_X7_hourOfDay_47 ?_)) (Nat.le_of_ble_eq_true rfl))
  have q2 := hq.sc f2 w2
  rw [q2.2.2.1.1.1]
  exact y_going47 w2 q2.2.2.1 d2 (fun M3 f3 => hQ M3 (q2.va f3))
theorem k_wire {x1 x2 : Int32} {Q : Int32 → dM → Prop} (hK : KC H S P L m) (hO : zOk H S) (hQ : ∀ (r : Int32) (m' : dM), QC H S P L m m' → Q r m') : c_X11_wire_0 7 x1 x2 m Q := by
  have q0 := QC.rf hK
  have w10 := hK.1.1.2.1
  refine v_X11_wire_0 (Wp.deep (y_isWirec hK.1 (fun hu => ⟨fun _ => ?_, fun z => absurd z (by decide)⟩) (fun hu => ⟨fun z => absurd rfl z, fun _ => hQ _ m q0⟩)) (Nat.le_of_ble_eq_true rfl))
  have hx := toNat_of hu.1
  exact ⟨fun _ => ⟨by omega, hQ _ m q0⟩, fun _ => ⟨by omega, hQ _ m q0⟩, fun _ => ⟨by omega, hQ _ m q0⟩, fun _ => Wp.deep (k_has (fun r _ => ⟨fun _ => hQ _ m q0, fun _ => hQ _ m q0⟩)) (Nat.le_of_ble_eq_true rfl), fun _ => ⟨by omega, hQ _ m q0⟩, fun _ => Wp.deep (k_has (fun r _ => ⟨fun _ => hQ _ m q0, fun _ => hQ _ m q0⟩)) (Nat.le_of_ble_eq_true rfl), fun _ => Wp.deep (k_load hK hO hx (by omega) (fun M q1 => hQ _ M q1)) (Nat.le_of_ble_eq_true rfl), fun _ => Wp.deep (y_cost47 hK.1 hK.2.1 hx (by omega) (fun M f => hQ _ M (q0.va f))) (Nat.le_of_ble_eq_true rfl), fun _ => v_X0_goingNow_54_47 (Wp.deep (k_usesNow q0 hO (fun M q1 _ => k_goingWith q1 hO (fun M2 q2 => Wp.deep (k_has (fun r _ => ⟨fun _ => hQ _ M2 q2, fun _ => hQ _ M2 q2⟩)) (Nat.le_of_ble_eq_true rfl)))) (Nat.le_of_ble_eq_true rfl)), fun _ => hQ _ m q0⟩
theorem k_use {x1 x2 : Int32} {Q : Int32 → dM → Prop} (hK : KC H S P L m) (hO : zOk H S) (hQ : ∀ (r : Int32) (m' : dM), QC H S P L m m' → Q r m') : c_X11_use_0 5 x1 x2 m Q := by
  have q0 := QC.rf hK
  have u8 := hK.1.1.2.2.1
  refine v_X11_use_0 (Wp.deep (y_isUsec hK.1 (fun hu => ⟨fun _ => ?_, fun z => absurd z (by decide)⟩) (fun hu => ⟨fun z => absurd rfl z, fun _ => hQ _ m q0⟩)) (Nat.le_of_ble_eq_true rfl))
  have hx := toNat_of hu.1
  refine k_usesNow q0 hO (fun M q1 _ => Wp.deep (k_has (fun r _ => ?_)) (Nat.le_of_ble_eq_true rfl))
  exact ⟨fun _ => ⟨by omega, hQ _ M q1⟩, fun _ => ⟨by omega, hQ _ M q1⟩, fun _ => ⟨by omega, hQ _ M q1⟩, fun _ => ⟨by omega, hQ _ M q1⟩, fun _ => Wp.deep (k_has (fun r _ => ⟨fun _ => hQ _ M q1, fun _ => hQ _ M q1⟩)) (Nat.le_of_ble_eq_true rfl), fun _ => ⟨fun _ => hQ _ M q1, fun _ => hQ _ M q1⟩, fun _ => ⟨fun _ => hQ _ M q1, fun _ => y_pay47 q1.2.1 q1.2.2.1 hx (by omega) (fun M2 f2 => hQ _ M2 (q1.va f2))⟩, fun _ => hQ _ M q1⟩
theorem k_whole {Q : Int32 → dM → Prop} (hK : KC H S P L m) (hQ : ∀ r : Int32, Q r m) : c_X11_wholeRatings_0 2 m Q := by
  have w10 := hK.1.1.2.1
  have e21 := hK.1.2.1.1.2.1.1
  have loop : ∀ (t w : Nat) (x1 x2 : Int32), w + t = hoW H → x2.toInt = (w : Int) → j_X11_wholeRatings_0_4 2 x1 x2 m Q := by
    intro t
    induction t with
    | zero => intro w x1 x2 hw h2; exact v_X11_wholeRatings_0_4 ⟨fun _ => hQ _, fun q => by exfalso; omega⟩
    | succ t ih => intro w x1 x2 hw h2; exact v_X11_wholeRatings_0_4 ⟨fun q => by exfalso; omega, fun _ => k_has (fun r _ => ⟨fun _ => ⟨by omega, ih (w + 1) _ _ (by omega) (d_inc h2 (by omega))⟩, fun _ => ih (w + 1) _ _ (by omega) (d_inc h2 (by omega))⟩)⟩
  exact v_X11_wholeRatings_0 (loop (hoW H) 0 _ _ (by omega) (by decide))
theorem k_cnt {x1 : Int32} {Q : Int32 → dM → Prop} (hK : KC H S P L m) (hO : zOk H S) (hQ : ∀ (r : Int32) (m' : dM), QC H S P L m m' → Q r m') : c_X11_count_0 5 x1 m Q := by
  have q0 := QC.rf hK
  refine v_X11_count_0 ⟨fun _ => hQ _ m q0, fun _ => hQ _ m q0, fun _ => hQ _ m q0, fun _ => hQ _ m q0, fun _ => hQ _ m q0, fun _ => hQ _ m q0, fun _ => hQ _ m q0, fun _ => Wp.deep (k_lit hK.1 (fun r => hQ r m q0)) (Nat.le_of_ble_eq_true rfl), fun _ => k_usesNow q0 hO (fun M q1 _ => hQ _ M q1), fun _ => hQ _ m q0, fun _ => hQ _ m q0, fun _ => hQ _ m q0, fun _ => Wp.deep (k_count (fun r => hQ r m q0)) (Nat.le_of_ble_eq_true rfl), fun _ => ?_, fun _ => hQ _ m q0, fun _ => Wp.deep (k_whole hK (fun r => hQ r m q0)) (Nat.le_of_ble_eq_true rfl), fun _ => hQ _ m q0⟩
  exact v_X0_isSurge_54 (v_X0_lot (v_X0_stirred (v_X0_stirred ⟨fun q => absurd q (by decide), fun _ => ⟨by decide, ⟨fun _ => ⟨fun _ => hQ _ m q0, fun _ => hQ _ m q0⟩, fun _ => ⟨fun _ => hQ _ m q0, fun _ => hQ _ m q0⟩⟩⟩⟩)))
theorem k_share {x1 x2 : Int32} {Q : Int32 → dM → Prop} (hK : KC H S P L m) (hO : zOk H S) (hQ : ∀ (r : Int32) (m' : dM), QC H S P L m m' → Q r m') : c_X11_share_0 5 x1 x2 m Q := by
  have q0 := QC.rf hK
  have f7 := hK.1.1.1
  have no : j_X11_share_0_16 5 m Q := v_X11_share_0_16 (hQ _ m q0)
  refine v_X11_share_0 (Wp.deep (y_isFlatc hK.1 (fun hu => ⟨fun z => absurd z (by decide), fun _ => ?_⟩) (fun hu => ⟨fun _ => no, fun z => absurd rfl z⟩)) (Nat.le_of_ble_eq_true rfl))
  have hx := toNat_of hu.1
  refine Wp.deep (y_isWirec hK.1 (fun hw => ⟨fun _ => ?_, fun z => absurd z (by decide)⟩) (fun hw => ⟨fun z => absurd rfl z, fun _ => no⟩)) (Nat.le_of_ble_eq_true rfl)
  refine Wp.deep (k_ways q0 hO (fun M q1 l1 => ⟨by omega, ?_⟩)) (Nat.le_of_ble_eq_true rfl)
  exact Wp.deep (k_has (fun r _ => ⟨fun _ => hQ _ M q1, fun _ => k_usesNow q1 hO (fun M2 q2 l2 => Wp.deep (k_amps q2.2.1 hx (hQ _ M2 q2)) (Nat.le_of_ble_eq_true rfl))⟩)) (Nat.le_of_ble_eq_true rfl)
theorem k_without {x1 : Int32} {Q : Int32 → dM → Prop} (hK : KC H S P L m) (hQ : ∀ (r : Int32) (m' : dM), QC H S P L m m' → Q r m') : c_X11_without_0 3 x1 m Q := by
  have q0 := QC.rf hK
  exact v_X11_without_0 (Wp.deep (y_isWirec hK.1 (fun hu => ⟨fun z => absurd z (by decide), fun _ => v_X3_allFlats_2 (k_lit hK.1 (fun r => hQ _ m q0))⟩) (fun hu => ⟨fun _ => hQ _ m q0, fun z => absurd rfl z⟩)) (Nat.le_of_ble_eq_true rfl))
theorem k_needed {Q : Int32 → dM → Prop} (hK : KC H S P L m) (hQ : ∀ (r : Int32) (m' : dM), QC H S P L m m' → Q r m') : c_X11_needed_0 3 m Q := by
  have q0 := QC.rf hK
  have w10 := hK.1.1.2.1
  have e21 := hK.1.2.1.1.2.1.1
  have loop : ∀ (t w : Nat) (x1 x2 x3 : Int32), w + t = hoW H → x3.toInt = (w : Int) → j_X11_needed_0_19 3 x1 x2 x3 m Q := by
    intro t
    induction t with
    | zero => intro w x1 x2 x3 hw h3; exact v_X11_needed_0_19 ⟨fun _ => hQ _ m q0, fun q => by exfalso; omega⟩
    | succ t ih =>
      intro w x1 x2 x3 hw h3
      have on : ∀ y : Int32, j_X11_needed_0_72 3 x1 y x3 m Q := fun y => v_X11_needed_0_72 (ih (w + 1) _ _ _ (by omega) (d_inc h3 (by omega)))
      exact v_X11_needed_0_19 ⟨fun q => by exfalso; omega, fun _ => Wp.deep (k_has (fun r _ => ⟨fun _ => on _, fun _ => k_lit hK.1 (fun r2 => ⟨fun _ => on _, fun _ => on _⟩)⟩)) (Nat.le_of_ble_eq_true rfl)⟩
  exact v_X11_needed_0 (k_lit hK.1 (fun r => loop (hoW H) 0 _ _ _ (by omega) (by decide)))
theorem k_hottest {x1 : Int32} {Q : Int32 → dM → Prop} (hK : KC H S P L m) (hO : zOk H S) (hQ : ∀ (r : Int32) (m' : dM), QC H S P L m m' → Q r m') : c_X11_hottest_0 5 x1 m Q := by
  have q0 := QC.rf hK
  have w10 := hK.1.1.2.1
  have no : j_X11_hottest_0_9 5 m Q := v_X11_hottest_0_9 (hQ _ m q0)
  refine v_X11_hottest_0 ⟨fun _ => no, fun _ => ⟨fun _ => k_usesNow q0 hO (fun M q1 l1 => Wp.deep (y_putOn47 q1.2.1 q1.2.2.1 (hO.g1 hK.1.1) (fun M2 f2 w2 l2 d2 => ?_)) (Nat.le_of_ble_eq_true rfl)), fun _ => no⟩⟩
  have q2 := q1.sc f2 w2
  have e21 := w2.2.1.1.2.1.1
  have loop : ∀ (t w : Nat) (x2 x3 x4 : Int32), w + t = hoW H → x4.toInt = (w : Int) → j_X11_hottest_0_42 5 x1 x2 x3 x4 M2 Q := by
    intro t
    induction t with
    | zero => intro w x2 x3 x4 hw h4; exact v_X11_hottest_0_42 ⟨fun _ => ⟨fun _ => ⟨fun _ => hQ _ M2 q2, fun _ => hQ _ M2 q2⟩, fun _ => hQ _ M2 q2⟩, fun q => by exfalso; omega⟩
    | succ t ih =>
      intro w x2 x3 x4 hw h4
      have on : ∀ y z : Int32, j_X11_hottest_0_109 5 x1 y z x4 M2 Q := fun y z => v_X11_hottest_0_109 (ih (w + 1) _ _ _ (by omega) (d_inc h4 (by omega)))
      have on2 : ∀ y : Int32, j_X11_hottest_0_103 5 x1 x4 y M2 Q := fun y => v_X11_hottest_0_103 (on _ _)
      exact v_X11_hottest_0_42 ⟨fun q => by exfalso; omega, fun _ => ⟨by omega, by omega, Wp.deep (k_has (fun r _ => ⟨fun _ => on _ _, fun _ => ⟨fun _ => on2 _, fun _ => ⟨fun _ => on _ _, fun _ => on2 _⟩⟩⟩)) (Nat.le_of_ble_eq_true rfl)⟩⟩
  exact loop (hoW H) 0 _ _ _ (by omega) (by decide)
theorem k_clash {x1 x2 : Int32} {Q : Int32 → dM → Prop} (hK : KC H S P L m) (hO : zOk H S) (hQ : ∀ (r : Int32) (m' : dM), QC H S P L m m' → Q r m') : c_X11_clash_0 7 x1 x2 m Q := by
  have q0 := QC.rf hK
  have u8 := hK.1.1.2.2.1
  have no : j_X11_clash_0_37 7 m Q := v_X11_clash_0_37 (hQ _ m q0)
  refine v_X11_clash_0 (Wp.deep (y_isUsec hK.1 (fun hu => ⟨fun z => absurd z (by decide), fun _ => Wp.deep (y_isUsec hK.1 (fun hv => ⟨fun z => absurd z (by decide), fun _ => ⟨fun _ => no, fun _ => ?_⟩⟩) (fun hv => ⟨fun _ => no, fun z => absurd rfl z⟩)) (Nat.le_of_ble_eq_true rfl)⟩) (fun hu => ⟨fun _ => no, fun z => absurd rfl z⟩)) (Nat.le_of_ble_eq_true rfl))
  refine v_X1_clashOf_61_47 (Wp.deep (k_ways q0 hO (fun M q1 l1 => ⟨by omega, ?_⟩)) (Nat.le_of_ble_eq_true rfl))
  have no2 : j_X1_clashOf_61_47_47 6 M Q := v_X1_clashOf_61_47_47 (hQ _ M q1)
  exact Wp.deep (k_has (fun r _ => ⟨fun _ => no2, fun _ => ⟨by omega, Wp.deep (k_has (fun r2 _ => ⟨fun _ => k_goingWith q1 hO (fun M2 q2 => k_goingWith q2 hO (fun M3 q3 => k_goingWith q3 hO (fun M4 q4 => Wp.deep (k_count (fun r => hQ _ M4 q4)) (Nat.le_of_ble_eq_true rfl)))), fun _ => no2⟩)) (Nat.le_of_ble_eq_true rfl)⟩⟩)) (Nat.le_of_ble_eq_true rfl)
end CKE
end
section
/-! THE CLASS: questions leave how it stands, 2 -/
section CKF
variable {H : Ho} {S : Zt} {P : List Zt} {L : Nat → Zt} {m : dM}
theorem y_copy62 {Q : dM → Prop} {M : dM} (hq : QC H S P L m M) (hQ : ∀ m' : dM, QC H S P L m m' → CZ 62 m' S → Q m') : c_X7_copy_62_47 1 M Q := by
  obtain ⟨⟨z0, z1, z2, z3, z4, z5⟩, zR, zE, zD⟩ := hq.2.2.1
  refine v_X7_copy_62_47 (hQ _ (hq.t62 ⟨fun k _ _ _ q => by rw [dCpy_k (by omega), dCpy_k (by omega), dCpy_k (by omega), dSet_k (by omega), dSet_k (by omega), dSet_k (by omega), dSet_k (by omega), dSet_k (by omega), dSet_k (by omega)], fun j _ => by rw [dCpy_k (by decide), dCpy_k (by decide), dCpy_k (by decide), dSet_k (by decide), dSet_k (by decide), dSet_k (by decide), dSet_k (by decide), dSet_k (by decide), dSet_k (by decide)], rfl⟩ ⟨hq.2.1.1, hq.2.1.2.1.of (fun k a b _ => by rw [dCpy_k (by omega), dCpy_k (by omega), dCpy_k (by omega), dSet_k (by omega), dSet_k (by omega), dSet_k (by omega), dSet_k (by omega), dSet_k (by omega), dSet_k (by omega)]), hq.2.1.2.2.of (fun k a b => by rw [dCpy_k (by omega), dCpy_k (by omega), dCpy_k (by omega), dSet_k (by omega), dSet_k (by omega), dSet_k (by omega), dSet_k (by omega), dSet_k (by omega), dSet_k (by omega)])⟩) ⟨⟨?_, ?_, ?_, ?_, ?_, ?_⟩, fun j hj => ?_, fun j hj => ?_, fun j hj => ?_⟩)
  · rw [dCpy_k (by decide), dCpy_k (by decide), dCpy_k (by decide), dSet_j (by decide), dSet_j (by decide), dSet_j (by decide), dSet_j (by decide), dSet_j (by decide), dSet_s]; exact z0
  · rw [dCpy_k (by decide), dCpy_k (by decide), dCpy_k (by decide), dSet_j (by decide), dSet_j (by decide), dSet_j (by decide), dSet_j (by decide), dSet_s]; exact z1
  · rw [dCpy_k (by decide), dCpy_k (by decide), dCpy_k (by decide), dSet_j (by decide), dSet_j (by decide), dSet_j (by decide), dSet_s]; exact z2
  · rw [dCpy_k (by decide), dCpy_k (by decide), dCpy_k (by decide), dSet_j (by decide), dSet_j (by decide), dSet_s]; exact z3
  · rw [dCpy_k (by decide), dCpy_k (by decide), dCpy_k (by decide), dSet_j (by decide), dSet_s]; exact z4
  · rw [dCpy_k (by decide), dCpy_k (by decide), dCpy_k (by decide), dSet_s]; exact z5
  · rw [dCpy_k (by decide), dCpy_k (by decide), dCpy_e, if_pos (by simp; omega), dSet_k (by decide), dSet_k (by decide), dSet_k (by decide), dSet_k (by decide), dSet_k (by decide), dSet_k (by decide), show (0 : Int).toNat + (j - (0 : Int).toNat) = j by simp]; exact zR j hj
  · rw [dCpy_k (by decide), dCpy_e, if_pos (by simp; omega), dCpy_k (by decide), dSet_k (by decide), dSet_k (by decide), dSet_k (by decide), dSet_k (by decide), dSet_k (by decide), dSet_k (by decide), show (0 : Int).toNat + (j - (0 : Int).toNat) = j by simp]; exact zE j hj
  · rw [dCpy_e, if_pos (by simp; omega), dCpy_k (by decide), dCpy_k (by decide), dSet_k (by decide), dSet_k (by decide), dSet_k (by decide), dSet_k (by decide), dSet_k (by decide), dSet_k (by decide), show (0 : Int).toNat + (j - (0 : Int).toNat) = j by simp]; exact zD j hj
theorem k_way {x1 x2 : Int32} {Q : Int32 → dM → Prop} (hK : KC H S P L m) (hO : zOk H S) (hQ : ∀ (r : Int32) (m' : dM), QC H S P L m m' → Q r m') : c_X11_way_0 4 x1 x2 m Q := by
  have q0 := QC.rf hK
  have f7 := hK.1.1.1
  have w10 := hK.1.1.2.1
  have no : j_X11_way_0_12 4 m Q := v_X11_way_0_12 (hQ _ m q0)
  refine v_X11_way_0 (Wp.deep (y_isFlatc hK.1 (fun hu => ⟨fun z => absurd z (by decide), fun _ => ⟨fun h2 => ?_, fun _ => no⟩⟩) (fun hu => ⟨fun _ => no, fun z => absurd rfl z⟩)) (Nat.le_of_ble_eq_true rfl))
  have hx := toNat_of hu.1
  refine k_ways q0 hO (fun M q1 l1 => ?_)
  have hl' := l1.lit (f := x1.toNatClampNeg) (by omega) f7
  refine Wp.deep (y_has hx (by omega) (fun g => ⟨fun z => absurd z (by decide), fun _ => ?_⟩) (fun g => ⟨fun _ => hQ _ M q1, fun z => absurd rfl z⟩)) (Nat.le_of_ble_eq_true rfl)
  have no2 : j_X10_wireAt_57_14 3 M Q := v_X10_wireAt_57_14 (hQ _ M q1)
  have hH := q1.2.1.2.1.1
  have loop : ∀ (t i f : Nat) (x3 x4 : Int32), i + t = 7 → x4.toInt = (i : Int) → x3.toInt = (f : Int) → f < hoF H → (x2.toInt < (i : Int) + (wyD H (szG S) f : Int) ∧ i + wyD H (szG S) f ≤ 6) → j_X10_wireAt_57_21 3 x2 x3 x4 M Q := by
    intro t
    induction t with
    | zero =>
      intro i f x3 x4 hi h4 h3 hf hd
      have b := dD_le (nf := hoF H) (nw := hoW H) (e1 := hoA H) (e2 := hoB H) (G := bt (szG S)) (f := f)
      have b : wyD H (szG S) f ≤ 6 ∨ wyD H (szG S) f = 99 := b
      refine v_X10_wireAt_57_21 ⟨fun _ => ⟨by omega, hQ _ M q1⟩, fun q => ?_⟩
      exfalso
      omega
    | succ t ih =>
      intro i f x3 x4 hi h4 h3 hf hd
      have b := dD_le (nf := hoF H) (nw := hoW H) (e1 := hoA H) (e2 := hoB H) (G := bt (szG S)) (f := f)
      have b : wyD H (szG S) f ≤ 6 ∨ wyD H (szG S) f = 99 := b
      refine v_X10_wireAt_57_21 ⟨fun _ => ⟨by omega, hQ _ M q1⟩, fun q => ⟨by omega, ?_⟩⟩
      obtain ⟨n, hn⟩ : ∃ n, wyD H (szG S) f = n + 1 := ⟨wyD H (szG S) f - 1, by omega⟩
      have nk := nx_ok (nf := hoF H) (nw := hoW H) (e1 := hoA H) (e2 := hoB H) (G := bt (szG S)) (n := n) (f := f) (by omega) hn
      have e58 := l1.2.2.2.1 f hf (by show wyD H (szG S) f ≠ 99; omega) (by show wyD H (szG S) f ≠ 0; omega)
      obtain ⟨⟨w1, w2⟩, q1', q2', q3'⟩ := hH.2.2 _ nk.1
      rw [d_cn h3, d_cn e58, w1, h3]
      have dn : wyD H (szG S) (ot (hoA H) (hoB H) (nx (hoF H) (hoW H) (hoA H) (hoB H) (bt (szG S)) f) f) = n := nk.2.2
      refine ⟨by omega, fun ne => ⟨by omega, ih (i + 1) (hoA H (nx (hoF H) (hoW H) (hoA H) (hoB H) (bt (szG S)) f)) _ _ (by omega) (d_inc h4 (by omega)) w1 q1' ?_⟩, fun ee => ⟨by omega, ih (i + 1) (hoB H (nx (hoF H) (hoW H) (hoA H) (hoB H) (bt (szG S)) f)) _ _ (by omega) (d_inc h4 (by omega)) w2 q2' ?_⟩⟩
      · unfold ot at dn
        rw [if_neg (by omega)] at dn
        omega
      · unfold ot at dn
        rw [if_pos (by omega)] at dn
        omega
  have e59 := l1.2.1 x1.toNatClampNeg (by omega)
  have lit : wyD H (szG S) x1.toNatClampNeg ≠ 99 := by
    rw [g] at hl'
    unfold lt at hl'
    exact of_decide_eq_true hl'.symm
  have e59 : (M.1 59 x1.toNatClampNeg).toInt = ewy (wyD H (szG S) x1.toNatClampNeg) := e59
  unfold ewy at e59
  rw [if_neg lit] at e59
  refine v_X10_wireAt_57 ⟨fun _ => no2, fun _ => ⟨by omega, fun q => ?_, fun _ => no2⟩⟩
  have b0 := dD_le (nf := hoF H) (nw := hoW H) (e1 := hoA H) (e2 := hoB H) (G := bt (szG S)) (f := x1.toNatClampNeg)
  have b0 : wyD H (szG S) x1.toNatClampNeg ≤ 6 ∨ wyD H (szG S) x1.toNatClampNeg = 99 := b0
  exact loop 7 0 x1.toNatClampNeg _ _ rfl (by decide) hx (by omega) ⟨by omega, by omega⟩
theorem k_peak {x1 x2 x3 : Int32} {Q : Int32 → dM → Prop} (hK : KC H S P L m) (hO : zOk H S) (hQ : ∀ (r : Int32) (m' : dM), QC H S P L m m' → Q r m') : c_X11_peak_0 7 x1 x2 x3 m Q := by
  have q0 := QC.rf hK
  have w10 := hK.1.1.2.1
  have no : j_X11_peak_0_28 7 m Q := v_X11_peak_0_28 (hQ _ m q0)
  refine v_X11_peak_0 (Wp.deep (y_isWirec hK.1 (fun hu => ⟨fun z => absurd z (by decide), fun _ => ⟨fun _ => no, fun a1 => ⟨fun _ => no, fun a2 => ⟨fun _ => no, fun _ => ⟨fun _ => ?_, fun _ => no⟩⟩⟩⟩⟩) (fun hu => ⟨fun _ => no, fun z => absurd rfl z⟩)) (Nat.le_of_ble_eq_true rfl))
  have go : ∀ y : Int32, c_X1_peakOf_61_47 6 x1 x2 y m (fun r2 m2 => Q r2 m2) := fun y => by
    refine v_X1_peakOf_61_47 (Wp.deep (y_copy62 q0 (fun M q1 z1 => ?_)) (Nat.le_of_ble_eq_true rfl))
    have loop : ∀ (t : Nat) (x5 x6 x7 : Int32) (T : Zt) (M : dM), x7.toInt + (t : Int) = x2.toInt → 0 ≤ x7.toInt → QC H S P L m M → CZ 62 M T → zOk H T → j_X1_peakOf_61_47_17 6 x1 x2 y x5 x6 x7 M Q := by
      intro t
      induction t with
      | zero => intro x5 x6 x7 T M h7 h0 q1 z1 hT; exact v_X1_peakOf_61_47_17 ⟨fun _ => ⟨fun _ => hQ _ M q1, fun _ => hQ _ M q1⟩, fun q => by exfalso; omega⟩
      | succ t ih =>
        intro x5 x6 x7 T M h7 h0 q1 z1 hT
        have f := dAddE (X := x7.toInt) (Y := 1) (x := x7) (y := (1 : Int32)) rfl (by decide) (by omega) (by omega)
        refine v_X1_peakOf_61_47_17 ⟨fun q => by exfalso; omega, fun _ => y_passWires62 q1.2.1 z1 (hT.g1 hK.1.1) (fun M2 f2 w2 z2 _ => ⟨by omega, ?_, ?_⟩)⟩
        · intro _; exact v_X1_peakOf_61_47_65 (ih _ _ _ _ M2 (by omega) (by omega) (q1.t62 f2 w2) z2 (hT.w hK.1.1 _))
        · intro _; exact ⟨by omega, v_X1_peakOf_61_47_65 (ih _ _ _ _ M2 (by omega) (by omega) (q1.t62 f2 w2) z2 (hT.w hK.1.1 _))⟩
    exact loop x2.toNatClampNeg _ _ _ S M (by have := toNat_of (x := x2) (by omega); have := ti_0; omega) (by decide) q1 z1 hO
  exact ⟨fun _ => go _, fun _ => go _⟩
theorem k_tillGone {Q : Int32 → dM → Prop} {T : Zt} {M : dM} (hq : QC H S P L m M) (hZ : CZ 62 M T) (hT : zOk H T) (hQ : ∀ (r : Int32) (m' : dM), QC H S P L m m' → Q r m') : c_X1_trialTillGone_61 6 M Q := by
  have hO := hq.2.1.1
  have loop : ∀ (t : Nat) (x1 : Int32) (T : Zt) (M : dM), x1.toInt + (t : Int) = 201 → 0 ≤ x1.toInt → QC H S P L m M → CZ 62 M T → zOk H T → j_X1_trialTillGone_61_7 6 x1 M Q := by
    intro t
    induction t with
    | zero => intro x1 T M h1 h0 q1 z1 hT; exact v_X1_trialTillGone_61_7 ⟨fun _ => hQ _ M q1, fun q => by exfalso; omega⟩
    | succ t ih =>
      intro x1 T M h1 h0 q1 z1 hT
      have f := dAddE (X := x1.toInt) (Y := 1) (x := x1) (y := (1 : Int32)) rfl (by decide) (by omega) (by omega)
      exact v_X1_trialTillGone_61_7 ⟨fun q => by exfalso; omega, fun _ => y_passWires62 q1.2.1 z1 (hT.g1 hO) (fun M2 f2 w2 z2 _ => ⟨fun _ => ih _ _ _ (by omega) (by omega) ((q1.t62 f2 w2).s61 (Or.inl rfl)) (z2.of (fun k a b => dSet_k (by omega))) (hT.w hO _), fun _ => hQ _ _ ((q1.t62 f2 w2).s61 (Or.inl rfl))⟩)⟩
  exact v_X1_trialTillGone_61 (loop 200 _ T _ (by decide) (by decide) (hq.s61 (Or.inl rfl)) (hZ.of (fun k a b => dSet_k (by omega))) hT)
theorem k_bitAt {x0 x1 : Int32} {Q : Int32 → dM → Prop} {M : dM} (hQ : ∀ r : Int32, Q r M) : c_X11_bitAt 2 x0 x1 M Q := by
  have loop : ∀ (t : Nat) (x2 x3 : Int32), x3.toInt + (t : Int) = 32 → 0 ≤ x3.toInt → j_X11_bitAt_4 2 x0 x1 x2 x3 M Q := by
    intro t
    induction t with
    | zero => intro x2 x3 h3 h0; exact v_X11_bitAt_4 ⟨fun _ => hQ _, fun q => by exfalso; omega⟩
    | succ t ih =>
      intro x2 x3 h3 h0
      have f := dAddE (X := x3.toInt) (Y := 1) (x := x3) (y := (1 : Int32)) rfl (by decide) (by omega) (by omega)
      exact v_X11_bitAt_4 ⟨fun q => by exfalso; omega, fun _ => k_has (fun r _ => ⟨fun _ => v_X11_bitAt_28 (ih _ _ (by omega) (by omega)), fun _ => ⟨fun _ => v_X11_bitAt_28 (ih _ _ (by omega) (by omega)), fun _ => hQ _⟩⟩)⟩
  exact v_X11_bitAt (loop 32 _ _ (by decide) (by decide))
theorem k_first {x1 : Int32} {Q : Int32 → dM → Prop} (hK : KC H S P L m) (hO : zOk H S) (hQ : ∀ (r : Int32) (m' : dM), QC H S P L m m' → Q r m') : c_X11_first_0 8 x1 m Q := by
  have q0 := QC.rf hK
  have no : j_X11_first_0_9 8 m Q := v_X11_first_0_9 (hQ _ m q0)
  exact v_X11_first_0 ⟨fun _ => no, fun _ => ⟨fun _ => v_X1_firstGone_61_47 (Wp.deep (y_copy62 q0 (fun M q1 z1 => k_tillGone q1 z1 hO (fun r M2 q2 => ⟨fun _ => ⟨fun _ => v_X1_firstWire_61 (Wp.deep (k_bitAt (fun r => hQ _ M2 q2)) (Nat.le_of_ble_eq_true rfl)), fun _ => hQ _ M2 q2⟩, fun _ => hQ _ M2 q2⟩))) (Nat.le_of_ble_eq_true rfl)), fun _ => no⟩⟩
theorem k_thick {x1 : Int32} {Q : Int32 → dM → Prop} (hK : KC H S P L m) (hO : zOk H S) (hQ : ∀ (r : Int32) (m' : dM), QC H S P L m m' → Q r m') : c_X11_thick_0 8 x1 m Q := by
  have q0 := QC.rf hK
  have w10 := hK.1.1.2.1
  have no : j_X11_thick_0_11 8 m Q := v_X11_thick_0_11 (hQ _ m q0)
  refine v_X11_thick_0 ⟨fun _ => no, fun k1 => ⟨fun k20 => ?_, fun _ => no⟩⟩
  refine v_X1_bestThicker_61_47 (Wp.deep (y_copy62 q0 (fun M q1 z1 => k_tillGone q1 z1 hO (fun r M2 q2 => ?_))) (Nat.le_of_ble_eq_true rfl))
  have loop : ∀ (t w : Nat) (x3 x4 x5 : Int32) (M : dM), w + t = hoW H → x5.toInt = (w : Int) → QC H S P L m M → j_X1_bestThicker_61_47_20 7 x1 x3 x4 x5 M Q := by
    intro t
    induction t with
    | zero =>
      intro w x3 x4 x5 M hw h5 qM
      have e21 := qM.2.1.2.1.1.2.1.1
      exact v_X1_bestThicker_61_47_20 ⟨fun _ => v_X1_bestThicker_61_47_111 (hQ _ M qM), fun q => by exfalso; omega⟩
    | succ t ih =>
      intro w x3 x4 x5 M hw h5 qM
      have e21 := qM.2.1.2.1.1.2.1.1
      have on : ∀ (y z : Int32) (M1 : dM), QC H S P L m M1 → j_X1_bestThicker_61_47_105 7 x1 y z x5 M1 Q := fun y z M1 q => v_X1_bestThicker_61_47_105 (ih (w + 1) _ _ _ M1 (by omega) (d_inc h5 (by omega)) q)
      refine v_X1_bestThicker_61_47_20 ⟨fun q => by exfalso; omega, fun _ => ⟨fun _ => v_X1_bestThicker_61_47_111 (hQ _ M qM), fun _ => Wp.deep (k_has (fun r _ => ⟨fun _ => on _ _ M qM, fun _ => Wp.deep (y_copy62 qM (fun M3 q3 z3 => ⟨by omega, by omega, ?_⟩)) (Nat.le_of_ble_eq_true rfl)⟩)) (Nat.le_of_ble_eq_true rfl)⟩⟩
      rw [d_cn h5]
      have hT : zOk H (setR S (upd (szR S) w (if M3.1 63 w + x1 < (99 : Int32) then M3.1 63 w + x1 else 99))) := by
        obtain ⟨a, b, c, d, e, f, g⟩ := hO
        refine ⟨a, b, c, d, e, fun j hj => ?_, g⟩
        show 0 ≤ (upd (szR S) w (if M3.1 63 w + x1 < (99 : Int32) then M3.1 63 w + x1 else 99) j).toInt ∧ (upd (szR S) w (if M3.1 63 w + x1 < (99 : Int32) then M3.1 63 w + x1 else 99) j).toInt ≤ 99
        rw [upd_j]
        by_cases q3 : j = w
        · have lti : (M3.1 63 w + x1 < (99 : Int32)) ↔ (M3.1 63 w + x1).toInt < (99 : Int32).toInt := Int32.lt_iff_toInt_lt
          have e9 := ti_99
          have er : M3.1 63 w = szR S w := z3.2.1 w (by omega)
          have fw := f w (by omega)
          have fa := dAddE (X := (M3.1 63 w).toInt) (Y := x1.toInt) (x := M3.1 63 w) (y := x1) rfl rfl (by rw [er]; omega) (by rw [er]; omega)
          rw [er] at fa
          rw [if_pos q3]
          by_cases q : M3.1 63 w + x1 < (99 : Int32)
          · rw [if_pos q]
            have := lti.mp q
            rw [er] at this ⊢
            omega
          · rw [if_neg q]; omega
        · rw [if_neg q3]; exact f j hj
      have q4 : QC H S P L m (dSet M3 63 w (if M3.1 63 w + x1 < (99 : Int32) then M3.1 63 w + x1 else 99)) := q3.t62 ((TyF.rf 62 M3).set (by decide) (Or.inr rfl)) (q3.2.1.ty (n := 62) (by decide) (Or.inr rfl))
      exact k_tillGone q4 z3.r hT (fun r M5 q5 => ⟨fun _ => on _ _ M5 q5, fun _ => on _ _ M5 q5⟩)
  exact loop (hoW H) 0 _ _ _ M2 (by omega) (by decide) q2
theorem y_after {x1 : Int32} {n : Nat} {Q : dM → Prop} {M : dM} (hq : QC H S P L m M) (hO : zOk H S) (hx : x1.toInt = (n : Int)) (hn : n ≤ 72) (hQ : ∀ m' : dM, QC H S P L m m' → CZ 62 m' (itr H n S) → Q m') : c_X1_after_61_47 7 x1 M Q := by
  have loop : ∀ (t i : Nat) (x3 : Int32) (T : Zt) (M : dM), i + t = n → x3.toInt = (i : Int) → QC H S P L m M → CZ 62 M T → zOk H T → itr H t T = itr H n S → j_X1_after_61_47_10 7 x1 x3 M Q := by
    intro t
    induction t with
    | zero =>
      intro i x3 T M hi h3 qM zM hT e
      have e : T = itr H n S := e
      rw [← e] at hQ
      exact v_X1_after_61_47_10 ⟨fun _ => hQ M qM zM, fun q => by exfalso; omega⟩
    | succ t ih =>
      intro i x3 T M hi h3 qM zM hT e
      exact v_X1_after_61_47_10 ⟨fun q => by exfalso; omega, fun _ => y_passHour62 qM.2.1 zM hT (fun M1 f1 w1 z1 => ih (i + 1) _ _ M1 (by omega) (d_inc h3 (by omega)) (qM.t62 f1 w1) z1 (hT.h hq.2.1.1) e)⟩
  exact v_X1_after_61_47 (Wp.deep (y_copy62 hq (fun M1 q1 z1 => loop n 0 _ S M1 (by omega) (by decide) q1 z1 hO rfl)) (Nat.le_of_ble_eq_true rfl))
theorem k_then {x1 x2 : Int32} {Q : Int32 → dM → Prop} (hK : KC H S P L m) (hO : zOk H S) (hQ : ∀ (r : Int32) (m' : dM), QC H S P L m m' → Q r m') : c_X11_then_0 8 x1 x2 m Q := by
  have q0 := QC.rf hK
  have no : j_X11_then_0_19 8 m Q := v_X11_then_0_19 (hQ _ m q0)
  exact v_X11_then_0 ⟨fun _ => no, fun q1 => ⟨fun _ => no, fun q2 => ⟨fun _ => no, fun _ => ⟨fun _ => y_after q0 hO (toNat_of q1) (by have := toNat_of q1; omega) (fun M qM _ => ⟨fun _ => ⟨fun _ => Wp.deep (k_count (fun r => hQ _ M qM)) (Nat.le_of_ble_eq_true rfl), fun _ => hQ _ M qM⟩, fun _ => hQ _ M qM⟩), fun _ => no⟩⟩⟩⟩
theorem k_litIn {x1 x2 : Int32} {Q : Int32 → dM → Prop} (hK : KC H S P L m) (hO : zOk H S) (hQ : ∀ (r : Int32) (m' : dM), QC H S P L m m' → Q r m') : c_X11_litIn_0 8 x1 x2 m Q := by
  have q0 := QC.rf hK
  have no : j_X11_litIn_0_18 8 m Q := v_X11_litIn_0_18 (hQ _ m q0)
  exact v_X11_litIn_0 (Wp.deep (y_isFlatc hK.1 (fun hu => ⟨fun z => absurd z (by decide), fun _ => ⟨fun _ => no, fun q1 => ⟨fun q2 => y_after q0 hO (toNat_of q1) (by have := toNat_of q1; omega) (fun M qM _ => Wp.deep (k_lit qM.2.1 (fun r => Wp.deep (d := 1) (k_has (fun r2 _ => ⟨fun _ => hQ _ M qM, fun _ => hQ _ M qM⟩)) (Nat.le_of_ble_eq_true rfl))) (Nat.le_of_ble_eq_true rfl)), fun _ => no⟩⟩⟩) (fun hu => ⟨fun _ => no, fun z => absurd rfl z⟩)) (Nat.le_of_ble_eq_true rfl))
theorem k_year {x1 x2 : Int32} {Q : Int32 → dM → Prop} (hK : KC H S P L m) (hO : zOk H S) (hQ : ∀ (r : Int32) (m' : dM), QC H S P L m m' → Q r m') : c_X11_year_0 8 x1 x2 m Q := by
  have q0 := QC.rf hK
  have no : j_X11_year_0_21 8 m Q := v_X11_year_0_21 (hQ _ m q0)
  refine v_X11_year_0 ⟨fun _ => no, fun p1 => ⟨fun _ => no, fun p2 => ⟨fun _ => no, fun p3 => ⟨fun p4 => ?_, fun _ => no⟩⟩⟩⟩
  have calm : ∀ (x3 : Int32) (M : dM) (Q' : Int32 → dM → Prop), QC H S P L m M → (∀ (r : Int32) (m' : dM), QC H S P L m m' → Q' r m') → c_X1_isCalm_61_47 6 x1 x3 M Q' := fun x3 M Q' qM hQ' => by
    have loop : ∀ (t : Nat) (x4 : Int32) (T : Zt) (M : dM), x4.toInt + (t : Int) = x1.toInt → 0 ≤ x4.toInt → QC H S P L m M → CZ 62 M T → zOk H T → j_X1_isCalm_61_47_11 6 x1 x3 x4 M Q' := by
      intro t
      induction t with
      | zero => intro x4 T M h4 h0 qM zM hT; exact v_X1_isCalm_61_47_11 ⟨fun _ => hQ' _ M qM, fun q => by exfalso; omega⟩
      | succ t ih =>
        intro x4 T M h4 h0 qM zM hT
        have f := dAddE (X := x4.toInt) (Y := 1) (x := x4) (y := (1 : Int32)) rfl (by decide) (by omega) (by omega)
        exact v_X1_isCalm_61_47_11 ⟨fun q => by exfalso; omega, fun _ => Wp.deep (y_surgeOf qM.2.1.2.1 (y_passWires62 qM.2.1 zM (hT.g1 hK.1.1) (fun M2 f2 w2 z2 _ => ⟨fun _ => ih _ _ M2 (by omega) (by omega) (qM.t62 f2 w2) z2 (hT.w hK.1.1 _), fun _ => hQ' _ M2 (qM.t62 f2 w2)⟩))) (Nat.le_of_ble_eq_true rfl)⟩
    exact v_X1_isCalm_61_47 (Wp.deep (y_copy62 qM (fun M1 q1 z1 => loop x1.toNatClampNeg _ S M1 (by have := toNat_of p1; have := ti_0; omega) (by decide) q1 z1 hO)) (Nat.le_of_ble_eq_true rfl))
  have loop : ∀ (t : Nat) (x4 x5 : Int32) (M : dM), x5.toInt + (t : Int) = x2.toInt → 0 ≤ x5.toInt → QC H S P L m M → j_X1_calmSeeds_61_47_6 7 x1 x2 x4 x5 M Q := by
    intro t
    induction t with
    | zero => intro x4 x5 M h5 h0 qM; exact v_X1_calmSeeds_61_47_6 ⟨fun _ => hQ _ M qM, fun q => by exfalso; omega⟩
    | succ t ih =>
      intro x4 x5 M h5 h0 qM
      have f := dAddE (X := x5.toInt) (Y := 1) (x := x5) (y := (1 : Int32)) rfl (by decide) (by omega) (by omega)
      exact v_X1_calmSeeds_61_47_6 ⟨fun q => by exfalso; omega, fun _ => calm _ M _ qM (fun r M1 q1 => ⟨fun _ => ih _ _ M1 (by omega) (by omega) q1, fun _ => ih _ _ M1 (by omega) (by omega) q1⟩)⟩
  exact v_X1_calmSeeds_61_47 (loop x2.toNatClampNeg _ _ m (by have := toNat_of (x := x2) (by omega); have := ti_0; omega) (by decide) q0)
end CKF
end
section
/-! THE CLASS: questions leave how it stands, 3 -/
section CKG
variable {H : Ho} {S : Zt} {P : List Zt} {L : Nat → Zt} {m : dM}
theorem b1_le {u : Nat} (h : u ≤ 10) : 0 < (b1 u).toInt ∧ (b1 u).toInt ≤ 1024 := by
  match u, h with
  | 0, _ | 1, _ | 2, _ | 3, _ | 4, _ | 5, _ | 6, _ | 7, _ | 8, _ | 9, _ | 10, _ => decide
  | u + 11, h => omega
theorem k_payAll {x1 : Int32} {Q : Int32 → dM → Prop} {M : dM} (hW : CW H M) (hQ : ∀ r : Int32, Q r M) : c_X1_payOfAll_61 2 x1 M Q := by
  have u8 := hW.1.2.2.1
  have e22 := hW.2.1.2.1
  have loop : ∀ (t u : Nat) (x2 x3 : Int32), u + t = hoU H → x3.toInt = (u : Int) → j_X1_payOfAll_61_4 2 x1 x2 x3 M Q := by
    intro t
    induction t with
    | zero => intro u x2 x3 hu h3; exact v_X1_payOfAll_61_4 ⟨fun _ => hQ _, fun q => by exfalso; omega⟩
    | succ t ih => intro u x2 x3 hu h3; exact v_X1_payOfAll_61_4 ⟨fun q => by exfalso; omega, fun _ => k_has (fun r _ => ⟨fun _ => ih (u + 1) _ _ (by omega) (d_inc h3 (by omega)), fun _ => ⟨by omega, ih (u + 1) _ _ (by omega) (d_inc h3 (by omega))⟩⟩)⟩
  exact v_X1_payOfAll_61 (loop (hoU H) 0 _ _ (by omega) (by decide))
theorem k_together {x1 : Int32} {Q : Int32 → dM → Prop} (hK : KC H S P L m) (hO : zOk H S) (hQ : ∀ (r : Int32) (m' : dM), QC H S P L m m' → Q r m') : c_X11_together_0 7 x1 m Q := by
  have q0 := QC.rf hK
  have u8 := hK.1.1.2.2.1
  have no : j_X11_together_0_9 7 m Q := v_X11_together_0_9 (hQ _ m q0)
  refine v_X11_together_0 ⟨fun _ => no, fun _ => ⟨fun _ => ?_, fun _ => no⟩⟩
  have fin : ∀ (r1 : Int32) (M : dM), QC H S P L m M → (x1.toInt ≠ 0 → Q r1 M) ∧ (x1.toInt = 0 → c_X1_payOfAll_61 6 r1 M (fun r2 m2 => Q r2 m2)) := fun r1 M qM => ⟨fun _ => hQ _ M qM, fun _ => Wp.deep (k_payAll qM.2.1 (fun r => hQ _ M qM)) (Nat.le_of_ble_eq_true rfl)⟩
  have l89 : ∀ (t : Nat) (x3 x4 x5 x6 : Int32) (M : dM), x6.toInt + (t : Int) = 1025 → 0 ≤ x6.toInt → QC H S P L m M → j_X1_bestTogether_61_47_89 6 x3 x4 x5 x6 M (fun r1 m1 => (x1.toInt ≠ 0 → Q r1 m1) ∧ (x1.toInt = 0 → c_X1_payOfAll_61 6 r1 m1 (fun r2 m2 => Q r2 m2))) := by
    intro t
    induction t with
    | zero =>
      intro x3 x4 x5 x6 M h6 h0 qM
      have b := b1_le (u := hoU H) (by omega)
      refine v_X1_bestTogether_61_47_89 ?_
      rw [b1_of qM.2.1.2.1.2.1]
      exact ⟨fun _ => fin _ M qM, fun q => by exfalso; omega⟩
    | succ t ih =>
      intro x3 x4 x5 x6 M h6 h0 qM
      have b := b1_le (u := hoU H) (by omega)
      have f := dAddE (X := x6.toInt) (Y := 1) (x := x6) (y := (1 : Int32)) rfl (by decide) (by omega) (by omega)
      have on : ∀ (y z : Int32) (M1 : dM), QC H S P L m M1 → j_X1_bestTogether_61_47_148 6 x3 y z x6 M1 (fun r1 m1 => (x1.toInt ≠ 0 → Q r1 m1) ∧ (x1.toInt = 0 → c_X1_payOfAll_61 6 r1 m1 (fun r2 m2 => Q r2 m2))) := fun y z M1 q1 => v_X1_bestTogether_61_47_148 (ih _ _ _ _ M1 (by omega) (by omega) q1)
      refine v_X1_bestTogether_61_47_89 ?_
      rw [b1_of qM.2.1.2.1.2.1]
      exact ⟨fun _ => fin _ M qM, fun q => ⟨fun _ => on _ _ M qM, fun _ => Wp.deep (k_payAll qM.2.1 (fun r => ⟨fun _ => on _ _ M qM, fun _ => k_goingWith qM hO (fun M2 q2 => ⟨fun _ => on _ _ M2 q2, fun _ => Wp.deep (k_payAll q2.2.1 (fun r => on _ _ M2 q2)) (Nat.le_of_ble_eq_true rfl)⟩)⟩)) (Nat.le_of_ble_eq_true rfl)⟩⟩
  refine v_X1_bestTogether_61_47 (Wp.deep (k_ways q0 hO (fun M q1 l1 => ?_)) (Nat.le_of_ble_eq_true rfl))
  have l17 : ∀ (t u : Nat) (x2 x3 x4 : Int32) (M : dM), u + t = hoU H → x4.toInt = (u : Int) → QC H S P L m M → j_X1_bestTogether_61_47_17 6 x2 x3 x4 M (fun r1 m1 => (x1.toInt ≠ 0 → Q r1 m1) ∧ (x1.toInt = 0 → c_X1_payOfAll_61 6 r1 m1 (fun r2 m2 => Q r2 m2))) := by
    intro t
    induction t with
    | zero =>
      intro u x2 x3 x4 M hu h4 qM
      have e22 := qM.2.1.2.1.2.1
      exact v_X1_bestTogether_61_47_17 ⟨fun _ => l89 1024 _ _ _ _ M (by decide) (by decide) qM, fun q => by exfalso; omega⟩
    | succ t ih =>
      intro u x2 x3 x4 M hu h4 qM
      have e22 := qM.2.1.2.1.2.1
      exact v_X1_bestTogether_61_47_17 ⟨fun q => by exfalso; omega, fun _ => Wp.deep (y_pay47 qM.2.1 qM.2.2.1 h4 (by omega) (fun M2 f2 => ⟨by omega, by omega, Wp.deep (k_has (fun r _ => ⟨fun _ => ih (u + 1) _ _ _ _ (by omega) (d_inc h4 (by omega)) ((qM.va f2).s61 (Or.inr rfl)), fun _ => ih (u + 1) _ _ _ _ (by omega) (d_inc h4 (by omega)) ((qM.va f2).s61 (Or.inr rfl))⟩)) (Nat.le_of_ble_eq_true rfl)⟩)) (Nat.le_of_ble_eq_true rfl)⟩
  exact l17 (hoU H) 0 _ _ _ M (by omega) (by decide) q1
theorem k_when {x1 : Int32} {Q : Int32 → dM → Prop} (hK : KC H S P L m) (hO : zOk H S) (hQ : ∀ (r : Int32) (m' : dM), QC H S P L m m' → Q r m') : c_X11_when_0 6 x1 m Q := by
  have q0 := QC.rf hK
  have u8 := hK.1.1.2.2.1
  refine v_X11_when_0 (Wp.deep (y_isUsec hK.1 (fun hu => ⟨fun z => absurd z (by decide), fun _ => ?_⟩) (fun hu => ⟨fun _ => hQ _ m q0, fun z => absurd rfl z⟩)) (Nat.le_of_ble_eq_true rfl))
  have loop : ∀ (t : Nat) (x3 x4 x5 : Int32) (M : dM), x5.toInt + (t : Int) = 24 → 0 ≤ x5.toInt → QC H S P L m M → j_X1_firstStart_61_47_28 5 x1 x3 x4 x5 M Q := by
    intro t
    induction t with
    | zero => intro x3 x4 x5 M h5 h0 qM; exact v_X1_firstStart_61_47_28 ⟨fun _ => hQ _ M qM, fun q => by exfalso; omega⟩
    | succ t ih =>
      intro x3 x4 x5 M h5 h0 qM
      have f := dAddE (X := x5.toInt) (Y := 1) (x := x5) (y := (1 : Int32)) rfl (by decide) (by omega) (by omega)
      refine v_X1_firstStart_61_47_28 ⟨fun q => by exfalso; omega, fun _ => Wp.deep (y_usesAt47 qM.2.1 qM.2.2.1 (hO.g1 hK.1.1) (fun M1 f1 w1 l1 => ?_)) (Nat.le_of_ble_eq_true rfl)⟩
      have q1 := qM.sc f1.sf w1
      refine Wp.deep (y_putOn47 w1 q1.2.2.1 (hO.g1 hK.1.1) (fun M2 f2 w2 l2 d2 => ?_)) (Nat.le_of_ble_eq_true rfl)
      have q2 := q1.sc f2 w2
      exact y_going47 w2 q2.2.2.1 d2 (fun M3 f3 => ⟨fun _ => ⟨fun _ => ih _ _ _ M3 (by omega) (by omega) (q2.va f3), fun _ => hQ _ M3 (q2.va f3)⟩, fun _ => ⟨fun _ => ih _ _ _ M3 (by omega) (by omega) (q2.va f3), fun _ => hQ _ M3 (q2.va f3)⟩⟩)
  exact v_X1_firstStart_61_47 ⟨by omega, by omega, loop 24 _ _ _ m (by decide) (by decide) q0⟩
theorem k_cutBy : ∀ (s : Nat) (x1 x2 x3 x4 : Int32) (M : dM) (Q : Int32 → dM → Prop), CW H M → x4.toInt ≤ (s : Int) → -10 ≤ x4.toInt → s ≤ 3 → 0 ≤ x3.toInt → x3.toInt ≤ 11 → (∀ r : Int32, Q r M) → c_X1_cutBy_2 (3 + s) x1 x2 x3 x4 M Q := by
  intro s
  induction s with
  | zero =>
    intro x1 x2 x3 x4 M Q hW h4 h4' hs h3 h3' hQ
    exact v_X1_cutBy_2 ⟨fun q => by exfalso; omega, fun _ => k_lit hW (fun r => Wp.deep (d := 1) (k_has (fun r2 _ => ⟨fun _ => hQ _, fun _ => hQ _⟩)) (Nat.le_of_ble_eq_true rfl))⟩
  | succ s ih =>
    intro x1 x2 x3 x4 M Q hW h4 h4' hs h3 h3' hQ
    have w10 := hW.1.2.1
    have e21 := hW.2.1.1.2.1.1
    have fs := dSubE (X := x4.toInt) (Y := 1) (x := x4) (y := (1 : Int32)) rfl (by decide) (by omega) (by omega)
    have loop : 0 < x4.toInt → ∀ (t : Nat) (x5 : Int32), x5.toInt + (t : Int) = 12 → 0 ≤ x5.toInt → j_X1_cutBy_2_26 (3 + (s + 1)) x1 x2 x4 x5 M Q := by
      intro p4 t
      induction t with
      | zero => intro x5 h5 h0; exact v_X1_cutBy_2_26 ⟨fun _ => hQ _, fun q => by exfalso; omega⟩
      | succ t ih2 =>
        intro x5 h5 h0
        have f := dAddE (X := x5.toInt) (Y := 1) (x := x5) (y := (1 : Int32)) rfl (by decide) (by omega) (by omega)
        have on : j_X1_cutBy_2_79 (3 + (s + 1)) x1 x2 x4 x5 M Q := v_X1_cutBy_2_79 (ih2 _ (by omega) (by omega))
        exact v_X1_cutBy_2_26 ⟨fun _ => hQ _, fun q => Wp.deep (d := 1) (d' := 3 + s) (k_has (fun r _ => ⟨fun _ => on, fun _ => ih _ _ _ _ M _ hW (by omega) (by omega) (by omega) (by omega) (by omega) (fun r2 => ⟨fun _ => on, fun _ => hQ _⟩)⟩)) (show 1 ≤ 3 + s by omega)⟩
    refine v_X1_cutBy_2 ⟨fun q => loop q (12 - x3.toInt).toNat _ (by omega) h3, fun _ => Wp.deep (d := 2) (d' := 3 + s) (k_lit hW (fun r => Wp.deep (d := 1) (d' := 3 + s) (k_has (fun r2 _ => ⟨fun _ => hQ _, fun _ => hQ _⟩)) (show 1 ≤ 3 + s by omega))) (show 2 ≤ 3 + s by omega)⟩
theorem k_cut {x1 x2 : Int32} {Q : Int32 → dM → Prop} (hK : KC H S P L m) (hQ : ∀ (r : Int32) (m' : dM), QC H S P L m m' → Q r m') : c_X11_cut_0 8 x1 x2 m Q := by
  have q0 := QC.rf hK
  have no : j_X11_cut_0_18 8 m Q := v_X11_cut_0_18 (hQ _ m q0)
  refine v_X11_cut_0 (Wp.deep (y_isFlatc hK.1 (fun hu => ⟨fun z => absurd z (by decide), fun _ => ⟨fun _ => no, fun _ => ⟨fun _ => ?_, fun _ => no⟩⟩⟩) (fun hu => ⟨fun _ => no, fun z => absurd rfl z⟩)) (Nat.le_of_ble_eq_true rfl))
  have fin : ∀ r2 : Int32, (0 ≤ r2.toInt → (x2.toInt ≠ (-1) → c_X11_bitAt 7 r2 x2 m (fun r3 m3 => Q r3 m3)) ∧ (x2.toInt = (-1) → c_J6_bitCount 7 r2 m (fun r4 m4 => Q r4 m4))) ∧ (r2.toInt < 0 → Q (-2 : Int32) m) := fun r2 => ⟨fun _ => ⟨fun _ => Wp.deep (k_bitAt (fun r => hQ _ m q0)) (Nat.le_of_ble_eq_true rfl), fun _ => Wp.deep (k_count (fun r => hQ _ m q0)) (Nat.le_of_ble_eq_true rfl)⟩, fun _ => hQ _ m q0⟩
  have loop : ∀ (t : Nat) (x3 : Int32), x3.toInt + (t : Int) = 4 → 0 ≤ x3.toInt → j_X1_leastCut_61_47_2 7 x1 x3 m (fun r2 m2 => (0 ≤ r2.toInt → (x2.toInt ≠ (-1) → c_X11_bitAt 7 r2 x2 m2 (fun r3 m3 => Q r3 m3)) ∧ (x2.toInt = (-1) → c_J6_bitCount 7 r2 m2 (fun r4 m4 => Q r4 m4))) ∧ (r2.toInt < 0 → Q (-2 : Int32) m2)) := by
    intro t
    induction t with
    | zero => intro x3 h3 h0; exact v_X1_leastCut_61_47_2 ⟨fun _ => fin _, fun q => by exfalso; omega⟩
    | succ t ih =>
      intro x3 h3 h0
      have f := dAddE (X := x3.toInt) (Y := 1) (x := x3) (y := (1 : Int32)) rfl (by decide) (by omega) (by omega)
      exact v_X1_leastCut_61_47_2 ⟨fun q => by exfalso; omega, fun _ => k_cutBy 3 _ _ _ _ m _ hK.1 (by omega) (by omega) (by omega) (by decide) (by decide) (fun r => ⟨fun _ => ih _ (by omega) (by omega), fun _ => fin _⟩)⟩
  exact v_X1_leastCut_61_47 (loop 4 _ (by decide) (by decide))
theorem k_isSo {x1 x2 : Int32} {Q : Int32 → dM → Prop} {M : dM} (h3 : (M.1 67 3).toInt ≤ 20) (hQ : ∀ r : Int32, Q r M) : c_X9_isSo_67 2 x1 x2 M Q := by
  have loop : ∀ (t : Nat) (x3 : Int32), x3.toInt + (t : Int) = 20 → 0 ≤ x3.toInt → j_X9_isSo_67_2 2 x1 x2 x3 M Q := by
    intro t
    induction t with
    | zero => intro x3 h h0; exact v_X9_isSo_67_2 ⟨fun _ => v_X9_isSo_67_42 (hQ _), fun _ => ⟨fun _ => v_X9_isSo_67_42 (hQ _), fun q => by exfalso; omega⟩⟩
    | succ t ih =>
      intro x3 h h0
      have f := dAddE (X := x3.toInt) (Y := 1) (x := x3) (y := (1 : Int32)) rfl (by decide) (by omega) (by omega)
      exact v_X9_isSo_67_2 ⟨fun _ => v_X9_isSo_67_42 (hQ _), fun _ => ⟨fun _ => v_X9_isSo_67_42 (hQ _), fun q => ⟨by omega, k_has (fun r _ => ⟨by omega, fun _ => ih _ (by omega) (by omega), fun _ => hQ _⟩)⟩⟩⟩
  exact v_X9_isSo_67 (loop 20 _ (by decide) (by decide))
theorem k_susp {x1 x2 : Int32} {Q : Int32 → dM → Prop} {M : dM} (hW : CW H M) (h3 : (M.1 67 3).toInt ≤ 20) (hQ : ∀ r : Int32, Q r M) : c_X9_suspects_67 3 x1 x2 M Q := by
  have w10 := hW.1.2.1
  have e21 := hW.2.1.1.2.1.1
  have loop : ∀ (t w : Nat) (x3 x4 : Int32), w + t = hoW H → x4.toInt = (w : Int) → j_X9_suspects_67_5 3 x1 x2 x3 x4 M Q := by
    intro t
    induction t with
    | zero => intro w x3 x4 hw h4; exact v_X9_suspects_67_5 ⟨fun _ => hQ _, fun q => by exfalso; omega⟩
    | succ t ih =>
      intro w x3 x4 hw h4
      have on : ∀ y : Int32, j_X9_suspects_67_54 3 x1 x2 y x4 M Q := fun y => v_X9_suspects_67_54 (ih (w + 1) _ _ (by omega) (d_inc h4 (by omega)))
      exact v_X9_suspects_67_5 ⟨fun q => by exfalso; omega, fun _ => Wp.deep (k_has (fun r _ => ⟨fun _ => on _, fun _ => k_lit hW (fun r2 => k_isSo h3 (fun r3 => ⟨fun _ => on _, fun _ => on _⟩))⟩)) (Nat.le_of_ble_eq_true rfl)⟩
  exact v_X9_suspects_67 (loop (hoW H) 0 _ _ (by omega) (by decide))
theorem k_went {x1 x2 : Int32} {Q : Int32 → dM → Prop} (hK : KC H S P L m) (h3 : (m.1 67 3).toInt ≤ 20) (hQ : ∀ (r : Int32) (m' : dM), QC H S P L m m' → Q r m') : c_X11_went_0 4 x1 x2 m Q := by
  have q0 := QC.rf hK
  have no : j_X11_went_0_24 4 m Q := v_X11_went_0_24 (hQ _ m q0)
  exact v_X11_went_0 ⟨fun _ => no, fun _ => ⟨fun _ => no, fun _ => ⟨fun _ => no, fun _ => ⟨fun _ => k_susp hK.1 h3 (fun r => ⟨fun _ => hQ _ m q0, fun _ => Wp.deep (k_count (fun r => hQ _ m q0)) (Nat.le_of_ble_eq_true rfl)⟩), fun _ => no⟩⟩⟩⟩
theorem k_worst {x1 x2 x3 : Int32} {Q : Int32 → dM → Prop} {M : dM} (hW : CW H M) (hQ : ∀ r : Int32, Q r M) : c_X9_leftAtWorst_67 3 x1 x2 x3 M Q := by
  have w10 := hW.1.2.1
  have e21 := hW.2.1.1.2.1.1
  have loop : ∀ (t w : Nat) (x4 x5 : Int32), w + t = hoW H → x5.toInt = (w : Int) → j_X9_leftAtWorst_67_6 3 x1 x2 x3 x4 x5 M Q := by
    intro t
    induction t with
    | zero => intro w x4 x5 hw h5; exact v_X9_leftAtWorst_67_6 ⟨fun _ => Wp.deep (k_count (fun r => hQ _)) (Nat.le_of_ble_eq_true rfl), fun q => by exfalso; omega⟩
    | succ t ih =>
      intro w x4 x5 hw h5
      have on : ∀ y : Int32, j_X9_leftAtWorst_67_6 3 x1 x2 x3 y (x5 + (1 : Int32)) M Q := fun y => ih (w + 1) _ _ (by omega) (d_inc h5 (by omega))
      exact v_X9_leftAtWorst_67_6 ⟨fun q => by exfalso; omega, fun _ => Wp.deep (k_has (fun r _ => ⟨fun _ => on _, fun _ => k_lit hW (fun r2 => Wp.deep (d := 1) (k_has (fun r3 _ => ⟨fun _ => on _, fun _ => on _⟩)) (Nat.le_of_ble_eq_true rfl))⟩)) (Nat.le_of_ble_eq_true rfl)⟩
  exact v_X9_leftAtWorst_67 (loop (hoW H) 0 _ _ (by omega) (by decide))
theorem k_ask {x1 : Int32} {Q : Int32 → dM → Prop} (hK : KC H S P L m) (h3 : (m.1 67 3).toInt ≤ 20) (hQ : ∀ (r : Int32) (m' : dM), QC H S P L m m' → Q r m') : c_X11_ask_0 5 x1 m Q := by
  have q0 := QC.rf hK
  have f7 := hK.1.1.1
  have e20 := hK.1.2.1.1.1.1
  have no : j_X11_ask_0_15 5 m Q := v_X11_ask_0_15 (hQ _ m q0)
  refine v_X11_ask_0 ⟨fun _ => no, fun _ => ⟨fun _ => ?_, fun _ => no⟩⟩
  have fin : ∀ y : Int32, j_X9_bestQuestion_67_65 4 y m Q := fun y => v_X9_bestQuestion_67_65 (hQ _ m q0)
  have loop : ∀ (x3 : Int32) (t f : Nat) (x4 x5 x6 : Int32), f + t = hoF H → x6.toInt = (f : Int) → j_X9_bestQuestion_67_18 4 (m.1 47 3) x3 x4 x5 x6 m Q := by
    intro x3 t
    induction t with
    | zero => intro f x4 x5 x6 hf h6; exact v_X9_bestQuestion_67_18 ⟨fun _ => fin _, fun q => by exfalso; omega⟩
    | succ t ih =>
      intro f x4 x5 x6 hf h6
      have on : ∀ y z : Int32, j_X9_bestQuestion_67_59 4 (m.1 47 3) x3 y z x6 m Q := fun y z => v_X9_bestQuestion_67_59 (ih (f + 1) _ _ _ (by omega) (d_inc h6 (by omega)))
      exact v_X9_bestQuestion_67_18 ⟨fun q => by exfalso; omega, fun _ => ⟨fun _ => fin _, fun _ => k_worst hK.1 (fun r => ⟨fun _ => on _ _, fun _ => on _ _⟩)⟩⟩
  exact v_X9_bestQuestion_67 (k_susp hK.1 h3 (fun r => loop _ (hoF H) 0 _ _ _ (by omega) (by decide)))
/-- what a call leaves that changes none of these cells -/
theorem KC.fr {m' : dM} (h : KC H S P L m) (e : ∀ k : Nat, 2 ≤ k → k ≤ 60 → m'.1 k = m.1 k) : KC H S P L m' := ⟨⟨h.1.1, h.1.2.1.of (fun k a b _ => e k (by omega) (by omega)), h.1.2.2.of (fun k a b => e k (by omega) (by omega))⟩, h.2.1.of (fun k a b => e k (by omega) (by omega)), h.2.2.1.of (by rw [e 51 (by omega) (by omega)]) (by rw [e 51 (by omega) (by omega)]) (e 52 (by omega) (by omega)), h.2.2.2.of (by rw [e 51 (by omega) (by omega)]) (e 53 (by omega) (by omega))⟩
end CKG
end
section
/-! THE REFERENCE: questions leave how it stands -/
section RKE
variable {H : Ho} {S : Zt} {P : List Zt} {L : Nat → Zt} {s : Nat} {m : dM}
theorem CY.xa {M M' : dM} (h : CY H S s M) (hF : XaF M M') : CY H S s M' := ⟨h.1.xa hF, h.2.1.xa hF (Or.inr rfl), h.2.2.xa hF⟩
theorem y_onNow {Q : Int32 → dM → Prop} {M : dM} (hC : CY H S s M) (hQ : Q (onA H S (hod (szH S))) M) : c_X12_onNow_70 3 M Q := by
  refine v_X12_onNow_70 ?_
  rw [hC.2.1.1.1]
  exact y_onAt hC.1 hC.2.1 hC.2.2 hQ
theorem y_ampsOn {x : Int32} {f : Nat} {Q : Int32 → dM → Prop} {M : dM} (hC : CY H S s M) (hx : x.toInt = (f : Int)) (hQ : Q (amf H (onA H S (hod (szH S))) f (hoU H)) M) : c_X12_ampsOn_70 4 x M Q := by
  have u8 := hC.1.1.2.2.1
  have a := hC.1.2.1.1
  refine v_X12_ampsOn_70 (y_onNow hC ?_)
  generalize onA H S (hod (szH S)) = on at hQ ⊢
  have loop : ∀ (t u : Nat) (x3 x4 : Int32), u + t = hoU H → x4.toInt = (u : Int) → x3 = amf H on f u → j_X12_ampsOn_70_10 4 x on x3 x4 M Q := by
    intro t
    induction t with
    | zero =>
      intro u x3 x4 hu h4 h3
      refine v_X12_ampsOn_70_10 ?_
      rw [d_cn a.1, hC.1.2.2.1, a.1]
      refine ⟨by omega, fun _ => ?_, fun q => by exfalso; omega⟩
      rw [h3, show u = hoU H by omega]
      exact hQ
    | succ t ih =>
      intro u x3 x4 hu h4 h3
      have se : amf H on f (u + 1) = amf H on f u + cond (bt on u && decide (hoH H u = f)) (hoM H u) 0 := rfl
      have on2 : ∀ y : Int32, y = amf H on f (u + 1) → j_X12_ampsOn_70_53 4 x on y x4 M Q := fun y hy => v_X12_ampsOn_70_53 (ih (u + 1) _ _ (by omega) (d_inc h4 (by omega)) hy)
      refine v_X12_ampsOn_70_10 ?_
      rw [d_cn a.1, hC.1.2.2.1, a.1, bt_s h4 (by omega)]
      refine ⟨by omega, fun q => by exfalso; omega, fun _ => ?_⟩
      cases e : bt on u with
      | false =>
        rw [e, Bool.false_and, cond_false, Int32.add_zero] at se
        exact ⟨fun _ => on2 _ (by rw [se, h3]), fun q => absurd q (by decide)⟩
      | true =>
        rw [e, Bool.true_and] at se
        refine ⟨fun q => absurd rfl q, fun _ => Wp.deep (y_flatAt hC.1 h4 (by omega) (fun r hr => ⟨fun ne => on2 _ ?_, fun ee => Wp.deep (y_ampsAt hC.1 h4 (by omega) (on2 _ ?_)) (Nat.le_of_ble_eq_true rfl)⟩)) (Nat.le_of_ble_eq_true rfl)⟩
        · rw [decide_eq_false (by omega), cond_false, Int32.add_zero] at se
          rw [se, h3]
        · rw [decide_eq_true (by omega), cond_true] at se
          rw [se, h3]
  exact loop (hoU H) 0 _ _ (by omega) (by decide) rfl
theorem r_flat {x1 x2 : Int32} {Q : Int32 → dM → Prop} (hK : KR H S P L s m) (hQ : ∀ (r : Int32) (m' : dM), RsF m m' → Q r m') : c_X12_flat_70 7 x1 x2 m Q := by
  have f7 := hK.1.1.1
  refine v_X12_flat_70 (Wp.deep (y_isFlatr hK.1 (fun hu => ⟨fun _ => ?_, fun z => absurd z (by decide)⟩) (fun hu => ⟨fun z => absurd rfl z, fun _ => hQ _ m (RsF.rf m)⟩)) (Nat.le_of_ble_eq_true rfl))
  have hx := toNat_of hu.1
  refine y_copies hK.1 hK.2.1 (fun M f cy _ _ => ?_)
  have a := cy.1.2.1.1
  have e7 := y_idx (C := 7) (c := (7 : Int32)) (by decide) a.1 a.2 hx (by decide) (by omega)
  have e40 := d_add (k := x1) (K := x1.toNatClampNeg) (x := (40 : Int32)) (i := 40) (by decide) hx (by omega)
  have li : ∀ (Q' : Int32 → dM → Prop), (∀ r : Int32, Q' r M) → c_X12_isLit_70 6 x1 M Q' := fun Q' hq => Wp.deep (y_isLit cy.2.2 hx (by omega) (fun _ => hq _) (fun _ => hq _)) (Nat.le_of_ble_eq_true rfl)
  exact ⟨fun _ => ⟨by omega, hQ _ M f⟩, fun _ => li _ (fun r => ⟨fun _ => hQ _ M f, fun _ => hQ _ M f⟩), fun _ => ⟨by omega, hQ _ M f⟩, fun _ => li _ (fun r => ⟨fun _ => hQ _ M f, fun _ => ⟨by omega, hQ _ M f⟩⟩), fun _ => Wp.deep (y_quarrelOf cy.1 cy.2.1 hx (by omega) (fun M2 f2 => hQ _ M2 (f.tr f2.rs))) (Nat.le_of_ble_eq_true rfl), fun _ => Wp.deep (y_ampsOn cy hx (hQ _ M f)) (Nat.le_of_ble_eq_true rfl), fun _ => hQ _ M f⟩
theorem r_wire {x1 x2 : Int32} {Q : Int32 → dM → Prop} (hK : KR H S P L s m) (hQ : ∀ (r : Int32) (m' : dM), RsF m m' → Q r m') : c_X12_wire_70 7 x1 x2 m Q := by
  have w10 := hK.1.1.2.1
  refine v_X12_wire_70 (Wp.deep (y_isWire hK.1.2.1 (fun hu => ⟨fun _ => ?_, fun z => absurd z (by decide)⟩) (fun hu => ⟨fun z => absurd rfl z, fun _ => hQ _ m (RsF.rf m)⟩)) (Nat.le_of_ble_eq_true rfl))
  have hx := toNat_of hu.1
  refine y_copies hK.1 hK.2.1 (fun M f cy _ _ => ?_)
  have a := cy.1.2.1.1
  have e0 := y_idx (C := 10) (c := (10 : Int32)) (by decide) a.1 a.2 hx (by decide) (by omega)
  have e10 := d_add (k := x1) (K := x1.toNatClampNeg) (x := (10 : Int32)) (i := 10) (by decide) hx (by omega)
  have e20 := d_add (k := x1) (K := x1.toNatClampNeg) (x := (20 : Int32)) (i := 20) (by decide) hx (by omega)
  have e30 := d_add (k := x1) (K := x1.toNatClampNeg) (x := (30 : Int32)) (i := 30) (by decide) hx (by omega)
  exact ⟨fun _ => ⟨by omega, hQ _ M f⟩, fun _ => ⟨by omega, hQ _ M f⟩, fun _ => ⟨by omega, hQ _ M f⟩, fun _ => ⟨by omega, hQ _ M f⟩, fun _ => ⟨by omega, hQ _ M f⟩, fun _ => ⟨by omega, hQ _ M f⟩, fun _ => Wp.deep (y_onNow cy (Wp.deep (y_loadBy cy.1 cy.2.2 hx (by omega) (hQ _ M f)) (Nat.le_of_ble_eq_true rfl))) (Nat.le_of_ble_eq_true rfl), fun _ => Wp.deep (y_costsOf cy.1 cy.2.1 hx (by omega) (fun M2 f2 => hQ _ M2 (f.tr f2.rs))) (Nat.le_of_ble_eq_true rfl), fun _ => Wp.deep (y_onNow cy (Wp.deep (y_doesGo cy.1 cy.2.1 cy.2.2 hx (by omega) (fun M2 f2 => ⟨fun _ => hQ _ M2 (f.tr f2.rs), fun _ => hQ _ M2 (f.tr f2.rs)⟩)) (Nat.le_of_ble_eq_true rfl))) (Nat.le_of_ble_eq_true rfl), fun _ => hQ _ M f⟩
theorem r_use {x1 x2 : Int32} {Q : Int32 → dM → Prop} (hK : KR H S P L s m) (hQ : ∀ (r : Int32) (m' : dM), RsF m m' → Q r m') : c_X12_use_70 7 x1 x2 m Q := by
  have u8 := hK.1.1.2.2.1
  refine v_X12_use_70 (Wp.deep (y_isUser hK.1 (fun hu => ⟨fun _ => ?_, fun z => absurd z (by decide)⟩) (fun hu => ⟨fun z => absurd rfl z, fun _ => hQ _ m (RsF.rf m)⟩)) (Nat.le_of_ble_eq_true rfl))
  have hx := toNat_of hu.1
  refine y_copies hK.1 hK.2.1 (fun M f cy _ _ => ?_)
  have a := cy.1.2.1.1
  have e0 := y_idx (C := 8) (c := (8 : Int32)) (by decide) a.1 a.2 hx (by decide) (by omega)
  have e47 := d_add (k := x1) (K := x1.toNatClampNeg) (x := (47 : Int32)) (i := 47) (by decide) hx (by omega)
  exact ⟨fun _ => Wp.deep (y_flatAt cy.1 hx (by omega) (fun r _ => hQ _ M f)) (Nat.le_of_ble_eq_true rfl), fun _ => Wp.deep (y_ampsAt cy.1 hx (by omega) (hQ _ M f)) (Nat.le_of_ble_eq_true rfl), fun _ => ⟨by omega, hQ _ M f⟩, fun _ => ⟨by omega, hQ _ M f⟩, fun _ => ⟨by omega, hQ _ M f⟩, fun _ => Wp.deep (y_onNow cy (hQ _ M f)) (Nat.le_of_ble_eq_true rfl), fun _ => Wp.deep (y_paysOf cy.1 cy.2.1 hx (by omega) (fun M2 f2 => hQ _ M2 (f.tr f2.rs))) (Nat.le_of_ble_eq_true rfl), fun _ => hQ _ M f⟩
theorem r_way {x1 x2 : Int32} {Q : Int32 → dM → Prop} (hK : KR H S P L s m) (hQ : ∀ (r : Int32) (m' : dM), RsF m m' → Q r m') : c_X12_way_70 7 x1 x2 m Q := by
  have f7 := hK.1.1.1
  have no : j_X12_way_70_12 7 m Q := v_X12_way_70_12 (hQ _ m (RsF.rf m))
  refine v_X12_way_70 (Wp.deep (y_isFlatr hK.1 (fun hu => ⟨fun z => absurd z (by decide), fun _ => ⟨fun h2 => ?_, fun _ => no⟩⟩) (fun hu => ⟨fun _ => no, fun z => absurd rfl z⟩)) (Nat.le_of_ble_eq_true rfl))
  have hx := toNat_of hu.1
  refine y_copies hK.1 hK.2.1 (fun M f cy _ _ => ?_)
  refine Wp.deep (y_isLit cy.2.2 hx (by omega) (fun g => ⟨fun _ => ⟨by omega, fun lt' => ?_, fun _ => hQ _ M f⟩, fun z => absurd z (by decide)⟩) (fun g => ⟨fun z => absurd rfl z, fun _ => hQ _ M f⟩)) (Nat.le_of_ble_eq_true rfl)
  have hG : RG (hoW H) (bt (szG S)) M := cy.2.1.rg (r := 0)
  have loop : ∀ (t i f' : Nat) (x3 x4 : Int32), i + t = 7 → x4.toInt = (i : Int) → x3.toInt = (f' : Int) → f' < hoF H → (x2.toInt < (i : Int) + (wyD H (szG S) f' : Int) ∧ i + wyD H (szG S) f' ≤ 6 ∧ (i : Int) ≤ x2.toInt) → j_X12_way_70_46 7 x2 x3 x4 M Q := by
    intro t
    induction t with
    | zero => intro i f' x3 x4 hi h4 h3 hf hd; exfalso; omega
    | succ t ih =>
      intro i f' x3 x4 hi h4 h3 hf hd
      refine v_X12_way_70_46 ⟨fun q => ?_, fun q => ?_⟩
      · obtain ⟨n, hn⟩ : ∃ n, wyD H (szG S) f' = n + 1 := ⟨wyD H (szG S) f' - 1, by omega⟩
        exact Wp.deep (y_wireFrom cy.1.2.1 hG cy.2.2.1 h3 (by omega) (by omega : n < 6) hn (fun r hr => hQ _ M f)) (Nat.le_of_ble_eq_true rfl)
      · obtain ⟨n, hn⟩ : ∃ n, wyD H (szG S) f' = n + 1 := ⟨wyD H (szG S) f' - 1, by omega⟩
        have nk := nx_ok (nf := hoF H) (nw := hoW H) (e1 := hoA H) (e2 := hoB H) (G := bt (szG S)) (n := n) (f := f') (by omega) hn
        have en := (cy.1.1.2.2.2.1 _ nk.1)
        refine Wp.deep (y_wireFrom cy.1.2.1 hG cy.2.2.1 h3 (by omega) (by omega : n < 6) hn (fun r hr => Wp.deep (y_otherEnd cy.1.2.1 hr nk.1 h3 (fun r2 ht hr2 => ih (i + 1) _ _ _ (by omega) (d_inc h4 (by omega)) hr2 ?_ ?_) (fun no2 => ?_)) (Nat.le_of_ble_eq_true rfl))) (Nat.le_of_ble_eq_true rfl)
        · unfold ot; split <;> omega
        · have dn : wyD H (szG S) (ot (hoA H) (hoB H) (nx (hoF H) (hoW H) (hoA H) (hoB H) (bt (szG S)) f') f') = n := nk.2.2
          rw [dn]
          omega
        · exfalso
          have k2 := nk.2.1
          unfold tch at k2
          rw [Bool.and_eq_true, Bool.or_eq_true, decide_eq_true_eq, decide_eq_true_eq] at k2
          exact no2 k2.2
  have lit : wyD H (szG S) x1.toNatClampNeg ≠ 99 := by
    unfold lt at g
    exact of_decide_eq_true g
  have e109 := cy.2.2.1 x1.toNatClampNeg (by omega)
  have b0 := dD_le (nf := hoF H) (nw := hoW H) (e1 := hoA H) (e2 := hoB H) (G := bt (szG S)) (f := x1.toNatClampNeg)
  have b0 : wyD H (szG S) x1.toNatClampNeg ≤ 6 ∨ wyD H (szG S) x1.toNatClampNeg = 99 := b0
  exact loop 7 0 x1.toNatClampNeg _ _ rfl (by decide) hx (by omega) ⟨by omega, by omega, by omega⟩
theorem zOk.hh (hH : hOk H) (h : zOk H S) (x : Int32) : zOk H (wsz H (pst H S) x) := (h.p).w hH _
/-- hours gone by on the copy, whatever surges -/
theorem r_hour {Q : dM → Prop} {M : dM} {T : Zt} (hC : CY H T s M) (hO : zOk H T) (hF : RsF m M) (hQ : ∀ (T' : Zt) (m' : dM), RsF m m' → CY H T' s m' → zOk H T' → Q m') : c_X12_hourGoes_70 6 M Q :=
  y_hourGoes hC.1 hC.2.1 hC.2.2 hO (fun M1 f1 W1 g1 Z1 L1 => hQ _ M1 (hF.tr f1.rs) ⟨W1, Z1, L1⟩ (zOk.hh hC.1.1 hO _))
theorem r_still {Q : dM → Prop} {M : dM} (hK : KR H S P L s m) (hF : RsF m M) (hQ : ∀ m' : dM, RsF m m' → CY H S s m' → Q m') : c_X12_copiesStill_70 7 M Q := by
  have hK' := hK.rs hF
  refine v_X12_copiesStill_70 (y_copies hK'.1 hK'.2.1 (fun M1 f cy _ _ => hQ _ ((hF.tr f).s70 (by decide)) ⟨cy.1.rs ((RsF.rf M1).s70 (by decide)), cy.2.1.of (dSet_k (by decide)), cy.2.2.of (dSet_k (by decide)) (dSet_k (by decide))⟩))
theorem r_peak {x1 x2 x3 : Int32} {Q : Int32 → dM → Prop} (hK : KR H S P L s m) (hO : zOk H S) (hQ : ∀ (r : Int32) (m' : dM), RsF m m' → Q r m') : c_X12_peak_70 8 x1 x2 x3 m Q := by
  have w10 := hK.1.1.2.1
  have no : j_X12_peak_70_27 8 m Q := v_X12_peak_70_27 (hQ _ m (RsF.rf m))
  refine v_X12_peak_70 (Wp.deep (y_isWire hK.1.2.1 (fun hu => ⟨fun z => absurd z (by decide), fun _ => Wp.deep (y_in (fun h2 => ⟨fun z => absurd z (by decide), fun _ => Wp.deep (y_in (fun h3 => ⟨fun _ => ?_, fun z => absurd z (by decide)⟩) (fun _ => ⟨fun z => absurd rfl z, fun _ => no⟩)) (Nat.le_of_ble_eq_true rfl)⟩) (fun _ => ⟨fun _ => no, fun z => absurd rfl z⟩)) (Nat.le_of_ble_eq_true rfl)⟩) (fun hu => ⟨fun _ => no, fun z => absurd rfl z⟩)) (Nat.le_of_ble_eq_true rfl))
  have hx := toNat_of hu.1
  have e1 := ti_1
  have e48 := ti_48
  refine r_still hK (RsF.rf m) (fun M f cy => ?_)
  have loop : ∀ (t : Nat) (x4 x5 x6 : Int32) (T : Zt) (M : dM), x6.toInt + (t : Int) = x2.toInt → 0 ≤ x6.toInt → RsF m M → CY H T s M → zOk H T → j_X12_peak_70_42 8 x1 x2 x3 x4 x5 x6 M Q := by
    intro t
    induction t with
    | zero => intro x4 x5 x6 T M h6 h0 fM cM hT; exact v_X12_peak_70_42 ⟨fun _ => ⟨fun _ => hQ _ M fM, fun _ => hQ _ M fM⟩, fun q => by exfalso; omega⟩
    | succ t ih =>
      intro x4 x5 x6 T M h6 h0 fM cM hT
      have f := dAddE (X := x6.toInt) (Y := 1) (x := x6) (y := (1 : Int32)) rfl (by decide) (by omega) (by omega)
      have on : ∀ y z : Int32, j_X12_peak_70_86 8 x1 x2 x3 y z x6 M Q := fun y z => v_X12_peak_70_86 (Wp.deep (r_hour cM hT fM (fun T' M1 f1 c1 h1 => ih _ _ _ T' M1 (by omega) (by omega) f1 c1 h1)) (Nat.le_of_ble_eq_true rfl))
      exact v_X12_peak_70_42 ⟨fun q => by exfalso; omega, fun _ => Wp.deep (y_isWhole cM.1.2.1 (cM.2.1.rg (r := 0)) hx (by omega) (fun _ => ⟨fun z => absurd z (by decide), fun _ => Wp.deep (y_onNow cM (Wp.deep (y_loadBy cM.1 cM.2.2 hx (by omega) ⟨fun _ => on _ _, fun _ => on _ _⟩) (Nat.le_of_ble_eq_true rfl))) (Nat.le_of_ble_eq_true rfl)⟩) (fun _ => ⟨fun _ => ⟨fun _ => on _ _, fun _ => on _ _⟩, fun z => absurd rfl z⟩)) (Nat.le_of_ble_eq_true rfl)⟩
  exact loop x2.toNatClampNeg _ _ _ S M (by have := toNat_of (x := x2) (by omega); have := ti_0; omega) (by decide) f cy hO
theorem r_firstGoing {Q : Int32 → dM → Prop} {M : dM} {T : Zt} (hC : CY H T s M) (hO : zOk H T) (hF : RsF m M) (hQ : ∀ (r : Int32) (m' : dM), RsF m m' → Q r m') : c_X12_firstGoing_70 7 M Q := by
  have loop : ∀ (t : Nat) (x1 : Int32) (T : Zt) (M : dM), x1.toInt + (t : Int) = 201 → 0 ≤ x1.toInt → RsF m M → CY H T s M → zOk H T → j_X12_firstGoing_70_2 7 x1 M Q := by
    intro t
    induction t with
    | zero => intro x1 T M h1 h0 fM cM hT; exact v_X12_firstGoing_70_2 ⟨fun _ => hQ _ M fM, fun q => by exfalso; omega⟩
    | succ t ih =>
      intro x1 T M h1 h0 fM cM hT
      have f := dAddE (X := x1.toInt) (Y := 1) (x := x1) (y := (1 : Int32)) rfl (by decide) (by omega) (by omega)
      exact v_X12_firstGoing_70_2 ⟨fun q => by exfalso; omega, fun _ => r_hour cM hT fM (fun T' M1 f1 c1 h1 => ⟨fun _ => ih _ T' M1 (by omega) (by omega) f1 c1 h1, fun _ => hQ _ M1 f1⟩)⟩
  exact v_X12_firstGoing_70 (loop 200 _ T M (by decide) (by decide) hF hC hO)
theorem r_first {x1 : Int32} {Q : Int32 → dM → Prop} (hK : KR H S P L s m) (hO : zOk H S) (hQ : ∀ (r : Int32) (m' : dM), RsF m m' → Q r m') : c_X12_first_70 8 x1 m Q := by
  refine v_X12_first_70 (Wp.deep (y_in (fun h => ⟨fun _ => r_still hK (RsF.rf m) (fun M f cy => r_firstGoing cy hO f (fun r M2 f2 => ⟨fun _ => ⟨fun _ => ?_, fun _ => hQ _ M2 f2⟩, fun _ => hQ _ M2 f2⟩)), fun z => absurd z (by decide)⟩) (fun _ => ⟨fun z => absurd rfl z, fun _ => hQ _ m (RsF.rf m)⟩)) (Nat.le_of_ble_eq_true rfl))
  have loop : ∀ (t : Nat) (x0 x1 : Int32), x1.toInt + (t : Int) = 10 → 0 ≤ x1.toInt → j_X12_lowestOf_2 7 x0 x1 M2 (fun r4 m4 => Q r4 m4) := by
    intro t
    induction t with
    | zero => intro x0 x1 h1 h0; exact v_X12_lowestOf_2 ⟨fun _ => v_X12_lowestOf_22 (hQ _ M2 f2), fun q => by exfalso; omega⟩
    | succ t ih =>
      intro x0 x1 h1 h0
      have f := dAddE (X := x1.toInt) (Y := 1) (x := x1) (y := (1 : Int32)) rfl (by decide) (by omega) (by omega)
      exact v_X12_lowestOf_2 ⟨fun _ => v_X12_lowestOf_22 (hQ _ M2 f2), fun _ => ⟨fun _ => v_X12_lowestOf_22 (hQ _ M2 f2), fun _ => ih _ _ (by omega) (by omega)⟩⟩
  exact v_X12_lowestOf (loop 10 _ _ (by decide) (by decide))
end RKE
end
section
/-! THE REFERENCE: questions leave how it stands, 2 -/
section RKF
variable {H : Ho} {S : Zt} {P : List Zt} {L : Nat → Zt} {s : Nat} {m : dM}
theorem r_bits {x0 : Int32} {Q : Int32 → dM → Prop} {M : dM} (hQ : ∀ r : Int32, Q r M) : c_X12_bits 1 x0 M Q := by
  have loop : ∀ (t : Nat) (x1 x2 : Int32), x2.toInt + (t : Int) = 10 → 0 ≤ x2.toInt → j_X12_bits_4 1 x0 x1 x2 M Q := by
    intro t
    induction t with
    | zero => intro x1 x2 h h0; exact v_X12_bits_4 ⟨fun _ => hQ _, fun q => by exfalso; omega⟩
    | succ t ih =>
      intro x1 x2 h h0
      have f := dAddE (X := x2.toInt) (Y := 1) (x := x2) (y := (1 : Int32)) rfl (by decide) (by omega) (by omega)
      exact v_X12_bits_4 ⟨fun q => by exfalso; omega, fun _ => ih _ _ (by omega) (by omega)⟩
  exact v_X12_bits (loop 10 _ _ (by decide) (by decide))
theorem r_ith {x0 x1 : Int32} {Q : Int32 → dM → Prop} {M : dM} (hQ : ∀ r : Int32, Q r M) : c_X12_ithOf 1 x0 x1 M Q := by
  have loop : ∀ (t : Nat) (x2 x3 : Int32), x3.toInt + (t : Int) = 10 → 0 ≤ x3.toInt → j_X12_ithOf_4 1 x0 x1 x2 x3 M Q := by
    intro t
    induction t with
    | zero => intro x2 x3 h h0; exact v_X12_ithOf_4 ⟨fun _ => hQ _, fun q => by exfalso; omega⟩
    | succ t ih =>
      intro x2 x3 h h0
      have f := dAddE (X := x3.toInt) (Y := 1) (x := x3) (y := (1 : Int32)) rfl (by decide) (by omega) (by omega)
      have on : ∀ y : Int32, j_X12_ithOf_31 1 x0 x1 y x3 M Q := fun y => v_X12_ithOf_31 (ih _ _ (by omega) (by omega))
      exact v_X12_ithOf_4 ⟨fun q => by exfalso; omega, fun _ => ⟨fun _ => ⟨fun _ => on _, fun _ => hQ _⟩, fun _ => on _⟩⟩
  exact v_X12_ithOf (loop 10 _ _ (by decide) (by decide))
theorem r_earlier {x0 x1 : Int32} {Q : Int32 → dM → Prop} {M : dM} (hQ : ∀ r : Int32, Q r M) : c_X12_isEarlier 2 x0 x1 M Q := by
  have loop : ∀ (t : Nat) (x2 : Int32), x2.toInt + (t : Int) = 3 → 0 ≤ x2.toInt → j_X12_isEarlier_2 2 x0 x1 x2 M Q := by
    intro t
    induction t with
    | zero => intro x2 h h0; exact v_X12_isEarlier_2 ⟨fun _ => hQ _, fun q => by exfalso; omega⟩
    | succ t ih =>
      intro x2 h h0
      have f := dAddE (X := x2.toInt) (Y := 1) (x := x2) (y := (1 : Int32)) rfl (by decide) (by omega) (by omega)
      exact v_X12_isEarlier_2 ⟨fun q => by exfalso; omega, fun _ => r_ith (fun r1 => r_ith (fun r2 => ⟨fun _ => ih _ (by omega) (by omega), fun _ => r_ith (fun r3 => r_ith (fun r4 => ⟨fun _ => hQ _, fun _ => hQ _⟩))⟩))⟩
  exact v_X12_isEarlier (loop 3 _ (by decide) (by decide))
theorem y_usesLit {Q : Int32 → dM → Prop} {M : dM} (hC : CY H S s M) (hQ : Q (bs (fun u => lt H (szG S) (hoH H u)) (hoU H)) M) : c_X12_usesLit_70 2 M Q := by
  obtain ⟨o1, o2, o3, o4, o5, o6⟩ := hC.1.1
  have a := hC.1.2.1.1
  have loop : ∀ (t u : Nat) (x1 x2 : Int32), u + t = hoU H → x2.toInt = (u : Int) → x1 = bs (fun u => lt H (szG S) (hoH H u)) u → j_X12_usesLit_70_4 2 x1 x2 M Q := by
    intro t
    induction t with
    | zero =>
      intro u x1 x2 hu h2 h1
      refine v_X12_usesLit_70_4 ?_
      rw [d_cn a.1, hC.1.2.2.1, a.1]
      refine ⟨by omega, fun _ => ?_, fun q => by exfalso; omega⟩
      rw [h1, show u = hoU H by omega]
      exact hQ
    | succ t ih =>
      intro u x1 x2 hu h2 h1
      have c1 := (o5 u (by omega)).1
      have on : ∀ y : Int32, y = bs (fun u => lt H (szG S) (hoH H u)) (u + 1) → j_X12_usesLit_70_35 2 y x2 M Q := fun y hy => v_X12_usesLit_70_35 (ih (u + 1) _ _ (by omega) (d_inc h2 (by omega)) hy)
      refine v_X12_usesLit_70_4 ?_
      rw [d_cn a.1, hC.1.2.2.1, a.1, b1_of h2]
      refine ⟨by omega, fun q => by exfalso; omega, fun _ => y_flatAt hC.1 h2 (by omega) (fun r hr => y_isLit hC.2.2 hr (by omega) (fun g => ⟨fun z => absurd z (by decide), fun _ => on _ ?_⟩) (fun g => ⟨fun _ => on _ ?_, fun z => absurd rfl z⟩))⟩
      · show x1 ||| b1 u = cond (lt H (szG S) (hoH H u)) (bs (fun u => lt H (szG S) (hoH H u)) u ||| b1 u) (bs (fun u => lt H (szG S) (hoH H u)) u)
        rw [g, cond_true, h1]
      · show x1 = cond (lt H (szG S) (hoH H u)) (bs (fun u => lt H (szG S) (hoH H u)) u ||| b1 u) (bs (fun u => lt H (szG S) (hoH H u)) u)
        rw [g, cond_false, h1]
  exact v_X12_usesLit_70 (loop (hoU H) 0 _ _ (by omega) (by decide) rfl)
theorem r_together {x1 : Int32} {Q : Int32 → dM → Prop} (hK : KR H S P L s m) (hQ : ∀ (r : Int32) (m' : dM), RsF m m' → Q r m') : c_X12_together_70 7 x1 m Q := by
  have u8 := hK.1.1.2.2.1
  refine v_X12_together_70 (Wp.deep (y_in (fun h => ⟨fun _ => y_copies hK.1 hK.2.1 (fun M f cy _ _ => Wp.deep (y_usesLit cy ?_) (Nat.le_of_ble_eq_true rfl)), fun z => absurd z (by decide)⟩) (fun _ => ⟨fun z => absurd rfl z, fun _ => hQ _ m (RsF.rf m)⟩)) (Nat.le_of_ble_eq_true rfl))
  have b := b1_le (u := hoU H) (by omega)
  have loop : ∀ (t : Nat) (x2 x3 x4 x5 : Int32) (M : dM), x5.toInt + (t : Int) = 1025 → 0 ≤ x5.toInt → RsF m M → CY H S s M → j_X12_together_70_28 7 x1 x2 x3 x4 x5 M Q := by
    intro t
    induction t with
    | zero =>
      intro x2 x3 x4 x5 M h5 h0 fM cM
      have a := cM.1.2.1.1
      refine v_X12_together_70_28 ?_
      rw [d_cn a.1, b1_of cM.1.2.2.1]
      exact ⟨by omega, fun _ => ⟨fun _ => hQ _ M fM, fun _ => hQ _ M fM⟩, fun q => by exfalso; omega⟩
    | succ t ih =>
      intro x2 x3 x4 x5 M h5 h0 fM cM
      have a := cM.1.2.1.1
      have f := dAddE (X := x5.toInt) (Y := 1) (x := x5) (y := (1 : Int32)) rfl (by decide) (by omega) (by omega)
      refine v_X12_together_70_28 ?_
      rw [d_cn a.1, b1_of cM.1.2.2.1]
      refine ⟨by omega, fun _ => ⟨fun _ => hQ _ M fM, fun _ => hQ _ M fM⟩, fun q => ?_⟩
      have on : ∀ (y z : Int32) (M1 : dM), RsF m M1 → CY H S s M1 → j_X12_together_70_101 7 x1 x2 y z x5 M1 Q := fun y z M1 f1 c1 => v_X12_together_70_101 (ih _ _ _ _ M1 (by omega) (by omega) f1 c1)
      exact ⟨fun _ => Wp.deep (y_paysAll cM.1 cM.2.1 (fun M1 f1 => ⟨fun _ => on _ _ M1 (fM.tr f1.rs) (cM.xa f1), fun _ => Wp.deep (y_goingBits (cM.xa f1).1 (cM.xa f1).2.1 (cM.xa f1).2.2 (fun M2 f2 => ⟨fun _ => on _ _ M2 ((fM.tr f1.rs).tr f2.rs) ((cM.xa f1).xa f2), fun _ => on _ _ M2 ((fM.tr f1.rs).tr f2.rs) ((cM.xa f1).xa f2)⟩)) (Nat.le_of_ble_eq_true rfl)⟩)) (Nat.le_of_ble_eq_true rfl), fun _ => on _ _ M fM cM⟩
  exact loop 1024 _ _ _ _ M (by decide) (by decide) f cy
theorem r_when {x1 : Int32} {Q : Int32 → dM → Prop} (hK : KR H S P L s m) (hB : ∀ u : Nat, u < hoU H → 0 ≤ (hoO H u).toInt ∧ (hoO H u).toInt ≤ (hoI H u).toInt ∧ (hoI H u).toInt ≤ 23) (hQ : ∀ (r : Int32) (m' : dM), RsF m m' → Q r m') : c_X12_when_70 7 x1 m Q := by
  obtain ⟨o1, o2, o3, o4, o5, o6⟩ := hK.1.1
  refine v_X12_when_70 (Wp.deep (y_isUser hK.1 (fun hu => ⟨fun _ => ?_, fun z => absurd z (by decide)⟩) (fun hu => ⟨fun z => absurd rfl z, fun _ => hQ _ m (RsF.rf m)⟩)) (Nat.le_of_ble_eq_true rfl))
  have hx := toNat_of hu.1
  generalize x1.toNatClampNeg = u at hx
  refine y_copies hK.1 hK.2.1 (fun M f cy _ _ => ?_)
  have b := hB u (by omega)
  have c1 := (o5 u (by omega)).1
  have idx : ∀ M : dM, CY H S s M → (((8 : Int32) * (M.1 70 18)) + x1).toInt = ((8 * s + u : Nat) : Int) := fun M cM => y_idx (C := 8) (c := (8 : Int32)) (by decide) cM.1.2.1.1.1 cM.1.2.1.1.2 hx (by decide) (by omega)
  have s1 := hK.1.2.1.1.2
  have fl := dSubE (X := (hoI H u).toInt) (Y := (hoO H u).toInt) (x := hoI H u) (y := hoO H u) rfl rfl (by omega) (by omega)
  have e0 := idx M cy
  obtain ⟨d1, d2, d3, d4⟩ := cy.1.2.2.2.2.2.1 u (by omega)
  rw [d_cn e0, d3, d4]
  refine ⟨by omega, by omega, ?_⟩
  have l46 : ∀ (t : Nat) (x3 : Int32) (M : dM), x3.toInt + (t : Int) = 24 → 0 ≤ x3.toInt → RsF m M → CY H S s M → j_X12_when_70_46 7 x1 (hoI H u - hoO H u) x3 M Q := by
    intro t
    induction t with
    | zero =>
      intro x3 M h3 h0 fM cM
      have fa := dAddE (X := x3.toInt) (Y := (hoI H u - hoO H u).toInt) (x := x3) (y := hoI H u - hoO H u) rfl rfl (by omega) (by omega)
      exact v_X12_when_70_46 ⟨fun _ => hQ _ M fM, fun q => by exfalso; omega⟩
    | succ t ih =>
      intro x3 M h3 h0 fM cM
      have fa := dAddE (X := x3.toInt) (Y := (hoI H u - hoO H u).toInt) (x := x3) (y := hoI H u - hoO H u) rfl rfl (by omega) (by omega)
      have f1 := dAddE (X := x3.toInt) (Y := 1) (x := x3) (y := (1 : Int32)) rfl (by decide) (by omega) (by omega)
      refine v_X12_when_70_46 ⟨fun _ => hQ _ M fM, fun q => ?_⟩
      have nx' : ∀ (M1 : dM), RsF m M1 → CY H S s M1 → ∀ r1 : Int32, (r1.toInt = 0 → j_X12_when_70_46 7 x1 (hoI H u - hoO H u) (x3 + (1 : Int32)) M1 Q) ∧ (r1.toInt ≠ 0 → Q x3 M1) := fun M1 fM1 cM1 r1 => ⟨fun _ => ih _ M1 (by omega) (by omega) fM1 cM1, fun _ => hQ _ M1 fM1⟩
      have e1 := idx M cM
      obtain ⟨g1, g2, g3, g4⟩ := cM.1.2.2.2.2.2.1 u (by omega)
      refine v_X12_canBegin_70 ?_
      rw [d_cn e1, g3, g4]
      refine ⟨by omega, by omega, ?_⟩
      have l33 : ∀ (t2 : Nat) (x4 : Int32) (M1 : dM), x4.toInt + (t2 : Int) = 60 → 0 ≤ x4.toInt → RsF m M1 → CY H S s M1 → j_X12_canBegin_70_33 6 x1 x3 (hoI H u - hoO H u) x4 M1 (fun r1 m1 => (r1.toInt = 0 → j_X12_when_70_46 7 x1 (hoI H u - hoO H u) (x3 + (1 : Int32)) m1 Q) ∧ (r1.toInt ≠ 0 → Q x3 m1)) := by
        intro t2
        induction t2 with
        | zero => intro x4 M1 h4 h04 fM1 cM1; exact v_X12_canBegin_70_33 ⟨fun _ => nx' M1 fM1 cM1 _, fun q => by exfalso; omega⟩
        | succ t2 ih2 =>
          intro x4 M1 h4 h04 fM1 cM1
          have f4 := dAddE (X := x4.toInt) (Y := 1) (x := x4) (y := (1 : Int32)) rfl (by decide) (by omega) (by omega)
          have on : ∀ y : Int32, j_X12_canBegin_70_75 6 x1 x3 (hoI H u - hoO H u) x4 y M1 (fun r1 m1 => (r1.toInt = 0 → j_X12_when_70_46 7 x1 (hoI H u - hoO H u) (x3 + (1 : Int32)) m1 Q) ∧ (r1.toInt ≠ 0 → Q x3 m1)) := fun y => v_X12_canBegin_70_75 (y_goingBits cM1.1 cM1.2.1 cM1.2.2 (fun M2 f2 => ⟨fun _ => ih2 _ M2 (by omega) (by omega) (fM1.tr f2.rs) (cM1.xa f2), fun _ => nx' M2 (fM1.tr f2.rs) (cM1.xa f2) _⟩))
          exact v_X12_canBegin_70_33 ⟨fun _ => nx' M1 fM1 cM1 _, fun _ => Wp.deep (y_onAt cM1.1 cM1.2.1 cM1.2.2 (Wp.deep (y_flatAt cM1.1 hx (by omega) (fun r hr => Wp.deep (y_isLit cM1.2.2 hr (by omega) (fun _ => ⟨fun _ => on _, fun _ => on _⟩) (fun _ => ⟨fun _ => on _, fun _ => on _⟩)) (Nat.le_of_ble_eq_true rfl))) (Nat.le_of_ble_eq_true rfl))) (Nat.le_of_ble_eq_true rfl)⟩
      exact l33 (60 - x3.toInt).toNat _ M (by omega) (by omega) fM cM
  exact l46 24 _ M (by decide) (by decide) f cy
theorem within_b {x lo hi : Int32} {Q : Int32 → dM → Prop} {M : dM} (h : lo.toInt ≤ hi.toInt) (hQ : ∀ r : Int32, lo.toInt ≤ r.toInt ∧ r.toInt ≤ hi.toInt → Q r M) : c_X12_within 1 x lo hi M Q := v_X12_within ⟨fun q => ⟨fun q2 => hQ _ ⟨q, q2⟩, fun q2 => hQ _ ⟨h, by omega⟩⟩, fun q => hQ _ ⟨by omega, h⟩⟩
theorem r_thick {x1 : Int32} {Q : Int32 → dM → Prop} (hK : KR H S P L s m) (hO : zOk H S) (hQ : ∀ (r : Int32) (m' : dM), RsF m m' → Q r m') : c_X12_thick_70 8 x1 m Q := by
  have w10 := hK.1.1.2.1
  refine v_X12_thick_70 (Wp.deep (y_in (fun h => ⟨fun _ => r_still hK (RsF.rf m) (fun M f cy => r_firstGoing cy hO f (fun r M2 f2 => ?_)), fun z => absurd z (by decide)⟩) (fun _ => ⟨fun z => absurd rfl z, fun _ => hQ _ m (RsF.rf m)⟩)) (Nat.le_of_ble_eq_true rfl))
  have loop : ∀ (t w : Nat) (x2 x3 x4 : Int32) (M : dM), w + t = hoW H → x4.toInt = (w : Int) → RsF m M → j_X12_thick_70_27 8 x1 x2 x3 x4 M Q := by
    intro t
    induction t with
    | zero =>
      intro w x2 x3 x4 M hw h4 fM
      have hKM := hK.rs fM
      have a := hKM.1.2.1.1
      refine v_X12_thick_70_27 ?_
      rw [d_cn a.1, hKM.1.2.1.2.2.1.1, a.1]
      exact ⟨by omega, fun _ => hQ _ M fM, fun q => by exfalso; omega⟩
    | succ t ih =>
      intro w x2 x3 x4 M hw h4 fM
      have hKM := hK.rs fM
      have a := hKM.1.2.1.1
      have e10 := d_add (k := x4) (K := w) (x := (10 : Int32)) (i := 10) (by decide) h4 (by omega)
      have on : ∀ (y z : Int32) (M1 : dM), RsF m M1 → j_X12_thick_70_105 8 x1 y z x4 M1 Q := fun y z M1 f1 => v_X12_thick_70_105 (ih (w + 1) _ _ _ M1 (by omega) (d_inc h4 (by omega)) f1)
      refine v_X12_thick_70_27 ?_
      rw [d_cn a.1, hKM.1.2.1.2.2.1.1, a.1]
      refine ⟨by omega, fun q => by exfalso; omega, fun _ => ⟨by omega, fun _ => r_still hK fM (fun M1 f1 cy1 => ⟨by omega, Wp.deep (within_b (by decide) (fun r2 hr2 => ⟨by omega, ?_⟩)) (Nat.le_of_ble_eq_true rfl)⟩), fun _ => on _ _ M fM⟩⟩
      rw [d_cn h4]
      have hT : zOk H (setR S (upd (szR S) w r2)) := by
        obtain ⟨a, b, c, d, e, f, g⟩ := hO
        refine ⟨a, b, c, d, e, fun j hj => ?_, g⟩
        show 0 ≤ (upd (szR S) w r2 j).toInt ∧ (upd (szR S) w r2 j).toInt ≤ 99
        rw [upd_j]
        have e9 := ti_99
        have e1 := ti_1
        by_cases q3 : j = w
        · rw [if_pos q3]; omega
        · rw [if_neg q3]; exact f j hj
      have c2 : CY H (setR S (upd (szR S) w r2)) s (dSet M1 108 w r2) := ⟨cy1.1.rs (RsF.rf M1).set, cy1.2.1.r hK.1.1 (by omega), cy1.2.2.of (dSet_k (by decide)) (dSet_k (by decide))⟩
      exact r_firstGoing c2 hT f1.set (fun r3 M3 f3 => ⟨fun _ => on _ _ M3 f3, fun _ => on _ _ M3 f3⟩)
  exact loop (hoW H) 0 _ _ _ M2 (by omega) (by decide) f2
/-- a copy in which some wires more are gone -/
theorem y_loses {x1 : Int32} {Q : dM → Prop} {M : dM} (hK : KR H S P L s m) (hF : RsF m M) (hQ : ∀ m' : dM, RsF m m' → RW H s m' → RL H (szG S ||| x1) m' → Q m') : c_X12_loses_70 7 x1 M Q := by
  have w10 := hK.1.1.2.1
  have hKM := hK.rs hF
  refine v_X12_loses_70 (y_copies hKM.1 hKM.2.1 (fun M1 f1 cy _ _ => ?_))
  have loop : ∀ (t i : Nat) (x2 : Int32) (M2 : dM), i + t = 10 → x2.toInt = (i : Int) → RsF m M2 → (∀ w : Nat, w < hoW H → M2.1 108 (10 + w) = bi (bt (if w < i then szG S ||| x1 else szG S) w)) → j_X12_loses_70_6 7 x1 x2 M2 Q := by
    intro t
    induction t with
    | zero =>
      intro i x2 M2 hi h2 f2 hv
      have W2 := hK.1.rs f2
      refine v_X12_loses_70_6 ⟨fun _ => Wp.deep (y_fillsWays (G := bt (szG S ||| x1)) W2.2.1 (fun w hw => ?_) (fun M3 f3 d3 v3 => hQ M3 (f2.tr f3.rs) (W2.rs f3.rs) ⟨d3, v3⟩)) (Nat.le_of_ble_eq_true rfl), fun q => by exfalso; omega⟩
      rw [hv w hw, if_pos (by omega), bi_if]
    | succ t ih =>
      intro i x2 M2 hi h2 f2 hv
      have e10 := d_add (k := x2) (K := i) (x := (10 : Int32)) (i := 10) (by decide) h2 (by omega)
      have on : ∀ M3 : dM, RsF m M3 → (∀ w : Nat, w < hoW H → M3.1 108 (10 + w) = bi (bt (if w < i + 1 then szG S ||| x1 else szG S) w)) → j_X12_loses_70_31 7 x1 x2 M3 Q := fun M3 f3 h3 => v_X12_loses_70_31 (ih (i + 1) _ M3 (by omega) (d_inc h2 (by omega)) f3 h3)
      refine v_X12_loses_70_6 ⟨fun q => by exfalso; omega, fun _ => ?_⟩
      rw [bt_s h2 (by omega), d_cn e10]
      cases e : bt x1 i with
      | false =>
        refine ⟨fun _ => on M2 f2 (fun w hw => ?_), fun q => absurd q (by decide)⟩
        rw [hv w hw]
        by_cases q : w = i
        · subst q
          rw [if_neg (by omega), if_pos (by omega), bt_or, e, Bool.or_false]
        · by_cases q2 : w < i
          · rw [if_pos q2, if_pos (by omega)]
          · rw [if_neg q2, if_neg (by omega)]
      | true =>
        refine ⟨fun q => absurd rfl q, fun _ => ⟨by omega, on _ f2.set (fun w hw => ?_)⟩⟩
        by_cases q : w = i
        · subst q
          rw [dSet_s, if_pos (by omega), bt_or, e, Bool.or_true]
          rfl
        · rw [dSet_j (by omega), hv w hw]
          by_cases q2 : w < i
          · rw [if_pos q2, if_pos (by omega)]
          · rw [if_neg q2, if_neg (by omega)]
  exact loop 10 0 _ M1 rfl (by decide) (hF.tr f1) (fun w hw => by rw [if_neg (by omega)]; exact (cy.2.1.2.1 w hw).2.1)
theorem y_litBits {g : Int32} {Q : Int32 → dM → Prop} {M : dM} (hW : RW H s M) (hL : RL H g M) (hQ : Q (bs (lt H g) (hoF H)) M) : c_X12_litBits_70 2 M Q := by
  have f7 := hW.1.1
  have a := hW.2.1.1
  have loop : ∀ (t f : Nat) (x1 x2 : Int32), f + t = hoF H → x2.toInt = (f : Int) → x1 = bs (lt H g) f → j_X12_litBits_70_4 2 x1 x2 M Q := by
    intro t
    induction t with
    | zero =>
      intro f x1 x2 hf h2 h1
      refine v_X12_litBits_70_4 ?_
      rw [d_cn a.1, hW.2.1.2.1.1, a.1]
      refine ⟨by omega, fun _ => ?_, fun q => by exfalso; omega⟩
      rw [h1, show f = hoF H by omega]
      exact hQ
    | succ t ih =>
      intro f x1 x2 hf h2 h1
      have on : ∀ y : Int32, y = bs (lt H g) (f + 1) → j_X12_litBits_70_31 2 y x2 M Q := fun y hy => v_X12_litBits_70_31 (ih (f + 1) _ _ (by omega) (d_inc h2 (by omega)) hy)
      refine v_X12_litBits_70_4 ?_
      rw [d_cn a.1, hW.2.1.2.1.1, a.1, b1_of h2]
      refine ⟨by omega, fun q => by exfalso; omega, fun _ => y_isLit hL h2 (by omega) (fun gl => ⟨fun z => absurd z (by decide), fun _ => on _ ?_⟩) (fun gl => ⟨fun _ => on _ ?_, fun z => absurd rfl z⟩)⟩
      · show x1 ||| b1 f = cond (lt H g f) (bs (lt H g) f ||| b1 f) (bs (lt H g) f)
        rw [gl, cond_true, h1]
      · show x1 = cond (lt H g f) (bs (lt H g) f ||| b1 f) (bs (lt H g) f)
        rw [gl, cond_false, h1]
  exact v_X12_litBits_70 (loop (hoF H) 0 _ _ (by omega) (by decide) rfl)
theorem y_darkBits {g : Int32} {Q : Int32 → dM → Prop} {M : dM} (hW : RW H s M) (hL : RL H g M) (hQ : Q ((b1 (hoF H) - (1 : Int32)) &&& (bs (lt H g) (hoF H) ^^^ (-1 : Int32))) M) : c_X12_darkBits_70 3 M Q := by
  have a := hW.2.1.1
  refine v_X12_darkBits_70 ?_
  rw [d_cn a.1, a.1, b1_of hW.2.1.2.1.1]
  exact ⟨by omega, y_litBits hW hL hQ⟩
theorem r_goneBits {Q : Int32 → dM → Prop} {M : dM} (hK : KR H S P L s M) (hQ : ∀ r : Int32, Q r M) : c_X12_goneBits_70 1 M Q := by
  have w10 := hK.1.1.2.1
  have a := hK.1.2.1.1
  have loop : ∀ (t w : Nat) (x1 x2 : Int32), w + t = hoW H → x2.toInt = (w : Int) → j_X12_goneBits_70_4 1 x1 x2 M Q := by
    intro t
    induction t with
    | zero =>
      intro w x1 x2 hw h2
      refine v_X12_goneBits_70_4 ?_
      rw [d_cn a.1, hK.1.2.1.2.2.1.1, a.1]
      exact ⟨by omega, fun _ => hQ _, fun q => by exfalso; omega⟩
    | succ t ih =>
      intro w x1 x2 hw h2
      have e10 := d_add (k := x2) (K := w) (x := (10 : Int32)) (i := 10) (by decide) h2 (by omega)
      have on : ∀ y : Int32, j_X12_goneBits_70_36 1 y x2 M Q := fun y => v_X12_goneBits_70_36 (ih (w + 1) _ _ (by omega) (d_inc h2 (by omega)))
      refine v_X12_goneBits_70_4 ?_
      rw [d_cn a.1, hK.1.2.1.2.2.1.1, a.1]
      exact ⟨by omega, fun q => by exfalso; omega, fun _ => ⟨by omega, fun _ => on _, fun _ => on _⟩⟩
  exact v_X12_goneBits_70 (loop (hoW H) 0 _ _ (by omega) (by decide))
end RKF
end
section
/-! THE REFERENCE: questions leave how it stands, 3 -/
section RKG
variable {H : Ho} {S : Zt} {P : List Zt} {L : Nat → Zt} {s : Nat} {m : dM}
theorem r_cut {x1 x2 : Int32} {Q : Int32 → dM → Prop} (hK : KR H S P L s m) (hQ : ∀ (r : Int32) (m' : dM), RsF m m' → Q r m') : c_X12_cut_70 8 x1 x2 m Q := by
  have f7 := hK.1.1.1
  have w10 := hK.1.1.2.1
  have no : j_X12_cut_70_17 8 m Q := v_X12_cut_70_17 (hQ _ m (RsF.rf m))
  refine v_X12_cut_70 (Wp.deep (y_isFlatr hK.1 (fun hu => ⟨fun z => absurd z (by decide), fun _ => Wp.deep (y_in (fun h => ⟨fun _ => Wp.deep (r_goneBits hK (fun r3 => ?_)) (Nat.le_of_ble_eq_true rfl), fun z => absurd z (by decide)⟩) (fun _ => ⟨fun z => absurd rfl z, fun _ => no⟩)) (Nat.le_of_ble_eq_true rfl)⟩) (fun hu => ⟨fun _ => no, fun z => absurd rfl z⟩)) (Nat.le_of_ble_eq_true rfl))
  have hx := toNat_of hu.1
  have b := b1_le (u := hoW H) (by omega)
  have bt' : ∀ (y : Int32) (M : dM) (Q' : Int32 → dM → Prop), (∀ r : Int32, Q' r M) → c_X12_bits 7 y M Q' := fun y M Q' h => Wp.deep (r_bits h) (Nat.le_of_ble_eq_true rfl)
  have loop : ∀ (t : Nat) (x4 x5 : Int32) (M : dM), x5.toInt + (t : Int) = 1025 → 0 ≤ x5.toInt → RsF m M → j_X12_cut_70_30 8 x1 x2 r3 x4 x5 M Q := by
    intro t
    induction t with
    | zero =>
      intro x4 x5 M h5 h0 fM
      have hKM := hK.rs fM
      have a := hKM.1.2.1.1
      refine v_X12_cut_70_30 ?_
      rw [d_cn a.1, b1_of hKM.1.2.1.2.2.1.1]
      exact ⟨by omega, fun _ => ⟨fun _ => ⟨fun _ => Wp.deep (r_ith (fun r => hQ _ M fM)) (Nat.le_of_ble_eq_true rfl), fun _ => bt' _ M _ (fun r => hQ _ M fM)⟩, fun _ => hQ _ M fM⟩, fun q => by exfalso; omega⟩
    | succ t ih =>
      intro x4 x5 M h5 h0 fM
      have hKM := hK.rs fM
      have a := hKM.1.2.1.1
      have f := dAddE (X := x5.toInt) (Y := 1) (x := x5) (y := (1 : Int32)) rfl (by decide) (by omega) (by omega)
      refine v_X12_cut_70_30 ?_
      rw [d_cn a.1, b1_of hKM.1.2.1.2.2.1.1]
      refine ⟨by omega, fun _ => ⟨fun _ => ⟨fun _ => Wp.deep (r_ith (fun r => hQ _ M fM)) (Nat.le_of_ble_eq_true rfl), fun _ => bt' _ M _ (fun r => hQ _ M fM)⟩, fun _ => hQ _ M fM⟩, fun q => ?_⟩
      have on : ∀ (y : Int32) (M1 : dM), RsF m M1 → j_X12_cut_70_127 8 x1 x2 r3 y x5 M1 Q := fun y M1 f1 => v_X12_cut_70_127 (ih _ _ M1 (by omega) (by omega) f1)
      have tr : j_X12_cut_70_109 8 x1 x2 r3 x4 x5 M Q := v_X12_cut_70_109 (y_loses hK fM (fun M1 f1 W1 L1 => Wp.deep (y_isLit L1 hx (by omega) (fun _ => ⟨fun _ => on _ M1 f1, fun _ => on _ M1 f1⟩) (fun _ => ⟨fun _ => on _ M1 f1, fun _ => on _ M1 f1⟩)) (Nat.le_of_ble_eq_true rfl)))
      exact bt' _ M _ (fun _ => ⟨fun _ => on _ M fM, fun _ => ⟨fun _ => ⟨fun _ => tr, fun _ => bt' _ M _ (fun _ => bt' _ M _ (fun _ => ⟨fun _ => on _ M fM, fun _ => bt' _ M _ (fun _ => bt' _ M _ (fun _ => ⟨fun _ => tr, fun _ => Wp.deep (r_earlier (fun _ => ⟨fun _ => tr, fun _ => on _ M fM⟩)) (Nat.le_of_ble_eq_true rfl)⟩))⟩))⟩, fun _ => on _ M fM⟩⟩)
  exact loop 1025 _ _ m (by decide) (by decide) (RsF.rf m)
theorem r_share {x1 x2 : Int32} {Q : Int32 → dM → Prop} (hK : KR H S P L s m) (hQ : ∀ (r : Int32) (m' : dM), RsF m m' → Q r m') : c_X12_share_70 7 x1 x2 m Q := by
  have f7 := hK.1.1.1
  have no : j_X12_share_70_16 7 m Q := v_X12_share_70_16 (hQ _ m (RsF.rf m))
  refine v_X12_share_70 (Wp.deep (y_isFlatr hK.1 (fun hu => ⟨fun z => absurd z (by decide), fun _ => Wp.deep (y_isWire hK.1.2.1 (fun hw => ⟨fun _ => ?_, fun z => absurd z (by decide)⟩) (fun _ => ⟨fun z => absurd rfl z, fun _ => no⟩)) (Nat.le_of_ble_eq_true rfl)⟩) (fun hu => ⟨fun _ => no, fun z => absurd rfl z⟩)) (Nat.le_of_ble_eq_true rfl))
  have hx := toNat_of hu.1
  exact y_copies hK.1 hK.2.1 (fun M f cy _ _ => ⟨by omega, fun _ => hQ _ M f, fun _ => Wp.deep (y_ampsOn cy hx (hQ _ M f)) (Nat.le_of_ble_eq_true rfl)⟩)
theorem r_without {x1 : Int32} {Q : Int32 → dM → Prop} (hK : KR H S P L s m) (hQ : ∀ (r : Int32) (m' : dM), RsF m m' → Q r m') : c_X12_without_70 8 x1 m Q :=
  v_X12_without_70 (Wp.deep (y_isWire hK.1.2.1 (fun hu => ⟨fun _ => y_loses hK (RsF.rf m) (fun M f W1 L1 => Wp.deep (y_darkBits W1 L1 (hQ _ M f)) (Nat.le_of_ble_eq_true rfl)), fun z => absurd z (by decide)⟩) (fun hu => ⟨fun z => absurd rfl z, fun _ => hQ _ m (RsF.rf m)⟩)) (Nat.le_of_ble_eq_true rfl))
theorem r_needed {Q : Int32 → dM → Prop} (hK : KR H S P L s m) (hQ : ∀ (r : Int32) (m' : dM), RsF m m' → Q r m') : c_X12_needed_70 8 m Q := by
  have w10 := hK.1.1.2.1
  have loop : ∀ (t w : Nat) (x1 x2 x3 : Int32) (M : dM), w + t = hoW H → x3.toInt = (w : Int) → RsF m M → j_X12_needed_70_13 8 x1 x2 x3 M Q := by
    intro t
    induction t with
    | zero =>
      intro w x1 x2 x3 M hw h3 fM
      have hKM := hK.rs fM
      have a := hKM.1.2.1.1
      refine v_X12_needed_70_13 ?_
      rw [d_cn a.1, hKM.1.2.1.2.2.1.1, a.1]
      exact ⟨by omega, fun _ => hQ _ M fM, fun q => by exfalso; omega⟩
    | succ t ih =>
      intro w x1 x2 x3 M hw h3 fM
      have hKM := hK.rs fM
      have a := hKM.1.2.1.1
      have e10 := d_add (k := x3) (K := w) (x := (10 : Int32)) (i := 10) (by decide) h3 (by omega)
      have on : ∀ (y : Int32) (M1 : dM), RsF m M1 → j_X12_needed_70_63 8 x1 y x3 M1 Q := fun y M1 f1 => v_X12_needed_70_63 (ih (w + 1) _ _ _ M1 (by omega) (d_inc h3 (by omega)) f1)
      refine v_X12_needed_70_13 ?_
      rw [d_cn a.1, hKM.1.2.1.2.2.1.1, a.1]
      exact ⟨by omega, fun q => by exfalso; omega, fun _ => ⟨by omega, fun _ => y_loses hK fM (fun M1 f1 W1 L1 => Wp.deep (y_darkBits W1 L1 ⟨fun _ => on _ M1 f1, fun _ => on _ M1 f1⟩) (Nat.le_of_ble_eq_true rfl)), fun _ => on _ M fM⟩⟩
  exact v_X12_needed_70 (Wp.deep (y_copies hK.1 hK.2.1 (fun M f cy _ _ => Wp.deep (y_darkBits cy.1 cy.2.2 (loop (hoW H) 0 _ _ _ M (by omega) (by decide) f)) (Nat.le_of_ble_eq_true rfl))) (Nat.le_of_ble_eq_true rfl))
theorem r_hottest {x1 : Int32} {Q : Int32 → dM → Prop} (hK : KR H S P L s m) (hQ : ∀ (r : Int32) (m' : dM), RsF m m' → Q r m') : c_X12_hottest_70 7 x1 m Q := by
  have w10 := hK.1.1.2.1
  refine v_X12_hottest_70 (Wp.deep (y_in (fun h => ⟨fun _ => y_copies hK.1 hK.2.1 (fun M f cy _ _ => Wp.deep (y_onNow cy ?_) (Nat.le_of_ble_eq_true rfl)), fun z => absurd z (by decide)⟩) (fun _ => ⟨fun z => absurd rfl z, fun _ => hQ _ m (RsF.rf m)⟩)) (Nat.le_of_ble_eq_true rfl))
  have a := cy.1.2.1.1
  have loop : ∀ (t w : Nat) (x2 x3 x4 x5 : Int32), w + t = hoW H → x5.toInt = (w : Int) → j_X12_hottest_70_34 7 x1 x2 x3 x4 x5 M Q := by
    intro t
    induction t with
    | zero =>
      intro w x2 x3 x4 x5 hw h5
      refine v_X12_hottest_70_34 ?_
      rw [d_cn a.1, cy.1.2.1.2.2.1.1, a.1]
      exact ⟨by omega, fun _ => ⟨fun _ => hQ _ M f, fun _ => hQ _ M f⟩, fun q => by exfalso; omega⟩
    | succ t ih =>
      intro w x2 x3 x4 x5 hw h5
      have on : ∀ y z : Int32, j_X12_hottest_70_95 7 x1 x2 y z x5 M Q := fun y z => v_X12_hottest_70_95 (ih (w + 1) _ _ _ _ (by omega) (d_inc h5 (by omega)))
      have on2 : ∀ y : Int32, j_X12_hottest_70_88 7 x1 x2 x5 y M Q := fun y => v_X12_hottest_70_88 (on _ _)
      refine v_X12_hottest_70_34 ?_
      rw [d_cn a.1, cy.1.2.1.2.2.1.1, a.1]
      exact ⟨by omega, fun q => by exfalso; omega, fun _ => Wp.deep (y_loadBy cy.1 cy.2.2 h5 (by omega) ⟨by omega, Wp.deep (y_isWhole cy.1.2.1 (cy.2.1.rg (r := 0)) h5 (by omega) (fun _ => ⟨fun z => absurd z (by decide), fun _ => ⟨fun _ => on2 _, fun _ => ⟨fun _ => on2 _, fun _ => on _ _⟩⟩⟩) (fun _ => ⟨fun _ => on _ _, fun z => absurd rfl z⟩)) (Nat.le_of_ble_eq_true rfl)⟩) (Nat.le_of_ble_eq_true rfl)⟩
  exact loop (hoW H) 0 _ _ _ _ (by omega) (by decide)
theorem r_clash {x1 x2 : Int32} {Q : Int32 → dM → Prop} (hK : KR H S P L s m) (hQ : ∀ (r : Int32) (m' : dM), RsF m m' → Q r m') : c_X12_clash_70 7 x1 x2 m Q := by
  obtain ⟨o1, o2, o3, o4, o5, o6⟩ := hK.1.1
  have no : j_X12_clash_70_21 7 m Q := v_X12_clash_70_21 (hQ _ m (RsF.rf m))
  refine v_X12_clash_70 (Wp.deep (y_isUser hK.1 (fun hu => ⟨fun z => absurd z (by decide), fun _ => Wp.deep (y_isUser hK.1 (fun hv => ⟨fun z => absurd z (by decide), fun _ => ⟨fun _ => ?_, fun _ => no⟩⟩) (fun _ => ⟨fun _ => no, fun z => absurd rfl z⟩)) (Nat.le_of_ble_eq_true rfl)⟩) (fun hu => ⟨fun _ => no, fun z => absurd rfl z⟩)) (Nat.le_of_ble_eq_true rfl))
  have hx := toNat_of hu.1
  have hy := toNat_of hv.1
  refine y_copies hK.1 hK.2.1 (fun M f cy _ _ => ?_)
  have c1 := (o5 x1.toNatClampNeg (by omega)).1
  have c2 := (o5 x2.toNatClampNeg (by omega)).1
  have n0 : j_X12_clash_70_51 7 M Q := v_X12_clash_70_51 (hQ _ M f)
  have go : ∀ (on h : Int32) (M1 : dM) (Q' : Int32 → dM → Prop), RsF m M1 → CY H S s M1 → (∀ (r : Int32) (M2 : dM), RsF m M2 → CY H S s M2 → Q' r M2) → c_X12_goingBits_70 6 on h (0 : Int32) M1 Q' := fun on h M1 Q' f1 c1 hq => Wp.deep (y_goingBits c1.1 c1.2.1 c1.2.2 (fun M2 f2 => hq _ M2 (f1.tr f2.rs) (c1.xa f2))) (Nat.le_of_ble_eq_true rfl)
  exact Wp.deep (y_flatAt cy.1 hx (by omega) (fun r hr => Wp.deep (y_isLit cy.2.2 hr (by omega) (fun _ => ⟨fun z => absurd z (by decide), fun _ => Wp.deep (y_flatAt cy.1 hy (by omega) (fun r2 hr2 => Wp.deep (y_isLit cy.2.2 hr2 (by omega) (fun _ => ⟨fun _ => go _ _ M _ f cy (fun _ M2 f2 c2 => go _ _ M2 _ f2 c2 (fun _ M3 f3 c3 => go _ _ M3 _ f3 c3 (fun _ M4 f4 c4 => Wp.deep (r_bits (fun r => hQ _ M4 f4)) (Nat.le_of_ble_eq_true rfl)))), fun z => absurd z (by decide)⟩) (fun _ => ⟨fun z => absurd rfl z, fun _ => n0⟩)) (Nat.le_of_ble_eq_true rfl))) (Nat.le_of_ble_eq_true rfl)⟩) (fun _ => ⟨fun _ => n0, fun z => absurd rfl z⟩)) (Nat.le_of_ble_eq_true rfl))) (Nat.le_of_ble_eq_true rfl)
theorem r_then {x1 x2 : Int32} {Q : Int32 → dM → Prop} (hK : KR H S P L s m) (hO : zOk H S) (hQ : ∀ (r : Int32) (m' : dM), RsF m m' → Q r m') : c_X12_then_70 8 x1 x2 m Q := by
  have w10 := hK.1.1.2.1
  have no : j_X12_then_70_16 8 m Q := v_X12_then_70_16 (hQ _ m (RsF.rf m))
  refine v_X12_then_70 (Wp.deep (y_isLong (fun h => ⟨fun z => absurd z (by decide), fun _ => Wp.deep (y_in (fun h2 => ⟨fun _ => Wp.deep (y_copies hK.1 hK.2.1 (fun M f cy a6 a7 => y_goes cy hO a6 a7 (toNat_of h.1) (by have := toNat_of h.1; omega) (fun M2 f2 c2 => ?_))) (Nat.le_of_ble_eq_true rfl), fun z => absurd z (by decide)⟩) (fun _ => ⟨fun z => absurd rfl z, fun _ => no⟩)) (Nat.le_of_ble_eq_true rfl)⟩) (fun _ => ⟨fun _ => no, fun z => absurd rfl z⟩)) (Nat.le_of_ble_eq_true rfl))
  have F2 := f.tr f2
  have a := c2.1.2.1.1
  have e0 := ti_0
  refine ⟨fun _ => ?_, fun q => ?_⟩
  · have loop : ∀ (t w : Nat) (x3 x4 : Int32), w + t = hoW H → x4.toInt = (w : Int) → j_X12_then_70_57 8 x3 x4 M2 Q := by
      intro t
      induction t with
      | zero =>
        intro w x3 x4 hw h4
        refine v_X12_then_70_57 ?_
        rw [d_cn a.1, c2.1.2.1.2.2.1.1, a.1]
        exact ⟨by omega, fun _ => hQ _ M2 F2, fun q => by exfalso; omega⟩
      | succ t ih =>
        intro w x3 x4 hw h4
        have e10 := d_add (k := x4) (K := w) (x := (10 : Int32)) (i := 10) (by decide) h4 (by omega)
        refine v_X12_then_70_57 ?_
        rw [d_cn a.1, c2.1.2.1.2.2.1.1, a.1]
        exact ⟨by omega, fun q => by exfalso; omega, fun _ => ⟨by omega, ih (w + 1) _ _ (by omega) (d_inc h4 (by omega))⟩⟩
    exact loop (hoW H) 0 _ _ (by omega) (by decide)
  · have f56 := dAddE (X := 56) (Y := x2.toInt) (x := (56 : Int32)) (y := x2) (by decide) rfl (by omega) (by omega)
    exact ⟨by omega, by omega, hQ _ M2 F2⟩
theorem r_litIn {x1 x2 : Int32} {Q : Int32 → dM → Prop} (hK : KR H S P L s m) (hO : zOk H S) (hQ : ∀ (r : Int32) (m' : dM), RsF m m' → Q r m') : c_X12_litIn_70 8 x1 x2 m Q := by
  have f7 := hK.1.1.1
  have no : j_X12_litIn_70_15 8 m Q := v_X12_litIn_70_15 (hQ _ m (RsF.rf m))
  exact v_X12_litIn_70 (Wp.deep (y_isFlatr hK.1 (fun hu => ⟨fun z => absurd z (by decide), fun _ => Wp.deep (y_isLong (fun h => ⟨fun _ => Wp.deep (y_copies hK.1 hK.2.1 (fun M f cy a6 a7 => y_goes cy hO a6 a7 (toNat_of h.1) (by have := toNat_of h.1; omega) (fun M2 f2 c2 => Wp.deep (y_isLit c2.2.2 (toNat_of hu.1) (by have := toNat_of hu.1; omega) (fun _ => ⟨fun _ => hQ _ M2 (f.tr f2), fun _ => hQ _ M2 (f.tr f2)⟩) (fun _ => ⟨fun _ => hQ _ M2 (f.tr f2), fun _ => hQ _ M2 (f.tr f2)⟩)) (Nat.le_of_ble_eq_true rfl)))) (Nat.le_of_ble_eq_true rfl), fun z => absurd z (by decide)⟩) (fun _ => ⟨fun z => absurd rfl z, fun _ => no⟩)) (Nat.le_of_ble_eq_true rfl)⟩) (fun hu => ⟨fun _ => no, fun z => absurd rfl z⟩)) (Nat.le_of_ble_eq_true rfl))
theorem r_year {x1 x2 : Int32} {Q : Int32 → dM → Prop} (hK : KR H S P L s m) (hO : zOk H S) (hQ : ∀ (r : Int32) (m' : dM), RsF m m' → Q r m') : c_X12_year_70 7 x1 x2 m Q := by
  have no : j_X12_year_70_17 7 m Q := v_X12_year_70_17 (hQ _ m (RsF.rf m))
  refine v_X12_year_70 (Wp.deep (y_isLong (fun h => ⟨fun z => absurd z (by decide), fun _ => Wp.deep (y_in (fun h2 => ⟨fun _ => ?_, fun z => absurd z (by decide)⟩) (fun _ => ⟨fun z => absurd rfl z, fun _ => no⟩)) (Nat.le_of_ble_eq_true rfl)⟩) (fun _ => ⟨fun _ => no, fun z => absurd rfl z⟩)) (Nat.le_of_ble_eq_true rfl))
  have e1 := ti_1
  have e20 := ti_20
  have e0 := ti_0
  have l24 : ∀ (t : Nat) (x3 x4 : Int32) (M : dM), x4.toInt + (t : Int) = x2.toInt → 0 ≤ x4.toInt → RsF m M → j_X12_year_70_24 7 x1 x2 x3 x4 M Q := by
    intro t
    induction t with
    | zero => intro x3 x4 M h4 h04 fM; exact v_X12_year_70_24 ⟨fun _ => hQ _ M fM, fun q => by exfalso; omega⟩
    | succ t ih =>
      intro x3 x4 M h4 h04 fM
      have hKM := hK.rs fM
      have f4 := dAddE (X := x4.toInt) (Y := 1) (x := x4) (y := (1 : Int32)) rfl (by decide) (by omega) (by omega)
      have l85 : ∀ (y : Int32) (M1 : dM), RsF m M1 → j_X12_year_70_85 7 x1 x2 y x4 M1 Q := fun y M1 f1 => v_X12_year_70_85 (ih _ _ M1 (by omega) (by omega) f1)
      refine v_X12_year_70_24 ⟨fun q => by exfalso; omega, fun _ => y_copies hKM.1 hKM.2.1 (fun M1 f1 cy _ _ => ?_)⟩
      have l51 : ∀ (t2 : Nat) (x5 x6 : Int32) (T : Zt) (M2 : dM), x6.toInt + (t2 : Int) = x1.toInt → 0 ≤ x6.toInt → RsF m M2 → CY H T s M2 → zOk H T → j_X12_year_70_51 7 x1 x2 x3 x4 x5 x6 M2 Q := by
        intro t2
        induction t2 with
        | zero => intro x5 x6 T M2 h6 h06 f2 c2 hT; exact v_X12_year_70_51 ⟨fun _ => ⟨fun _ => l85 _ M2 f2, fun _ => l85 _ M2 f2⟩, fun q => by exfalso; omega⟩
        | succ t2 ih2 =>
          intro x5 x6 T M2 h6 h06 f2 c2 hT
          have f6 := dAddE (X := x6.toInt) (Y := 1) (x := x6) (y := (1 : Int32)) rfl (by decide) (by omega) (by omega)
          exact v_X12_year_70_51 ⟨fun q => by exfalso; omega, fun _ => r_hour c2 hT f2 (fun T' M3 f3 c3 h3 => ⟨fun _ => v_X12_year_70_71 (ih2 _ _ T' M3 (by omega) (by omega) f3 c3 h3), fun _ => v_X12_year_70_71 (ih2 _ _ T' M3 (by omega) (by omega) f3 c3 h3)⟩)⟩
      exact l51 x1.toNatClampNeg _ _ S _ (by have := toNat_of h.1; omega) (by decide) ((fM.tr f1).s70 (by decide)) ⟨cy.1.rs ((RsF.rf M1).s70 (by decide)), cy.2.1.of (dSet_k (by decide)), cy.2.2.of (dSet_k (by decide)) (dSet_k (by decide))⟩ hO
  exact l24 x2.toNatClampNeg _ _ m (by have := toNat_of (x := x2) (by omega); omega) (by decide) (RsF.rf m)
theorem r_wentBits {x1 : Int32} {Q : Int32 → dM → Prop} (hK : KR H S P L s m) (h1 : x1.toInt ≤ 20) (hQ : ∀ (r : Int32) (m' : dM), RsF m m' → Q r m') : c_X12_wentBits_70 8 x1 m Q := by
  have w10 := hK.1.1.2.1
  have loop : ∀ (t w : Nat) (x2 x3 : Int32) (M : dM), w + t = hoW H → x3.toInt = (w : Int) → RsF m M → j_X12_wentBits_70_4 8 x1 x2 x3 M Q := by
    intro t
    induction t with
    | zero =>
      intro w x2 x3 M hw h3 fM
      have hKM := hK.rs fM
      have a := hKM.1.2.1.1
      refine v_X12_wentBits_70_4 ?_
      rw [d_cn a.1, hKM.1.2.1.2.2.1.1, a.1]
      exact ⟨by omega, fun _ => hQ _ M fM, fun q => by exfalso; omega⟩
    | succ t ih =>
      intro w x2 x3 M hw h3 fM
      have hKM := hK.rs fM
      have a := hKM.1.2.1.1
      have e10 := d_add (k := x3) (K := w) (x := (10 : Int32)) (i := 10) (by decide) h3 (by omega)
      have on : ∀ (y : Int32) (M1 : dM), RsF m M1 → j_X12_wentBits_70_108 8 x1 y x3 M1 Q := fun y M1 f1 => v_X12_wentBits_70_108 (ih (w + 1) _ _ M1 (by omega) (d_inc h3 (by omega)) f1)
      refine v_X12_wentBits_70_4 ?_
      rw [d_cn a.1, hKM.1.2.1.2.2.1.1, a.1]
      refine ⟨by omega, fun q => by exfalso; omega, fun _ => ⟨by omega, fun _ => y_loses hK fM (fun M1 f1 W1 L1 => Wp.deep (y_litBits W1 L1 ⟨by omega, ?_⟩) (Nat.le_of_ble_eq_true rfl)), fun _ => on _ M fM⟩⟩
      have F2 : ∀ v : Int32, RsF m (dSet M1 114 x3.toNatClampNeg v) := fun v => ⟨fun k q1 q2 q3 => by rw [dSet_k q3]; exact f1.1 k q1 q2 q3, fun j q1 q2 q3 q4 => by rw [dSet_k (by decide)]; exact f1.2.1 j q1 q2 q3 q4, f1.2.2⟩
      have l56 : ∀ (v : Int32) (t2 : Nat) (x4 x5 : Int32), x5.toInt + (t2 : Int) = 20 → 0 ≤ x5.toInt → j_X12_wentBits_70_56 8 x1 x2 x3 x4 x5 (dSet M1 114 x3.toNatClampNeg v) Q := by
        intro v t2
        induction t2 with
        | zero => intro x4 x5 h5 h05; exact v_X12_wentBits_70_56 ⟨fun _ => ⟨fun _ => on _ _ (F2 v), fun _ => on _ _ (F2 v)⟩, fun q => by exfalso; omega⟩
        | succ t2 ih2 =>
          intro x4 x5 h5 h05
          have f5 := dAddE (X := x5.toInt) (Y := 1) (x := x5) (y := (1 : Int32)) rfl (by decide) (by omega) (by omega)
          exact v_X12_wentBits_70_56 ⟨fun _ => ⟨fun _ => on _ _ (F2 v), fun _ => on _ _ (F2 v)⟩, fun q => ⟨by omega, by omega, by omega, fun _ => v_X12_wentBits_70_91 (ih2 _ _ (by omega) (by omega)), fun _ => v_X12_wentBits_70_91 (ih2 _ _ (by omega) (by omega))⟩⟩
      exact l56 _ 20 _ _ (by decide) (by decide)
  exact v_X12_wentBits_70 (loop (hoW H) 0 _ _ m (by omega) (by decide) (RsF.rf m))
theorem r_went {x1 x2 : Int32} {Q : Int32 → dM → Prop} (hK : KR H S P L s m) (h63 : (m.1 70 63).toInt ≤ 20) (hQ : ∀ (r : Int32) (m' : dM), RsF m m' → Q r m') : c_X12_went_70 9 x1 x2 m Q := by
  have no : j_X12_went_70_21 9 m Q := v_X12_went_70_21 (hQ _ m (RsF.rf m))
  exact v_X12_went_70 (Wp.deep (y_in (fun h => ⟨fun z => absurd z (by decide), fun _ => Wp.deep (y_in (fun h2 => ⟨fun _ => r_wentBits hK (by omega) (fun r M f => ⟨fun _ => hQ _ M f, fun _ => Wp.deep (r_bits (fun r => hQ _ M f)) (Nat.le_of_ble_eq_true rfl)⟩), fun z => absurd z (by decide)⟩) (fun _ => ⟨fun z => absurd rfl z, fun _ => no⟩)) (Nat.le_of_ble_eq_true rfl)⟩) (fun _ => ⟨fun _ => no, fun z => absurd rfl z⟩)) (Nat.le_of_ble_eq_true rfl))
theorem r_ask {x1 : Int32} {Q : Int32 → dM → Prop} (hK : KR H S P L s m) (h63 : (m.1 70 63).toInt ≤ 20) (hQ : ∀ (r : Int32) (m' : dM), RsF m m' → Q r m') : c_X12_ask_70 9 x1 m Q := by
  have f7 := hK.1.1.1
  have w10 := hK.1.1.2.1
  refine v_X12_ask_70 (Wp.deep (y_in (fun h => ⟨fun _ => r_wentBits hK (by omega) (fun r2 M f => ?_), fun z => absurd z (by decide)⟩) (fun _ => ⟨fun z => absurd rfl z, fun _ => hQ _ m (RsF.rf m)⟩)) (Nat.le_of_ble_eq_true rfl))
  have hKM := hK.rs f
  have a := hKM.1.2.1.1
  have fin : ∀ y : Int32, j_X12_ask_70_153 9 y M Q := fun y => v_X12_ask_70_153 (hQ _ M f)
  have loop : ∀ (t g : Nat) (x3 x4 x5 : Int32), g + t = hoF H → x5.toInt = (g : Int) → j_X12_ask_70_29 9 r2 x3 x4 x5 M Q := by
    intro t
    induction t with
    | zero =>
      intro g x3 x4 x5 hg h5
      refine v_X12_ask_70_29 ?_
      rw [d_cn a.1, hKM.1.2.1.2.1.1, a.1]
      exact ⟨by omega, fun _ => fin _, fun q => by exfalso; omega⟩
    | succ t ih =>
      intro g x3 x4 x5 hg h5
      have on : ∀ y z : Int32, j_X12_ask_70_147 9 r2 y z x5 M Q := fun y z => v_X12_ask_70_147 (ih (g + 1) _ _ _ (by omega) (d_inc h5 (by omega)))
      have on2 : ∀ y : Int32, j_X12_ask_70_140 9 r2 x5 y M Q := fun y => v_X12_ask_70_140 (on _ _)
      have inner : ∀ (u w : Nat) (x6 x7 : Int32), w + u = hoW H → x7.toInt = (w : Int) → j_X12_ask_70_53 9 r2 x3 x4 x5 x6 x7 M Q := by
        intro u
        induction u with
        | zero =>
          intro w x6 x7 hw h7
          refine v_X12_ask_70_53 ?_
          rw [d_cn a.1, hKM.1.2.1.2.2.1.1, a.1]
          exact ⟨by omega, fun _ => Wp.deep (r_bits (fun r => ⟨fun _ => Wp.deep (r_bits (fun r => ⟨fun _ => on2 _, fun _ => ⟨fun _ => on2 _, fun _ => on _ _⟩⟩)) (Nat.le_of_ble_eq_true rfl), fun _ => ⟨fun _ => on2 _, fun _ => ⟨fun _ => on2 _, fun _ => on _ _⟩⟩⟩)) (Nat.le_of_ble_eq_true rfl), fun q => by exfalso; omega⟩
        | succ u ih2 =>
          intro w x6 x7 hw h7
          have n94 : ∀ y : Int32, j_X12_ask_70_94 9 r2 x3 x4 x5 y x7 M Q := fun y => v_X12_ask_70_94 (ih2 (w + 1) _ _ (by omega) (d_inc h7 (by omega)))
          refine v_X12_ask_70_53 ?_
          rw [d_cn a.1, hKM.1.2.1.2.2.1.1, a.1]
          exact ⟨by omega, fun q => by exfalso; omega, fun _ => ⟨fun _ => n94 _, fun _ => ⟨by omega, n94 _⟩⟩⟩
      refine v_X12_ask_70_29 ?_
      rw [d_cn a.1, hKM.1.2.1.2.1.1, a.1]
      exact ⟨by omega, fun q => by exfalso; omega, fun _ => ⟨fun _ => fin _, fun _ => inner (hoW H) 0 _ _ (by omega) (by decide)⟩⟩
  exact loop (hoF H) 0 _ _ _ (by omega) (by decide)
theorem r_count {x1 : Int32} {Q : Int32 → dM → Prop} (hK : KR H S P L s m) (hQ : ∀ (r : Int32) (m' : dM), RsF m m' → Q r m') : c_X12_count_70 7 x1 m Q := by
  have w10 := hK.1.1.2.1
  refine v_X12_count_70 (y_copies hK.1 hK.2.1 (fun M f cy _ _ => ?_))
  have a := cy.1.2.1.1
  have q0 : ∀ r : Int32, Q r M := fun r => hQ r M f
  have l228 : ∀ (t w : Nat) (x2 x3 : Int32), w + t = hoW H → x3.toInt = (w : Int) → j_X12_count_70_228 7 x2 x3 M Q := by
    intro t
    induction t with
    | zero =>
      intro w x2 x3 hw h3
      refine v_X12_count_70_228 ?_
      rw [d_cn a.1, cy.1.2.1.2.2.1.1, a.1]
      exact ⟨by omega, fun _ => q0 _, fun q => by exfalso; omega⟩
    | succ t ih =>
      intro w x2 x3 hw h3
      have e30 := d_add (k := x3) (K := w) (x := (30 : Int32)) (i := 30) (by decide) h3 (by omega)
      refine v_X12_count_70_228 ?_
      rw [d_cn a.1, cy.1.2.1.2.2.1.1, a.1]
      exact ⟨by omega, fun q => by exfalso; omega, fun _ => ⟨by omega, ih (w + 1) _ _ (by omega) (d_inc h3 (by omega))⟩⟩
  have l265 : ∀ (t w : Nat) (x2 x3 : Int32), w + t = hoW H → x3.toInt = (w : Int) → j_X12_count_70_265 7 x2 x3 M Q := by
    intro t
    induction t with
    | zero =>
      intro w x2 x3 hw h3
      refine v_X12_count_70_265 ?_
      rw [d_cn a.1, cy.1.2.1.2.2.1.1, a.1]
      exact ⟨by omega, fun _ => q0 _, fun q => by exfalso; omega⟩
    | succ t ih =>
      intro w x2 x3 hw h3
      have on : ∀ y : Int32, j_X12_count_70_295 7 y x3 M Q := fun y => v_X12_count_70_295 (ih (w + 1) _ _ (by omega) (d_inc h3 (by omega)))
      refine v_X12_count_70_265 ?_
      rw [d_cn a.1, cy.1.2.1.2.2.1.1, a.1]
      exact ⟨by omega, fun q => by exfalso; omega, fun _ => Wp.deep (y_isWhole cy.1.2.1 (cy.2.1.rg (r := 0)) h3 (by omega) (fun _ => ⟨fun z => absurd z (by decide), fun _ => ⟨by omega, on _⟩⟩) (fun _ => ⟨fun _ => on _, fun z => absurd rfl z⟩)) (Nat.le_of_ble_eq_true rfl)⟩
  have hKM := hK.rs f
  exact ⟨fun _ => ⟨by omega, q0 _⟩, fun _ => ⟨by omega, q0 _⟩, fun _ => ⟨by omega, q0 _⟩, fun _ => q0 _, fun _ => q0 _, fun _ => q0 _, fun _ => Wp.deep (r_goneBits hKM q0) (Nat.le_of_ble_eq_true rfl), fun _ => Wp.deep (y_litBits cy.1 cy.2.2 (q0 _)) (Nat.le_of_ble_eq_true rfl), fun _ => Wp.deep (y_onNow cy (q0 _)) (Nat.le_of_ble_eq_true rfl), fun _ => q0 _, fun _ => q0 _, fun _ => q0 _, fun _ => ⟨fun _ => ⟨fun _ => ⟨fun _ => q0 _, fun _ => q0 _⟩, fun _ => ⟨fun _ => q0 _, fun _ => q0 _⟩⟩, fun _ => ⟨fun _ => ⟨fun _ => q0 _, fun _ => q0 _⟩, fun _ => ⟨fun _ => q0 _, fun _ => q0 _⟩⟩⟩, fun _ => Wp.deep (y_isSurge cy.1 cy.2.1.1.1 ⟨fun _ => q0 _, fun _ => q0 _⟩) (Nat.le_of_ble_eq_true rfl), fun _ => l228 (hoW H) 0 _ _ (by omega) (by decide), fun _ => l265 (hoW H) 0 _ _ (by omega) (by decide), fun _ => q0 _⟩
end RKG
end
section
/-! THE CODES of an expression, as a function of its tokens -/
def opc (w : Int) : Int32 := if w = 43 then 0 else if w = 45 then 1 else if w = 42 then 2 else 3
def vcd (k : Int) : Int32 := Int32.ofInt (k - 9)
/-- what waits comes out, until a ( or (st) until a + or - -/
def fl (st : Bool) : List Int → lC → List Int × lC
  | [], o => ([], o)
  | w :: W, o => if w = 40 ∨ (st = true ∧ (w = 43 ∨ w = 45)) then (w :: W, o) else fl st W (o ++ [opc w])
section COD
variable (K : Nat → Int) (V : Nat → Int64)
def sX : Nat → Nat → Bool → Nat → List Int → lC → lC
  | 0, _, _, _, _, o => o
  | f + 1, d, false, n, W, o => if K n = 23 then sX f d true (n + 1) W (o ++ [13 + (V n).toInt32]) else if 13 ≤ K n ∧ K n ≤ 21 then sX f d true (n + 1) W (o ++ [vcd (K n)]) else if K n = 40 then sX f (d + 1) false (n + 1) (40 :: W) o else o
  | f + 1, d, true, n, W, o => if K n = 42 ∨ K n = 47 then sX f d false (n + 1) (K n :: (fl true W o).1) (fl true W o).2 else if K n = 43 ∨ K n = 45 then sX f d false (n + 1) (K n :: (fl false W o).1) (fl false W o).2 else if 0 < d ∧ K n = 41 then sX f (d - 1) true (n + 1) (fl false W o).1.tail (fl false W o).2 else (fl false W o).2
def sY (d : Nat) (ph : Bool) (n : Nat) (W : List Int) (o : lC) : lC := sX K V (401 - n) d ph n W o
/-- an expression's codes -/
def cE (n : Nat) : lC := sY K V 0 false n [] []
end COD
section COL
variable {K : Nat → Int} {V : Nat → Int64}
theorem sY_U {d n : Nat} {W : List Int} {o : lC} (hn : n ≤ 400) : sY K V d false n W o = if K n = 23 then sY K V d true (n + 1) W (o ++ [13 + (V n).toInt32]) else if 13 ≤ K n ∧ K n ≤ 21 then sY K V d true (n + 1) W (o ++ [vcd (K n)]) else if K n = 40 then sY K V (d + 1) false (n + 1) (40 :: W) o else o := by
  unfold sY
  rw [show 401 - n = (401 - (n + 1)) + 1 by omega]
  rfl
theorem sY_O {d n : Nat} {W : List Int} {o : lC} (hn : n ≤ 400) : sY K V d true n W o = if K n = 42 ∨ K n = 47 then sY K V d false (n + 1) (K n :: (fl true W o).1) (fl true W o).2 else if K n = 43 ∨ K n = 45 then sY K V d false (n + 1) (K n :: (fl false W o).1) (fl false W o).2 else if 0 < d ∧ K n = 41 then sY K V (d - 1) true (n + 1) (fl false W o).1.tail (fl false W o).2 else (fl false W o).2 := by
  unfold sY
  rw [show 401 - n = (401 - (n + 1)) + 1 by omega]
  rfl
theorem fl_w {st : Bool} {w : Int} {W : List Int} {o : lC} (h : ¬ (w = 40 ∨ (st = true ∧ (w = 43 ∨ w = 45)))) : fl st (w :: W) o = fl st W (o ++ [opc w]) := by
  show (if w = 40 ∨ (st = true ∧ (w = 43 ∨ w = 45)) then (w :: W, o) else fl st W (o ++ [opc w])) = _
  rw [if_neg h]
theorem fl_s {st : Bool} {w : Int} {W : List Int} {o : lC} (h : w = 40 ∨ (st = true ∧ (w = 43 ∨ w = 45))) : fl st (w :: W) o = (w :: W, o) := by
  show (if w = 40 ∨ (st = true ∧ (w = 43 ∨ w = 45)) then (w :: W, o) else fl st W (o ++ [opc w])) = _
  rw [if_pos h]
/-- a * or / that waits may come out at once; a + or - too, where no * or / follows -/
theorem sY_strong {d n : Nat} {w : Int} {W : List Int} {o : lC} (hn : n ≤ 400) (hw : w = 42 ∨ w = 47) : sY K V d true n (w :: W) o = sY K V d true n W (o ++ [opc w]) := by
  rw [sY_O hn, sY_O hn, fl_w (st := true) (by omega), fl_w (st := false) (by omega)]
theorem sY_weak {d n : Nat} {w : Int} {W : List Int} {o : lC} (hn : n ≤ 400) (hw : w = 43 ∨ w = 45) (hk : K n ≠ 42 ∧ K n ≠ 47) : sY K V d true n (w :: W) o = sY K V d true n W (o ++ [opc w]) := by
  have h40 : ¬ (w = 40 ∨ (false = true ∧ (w = 43 ∨ w = 45))) := fun q => by
    rcases q with q | q
    · omega
    · cases q.1
  have h1 : ¬ (K n = 42 ∨ K n = 47) := by omega
  rw [sY_O hn, sY_O hn, if_neg h1, fl_w h40]
  rw [if_neg h1]
/-- what came out ahead stays ahead -/
theorem fl_pre {st : Bool} {p : lC} : ∀ (W : List Int) (o : lC), fl st W (p ++ o) = ((fl st W o).1, p ++ (fl st W o).2)
  | [], o => rfl
  | w :: W, o => by
    by_cases h : w = 40 ∨ (st = true ∧ (w = 43 ∨ w = 45))
    · rw [fl_s h, fl_s h]
    · rw [fl_w h, fl_w h, List.append_assoc, fl_pre W (o ++ [opc w])]
theorem sX_pre {p : lC} : ∀ (f d : Nat) (ph : Bool) (n : Nat) (W : List Int) (o : lC), sX K V f d ph n W (p ++ o) = p ++ sX K V f d ph n W o
  | 0, d, ph, n, W, o => rfl
  | f + 1, d, false, n, W, o => by
    unfold sX
    by_cases h1 : K n = 23
    · rw [if_pos h1, if_pos h1, List.append_assoc]; exact sX_pre f _ _ _ _ _
    · rw [if_neg h1, if_neg h1]
      by_cases h2 : 13 ≤ K n ∧ K n ≤ 21
      · rw [if_pos h2, if_pos h2, List.append_assoc]; exact sX_pre f _ _ _ _ _
      · rw [if_neg h2, if_neg h2]
        by_cases h3 : K n = 40
        · rw [if_pos h3, if_pos h3]; exact sX_pre f _ _ _ _ _
        · rw [if_neg h3, if_neg h3]
  | f + 1, d, true, n, W, o => by
    unfold sX
    rw [fl_pre, fl_pre]
    by_cases h1 : K n = 42 ∨ K n = 47
    · rw [if_pos h1, if_pos h1]; exact sX_pre f _ _ _ _ _
    · rw [if_neg h1, if_neg h1]
      by_cases h2 : K n = 43 ∨ K n = 45
      · rw [if_pos h2, if_pos h2]; exact sX_pre f _ _ _ _ _
      · rw [if_neg h2, if_neg h2]
        by_cases h3 : 0 < d ∧ K n = 41
        · rw [if_pos h3, if_pos h3]; exact sX_pre f _ _ _ _ _
        · rw [if_neg h3, if_neg h3]
theorem cE_pre {n : Nat} {p : lC} : sY K V 0 false n [] p = p ++ cE K V n := by
  have := sX_pre (K := K) (V := V) (p := p) (401 - n) 0 false n [] []
  rw [List.append_nil] at this
  exact this
/-- right so far, with h that wait -/
def imp (o : lC) (h : Nat) : Prop := ∀ L : lC, wfL L h → wfL (o ++ L) 0
theorem imp_0 : imp [] 0 := fun L h => h
theorem imp_v {o : lC} {h : Nat} {c : Int32} (hi : imp o h) (hc : 4 ≤ c.toInt) (hh : h + 1 ≤ 31) : imp (o ++ [c]) (h + 1) := fun L hL => by
  rw [List.append_assoc]
  exact hi _ ⟨by omega, fun _ => ⟨hh, hL⟩, fun q => by omega⟩
theorem imp_o {o : lC} {h : Nat} {w : Int} (hi : imp o (h + 2)) : imp (o ++ [opc w]) (h + 1) := fun L hL => by
  rw [List.append_assoc]
  have b : 0 ≤ (opc w).toInt ∧ (opc w).toInt < 4 := by
    unfold opc
    split
    · decide
    · split
      · decide
      · split <;> decide
  exact hi _ ⟨b.1, fun q => by omega, fun _ => ⟨by omega, hL⟩⟩
theorem imp_end {o : lC} (hi : imp o 1) : wfL o 0 := by
  have := hi [] rfl
  rw [List.append_nil] at this
  exact this
/-- how many wait; how many are open; the rank of the last that waits -/
def pW : List Int → Nat
  | [] => 0
  | w :: W => if w = 40 then pW W else pW W + 1
def qW : List Int → Nat
  | [] => 0
  | w :: W => if w = 40 then qW W + 1 else qW W
def rkW : List Int → Nat
  | [] => 0
  | w :: _ => if w = 40 then 0 else if w = 43 ∨ w = 45 then 1 else 2
def wOk : List Int → Prop
  | [] => True
  | w :: W => wOk W ∧ (w = 40 ∨ ((w = 43 ∨ w = 45) ∧ rkW W = 0) ∨ ((w = 42 ∨ w = 47) ∧ rkW W ≤ 1))
theorem pW_le : ∀ (W : List Int), wOk W → pW W ≤ 2 * qW W + rkW W
  | [], _ => Nat.le_refl _
  | w :: W, h => by
    have ih := pW_le W h.1
    have r2 : rkW W ≤ 2 := by
      cases W with
      | nil => exact Nat.zero_le _
      | cons a b => show (if a = 40 then 0 else if a = 43 ∨ a = 45 then 1 else 2) ≤ 2; split <;> (try split) <;> omega
    have e1 : pW (w :: W) = if w = 40 then pW W else pW W + 1 := rfl
    have e2 : qW (w :: W) = if w = 40 then qW W + 1 else qW W := rfl
    have e3 : rkW (w :: W) = if w = 40 then 0 else if w = 43 ∨ w = 45 then 1 else 2 := rfl
    rw [e1, e2, e3]
    rcases h.2 with q | ⟨q, r⟩ | ⟨q, r⟩
    · rw [if_pos q, if_pos q, if_pos q]; omega
    · have n40 : ¬ w = 40 := by omega
      rw [if_neg n40, if_neg n40, if_neg n40, if_pos q]; omega
    · have n40 : ¬ w = 40 := by omega
      rw [if_neg n40, if_neg n40, if_neg n40, if_neg (by omega)]; omega
theorem fl_ok {st : Bool} : ∀ (W : List Int) (o : lC), wOk W → imp o (pW W + 1) → imp (fl st W o).2 (pW (fl st W o).1 + 1) ∧ wOk (fl st W o).1 ∧ qW (fl st W o).1 = qW W ∧ rkW (fl st W o).1 ≤ (if st = true then 1 else 0)
  | [], o, h, hi => ⟨hi, trivial, rfl, Nat.zero_le _⟩
  | w :: W, o, h, hi => by
    by_cases q : w = 40 ∨ (st = true ∧ (w = 43 ∨ w = 45))
    · rw [fl_s q]
      refine ⟨hi, h, rfl, ?_⟩
      show (if w = 40 then 0 else if w = 43 ∨ w = 45 then 1 else 2) ≤ _
      rcases q with q | ⟨q1, q2⟩
      · rw [if_pos q]; exact Nat.zero_le _
      · have n40 : ¬ w = 40 := by omega
        rw [if_neg n40, if_pos q2, if_pos q1]; exact Nat.le_refl _
    · rw [fl_w q]
      have n40 : w ≠ 40 := fun e => q (Or.inl e)
      have e1 : pW (w :: W) = pW W + 1 := by show (if w = 40 then pW W else pW W + 1) = _; rw [if_neg n40]
      have e2 : qW (w :: W) = qW W := by show (if w = 40 then qW W + 1 else qW W) = _; rw [if_neg n40]
      rw [e1] at hi
      rw [e2]
      exact fl_ok W _ h.1 (imp_o hi)
theorem rk0 {W : List Int} (h : rkW W = 0) : W = [] ∨ ∃ W', W = 40 :: W' := by
  cases W with
  | nil => exact Or.inl rfl
  | cons w W' =>
    right
    refine ⟨W', ?_⟩
    have h : (if w = 40 then 0 else if w = 43 ∨ w = 45 then 1 else 2) = 0 := h
    by_cases q : w = 40
    · rw [q]
    · rw [if_neg q] at h
      by_cases q2 : w = 43 ∨ w = 45
      · rw [if_pos q2] at h; cases h
      · rw [if_neg q2] at h; cases h
theorem vcd_i {k : Int} (h : 13 ≤ k ∧ k ≤ 21) : (vcd k).toInt = k - 9 := by
  unfold vcd
  rw [Int32.toInt_ofInt_of_le (by omega) (by omega)]
theorem sX_wf (hV : ∀ n : Nat, K n = 23 → 0 ≤ (V n).toInt32.toInt ∧ (V n).toInt32.toInt ≤ 9999) : ∀ (f d : Nat) (ph : Bool) (n : Nat) (W : List Int) (o : lC), 401 - n = f → n ≤ 400 → wOk W → qW W = d → d ≤ 6 → imp o (pW W + cond ph 1 0) → (gX K 0 d ph n).1 = 0 → wfL (sX K V f d ph n W o) 0 := by
  intro f
  induction f with
  | zero => intro d ph n W o hf hn; omega
  | succ f ih =>
    intro d ph n W o hf hn hW hq hd hi hg
    have hp := pW_le W hW
    have r2 : rkW W ≤ 2 := by
      cases W with
      | nil => exact Nat.zero_le _
      | cons a b => show (if a = 40 then 0 else if a = 43 ∨ a = 45 then 1 else 2) ≤ 2; split <;> (try split) <;> omega
    cases ph with
    | false =>
      rw [gX_U hn] at hg
      unfold sX
      by_cases h1 : K n = 23
      · rw [if_pos (Or.inl h1)] at hg
        rw [if_pos h1]
        by_cases h4 : 400 ≤ n
        · rw [if_pos h4] at hg; exact absurd hg (Nat.succ_ne_zero 1)
        · rw [if_neg h4] at hg
          have v := hV n h1
          have c := dAddE (X := 13) (Y := (V n).toInt32.toInt) (x := (13 : Int32)) (y := (V n).toInt32) (by decide) rfl (by omega) (by omega)
          exact ih d true (n + 1) W _ (by omega) (by omega) hW hq hd (imp_v hi (by omega) (by omega)) hg
      · rw [if_neg h1]
        by_cases h2 : 13 ≤ K n ∧ K n ≤ 21
        · rw [if_pos (Or.inr h2)] at hg
          rw [if_pos h2]
          by_cases h4 : 400 ≤ n
          · rw [if_pos h4] at hg; exact absurd hg (Nat.succ_ne_zero 1)
          · rw [if_neg h4] at hg
            have c := vcd_i h2
            exact ih d true (n + 1) W _ (by omega) (by omega) hW hq hd (imp_v hi (by omega) (by omega)) hg
        · rw [if_neg (by omega)] at hg
          rw [if_neg h2]
          by_cases h3 : K n = 40
          · rw [if_pos h3] at hg ⊢
            by_cases h6 : 6 ≤ d
            · rw [if_pos h6] at hg; exact absurd hg (Nat.succ_ne_zero 1)
            · rw [if_neg h6] at hg
              by_cases h4 : 400 ≤ n
              · rw [if_pos h4] at hg; exact absurd hg (Nat.succ_ne_zero 1)
              · rw [if_neg h4] at hg
                exact ih (d + 1) false (n + 1) (40 :: W) o (by omega) (by omega) ⟨hW, Or.inl rfl⟩ (by show (if (40 : Int) = 40 then qW W + 1 else qW W) = _; rw [if_pos rfl, hq]) (by omega) (by show imp o ((if (40 : Int) = 40 then pW W else pW W + 1) + 0); rw [if_pos rfl]; exact hi) hg
          · rw [if_neg h3] at hg; exact absurd hg (Nat.succ_ne_zero 0)
    | true =>
      rw [gX_O hn] at hg
      unfold sX
      have a1 := fl_ok (st := true) W o hW hi
      have a0 := fl_ok (st := false) W o hW hi
      rw [if_pos rfl] at a1
      rw [if_neg (by decide)] at a0
      have push : ∀ (w : Int) (W1 : List Int) (o1 : lC), w ≠ 40 → wOk (w :: W1) → qW W1 = qW W → imp o1 (pW W1 + 1) → (gX K 0 d false (n + 1)).1 = 0 → n + 1 ≤ 400 → wfL (sX K V f d false (n + 1) (w :: W1) o1) 0 := fun w W1 o1 hw ho hq1 hi1 hg1 hn1 => ih d false (n + 1) (w :: W1) o1 (by omega) hn1 ho (by show (if w = 40 then qW W1 + 1 else qW W1) = d; rw [if_neg hw, hq1, hq]) hd (by show imp o1 ((if w = 40 then pW W1 else pW W1 + 1) + 0); rw [if_neg hw]; exact hi1) hg1
      by_cases h1 : K n = 42 ∨ K n = 47
      · rw [if_pos (by omega)] at hg
        rw [if_pos h1]
        by_cases h4 : 400 ≤ n
        · rw [if_pos h4] at hg; exact absurd hg (Nat.succ_ne_zero 1)
        · rw [if_neg h4] at hg
          exact push (K n) _ _ (by omega) ⟨a1.2.1, Or.inr (Or.inr ⟨h1, a1.2.2.2⟩)⟩ a1.2.2.1 a1.1 hg (by omega)
      · rw [if_neg h1]
        by_cases h2 : K n = 43 ∨ K n = 45
        · rw [if_pos (by omega)] at hg
          rw [if_pos h2]
          by_cases h4 : 400 ≤ n
          · rw [if_pos h4] at hg; exact absurd hg (Nat.succ_ne_zero 1)
          · rw [if_neg h4] at hg
            exact push (K n) _ _ (by omega) ⟨a0.2.1, Or.inr (Or.inl ⟨h2, by omega⟩)⟩ a0.2.2.1 a0.1 hg (by omega)
        · rw [if_neg (by omega)] at hg
          rw [if_neg h2]
          by_cases h3 : 0 < d
          · rw [if_pos h3] at hg
            by_cases h5 : K n = 41
            · rw [if_pos h5] at hg
              rw [if_pos ⟨h3, h5⟩]
              by_cases h4 : 400 ≤ n
              · rw [if_pos h4] at hg; exact absurd hg (Nat.succ_ne_zero 1)
              · rw [if_neg h4] at hg
                rcases rk0 (W := (fl false W o).1) (by omega) with e | ⟨W', e⟩
                · have := a0.2.2.1
                  rw [e] at this
                  have : 0 = qW W := this
                  omega
                · obtain ⟨b1', b2', b3', b4'⟩ := a0
                  rw [e] at b1' b2' b3' ⊢
                  have q1 : qW (40 :: W') = qW W' + 1 := by show (if (40 : Int) = 40 then qW W' + 1 else qW W') = _; rw [if_pos rfl]
                  have q2 : pW (40 :: W') = pW W' := by show (if (40 : Int) = 40 then pW W' else pW W' + 1) = _; rw [if_pos rfl]
                  rw [q1] at b3'
                  rw [q2] at b1'
                  exact ih (d - 1) true (n + 1) W' _ (by omega) (by omega) b2'.1 (by omega) (by omega) b1' hg
            · rw [if_neg h5] at hg; exact absurd hg (Nat.succ_ne_zero 0)
          · rw [if_neg (fun q => h3 q.1)]
            rcases rk0 (W := (fl false W o).1) (by omega) with e | ⟨W', e⟩
            · have := a0.1
              rw [e] at this
              exact imp_end this
            · have := a0.2.2.1
              rw [e] at this
              have q1 : qW (40 :: W') = qW W' + 1 := by show (if (40 : Int) = 40 then qW W' + 1 else qW W') = _; rw [if_pos rfl]
              omega
theorem cE_wf (hV : ∀ n : Nat, K n = 23 → 0 ≤ (V n).toInt32.toInt ∧ (V n).toInt32.toInt ≤ 9999) {n : Nat} (hn : n ≤ 400) (hg : (gE K n).1 = 0) : wfL (cE K V n) 0 := sX_wf hV _ 0 false n [] [] rfl hn trivial rfl (by omega) imp_0 hg
end COL
end
