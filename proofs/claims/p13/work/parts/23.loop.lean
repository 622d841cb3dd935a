section
/-! THE ENGINE, 12: what is known may be loosened; symbols may be renamed; loops. -/
def eFnd (R : List (Nat × Nat × Int)) (a b : Nat) : Option Int := match R with
  | [] => none
  | q :: R => cond (Nat.beq q.1 a && Nat.beq q.2.1 b) (some q.2.2) (eFnd R a b)
theorem eFnd_ok : ∀ {R : List (Nat × Nat × Int)} {a b : Nat} {c : Int}, eFnd R a b = some c → (a, b, c) ∈ R
  | [], a, b, c, h => by cases h
  | q :: R, a, b, c, h => by
    unfold eFnd at h
    cases hq : (Nat.beq q.1 a && Nat.beq q.2.1 b) with
    | true =>
      rw [hq] at h
      rw [Bool.and_eq_true] at hq
      cases h
      rw [← Nat.eq_of_beq_eq_true hq.1, ← Nat.eq_of_beq_eq_true hq.2]
      exact List.mem_cons_self
    | false =>
      rw [hq] at h
      exact List.mem_cons_of_mem _ (eFnd_ok (R := R) h)
def eLeI (sr : List (Int × Int)) (R : List (Nat × Nat × Int)) (p q : eI) : Bool := (match eFnd R p.1 q.1 with
  | some c => eLe q.2.1 (p.2.1 + c) && eLe (p.2.2 + c) q.2.2
  | none => false) || (Nat.beq q.1 0 && eLe q.2.1 (eRg sr p).1 && eLe (eRg sr p).2 q.2.2)
def eLeG (a b : Option Int64) : Bool := match b with
  | none => true
  | some y => match a with
    | some x => decide (x = y)
    | none => false
theorem eLeG_ok {a b : Option Int64} {x : Int64} (h : eLeG a b = true) (ha : ∀ y, a = some y → x = y) : ∀ y, b = some y → x = y := by
  intro y hy
  subst hy
  cases a with
  | none => cases h
  | some z => exact (ha z rfl).trans (of_decide_eq_true (show decide (z = y) = true from h))
def eLeV (sr : List (Int × Int)) (R : List (Nat × Nat × Int)) (v w : eV) : Bool := match v, w with
  | .inl p, .inl q => eLeI sr R p q
  | .inr (.inl none), .inr (.inl none) => true
  | .inr (.inl (some a)), .inr (.inl (some b)) => Nat.beq a b
  | .inr (.inr a), .inr (.inr b) => eLeG a b
  | _, _ => false
def eLeL (sr : List (Int × Int)) (R : List (Nat × Nat × Int)) (vs ws : List eV) : Bool := match vs, ws with
  | [], [] => true
  | v :: vs, w :: ws => eLeV sr R v w && eLeL sr R vs ws
  | _, _ => false
def eLeC (sr : List (Int × Int)) (R : List (Nat × Nat × Int)) (c d : eC) : Bool := match c, d with
  | .inl o, .inl o' => Nat.beq o.1 o'.1 && eLeL sr R o.2 o'.2
  | .inr (t, n, .inl es), .inr (t', n', .inl es') => Nat.beq t t' && Nat.beq n n' && eLeL sr R es es'
  | .inr (t, n, .inr q), .inr (t', n', .inr q') => Nat.beq t t' && Nat.beq n n' && eLe q'.1 q.1 && eLe q.2 q'.2
  | _, _ => false
def eLeH (sr : List (Int × Int)) (R : List (Nat × Nat × Int)) (g h : eH) : Bool := match g, h with
  | [], [] => true
  | c :: g, d :: h => eLeC sr R c d && eLeH sr R g h
  | _, _ => false
def eLeO (sr : List (Int × Int)) (R : List (Nat × Nat × Int)) (l l' : eL) : Bool := match l' with
  | [] => true
  | q :: l' => (match eGet l q.1 with
    | some v => eLeV sr R v q.2
    | none => false) && eLeO sr R l l'
def eLeS (sr : List (Int × Int)) (R : List (Nat × Nat × Int)) (S T : eS) : Bool := Nat.beq S.1 T.1 && eLeO sr R S.2.1 T.2.1 && eLeL sr R S.2.2.1 T.2.2.1 && eLeH sr R S.2.2.2.1 T.2.2.2.1 && Nat.beq S.2.2.2.2.1 T.2.2.2.2.1 && Nat.beq S.2.2.2.2.2 T.2.2.2.2.2
section ELE
variable {sr : List (Int × Int)} {R : List (Nat × Nat × Int)} {σ τ : Nat → Int} {ad : List Nat} {tys : List (ClassId × FieldType)}
theorem eLeI_ok (hs : eSg sr σ) (h0 : τ 0 = 0) (hR : ∀ q ∈ R, σ q.1 = τ q.2.1 + q.2.2) {p q : eI} {x : Int32} (h : eLeI sr R p q = true) (hx : eIn σ p x) : eIn τ q x := by
  unfold eLeI at h
  rw [Bool.or_eq_true] at h
  rcases h with h | h
  · split at h
    · rename_i c hc
      have hm := hR _ (eFnd_ok hc)
      have hm : σ p.1 = τ q.1 + c := hm
      rw [Bool.and_eq_true] at h
      have h1 := eLe_ok h.1
      have h2 := eLe_ok h.2
      obtain ⟨hx1, hx2⟩ := hx
      exact ⟨by omega, by omega⟩
    · cases h
  · simp only [Bool.and_eq_true] at h
    obtain ⟨⟨h1, h2⟩, h3⟩ := h
    have h1 := Nat.eq_of_beq_eq_true h1
    have h2 := eLe_ok h2
    have h3 := eLe_ok h3
    have hr := eRg_ok hs hx
    exact ⟨by rw [h1, h0]; omega, by rw [h1, h0]; omega⟩
theorem eLeV_ok (hs : eSg sr σ) (h0 : τ 0 = 0) (hR : ∀ q ∈ R, σ q.1 = τ q.2.1 + q.2.2) {v w : eV} {x : Value} (h : eLeV sr R v w = true) (hx : eOk ad σ v x) : eOk ad τ w x := by
  match v, w, h, hx with
  | .inl p, .inl q, h, ⟨x, hx, hq⟩ => exact ⟨x, hx, eLeI_ok hs h0 hR h hq⟩
  | .inr (.inl none), .inr (.inl none), h, hx => exact hx
  | .inr (.inl (some a)), .inr (.inl (some b)), h, hx =>
    have e := Nat.eq_of_beq_eq_true (show Nat.beq a b = true from h)
    subst e
    exact hx
  | .inr (.inr a), .inr (.inr b), h, ⟨x, hx, hy⟩ => exact ⟨x, hx, eLeG_ok (show eLeG a b = true from h) hy⟩
theorem eLeL_ok (hs : eSg sr σ) (h0 : τ 0 = 0) (hR : ∀ q ∈ R, σ q.1 = τ q.2.1 + q.2.2) : ∀ {vs ws : List eV} {xs : List Value}, eLeL sr R vs ws = true → eAll (eOk ad σ) vs xs → eAll (eOk ad τ) ws xs
  | [], [], xs, _, hx => by rw [eAll_nil hx]; trivial
  | v :: vs, w :: ws, xs, h, hx => by
    obtain ⟨x, xs, rfl, h1, h2⟩ := eAll_cons hx
    unfold eLeL at h
    rw [Bool.and_eq_true] at h
    exact ⟨eLeV_ok hs h0 hR h.1 h1, eLeL_ok hs h0 hR h.2 h2⟩
  | [], _ :: _, _, h, _ => by cases h
  | _ :: _, [], _, h, _ => by cases h
theorem eLeL_get (hs : eSg sr σ) (h0 : τ 0 = 0) (hR : ∀ q ∈ R, σ q.1 = τ q.2.1 + q.2.2) : ∀ {vs ws : List eV}, eLeL sr R vs ws = true → ∀ {j : Nat} {v : eV} {x : Value}, vs[j]? = some v → eOk ad σ v x → ∃ w, ws[j]? = some w ∧ eOk ad τ w x
  | [], [], _, j, v, x, hj, _ => by simp at hj
  | v :: vs, w :: ws, h, j, v', x, hj, hx => by
    unfold eLeL at h
    rw [Bool.and_eq_true] at h
    cases j with
    | zero =>
      simp at hj
      subst hj
      exact ⟨w, by simp, eLeV_ok hs h0 hR h.1 hx⟩
    | succ j =>
      obtain ⟨w', g1, g2⟩ := eLeL_get hs h0 hR h.2 (j := j) (by simpa using hj) hx
      exact ⟨w', by simpa using g1, g2⟩
  | [], _ :: _, h, _, _, _, _, _ => by cases h
  | _ :: _, [], h, _, _, _, _, _ => by cases h
theorem eLeC_ok (hs : eSg sr σ) (h0 : τ 0 = 0) (hR : ∀ q ∈ R, σ q.1 = τ q.2.1 + q.2.2) {c d : eC} {q : Nat × va_E} (h : eLeC sr R c d = true) (hc : eCk ad σ tys c q) : eCk ad τ tys d q := by
  match c, d, h, hc with
  | .inl o, .inl o', h, ⟨vs, h1, h2⟩ =>
    unfold eLeC at h
    rw [Bool.and_eq_true] at h
    have e := Nat.eq_of_beq_eq_true h.1
    exact ⟨vs, by rw [h1, e], eLeL_ok hs h0 hR h.2 h2⟩
  | .inr (t, n, .inl es), .inr (t', n', .inl es'), h, ⟨cA, t0, h1, h2, h3⟩ =>
    unfold eLeC at h
    simp only [Bool.and_eq_true] at h
    obtain ⟨⟨e1, e2⟩, h4⟩ := h
    have e1 := Nat.eq_of_beq_eq_true e1
    have e2 := Nat.eq_of_beq_eq_true e2
    subst e1
    subst e2
    refine ⟨cA, t0, h1, h2, ?_⟩
    have h3 : eAr ad σ t n (.inl es) cA q.2 := h3
    show eAr ad τ t n (.inl es') cA q.2
    unfold eAr at h3 ⊢
    split at h3
    · obtain ⟨f, g1, g2⟩ := h3
      exact ⟨f, g1, fun j hj => by obtain ⟨v, k1, k2⟩ := g2 j hj; exact eLeL_get hs h0 hR h4 k1 k2⟩
    · obtain ⟨f, g1, g2⟩ := h3
      exact ⟨f, g1, fun j hj => by obtain ⟨v, k1, k2⟩ := g2 j hj; exact eLeL_get hs h0 hR h4 k1 k2⟩
    · obtain ⟨f, g1, g2⟩ := h3
      exact ⟨f, g1, fun j hj => by obtain ⟨v, k1, k2⟩ := g2 j hj; exact eLeL_get hs h0 hR h4 k1 k2⟩
  | .inr (t, n, .inr r), .inr (t', n', .inr r'), h, ⟨cA, t0, h1, h2, h3⟩ =>
    unfold eLeC at h
    simp only [Bool.and_eq_true] at h
    obtain ⟨⟨⟨e1, e2⟩, h4⟩, h5⟩ := h
    have e1 := Nat.eq_of_beq_eq_true e1
    have e2 := Nat.eq_of_beq_eq_true e2
    have h4 := eLe_ok h4
    have h5 := eLe_ok h5
    subst e1
    subst e2
    refine ⟨cA, t0, h1, h2, ?_⟩
    have h3 : eAr ad σ t n (.inr r) cA q.2 := h3
    show eAr ad τ t n (.inr r') cA q.2
    unfold eAr at h3 ⊢
    split at h3
    · obtain ⟨f, g1, g2⟩ := h3
      exact ⟨f, g1, trivial⟩
    · obtain ⟨f, g1, g2⟩ := h3
      exact ⟨f, g1, trivial⟩
    · obtain ⟨f, g1, g2⟩ := h3
      exact ⟨f, g1, fun j hj => by have := g2 j hj; exact ⟨by omega, by omega⟩⟩
theorem eLeH_ok (hs : eSg sr σ) (h0 : τ 0 = 0) (hR : ∀ q ∈ R, σ q.1 = τ q.2.1 + q.2.2) : ∀ {g h : eH} {ws : va_W}, eLeH sr R g h = true → eAll (eCk ad σ tys) g ws → eAll (eCk ad τ tys) h ws
  | [], [], ws, _, hx => by rw [eAll_nil hx]; trivial
  | v :: vs, w :: ws, xs, h, hx => by
    obtain ⟨x, xs, rfl, h1, h2⟩ := eAll_cons hx
    unfold eLeH at h
    rw [Bool.and_eq_true] at h
    exact ⟨eLeC_ok hs h0 hR h.1 h1, eLeH_ok hs h0 hR h.2 h2⟩
  | [], _ :: _, _, h, _ => by cases h
  | _ :: _, [], _, h, _ => by cases h
theorem eLeO_ok (hs : eSg sr σ) (h0 : τ 0 = 0) (hR : ∀ q ∈ R, σ q.1 = τ q.2.1 + q.2.2) {l : eL} {lv : List (Nat × Value)} (hl : eAll (eLo ad σ) l lv) : ∀ {l' : eL}, eLeO sr R l l' = true → ∃ lv', eAll (eLo ad τ) l' lv' ∧ ∀ q ∈ lv', q ∈ lv
  | [], _ => ⟨[], trivial, fun q hq => absurd hq List.not_mem_nil⟩
  | q :: l', h => by
    unfold eLeO at h
    rw [Bool.and_eq_true] at h
    obtain ⟨h1, h2⟩ := h
    obtain ⟨lv', g1, g2⟩ := eLeO_ok hs h0 hR hl h2
    split at h1
    · rename_i v hv
      obtain ⟨w, w1, w2⟩ := eGet_ok hl hv
      refine ⟨(q.1, w) :: lv', ⟨⟨rfl, eLeV_ok hs h0 hR h1 w2⟩, g1⟩, fun z hz => ?_⟩
      rcases List.mem_cons.mp hz with rfl | hz
      · exact w1
      · exact g2 z hz
    · cases h1
theorem eLeS_ok (hs : eSg sr σ) (h0 : τ 0 = 0) (hR : ∀ q ∈ R, σ q.1 = τ q.2.1 + q.2.2) {D : va_G} {cl : List vw_C} {A : Nat → Prop} {H0 : Heap} {s : State} {nL : Nat} {ad0 : List Nat} {S T : eS} (h : eLeS sr R S T = true) {H : Heap} {locs : List Loc} {ws : va_W} {ls : Array Slot} {lv : List (Nat × Value)} {stk : List Value} (hc : eCn D cl A H0 s σ nL ad0 S H locs ws tys ls lv stk) : S.1 = T.1 ∧ S.2.2.2.2.1 = T.2.2.2.2.1 ∧ S.2.2.2.2.2 = T.2.2.2.2.2 ∧ ∃ lv', eCn D cl A H0 s τ nL ad0 T H locs ws tys ls lv' stk := by
  unfold eLeS at h
  simp only [Bool.and_eq_true] at h
  obtain ⟨⟨⟨⟨⟨h1, h2⟩, h3⟩, h4⟩, h5⟩, h6⟩ := h
  obtain ⟨hK, hP, hD, hS, hpre, hh, hl, hlv, hsk⟩ := hc
  obtain ⟨lv', g1, g2⟩ := eLeO_ok hs h0 hR hlv h2
  exact ⟨Nat.eq_of_beq_eq_true h1, Nat.eq_of_beq_eq_true h5, Nat.eq_of_beq_eq_true h6, lv', hK, hP, hD, hS, hpre, eLeH_ok hs h0 hR h4 hh, ⟨hl.1, hl.2.1, fun q hq => hl.2.2 q (g2 q hq)⟩, g1, eLeL_ok hs h0 hR h3 hsk⟩
end ELE
section ELP
variable {Fz : (Nat → Prop) → State → Heap → Prop} {l0 : Launch} {cl : List vw_C} {Ts : List Cond} {nst : List (String × Nat × MethodName × String)} {sr : List (Int × Int)} {ms : List eM} {yt : List eY}
theorem eGl_trans {d y : Nat} {S : eS} {mid fins : List eS} (h : eGl Fz l0 cl Ts nst sr ms yt d y S mid) (h2 : ∀ T ∈ mid, eGl Fz l0 cl Ts nst sr ms yt d y T fins) : eGl Fz l0 cl Ts nst sr ms yt d y S fins := by
  intro M Y hM hY p e R s m args below meth c hcx D A H0 σ ad0 hs hA hFs Q K
  exact h M Y hM hY p e R s m args below meth c hcx D A H0 σ ad0 hs hA hFs Q (fun f hf => h2 f hf M Y hM hY p e R s m args below meth c hcx D A H0 σ ad0 hs hA hFs Q K)
/-- the old symbols stay -/
def eId (n : Nat) : List (Nat × Nat × Int) := (List.range n).map (fun j => (j, j, 0))
def eUp (σ : Nat → Int) (n : Nat) (v : Int) : Nat → Int := fun j => if j = n then v else σ j
theorem eUp_at (σ : Nat → Int) (n : Nat) (v : Int) : eUp σ n v n = v := if_pos rfl
theorem eUp_ne {σ : Nat → Int} {n j : Nat} {v : Int} (h : j ≠ n) : eUp σ n v j = σ j := if_neg h
theorem eSg_up {σ : Nat → Int} {v lo hi : Int} (hs : eSg sr σ) (hn : 0 < sr.length) (h1 : lo ≤ v) (h2 : v ≤ hi) : eSg (sr ++ [(lo, hi)]) (eUp σ sr.length v) := by
  refine ⟨by rw [eUp_ne (by omega)]; exact hs.1, fun j q hq => ?_⟩
  by_cases hj : j < sr.length
  · rw [List.getElem?_append_left hj] at hq
    rw [eUp_ne (by omega)]
    exact hs.2 j q hq
  · have hlt := (List.getElem?_eq_some_iff.mp hq).1
    rw [List.length_append] at hlt
    have e : j = sr.length := by simp at hlt; omega
    subst e
    rw [List.getElem?_append_right (Nat.le_refl _), Nat.sub_self] at hq
    cases hq
    rw [eUp_at]
    exact ⟨h1, h2⟩
theorem eId_ok {σ τ : Nat → Int} {n : Nat} (h : ∀ j, j < n → σ j = τ j) : ∀ q ∈ eId n, σ q.1 = τ q.2.1 + q.2.2 := by
  intro q hq
  obtain ⟨j, hj, rfl⟩ := List.mem_map.mp hq
  have := h j (List.mem_range.mp hj)
  show σ j = τ j + 0
  omega
/-- A LOOP that counts: at its head (S1) the new symbol; at 'cp' it is compared with a bound; Sb behind it, Sx at its end -/
theorem eFor {d y b cp xp : Nat} {k : Jvm.ClassFile.Cond} {st bd lo hi : Int} {S0 S1 Sx So : eS} {l : eL} {h : eH} {cs sl : Nat} {fins : List eS} (hn : 0 < sr.length) (hb : b < sr.length)
    (hT : eAll (eMok cl Ts nst ms yt) ms yt) (hent : ∀ M, ms[y]? = some M → ∃ off len a2 a3 a4, eAt M.1 cp = some (cp, .if_icmp k off, len, xp, a2, a3, a4))
    (hk : (k = .ge ∧ bd = lo) ∨ (k = .gt ∧ bd = lo + 1))
    (hin : eLeS sr ((0, sr.length, -st) :: eId sr.length) S0 S1 = true)
    (hhead : eGl Fz l0 cl Ts nst (sr ++ [(st, hi)]) ms yt d y S1 [(cp, l, [.inl (b, lo, lo), .inl (sr.length, 0, 0)], h, cs, sl)])
    (hbody : eGl Fz l0 cl Ts nst (sr ++ [(st, hi - 1)]) ms yt d y (cp + 3, l, [], h, cs, sl) fins) (hback : fins.all (fun f => eLeS (sr ++ [(st, hi - 1)]) ((sr.length, sr.length, -1) :: eId sr.length) f S1) = true)
    (hxs : Sx = (xp, l, [], h, cs, sl)) (hout : eLeS (sr ++ [(st, hi)]) ((sr.length, b, bd) :: eId sr.length) Sx So = true)
    (hbnd : ∀ σ, eSg sr σ → st ≤ σ b + bd ∧ σ b + bd ≤ hi) : eGl Fz l0 cl Ts nst sr ms yt d y S0 [So] := by
  intro M Y hM hY p e R s m args below meth c hcx D A H0 σ ad0 hs hA hFs Q K
  obtain ⟨hx, hbb, hown, hts, hml, hini, hXt, hR1, hR2, hRc, hRs⟩ := id hcx
  obtain ⟨Y', hY', hok⟩ := eAll_get hT hM
  have eY := Option.some.inj (hY'.symm.trans hY)
  subst eY
  obtain ⟨off, len, a2, a3, a4, hen⟩ := hent M hM
  obtain ⟨-, hmem⟩ := eAt_ok hen
  obtain ⟨hd, -, hlk, -⟩ := hok.1 _ hmem
  have hd : decode Y'.2.1 cp = .ok (.if_icmp k off, 3) := hd (by simp [eLen])
  have hlk : (cp : Int) + off = (xp : Int) := hlk
  obtain ⟨hB1, hB2⟩ := hbnd σ hs
  have idok : ∀ v w : Int, ∀ j, j < sr.length → eUp σ sr.length v j = eUp σ sr.length w j := fun v w j hj => by rw [eUp_ne (by omega), eUp_ne (by omega)]
  have idok0 : ∀ v : Int, ∀ j, j < sr.length → σ j = eUp σ sr.length v j := fun v j hj => by rw [eUp_ne (by omega)]
  have loop : ∀ (n : Nat) (v : Int), st ≤ v → v ≤ σ b + bd → (σ b + bd - v).toNat < n → ∀ (H : Heap) (locs : List Loc) (ws : va_W) (tys : List (ClassId × FieldType)) (ls : Array Slot) (lv : List (Nat × Value)) (stk : List Value), eCn D cl A H0 s (eUp σ sr.length v) M.2.1 ad0 S1 H locs ws tys ls lv stk → W p l0 e R s m args below meth c H locs S1.2.2.2.2.1 S1.2.2.2.2.2 Q (F0 m S1.1 ls stk) := by
    intro n
    induction n with
    | zero => intro v h1 h2 h3; omega
    | succ n ih =>
      intro v h1 h2 h3
      have hs1 : eSg (sr ++ [(st, hi)]) (eUp σ sr.length v) := eSg_up hs hn h1 (by omega)
      refine hhead M Y' hM hY p e R s m args below meth c hcx D A H0 (eUp σ sr.length v) ad0 hs1 hA hFs Q (fun f hf => ?_)
      rw [List.mem_singleton] at hf
      subst hf
      intro H locs ws tys ls lv stk hc
      obtain ⟨hK, hP, hD, hS, hpre, hh, hl, hlv, hsk⟩ := hc
      obtain ⟨w1, stk1, rfl, ⟨z, rfl, hz⟩, hsk1⟩ := eAll_cons hsk
      obtain ⟨w2, stk2, rfl, ⟨x, rfl, hxv⟩, hsk2⟩ := eAll_cons hsk1
      have e2 := eAll_nil hsk2
      subst e2
      have ez : z.toInt = σ b + lo := by
        obtain ⟨q1, q2⟩ := hz
        have e : eUp σ sr.length v b = σ b := eUp_ne (by omega)
        have q1 : eUp σ sr.length v b + lo ≤ z.toInt := q1
        have q2 : z.toInt ≤ eUp σ sr.length v b + lo := q2
        omega
      have ex : x.toInt = v := by
        obtain ⟨q1, q2⟩ := hxv
        have q1 : eUp σ sr.length v sr.length + 0 ≤ x.toInt := q1
        have q2 : x.toInt ≤ eUp σ sr.length v sr.length + 0 := q2
        rw [eUp_at] at q1 q2
        omega
      have yes : v = σ b + bd → W p l0 e R s m args below meth c H locs cs sl Q (F0 m xp ls []) := by
        intro hv
        have hfact : ∀ q ∈ ((sr.length, b, bd) :: eId sr.length : List (Nat × Nat × Int)), eUp σ sr.length v q.1 = σ q.2.1 + q.2.2 := by
          intro q hq
          rcases List.mem_cons.mp hq with rfl | hq
          · show eUp σ sr.length v sr.length = σ b + bd
            rw [eUp_at]
            exact hv
          · exact eId_ok (fun j hj => (idok0 v j hj).symm) q hq
        obtain ⟨g1, g2, g3, lv', g4⟩ := eLeS_ok (T := So) hs1 hs.1 hfact hout (hxs ▸ (⟨hK, hP, hD, hS, hpre, hh, hl, hlv, trivial⟩ : eCn D cl A H0 s (eUp σ sr.length v) M.2.1 ad0 (xp, l, [], h, cs, sl) H locs ws tys ls lv []))
        have := K So List.mem_cons_self H locs ws tys ls lv' [] g4
        rw [← g1, ← g2, ← g3, hxs] at this
        exact this
      have no : v < σ b + bd → W p l0 e R s m args below meth c H locs cs sl Q (F0 m (cp + 3) ls []) := by
        intro hv
        have hs2 : eSg (sr ++ [(st, hi - 1)]) (eUp σ sr.length v) := eSg_up hs hn h1 (by omega)
        refine hbody M Y' hM hY p e R s m args below meth c hcx D A H0 (eUp σ sr.length v) ad0 hs2 hA hFs Q (fun f hf => ?_) H locs ws tys ls lv [] ⟨hK, hP, hD, hS, hpre, hh, hl, hlv, trivial⟩
        intro H' locs' ws' tys' ls' lv' stk' hc'
        have hfact : ∀ q ∈ ((sr.length, sr.length, -1) :: eId sr.length : List (Nat × Nat × Int)), eUp σ sr.length v q.1 = eUp σ sr.length (v + 1) q.2.1 + q.2.2 := by
          intro q hq
          rcases List.mem_cons.mp hq with rfl | hq
          · show eUp σ sr.length v sr.length = eUp σ sr.length (v + 1) sr.length + -1
            rw [eUp_at, eUp_at]
            omega
          · exact eId_ok (idok v (v + 1)) q hq
        obtain ⟨g1, g2, g3, lv'', g4⟩ := eLeS_ok hs2 (by rw [eUp_ne (by omega)]; exact hs.1) hfact (List.all_eq_true.mp hback f hf) hc'
        rw [g1, g2, g3]
        exact ih (v + 1) (by omega) (by omega) (by omega) H' locs' ws' tys' ls' lv'' stk' g4
      rcases hk with ⟨rfl, hbd⟩ | ⟨rfl, hbd⟩
      · exact lv_icmp_ge hx hbb hd hlk (fun q => yes (by have := Int32.le_iff_toInt_le.mp q; omega)) (fun q => no (by have := Int32.lt_iff_toInt_lt.mp (Int32.not_le.mp q); omega))
      · exact lv_icmp_gt hx hbb hd hlk (fun q => yes (by have := Int32.lt_iff_toInt_lt.mp q; omega)) (fun q => no (by have := Int32.le_iff_toInt_le.mp (Int32.not_lt.mp q); omega))
  intro H locs ws tys ls lv stk hc
  have hfact : ∀ q ∈ ((0, sr.length, -st) :: eId sr.length : List (Nat × Nat × Int)), σ q.1 = eUp σ sr.length st q.2.1 + q.2.2 := by
    intro q hq
    rcases List.mem_cons.mp hq with rfl | hq
    · show σ 0 = eUp σ sr.length st sr.length + -st
      rw [eUp_at, hs.1]
      omega
    · exact eId_ok (idok0 st) q hq
  obtain ⟨g1, g2, g3, lv', g4⟩ := eLeS_ok hs (by rw [eUp_ne (by omega)]; exact hs.1) hfact hin hc
  rw [g1, g2, g3]
  exact loop _ st (Int.le_refl _) hB1 (Nat.lt_succ_self _) H locs ws tys ls lv' stk g4
end ELP
end
section
/-! THE CLEAR MACHINE, 1: values (an int; a long; null or a cell's place), cells (an object; a row of ints (kind 0), bytes (1), booleans (2); of longs; of rows), one step. All is known, nothing is made. -/
abbrev cV : Type := Int32 ⊕ (Int64 ⊕ Option Nat)
abbrev cC : Type := (Nat × List cV) ⊕ ((Nat × Nat × (Nat → Int32)) ⊕ ((Nat × (Nat → Int64)) ⊕ (Nat × (Nat → Option Nat))))
abbrev cH : Type := List cC
abbrev cL : Type := List (Nat × cV)
/-- where, locals, stack, cells -/
abbrev cS : Type := Nat × cL × List cV × cH
def cOk (ad : List Nat) (v : cV) (w : Value) : Prop := match v with
  | .inl x => w = .int x
  | .inr (.inl x) => w = .long x
  | .inr (.inr none) => w = .null
  | .inr (.inr (some k)) => ∃ a : Nat, ad[k]? = some a ∧ w = .ref a
def cCat (v : cV) : Nat := match v with
  | .inr (.inl _) => 2
  | _ => 1
theorem cOk_cat {ad : List Nat} {v : cV} {w : Value} (h : cOk ad v w) : w.category = cCat v := by
  match v, h with
  | .inl q, h => rw [show w = .int q from h]; rfl
  | .inr (.inl q), h => rw [show w = .long q from h]; rfl
  | .inr (.inr none), h => rw [show w = .null from h]; rfl
  | .inr (.inr (some k)), ⟨a, _, hw⟩ => rw [hw]; rfl
def cCk (ad : List Nat) (tys : List (ClassId × FieldType)) (c : cC) (q : Nat × va_E) : Prop := match c with
  | .inl o => ∃ vs : List Value, q.2 = .inr (o.1, vs) ∧ eAll (cOk ad) o.2 vs
  | .inr (.inl a) => ∃ (cA : ClassId) (t0 : Nat), tys[t0]? = some (cA, eTy a.1) ∧ a.1 < 3 ∧ a.2.1 < 2 ^ 31 ∧ q.2 = .inl (cA, a.2.1, .inl a.2.2)
  | .inr (.inr (.inl g)) => ∃ (cA : ClassId) (t0 : Nat), tys[t0]? = some (cA, .long) ∧ g.1 < 2 ^ 31 ∧ q.2 = .inl (cA, g.1, .inr (.inl g.2))
  | .inr (.inr (.inr w)) => ∃ (cA : ClassId) (t0 : Nat) (f : Nat → Option Nat), tys[t0]? = some (cA, .array .int) ∧ w.1 < 2 ^ 31 ∧ q.2 = .inl (cA, w.1, .inr (.inr (.inr (.inr f)))) ∧ ∀ j, j < w.1 → cOk ad (.inr (.inr (w.2 j))) (va_rf (f j))
def cLo (ad : List Nat) (q : Nat × cV) (w : Nat × Value) : Prop := q.1 = w.1 ∧ cOk ad q.2 w.2
def cGet (l : cL) (i : Nat) : Option cV := match l with
  | [] => none
  | q :: l => cond (Nat.beq q.1 i) (some q.2) (cGet l i)
theorem cGet_ok {ad : List Nat} : ∀ {l : cL} {lv : List (Nat × Value)} {i : Nat} {v : cV}, eAll (cLo ad) l lv → cGet l i = some v → ∃ w, (i, w) ∈ lv ∧ cOk ad v w
  | [], _, i, v, h, hg => by simp [cGet] at hg
  | q :: l, lv, i, v, h, hg => by
    obtain ⟨b, bs, rfl, h1, h2⟩ := eAll_cons h
    unfold cGet at hg
    cases hb : Nat.beq q.1 i with
    | true =>
      rw [hb] at hg
      have e := Nat.eq_of_beq_eq_true hb
      simp only [cond_true, Option.some.injEq] at hg
      subst hg
      refine ⟨b.2, ?_, h1.2⟩
      rw [← e, h1.1]
      exact List.mem_cons_self
    | false =>
      rw [hb] at hg
      obtain ⟨w, g1, g2⟩ := cGet_ok h2 hg
      exact ⟨w, List.mem_cons_of_mem _ g1, g2⟩
def cPut (l : cL) (i : Nat) (v : cV) : cL := (i, v) :: l.filter (fun q => !(q.1 == i) && !(q.1 + 1 == i && cCat q.2 == 2))
def cPut2 (l : cL) (i : Nat) (v : cV) : cL := (i, v) :: l.filter (fun q => !(q.1 == i) && (!(q.1 == i + 1) && !(q.1 + 1 == i && cCat q.2 == 2)))
theorem cPut_ok {ad : List Nat} {l : cL} {lv : List (Nat × Value)} (h : eAll (cLo ad) l lv) {i : Nat} {v : cV} {w : Value} (hv : cOk ad v w) : eAll (cLo ad) (cPut l i v) ((i, w) :: lv.filter (fun q => !(q.1 == i) && !(q.1 + 1 == i && q.2.category == 2))) :=
  ⟨⟨rfl, hv⟩, eAll_filter (fun a b hab => by rw [hab.1, cOk_cat hab.2]) h⟩
theorem cPut2_ok {ad : List Nat} {l : cL} {lv : List (Nat × Value)} (h : eAll (cLo ad) l lv) {i : Nat} {v : cV} {w : Value} (hv : cOk ad v w) : eAll (cLo ad) (cPut2 l i v) ((i, w) :: lv.filter (fun q => !(q.1 == i) && (!(q.1 == i + 1) && !(q.1 + 1 == i && q.2.category == 2)))) :=
  ⟨⟨rfl, hv⟩, eAll_filter (fun a b hab => by rw [hab.1, cOk_cat hab.2]) h⟩
def cHd (k : Jvm.ClassFile.Cond) (x y : Int32) : Bool := match k with
  | .eq => decide (x.toInt = y.toInt)
  | .ne => decide (x.toInt ≠ y.toInt)
  | .lt => decide (x.toInt < y.toInt)
  | .ge => decide (y.toInt ≤ x.toInt)
  | .gt => decide (y.toInt < x.toInt)
  | .le => decide (x.toInt ≤ y.toInt)
theorem cHd_ok {k : Jvm.ClassFile.Cond} {x y : Int32} : cHd k x y = true ↔ eHolds k x y := by
  cases k
  · show decide _ = true ↔ x = y
    rw [decide_eq_true_eq, Int32.toInt_inj]
  · show decide _ = true ↔ ¬ x = y
    rw [decide_eq_true_eq, ne_eq, Int32.toInt_inj]
  · show decide _ = true ↔ x < y
    rw [decide_eq_true_eq, Int32.lt_iff_toInt_lt]
  · show decide _ = true ↔ y ≤ x
    rw [decide_eq_true_eq, Int32.le_iff_toInt_le]
  · show decide _ = true ↔ y < x
    rw [decide_eq_true_eq, Int32.lt_iff_toInt_lt]
  · show decide _ = true ↔ x ≤ y
    rw [decide_eq_true_eq, Int32.le_iff_toInt_le]
def cIx (x : Int32) (n : Nat) : Bool := decide (0 ≤ x.toInt ∧ x.toInt < n)
theorem cIx_ok {x : Int32} {n : Nat} (h : cIx x n = true) : vp_in x n ∧ x.toNatClampNeg < n := by
  have h := of_decide_eq_true h
  have h4 : vp_in x n := vp_in_iff.mpr h
  exact ⟨h4, Nat.not_le.mp fun q => h4 (Or.inr q)⟩
def cB1 (x : Int32) : Bool := decide (x = 0 ∨ x = 1)
/-- two ints to one -/
def cBin (i : Instr) (x y : Int32) : Option Int32 := match i with
  | .iadd => some (x + y)
  | .isub => some (x - y)
  | .imul => some (x * y)
  | .iand => some (x &&& y)
  | .ior => some (x ||| y)
  | .ixor => some (x ^^^ y)
  | .ishl => some (x <<< (y &&& 31))
  | .ishr => some (x >>> (y &&& 31))
  | .iushr => some (x.toUInt32 >>> (y.toUInt32 &&& Int32.toUInt32 31)).toInt32
  | .irem => cond (decide (y = 0)) none (some (x - x / y * y))
  | .idiv => cond (decide (y = 0)) none (some (x / y))
  | _ => none
def cUn (i : Instr) (v : cV) : Option cV := match i, v with
  | .i2b, .inl x => some (.inl x.toInt8.toInt32)
  | .i2l, .inl x => some (.inr (.inl x.toInt64))
  | .l2i, .inr (.inl x) => some (.inl x.toInt32)
  | _, _ => none
def cLn (i : Instr) (x y : Int64) : Option cV := match i with
  | .ladd => some (.inr (.inl (x + y)))
  | .lmul => some (.inr (.inl (x * y)))
  | .lcmp => some (.inl (lg_cmp x y))
  | _ => none
def cStep (nL : Nat) (i : Instr) (a b d pc : Nat) (l : cL) (st : List cV) (h : cH) : Option cS := match i with
  | .iconst n => some (pc + 1, l, .inl (Int32.ofInt n) :: st, h)
  | .bipush n => some (pc + 2, l, .inl (Int8.ofInt n).toInt32 :: st, h)
  | .sipush n => some (pc + 3, l, .inl (Int16.ofInt n).toInt32 :: st, h)
  | .lconst n => some (pc + 1, l, .inr (.inl (Int64.ofNat (n : Nat))) :: st, h)
  | .ldc _ => some (pc + 2, l, .inl (Int32.ofNat a) :: st, h)
  | .ldc_w _ => some (pc + 3, l, .inl (Int32.ofNat a) :: st, h)
  | .ldc2_w _ => some (pc + 3, l, .inr (.inl (Int64.ofNat a)) :: st, h)
  | .iload_n k => match cGet l k with
    | some (.inl q) => some (pc + 1, l, .inl q :: st, h)
    | _ => none
  | .iload k => match cGet l k with
    | some (.inl q) => some (pc + 2, l, .inl q :: st, h)
    | _ => none
  | .lload_n k => match cGet l k with
    | some (.inr (.inl q)) => some (pc + 1, l, .inr (.inl q) :: st, h)
    | _ => none
  | .lload k => match cGet l k with
    | some (.inr (.inl q)) => some (pc + 2, l, .inr (.inl q) :: st, h)
    | _ => none
  | .aload_n k => match cGet l k with
    | some (.inr (.inr (some v))) => some (pc + 1, l, .inr (.inr (some v)) :: st, h)
    | _ => none
  | .aload k => match cGet l k with
    | some (.inr (.inr (some v))) => some (pc + 2, l, .inr (.inr (some v)) :: st, h)
    | _ => none
  | .istore_n k => match st with
    | .inl q :: r => cond (Nat.blt k nL) (some (pc + 1, cPut l k (.inl q), r, h)) none
    | _ => none
  | .istore k => match st with
    | .inl q :: r => cond (Nat.blt k nL) (some (pc + 2, cPut l k (.inl q), r, h)) none
    | _ => none
  | .lstore_n k => match st with
    | .inr (.inl q) :: r => cond (Nat.blt (k + 1) nL) (some (pc + 1, cPut2 l k (.inr (.inl q)), r, h)) none
    | _ => none
  | .lstore k => match st with
    | .inr (.inl q) :: r => cond (Nat.blt (k + 1) nL) (some (pc + 2, cPut2 l k (.inr (.inl q)), r, h)) none
    | _ => none
  | .astore_n k => match st with
    | .inr (.inr (some v)) :: r => cond (Nat.blt k nL) (some (pc + 1, cPut l k (.inr (.inr (some v))), r, h)) none
    | _ => none
  | .astore k => match st with
    | .inr (.inr (some v)) :: r => cond (Nat.blt k nL) (some (pc + 2, cPut l k (.inr (.inr (some v))), r, h)) none
    | _ => none
  | .iinc k n => match cGet l k with
    | some (.inl q) => cond (Nat.blt k nL) (some (pc + 3, cPut l k (.inl (q + Int32.ofInt n)), st, h)) none
    | _ => none
  | .dup => match st with
    | v :: r => cond (Nat.beq (cCat v) 1) (some (pc + 1, l, v :: v :: r, h)) none
    | _ => none
  | .dup2 => match st with
    | v :: w :: r => cond (Nat.beq (cCat v) 1 && Nat.beq (cCat w) 1) (some (pc + 1, l, v :: w :: v :: w :: r, h)) none
    | _ => none
  | .pop => match st with
    | v :: r => cond (Nat.beq (cCat v) 1) (some (pc + 1, l, r, h)) none
    | _ => none
  | .getfield _ => match st with
    | .inr (.inr (some k)) :: r => match h[k]? with
      | some (.inl o) => cond (Nat.beq o.1 a) (match o.2[b]? with
        | some v => some (pc + 3, l, v :: r, h)
        | none => none) none
      | _ => none
    | _ => none
  | .putfield _ => match st with
    | v :: .inr (.inr (some k)) :: r => match h[k]? with
      | some (.inl o) => cond (Nat.beq o.1 a && Nat.blt b o.2.length && (match v with
        | .inl x => Nat.beq d 0 || (Nat.beq d 2 && cB1 x)
        | .inr (.inr (some _)) => Nat.beq d 5
        | _ => false)) (some (pc + 3, l, r, h.set k (.inl (o.1, o.2.set b v)))) none
      | _ => none
    | _ => none
  | .iaload => match st with
    | .inl x :: .inr (.inr (some k)) :: r => match h[k]? with
      | some (.inr (.inl q)) => cond (Nat.beq q.1 0 && cIx x q.2.1) (some (pc + 1, l, .inl (q.2.2 x.toNatClampNeg) :: r, h)) none
      | _ => none
    | _ => none
  | .baload => match st with
    | .inl x :: .inr (.inr (some k)) :: r => match h[k]? with
      | some (.inr (.inl q)) => cond ((Nat.beq q.1 1 || Nat.beq q.1 2) && cIx x q.2.1) (some (pc + 1, l, .inl (q.2.2 x.toNatClampNeg) :: r, h)) none
      | _ => none
    | _ => none
  | .laload => match st with
    | .inl x :: .inr (.inr (some k)) :: r => match h[k]? with
      | some (.inr (.inr (.inl q))) => cond (cIx x q.1) (some (pc + 1, l, .inr (.inl (q.2 x.toNatClampNeg)) :: r, h)) none
      | _ => none
    | _ => none
  | .aaload => match st with
    | .inl x :: .inr (.inr (some k)) :: r => match h[k]? with
      | some (.inr (.inr (.inr q))) => cond (cIx x q.1) (some (pc + 1, l, .inr (.inr (q.2 x.toNatClampNeg)) :: r, h)) none
      | _ => none
    | _ => none
  | .iastore => match st with
    | .inl z :: .inl x :: .inr (.inr (some k)) :: r => match h[k]? with
      | some (.inr (.inl q)) => cond (Nat.beq q.1 0 && cIx x q.2.1) (some (pc + 1, l, r, h.set k (.inr (.inl (q.1, q.2.1, upd q.2.2 x.toNatClampNeg z))))) none
      | _ => none
    | _ => none
  | .bastore => match st with
    | .inl z :: .inl x :: .inr (.inr (some k)) :: r => match h[k]? with
      | some (.inr (.inl q)) => cond (((Nat.beq q.1 1) || (Nat.beq q.1 2 && cB1 z)) && cIx x q.2.1) (some (pc + 1, l, r, h.set k (.inr (.inl (q.1, q.2.1, upd q.2.2 x.toNatClampNeg (cond (Nat.beq q.1 1) z.toInt8.toInt32 z)))))) none
      | _ => none
    | _ => none
  | .lastore => match st with
    | .inr (.inl z) :: .inl x :: .inr (.inr (some k)) :: r => match h[k]? with
      | some (.inr (.inr (.inl q))) => cond (cIx x q.1) (some (pc + 1, l, r, h.set k (.inr (.inr (.inl (q.1, vp_updL q.2 x.toNatClampNeg z)))))) none
      | _ => none
    | _ => none
  | .arraylength => match st with
    | .inr (.inr (some k)) :: r => match h[k]? with
      | some (.inr (.inl q)) => some (pc + 1, l, .inl (Int32.ofNat q.2.1) :: r, h)
      | some (.inr (.inr (.inl q))) => some (pc + 1, l, .inl (Int32.ofNat q.1) :: r, h)
      | some (.inr (.inr (.inr q))) => some (pc + 1, l, .inl (Int32.ofNat q.1) :: r, h)
      | _ => none
    | _ => none
  | .goto _ => some (a, l, st, h)
  | .ifCond k _ => match st with
    | .inl x :: r => some (cond (cHd k x 0) a (pc + 3), l, r, h)
    | _ => none
  | .if_icmp k _ => match st with
    | .inl y :: .inl x :: r => some (cond (cHd k x y) a (pc + 3), l, r, h)
    | _ => none
  | .ifnull _ => match st with
    | .inr (.inr (some _)) :: r => some (pc + 3, l, r, h)
    | .inr (.inr none) :: r => some (a, l, r, h)
    | _ => none
  | .ifnonnull _ => match st with
    | .inr (.inr (some _)) :: r => some (a, l, r, h)
    | .inr (.inr none) :: r => some (pc + 3, l, r, h)
    | _ => none
  | .tableswitch dflt lo hi offs => match st with
    | .inl x :: r => cond (decide (lo ≤ x.toInt) && decide (x.toInt ≤ hi)) (match offs[(x.toInt - lo).toNat]? with
      | some off => cond (decide (0 ≤ (pc : Int) + off)) (some (((pc : Int) + off).toNat, l, r, h)) none
      | none => none) (cond (decide (0 ≤ (pc : Int) + dflt)) (some (((pc : Int) + dflt).toNat, l, r, h)) none)
    | _ => none
  | i => match st with
    | .inl y :: .inl x :: r => match cBin i x y with
      | some z => some (pc + 1, l, .inl z :: r, h)
      | none => match cUn i (.inl y) with
        | some z => some (pc + 1, l, z :: .inl x :: r, h)
        | none => none
    | .inr (.inl y) :: .inr (.inl x) :: r => match cLn i x y with
      | some z => some (pc + 1, l, z :: r, h)
      | none => match cUn i (.inr (.inl y)) with
        | some z => some (pc + 1, l, z :: .inr (.inl x) :: r, h)
        | none => none
    | v :: r => match cUn i v with
      | some z => some (pc + 1, l, z :: r, h)
      | none => none
    | _ => none
end
section
/-! THE CLEAR MACHINE, 2: one step is right. -/
def cCn (D : va_G) (cl : List vw_C) (A : Nat → Prop) (H0 : Heap) (s : State) (nL : Nat) (ad : List Nat) (S : cS) (H : Heap) (locs : List Loc) (ws : va_W) (tys : List (ClassId × FieldType)) (ls : Array Slot) (lv : List (Nat × Value)) (stk : List Value) : Prop :=
  va_K D cl tys s ∧ va_P D cl ws H ∧ va_D A ws ∧ va_S A H0 H locs ∧ ws.map Prod.fst = ad ∧ eAll (cCk ad tys) S.2.2.2 ws ∧ lv_has ls nL lv ∧ eAll (cLo ad) S.2.1 lv ∧ eAll (cOk ad) S.2.2.1 stk
section CSO
variable {p : Program} {l0 : Launch} {e : Env} {R : Room} {s : State} {m : MethodId} {args : Array Value} {below : List Frame} {meth : Method} {c : Code} {Q : State → Prop}
variable {cc : ByteArray} {own : String} {Ts : List Cond} {cl : List vw_C} {dfs : List (List eV)} {init : Bool} {D : va_G} {A : Nat → Prop} {H0 : Heap} {ad : List Nat} {nL : Nat}
theorem cGet_at {l : cL} {lv : List (Nat × Value)} {ls : Array Slot} {i : Nat} {v : cV} (hl : lv_has ls nL lv) (h : eAll (cLo ad) l lv) (hg : cGet l i = some v) : ∃ w, ls[i]? = some (.val w) ∧ cOk ad v w ∧ ∃ k : Nat, lv[k]? = some (i, w) := by
  obtain ⟨w, h1, h2⟩ := cGet_ok h hg
  exact ⟨w, hl.2.2 _ h1, h2, List.getElem?_of_mem h1⟩
theorem cCn_set {k q pc : Nat} {e0 e1 : va_E} {H1 : Heap} {locs1 : List Loc} {ws : va_W} {tys : List (ClassId × FieldType)} {ls : Array Slot} {lv : List (Nat × Value)} {stk : List Value} {l : cL} {st : List cV} {h' : cH} (hK : va_K D cl tys s) (he : ws[k]? = some (q, e0)) (hP : va_P D cl (ws.set k (q, e1)) H1) (hD : va_D A (ws.set k (q, e1))) (hS : va_S A H0 H1 locs1) (hpre : ws.map Prod.fst = ad) (hh : eAll (cCk ad tys) h' (ws.set k (q, e1))) (hl : lv_has ls nL lv) (hlv : eAll (cLo ad) l lv) (hsk : eAll (cOk ad) st stk) : cCn D cl A H0 s nL ad (pc, l, st, h') H1 locs1 (ws.set k (q, e1)) tys ls lv stk := by
  have e := eAd_set (e1 := e1) he
  exact ⟨hK, hP, hD, hS, by rw [e]; exact hpre, hh, hl, hlv, hsk⟩
theorem cAd {k q a : Nat} {e0 : va_E} {ws : va_W} (hpre : ws.map Prod.fst = ad) (hk : ws[k]? = some (q, e0)) (ha : ad[k]? = some a) : a = q := by
  rw [← hpre] at ha
  exact eAd_at hk ha
theorem cB1_ok {x : Int32} (h : cB1 x = true) : x = 0 ∨ x = 1 := of_decide_eq_true h
set_option maxHeartbeats 4000000 in
theorem cStep_ok (hx : p.tables.exec = Jvm.exec) (hb : c.code = cc) (hown : s.vm.findClass own = some m.cls) (hts : ∀ w ∈ Ts, w.before args s = true) (hcl : eKl cl Ts dfs) (hin : init = true → meth.name = "<init>")
    {i : Instr} {pc a b d cs sl : Nat} {l : cL} {st : List cV} {h : cH} {S' : cS} (hd : eLen i ≠ 0 → decode cc pc = .ok (i, eLen i)) (hd0 : ∃ len, decode cc pc = .ok (i, len)) (hlk : eLk cl Ts own init i pc a b d)
    (hst : cStep nL i a b d pc l st h = some S')
    (K : ∀ (H : Heap) (locs : List Loc) (ws : va_W) (tys : List (ClassId × FieldType)) (ls : Array Slot) (lv : List (Nat × Value)) (stk : List Value), cCn D cl A H0 s nL ad S' H locs ws tys ls lv stk → W p l0 e R s m args below meth c H locs cs sl Q (F0 m S'.1 ls stk)) :
    ∀ (H : Heap) (locs : List Loc) (ws : va_W) (tys : List (ClassId × FieldType)) (ls : Array Slot) (lv : List (Nat × Value)) (stk : List Value), cCn D cl A H0 s nL ad (pc, l, st, h) H locs ws tys ls lv stk → W p l0 e R s m args below meth c H locs cs sl Q (F0 m pc ls stk) := by
  intro H locs ws tys ls lv stk hc
  obtain ⟨hK, hP, hD, hS, hpre, hh, hl, hlv, hsk⟩ := hc
  unfold cStep at hst
  split at hst
  · cases hst
    exact lv_iconst hx hb (hd (by simp [eLen])) rfl (K _ _ _ _ _ _ _ ⟨hK, hP, hD, hS, hpre, hh, hl, hlv, rfl, hsk⟩)
  · cases hst
    exact lv_bipush hx hb (hd (by simp [eLen])) rfl (K _ _ _ _ _ _ _ ⟨hK, hP, hD, hS, hpre, hh, hl, hlv, rfl, hsk⟩)
  · cases hst
    exact lv_sipush hx hb (hd (by simp [eLen])) rfl (K _ _ _ _ _ _ _ ⟨hK, hP, hD, hS, hpre, hh, hl, hlv, rfl, hsk⟩)
  · cases hst
    exact lv_lconst hx hb (hd (by simp [eLen])) rfl (K _ _ _ _ _ _ _ ⟨hK, hP, hD, hS, hpre, hh, hl, hlv, rfl, hsk⟩)
  · cases hst
    exact lv_ldc hx hb hown (hts _ hlk) (hd (by simp [eLen])) (K _ _ _ _ _ _ _ ⟨hK, hP, hD, hS, hpre, hh, hl, hlv, rfl, hsk⟩)
  · cases hst
    exact lv_ldcw hx hb hown (hts _ hlk) (hd (by simp [eLen])) (K _ _ _ _ _ _ _ ⟨hK, hP, hD, hS, hpre, hh, hl, hlv, rfl, hsk⟩)
  · cases hst
    exact lv_ldc2 hx hb hown (hts _ hlk) (hd (by simp [eLen])) (K _ _ _ _ _ _ _ ⟨hK, hP, hD, hS, hpre, hh, hl, hlv, rfl, hsk⟩)
  · split at hst
    · rename_i q hg
      obtain ⟨w, h1, h2, -⟩ := cGet_at hl hlv hg
      cases h2
      cases hst
      exact lv_iload_n hx hb (hd (by simp [eLen])) rfl h1 (K _ _ _ _ _ _ _ ⟨hK, hP, hD, hS, hpre, hh, hl, hlv, rfl, hsk⟩)
    · cases hst
  · split at hst
    · rename_i q hg
      obtain ⟨w, h1, h2, -⟩ := cGet_at hl hlv hg
      cases h2
      cases hst
      exact lv_iload hx hb (hd (by simp [eLen])) h1 (K _ _ _ _ _ _ _ ⟨hK, hP, hD, hS, hpre, hh, hl, hlv, rfl, hsk⟩)
    · cases hst
  · split at hst
    · rename_i q hg
      obtain ⟨w, h1, h2, -⟩ := cGet_at hl hlv hg
      cases h2
      cases hst
      exact lv_lload_n hx hb (hd (by simp [eLen])) rfl h1 (K _ _ _ _ _ _ _ ⟨hK, hP, hD, hS, hpre, hh, hl, hlv, rfl, hsk⟩)
    · cases hst
  · split at hst
    · rename_i q hg
      obtain ⟨w, h1, h2, -⟩ := cGet_at hl hlv hg
      cases h2
      cases hst
      exact lv_lload hx hb (hd (by simp [eLen])) h1 (K _ _ _ _ _ _ _ ⟨hK, hP, hD, hS, hpre, hh, hl, hlv, rfl, hsk⟩)
    · cases hst
  · split at hst
    · rename_i q hg
      obtain ⟨w, h1, h2, -⟩ := cGet_at hl hlv hg
      obtain ⟨x, hxa, rfl⟩ := h2
      cases hst
      exact lv_aload_n hx hb (hd (by simp [eLen])) rfl h1 (K _ _ _ _ _ _ _ ⟨hK, hP, hD, hS, hpre, hh, hl, hlv, ⟨_, hxa, rfl⟩, hsk⟩)
    · cases hst
  · split at hst
    · rename_i q hg
      obtain ⟨w, h1, h2, -⟩ := cGet_at hl hlv hg
      obtain ⟨x, hxa, rfl⟩ := h2
      cases hst
      exact lv_aload hx hb (hd (by simp [eLen])) h1 (K _ _ _ _ _ _ _ ⟨hK, hP, hD, hS, hpre, hh, hl, hlv, ⟨_, hxa, rfl⟩, hsk⟩)
    · cases hst
  · split at hst
    · obtain ⟨hn, hg⟩ := eCond hst
      cases hg
      obtain ⟨w, stk, rfl, hw, hsk1⟩ := eAll_cons hsk
      cases hw
      exact lv_istore_n hx hb (hd (by simp [eLen])) rfl hl (Nat.le_of_ble_eq_true hn) rfl (fun ls hl => K _ _ _ _ _ _ _ ⟨hK, hP, hD, hS, hpre, hh, hl, cPut_ok hlv rfl, hsk1⟩)
    · cases hst
  · split at hst
    · obtain ⟨hn, hg⟩ := eCond hst
      cases hg
      obtain ⟨w, stk, rfl, hw, hsk1⟩ := eAll_cons hsk
      cases hw
      exact lv_istore hx hb (hd (by simp [eLen])) hl (Nat.le_of_ble_eq_true hn) rfl (fun ls hl => K _ _ _ _ _ _ _ ⟨hK, hP, hD, hS, hpre, hh, hl, cPut_ok hlv rfl, hsk1⟩)
    · cases hst
  · split at hst
    · obtain ⟨hn, hg⟩ := eCond hst
      cases hg
      obtain ⟨w, stk, rfl, hw, hsk1⟩ := eAll_cons hsk
      cases hw
      exact lv_lstore_n hx hb (hd (by simp [eLen])) rfl hl (Nat.le_of_ble_eq_true hn) rfl (fun ls hl => K _ _ _ _ _ _ _ ⟨hK, hP, hD, hS, hpre, hh, hl, cPut2_ok hlv rfl, hsk1⟩)
    · cases hst
  · split at hst
    · obtain ⟨hn, hg⟩ := eCond hst
      cases hg
      obtain ⟨w, stk, rfl, hw, hsk1⟩ := eAll_cons hsk
      cases hw
      exact lv_lstore hx hb (hd (by simp [eLen])) hl (Nat.le_of_ble_eq_true hn) rfl (fun ls hl => K _ _ _ _ _ _ _ ⟨hK, hP, hD, hS, hpre, hh, hl, cPut2_ok hlv rfl, hsk1⟩)
    · cases hst
  · split at hst
    · obtain ⟨hn, hg⟩ := eCond hst
      cases hg
      obtain ⟨w, stk, rfl, ⟨x, hxa, rfl⟩, hsk1⟩ := eAll_cons hsk
      exact lv_astore_n hx hb (hd (by simp [eLen])) rfl hl (Nat.le_of_ble_eq_true hn) rfl (fun ls hl => K _ _ _ _ _ _ _ ⟨hK, hP, hD, hS, hpre, hh, hl, cPut_ok hlv ⟨x, hxa, rfl⟩, hsk1⟩)
    · cases hst
  · split at hst
    · obtain ⟨hn, hg⟩ := eCond hst
      cases hg
      obtain ⟨w, stk, rfl, ⟨x, hxa, rfl⟩, hsk1⟩ := eAll_cons hsk
      exact lv_astore hx hb (hd (by simp [eLen])) hl (Nat.le_of_ble_eq_true hn) rfl (fun ls hl => K _ _ _ _ _ _ _ ⟨hK, hP, hD, hS, hpre, hh, hl, cPut_ok hlv ⟨x, hxa, rfl⟩, hsk1⟩)
    · cases hst
  · split at hst
    · rename_i q hg
      obtain ⟨hn, hg2⟩ := eCond hst
      cases hg2
      obtain ⟨w, -, hw, kk, hkk⟩ := cGet_at hl hlv hg
      cases hw
      exact lv_iinc hx hb (hd (by simp [eLen])) hl hkk rfl (Nat.le_of_ble_eq_true hn) rfl (fun ls hl => K _ _ _ _ _ _ _ ⟨hK, hP, hD, hS, hpre, hh, hl, cPut_ok hlv rfl, hsk⟩)
    · cases hst
  · split at hst
    · obtain ⟨hn, hg⟩ := eCond hst
      cases hg
      have hn := Nat.eq_of_beq_eq_true hn
      obtain ⟨w, stk, rfl, hw, hsk1⟩ := eAll_cons hsk
      exact lv_dup hx hb (hd (by simp [eLen])) (by rw [cOk_cat hw, hn]) (K _ _ _ _ _ _ _ ⟨hK, hP, hD, hS, hpre, hh, hl, hlv, hw, hw, hsk1⟩)
    · cases hst
  · split at hst
    · obtain ⟨hn, hg⟩ := eCond hst
      cases hg
      rw [Bool.and_eq_true] at hn
      have hn1 := Nat.eq_of_beq_eq_true hn.1
      have hn2 := Nat.eq_of_beq_eq_true hn.2
      obtain ⟨w, stk, rfl, hw, hsk1⟩ := eAll_cons hsk
      obtain ⟨w2, stk, rfl, hw2, hsk2⟩ := eAll_cons hsk1
      exact lv_dup2_11 hx hb (hd (by simp [eLen])) (by rw [cOk_cat hw, hn1]) (by rw [cOk_cat hw2, hn2]) (K _ _ _ _ _ _ _ ⟨hK, hP, hD, hS, hpre, hh, hl, hlv, hw, hw2, hw, hw2, hsk2⟩)
    · cases hst
  · split at hst
    · obtain ⟨hn, hg⟩ := eCond hst
      cases hg
      have hn := Nat.eq_of_beq_eq_true hn
      obtain ⟨w, stk, rfl, hw, hsk1⟩ := eAll_cons hsk
      exact lv_pop hx hb (hd (by simp [eLen])) (by rw [cOk_cat hw, hn]) (K _ _ _ _ _ _ _ ⟨hK, hP, hD, hS, hpre, hh, hl, hlv, hsk1⟩)
    · cases hst
  · split at hst
    · split at hst
      · rename_i o ho
        obtain ⟨hn, hg⟩ := eCond hst
        clear hst
        split at hg
        · rename_i v hv
          cases hg
          have hn := Nat.eq_of_beq_eq_true hn
          obtain ⟨w, stk, rfl, ⟨x, hxa, rfl⟩, hsk1⟩ := eAll_cons hsk
          obtain ⟨⟨q, e9⟩, he, vs, hf, hvs⟩ := eAll_get hh ho
          have hf : e9 = .inr (o.1, vs) := hf
          subst hf
          rw [hn] at he
          obtain ⟨w, hw1, hw2⟩ := eAll_get hvs hv
          have e1 := cAd hpre he hxa
          subst e1
          obtain ⟨C, T, N, hc, hbN, hlink⟩ := hlk
          exact va_get hx hb hts (hcl _ C T N hc).1 hown hK hP _ he hc _ hbN (hts _ hlink) (fun _ z => z) hw1 (hd (by simp [eLen])) (K _ _ _ _ _ _ _ ⟨hK, hP, hD, hS, hpre, hh, hl, hlv, hw2, hsk1⟩)
        · cases hg
      · cases hst
    · cases hst
  · obtain ⟨C, T, N, hc, hbN, hlink, hfin, t0, t2, t5⟩ := hlk
    split at hst
    · rename_i v k r
      split at hst
      · rename_i o ho
        obtain ⟨hn, hg⟩ := eCond hst
        cases hg
        simp only [Bool.and_eq_true] at hn
        obtain ⟨⟨hn1, hn2⟩, hn3⟩ := hn
        have hn1 := Nat.eq_of_beq_eq_true hn1
        have hn2 : b < o.2.length := Nat.le_of_ble_eq_true hn2
        obtain ⟨w, stk, rfl, hw, hsk1⟩ := eAll_cons hsk
        obtain ⟨w2, stk, rfl, ⟨y, hya, rfl⟩, hsk2⟩ := eAll_cons hsk1
        obtain ⟨⟨q, e9⟩, he, vs, hf, hvs⟩ := eAll_get hh ho
        have hf : e9 = .inr (o.1, vs) := hf
        subst hf
        have e1 := cAd hpre he hya
        subst e1
        rw [eAll_len hvs] at hn2
        have hh2 : eAll (cCk ad tys) (h.set k (.inl (o.1, o.2.set b v))) (ws.set k (y, .inr (o.1, vs.set b w))) := eAll_set hh k ⟨_, rfl, eAll_set hvs b hw⟩
        rw [hn1] at he hh2
        rw [hn1] at K
        have hk : ∃ ty, parseFieldDescriptor (T b).2.2.1 = some ty ∧ narrow ty w = w ∧ fits ty w = true := by
          match v, hw, hn3 with
          | .inl x, hw, hn3 =>
            cases hw
            rw [Bool.or_eq_true] at hn3
            rcases hn3 with hn3 | hn3
            · exact ⟨_, t0 (Nat.eq_of_beq_eq_true hn3), rfl, rfl⟩
            · rw [Bool.and_eq_true] at hn3
              refine ⟨_, t2 (Nat.eq_of_beq_eq_true hn3.1), ?_⟩
              rcases cB1_ok hn3.2 with rfl | rfl <;> exact ⟨by decide, by decide⟩
          | .inr (.inl x), hw, hn3 => cases hn3
          | .inr (.inr none), hw, hn3 => cases hn3
          | .inr (.inr (some z)), ⟨x, hxa, hw⟩, hn3 =>
            cases hw
            obtain ⟨ty, k1, k2⟩ := t5 (Nat.eq_of_beq_eq_true hn3)
            exact ⟨ty, k1, by rcases k2 with ⟨n, rfl⟩ | ⟨n, rfl⟩ <;> exact ⟨rfl, rfl⟩⟩
        obtain ⟨ty, k1, k2, k3⟩ := hk
        exact eStF hx hb hown hts hcl hin hK hP hD hS he hn2 hc hbN hlink hfin k1 k2 k3 (hd (by simp [eLen])) (fun H1 locs1 hP hD hS => K _ _ _ _ _ _ _ (cCn_set hK he hP hD hS hpre hh2 hl hlv hsk2))
      · cases hst
    · cases hst
  · split at hst
    · split at hst
      · rename_i q ho
        obtain ⟨hn, hg⟩ := eCond hst
        cases hg
        obtain ⟨w, stk, rfl, hw, hsk1⟩ := eAll_cons hsk
        cases hw
        obtain ⟨w, stk, rfl, ⟨y, hya, rfl⟩, hsk2⟩ := eAll_cons hsk1
        rw [Bool.and_eq_true] at hn
        have hk := Nat.eq_of_beq_eq_true hn.1
        obtain ⟨hxi, -⟩ := cIx_ok hn.2
        obtain ⟨⟨z, e9⟩, he, cA, t0, ht, -, -, hf⟩ := eAll_get hh ho
        have hf : e9 = .inl (cA, q.2.1, .inl q.2.2) := hf
        subst hf
        have e1 := cAd hpre he hya
        subst e1
        rw [hk] at ht
        exact va_iald hx hb hK hP _ t0 he ht hxi (hd (by simp [eLen])) (K _ _ _ _ _ _ _ ⟨hK, hP, hD, hS, hpre, hh, hl, hlv, rfl, hsk2⟩)
      · cases hst
    · cases hst
  · split at hst
    · split at hst
      · rename_i q ho
        obtain ⟨hn, hg⟩ := eCond hst
        cases hg
        obtain ⟨w, stk, rfl, hw, hsk1⟩ := eAll_cons hsk
        cases hw
        obtain ⟨w, stk, rfl, ⟨y, hya, rfl⟩, hsk2⟩ := eAll_cons hsk1
        rw [Bool.and_eq_true, Bool.or_eq_true] at hn
        obtain ⟨hxi, -⟩ := cIx_ok hn.2
        obtain ⟨⟨z, e9⟩, he, cA, t0, ht, -, -, hf⟩ := eAll_get hh ho
        have hf : e9 = .inl (cA, q.2.1, .inl q.2.2) := hf
        subst hf
        have e1 := cAd hpre he hya
        subst e1
        rcases hn.1 with hk | hk
        · have hk := Nat.eq_of_beq_eq_true hk
          rw [hk] at ht
          exact va_bald hx hb hK hP _ t0 he ht hxi (hd (by simp [eLen])) (K _ _ _ _ _ _ _ ⟨hK, hP, hD, hS, hpre, hh, hl, hlv, rfl, hsk2⟩)
        · have hk := Nat.eq_of_beq_eq_true hk
          rw [hk] at ht
          exact va_zald hx hb hK hP _ t0 he ht hxi (hd (by simp [eLen])) (K _ _ _ _ _ _ _ ⟨hK, hP, hD, hS, hpre, hh, hl, hlv, rfl, hsk2⟩)
      · cases hst
    · cases hst
  · split at hst
    · split at hst
      · rename_i q ho
        obtain ⟨hn, hg⟩ := eCond hst
        cases hg
        obtain ⟨w, stk, rfl, hw, hsk1⟩ := eAll_cons hsk
        cases hw
        obtain ⟨w, stk, rfl, ⟨y, hya, rfl⟩, hsk2⟩ := eAll_cons hsk1
        obtain ⟨hxi, -⟩ := cIx_ok hn
        obtain ⟨⟨z, e9⟩, he, cA, t0, ht, -, hf⟩ := eAll_get hh ho
        have hf : e9 = .inl (cA, q.1, .inr (.inl q.2)) := hf
        subst hf
        have e1 := cAd hpre he hya
        subst e1
        exact va_lald hx hb hK hP _ t0 he ht hxi (hd (by simp [eLen])) (K _ _ _ _ _ _ _ ⟨hK, hP, hD, hS, hpre, hh, hl, hlv, rfl, hsk2⟩)
      · cases hst
    · cases hst
  · split at hst
    · split at hst
      · rename_i q ho
        obtain ⟨hn, hg⟩ := eCond hst
        cases hg
        obtain ⟨w, stk, rfl, hw, hsk1⟩ := eAll_cons hsk
        cases hw
        obtain ⟨w, stk, rfl, ⟨y, hya, rfl⟩, hsk2⟩ := eAll_cons hsk1
        obtain ⟨hxi, hlt⟩ := cIx_ok hn
        obtain ⟨⟨z, e9⟩, he, cA, t0, f, ht, -, hf, hq⟩ := eAll_get hh ho
        have hf : e9 = .inl (cA, q.1, .inr (.inr (.inr (.inr f)))) := hf
        subst hf
        have e1 := cAd hpre he hya
        subst e1
        exact va_aldA hx hb hK hP _ t0 he ht hxi (hd (by simp [eLen])) (K _ _ _ _ _ _ _ ⟨hK, hP, hD, hS, hpre, hh, hl, hlv, hq _ hlt, hsk2⟩)
      · cases hst
    · cases hst
  · split at hst
    · split at hst
      · rename_i q ho
        obtain ⟨hn, hg⟩ := eCond hst
        cases hg
        obtain ⟨w, stk, rfl, hw, hsk1⟩ := eAll_cons hsk
        cases hw
        obtain ⟨w, stk, rfl, hw, hsk2⟩ := eAll_cons hsk1
        cases hw
        obtain ⟨w, stk, rfl, ⟨y, hya, rfl⟩, hsk3⟩ := eAll_cons hsk2
        rw [Bool.and_eq_true] at hn
        have hk := Nat.eq_of_beq_eq_true hn.1
        obtain ⟨hxi, -⟩ := cIx_ok hn.2
        obtain ⟨⟨z, e9⟩, he, cA, t0, ht, h3, h4, hf⟩ := eAll_get hh ho
        have hf : e9 = .inl (cA, q.2.1, .inl q.2.2) := hf
        subst hf
        have e1 := cAd hpre he hya
        subst e1
        have ht0 := ht
        rw [hk] at ht0
        exact va_iast hx hb hK hP hD hS _ t0 he ht0 hxi (hd (by simp [eLen])) (fun H1 locs1 hP hD hS => K _ _ _ _ _ _ _ (cCn_set hK he hP hD hS hpre (eAll_set hh _ ⟨cA, t0, ht, h3, h4, rfl⟩) hl hlv hsk3))
      · cases hst
    · cases hst
  · split at hst
    · split at hst
      · rename_i q ho
        obtain ⟨hn, hg⟩ := eCond hst
        cases hg
        obtain ⟨w, stk, rfl, hw, hsk1⟩ := eAll_cons hsk
        cases hw
        obtain ⟨w, stk, rfl, hw, hsk2⟩ := eAll_cons hsk1
        cases hw
        obtain ⟨w, stk, rfl, ⟨y, hya, rfl⟩, hsk3⟩ := eAll_cons hsk2
        rw [Bool.and_eq_true, Bool.or_eq_true] at hn
        obtain ⟨hxi, -⟩ := cIx_ok hn.2
        obtain ⟨⟨z, e9⟩, he, cA, t0, ht, h3, h4, hf⟩ := eAll_get hh ho
        have hf : e9 = .inl (cA, q.2.1, .inl q.2.2) := hf
        subst hf
        have e1 := cAd hpre he hya
        subst e1
        have ht0 := ht
        rcases hn.1 with hk | hk
        · have hk1 := Nat.eq_of_beq_eq_true hk
          rw [hk1] at ht0
          rw [hk] at K
          exact va_bast hx hb hK hP hD hS _ t0 he ht0 hxi (hd (by simp [eLen])) (fun H1 locs1 hP hD hS => K _ _ _ _ _ _ _ (cCn_set hK he hP hD hS hpre (eAll_set hh _ ⟨cA, t0, ht, h3, h4, rfl⟩) hl hlv hsk3))
        · rw [Bool.and_eq_true] at hk
          have hk1 := Nat.eq_of_beq_eq_true hk.1
          rw [hk1] at ht0
          have hk2 : Nat.beq q.1 1 = false := by rw [hk1]; rfl
          rw [hk2] at K
          exact va_zast hx hb hK hP hD hS _ t0 he ht0 hxi (hd (by simp [eLen])) (fun H1 locs1 hP hD hS => K _ _ _ _ _ _ _ (cCn_set hK he hP hD hS hpre (eAll_set hh _ ⟨cA, t0, ht, h3, h4, by rcases cB1_ok hk.2 with z | z <;> rw [z] <;> rfl⟩) hl hlv hsk3))
      · cases hst
    · cases hst
  · split at hst
    · split at hst
      · rename_i q ho
        obtain ⟨hn, hg⟩ := eCond hst
        cases hg
        obtain ⟨w, stk, rfl, hw, hsk1⟩ := eAll_cons hsk
        cases hw
        obtain ⟨w, stk, rfl, hw, hsk2⟩ := eAll_cons hsk1
        cases hw
        obtain ⟨w, stk, rfl, ⟨y, hya, rfl⟩, hsk3⟩ := eAll_cons hsk2
        obtain ⟨hxi, -⟩ := cIx_ok hn
        obtain ⟨⟨z, e9⟩, he, cA, t0, ht, h3, hf⟩ := eAll_get hh ho
        have hf : e9 = .inl (cA, q.1, .inr (.inl q.2)) := hf
        subst hf
        have e1 := cAd hpre he hya
        subst e1
        exact va_last hx hb hK hP hD hS _ t0 he ht hxi (hd (by simp [eLen])) (fun H1 locs1 hP hD hS => K _ _ _ _ _ _ _ (cCn_set hK he hP hD hS hpre (eAll_set hh _ ⟨cA, t0, ht, h3, rfl⟩) hl hlv hsk3))
      · cases hst
    · cases hst
  · split at hst
    · split at hst
      · rename_i q ho
        cases hst
        obtain ⟨w, stk, rfl, ⟨y, hya, rfl⟩, hsk1⟩ := eAll_cons hsk
        obtain ⟨⟨z, e9⟩, he, cA, t0, ht, -, -, hf⟩ := eAll_get hh ho
        have hf : e9 = .inl (cA, q.2.1, .inl q.2.2) := hf
        subst hf
        have e1 := cAd hpre he hya
        subst e1
        exact va_alen hx hb hK hP _ t0 he ht rfl (hd (by simp [eLen])) (K _ _ _ _ _ _ _ ⟨hK, hP, hD, hS, hpre, hh, hl, hlv, rfl, hsk1⟩)
      · rename_i q ho
        cases hst
        obtain ⟨w, stk, rfl, ⟨y, hya, rfl⟩, hsk1⟩ := eAll_cons hsk
        obtain ⟨⟨z, e9⟩, he, cA, t0, ht, -, hf⟩ := eAll_get hh ho
        have hf : e9 = .inl (cA, q.1, .inr (.inl q.2)) := hf
        subst hf
        have e1 := cAd hpre he hya
        subst e1
        exact va_alen hx hb hK hP _ t0 he ht rfl (hd (by simp [eLen])) (K _ _ _ _ _ _ _ ⟨hK, hP, hD, hS, hpre, hh, hl, hlv, rfl, hsk1⟩)
      · rename_i q ho
        cases hst
        obtain ⟨w, stk, rfl, ⟨y, hya, rfl⟩, hsk1⟩ := eAll_cons hsk
        obtain ⟨⟨z, e9⟩, he, cA, t0, f, ht, -, hf, -⟩ := eAll_get hh ho
        have hf : e9 = .inl (cA, q.1, .inr (.inr (.inr (.inr f)))) := hf
        subst hf
        have e1 := cAd hpre he hya
        subst e1
        exact va_alen hx hb hK hP _ t0 he ht rfl (hd (by simp [eLen])) (K _ _ _ _ _ _ _ ⟨hK, hP, hD, hS, hpre, hh, hl, hlv, rfl, hsk1⟩)
      · cases hst
    · cases hst
  · cases hst
    exact lv_goto hx hb (hd (by simp [eLen])) hlk (K _ _ _ _ _ _ _ ⟨hK, hP, hD, hS, hpre, hh, hl, hlv, hsk⟩)
  · rename_i kc off
    split at hst
    · rename_i x r
      cases hst
      obtain ⟨w, stk, rfl, hw, hsk1⟩ := eAll_cons hsk
      cases hw
      have yes : eHolds kc x 0 → W p l0 e R s m args below meth c H locs cs sl Q (F0 m a ls stk) := fun hq => by
        rw [cHd_ok.mpr hq] at K
        exact (K _ _ _ _ _ _ _ ⟨hK, hP, hD, hS, hpre, hh, hl, hlv, hsk1⟩)
      have no : ¬ eHolds kc x 0 → W p l0 e R s m args below meth c H locs cs sl Q (F0 m (pc + 3) ls stk) := fun hq => by
        rw [Bool.eq_false_iff.mpr (fun z => hq (cHd_ok.mp z))] at K
        exact (K _ _ _ _ _ _ _ ⟨hK, hP, hD, hS, hpre, hh, hl, hlv, hsk1⟩)
      cases kc
      · exact lv_if_eq hx hb (hd (by simp [eLen])) hlk (fun hq => yes hq) (fun hq => no hq)
      · exact lv_if_ne hx hb (hd (by simp [eLen])) hlk (fun hq => yes hq) (fun hq => no (fun z => z hq))
      · exact lv_if_lt hx hb (hd (by simp [eLen])) hlk (fun hq => yes hq) (fun hq => no hq)
      · exact lv_if_ge hx hb (hd (by simp [eLen])) hlk (fun hq => yes hq) (fun hq => no hq)
      · exact lv_if_gt hx hb (hd (by simp [eLen])) hlk (fun hq => yes hq) (fun hq => no hq)
      · exact lv_if_le hx hb (hd (by simp [eLen])) hlk (fun hq => yes hq) (fun hq => no hq)
    · cases hst
  · rename_i kc off
    split at hst
    · rename_i y x r
      cases hst
      obtain ⟨w, stk, rfl, hw, hsk1⟩ := eAll_cons hsk
      cases hw
      obtain ⟨w, stk, rfl, hw, hsk2⟩ := eAll_cons hsk1
      cases hw
      have yes : eHolds kc x y → W p l0 e R s m args below meth c H locs cs sl Q (F0 m a ls stk) := fun hq => by
        rw [cHd_ok.mpr hq] at K
        exact (K _ _ _ _ _ _ _ ⟨hK, hP, hD, hS, hpre, hh, hl, hlv, hsk2⟩)
      have no : ¬ eHolds kc x y → W p l0 e R s m args below meth c H locs cs sl Q (F0 m (pc + 3) ls stk) := fun hq => by
        rw [Bool.eq_false_iff.mpr (fun z => hq (cHd_ok.mp z))] at K
        exact (K _ _ _ _ _ _ _ ⟨hK, hP, hD, hS, hpre, hh, hl, hlv, hsk2⟩)
      cases kc
      · exact lv_icmp_eq hx hb (hd (by simp [eLen])) hlk (fun hq => yes hq) (fun hq => no hq)
      · exact lv_icmp_ne hx hb (hd (by simp [eLen])) hlk (fun hq => yes hq) (fun hq => no (fun z => z hq))
      · exact lv_icmp_lt hx hb (hd (by simp [eLen])) hlk (fun hq => yes hq) (fun hq => no hq)
      · exact lv_icmp_ge hx hb (hd (by simp [eLen])) hlk (fun hq => yes hq) (fun hq => no hq)
      · exact lv_icmp_gt hx hb (hd (by simp [eLen])) hlk (fun hq => yes hq) (fun hq => no hq)
      · exact lv_icmp_le hx hb (hd (by simp [eLen])) hlk (fun hq => yes hq) (fun hq => no hq)
    · cases hst
  · split at hst
    · cases hst
      obtain ⟨w, stk, rfl, ⟨y, hya, rfl⟩, hsk1⟩ := eAll_cons hsk
      exact lv_ifnull hx hb (hd (by simp [eLen])) (K _ _ _ _ _ _ _ ⟨hK, hP, hD, hS, hpre, hh, hl, hlv, hsk1⟩)
    · cases hst
      obtain ⟨w, stk, rfl, hw, hsk1⟩ := eAll_cons hsk
      have hw : w = .null := hw
      subst hw
      exact lv_ifnullN hx hb (hd (by simp [eLen])) hlk (K _ _ _ _ _ _ _ ⟨hK, hP, hD, hS, hpre, hh, hl, hlv, hsk1⟩)
    · cases hst
  · split at hst
    · cases hst
      obtain ⟨w, stk, rfl, ⟨y, hya, rfl⟩, hsk1⟩ := eAll_cons hsk
      exact lv_ifnonnull hx hb (hd (by simp [eLen])) hlk (K _ _ _ _ _ _ _ ⟨hK, hP, hD, hS, hpre, hh, hl, hlv, hsk1⟩)
    · cases hst
      obtain ⟨w, stk, rfl, hw, hsk1⟩ := eAll_cons hsk
      have hw : w = .null := hw
      subst hw
      exact lv_ifnonnullN hx hb (hd (by simp [eLen])) (K _ _ _ _ _ _ _ ⟨hK, hP, hD, hS, hpre, hh, hl, hlv, hsk1⟩)
    · cases hst
  · rename_i dflt lo hi offs
    obtain ⟨len, hd0⟩ := hd0
    split at hst
    · rename_i x r
      obtain ⟨w, stk, rfl, hw, hsk1⟩ := eAll_cons hsk
      cases hw
      cases hc : (decide (lo ≤ x.toInt) && decide (x.toInt ≤ hi)) with
      | true =>
        rw [hc] at hst
        rw [Bool.and_eq_true, decide_eq_true_eq, decide_eq_true_eq] at hc
        simp only [cond_true] at hst
        split at hst
        · rename_i off hoff
          obtain ⟨hn, hg⟩ := eCond hst
          cases hg
          have hn := of_decide_eq_true hn
          exact lv_tableIn hx hb hd0 (by omega) (by omega) hoff (by omega) (K _ _ _ _ _ _ _ ⟨hK, hP, hD, hS, hpre, hh, hl, hlv, hsk1⟩)
        · cases hst
      | false =>
        rw [hc] at hst
        obtain ⟨hn, hg⟩ := eCond (show cond _ _ none = some S' from hst)
        cases hg
        have hn := of_decide_eq_true hn
        rw [Bool.and_eq_false_iff, decide_eq_false_iff_not, decide_eq_false_iff_not] at hc
        exact lv_tableOut hx hb hd0 (by omega) (by omega) (K _ _ _ _ _ _ _ ⟨hK, hP, hD, hS, hpre, hh, hl, hlv, hsk1⟩)
    · cases hst
  · rename_i i0 n1 n2 n3 n4 n5 n6 n7 n8 n9 n10 n11 n12 n13 n14 n15 n16 n17 n18 n19 n20 n21 n22 n23 n24 n25 n26 n27 n28 n29 n30 n31 n32 n33 n34 n35 n36 n37 n38
    have un : ∀ {v z : cV} {r : List cV}, cUn i v = some z → st = v :: r → S' = (pc + 1, l, z :: r, h) → W p l0 e R s m args below meth c H locs cs sl Q (F0 m pc ls stk) := by
      intro v z r hu hs0 hS'
      subst hs0
      subst hS'
      unfold cUn at hu
      split at hu
      · cases hu
        obtain ⟨w, stk, rfl, hw, hsk1⟩ := eAll_cons hsk
        cases hw
        exact lv_i2b hx hb (hd (by simp [eLen])) rfl (K _ _ _ _ _ _ _ ⟨hK, hP, hD, hS, hpre, hh, hl, hlv, rfl, hsk1⟩)
      · cases hu
        obtain ⟨w, stk, rfl, hw, hsk1⟩ := eAll_cons hsk
        cases hw
        exact lv_i2l hx hb (hd (by simp [eLen])) rfl (K _ _ _ _ _ _ _ ⟨hK, hP, hD, hS, hpre, hh, hl, hlv, rfl, hsk1⟩)
      · cases hu
        obtain ⟨w, stk, rfl, hw, hsk1⟩ := eAll_cons hsk
        cases hw
        exact lv_l2i hx hb (hd (by simp [eLen])) rfl (K _ _ _ _ _ _ _ ⟨hK, hP, hD, hS, hpre, hh, hl, hlv, rfl, hsk1⟩)
      · cases hu
    split at hst
    · rename_i y x r
      split at hst
      · rename_i z hz
        cases hst
        obtain ⟨w, stk, rfl, hw, hsk1⟩ := eAll_cons hsk
        cases hw
        obtain ⟨w, stk, rfl, hw, hsk2⟩ := eAll_cons hsk1
        cases hw
        unfold cBin at hz
        split at hz
        · cases hz
          exact lv_iadd hx hb (hd (by simp [eLen])) (K _ _ _ _ _ _ _ ⟨hK, hP, hD, hS, hpre, hh, hl, hlv, rfl, hsk2⟩)
        · cases hz
          exact lv_isub hx hb (hd (by simp [eLen])) (K _ _ _ _ _ _ _ ⟨hK, hP, hD, hS, hpre, hh, hl, hlv, rfl, hsk2⟩)
        · cases hz
          exact lv_imul hx hb (hd (by simp [eLen])) (K _ _ _ _ _ _ _ ⟨hK, hP, hD, hS, hpre, hh, hl, hlv, rfl, hsk2⟩)
        · cases hz
          exact lv_iand hx hb (hd (by simp [eLen])) (K _ _ _ _ _ _ _ ⟨hK, hP, hD, hS, hpre, hh, hl, hlv, rfl, hsk2⟩)
        · cases hz
          exact lv_ior hx hb (hd (by simp [eLen])) (K _ _ _ _ _ _ _ ⟨hK, hP, hD, hS, hpre, hh, hl, hlv, rfl, hsk2⟩)
        · cases hz
          exact lv_ixor hx hb (hd (by simp [eLen])) (K _ _ _ _ _ _ _ ⟨hK, hP, hD, hS, hpre, hh, hl, hlv, rfl, hsk2⟩)
        · cases hz
          exact lv_ishl hx hb (hd (by simp [eLen])) (K _ _ _ _ _ _ _ ⟨hK, hP, hD, hS, hpre, hh, hl, hlv, rfl, hsk2⟩)
        · cases hz
          exact lv_ishr hx hb (hd (by simp [eLen])) (K _ _ _ _ _ _ _ ⟨hK, hP, hD, hS, hpre, hh, hl, hlv, rfl, hsk2⟩)
        · cases hz
          exact lv_iushr hx hb (hd (by simp [eLen])) rfl (K _ _ _ _ _ _ _ ⟨hK, hP, hD, hS, hpre, hh, hl, hlv, rfl, hsk2⟩)
        · by_cases hy : y = 0
          · rw [decide_eq_true hy] at hz
            cases hz
          · rw [decide_eq_false hy] at hz
            cases hz
            exact lv_irem hx hb (hd (by simp [eLen])) hy (K _ _ _ _ _ _ _ ⟨hK, hP, hD, hS, hpre, hh, hl, hlv, rfl, hsk2⟩)
        · by_cases hy : y = 0
          · rw [decide_eq_true hy] at hz
            cases hz
          · rw [decide_eq_false hy] at hz
            cases hz
            exact lv_idiv hx hb (hd (by simp [eLen])) hy (K _ _ _ _ _ _ _ ⟨hK, hP, hD, hS, hpre, hh, hl, hlv, rfl, hsk2⟩)
        · cases hz
      · split at hst
        · rename_i z hz
          cases hst
          exact un hz rfl rfl
        · cases hst
    · rename_i y x r
      split at hst
      · rename_i z hz
        cases hst
        obtain ⟨w, stk, rfl, hw, hsk1⟩ := eAll_cons hsk
        cases hw
        obtain ⟨w, stk, rfl, hw, hsk2⟩ := eAll_cons hsk1
        cases hw
        unfold cLn at hz
        split at hz
        · cases hz
          exact lv_ladd hx hb (hd (by simp [eLen])) (K _ _ _ _ _ _ _ ⟨hK, hP, hD, hS, hpre, hh, hl, hlv, rfl, hsk2⟩)
        · cases hz
          exact lv_lmul hx hb (hd (by simp [eLen])) (K _ _ _ _ _ _ _ ⟨hK, hP, hD, hS, hpre, hh, hl, hlv, rfl, hsk2⟩)
        · cases hz
          exact W.lcmp hx hb (hd (by simp [eLen])) (K _ _ _ _ _ _ _ ⟨hK, hP, hD, hS, hpre, hh, hl, hlv, rfl, hsk2⟩)
        · cases hz
      · split at hst
        · rename_i z hz
          cases hst
          exact un hz rfl rfl
        · cases hst
    · split at hst
      · rename_i z hz
        cases hst
        exact un hz rfl rfl
      · cases hst
    · cases hst
end CSO
end
section
/-! THE CLEAR MACHINE, 3: the run of a method, with the calls in it. -/
def cArgs (i : Nat) (vs : List cV) : cL := match vs with
  | [] => []
  | v :: vs => (i, v) :: cArgs (cond (Nat.beq (cCat v) 2) (i + 2) (i + 1)) vs
def cCats (vs : List cV) : Nat := match vs with
  | [] => 0
  | v :: vs => cCat v + cCats vs
def cRet (M : eM) (en : eN) (S : cS) : Option (Option cV) := match M.2.2.2.2.1, en.2.1, S.2.2.1 with
  | 0, .return_, [] => some none
  | 1, .ireturn, [.inl q] => some (some (.inl q))
  | 2, .ireturn, [.inl q] => cond (cB1 q) (some (some (.inl q))) none
  | 3, .lreturn, [.inr (.inl u)] => some (some (.inr (.inl u)))
  | 4, .areturn, [.inr (.inr (some k))] => some (some (.inr (.inr (some k))))
  | _, _, _ => none
def cPop (st : List cV) (np : Nat) (kd : Nat) : Option (List cV × List cV) := match kd with
  | 1 | 4 => cond (Nat.ble np st.length) (some ((st.take np).reverse, st.drop np)) none
  | _ => match st[np]? with
    | some (.inr (.inr (some k))) => some (.inr (.inr (some k)) :: (st.take np).reverse, st.drop (np + 1))
    | _ => none
def cRcv (h : cH) (kd d0 : Nat) (as : List cV) : Bool := match kd with
  | 0 => match as with
    | .inr (.inr (some k)) :: _ => match h[k]? with
      | some (.inl o) => Nat.beq o.1 d0
      | _ => false
    | _ => false
  | _ => true
def cCpy (h : cH) (k0 k1 : Nat) (n dp sp : Int32) : Option cH := match h[k0]?, h[k1]? with
  | some (.inr (.inl q0)), some (.inr (.inl q1)) => cond (Nat.beq q0.1 0 && Nat.beq q1.1 0 && !(Nat.beq k0 k1) && decide (0 ≤ n.toInt ∧ 0 ≤ dp.toInt ∧ 0 ≤ sp.toInt ∧ sp.toInt + n.toInt ≤ q0.2.1 ∧ dp.toInt + n.toInt ≤ q1.2.1)) (some (h.set k1 (.inr (.inl (q1.1, q1.2.1, va_cpy q0.2.2 q1.2.2 sp.toNatClampNeg dp.toNatClampNeg n.toNatClampNeg))))) none
  | _, _ => none
/-- Math.min (7), Math.max (8), arraycopy (9) -/
def cBlt (kd : Nat) (h : cH) (st : List cV) : Option (List cV × cH) := match kd, st with
  | 7, .inl y :: .inl x :: r => cond (Nat.ble (cCats r) 8) (some (.inl (if y < x then y else x) :: r, h)) none
  | 8, .inl y :: .inl x :: r => cond (Nat.ble (cCats r) 8) (some (.inl (if x < y then y else x) :: r, h)) none
  | 9, .inl n :: .inl dp :: .inr (.inr (some k1)) :: .inl sp :: .inr (.inr (some k0)) :: r => cond (Nat.ble (cCats r) 8) (match cCpy h k0 k1 n dp sp with
    | some h' => some (r, h')
    | none => none) none
  | _, _ => none
def cIsC (i : Instr) : Bool := match i with
  | .invokevirtual _ => true
  | .invokestatic _ => true
  | .invokespecial _ => true
  | _ => false
def cInv (ms : List eM) (ih : Nat → Nat → cS → Option (Option cV × cH)) (d y : Nat) (S : cS) (kd b d0 : Nat) : Option (Option cV × cH) :=
  match d with
  | 0 => none
  | d' + 1 => cond (Nat.ble 6 kd)
    (match cBlt kd S.2.2.2 S.2.2.1 with
      | some q => ih (d' + 1) y (S.1 + 3, S.2.1, q.1, q.2)
      | none => none)
    (match ms[b]? with
      | none => none
      | some N => match cPop S.2.2.1 N.2.2.2.2.2 kd with
        | none => none
        | some q => cond (Nat.ble (cCats q.2) 8 && Nat.beq N.2.2.1 0 && Nat.beq N.2.2.2.1 0 && Nat.ble (cCats q.1) N.2.1 && cRcv S.2.2.2 kd d0 q.1)
          (match ih d' b (0, cArgs 0 q.1, [], S.2.2.2) with
            | none => none
            | some o => ih (d' + 1) y (S.1 + 3, S.2.1, o.1.toList ++ q.2, o.2))
          none)
def cBody (ms : List eM) (ih : Nat → Nat → cS → Option (Option cV × cH)) (d y : Nat) (S : cS) : Option (Option cV × cH) := match ms[y]? with
  | none => none
  | some M => match eAt M.1 S.1 with
    | none => none
    | some en => match cRet M en S with
      | some v => some (v, S.2.2.2)
      | none => cond (cIsC en.2.1) (cInv ms ih d y S en.2.2.2.1 en.2.2.2.2.1 en.2.2.2.2.2.2) (match cStep M.2.1 en.2.1 en.2.2.2.1 en.2.2.2.2.1 en.2.2.2.2.2.2 S.1 S.2.1 S.2.2.1 S.2.2.2 with
        | some S' => ih d y S'
        | none => none)
def cEx (ms : List eM) (fuel : Nat) : Nat → Nat → cS → Option (Option cV × cH) :=
  Nat.rec (fun _ _ _ => none) (fun _ ih => cBody ms ih) fuel
theorem cBody_mono {ms : List eM} {f g : Nat → Nat → cS → Option (Option cV × cH)} {k : Nat} (hfg : ∀ d y S r, f d y S = some r → g (d + k) y S = some r) {d y : Nat} {S : cS} {r : Option cV × cH} (h : cBody ms f d y S = some r) : cBody ms g (d + k) y S = some r := by
  unfold cBody at h ⊢
  split at h
  · cases h
  · rename_i M hM
    split at h
    · cases h
    · rename_i en hen
      try rw [hM]
      try simp only
      try rw [hen]
      try simp only
      split at h
      · rename_i v hv
        try rw [hv]
        exact h
      · rename_i hv
        try rw [hv]
        try simp only
        cases hc : cIsC en.2.1 with
        | true =>
          rw [hc] at h
          simp only [cond_true] at h ⊢
          unfold cInv at h ⊢
          cases d with
          | zero => cases h
          | succ d' =>
            have e : d' + 1 + k = (d' + k) + 1 := by omega
            rw [e]
            simp only at h ⊢
            cases hk : Nat.ble 6 en.2.2.2.1 with
            | true =>
              rw [hk] at h
              simp only [cond_true] at h ⊢
              split at h
              · rename_i q hq
                try rw [hq]
                have := hfg _ _ _ _ h
                rw [e] at this
                exact this
              · cases h
            | false =>
              rw [hk] at h
              simp only [cond_false] at h ⊢
              split at h
              · cases h
              · rename_i N hN
                try rw [hN]
                try simp only
                split at h
                · cases h
                · rename_i q hq
                  try rw [hq]
                  try simp only
                  obtain ⟨hn, hg⟩ := eCond h
                  rw [hn]
                  simp only [cond_true]
                  split at hg
                  · cases hg
                  · rename_i o ho
                    rw [hfg _ _ _ _ ho]
                    have := hfg _ _ _ _ hg
                    rw [e] at this
                    exact this
        | false =>
          rw [hc] at h
          simp only [cond_false] at h ⊢
          split at h
          · rename_i S' hS'
            try rw [hS']
            exact hfg _ _ _ _ h
          · cases h
theorem cEx_up {ms : List eM} : ∀ (n : Nat) {d y : Nat} {S : cS} {r : Option cV × cH}, cEx ms n d y S = some r → cEx ms (n + 1) d y S = some r
  | 0, d, y, S, r, h => by cases h
  | n + 1, d, y, S, r, h => cBody_mono (k := 0) (fun d y S r hq => cEx_up n hq) (show cBody ms (cEx ms n) d y S = some r from h)
theorem cEx_le {ms : List eM} {n n' : Nat} (hn : n ≤ n') {d y : Nat} {S : cS} {r : Option cV × cH} (h : cEx ms n d y S = some r) : cEx ms n' d y S = some r := by
  obtain ⟨k, rfl⟩ := Nat.le.dest hn
  induction k with
  | zero => exact h
  | succ k ih => exact cEx_up _ (ih (by omega))
theorem cEx_deep {ms : List eM} (k : Nat) : ∀ (n : Nat) {d y : Nat} {S : cS} {r : Option cV × cH}, cEx ms n d y S = some r → cEx ms n (d + k) y S = some r
  | 0, d, y, S, r, h => by cases h
  | n + 1, d, y, S, r, h => cBody_mono (k := k) (fun d y S r hq => cEx_deep k n hq) (show cBody ms (cEx ms n) d y S = some r from h)
/-- from a place a method comes to its end, hands back v, and leaves the cells h -/
def cRun (ms : List eM) (d y : Nat) (S : cS) (v : Option cV) (h : cH) : Prop := ∃ n, cEx ms n d y S = some (v, h)
theorem cRun.deep {ms : List eM} {d d' y : Nat} {S : cS} {v : Option cV} {h : cH} (hr : cRun ms d y S v h) (hd : d ≤ d') : cRun ms d' y S v h := by
  obtain ⟨n, hn⟩ := hr
  obtain ⟨k, rfl⟩ := Nat.le.dest hd
  exact ⟨n, cEx_deep k n hn⟩
section CRU
variable {ms : List eM} {d y : Nat} {S : cS} {v : Option cV} {h : cH} {M : eM} {en : eN}
theorem cRun.ret (hM : ms[y]? = some M) (hen : eAt M.1 S.1 = some en) (hv : cRet M en S = some v) (hh : S.2.2.2 = h) : cRun ms d y S v h := by
  refine ⟨1, ?_⟩
  show cBody ms (cEx ms 0) d y S = _
  unfold cBody
  rw [hM]
  simp only
  rw [hen]
  simp only
  rw [hv, hh]
theorem cRun.step {S' : cS} (hM : ms[y]? = some M) (hen : eAt M.1 S.1 = some en) (hv : cRet M en S = none) (hc : cIsC en.2.1 = false) (hst : cStep M.2.1 en.2.1 en.2.2.2.1 en.2.2.2.2.1 en.2.2.2.2.2.2 S.1 S.2.1 S.2.2.1 S.2.2.2 = some S') (hr : cRun ms d y S' v h) : cRun ms d y S v h := by
  obtain ⟨n, hn⟩ := hr
  refine ⟨n + 1, ?_⟩
  show cBody ms (cEx ms n) d y S = _
  unfold cBody
  rw [hM]
  simp only
  rw [hen]
  simp only
  rw [hv, hc, hst]
  exact hn
theorem cRun.blt {q : List cV × cH} (hM : ms[y]? = some M) (hen : eAt M.1 S.1 = some en) (hv : cRet M en S = none) (hc : cIsC en.2.1 = true) (hk : Nat.ble 6 en.2.2.2.1 = true) (hb : cBlt en.2.2.2.1 S.2.2.2 S.2.2.1 = some q) (hr : cRun ms (d + 1) y (S.1 + 3, S.2.1, q.1, q.2) v h) : cRun ms (d + 1) y S v h := by
  obtain ⟨n, hn⟩ := hr
  refine ⟨n + 1, ?_⟩
  show cBody ms (cEx ms n) (d + 1) y S = _
  unfold cBody
  rw [hM]
  simp only
  rw [hen]
  simp only
  rw [hv, hc]
  simp only [cond_true]
  unfold cInv
  simp only
  rw [hk, hb]
  exact hn
theorem cRun.call {N : eM} {q : List cV × List cV} {o : Option cV} {h1 : cH} (hM : ms[y]? = some M) (hen : eAt M.1 S.1 = some en) (hv : cRet M en S = none) (hc : cIsC en.2.1 = true) (hk : Nat.ble 6 en.2.2.2.1 = false) (hN : ms[en.2.2.2.2.1]? = some N) (hp : cPop S.2.2.1 N.2.2.2.2.2 en.2.2.2.1 = some q)
    (hq : (Nat.ble (cCats q.2) 8 && Nat.beq N.2.2.1 0 && Nat.beq N.2.2.2.1 0 && Nat.ble (cCats q.1) N.2.1 && cRcv S.2.2.2 en.2.2.2.1 en.2.2.2.2.2.2 q.1) = true) (h0 : cRun ms d en.2.2.2.2.1 (0, cArgs 0 q.1, [], S.2.2.2) o h1) (hr : cRun ms (d + 1) y (S.1 + 3, S.2.1, o.toList ++ q.2, h1) v h) : cRun ms (d + 1) y S v h := by
  obtain ⟨n0, hn0⟩ := h0
  obtain ⟨n, hn⟩ := hr
  refine ⟨n0 + n + 1, ?_⟩
  show cBody ms (cEx ms (n0 + n)) (d + 1) y S = _
  have hn0 := cEx_le (n' := n0 + n) (by omega) hn0
  have hn := cEx_le (n' := n0 + n) (by omega) hn
  unfold cBody
  rw [hM]
  simp only
  rw [hen]
  simp only
  rw [hv, hc]
  simp only [cond_true]
  unfold cInv
  simp only
  rw [hk, hN]
  simp only [cond_false]
  rw [hp]
  simp only
  rw [hq, hn0]
  exact hn
end CRU
end
