/-! THE ENGINE, 12: what is known may be loosened; symbols may be renamed; loops. -/
def eFnd (R : List (Nat × Nat × Int)) (a b : Nat) : Option Int := match R with
  | [] => none
  | q :: R => cond (Nat.beq q.1 a && Nat.beq q.2.1 b) (some q.2.2) (eFnd R a b)
theorem eFnd_ok : ∀ {R : List (Nat × Nat × Int)} {a b : Nat} {c : Int}, eFnd R a b = some c → (a, b, c) ∈ R
  | [], a, b, c, h => by cases h
  | q :: R, a, b, c, h => by
    unfold eFnd at h
    cases hq : (Nat.beq q.1 a && Nat.beq q.2.1 b) with
    | true =>
      rw [hq] at h
      rw [Bool.and_eq_true] at hq
      cases h
      rw [← Nat.eq_of_beq_eq_true hq.1, ← Nat.eq_of_beq_eq_true hq.2]
      exact List.mem_cons_self
    | false =>
      rw [hq] at h
      exact List.mem_cons_of_mem _ (eFnd_ok (R := R) h)
def eLeI (sr : List (Int × Int)) (R : List (Nat × Nat × Int)) (p q : eI) : Bool := (match eFnd R p.1 q.1 with
  | some c => eLe q.2.1 (p.2.1 + c) && eLe (p.2.2 + c) q.2.2
  | none => false) || (Nat.beq q.1 0 && eLe q.2.1 (eRg sr p).1 && eLe (eRg sr p).2 q.2.2)
def eLeG (a b : Option Int64) : Bool := match b with
  | none => true
  | some y => match a with
    | some x => decide (x = y)
    | none => false
theorem eLeG_ok {a b : Option Int64} {x : Int64} (h : eLeG a b = true) (ha : ∀ y, a = some y → x = y) : ∀ y, b = some y → x = y := by
  intro y hy
  subst hy
  cases a with
  | none => cases h
  | some z => exact (ha z rfl).trans (of_decide_eq_true (show decide (z = y) = true from h))
def eLeV (sr : List (Int × Int)) (R : List (Nat × Nat × Int)) (v w : eV) : Bool := match v, w with
  | .inl p, .inl q => eLeI sr R p q
  | .inr (.inl none), .inr (.inl none) => true
  | .inr (.inl (some a)), .inr (.inl (some b)) => Nat.beq a b
  | .inr (.inr a), .inr (.inr b) => eLeG a b
  | _, _ => false
def eLeL (sr : List (Int × Int)) (R : List (Nat × Nat × Int)) (vs ws : List eV) : Bool := match vs, ws with
  | [], [] => true
  | v :: vs, w :: ws => eLeV sr R v w && eLeL sr R vs ws
  | _, _ => false
def eLeC (sr : List (Int × Int)) (R : List (Nat × Nat × Int)) (c d : eC) : Bool := match c, d with
  | .inl o, .inl o' => Nat.beq o.1 o'.1 && eLeL sr R o.2 o'.2
  | .inr (t, n, .inl es), .inr (t', n', .inl es') => Nat.beq t t' && Nat.beq n n' && eLeL sr R es es'
  | .inr (t, n, .inr q), .inr (t', n', .inr q') => Nat.beq t t' && Nat.beq n n' && eLe q'.1 q.1 && eLe q.2 q'.2
  | _, _ => false
def eLeH (sr : List (Int × Int)) (R : List (Nat × Nat × Int)) (g h : eH) : Bool := match g, h with
  | [], [] => true
  | c :: g, d :: h => eLeC sr R c d && eLeH sr R g h
  | _, _ => false
def eLeO (sr : List (Int × Int)) (R : List (Nat × Nat × Int)) (l l' : eL) : Bool := match l' with
  | [] => true
  | q :: l' => (match eGet l q.1 with
    | some v => eLeV sr R v q.2
    | none => false) && eLeO sr R l l'
def eLeS (sr : List (Int × Int)) (R : List (Nat × Nat × Int)) (S T : eS) : Bool := Nat.beq S.1 T.1 && eLeO sr R S.2.1 T.2.1 && eLeL sr R S.2.2.1 T.2.2.1 && eLeH sr R S.2.2.2.1 T.2.2.2.1 && Nat.beq S.2.2.2.2.1 T.2.2.2.2.1 && Nat.beq S.2.2.2.2.2 T.2.2.2.2.2
section ELE
variable {sr : List (Int × Int)} {R : List (Nat × Nat × Int)} {σ τ : Nat → Int} {ad : List Nat} {tys : List (ClassId × FieldType)}
theorem eLeI_ok (hs : eSg sr σ) (h0 : τ 0 = 0) (hR : ∀ q ∈ R, σ q.1 = τ q.2.1 + q.2.2) {p q : eI} {x : Int32} (h : eLeI sr R p q = true) (hx : eIn σ p x) : eIn τ q x := by
  unfold eLeI at h
  rw [Bool.or_eq_true] at h
  rcases h with h | h
  · split at h
    · rename_i c hc
      have hm := hR _ (eFnd_ok hc)
      have hm : σ p.1 = τ q.1 + c := hm
      rw [Bool.and_eq_true] at h
      have h1 := eLe_ok h.1
      have h2 := eLe_ok h.2
      obtain ⟨hx1, hx2⟩ := hx
      exact ⟨by omega, by omega⟩
    · cases h
  · simp only [Bool.and_eq_true] at h
    obtain ⟨⟨h1, h2⟩, h3⟩ := h
    have h1 := Nat.eq_of_beq_eq_true h1
    have h2 := eLe_ok h2
    have h3 := eLe_ok h3
    have hr := eRg_ok hs hx
    exact ⟨by rw [h1, h0]; omega, by rw [h1, h0]; omega⟩
theorem eLeV_ok (hs : eSg sr σ) (h0 : τ 0 = 0) (hR : ∀ q ∈ R, σ q.1 = τ q.2.1 + q.2.2) {v w : eV} {x : Value} (h : eLeV sr R v w = true) (hx : eOk ad σ v x) : eOk ad τ w x := by
  match v, w, h, hx with
  | .inl p, .inl q, h, ⟨x, hx, hq⟩ => exact ⟨x, hx, eLeI_ok hs h0 hR h hq⟩
  | .inr (.inl none), .inr (.inl none), h, hx => exact hx
  | .inr (.inl (some a)), .inr (.inl (some b)), h, hx =>
    have e := Nat.eq_of_beq_eq_true (show Nat.beq a b = true from h)
    subst e
    exact hx
  | .inr (.inr a), .inr (.inr b), h, ⟨x, hx, hy⟩ => exact ⟨x, hx, eLeG_ok (show eLeG a b = true from h) hy⟩
theorem eLeL_ok (hs : eSg sr σ) (h0 : τ 0 = 0) (hR : ∀ q ∈ R, σ q.1 = τ q.2.1 + q.2.2) : ∀ {vs ws : List eV} {xs : List Value}, eLeL sr R vs ws = true → eAll (eOk ad σ) vs xs → eAll (eOk ad τ) ws xs
  | [], [], xs, _, hx => by rw [eAll_nil hx]; trivial
  | v :: vs, w :: ws, xs, h, hx => by
    obtain ⟨x, xs, rfl, h1, h2⟩ := eAll_cons hx
    unfold eLeL at h
    rw [Bool.and_eq_true] at h
    exact ⟨eLeV_ok hs h0 hR h.1 h1, eLeL_ok hs h0 hR h.2 h2⟩
  | [], _ :: _, _, h, _ => by cases h
  | _ :: _, [], _, h, _ => by cases h
theorem eLeL_get (hs : eSg sr σ) (h0 : τ 0 = 0) (hR : ∀ q ∈ R, σ q.1 = τ q.2.1 + q.2.2) : ∀ {vs ws : List eV}, eLeL sr R vs ws = true → ∀ {j : Nat} {v : eV} {x : Value}, vs[j]? = some v → eOk ad σ v x → ∃ w, ws[j]? = some w ∧ eOk ad τ w x
  | [], [], _, j, v, x, hj, _ => by simp at hj
  | v :: vs, w :: ws, h, j, v', x, hj, hx => by
    unfold eLeL at h
    rw [Bool.and_eq_true] at h
    cases j with
    | zero =>
      simp at hj
      subst hj
      exact ⟨w, by simp, eLeV_ok hs h0 hR h.1 hx⟩
    | succ j =>
      obtain ⟨w', g1, g2⟩ := eLeL_get hs h0 hR h.2 (j := j) (by simpa using hj) hx
      exact ⟨w', by simpa using g1, g2⟩
  | [], _ :: _, h, _, _, _, _, _ => by cases h
  | _ :: _, [], h, _, _, _, _, _ => by cases h
theorem eLeC_ok (hs : eSg sr σ) (h0 : τ 0 = 0) (hR : ∀ q ∈ R, σ q.1 = τ q.2.1 + q.2.2) {c d : eC} {q : Nat × va_E} (h : eLeC sr R c d = true) (hc : eCk ad σ tys c q) : eCk ad τ tys d q := by
  match c, d, h, hc with
  | .inl o, .inl o', h, ⟨vs, h1, h2⟩ =>
    unfold eLeC at h
    rw [Bool.and_eq_true] at h
    have e := Nat.eq_of_beq_eq_true h.1
    exact ⟨vs, by rw [h1, e], eLeL_ok hs h0 hR h.2 h2⟩
  | .inr (t, n, .inl es), .inr (t', n', .inl es'), h, ⟨cA, t0, h1, h2, h3⟩ =>
    unfold eLeC at h
    simp only [Bool.and_eq_true] at h
    obtain ⟨⟨e1, e2⟩, h4⟩ := h
    have e1 := Nat.eq_of_beq_eq_true e1
    have e2 := Nat.eq_of_beq_eq_true e2
    subst e1
    subst e2
    refine ⟨cA, t0, h1, h2, ?_⟩
    have h3 : eAr ad σ t n (.inl es) cA q.2 := h3
    show eAr ad τ t n (.inl es') cA q.2
    unfold eAr at h3 ⊢
    split at h3
    · obtain ⟨f, g1, g2⟩ := h3
      exact ⟨f, g1, fun j hj => by obtain ⟨v, k1, k2⟩ := g2 j hj; exact eLeL_get hs h0 hR h4 k1 k2⟩
    · obtain ⟨f, g1, g2⟩ := h3
      exact ⟨f, g1, fun j hj => by obtain ⟨v, k1, k2⟩ := g2 j hj; exact eLeL_get hs h0 hR h4 k1 k2⟩
    · obtain ⟨f, g1, g2⟩ := h3
      exact ⟨f, g1, fun j hj => by obtain ⟨v, k1, k2⟩ := g2 j hj; exact eLeL_get hs h0 hR h4 k1 k2⟩
  | .inr (t, n, .inr r), .inr (t', n', .inr r'), h, ⟨cA, t0, h1, h2, h3⟩ =>
    unfold eLeC at h
    simp only [Bool.and_eq_true] at h
    obtain ⟨⟨⟨e1, e2⟩, h4⟩, h5⟩ := h
    have e1 := Nat.eq_of_beq_eq_true e1
    have e2 := Nat.eq_of_beq_eq_true e2
    have h4 := eLe_ok h4
    have h5 := eLe_ok h5
    subst e1
    subst e2
    refine ⟨cA, t0, h1, h2, ?_⟩
    have h3 : eAr ad σ t n (.inr r) cA q.2 := h3
    show eAr ad τ t n (.inr r') cA q.2
    unfold eAr at h3 ⊢
    split at h3
    · obtain ⟨f, g1, g2⟩ := h3
      exact ⟨f, g1, trivial⟩
    · obtain ⟨f, g1, g2⟩ := h3
      exact ⟨f, g1, trivial⟩
    · obtain ⟨f, g1, g2⟩ := h3
      exact ⟨f, g1, fun j hj => by have := g2 j hj; exact ⟨by omega, by omega⟩⟩
theorem eLeH_ok (hs : eSg sr σ) (h0 : τ 0 = 0) (hR : ∀ q ∈ R, σ q.1 = τ q.2.1 + q.2.2) : ∀ {g h : eH} {ws : va_W}, eLeH sr R g h = true → eAll (eCk ad σ tys) g ws → eAll (eCk ad τ tys) h ws
  | [], [], ws, _, hx => by rw [eAll_nil hx]; trivial
  | v :: vs, w :: ws, xs, h, hx => by
    obtain ⟨x, xs, rfl, h1, h2⟩ := eAll_cons hx
    unfold eLeH at h
    rw [Bool.and_eq_true] at h
    exact ⟨eLeC_ok hs h0 hR h.1 h1, eLeH_ok hs h0 hR h.2 h2⟩
  | [], _ :: _, _, h, _ => by cases h
  | _ :: _, [], _, h, _ => by cases h
theorem eLeO_ok (hs : eSg sr σ) (h0 : τ 0 = 0) (hR : ∀ q ∈ R, σ q.1 = τ q.2.1 + q.2.2) {l : eL} {lv : List (Nat × Value)} (hl : eAll (eLo ad σ) l lv) : ∀ {l' : eL}, eLeO sr R l l' = true → ∃ lv', eAll (eLo ad τ) l' lv' ∧ ∀ q ∈ lv', q ∈ lv
  | [], _ => ⟨[], trivial, fun q hq => absurd hq List.not_mem_nil⟩
  | q :: l', h => by
    unfold eLeO at h
    rw [Bool.and_eq_true] at h
    obtain ⟨h1, h2⟩ := h
    obtain ⟨lv', g1, g2⟩ := eLeO_ok hs h0 hR hl h2
    split at h1
    · rename_i v hv
      obtain ⟨w, w1, w2⟩ := eGet_ok hl hv
      refine ⟨(q.1, w) :: lv', ⟨⟨rfl, eLeV_ok hs h0 hR h1 w2⟩, g1⟩, fun z hz => ?_⟩
      rcases List.mem_cons.mp hz with rfl | hz
      · exact w1
      · exact g2 z hz
    · cases h1
theorem eLeS_ok (hs : eSg sr σ) (h0 : τ 0 = 0) (hR : ∀ q ∈ R, σ q.1 = τ q.2.1 + q.2.2) {D : va_G} {cl : List vw_C} {A : Nat → Prop} {H0 : Heap} {s : State} {nL : Nat} {ad0 : List Nat} {S T : eS} (h : eLeS sr R S T = true) {H : Heap} {locs : List Loc} {ws : va_W} {ls : Array Slot} {lv : List (Nat × Value)} {stk : List Value} (hc : eCn D cl A H0 s σ nL ad0 S H locs ws tys ls lv stk) : S.1 = T.1 ∧ S.2.2.2.2.1 = T.2.2.2.2.1 ∧ S.2.2.2.2.2 = T.2.2.2.2.2 ∧ ∃ lv', eCn D cl A H0 s τ nL ad0 T H locs ws tys ls lv' stk := by
  unfold eLeS at h
  simp only [Bool.and_eq_true] at h
  obtain ⟨⟨⟨⟨⟨h1, h2⟩, h3⟩, h4⟩, h5⟩, h6⟩ := h
  obtain ⟨hK, hP, hD, hS, hpre, hh, hl, hlv, hsk⟩ := hc
  obtain ⟨lv', g1, g2⟩ := eLeO_ok hs h0 hR hlv h2
  exact ⟨Nat.eq_of_beq_eq_true h1, Nat.eq_of_beq_eq_true h5, Nat.eq_of_beq_eq_true h6, lv', hK, hP, hD, hS, hpre, eLeH_ok hs h0 hR h4 hh, ⟨hl.1, hl.2.1, fun q hq => hl.2.2 q (g2 q hq)⟩, g1, eLeL_ok hs h0 hR h3 hsk⟩
end ELE
section ELP
variable {Fz : (Nat → Prop) → State → Heap → Prop} {l0 : Launch} {cl : List vw_C} {Ts : List Cond} {nst : List (String × Nat × MethodName × String)} {sr : List (Int × Int)} {ms : List eM} {yt : List eY}
theorem eGl_trans {d y : Nat} {S : eS} {mid fins : List eS} (h : eGl Fz l0 cl Ts nst sr ms yt d y S mid) (h2 : ∀ T ∈ mid, eGl Fz l0 cl Ts nst sr ms yt d y T fins) : eGl Fz l0 cl Ts nst sr ms yt d y S fins := by
  intro M Y hM hY p e R s m args below meth c hcx D A H0 σ ad0 hs hA hFs Q K
  exact h M Y hM hY p e R s m args below meth c hcx D A H0 σ ad0 hs hA hFs Q (fun f hf => h2 f hf M Y hM hY p e R s m args below meth c hcx D A H0 σ ad0 hs hA hFs Q K)
/-- the old symbols stay -/
def eId (n : Nat) : List (Nat × Nat × Int) := (List.range n).map (fun j => (j, j, 0))
def eUp (σ : Nat → Int) (n : Nat) (v : Int) : Nat → Int := fun j => if j = n then v else σ j
theorem eUp_at (σ : Nat → Int) (n : Nat) (v : Int) : eUp σ n v n = v := if_pos rfl
theorem eUp_ne {σ : Nat → Int} {n j : Nat} {v : Int} (h : j ≠ n) : eUp σ n v j = σ j := if_neg h
theorem eSg_up {σ : Nat → Int} {v lo hi : Int} (hs : eSg sr σ) (hn : 0 < sr.length) (h1 : lo ≤ v) (h2 : v ≤ hi) : eSg (sr ++ [(lo, hi)]) (eUp σ sr.length v) := by
  refine ⟨by rw [eUp_ne (by omega)]; exact hs.1, fun j q hq => ?_⟩
  by_cases hj : j < sr.length
  · rw [List.getElem?_append_left hj] at hq
    rw [eUp_ne (by omega)]
    exact hs.2 j q hq
  · have hlt := (List.getElem?_eq_some_iff.mp hq).1
    rw [List.length_append] at hlt
    have e : j = sr.length := by simp at hlt; omega
    subst e
    rw [List.getElem?_append_right (Nat.le_refl _), Nat.sub_self] at hq
    cases hq
    rw [eUp_at]
    exact ⟨h1, h2⟩
theorem eId_ok {σ τ : Nat → Int} {n : Nat} (h : ∀ j, j < n → σ j = τ j) : ∀ q ∈ eId n, σ q.1 = τ q.2.1 + q.2.2 := by
  intro q hq
  obtain ⟨j, hj, rfl⟩ := List.mem_map.mp hq
  have := h j (List.mem_range.mp hj)
  show σ j = τ j + 0
  omega
/-- A LOOP that counts: at its head (S1) the new symbol; at 'cp' it is compared with a bound; Sb behind it, Sx at its end -/
theorem eFor {d y b cp xp : Nat} {k : Jvm.ClassFile.Cond} {st bd lo hi : Int} {S0 S1 Sx So : eS} {l : eL} {h : eH} {cs sl : Nat} {fins : List eS} (hn : 0 < sr.length) (hb : b < sr.length)
    (hT : eAll (eMok cl Ts nst ms yt) ms yt) (hent : ∀ M, ms[y]? = some M → ∃ off len a2 a3 a4, eAt M.1 cp = some (cp, .if_icmp k off, len, xp, a2, a3, a4))
    (hk : (k = .ge ∧ bd = lo) ∨ (k = .gt ∧ bd = lo + 1))
    (hin : eLeS sr ((0, sr.length, -st) :: eId sr.length) S0 S1 = true)
    (hhead : eGl Fz l0 cl Ts nst (sr ++ [(st, hi)]) ms yt d y S1 [(cp, l, [.inl (b, lo, lo), .inl (sr.length, 0, 0)], h, cs, sl)])
    (hbody : eGl Fz l0 cl Ts nst (sr ++ [(st, hi - 1)]) ms yt d y (cp + 3, l, [], h, cs, sl) fins) (hback : fins.all (fun f => eLeS (sr ++ [(st, hi - 1)]) ((sr.length, sr.length, -1) :: eId sr.length) f S1) = true)
    (hxs : Sx = (xp, l, [], h, cs, sl)) (hout : eLeS (sr ++ [(st, hi)]) ((sr.length, b, bd) :: eId sr.length) Sx So = true)
    (hbnd : ∀ σ, eSg sr σ → st ≤ σ b + bd ∧ σ b + bd ≤ hi) : eGl Fz l0 cl Ts nst sr ms yt d y S0 [So] := by
  intro M Y hM hY p e R s m args below meth c hcx D A H0 σ ad0 hs hA hFs Q K
  obtain ⟨hx, hbb, hown, hts, hml, hini, hXt, hR1, hR2, hRc, hRs⟩ := id hcx
  obtain ⟨Y', hY', hok⟩ := eAll_get hT hM
  have eY := Option.some.inj (hY'.symm.trans hY)
  subst eY
  obtain ⟨off, len, a2, a3, a4, hen⟩ := hent M hM
  obtain ⟨-, hmem⟩ := eAt_ok hen
  obtain ⟨hd, -, hlk, -⟩ := hok.1 _ hmem
  have hd : decode Y'.2.1 cp = .ok (.if_icmp k off, 3) := hd (by simp [eLen])
  have hlk : (cp : Int) + off = (xp : Int) := hlk
  obtain ⟨hB1, hB2⟩ := hbnd σ hs
  have idok : ∀ v w : Int, ∀ j, j < sr.length → eUp σ sr.length v j = eUp σ sr.length w j := fun v w j hj => by rw [eUp_ne (by omega), eUp_ne (by omega)]
  have idok0 : ∀ v : Int, ∀ j, j < sr.length → σ j = eUp σ sr.length v j := fun v j hj => by rw [eUp_ne (by omega)]
  have loop : ∀ (n : Nat) (v : Int), st ≤ v → v ≤ σ b + bd → (σ b + bd - v).toNat < n → ∀ (H : Heap) (locs : List Loc) (ws : va_W) (tys : List (ClassId × FieldType)) (ls : Array Slot) (lv : List (Nat × Value)) (stk : List Value), eCn D cl A H0 s (eUp σ sr.length v) M.2.1 ad0 S1 H locs ws tys ls lv stk → W p l0 e R s m args below meth c H locs S1.2.2.2.2.1 S1.2.2.2.2.2 Q (F0 m S1.1 ls stk) := by
    intro n
    induction n with
    | zero => intro v h1 h2 h3; omega
    | succ n ih =>
      intro v h1 h2 h3
      have hs1 : eSg (sr ++ [(st, hi)]) (eUp σ sr.length v) := eSg_up hs hn h1 (by omega)
      refine hhead M Y' hM hY p e R s m args below meth c hcx D A H0 (eUp σ sr.length v) ad0 hs1 hA hFs Q (fun f hf => ?_)
      rw [List.mem_singleton] at hf
      subst hf
      intro H locs ws tys ls lv stk hc
      obtain ⟨hK, hP, hD, hS, hpre, hh, hl, hlv, hsk⟩ := hc
      obtain ⟨w1, stk1, rfl, ⟨z, rfl, hz⟩, hsk1⟩ := eAll_cons hsk
      obtain ⟨w2, stk2, rfl, ⟨x, rfl, hxv⟩, hsk2⟩ := eAll_cons hsk1
      have e2 := eAll_nil hsk2
      subst e2
      have ez : z.toInt = σ b + lo := by
        obtain ⟨q1, q2⟩ := hz
        have e : eUp σ sr.length v b = σ b := eUp_ne (by omega)
        have q1 : eUp σ sr.length v b + lo ≤ z.toInt := q1
        have q2 : z.toInt ≤ eUp σ sr.length v b + lo := q2
        omega
      have ex : x.toInt = v := by
        obtain ⟨q1, q2⟩ := hxv
        have q1 : eUp σ sr.length v sr.length + 0 ≤ x.toInt := q1
        have q2 : x.toInt ≤ eUp σ sr.length v sr.length + 0 := q2
        rw [eUp_at] at q1 q2
        omega
      have yes : v = σ b + bd → W p l0 e R s m args below meth c H locs cs sl Q (F0 m xp ls []) := by
        intro hv
        have hfact : ∀ q ∈ ((sr.length, b, bd) :: eId sr.length : List (Nat × Nat × Int)), eUp σ sr.length v q.1 = σ q.2.1 + q.2.2 := by
          intro q hq
          rcases List.mem_cons.mp hq with rfl | hq
          · show eUp σ sr.length v sr.length = σ b + bd
            rw [eUp_at]
            exact hv
          · exact eId_ok (fun j hj => (idok0 v j hj).symm) q hq
        obtain ⟨g1, g2, g3, lv', g4⟩ := eLeS_ok (T := So) hs1 hs.1 hfact hout (hxs ▸ (⟨hK, hP, hD, hS, hpre, hh, hl, hlv, trivial⟩ : eCn D cl A H0 s (eUp σ sr.length v) M.2.1 ad0 (xp, l, [], h, cs, sl) H locs ws tys ls lv []))
        have := K So List.mem_cons_self H locs ws tys ls lv' [] g4
        rw [← g1, ← g2, ← g3, hxs] at this
        exact this
      have no : v < σ b + bd → W p l0 e R s m args below meth c H locs cs sl Q (F0 m (cp + 3) ls []) := by
        intro hv
        have hs2 : eSg (sr ++ [(st, hi - 1)]) (eUp σ sr.length v) := eSg_up hs hn h1 (by omega)
        refine hbody M Y' hM hY p e R s m args below meth c hcx D A H0 (eUp σ sr.length v) ad0 hs2 hA hFs Q (fun f hf => ?_) H locs ws tys ls lv [] ⟨hK, hP, hD, hS, hpre, hh, hl, hlv, trivial⟩
        intro H' locs' ws' tys' ls' lv' stk' hc'
        have hfact : ∀ q ∈ ((sr.length, sr.length, -1) :: eId sr.length : List (Nat × Nat × Int)), eUp σ sr.length v q.1 = eUp σ sr.length (v + 1) q.2.1 + q.2.2 := by
          intro q hq
          rcases List.mem_cons.mp hq with rfl | hq
          · show eUp σ sr.length v sr.length = eUp σ sr.length (v + 1) sr.length + -1
            rw [eUp_at, eUp_at]
            omega
          · exact eId_ok (idok v (v + 1)) q hq
        obtain ⟨g1, g2, g3, lv'', g4⟩ := eLeS_ok hs2 (by rw [eUp_ne (by omega)]; exact hs.1) hfact (List.all_eq_true.mp hback f hf) hc'
        rw [g1, g2, g3]
        exact ih (v + 1) (by omega) (by omega) (by omega) H' locs' ws' tys' ls' lv'' stk' g4
      rcases hk with ⟨rfl, hbd⟩ | ⟨rfl, hbd⟩
      · exact lv_icmp_ge hx hbb hd hlk (fun q => yes (by have := Int32.le_iff_toInt_le.mp q; omega)) (fun q => no (by have := Int32.lt_iff_toInt_lt.mp (Int32.not_le.mp q); omega))
      · exact lv_icmp_gt hx hbb hd hlk (fun q => yes (by have := Int32.lt_iff_toInt_lt.mp q; omega)) (fun q => no (by have := Int32.le_iff_toInt_le.mp (Int32.not_lt.mp q); omega))
  intro H locs ws tys ls lv stk hc
  have hfact : ∀ q ∈ ((0, sr.length, -st) :: eId sr.length : List (Nat × Nat × Int)), σ q.1 = eUp σ sr.length st q.2.1 + q.2.2 := by
    intro q hq
    rcases List.mem_cons.mp hq with rfl | hq
    · show σ 0 = eUp σ sr.length st sr.length + -st
      rw [eUp_at, hs.1]
      omega
    · exact eId_ok (idok0 st) q hq
  obtain ⟨g1, g2, g3, lv', g4⟩ := eLeS_ok hs (by rw [eUp_ne (by omega)]; exact hs.1) hfact hin hc
  rw [g1, g2, g3]
  exact loop _ st (Int.le_refl _) hB1 (Nat.lt_succ_self _) H locs ws tys ls lv' stk g4
end ELP
