/-! LOOPS AS KNOWN CALLS: a loop's head, compare, exit; which locals and cells count with it; its bound -/
abbrev eSp : Type := Nat × Nat × Nat × Bool × List Nat × List (Nat × Nat) × Nat × Int × Int × Int
def eGenC (n : Nat) (st : Int) (h : eH) (q : Nat × Nat) : eH := match h[q.1]? with
  | some (.inl o) => match o.2[q.2]? with
    | some (.inl v) => h.set q.1 (.inl (o.1, o.2.set q.2 (.inl (n, v.2.1 - st, v.2.2 - st))))
    | _ => h
  | some (.inr (t, m, .inl es)) => match es[q.2]? with
    | some (.inl v) => h.set q.1 (.inr (t, m, .inl (es.set q.2 (.inl (n, v.2.1 - st, v.2.2 - st)))))
    | _ => h
  | _ => h
def eGenL (n : Nat) (st : Int) (l : eL) (i : Nat) : eL := match eGet l i with
  | some (.inl v) => ePut l i (.inl (n, v.2.1 - st, v.2.2 - st))
  | _ => l
def eGen (n : Nat) (st : Int) (ls : List Nat) (cs : List (Nat × Nat)) (S : eS) : eS := (S.1, ls.foldl (eGenL n st) S.2.1, S.2.2.1, cs.foldl (eGenC n st) S.2.2.2.1, S.2.2.2.2.1, S.2.2.2.2.2)
def eRenV (n b : Nat) (bd : Int) (v : eV) : eV := match v with
  | .inl q => cond (Nat.beq q.1 n) (.inl (b, q.2.1 + bd, q.2.2 + bd)) (.inl q)
  | .inr q => .inr q
def eRenC (n b : Nat) (bd : Int) (c : eC) : eC := match c with
  | .inl o => .inl (o.1, o.2.map (eRenV n b bd))
  | .inr (t, m, .inl es) => .inr (t, m, .inl (es.map (eRenV n b bd)))
  | .inr (t, m, .inr q) => .inr (t, m, .inr q)
def eRen (n b : Nat) (bd : Int) (S : eS) : eS := (S.1, S.2.1.map (fun q => (q.1, eRenV n b bd q.2)), S.2.2.1.map (eRenV n b bd), S.2.2.2.1.map (eRenC n b bd), S.2.2.2.2.1, S.2.2.2.2.2)
abbrev eRn : Type := List (Int × Int) → List Nat → eS → Option (List eS)
def eIsE (q r : eI) : Bool := Nat.beq q.1 r.1 && eLe q.2.1 r.2.1 && eLe r.2.1 q.2.1 && eLe q.2.2 r.2.2 && eLe r.2.2 q.2.2
theorem eIsE_ok {q r : eI} (h : eIsE q r = true) : q = r := by
  unfold eIsE at h
  simp only [Bool.and_eq_true] at h
  obtain ⟨⟨⟨⟨h1, h2⟩, h3⟩, h4⟩, h5⟩ := h
  have h1 := Nat.eq_of_beq_eq_true h1
  have h2 := eLe_ok h2
  have h3 := eLe_ok h3
  have h4 := eLe_ok h4
  have h5 := eLe_ok h5
  obtain ⟨a, b, c⟩ := q
  obtain ⟨a', b', c'⟩ := r
  simp only at h1 h2 h3 h4 h5
  rw [h1, show b = b' by omega, show c = c' by omega]
def eEnt (y cp xp : Nat) (gt : Bool) : Bool := match tMs[y]? with
  | some M => match eAt M.1 cp with
    | some (c, .if_icmp k _, _, x, _, _, _) => Nat.beq c cp && Nat.beq x xp && decide (k = cond gt .gt .ge)
    | _ => false
  | none => false
/-- the loop, from its head on: the state at its end -/
def eLpS (y : Nat) (sp : eSp) (R : eRn) (sr : List (Int × Int)) (S : eS) : Option eS := match sp with
  | (hp, cp, xp, gt, ls, cs, b, lo, st, hi) => match R sr [hp] S with
    | some [S0] => match R (sr ++ [(st, hi)]) [cp] (eGen sr.length st ls cs S0) with
      | some [(cp', l, [.inl q, .inl r], h, c1, c2)] => match R (sr ++ [(st, hi - 1)]) [hp] (cp + 3, l, [], h, c1, c2), sr[b]? with
        | some fins, some rb => cond (eEnt y cp xp gt && Nat.blt 0 sr.length && eLe st (rb.1 + (lo + cond gt 1 0)) && eLe (rb.2 + (lo + cond gt 1 0)) hi && eLeS sr ((0, sr.length, -st) :: eId sr.length) S0 (eGen sr.length st ls cs S0) && Nat.beq cp' cp && eIsE q (b, lo, lo) && eIsE r (sr.length, 0, 0) &&
            fins.all (fun f => eLeS (sr ++ [(st, hi - 1)]) ((sr.length, sr.length, -1) :: eId sr.length) f (eGen sr.length st ls cs S0)) &&
            eLeS (sr ++ [(st, hi)]) ((sr.length, b, lo + cond gt 1 0) :: eId sr.length) (xp, l, [], h, c1, c2) (eRen sr.length b (lo + cond gt 1 0) (xp, l, [], h, c1, c2)))
            (some (eRen sr.length b (lo + cond gt 1 0) (xp, l, [], h, c1, c2))) none
        | _, _ => none
      | _ => none
    | _ => none
section ELO
variable {adK adV : Nat → Nat} {l0 : Launch} {d y : Nat}
def eRnOk (adK adV : Nat → Nat) (l0 : Launch) (d y : Nat) (R : eRn) : Prop := ∀ (sr : List (Int × Int)) (stop : List Nat) (S : eS) (fins : List eS), R sr stop S = some fins → eGl (tFz adK adV) l0 tCl lw_g tNs sr tMs tYs d y S fins
theorem eLpS_ok {sp : eSp} {R : eRn} (hR : eRnOk adK adV l0 d y R) {sr : List (Int × Int)} {S So : eS} (h : eLpS y sp R sr S = some So) : eGl (tFz adK adV) l0 tCl lw_g tNs sr tMs tYs d y S [So] := by
  obtain ⟨hp, cp, xp, gt, ls, cs, b, lo, st, hi⟩ := sp
  unfold eLpS at h
  simp only at h
  split at h
  · rename_i S0 h0
    split at h
    · rename_i cp' l q r hh c1 c2 h1
      split at h
      · rename_i fins rb h2 hrb
        obtain ⟨hb, hg⟩ := eCond h
        clear h
        cases hg
        simp only [Bool.and_eq_true] at hb
        obtain ⟨⟨⟨⟨⟨⟨⟨⟨⟨b1, b2⟩, b3⟩, b4⟩, b5⟩, b6⟩, b7⟩, b8⟩, b9⟩, b10⟩ := hb
        have e1 := Nat.eq_of_beq_eq_true b6
        have e2 := eIsE_ok b7
        have e3 := eIsE_ok b8
        subst e1
        subst e2
        subst e3
        have b3 := eLe_ok b3
        have b4 := eLe_ok b4
        refine eGl_trans (hR _ _ _ _ h0) (fun T hT => ?_)
        rw [List.mem_singleton] at hT
        subst hT
        refine eFor (k := cond gt .gt .ge) (bd := lo + cond gt 1 0) (Nat.le_of_ble_eq_true b2) (List.getElem?_eq_some_iff.mp hrb).1 tOk ?_ ?_ b5 (hR _ _ _ _ h1) (hR _ _ _ _ h2) b9 rfl b10 ?_
        · intro M hM
          unfold eEnt at b1
          rw [hM] at b1
          simp only at b1
          split at b1
          · rename_i c k off len x a2 a3 a4 hat
            simp only [Bool.and_eq_true] at b1
            obtain ⟨⟨g1, g2⟩, g3⟩ := b1
            have g1 := Nat.eq_of_beq_eq_true g1
            have g2 := Nat.eq_of_beq_eq_true g2
            have g3 := of_decide_eq_true g3
            subst g1
            subst g2
            subst g3
            exact ⟨off, len, a2, a3, a4, hat⟩
          · cases b1
        · cases gt with
          | true => exact Or.inr ⟨rfl, rfl⟩
          | false => exact Or.inl ⟨rfl, by show lo + 0 = lo; omega⟩
        · intro σ hs
          have := hs.2 _ _ hrb
          exact ⟨by omega, by omega⟩
      · cases h
    · cases h
  · cases h
/-- a run with a loop in it -/
def eRL (y : Nat) (sp : eSp) (R : eRn) : eRn := fun sr stop S => match R sr (sp.1 :: stop) S with
  | some fs => eColl (fun f => cond (Nat.beq f.1 sp.1) (match eLpS y sp R sr f with
    | some So => R sr stop So
    | none => R sr stop f) (some [f])) fs
  | none => none
theorem eRL_ok {sp : eSp} {R : eRn} (hR : eRnOk adK adV l0 d y R) : eRnOk adK adV l0 d y (eRL y sp R) := by
  intro sr stop S fins h
  unfold eRL at h
  split at h
  · rename_i fs hfs
    refine eGl_trans (hR _ _ _ _ hfs) (fun f hf => ?_)
    obtain ⟨zs, hz1, hz2⟩ := eColl_ok h f hf
    refine eGl_mono ?_ hz2
    cases hb : Nat.beq f.1 sp.1 with
    | true =>
      rw [hb] at hz1
      simp only [cond_true] at hz1
      split at hz1
      · rename_i So hSo
        refine eGl_trans (eLpS_ok hR hSo) (fun T hT => ?_)
        rw [List.mem_singleton] at hT
        subst hT
        exact hR _ _ _ _ hz1
      · exact hR _ _ _ _ hz1
    | false =>
      rw [hb] at hz1
      cases hz1
      intro M Y hM hY p e R s m args below meth c hcx D A H0 σ ad0 hs hA hFs Q K
      exact K f List.mem_cons_self
  · cases h
end ELO
/-- the runs: of which methods, with which loops -/
def tR0 (o : List (Int × Int) → Nat → Nat → List eV → eH → Option (List (Option eV × eH))) (d y : Nat) : eRn := fun sr stop S => eExec sr tDf tMs (o sr) 100000 d y stop S
def tLC (R : eRn) (sr : List (Int × Int)) (b : Nat) (as : List eV) (h : eH) : Option (List (Option eV × eH)) := match tMs[b]? with
  | none => none
  | some N => cond (Nat.ble (eCats as) N.2.1) (match R sr [] (0, eArgs 0 as, [], h, 0, 0) with
    | some fs => eOuts N fs
    | none => none) none
theorem tLC_ok {adK adV : Nat → Nat} {l0 : Launch} {R : eRn} {d b : Nat} (hR : eRnOk adK adV l0 d b R) {sr : List (Int × Int)} {as : List eV} {h : eH} {os : List (Option eV × eH)} (hc : tLC R sr b as h = some os) : eCon (tFz adK adV) l0 tCl lw_g tNs sr tMs tYs d b as h os := by
  unfold tLC at hc
  split at hc
  · cases hc
  · rename_i N hN
    obtain ⟨h1, h2⟩ := eCond hc
    split at h2
    · rename_i fs hfs
      exact eCon_of tOk hN (Nat.le_of_ble_eq_true h1) (hR _ _ _ _ hfs) h2
    · cases h2
def tOk1 (adK adV : Nat → Nat) (l0 : Launch) (o : List (Int × Int) → Nat → Nat → List eV → eH → Option (List (Option eV × eH))) : Prop := ∀ (sr : List (Int × Int)) (d b : Nat) (as : List eV) (h : eH) (os : List (Option eV × eH)), o sr d b as h = some os → eCon (tFz adK adV) l0 tCl lw_g tNs sr tMs tYs d b as h os
theorem tR0_ok {adK adV : Nat → Nat} {l0 : Launch} {o : List (Int × Int) → Nat → Nat → List eV → eH → Option (List (Option eV × eH))} (ho : tOk1 adK adV l0 o) (d y : Nat) : eRnOk adK adV l0 d y (tR0 o d y) := fun sr stop S fins h => tRun (ho sr) 100000 d y stop S fins h
def tNo1 : List (Int × Int) → Nat → Nat → List eV → eH → Option (List (Option eV × eH)) := fun _ _ _ _ _ => none
