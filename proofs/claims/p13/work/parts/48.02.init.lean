section
/-! THE TOKENS START as a known call -/
def tNo : Nat → Nat → List eV → eH → Option (List (Option eV × eH)) := fun _ _ _ _ => none
theorem tRun {l0 : Launch} {adK adV : Nat → Nat} {sr : List (Int × Int)} {orc : Nat → Nat → List eV → eH → Option (List (Option eV × eH))} (horc : ∀ (d b : Nat) (as : List eV) (h : eH) (os : List (Option eV × eH)), orc d b as h = some os → eCon (tFz adK adV) l0 tCl lw_g tNs sr tMs tYs d b as h os) (n : Nat) : eIH (tFz adK adV) l0 tCl lw_g tNs sr tMs tYs (eExec sr tDf tMs orc n) := eExec_ok (tFzOk adK adV) tOk lw_g_good tKl horc n
theorem tRun0 {l0 : Launch} {adK adV : Nat → Nat} {sr : List (Int × Int)} (n : Nat) : eIH (tFz adK adV) l0 tCl lw_g tNs sr tMs tYs (eExec sr tDf tMs tNo n) := tRun (fun _ _ _ _ _ h => by cases h) n
/-- the loop over the words, run -/
def tWl (sr : List (Int × Int)) (d : Nat) : Nat → eS → Option eS
  | 0, _ => none
  | n + 1, S => match eGet S.2.1 4, eGet S.2.1 1, S.2.2.1 with
    | some (.inl q4), some (.inl q1), [] => match eOne q4, eOne q1 with
      | some y4, some y1 => cond (Nat.beq S.1 51 && Nat.ble 6 d && Nat.ble S.2.2.2.2.1 tM214.2.2.1 && Nat.ble S.2.2.2.2.2 tM214.2.2.2.1)
        (cond (eLe 116 y4.toInt) (some (111, S.2.1, [], S.2.2.2))
          (cond (eLe 0 y4.toInt && eLe y1.toInt 21) (match eExec sr tDf tMs tNo 200 d 214 [51] (74, S.2.1, [.inl (ePt (tCh y4.toNatClampNeg))], S.2.2.2) with
            | some [f] => tWl sr d n f
            | _ => none) none)) none
      | _, _ => none
    | _, _, _ => none
theorem tWl_ok {l0 : Launch} {adK adV : Nat → Nat} {sr : List (Int × Int)} {d : Nat} : ∀ {n : Nat} {S E : eS}, tWl sr d n S = some E → eGl (tFz adK adV) l0 tCl lw_g tNs sr tMs tYs d 214 S [E]
  | 0, S, E, h => by cases h
  | n + 1, (pc, l, st, hp, cs, sl), E, h => by
    unfold tWl at h
    split at h
    · rename_i q4 q1 h4 h1 h0
      have h4 : eGet l 4 = some (.inl q4) := h4
      have h1 : eGet l 1 = some (.inl q1) := h1
      have h0 : st = [] := h0
      subst h0
      split at h
      · rename_i y4 y1 e4 e1
        obtain ⟨hb, h⟩ := eCond h
        simp only [Bool.and_eq_true] at hb
        obtain ⟨⟨⟨b1, b2⟩, b3⟩, b4⟩ := hb
        have b1 : pc = 51 := Nat.eq_of_beq_eq_true b1
        subst b1
        have b2 := Nat.le_of_ble_eq_true b2
        have b3 : cs ≤ tM214.2.2.1 := Nat.le_of_ble_eq_true b3
        have b4 : sl ≤ tM214.2.2.2.1 := Nat.le_of_ble_eq_true b4
        cases hc : eLe 116 y4.toInt with
        | true =>
          rw [hc] at h
          cases h
          exact tTok_end b2 b3 b4 rfl rfl h4 e4 (eLe_ok hc)
        | false =>
          rw [hc] at h
          obtain ⟨hb, h⟩ := eCond (show cond _ _ none = some E from h)
          rw [Bool.and_eq_true] at hb
          have c1 := eLe_ok hb.1
          have c2 := eLe_ok hb.2
          have c3 := eLe_no hc
          split at h
          · rename_i f hf
            refine eGl_trans (tTok_go b2 b3 b4 rfl rfl h4 e4 h1 e1 c1 c3 (by omega)) (fun T hT => ?_)
            rw [List.mem_singleton] at hT
            subst hT
            refine eGl_trans (tRun0 (l0 := l0) (adK := adK) (adV := adV) 200 d 214 [51] _ _ hf) (fun T hT => ?_)
            rw [List.mem_singleton] at hT
            subst hT
            exact tWl_ok h
          · cases h
      · cases h
    · cases h
def tTokO (sr : List (Int × Int)) (d : Nat) (as : List eV) (h : eH) : Option (List (Option eV × eH)) := match as with
  | [.inr (.inl (some k))] => match eExec sr tDf tMs tNo 200 d 214 [51] (0, eArgs 0 [.inr (.inl (some k))], [], h, 0, 0) with
    | some [f] => match tWl sr d 120 f with
      | some E => eOuts tM214 [E]
      | none => none
    | _ => none
  | _ => none
theorem tTokO_ok {l0 : Launch} {adK adV : Nat → Nat} {sr : List (Int × Int)} {d : Nat} {as : List eV} {hp : eH} {os : List (Option eV × eH)} (h : tTokO sr d as hp = some os) : eCon (tFz adK adV) l0 tCl lw_g tNs sr tMs tYs d 214 as hp os := by
  unfold tTokO at h
  split at h
  · rename_i k
    split at h
    · rename_i f hf
      split at h
      · rename_i E hE
        have hrun := tRun0 (l0 := l0) (adK := adK) (adV := adV) 200 d 214 [51] _ _ hf
        refine eCon_of tOk (N := tM214) (fs := [E]) rfl (by show 1 + 0 ≤ _; decide) (eGl_trans hrun (fun T hT => ?_)) h
        rw [List.mem_singleton] at hT
        subst hT
        exact tWl_ok hE
      · cases h
    · cases h
  · cases h
/-- the known calls: the Tokens start -/
def tOrc (sr : List (Int × Int)) : Nat → Nat → List eV → eH → Option (List (Option eV × eH)) := fun d b as h => cond (Nat.beq b 214) (tTokO sr d as h) none
theorem tOrc_ok {l0 : Launch} {adK adV : Nat → Nat} {sr : List (Int × Int)} : ∀ (d b : Nat) (as : List eV) (h : eH) (os : List (Option eV × eH)), tOrc sr d b as h = some os → eCon (tFz adK adV) l0 tCl lw_g tNs sr tMs tYs d b as h os := by
  intro d b as h os hq
  obtain ⟨h1, h2⟩ := eCond hq
  have e := Nat.eq_of_beq_eq_true h1
  subst e
  exact tTokO_ok h2
/-- a call, run to its ends -/
def tCall (sr : List (Int × Int)) (orc : Nat → Nat → List eV → eH → Option (List (Option eV × eH))) (d b : Nat) (as : List eV) (h : eH) : Option (List (Option eV × eH)) := match tMs[b]? with
  | none => none
  | some N => cond (Nat.ble (eCats as) N.2.1) (match eExec sr tDf tMs orc 100000 d b [] (0, eArgs 0 as, [], h, 0, 0) with
    | some fs => eOuts N fs
    | none => none) none
theorem tCall_ok {l0 : Launch} {adK adV : Nat → Nat} {sr : List (Int × Int)} {orc : Nat → Nat → List eV → eH → Option (List (Option eV × eH))} (horc : ∀ (d b : Nat) (as : List eV) (h : eH) (os : List (Option eV × eH)), orc d b as h = some os → eCon (tFz adK adV) l0 tCl lw_g tNs sr tMs tYs d b as h os) {d b : Nat} {as : List eV} {h : eH} {os : List (Option eV × eH)} (hc : tCall sr orc d b as h = some os) : eCon (tFz adK adV) l0 tCl lw_g tNs sr tMs tYs d b as h os := by
  unfold tCall at hc
  split at hc
  · cases hc
  · rename_i N hN
    obtain ⟨h1, h2⟩ := eCond hc
    split at h2
    · rename_i fs hfs
      exact eCon_of tOk hN (Nat.le_of_ble_eq_true h1) (tRun horc _ _ _ _ _ _ hfs) h2
    · cases h2
/-- all, as it is behind the two starts -/
def hFresh : eH := [
  .inl (11, [.inr (.inl (some 1)), eZero, .inl (0, -1, -1), .inr (.inl (some 2)), .inr (.inl (some 20)), .inr (.inl (some 38)), .inr (.inl (some 43)), .inr (.inl (some 44)), .inr (.inl (some 47)), .inr (.inl (some 51)), .inr (.inl (some 54)), .inr (.inl (some 61)), .inr (.inl (some 67))]),
  .inr (1, 2000, .inr (-128, 127)),
  .inl (3, [eZero, eZero, eZero, eZero, eZero, .inl (0, 100, 100), eZero, .inr (.inl (some 3)), .inr (.inl (some 4)), .inr (.inl (some 5)), .inr (.inl (some 6)), .inr (.inl (some 7)), .inr (.inl (some 8)), .inr (.inl (some 9)), .inr (.inl (some 10)), .inr (.inl (some 11))]),
  .inr (0, 7, .inl ([eZero, eZero, eZero, eZero, eZero, eZero, eZero])),
  .inr (0, 10, .inl ([eZero, eZero, eZero, eZero, eZero, eZero, eZero, eZero, eZero, eZero])),
  .inr (0, 10, .inl ([eZero, eZero, eZero, eZero, eZero, eZero, eZero, eZero, eZero, eZero])),
  .inr (0, 10, .inl ([eZero, eZero, eZero, eZero, eZero, eZero, eZero, eZero, eZero, eZero])),
  .inr (0, 8, .inl ([eZero, eZero, eZero, eZero, eZero, eZero, eZero, eZero])),
  .inr (0, 8, .inl ([eZero, eZero, eZero, eZero, eZero, eZero, eZero, eZero])),
  .inr (0, 8, .inl ([eZero, eZero, eZero, eZero, eZero, eZero, eZero, eZero])),
  .inr (0, 8, .inl ([eZero, eZero, eZero, eZero, eZero, eZero, eZero, eZero])),
  .inl (4, [.inr (.inl (some 12)), .inl (0, 6, 6), .inr (.inl (some 13)), .inr (.inl (some 18)), .inr (.inl (some 19)), eZero]),
  .inr (0, 406, .inl (([.inl (0, 4, 4), .inl (0, 5, 5), .inl (0, 1, 1), .inl (0, 13, 13), .inl (0, 5, 5), .inl (0, 9, 9)] ++ (List.replicate 400 (eZero))))),
  .inr (4, 4, .inl ([.inr (.inl (some 14)), .inr (.inl (some 15)), .inr (.inl (some 16)), .inr (.inl (some 17))])),
  .inr (0, 14, .inl (([eZero, .inl (0, 3, 3)] ++ (List.replicate 12 (eZero))))),
  .inr (0, 14, .inl (([.inl (0, 3, 3), .inl (0, 4, 4)] ++ (List.replicate 12 (eZero))))),
  .inr (0, 14, .inl (([.inl (0, 4, 4), .inl (0, 5, 5)] ++ (List.replicate 12 (eZero))))),
  .inr (0, 14, .inl (([.inl (0, 5, 5), .inl (0, 6, 6)] ++ (List.replicate 12 (eZero))))),
  .inr (0, 4, .inl ([.inl (0, 1, 1), .inl (0, 1, 1), .inl (0, 1, 1), .inl (0, 1, 1)])),
  .inr (0, 32, .inl (List.replicate 32 (eZero))),
  .inl (3, [eZero, eZero, eZero, eZero, eZero, eZero, eZero, .inr (.inl (some 21)), .inr (.inl (some 22)), .inr (.inl (some 23)), .inr (.inl (some 24)), .inr (.inl (some 25)), .inr (.inl (some 26)), .inr (.inl (some 27)), .inr (.inl (some 28)), .inr (.inl (some 29))]),
  .inr (0, 7, .inl ([eZero, eZero, eZero, eZero, eZero, eZero, eZero])),
  .inr (0, 10, .inl ([eZero, eZero, eZero, eZero, eZero, eZero, eZero, eZero, eZero, eZero])),
  .inr (0, 10, .inl ([eZero, eZero, eZero, eZero, eZero, eZero, eZero, eZero, eZero, eZero])),
  .inr (0, 10, .inl ([eZero, eZero, eZero, eZero, eZero, eZero, eZero, eZero, eZero, eZero])),
  .inr (0, 8, .inl ([eZero, eZero, eZero, eZero, eZero, eZero, eZero, eZero])),
  .inr (0, 8, .inl ([eZero, eZero, eZero, eZero, eZero, eZero, eZero, eZero])),
  .inr (0, 8, .inl ([eZero, eZero, eZero, eZero, eZero, eZero, eZero, eZero])),
  .inr (0, 8, .inl ([eZero, eZero, eZero, eZero, eZero, eZero, eZero, eZero])),
  .inl (4, [.inr (.inl (some 30)), eZero, .inr (.inl (some 31)), .inr (.inl (some 36)), .inr (.inl (some 37)), eZero]),
  .inr (0, 406, .inl (List.replicate 406 (eZero))),
  .inr (4, 4, .inl ([.inr (.inl (some 32)), .inr (.inl (some 33)), .inr (.inl (some 34)), .inr (.inl (some 35))])),
  .inr (0, 14, .inl (List.replicate 14 (eZero))),
  .inr (0, 14, .inl (List.replicate 14 (eZero))),
  .inr (0, 14, .inl (List.replicate 14 (eZero))),
  .inr (0, 14, .inl (List.replicate 14 (eZero))),
  .inr (0, 4, .inl ([eZero, eZero, eZero, eZero])),
  .inr (0, 32, .inl (List.replicate 32 (eZero))),
  .inl (8, [.inr (.inl (some 39)), .inr (.inl (some 40)), .inr (.inl (some 41)), .inr (.inl (some 42)), .inr (.inl none), eZero]),
  .inr (0, 401, .inl (List.replicate 401 (eZero))),
  .inr (0, 401, .inl (List.replicate 401 (eZero))),
  .inr (3, 401, .inr (0, 0)),
  .inr (3, 22, .inl (tWd.map (fun x => .inr (.inr (some x))))),
  .inl (2, [.inr (.inl (some 38)), .inr (.inl (some 29)), eZero, eZero, eZero, eZero, eZero]),
  .inl (5, [.inr (.inl (some 38)), .inr (.inl (some 20)), .inr (.inl (some 45)), .inr (.inl (some 46)), eZero, eZero]),
  .inr (3, 7, .inr (0, 0)),
  .inr (3, 8, .inr (0, 0)),
  .inl (7, [eZero, .inl (0, 100, 100), eZero, eZero, eZero, eZero, .inr (.inl (some 48)), .inr (.inl (some 49)), .inr (.inl (some 50))]),
  .inr (0, 10, .inl ([eZero, eZero, eZero, eZero, eZero, eZero, eZero, eZero, eZero, eZero])),
  .inr (0, 10, .inl ([eZero, eZero, eZero, eZero, eZero, eZero, eZero, eZero, eZero, eZero])),
  .inr (0, 7, .inl ([eZero, eZero, eZero, eZero, eZero, eZero, eZero])),
  .inl (6, [.inr (.inl (some 52)), .inr (.inl (some 53)), eZero, eZero, eZero]),
  .inr (0, 1320, .inr (0, 0)),
  .inr (0, 99, .inl (List.replicate 99 (eZero))),
  .inl (0, [.inr (.inl (some 2)), .inr (.inl (some 57)), .inr (.inl (some 55)), .inr (.inl (some 56))]),
  .inr (0, 9, .inl ([eZero, eZero, eZero, eZero, eZero, eZero, eZero, eZero, eZero])),
  .inr (0, 10, .inl ([eZero, eZero, eZero, eZero, eZero, eZero, eZero, eZero, eZero, eZero])),
  .inl (10, [.inr (.inl (some 2)), .inl (0, -1, -1), .inr (.inl (some 58)), .inr (.inl (some 59)), .inr (.inl (some 60)), eZero]),
  .inr (0, 7, .inl ([eZero, eZero, eZero, eZero, eZero, eZero, eZero])),
  .inr (0, 7, .inl ([eZero, eZero, eZero, eZero, eZero, eZero, eZero])),
  .inr (0, 7, .inl ([eZero, eZero, eZero, eZero, eZero, eZero, eZero])),
  .inl (1, [.inr (.inl (some 2)), .inr (.inl (some 54)), .inr (.inl (some 62)), .inr (.inl (some 66)), eZero]),
  .inl (7, [eZero, eZero, eZero, eZero, eZero, eZero, .inr (.inl (some 63)), .inr (.inl (some 64)), .inr (.inl (some 65))]),
  .inr (0, 10, .inl ([eZero, eZero, eZero, eZero, eZero, eZero, eZero, eZero, eZero, eZero])),
  .inr (0, 10, .inl ([eZero, eZero, eZero, eZero, eZero, eZero, eZero, eZero, eZero, eZero])),
  .inr (0, 7, .inl ([eZero, eZero, eZero, eZero, eZero, eZero, eZero])),
  .inr (0, 8, .inl ([eZero, eZero, eZero, eZero, eZero, eZero, eZero, eZero])),
  .inl (9, [.inr (.inl (some 2)), .inr (.inl (some 68)), .inr (.inl (some 69)), eZero]),
  .inr (0, 20, .inl (List.replicate 20 (eZero))),
  .inr (2, 20, .inl (List.replicate 20 (eZero))),
  .inl (12, [eZero, .inr (.inl (some 71)), eZero, .inr (.inl (some 72)), eZero, .inr (.inl (some 73)), .inr (.inl (some 74)), .inr (.inl (some 75)), .inr (.inl (some 76)), .inr (.inl (some 77)), eZero, eZero, eZero, eZero, eZero, eZero, eZero, .inl (0, -1, -1), eZero, eZero, eZero, .inr (.inl (some 78)), .inr (.inl (some 79)), .inr (.inl (some 80)), .inr (.inl (some 81)), .inr (.inl (some 82)), .inr (.inl (some 83)), .inr (.inl (some 84)), .inr (.inl (some 85)), .inr (.inl (some 86)), .inr (.inl (some 87)), .inr (.inl (some 88)), .inr (.inl (some 89)), .inr (.inl (some 90)), .inr (.inl (some 91)), .inr (.inl (some 92)), .inr (.inl (some 93)), .inr (.inl (some 94)), .inr (.inl (some 95)), .inr (.inl (some 96)), eZero, .inr (.inl (some 97)), .inr (.inl (some 98)), .inr (.inl (some 99)), .inr (.inl (some 100)), .inr (.inl (some 101)), eZero, .inr (.inl (some 102)), .inr (.inl (some 103)), .inr (.inl (some 104)), eZero, .inr (.inl (some 105)), .inr (.inl (some 106)), eZero, .inr (.inl (some 107)), .inr (.inl (some 108)), eZero, eZero, .inr (.inl (some 109)), .inr (.inl (some 110)), eZero, eZero, .inr (.inl (some 111)), eZero, .inr (.inl (some 112)), .inr (.inl (some 113)), .inr (.inl (some 114)), .inr (.inl (some 115)), .inr (.inl (some 116))]),
  .inr (1, 2000, .inr (-128, 127)),
  .inr (1, 2000, .inr (-128, 127)),
  .inr (0, 403, .inl (List.replicate 403 (eZero))),
  .inr (0, 403, .inl (List.replicate 403 (eZero))),
  .inr (0, 403, .inl (List.replicate 403 (eZero))),
  .inr (3, 403, .inr (0, 0)),
  .inr (3, 22, .inl (tWd.map (fun x => .inr (.inr (some x))))),
  .inr (3, 15, .inr (0, 0)),
  .inr (0, 15, .inl (List.replicate 15 (eZero))),
  .inr (0, 2, .inl ([eZero, eZero])),
  .inr (0, 14, .inl (List.replicate 14 (eZero))),
  .inr (0, 2, .inl ([eZero, eZero])),
  .inr (0, 20, .inl (List.replicate 20 (eZero))),
  .inr (0, 20, .inl (List.replicate 20 (eZero))),
  .inr (0, 20, .inl (List.replicate 20 (eZero))),
  .inr (0, 2, .inl ([eZero, eZero])),
  .inr (0, 16, .inl (List.replicate 16 (eZero))),
  .inr (0, 16, .inl (List.replicate 16 (eZero))),
  .inr (0, 16, .inl (List.replicate 16 (eZero))),
  .inr (0, 16, .inl (List.replicate 16 (eZero))),
  .inr (0, 2, .inl ([eZero, eZero])),
  .inr (0, 2, .inl ([eZero, eZero])),
  .inr (0, 2, .inl ([.inl (0, 100, 100), eZero])),
  .inr (0, 2, .inl ([eZero, eZero])),
  .inr (0, 8, .inl ([eZero, eZero, eZero, eZero, eZero, eZero, eZero, eZero])),
  .inr (0, 8, .inl ([eZero, eZero, eZero, eZero, eZero, eZero, eZero, eZero])),
  .inr (2, 260, .inl (List.replicate 260 (eZero))),
  .inr (0, 260, .inl (List.replicate 260 (eZero))),
  .inr (0, 260, .inl (List.replicate 260 (eZero))),
  .inr (0, 260, .inl (List.replicate 260 (eZero))),
  .inr (0, 260, .inl (List.replicate 260 (eZero))),
  .inr (0, 840, .inr (0, 0)),
  .inr (0, 840, .inr (0, 0)),
  .inr (0, 64, .inl (List.replicate 64 (eZero))),
  .inr (0, 9, .inl ([eZero, eZero, eZero, eZero, eZero, eZero, eZero, eZero, eZero])),
  .inr (0, 400, .inl (List.replicate 400 (eZero))),
  .inr (0, 58, .inl ((List.replicate 56 (eZero) ++ ([.inl (0, 100, 100), eZero])))),
  .inr (0, 58, .inl ((List.replicate 56 (eZero) ++ ([.inl (0, 100, 100), eZero])))),
  .inr (0, 7, .inl ([eZero, eZero, eZero, eZero, eZero, eZero, eZero])),
  .inr (0, 7, .inl ([eZero, eZero, eZero, eZero, eZero, eZero, eZero])),
  .inr (0, 2320, .inr (0, 0)),
  .inr (0, 20, .inl (List.replicate 20 (eZero))),
  .inr (0, 20, .inl (List.replicate 20 (eZero))),
  .inr (0, 10, .inl ([eZero, eZero, eZero, eZero, eZero, eZero, eZero, eZero, eZero, eZero])),
  .inr (2, 3, .inl ([eZero, eZero, eZero])),
  .inr (0, 174, .inl (List.replicate 174 (eZero)))]
def hClass : eH := [
  .inl (11, [.inr (.inl (some 1)), eZero, .inl (0, -1, -1), .inr (.inl (some 2)), .inr (.inl (some 20)), .inr (.inl (some 38)), .inr (.inl (some 43)), .inr (.inl (some 44)), .inr (.inl (some 47)), .inr (.inl (some 51)), .inr (.inl (some 54)), .inr (.inl (some 61)), .inr (.inl (some 67))]),
  .inr (1, 2000, .inr (-128, 127)),
  .inl (3, [eZero, eZero, eZero, eZero, eZero, .inl (0, 100, 100), eZero, .inr (.inl (some 3)), .inr (.inl (some 4)), .inr (.inl (some 5)), .inr (.inl (some 6)), .inr (.inl (some 7)), .inr (.inl (some 8)), .inr (.inl (some 9)), .inr (.inl (some 10)), .inr (.inl (some 11))]),
  .inr (0, 7, .inl ([eZero, eZero, eZero, eZero, eZero, eZero, eZero])),
  .inr (0, 10, .inl ([eZero, eZero, eZero, eZero, eZero, eZero, eZero, eZero, eZero, eZero])),
  .inr (0, 10, .inl ([eZero, eZero, eZero, eZero, eZero, eZero, eZero, eZero, eZero, eZero])),
  .inr (0, 10, .inl ([eZero, eZero, eZero, eZero, eZero, eZero, eZero, eZero, eZero, eZero])),
  .inr (0, 8, .inl ([eZero, eZero, eZero, eZero, eZero, eZero, eZero, eZero])),
  .inr (0, 8, .inl ([eZero, eZero, eZero, eZero, eZero, eZero, eZero, eZero])),
  .inr (0, 8, .inl ([eZero, eZero, eZero, eZero, eZero, eZero, eZero, eZero])),
  .inr (0, 8, .inl ([eZero, eZero, eZero, eZero, eZero, eZero, eZero, eZero])),
  .inl (4, [.inr (.inl (some 12)), .inl (0, 6, 6), .inr (.inl (some 13)), .inr (.inl (some 18)), .inr (.inl (some 19)), eZero]),
  .inr (0, 406, .inl (([.inl (0, 4, 4), .inl (0, 5, 5), .inl (0, 1, 1), .inl (0, 13, 13), .inl (0, 5, 5), .inl (0, 9, 9)] ++ (List.replicate 400 (eZero))))),
  .inr (4, 4, .inl ([.inr (.inl (some 14)), .inr (.inl (some 15)), .inr (.inl (some 16)), .inr (.inl (some 17))])),
  .inr (0, 14, .inl (([eZero, .inl (0, 3, 3)] ++ (List.replicate 12 (eZero))))),
  .inr (0, 14, .inl (([.inl (0, 3, 3), .inl (0, 4, 4)] ++ (List.replicate 12 (eZero))))),
  .inr (0, 14, .inl (([.inl (0, 4, 4), .inl (0, 5, 5)] ++ (List.replicate 12 (eZero))))),
  .inr (0, 14, .inl (([.inl (0, 5, 5), .inl (0, 6, 6)] ++ (List.replicate 12 (eZero))))),
  .inr (0, 4, .inl ([.inl (0, 1, 1), .inl (0, 1, 1), .inl (0, 1, 1), .inl (0, 1, 1)])),
  .inr (0, 32, .inl (List.replicate 32 (eZero))),
  .inl (3, [eZero, eZero, eZero, eZero, eZero, eZero, eZero, .inr (.inl (some 21)), .inr (.inl (some 22)), .inr (.inl (some 23)), .inr (.inl (some 24)), .inr (.inl (some 25)), .inr (.inl (some 26)), .inr (.inl (some 27)), .inr (.inl (some 28)), .inr (.inl (some 29))]),
  .inr (0, 7, .inl ([eZero, eZero, eZero, eZero, eZero, eZero, eZero])),
  .inr (0, 10, .inl ([eZero, eZero, eZero, eZero, eZero, eZero, eZero, eZero, eZero, eZero])),
  .inr (0, 10, .inl ([eZero, eZero, eZero, eZero, eZero, eZero, eZero, eZero, eZero, eZero])),
  .inr (0, 10, .inl ([eZero, eZero, eZero, eZero, eZero, eZero, eZero, eZero, eZero, eZero])),
  .inr (0, 8, .inl ([eZero, eZero, eZero, eZero, eZero, eZero, eZero, eZero])),
  .inr (0, 8, .inl ([eZero, eZero, eZero, eZero, eZero, eZero, eZero, eZero])),
  .inr (0, 8, .inl ([eZero, eZero, eZero, eZero, eZero, eZero, eZero, eZero])),
  .inr (0, 8, .inl ([eZero, eZero, eZero, eZero, eZero, eZero, eZero, eZero])),
  .inl (4, [.inr (.inl (some 30)), eZero, .inr (.inl (some 31)), .inr (.inl (some 36)), .inr (.inl (some 37)), eZero]),
  .inr (0, 406, .inl (List.replicate 406 (eZero))),
  .inr (4, 4, .inl ([.inr (.inl (some 32)), .inr (.inl (some 33)), .inr (.inl (some 34)), .inr (.inl (some 35))])),
  .inr (0, 14, .inl (List.replicate 14 (eZero))),
  .inr (0, 14, .inl (List.replicate 14 (eZero))),
  .inr (0, 14, .inl (List.replicate 14 (eZero))),
  .inr (0, 14, .inl (List.replicate 14 (eZero))),
  .inr (0, 4, .inl ([eZero, eZero, eZero, eZero])),
  .inr (0, 32, .inl (List.replicate 32 (eZero))),
  .inl (8, [.inr (.inl (some 39)), .inr (.inl (some 40)), .inr (.inl (some 41)), .inr (.inl (some 42)), .inr (.inl none), eZero]),
  .inr (0, 401, .inl (List.replicate 401 (eZero))),
  .inr (0, 401, .inl (List.replicate 401 (eZero))),
  .inr (3, 401, .inr (0, 0)),
  .inr (3, 22, .inl (tWd.map (fun x => .inr (.inr (some x))))),
  .inl (2, [.inr (.inl (some 38)), .inr (.inl (some 29)), eZero, eZero, eZero, eZero, eZero]),
  .inl (5, [.inr (.inl (some 38)), .inr (.inl (some 20)), .inr (.inl (some 45)), .inr (.inl (some 46)), eZero, eZero]),
  .inr (3, 7, .inr (0, 0)),
  .inr (3, 8, .inr (0, 0)),
  .inl (7, [eZero, .inl (0, 100, 100), eZero, eZero, eZero, eZero, .inr (.inl (some 48)), .inr (.inl (some 49)), .inr (.inl (some 50))]),
  .inr (0, 10, .inl ([eZero, eZero, eZero, eZero, eZero, eZero, eZero, eZero, eZero, eZero])),
  .inr (0, 10, .inl ([eZero, eZero, eZero, eZero, eZero, eZero, eZero, eZero, eZero, eZero])),
  .inr (0, 7, .inl ([eZero, eZero, eZero, eZero, eZero, eZero, eZero])),
  .inl (6, [.inr (.inl (some 52)), .inr (.inl (some 53)), eZero, eZero, eZero]),
  .inr (0, 1320, .inr (0, 0)),
  .inr (0, 99, .inl (List.replicate 99 (eZero))),
  .inl (0, [.inr (.inl (some 2)), .inr (.inl (some 57)), .inr (.inl (some 55)), .inr (.inl (some 56))]),
  .inr (0, 9, .inl ([eZero, eZero, eZero, eZero, eZero, eZero, eZero, eZero, eZero])),
  .inr (0, 10, .inl ([eZero, eZero, eZero, eZero, eZero, eZero, eZero, eZero, eZero, eZero])),
  .inl (10, [.inr (.inl (some 2)), .inl (0, -1, -1), .inr (.inl (some 58)), .inr (.inl (some 59)), .inr (.inl (some 60)), eZero]),
  .inr (0, 7, .inl ([eZero, eZero, eZero, eZero, eZero, eZero, eZero])),
  .inr (0, 7, .inl ([eZero, eZero, eZero, eZero, eZero, eZero, eZero])),
  .inr (0, 7, .inl ([eZero, eZero, eZero, eZero, eZero, eZero, eZero])),
  .inl (1, [.inr (.inl (some 2)), .inr (.inl (some 54)), .inr (.inl (some 62)), .inr (.inl (some 66)), eZero]),
  .inl (7, [eZero, eZero, eZero, eZero, eZero, eZero, .inr (.inl (some 63)), .inr (.inl (some 64)), .inr (.inl (some 65))]),
  .inr (0, 10, .inl ([eZero, eZero, eZero, eZero, eZero, eZero, eZero, eZero, eZero, eZero])),
  .inr (0, 10, .inl ([eZero, eZero, eZero, eZero, eZero, eZero, eZero, eZero, eZero, eZero])),
  .inr (0, 7, .inl ([eZero, eZero, eZero, eZero, eZero, eZero, eZero])),
  .inr (0, 8, .inl ([eZero, eZero, eZero, eZero, eZero, eZero, eZero, eZero])),
  .inl (9, [.inr (.inl (some 2)), .inr (.inl (some 68)), .inr (.inl (some 69)), eZero]),
  .inr (0, 20, .inl (List.replicate 20 (eZero))),
  .inr (2, 20, .inl (List.replicate 20 (eZero)))]
theorem eGl_le {Fz : (Nat → Prop) → State → Heap → Prop} {l0 : Launch} {cl : List vw_C} {Ts : List Cond} {nst : List (String × Nat × MethodName × String)} {sr : List (Int × Int)} {ms : List eM} {yt : List eY} {d y : Nat} {S : eS} {fs gs : List eS} (h : eGl Fz l0 cl Ts nst sr ms yt d y S fs) (hle : fs.all (fun f => gs.any (fun g => eLeS sr (eId sr.length) f g)) = true) : eGl Fz l0 cl Ts nst sr ms yt d y S gs := by
  intro M Y hM hY p e R s m args below meth c hcx D A H0 σ ad0 hs hA hFs Q K
  refine h M Y hM hY p e R s m args below meth c hcx D A H0 σ ad0 hs hA hFs Q (fun f hf H locs ws tys ls lv stk hc => ?_)
  obtain ⟨g, hg, hfg⟩ := List.any_eq_true.mp (List.all_eq_true.mp hle f hf)
  obtain ⟨g1, g2, g3, lv', g4⟩ := eLeS_ok hs hs.1 (eId_ok (fun _ _ => rfl)) hfg hc
  have := K g hg H locs ws tys ls lv' stk g4
  rw [← g1, ← g2, ← g3] at this
  exact this
def tEnds (sr : List (Int × Int)) (orc : Nat → Nat → List eV → eH → Option (List (Option eV × eH))) (d b : Nat) (as : List eV) (h : eH) (gs : List eS) : Bool := match tMs[b]? with
  | none => false
  | some N => Nat.ble (eCats as) N.2.1 && (match eExec sr tDf tMs orc 100000 d b [] (0, eArgs 0 as, [], h, 0, 0) with
    | some fs => fs.all (fun f => gs.any (fun g => eLeS sr (eId sr.length) f g))
    | none => false)
theorem tEnds_ok {l0 : Launch} {adK adV : Nat → Nat} {sr : List (Int × Int)} {orc : Nat → Nat → List eV → eH → Option (List (Option eV × eH))} (horc : ∀ (d b : Nat) (as : List eV) (h : eH) (os : List (Option eV × eH)), orc d b as h = some os → eCon (tFz adK adV) l0 tCl lw_g tNs sr tMs tYs d b as h os) {d b : Nat} {as : List eV} {h : eH} {gs : List eS} {os : List (Option eV × eH)} {N : eM} (hc : tEnds sr orc d b as h gs = true) (hN : tMs[b]? = some N) (ho : eOuts N gs = some os) : eCon (tFz adK adV) l0 tCl lw_g tNs sr tMs tYs d b as h os := by
  unfold tEnds at hc
  rw [hN] at hc
  simp only [Bool.and_eq_true] at hc
  obtain ⟨h1, h2⟩ := hc
  split at h2
  · rename_i fs hfs
    exact eCon_of tOk hN (Nat.le_of_ble_eq_true h1) (eGl_le (tRun horc _ _ _ _ _ _ hfs) h2) ho
  · cases h2
set_option maxRecDepth 1000000 in
theorem tInit1 : tEnds [(0, 0)] (tOrc [(0, 0)]) 600 242 [.inr (.inl (some 0))] [.inl (11, (tDf[11]?).getD [])] [(183, [], [], hClass, 69, 6048)] = true := by decide +kernel
set_option maxRecDepth 1000000 in
theorem tInit2 : tEnds [(0, 0)] tNo 600 0 [.inr (.inl (some 70))] (hClass ++ [.inl (12, (tDf[12]?).getD [])]) [(860, [], [], hFresh, 46, 11962)] = true := by decide +kernel
theorem tInit1_ok (l0 : Launch) (adK adV : Nat → Nat) : eCon (tFz adK adV) l0 tCl lw_g tNs [(0, 0)] tMs tYs 600 242 [.inr (.inl (some 0))] [.inl (11, (tDf[11]?).getD [])] [(none, hClass)] := tEnds_ok tOrc_ok tInit1 rfl rfl
theorem tInit2_ok (l0 : Launch) (adK adV : Nat → Nat) : eCon (tFz adK adV) l0 tCl lw_g tNs [(0, 0)] tMs tYs 600 0 [.inr (.inl (some 70))] (hClass ++ [.inl (12, (tDf[12]?).getD [])]) [(none, hFresh)] := tEnds_ok (fun _ _ _ _ _ h => by cases h) tInit2 rfl rfl
end
section
/-! BEHIND THE TWO STARTS: the cells as a plain memory, and Ok -/
def zOe (e : va_E) (j : Nat) : Int32 := match e with
  | .inr o => match o.2[j]? with
    | some (.int x) => x
    | _ => 0
  | .inl (_, n, .inl f) => if j < n then f j else 0
  | _ => 0
def zLe (e : va_E) (j : Nat) : Int64 := match e with
  | .inl (_, n, .inr (.inl f)) => if j < n then f j else 0
  | _ => 0
def zE (e : va_E) : va_E := match e with
  | .inl (cA, n, .inl f) => .inl (cA, n, .inl (fun j => if j < n then f j else 0))
  | .inl (cA, n, .inr (.inl f)) => .inl (cA, n, .inr (.inl (fun j => if j < n then f j else 0)))
  | e => e
def zW (ws : va_W) : va_W := ws.map (fun q => (q.1, zE q.2))
def zM (ws : va_W) : dM := (fun k j => match ws[k]? with
    | some q => zOe q.2 j
    | none => 0, fun k j => match ws[k]? with
    | some q => zLe q.2 j
    | none => 0, false)
theorem zW_fst (ws : va_W) : (zW ws).map Prod.fst = ws.map Prod.fst := by
  unfold zW
  rw [List.map_map]
  rfl
theorem zW_at {ws : va_W} {k : Nat} {q : Nat × va_E} (h : (zW ws)[k]? = some q) : ∃ q0, ws[k]? = some q0 ∧ q = (q0.1, zE q0.2) := by
  unfold zW at h
  rw [List.getElem?_map] at h
  cases hq : ws[k]? with
  | none => rw [hq] at h; cases h
  | some q0 => rw [hq] at h; exact ⟨q0, rfl, (Option.some.inj h).symm⟩
theorem zW_P {D : va_G} {cl : List vw_C} {ws : va_W} {H : Heap} (h : va_P D cl ws H) : va_P D cl (zW ws) H := by
  intro k q hq
  obtain ⟨⟨a, e⟩, h0, rfl⟩ := zW_at hq
  have g := h k _ h0
  match e, g with
  | .inl (cA, n, .inl f), g =>
    have g : H[a]? = some (arrV cA n (fun j => .int (f j))) := g
    show H[a]? = some (arrV cA n (fun j => .int (if j < n then f j else 0)))
    rw [g]
    congr 1
    unfold arrV
    congr 2
    funext j
    show Value.int (f j) = Value.int (if j.val < n then f j else 0)
    rw [if_pos j.isLt]
  | .inl (cA, n, .inr (.inl f)), g =>
    have g : H[a]? = some (arrV cA n (fun j => .long (f j))) := g
    show H[a]? = some (arrV cA n (fun j => .long (if j < n then f j else 0)))
    rw [g]
    congr 1
    unfold arrV
    congr 2
    funext j
    show Value.long (f j) = Value.long (if j.val < n then f j else 0)
    rw [if_pos j.isLt]
  | .inl (cA, n, .inr (.inr c)), g => exact g
  | .inr o, g => exact g
theorem zW_D {A : Nat → Prop} {ws : va_W} (h : va_D A ws) : va_D A (zW ws) := by
  refine ⟨fun i j p q hp hq e => ?_, fun k q hq => ?_⟩
  · obtain ⟨p0, h1, rfl⟩ := zW_at hp
    obtain ⟨q0, h2, rfl⟩ := zW_at hq
    exact h.1 i j p0 q0 h1 h2 e
  · obtain ⟨q0, h1, rfl⟩ := zW_at hq
    exact h.2 k q0 h1
/-! the shape -/
def zF : List (Option (Option Nat)) → List eV → Bool
  | [], [] => true
  | none :: fs, .inl _ :: es => zF fs es
  | some none :: fs, .inr (.inl none) :: es => zF fs es
  | some (some r) :: fs, .inr (.inl (some k)) :: es => Nat.beq r k && zF fs es
  | _, _ => false
def zR : List Nat → List eV → Bool
  | [], [] => true
  | r :: rs, .inr (.inl (some k)) :: es => Nat.beq r k && zR rs es
  | _, _ => false
def zC (s : dS) (c : eC) : Bool := match s, c with
  | .inl o, .inl p => Nat.beq o.1 p.1 && zF o.2 p.2
  | .inr (.inl a), .inr b => Nat.beq a.1 b.1 && (Nat.blt a.1 3 && Nat.beq a.2 b.2.1)
  | .inr (.inr (.inl n)), .inr b => Nat.beq b.1 3 && Nat.beq n b.2.1
  | .inr (.inr (.inr rs)), .inr b => Nat.beq b.1 4 && (Nat.beq rs.length b.2.1 && (match b.2.2 with
    | .inl es => zR rs es
    | _ => false))
  | _, _ => false
def zS : List dS → eH → Bool
  | [], [] => true
  | s :: sh, c :: h => zC s c && zS sh h
  | _, _ => false
section ZED
variable {ad : List Nat} {σ : Nat → Int} {tys : List (ClassId × FieldType)} {m : dM} {k : Nat}
theorem z_fs (hf : m.2.2 = false) : ∀ (fs : List (Option (Option Nat))) (es : List eV) (vs : List Value) (j : Nat), zF fs es = true → eAll (eOk ad σ) es vs → (∀ (i : Nat) (x : Int32), vs[i]? = some (.int x) → m.1 k (j + i) = x) → eAll (cOk ad) (dFs m k j fs) vs
  | [], [], vs, j, _, h, _ => by
    have := eAll_nil h
    subst this
    exact trivial
  | none :: fs, .inl q :: es, vs, j, hz, h, hv => by
    obtain ⟨b, bs, rfl, h1, h2⟩ := eAll_cons h
    obtain ⟨x, hx, -⟩ := h1
    refine ⟨?_, z_fs hf fs es bs (j + 1) hz h2 (fun i x hi => ?_)⟩
    · show b = .int (m.1 k j)
      have e0 : m.1 k j = x := hv 0 x (by rw [hx]; rfl)
      rw [hx, e0]
    · rw [show j + 1 + i = j + (i + 1) by omega]
      exact hv (i + 1) x hi
  | some none :: fs, .inr (.inl none) :: es, vs, j, hz, h, hv => by
    obtain ⟨b, bs, rfl, h1, h2⟩ := eAll_cons h
    refine ⟨?_, z_fs hf fs es bs (j + 1) hz h2 (fun i x hi => ?_)⟩
    · have h1 : b = .null := h1
      show cOk ad (.inr (.inr (cond m.2.2 (some 1) none))) b
      rw [hf]
      exact h1
    · rw [show j + 1 + i = j + (i + 1) by omega]
      exact hv (i + 1) x hi
  | some (some r) :: fs, .inr (.inl (some k')) :: es, vs, j, hz, h, hv => by
    obtain ⟨b, bs, rfl, h1, h2⟩ := eAll_cons h
    have hz : (Nat.beq r k' && zF fs es) = true := hz
    simp only [Bool.and_eq_true] at hz
    have e := Nat.eq_of_beq_eq_true hz.1
    subst e
    refine ⟨h1, z_fs hf fs es bs (j + 1) hz.2 h2 (fun i x hi => ?_)⟩
    rw [show j + 1 + i = j + (i + 1) by omega]
    exact hv (i + 1) x hi
theorem z_rs : ∀ (rs : List Nat) (es : List eV), zR rs es = true → ∀ (j : Nat) (v : eV), es[j]? = some v → ∃ r, rs[j]? = some r ∧ v = .inr (.inl (some r))
  | [], [], _, j, v, h => by simp at h
  | r :: rs, .inr (.inl (some k)) :: es, hz, j, v, h => by
    have hz : (Nat.beq r k && zR rs es) = true := hz
    simp only [Bool.and_eq_true] at hz
    have e := Nat.eq_of_beq_eq_true hz.1
    subst e
    match j, h with
    | 0, h => exact ⟨r, rfl, (Option.some.inj h).symm⟩
    | j + 1, h => exact z_rs rs es hz.2 j v h
theorem z_cell {s : dS} {c : eC} {q : Nat × va_E} (hf : m.2.2 = false) (h : eCk ad σ tys c q) (hz : zC s c = true) (h1 : m.1 k = zOe q.2) (h2 : dLg m k = zLe q.2) : cCk ad tys (dC m k s) (q.1, zE q.2) := by
  match s, c, h, hz with
  | .inl o, .inl p, h, hz =>
    have hz : (Nat.beq o.1 p.1 && zF o.2 p.2) = true := hz
    simp only [Bool.and_eq_true] at hz
    obtain ⟨vs, e, ha⟩ := h
    have e1 := Nat.eq_of_beq_eq_true hz.1
    refine ⟨vs, ?_, z_fs hf _ _ _ 0 hz.2 ha (fun i x hi => ?_)⟩
    · show zE q.2 = _
      rw [e, e1]
      rfl
    · rw [h1, e, Nat.zero_add]
      show (match vs[i]? with
        | some (.int x) => x
        | _ => 0) = x
      rw [hi]
  | .inr (.inl a), .inr b, h, hz =>
    have hz : (Nat.beq a.1 b.1 && (Nat.blt a.1 3 && Nat.beq a.2 b.2.1)) = true := hz
    simp only [Bool.and_eq_true] at hz
    have e1 := Nat.eq_of_beq_eq_true hz.1
    have e2 := Nat.eq_of_beq_eq_true hz.2.2
    have e3 : a.1 < 3 := Nat.le_of_ble_eq_true hz.2.1
    obtain ⟨cA, t0, g1, g2, g3⟩ := h
    have g3 : ∃ f : Nat → Int32, q.2 = .inl (cA, b.2.1, .inl f) := by
      unfold eAr at g3
      split at g3
      · rename_i he; omega
      · rename_i he; omega
      · obtain ⟨f, hf, -⟩ := g3; exact ⟨f, hf⟩
    obtain ⟨f, g3⟩ := g3
    refine ⟨cA, t0, by show tys[t0]? = some (cA, eTy a.1); rw [e1]; exact g1, e3, by show a.2 < 2 ^ 31; rw [e2]; exact g2, ?_⟩
    show zE q.2 = .inl (cA, a.2, .inl (m.1 k))
    rw [h1, g3, e2]
    rfl
  | .inr (.inr (.inl n)), .inr b, h, hz =>
    have hz : (Nat.beq b.1 3 && Nat.beq n b.2.1) = true := hz
    simp only [Bool.and_eq_true] at hz
    have e1 := Nat.eq_of_beq_eq_true hz.1
    have e2 := Nat.eq_of_beq_eq_true hz.2
    obtain ⟨cA, t0, g1, g2, g3⟩ := h
    rw [e1] at g1 g3
    obtain ⟨f, g3, -⟩ := g3
    refine ⟨cA, t0, g1, by show n < 2 ^ 31; rw [e2]; exact g2, ?_⟩
    show zE q.2 = .inl (cA, n, .inr (.inl (dLg m k)))
    rw [h2, g3, e2]
    rfl
  | .inr (.inr (.inr rs)), .inr (b1, b2, .inl es), h, hz =>
    have hz : (Nat.beq b1 4 && (Nat.beq rs.length b2 && zR rs es)) = true := hz
    simp only [Bool.and_eq_true] at hz
    have e1 := Nat.eq_of_beq_eq_true hz.1
    have e2 := Nat.eq_of_beq_eq_true hz.2.1
    subst e1
    subst e2
    obtain ⟨cA, t0, g1, g2, f, g3, g4⟩ := h
    refine ⟨cA, t0, f, g1, g2, ?_, fun j hj => ?_⟩
    · show zE q.2 = _
      rw [g3]
      rfl
    · obtain ⟨v, hv, ho⟩ := g4 j hj
      obtain ⟨r, hr, e⟩ := z_rs rs es hz.2.2 j v hv
      subst e
      show cOk ad (.inr (.inr rs[j]?)) _
      rw [hr]
      exact ho
  | .inr (.inr (.inr rs)), .inr (b1, b2, .inr z), h, hz =>
    have hz : (Nat.beq b1 4 && (Nat.beq rs.length b2 && false)) = true := hz
    simp at hz
  | .inl o, .inr p, h, hz => cases hz
  | .inr (.inl a), .inl p, h, hz => cases hz
  | .inr (.inr (.inl a)), .inl p, h, hz => cases hz
  | .inr (.inr (.inr a)), .inl p, h, hz => cases hz
theorem z_all (hf : m.2.2 = false) : ∀ (sh : List dS) (h : eH) (ws : va_W) (k0 : Nat), zS sh h = true → eAll (eCk ad σ tys) h ws → (∀ (i : Nat) (q : Nat × va_E), ws[i]? = some q → m.1 (k0 + i) = zOe q.2 ∧ dLg m (k0 + i) = zLe q.2) → eAll (cCk ad tys) (dCs m k0 sh) (zW ws)
  | [], [], ws, k0, _, h, _ => by
    have := eAll_nil h
    subst this
    exact trivial
  | s :: sh, c :: h, ws, k0, hz, ha, hm => by
    obtain ⟨q, qs, rfl, h1, h2⟩ := eAll_cons ha
    have hz : (zC s c && zS sh h) = true := hz
    simp only [Bool.and_eq_true] at hz
    refine ⟨z_cell hf h1 hz.1 (hm 0 q rfl).1 (hm 0 q rfl).2, z_all hf sh h qs (k0 + 1) hz.2 h2 (fun i q hi => ?_)⟩
    rw [show k0 + 1 + i = k0 + (i + 1) by omega]
    exact hm (i + 1) q hi
/-! the bounds -/
def zAi (c : List eV ⊕ (Int × Int)) (j : Nat) : Option (Int × Int) := match c with
  | .inl es => match es[j]? with
    | some (.inl q) => cond (Nat.beq q.1 0) (some q.2) none
    | _ => none
  | .inr q => some q
def zAb (c : eC) (j : Nat) : Option (Int × Int) := match c with
  | .inl o => match o.2[j]? with
    | some (.inl q) => cond (Nat.beq q.1 0) (some q.2) none
    | _ => some (0, 0)
  | .inr a => cond (Nat.blt a.1 3) (cond (Nat.blt j a.2.1) (zAi a.2.2 j) (some (0, 0))) (cond (Nat.beq a.1 3 || Nat.beq a.1 4) (some (0, 0)) none)
theorem z_ab {c : eC} {q : Nat × va_E} {j : Nat} {b : Int × Int} (hs : σ 0 = 0) (h : eCk ad σ tys c q) (hz : zAb c j = some b) : b.1 ≤ (zOe q.2 j).toInt ∧ (zOe q.2 j).toInt ≤ b.2 := by
  have inn : ∀ (w : eI) (x : Int32), Nat.beq w.1 0 = true → eIn σ w x → w.2.1 ≤ x.toInt ∧ x.toInt ≤ w.2.2 := fun w x e g => by
    have e := Nat.eq_of_beq_eq_true e
    unfold eIn at g
    rw [e, hs] at g
    omega
  match c, h, hz with
  | .inl o, h, hz =>
    obtain ⟨vs, e, ha⟩ := h
    rw [e]
    have hz : (match o.2[j]? with
      | some (.inl q) => cond (Nat.beq q.1 0) (some q.2) none
      | _ => some (0, 0)) = some b := hz
    show b.1 ≤ (match vs[j]? with
        | some (.int x) => x
        | _ => 0).toInt ∧ (match vs[j]? with
        | some (.int x) => x
        | _ => 0).toInt ≤ b.2
    cases hv : vs[j]? with
    | none =>
      have hl := eAll_len ha
      have : o.2[j]? = none := by
        rw [List.getElem?_eq_none_iff] at hv ⊢
        omega
      rw [this] at hz
      cases hz
      decide
    | some w =>
      cases ho : o.2[j]? with
      | none =>
        have hl := eAll_len ha
        rw [List.getElem?_eq_none_iff] at ho
        have := (List.getElem?_eq_some_iff.mp hv).1
        exfalso; omega
      | some v =>
        obtain ⟨w', g1, g2⟩ := eAll_get ha ho
        have ew := Option.some.inj (hv.symm.trans g1)
        subst ew
        rw [ho] at hz
        match v, g2, hz with
        | .inl w0, ⟨x, hx, hi⟩, hz =>
          have hz : cond (Nat.beq w0.1 0) (some w0.2) none = some b := hz
          obtain ⟨e1, e2⟩ := eCond hz
          cases e2
          rw [hx]
          exact inn w0 x e1 hi
        | .inr (.inl none), g2, hz =>
          have g2 : w = .null := g2
          cases hz
          rw [g2]; decide
        | .inr (.inl (some r)), ⟨a, _, g2⟩, hz =>
          cases hz
          rw [g2]; show (0 : Int) ≤ (0 : Int32).toInt ∧ (0 : Int32).toInt ≤ 0; decide
        | .inr (.inr _), ⟨x, g2, _⟩, hz =>
          cases hz
          rw [g2]; show (0 : Int) ≤ (0 : Int32).toInt ∧ (0 : Int32).toInt ≤ 0; decide
  | .inr (kd, n, c), h, hz =>
    obtain ⟨cA, t0, g1, g2, g3⟩ := h
    by_cases hk : kd < 3
    · have g3 : ∃ f : Nat → Int32, q.2 = .inl (cA, n, .inl f) ∧ eCt ad σ n f c := by
        unfold eAr at g3
        split at g3
        · rename_i he; have he : kd = 3 := he; omega
        · rename_i he; have he : kd = 4 := he; omega
        · exact g3
      obtain ⟨f, g3, g4⟩ := g3
      rw [g3]
      show b.1 ≤ (if j < n then f j else 0).toInt ∧ (if j < n then f j else 0).toInt ≤ b.2
      have hb : Nat.blt kd 3 = true := Nat.ble_eq_true_of_le hk
      have hz : cond (Nat.blt kd 3) (cond (Nat.blt j n) (zAi c j) (some (0, 0))) (cond (Nat.beq kd 3 || Nat.beq kd 4) (some (0, 0)) none) = some b := hz
      rw [hb] at hz
      by_cases hj : j < n
      · have hb2 : Nat.blt j n = true := Nat.ble_eq_true_of_le hj
        rw [hb2] at hz
        rw [if_pos hj]
        match c, g4, hz with
        | .inl es, g4, hz =>
          obtain ⟨v, hv, ho⟩ := g4 j hj
          simp only [cond_true, zAi, hv] at hz
          match v, ho, hz with
          | .inl w0, ⟨x, hx, hi⟩, hz =>
            obtain ⟨e1, e2⟩ := eCond hz
            cases e2
            cases hx
            exact inn w0 _ e1 hi
          | .inr (.inl none), _, hz => cases hz
          | .inr (.inl (some r)), _, hz => cases hz
          | .inr (.inr _), _, hz => cases hz
        | .inr z, g4, hz =>
          cases hz
          exact g4 j hj
      · have hb2 : Nat.blt j n = false := by
          cases hq : Nat.blt j n with
          | false => rfl
          | true => exact absurd (Nat.le_of_ble_eq_true hq) hj
        rw [hb2] at hz
        rw [if_neg hj]
        cases hz
        decide
    · have hb : Nat.blt kd 3 = false := by
        cases hq : Nat.blt kd 3 with
        | false => rfl
        | true => exact absurd (Nat.le_of_ble_eq_true hq) hk
      have hz : cond (Nat.blt kd 3) (cond (Nat.blt j n) (zAi c j) (some (0, 0))) (cond (Nat.beq kd 3 || Nat.beq kd 4) (some (0, 0)) none) = some b := hz
      rw [hb] at hz
      obtain ⟨e1, e2⟩ := eCond (show cond (Nat.beq kd 3 || Nat.beq kd 4) (some (0, 0)) none = some b from hz)
      cases e2
      rw [Bool.or_eq_true] at e1
      have e0 : zOe q.2 j = 0 := by
        rcases e1 with e1 | e1
        · have e1 := Nat.eq_of_beq_eq_true e1
          subst e1
          obtain ⟨f, g3, -⟩ := g3; rw [g3]; rfl
        · have e1 := Nat.eq_of_beq_eq_true e1
          subst e1
          obtain ⟨f, g3, -⟩ := g3; rw [g3]; rfl
      rw [e0]; show (0 : Int) ≤ (0 : Int32).toInt ∧ (0 : Int32).toInt ≤ 0; decide
theorem z_lg {n : Nat} {es : List eV} {q : Nat × va_E} {j : Nat} {y : Int64} (h : eCk ad σ tys (.inr (3, n, .inl es)) q) (hj : j < n) (he : es[j]? = some (.inr (.inr (some y)))) : zLe q.2 j = y := by
  obtain ⟨cA, t0, g1, g2, f, g3, g4⟩ := h
  obtain ⟨v, h1, x, h2, h3⟩ := (show ∃ v, es[j]? = some v ∧ ∃ x : Int64, True ∧ eOk ad σ v (.long (f j)) from by
    obtain ⟨v, k1, k2⟩ := g4 j hj
    exact ⟨v, k1, 0, trivial, k2⟩)
  rw [he] at h1
  cases h1
  obtain ⟨x, hx, hy⟩ := h3
  have g3 : q.2 = .inl (cA, n, .inr (.inl f)) := g3
  rw [g3]
  show (if j < n then f j else 0) = y
  rw [if_pos hj]
  cases hx
  exact hy y rfl
theorem z_lg0 {n : Nat} {es : List eV} {q : Nat × va_E} {j : Nat} (h : eCk ad σ tys (.inr (3, n, .inl es)) q) (hj : ¬ j < n) : zLe q.2 j = 0 := by
  obtain ⟨cA, t0, g1, g2, f, g3, g4⟩ := h
  have g3 : q.2 = .inl (cA, n, .inr (.inl f)) := g3
  rw [g3]
  show (if j < n then f j else 0) = 0
  rw [if_neg hj]
end ZED
end
