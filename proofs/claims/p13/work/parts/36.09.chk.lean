section
theorem tc279_0 : tC279_0.all (kEn tY279.1 tY279.2.1) = true := by decide +kernel
theorem tm279 : kM tM279 tY279 ((tWs[279]?).getD (0, 0, 0, 0)) = true := by decide +kernel
set_option maxRecDepth 20000 in
theorem tw279 : kW ((tWs[279]?).getD (0, 0, 0, 0)).1 = some (.code tY279.1 tY279.2.1 tM279.2.1 tY279.2.2) := rfl
theorem tk279 : eMok tCl lw_g tNs tMs tYs tM279 tY279 := kM_ok (q := (tWs[279]?).getD (0, 0, 0, 0)) (show ∀ ch ∈ tC279, _ from List.forall_mem_cons.mpr ⟨tc279_0, fun _ h => absurd h List.not_mem_nil⟩) tw279 tm279
theorem tc280_0 : tC280_0.all (kEn tY280.1 tY280.2.1) = true := by decide +kernel
theorem tm280 : kM tM280 tY280 ((tWs[280]?).getD (0, 0, 0, 0)) = true := by decide +kernel
set_option maxRecDepth 20000 in
theorem tw280 : kW ((tWs[280]?).getD (0, 0, 0, 0)).1 = some (.code tY280.1 tY280.2.1 tM280.2.1 tY280.2.2) := rfl
theorem tk280 : eMok tCl lw_g tNs tMs tYs tM280 tY280 := kM_ok (q := (tWs[280]?).getD (0, 0, 0, 0)) (show ∀ ch ∈ tC280, _ from List.forall_mem_cons.mpr ⟨tc280_0, fun _ h => absurd h List.not_mem_nil⟩) tw280 tm280
theorem tc281_0 : tC281_0.all (kEn tY281.1 tY281.2.1) = true := by decide +kernel
theorem tc281_1 : tC281_1.all (kEn tY281.1 tY281.2.1) = true := by decide +kernel
theorem tc281_2 : tC281_2.all (kEn tY281.1 tY281.2.1) = true := by decide +kernel
theorem tc281_3 : tC281_3.all (kEn tY281.1 tY281.2.1) = true := by decide +kernel
theorem tc281_4 : tC281_4.all (kEn tY281.1 tY281.2.1) = true := by decide +kernel
theorem tc281_5 : tC281_5.all (kEn tY281.1 tY281.2.1) = true := by decide +kernel
theorem tc281_6 : tC281_6.all (kEn tY281.1 tY281.2.1) = true := by decide +kernel
theorem tc281_7 : tC281_7.all (kEn tY281.1 tY281.2.1) = true := by decide +kernel
theorem tm281 : kM tM281 tY281 ((tWs[281]?).getD (0, 0, 0, 0)) = true := by decide +kernel
set_option maxRecDepth 20000 in
theorem tw281 : kW ((tWs[281]?).getD (0, 0, 0, 0)).1 = some (.code tY281.1 tY281.2.1 tM281.2.1 tY281.2.2) := rfl
theorem tk281 : eMok tCl lw_g tNs tMs tYs tM281 tY281 := kM_ok (q := (tWs[281]?).getD (0, 0, 0, 0)) (show ∀ ch ∈ tC281, _ from List.forall_mem_cons.mpr ⟨tc281_0, List.forall_mem_cons.mpr ⟨tc281_1, List.forall_mem_cons.mpr ⟨tc281_2, List.forall_mem_cons.mpr ⟨tc281_3, List.forall_mem_cons.mpr ⟨tc281_4, List.forall_mem_cons.mpr ⟨tc281_5, List.forall_mem_cons.mpr ⟨tc281_6, List.forall_mem_cons.mpr ⟨tc281_7, fun _ h => absurd h List.not_mem_nil⟩⟩⟩⟩⟩⟩⟩⟩) tw281 tm281
theorem tc282_0 : tC282_0.all (kEn tY282.1 tY282.2.1) = true := by decide +kernel
theorem tc282_1 : tC282_1.all (kEn tY282.1 tY282.2.1) = true := by decide +kernel
theorem tm282 : kM tM282 tY282 ((tWs[282]?).getD (0, 0, 0, 0)) = true := by decide +kernel
set_option maxRecDepth 20000 in
theorem tw282 : kW ((tWs[282]?).getD (0, 0, 0, 0)).1 = some (.code tY282.1 tY282.2.1 tM282.2.1 tY282.2.2) := rfl
theorem tk282 : eMok tCl lw_g tNs tMs tYs tM282 tY282 := kM_ok (q := (tWs[282]?).getD (0, 0, 0, 0)) (show ∀ ch ∈ tC282, _ from List.forall_mem_cons.mpr ⟨tc282_0, List.forall_mem_cons.mpr ⟨tc282_1, fun _ h => absurd h List.not_mem_nil⟩⟩) tw282 tm282
theorem tc283_0 : tC283_0.all (kEn tY283.1 tY283.2.1) = true := by decide +kernel
theorem tm283 : kM tM283 tY283 ((tWs[283]?).getD (0, 0, 0, 0)) = true := by decide +kernel
set_option maxRecDepth 20000 in
theorem tw283 : kW ((tWs[283]?).getD (0, 0, 0, 0)).1 = some (.code tY283.1 tY283.2.1 tM283.2.1 tY283.2.2) := rfl
theorem tk283 : eMok tCl lw_g tNs tMs tYs tM283 tY283 := kM_ok (q := (tWs[283]?).getD (0, 0, 0, 0)) (show ∀ ch ∈ tC283, _ from List.forall_mem_cons.mpr ⟨tc283_0, fun _ h => absurd h List.not_mem_nil⟩) tw283 tm283
theorem tc284_0 : tC284_0.all (kEn tY284.1 tY284.2.1) = true := by decide +kernel
theorem tc284_1 : tC284_1.all (kEn tY284.1 tY284.2.1) = true := by decide +kernel
theorem tm284 : kM tM284 tY284 ((tWs[284]?).getD (0, 0, 0, 0)) = true := by decide +kernel
set_option maxRecDepth 20000 in
theorem tw284 : kW ((tWs[284]?).getD (0, 0, 0, 0)).1 = some (.code tY284.1 tY284.2.1 tM284.2.1 tY284.2.2) := rfl
theorem tk284 : eMok tCl lw_g tNs tMs tYs tM284 tY284 := kM_ok (q := (tWs[284]?).getD (0, 0, 0, 0)) (show ∀ ch ∈ tC284, _ from List.forall_mem_cons.mpr ⟨tc284_0, List.forall_mem_cons.mpr ⟨tc284_1, fun _ h => absurd h List.not_mem_nil⟩⟩) tw284 tm284
theorem tc285_0 : tC285_0.all (kEn tY285.1 tY285.2.1) = true := by decide +kernel
theorem tc285_1 : tC285_1.all (kEn tY285.1 tY285.2.1) = true := by decide +kernel
theorem tm285 : kM tM285 tY285 ((tWs[285]?).getD (0, 0, 0, 0)) = true := by decide +kernel
set_option maxRecDepth 20000 in
theorem tw285 : kW ((tWs[285]?).getD (0, 0, 0, 0)).1 = some (.code tY285.1 tY285.2.1 tM285.2.1 tY285.2.2) := rfl
theorem tk285 : eMok tCl lw_g tNs tMs tYs tM285 tY285 := kM_ok (q := (tWs[285]?).getD (0, 0, 0, 0)) (show ∀ ch ∈ tC285, _ from List.forall_mem_cons.mpr ⟨tc285_0, List.forall_mem_cons.mpr ⟨tc285_1, fun _ h => absurd h List.not_mem_nil⟩⟩) tw285 tm285
theorem tc286_0 : tC286_0.all (kEn tY286.1 tY286.2.1) = true := by decide +kernel
theorem tm286 : kM tM286 tY286 ((tWs[286]?).getD (0, 0, 0, 0)) = true := by decide +kernel
set_option maxRecDepth 20000 in
theorem tw286 : kW ((tWs[286]?).getD (0, 0, 0, 0)).1 = some (.code tY286.1 tY286.2.1 tM286.2.1 tY286.2.2) := rfl
theorem tk286 : eMok tCl lw_g tNs tMs tYs tM286 tY286 := kM_ok (q := (tWs[286]?).getD (0, 0, 0, 0)) (show ∀ ch ∈ tC286, _ from List.forall_mem_cons.mpr ⟨tc286_0, fun _ h => absurd h List.not_mem_nil⟩) tw286 tm286
end
section
set_option maxRecDepth 100000 in
theorem tOk : eAll (eMok tCl lw_g tNs tMs tYs) tMs tYs := ⟨tk0, ⟨tk1, ⟨tk2, ⟨tk3, ⟨tk4, ⟨tk5, ⟨tk6, ⟨tk7, ⟨tk8, ⟨tk9, ⟨tk10, ⟨tk11, ⟨tk12, ⟨tk13, ⟨tk14, ⟨tk15, ⟨tk16, ⟨tk17, ⟨tk18, ⟨tk19, ⟨tk20, ⟨tk21, ⟨tk22, ⟨tk23, ⟨tk24, ⟨tk25, ⟨tk26, ⟨tk27, ⟨tk28, ⟨tk29, ⟨tk30, ⟨tk31, ⟨tk32, ⟨tk33, ⟨tk34, ⟨tk35, ⟨tk36, ⟨tk37, ⟨tk38, ⟨tk39, ⟨tk40, ⟨tk41, ⟨tk42, ⟨tk43, ⟨tk44, ⟨tk45, ⟨tk46, ⟨tk47, ⟨tk48, ⟨tk49, ⟨tk50, ⟨tk51, ⟨tk52, ⟨tk53, ⟨tk54, ⟨tk55, ⟨tk56, ⟨tk57, ⟨tk58, ⟨tk59, ⟨tk60, ⟨tk61, ⟨tk62, ⟨tk63, ⟨tk64, ⟨tk65, ⟨tk66, ⟨tk67, ⟨tk68, ⟨tk69, ⟨tk70, ⟨tk71, ⟨tk72, ⟨tk73, ⟨tk74, ⟨tk75, ⟨tk76, ⟨tk77, ⟨tk78, ⟨tk79, ⟨tk80, ⟨tk81, ⟨tk82, ⟨tk83, ⟨tk84, ⟨tk85, ⟨tk86, ⟨tk87, ⟨tk88, ⟨tk89, ⟨tk90, ⟨tk91, ⟨tk92, ⟨tk93, ⟨tk94, ⟨tk95, ⟨tk96, ⟨tk97, ⟨tk98, ⟨tk99, ⟨tk100, ⟨tk101, ⟨tk102, ⟨tk103, ⟨tk104, ⟨tk105, ⟨tk106, ⟨tk107, ⟨tk108, ⟨tk109, ⟨tk110, ⟨tk111, ⟨tk112, ⟨tk113, ⟨tk114, ⟨tk115, ⟨tk116, ⟨tk117, ⟨tk118, ⟨tk119, ⟨tk120, ⟨tk121, ⟨tk122, ⟨tk123, ⟨tk124, ⟨tk125, ⟨tk126, ⟨tk127, ⟨tk128, ⟨tk129, ⟨tk130, ⟨tk131, ⟨tk132, ⟨tk133, ⟨tk134, ⟨tk135, ⟨tk136, ⟨tk137, ⟨tk138, ⟨tk139, ⟨tk140, ⟨tk141, ⟨tk142, ⟨tk143, ⟨tk144, ⟨tk145, ⟨tk146, ⟨tk147, ⟨tk148, ⟨tk149, ⟨tk150, ⟨tk151, ⟨tk152, ⟨tk153, ⟨tk154, ⟨tk155, ⟨tk156, ⟨tk157, ⟨tk158, ⟨tk159, ⟨tk160, ⟨tk161, ⟨tk162, ⟨tk163, ⟨tk164, ⟨tk165, ⟨tk166, ⟨tk167, ⟨tk168, ⟨tk169, ⟨tk170, ⟨tk171, ⟨tk172, ⟨tk173, ⟨tk174, ⟨tk175, ⟨tk176, ⟨tk177, ⟨tk178, ⟨tk179, ⟨tk180, ⟨tk181, ⟨tk182, ⟨tk183, ⟨tk184, ⟨tk185, ⟨tk186, ⟨tk187, ⟨tk188, ⟨tk189, ⟨tk190, ⟨tk191, ⟨tk192, ⟨tk193, ⟨tk194, ⟨tk195, ⟨tk196, ⟨tk197, ⟨tk198, ⟨tk199, ⟨tk200, ⟨tk201, ⟨tk202, ⟨tk203, ⟨tk204, ⟨tk205, ⟨tk206, ⟨tk207, ⟨tk208, ⟨tk209, ⟨tk210, ⟨tk211, ⟨tk212, ⟨tk213, ⟨tk214, ⟨tk215, ⟨tk216, ⟨tk217, ⟨tk218, ⟨tk219, ⟨tk220, ⟨tk221, ⟨tk222, ⟨tk223, ⟨tk224, ⟨tk225, ⟨tk226, ⟨tk227, ⟨tk228, ⟨tk229, ⟨tk230, ⟨tk231, ⟨tk232, ⟨tk233, ⟨tk234, ⟨tk235, ⟨tk236, ⟨tk237, ⟨tk238, ⟨tk239, ⟨tk240, ⟨tk241, ⟨tk242, ⟨tk243, ⟨tk244, ⟨tk245, ⟨tk246, ⟨tk247, ⟨tk248, ⟨tk249, ⟨tk250, ⟨tk251, ⟨tk252, ⟨tk253, ⟨tk254, ⟨tk255, ⟨tk256, ⟨tk257, ⟨tk258, ⟨tk259, ⟨tk260, ⟨tk261, ⟨tk262, ⟨tk263, ⟨tk264, ⟨tk265, ⟨tk266, ⟨tk267, ⟨tk268, ⟨tk269, ⟨tk270, ⟨tk271, ⟨tk272, ⟨tk273, ⟨tk274, ⟨tk275, ⟨tk276, ⟨tk277, ⟨tk278, ⟨tk279, ⟨tk280, ⟨tk281, ⟨tk282, ⟨tk283, ⟨tk284, ⟨tk285, ⟨tk286, trivial⟩⟩⟩⟩⟩⟩⟩⟩⟩⟩⟩⟩⟩⟩⟩⟩⟩⟩⟩⟩⟩⟩⟩⟩⟩⟩⟩⟩⟩⟩⟩⟩⟩⟩⟩⟩⟩⟩⟩⟩⟩⟩⟩⟩⟩⟩⟩⟩⟩⟩⟩⟩⟩⟩⟩⟩⟩⟩⟩⟩⟩⟩⟩⟩⟩⟩⟩⟩⟩⟩⟩⟩⟩⟩⟩⟩⟩⟩⟩⟩⟩⟩⟩⟩⟩⟩⟩⟩⟩⟩⟩⟩⟩⟩⟩⟩⟩⟩⟩⟩⟩⟩⟩⟩⟩⟩⟩⟩⟩⟩⟩⟩⟩⟩⟩⟩⟩⟩⟩⟩⟩⟩⟩⟩⟩⟩⟩⟩⟩⟩⟩⟩⟩⟩⟩⟩⟩⟩⟩⟩⟩⟩⟩⟩⟩⟩⟩⟩⟩⟩⟩⟩⟩⟩⟩⟩⟩⟩⟩⟩⟩⟩⟩⟩⟩⟩⟩⟩⟩⟩⟩⟩⟩⟩⟩⟩⟩⟩⟩⟩⟩⟩⟩⟩⟩⟩⟩⟩⟩⟩⟩⟩⟩⟩⟩⟩⟩⟩⟩⟩⟩⟩⟩⟩⟩⟩⟩⟩⟩⟩⟩⟩⟩⟩⟩⟩⟩⟩⟩⟩⟩⟩⟩⟩⟩⟩⟩⟩⟩⟩⟩⟩⟩⟩⟩⟩⟩⟩⟩⟩⟩⟩⟩⟩⟩⟩⟩⟩⟩⟩⟩⟩⟩⟩⟩⟩⟩⟩⟩⟩⟩⟩⟩⟩⟩⟩⟩⟩⟩⟩⟩⟩⟩⟩⟩⟩⟩⟩⟩⟩⟩⟩⟩⟩⟩⟩⟩
end
section
/-! THE PLAIN MACHINE: the cells have a fixed shape (tSh), what is in them is a function of cell and place; the text's field is set or not. Printed by wip/p34/mk38.py. -/
abbrev dM : Type := (Nat → Nat → Int32) × (Nat → Nat → Int64) × Bool
/-- the words, as rows 42 and 77 hold them for ever -/
def tWd : List Int64 := [126893, 459761, 15827, 148870, 6888374364, 1903978, 316351, 10524038, 1896526, 377761, 249, 399641, 107681, 247162, 259212373, 923, 168984, 2968, 29611, 289903041, 79958, 12387257]
def tKv (j : Nat) : Int64 := tWd.getD j 0
def dLg (m : dM) (k : Nat) : Nat → Int64 := cond (Nat.beq k 42 || Nat.beq k 77) tKv (m.2.1 k)
abbrev dS : Type := (Nat × List (Option (Option Nat))) ⊕ ((Nat × Nat) ⊕ (Nat ⊕ List Nat))
def dFv (m : dM) (k j : Nat) (f : Option (Option Nat)) : cV := match f with
  | none => .inl (m.1 k j)
  | some none => .inr (.inr (cond m.2.2 (some 1) none))
  | some (some r) => .inr (.inr (some r))
def dFs (m : dM) (k : Nat) : Nat → List (Option (Option Nat)) → List cV
  | _, [] => []
  | j, f :: fs => dFv m k j f :: dFs m k (j + 1) fs
def dC (m : dM) (k : Nat) (s : dS) : cC := match s with
  | .inl o => .inl (o.1, dFs m k 0 o.2)
  | .inr (.inl a) => .inr (.inl (a.1, a.2, m.1 k))
  | .inr (.inr (.inl n)) => .inr (.inr (.inl (n, dLg m k)))
  | .inr (.inr (.inr rs)) => .inr (.inr (.inr (rs.length, fun j => rs[j]?)))
def dCs (m : dM) : Nat → List dS → cH
  | _, [] => []
  | k, s :: sh => dC m k s :: dCs m (k + 1) sh
theorem dFs_at (m : dM) (k : Nat) : ∀ (fs : List (Option (Option Nat))) (j i : Nat), (dFs m k j fs)[i]? = (fs[i]?).map (dFv m k (j + i))
  | [], j, i => by simp [dFs]
  | f :: fs, j, 0 => by simp [dFs]
  | f :: fs, j, i + 1 => by
    simp only [dFs, List.getElem?_cons_succ]
    rw [dFs_at m k fs (j + 1) i, show j + 1 + i = j + (i + 1) by omega]
theorem dCs_at (m : dM) : ∀ (sh : List dS) (k i : Nat), (dCs m k sh)[i]? = (sh[i]?).map (dC m (k + i))
  | [], k, i => by simp [dCs]
  | s :: sh, k, 0 => by simp [dCs]
  | s :: sh, k, i + 1 => by
    simp only [dCs, List.getElem?_cons_succ]
    rw [dCs_at m sh (k + 1) i, show k + 1 + i = k + (i + 1) by omega]
theorem dFs_congr {m m' : dM} {k : Nat} (h1 : m'.1 k = m.1 k) (h3 : m'.2.2 = m.2.2) : ∀ (j : Nat) (fs : List (Option (Option Nat))), dFs m' k j fs = dFs m k j fs
  | _, [] => rfl
  | j, f :: fs => by
    simp only [dFs]
    rw [dFs_congr h1 h3 (j + 1) fs]
    congr 1
    match f with
    | none => simp [dFv, h1]
    | some none => simp [dFv, h3]
    | some (some r) => rfl
theorem dC_congr {m m' : dM} {k : Nat} (h1 : m'.1 k = m.1 k) (h2 : m'.2.1 k = m.2.1 k) (h3 : m'.2.2 = m.2.2) (s : dS) : dC m' k s = dC m k s := by
  match s with
  | .inl o => simp [dC, dFs_congr h1 h3]
  | .inr (.inl a) => simp [dC, h1]
  | .inr (.inr (.inl n)) => simp [dC, dLg, h2]
  | .inr (.inr (.inr rs)) => rfl
theorem dCs_set {m m' : dM} {sh : List dS} {i : Nat} {c : cC} (h1 : ∀ j, j ≠ i → m'.1 j = m.1 j ∧ m'.2.1 j = m.2.1 j) (h3 : m'.2.2 = m.2.2) (h2 : ∀ s, sh[i]? = some s → dC m' i s = c) : (dCs m 0 sh).set i c = dCs m' 0 sh := by
  apply List.ext_getElem?
  intro j
  rw [List.getElem?_set, dCs_at]
  by_cases hj : i = j
  · subst hj
    rw [if_pos rfl]
    cases hs : sh[i]? with
    | none =>
      have hl : sh.length ≤ i := List.getElem?_eq_none_iff.mp hs
      have hl2 : ∀ (sh : List dS) (k : Nat), (dCs m k sh).length = sh.length := by
        intro sh
        induction sh with
        | nil => intro k; rfl
        | cons s sh ih => intro k; simp [dCs, ih]
      rw [if_neg (by rw [hl2]; omega), dCs_at, hs]
      rfl
    | some s =>
      have hl : i < sh.length := (List.getElem?_eq_some_iff.mp hs).1
      have hl2 : ∀ (sh : List dS) (k : Nat), (dCs m k sh).length = sh.length := by
        intro sh
        induction sh with
        | nil => intro k; rfl
        | cons s sh ih => intro k; simp [dCs, ih]
      rw [if_pos (by rw [hl2]; omega), dCs_at, hs]
      simp only [Option.map_some, Nat.zero_add]
      rw [h2 s hs]
  · rw [if_neg hj, dCs_at]
    cases hs : sh[j]? with
    | none => rfl
    | some s =>
      simp only [Option.map_some, Nat.zero_add]
      obtain ⟨g1, g2⟩ := h1 j (fun e => hj e.symm)
      rw [dC_congr g1 g2 h3]
def dSet (m : dM) (k j : Nat) (v : Int32) : dM := (fun a b => cond (Nat.beq a k && Nat.beq b j) v (m.1 a b), m.2)
def dSetL (m : dM) (k j : Nat) (v : Int64) : dM := (m.1, fun a b => cond (Nat.beq a k && Nat.beq b j) v (m.2.1 a b), m.2.2)
def dTx (m : dM) : dM := (m.1, m.2.1, true)
def dCpy (m : dM) (k0 sp k1 dp n : Nat) : dM := (fun a b => cond (Nat.beq a k1) (va_cpy (m.1 k0) (m.1 k1) sp dp n b) (m.1 a b), m.2)
theorem d_beq {a b : Nat} (h : a ≠ b) : Nat.beq a b = false := by
  cases hb : Nat.beq a b with
  | true => exact absurd (Nat.eq_of_beq_eq_true hb) h
  | false => rfl
theorem dSet_s (m : dM) (k j : Nat) (v : Int32) : (dSet m k j v).1 k j = v := by simp [dSet]
theorem dSet_k {m : dM} {k j a : Nat} {v : Int32} (h : a ≠ k) : (dSet m k j v).1 a = m.1 a := by
  funext b
  simp [dSet, d_beq h]
theorem dSet_j {m : dM} {k j a b : Nat} {v : Int32} (h : b ≠ j) : (dSet m k j v).1 a b = m.1 a b := by simp [dSet, d_beq h]
theorem dSet_f {m : dM} {k j : Nat} {v : Int32} : (dSet m k j v).1 k = upd (m.1 k) j v := by
  funext b
  unfold upd
  by_cases h : b = j
  · subst h; rw [if_pos rfl, dSet_s]
  · rw [if_neg h, dSet_j h]
theorem dSet_e (m : dM) (k j : Nat) (v : Int32) (a b : Nat) : (dSet m k j v).1 a b = if a = k ∧ b = j then v else m.1 a b := by
  by_cases h : a = k
  · subst h
    by_cases h2 : b = j
    · subst h2; rw [dSet_s, if_pos ⟨rfl, rfl⟩]
    · rw [dSet_j h2, if_neg (fun q => h2 q.2)]
  · rw [dSet_k h, if_neg (fun q => h q.1)]
theorem dSetL_e (m : dM) (k j : Nat) (v : Int64) (a b : Nat) : (dSetL m k j v).2.1 a b = if a = k ∧ b = j then v else m.2.1 a b := by
  by_cases h : a = k
  · subst h
    by_cases h2 : b = j
    · subst h2; simp [dSetL]
    · simp [dSetL, d_beq h2, h2]
  · simp [dSetL, d_beq h, h]
theorem dCpy_e (m : dM) (k0 sp k1 dp n a b : Nat) : (dCpy m k0 sp k1 dp n).1 a b = if a = k1 ∧ dp ≤ b ∧ b < dp + n then m.1 k0 (sp + (b - dp)) else m.1 a b := by
  by_cases h : a = k1
  · subst h
    simp only [dCpy, Nat.beq_refl, cond_true, va_cpy]
    by_cases h2 : dp ≤ b ∧ b < dp + n
    · rw [if_pos h2, if_pos ⟨trivial, h2⟩]
    · rw [if_neg h2, if_neg (fun q => h2 q.2)]
  · rw [if_neg (fun q => h q.1)]
    simp [dCpy, d_beq h]
theorem dFs_set {m : dM} {k j : Nat} {v : Int32} {fs : List (Option (Option Nat))} (hj : fs[j]? = some none) : dFs (dSet m k j v) k 0 fs = (dFs m k 0 fs).set j (.inl v) := by
  apply List.ext_getElem?
  intro i
  rw [List.getElem?_set, dFs_at, dFs_at, Nat.zero_add]
  by_cases hi : j = i
  · subst hi
    have hl : j < (dFs m k 0 fs).length := by
      have : (dFs m k 0 fs)[j]? = some (.inl (m.1 k j)) := by rw [dFs_at, hj]; simp [dFv]
      exact (List.getElem?_eq_some_iff.mp this).1
    rw [if_pos rfl, if_pos hl, hj]
    simp [dFv, dSet_s]
  · rw [if_neg hi]
    congr 1
    funext f
    match f with
    | none => simp [dFv, dSet_j (fun e => hi e.symm)]
    | some none => rfl
    | some (some r) => rfl
def tSh : List dS := [.inl (11, [some (some 1), none, none, some (some 2), some (some 20), some (some 38), some (some 43), some (some 44), some (some 47), some (some 51), some (some 54), some (some 61), some (some 67)]),
  .inr (.inl (1, 2000)),
  .inl (3, [none, none, none, none, none, none, none, some (some 3), some (some 4), some (some 5), some (some 6), some (some 7), some (some 8), some (some 9), some (some 10), some (some 11)]),
  .inr (.inl (0, 7)),
  .inr (.inl (0, 10)),
  .inr (.inl (0, 10)),
  .inr (.inl (0, 10)),
  .inr (.inl (0, 8)),
  .inr (.inl (0, 8)),
  .inr (.inl (0, 8)),
  .inr (.inl (0, 8)),
  .inl (4, [some (some 12), none, some (some 13), some (some 18), some (some 19), none]),
  .inr (.inl (0, 406)),
  .inr (.inr (.inr [14, 15, 16, 17])),
  .inr (.inl (0, 14)),
  .inr (.inl (0, 14)),
  .inr (.inl (0, 14)),
  .inr (.inl (0, 14)),
  .inr (.inl (0, 4)),
  .inr (.inl (0, 32)),
  .inl (3, [none, none, none, none, none, none, none, some (some 21), some (some 22), some (some 23), some (some 24), some (some 25), some (some 26), some (some 27), some (some 28), some (some 29)]),
  .inr (.inl (0, 7)),
  .inr (.inl (0, 10)),
  .inr (.inl (0, 10)),
  .inr (.inl (0, 10)),
  .inr (.inl (0, 8)),
  .inr (.inl (0, 8)),
  .inr (.inl (0, 8)),
  .inr (.inl (0, 8)),
  .inl (4, [some (some 30), none, some (some 31), some (some 36), some (some 37), none]),
  .inr (.inl (0, 406)),
  .inr (.inr (.inr [32, 33, 34, 35])),
  .inr (.inl (0, 14)),
  .inr (.inl (0, 14)),
  .inr (.inl (0, 14)),
  .inr (.inl (0, 14)),
  .inr (.inl (0, 4)),
  .inr (.inl (0, 32)),
  .inl (8, [some (some 39), some (some 40), some (some 41), some (some 42), some none, none]),
  .inr (.inl (0, 401)),
  .inr (.inl (0, 401)),
  .inr (.inr (.inl 401)),
  .inr (.inr (.inl 22)),
  .inl (2, [some (some 38), some (some 29), none, none, none, none, none]),
  .inl (5, [some (some 38), some (some 20), some (some 45), some (some 46), none, none]),
  .inr (.inr (.inl 7)),
  .inr (.inr (.inl 8)),
  .inl (7, [none, none, none, none, none, none, some (some 48), some (some 49), some (some 50)]),
  .inr (.inl (0, 10)),
  .inr (.inl (0, 10)),
  .inr (.inl (0, 7)),
  .inl (6, [some (some 52), some (some 53), none, none, none]),
  .inr (.inl (0, 1320)),
  .inr (.inl (0, 99)),
  .inl (0, [some (some 2), some (some 57), some (some 55), some (some 56)]),
  .inr (.inl (0, 9)),
  .inr (.inl (0, 10)),
  .inl (10, [some (some 2), none, some (some 58), some (some 59), some (some 60), none]),
  .inr (.inl (0, 7)),
  .inr (.inl (0, 7)),
  .inr (.inl (0, 7)),
  .inl (1, [some (some 2), some (some 54), some (some 62), some (some 66), none]),
  .inl (7, [none, none, none, none, none, none, some (some 63), some (some 64), some (some 65)]),
  .inr (.inl (0, 10)),
  .inr (.inl (0, 10)),
  .inr (.inl (0, 7)),
  .inr (.inl (0, 8)),
  .inl (9, [some (some 2), some (some 68), some (some 69), none]),
  .inr (.inl (0, 20)),
  .inr (.inl (2, 20)),
  .inl (12, [none, some (some 71), none, some (some 72), none, some (some 73), some (some 74), some (some 75), some (some 76), some (some 77), none, none, none, none, none, none, none, none, none, none, none, some (some 78), some (some 79), some (some 80), some (some 81), some (some 82), some (some 83), some (some 84), some (some 85), some (some 86), some (some 87), some (some 88), some (some 89), some (some 90), some (some 91), some (some 92), some (some 93), some (some 94), some (some 95), some (some 96), none, some (some 97), some (some 98), some (some 99), some (some 100), some (some 101), none, some (some 102), some (some 103), some (some 104), none, some (some 105), some (some 106), none, some (some 107), some (some 108), none, none, some (some 109), some (some 110), none, none, some (some 111), none, some (some 112), some (some 113), some (some 114), some (some 115), some (some 116)]),
  .inr (.inl (1, 2000)),
  .inr (.inl (1, 2000)),
  .inr (.inl (0, 403)),
  .inr (.inl (0, 403)),
  .inr (.inl (0, 403)),
  .inr (.inr (.inl 403)),
  .inr (.inr (.inl 22)),
  .inr (.inr (.inl 15)),
  .inr (.inl (0, 15)),
  .inr (.inl (0, 2)),
  .inr (.inl (0, 14)),
  .inr (.inl (0, 2)),
  .inr (.inl (0, 20)),
  .inr (.inl (0, 20)),
  .inr (.inl (0, 20)),
  .inr (.inl (0, 2)),
  .inr (.inl (0, 16)),
  .inr (.inl (0, 16)),
  .inr (.inl (0, 16)),
  .inr (.inl (0, 16)),
  .inr (.inl (0, 2)),
  .inr (.inl (0, 2)),
  .inr (.inl (0, 2)),
  .inr (.inl (0, 2)),
  .inr (.inl (0, 8)),
  .inr (.inl (0, 8)),
  .inr (.inl (2, 260)),
  .inr (.inl (0, 260)),
  .inr (.inl (0, 260)),
  .inr (.inl (0, 260)),
  .inr (.inl (0, 260)),
  .inr (.inl (0, 840)),
  .inr (.inl (0, 840)),
  .inr (.inl (0, 64)),
  .inr (.inl (0, 9)),
  .inr (.inl (0, 400)),
  .inr (.inl (0, 58)),
  .inr (.inl (0, 58)),
  .inr (.inl (0, 7)),
  .inr (.inl (0, 7)),
  .inr (.inl (0, 2320)),
  .inr (.inl (0, 20)),
  .inr (.inl (0, 20)),
  .inr (.inl (0, 10)),
  .inr (.inl (2, 3)),
  .inr (.inl (0, 174))]
def dHp (m : dM) : cH := dCs m 0 tSh
theorem dHp_at (m : dM) (k : Nat) : (dHp m)[k]? = (tSh[k]?).map (dC m k) := by
  unfold dHp
  rw [dCs_at, Nat.zero_add]
/-- a field's sort; a row's sort and length; a row of longs; a row of rows -/
def dFk (k a b : Nat) : Option (Option (Option Nat)) := match tSh[k]? with
  | some (.inl o) => cond (Nat.beq o.1 a) (o.2[b]?) none
  | _ => none
def dAk (k : Nat) : Option (Nat × Nat) := match tSh[k]? with
  | some (.inr (.inl a)) => some a
  | _ => none
def dLk (k : Nat) : Option Nat := match tSh[k]? with
  | some (.inr (.inr (.inl n))) => some n
  | _ => none
def dRk (k : Nat) : Option (List Nat) := match tSh[k]? with
  | some (.inr (.inr (.inr rs))) => some rs
  | _ => none
def dCk (k d0 : Nat) : Bool := match tSh[k]? with
  | some (.inl o) => Nat.beq o.1 d0
  | _ => false
theorem dFk_ok {k a b : Nat} {f : Option (Option Nat)} (h : dFk k a b = some f) : ∃ fs, tSh[k]? = some (.inl (a, fs)) ∧ fs[b]? = some f := by
  unfold dFk at h
  split at h
  · rename_i o ho
    obtain ⟨h1, h2⟩ := eCond h
    have e := Nat.eq_of_beq_eq_true h1
    exact ⟨o.2, by rw [ho, ← e], h2⟩
  · cases h
theorem dAk_ok {k : Nat} {a : Nat × Nat} (h : dAk k = some a) : tSh[k]? = some (.inr (.inl a)) := by
  unfold dAk at h
  split at h
  · rename_i o ho; cases h; exact ho
  · cases h
theorem dLk_ok {k n : Nat} (h : dLk k = some n) : tSh[k]? = some (.inr (.inr (.inl n))) := by
  unfold dLk at h
  split at h
  · rename_i o ho; cases h; exact ho
  · cases h
theorem dRk_ok {k : Nat} {rs : List Nat} (h : dRk k = some rs) : tSh[k]? = some (.inr (.inr (.inr rs))) := by
  unfold dRk at h
  split at h
  · rename_i o ho; cases h; exact ho
  · cases h
theorem dHp_set {m m' : dM} {i : Nat} {c : cC} (h1 : ∀ j, j ≠ i → m'.1 j = m.1 j ∧ m'.2.1 j = m.2.1 j) (h3 : m'.2.2 = m.2.2) (h2 : ∀ s, tSh[i]? = some s → dC m' i s = c) : (dHp m).set i c = dHp m' := dCs_set h1 h3 h2
/-! places, locals -/
def cIsR (i : Instr) : Bool := match i with
  | .return_ => true
  | .ireturn => true
  | .lreturn => true
  | .areturn => true
  | _ => false
theorem cRet_none {M : eM} {en : eN} {S : cS} (h : cIsR en.2.1 = false) : cRet M en S = none := by
  unfold cRet
  split
  · rename_i h2 h3; rw [h2] at h; cases h
  · rename_i h2 h3; rw [h2] at h; cases h
  · rename_i h2 h3; rw [h2] at h; cases h
  · rename_i h2 h3; rw [h2] at h; cases h
  · rename_i h2 h3; rw [h2] at h; cases h
  · rfl
abbrev dL : Type := List (Option cV)
def dLo (l : dL) (lc : cL) : Prop := ∀ (i : Nat) (v : cV), l[i]? = some (some v) → cGet lc i = some v
theorem cGet_filter {p : Nat × cV → Bool} : ∀ {lc : cL} {i : Nat} {v : cV}, cGet lc i = some v → p (i, v) = true → cGet (lc.filter p) i = some v
  | [], i, v, h, _ => by cases h
  | q :: lc, i, v, h, hp => by
    unfold cGet at h
    cases hb : Nat.beq q.1 i with
    | true =>
      rw [hb] at h
      have e := Nat.eq_of_beq_eq_true hb
      cases h
      have hq : p q = true := by
        have : q = (i, q.2) := by rw [← e]
        rw [this]; exact hp
      rw [List.filter_cons_of_pos hq]
      unfold cGet
      rw [hb]
      rfl
    | false =>
      rw [hb] at h
      have ih := cGet_filter (p := p) h hp
      cases hq : p q with
      | true =>
        rw [List.filter_cons_of_pos hq]
        unfold cGet
        rw [hb]
        exact ih
      | false =>
        rw [List.filter_cons_of_neg (by rw [hq]; decide)]
        exact ih
def dKl (l : dL) (k : Nat) : Bool := match k with
  | 0 => true
  | k + 1 => match l[k]? with
    | some (some (.inr (.inl _))) => false
    | _ => true
theorem dKl_ok {l : dL} {i : Nat} {w : cV} (h : dKl l (i + 1) = true) (hw : l[i]? = some (some w)) : (cCat w == 2) = false := by
  simp only [dKl, hw] at h
  match w, h with
  | .inl _, _ => rfl
  | .inr (.inr _), _ => rfl
theorem dPut_ok {l : dL} {lc : cL} {k : Nat} {v : cV} (h : dLo l lc) (hk : dKl l k = true) : dLo (l.set k (some v)) (cPut lc k v) := by
  intro i w hw
  rw [List.getElem?_set] at hw
  unfold cPut cGet
  by_cases hi : k = i
  · subst hi
    rw [if_pos rfl] at hw
    split at hw
    · cases hw
      rw [Nat.beq_refl]
      rfl
    · cases hw
  · rw [if_neg hi] at hw
    rw [d_beq hi]
    refine cGet_filter (h i w hw) ?_
    have e1 : (i == k) = false := beq_eq_false_iff_ne.mpr (fun e => hi e.symm)
    simp only [e1, Bool.not_false, Bool.true_and]
    by_cases h2 : i + 1 = k
    · subst h2
      rw [dKl_ok hk hw]
      simp
    · have e2 : (i + 1 == k) = false := beq_eq_false_iff_ne.mpr h2
      rw [e2]
      rfl
theorem dPut2_ok {l : dL} {lc : cL} {k : Nat} {v : cV} (h : dLo l lc) (hk : dKl l k = true) : dLo ((l.set k (some v)).set (k + 1) none) (cPut2 lc k v) := by
  intro i w hw
  rw [List.getElem?_set] at hw
  unfold cPut2 cGet
  by_cases hi1 : k + 1 = i
  · rw [if_pos hi1] at hw
    split at hw
    · cases hw
    · cases hw
  · rw [if_neg hi1, List.getElem?_set] at hw
    by_cases hi : k = i
    · subst hi
      rw [if_pos rfl] at hw
      split at hw
      · cases hw
        rw [Nat.beq_refl]
        rfl
      · cases hw
    · rw [if_neg hi] at hw
      rw [d_beq hi]
      refine cGet_filter (h i w hw) ?_
      have e1 : (i == k) = false := beq_eq_false_iff_ne.mpr (fun e => hi e.symm)
      have e3 : (i == k + 1) = false := beq_eq_false_iff_ne.mpr (fun e => hi1 e.symm)
      simp only [e1, e3, Bool.not_false, Bool.true_and]
      by_cases h2 : i + 1 = k
      · subst h2
        rw [dKl_ok hk hw]
        simp
      · have e2 : (i + 1 == k) = false := beq_eq_false_iff_ne.mpr h2
        rw [e2]
        rfl
def dArgs (vs : List cV) : dL := match vs with
  | [] => []
  | v :: vs => cond (Nat.beq (cCat v) 2) (some v :: none :: dArgs vs) (some v :: dArgs vs)
theorem dArgs_ge : ∀ (vs : List cV) (i j : Nat), j < i → cGet (cArgs i vs) j = none
  | [], i, j, h => rfl
  | v :: vs, i, j, h => by
    unfold cArgs cGet
    simp only
    rw [d_beq (show i ≠ j by omega)]
    exact dArgs_ge vs _ j (by cases Nat.beq (cCat v) 2 <;> simp <;> omega)
theorem dArgs_ok : ∀ (vs : List cV) (i0 i : Nat) (v : cV) (n : Nat), (dArgs vs ++ List.replicate n none)[i]? = some (some v) → cGet (cArgs i0 vs) (i0 + i) = some v
  | [], i0, i, v, n, h => by
    simp only [dArgs, List.nil_append, List.getElem?_replicate] at h
    split at h <;> cases h
  | a :: vs, i0, i, v, n, h => by
    unfold dArgs at h
    unfold cArgs cGet
    simp only
    cases hc : Nat.beq (cCat a) 2 with
    | true =>
      rw [hc] at h
      match i, h with
      | 0, h =>
        simp at h
        subst h
        rw [Nat.add_zero, Nat.beq_refl]
        rfl
      | 1, h => simp at h
      | i + 2, h =>
        rw [d_beq (show i0 ≠ i0 + (i + 2) by omega)]
        have := dArgs_ok vs (i0 + 2) i v n (by simpa using h)
        rw [show i0 + (i + 2) = i0 + 2 + i by omega]
        exact this
    | false =>
      rw [hc] at h
      match i, h with
      | 0, h =>
        simp at h
        subst h
        rw [Nat.add_zero, Nat.beq_refl]
        rfl
      | i + 1, h =>
        rw [d_beq (show i0 ≠ i0 + (i + 1) by omega)]
        have := dArgs_ok vs (i0 + 1) i v n (by simpa using h)
        rw [show i0 + (i + 1) = i0 + 1 + i by omega]
        exact this
/-! WHAT A METHOD COMES TO: from a place, with locals l, stack st, memory m, it ends, and what it hands back and leaves is as Q says -/
def Wp (d y pc : Nat) (l : dL) (st : List cV) (m : dM) (Q : Option cV → dM → Prop) : Prop := ∀ lc : cL, dLo l lc → ∃ (v : Option cV) (m' : dM), cRun tMs d y (pc, lc, st, dHp m) v (dHp m') ∧ Q v m'
theorem Wp.mono {d y pc : Nat} {l : dL} {st : List cV} {m : dM} {Q Q' : Option cV → dM → Prop} (h : Wp d y pc l st m Q) (hq : ∀ v m', Q v m' → Q' v m') : Wp d y pc l st m Q' := by
  intro lc hlc
  obtain ⟨v, m', h1, h2⟩ := h lc hlc
  exact ⟨v, m', h1, hq v m' h2⟩
theorem Wp.deep {d d' y pc : Nat} {l : dL} {st : List cV} {m : dM} {Q : Option cV → dM → Prop} (h : Wp d y pc l st m Q) (hd : d ≤ d') : Wp d' y pc l st m Q := by
  intro lc hlc
  obtain ⟨v, m', h1, h2⟩ := h lc hlc
  exact ⟨v, m', h1.deep hd, h2⟩
def dMask : List Bool → dL → dL
  | b :: bs, x :: l => cond b x none :: dMask bs l
  | _, _ => []
theorem dMask_ok : ∀ (bs : List Bool) (l : dL) (i : Nat) (v : cV), (dMask bs l)[i]? = some (some v) → l[i]? = some (some v)
  | [], l, i, v, h => by simp [dMask] at h
  | b :: bs, [], i, v, h => by simp [dMask] at h
  | b :: bs, x :: l, 0, v, h => by
    simp only [dMask, List.getElem?_cons_zero] at h
    cases b with
    | true => simpa using h
    | false => simp at h
  | b :: bs, x :: l, i + 1, v, h => by
    simp only [dMask, List.getElem?_cons_succ] at h
    simpa using dMask_ok bs l i v h
theorem Wp.wk (bs : List Bool) {d y pc : Nat} {l : dL} {st : List cV} {m : dM} {Q : Option cV → dM → Prop} (h : Wp d y pc (dMask bs l) st m Q) : Wp d y pc l st m Q := fun lc hlc => h lc (fun i v hi => hlc i v (dMask_ok bs l i v hi))
def qV (Q : dM → Prop) : Option cV → dM → Prop := fun o m => o = none ∧ Q m
def qI (Q : Int32 → dM → Prop) : Option cV → dM → Prop := fun o m => ∃ x, o = some (.inl x) ∧ Q x m
def qL (Q : Int64 → dM → Prop) : Option cV → dM → Prop := fun o m => ∃ x, o = some (.inr (.inl x)) ∧ Q x m
def qR (k : Nat) (Q : dM → Prop) : Option cV → dM → Prop := fun o m => o = some (.inr (.inr (some k))) ∧ Q m
def dAt (M : eM) (pc q : Nat) (i : Instr) (a b e : Nat) : Prop := (∃ c len, eAt M.1 pc = some (pc, i, len, a, b, c, e)) ∧ pc + eLen i = q
section DRU
variable {d y pc q : Nat} {M : eM} {a b e : Nat} {l : dL} {st : List cV} {m : dM} {Q : Option cV → dM → Prop}
theorem Wp.step {i : Instr} {l' : dL} {st' : List cV} {m' : dM} (hM : tMs[y]? = some M) (ha : ∃ c len, eAt M.1 pc = some (pc, i, len, a, b, c, e)) (hr : cIsR i = false) (hc : cIsC i = false) (hs : ∀ lc, dLo l lc → ∃ lc', dLo l' lc' ∧ cStep M.2.1 i a b e pc lc st (dHp m) = some (q, lc', st', dHp m')) (K : Wp d y q l' st' m' Q) : Wp d y pc l st m Q := by
  intro lc hlc
  obtain ⟨c, len, ha⟩ := ha
  obtain ⟨lc', h1, h2⟩ := hs lc hlc
  obtain ⟨v, m2, h3, h4⟩ := K lc' h1
  exact ⟨v, m2, cRun.step hM ha (cRet_none hr) hc h2 h3, h4⟩
theorem w_iconst {n : Int} {x : Int32} (hM : tMs[y]? = some M) (ha : dAt M pc q (.iconst n) a b e) (hx : Int32.ofInt n = x) (K : Wp d y q l (.inl x :: st) m Q) : Wp d y pc l st m Q :=
  Wp.step hM ha.1 rfl rfl (fun lc h => ⟨lc, h, by rw [← ha.2, ← hx]; rfl⟩) K
theorem w_bipush {n : Int} {x : Int32} (hM : tMs[y]? = some M) (ha : dAt M pc q (.bipush n) a b e) (hx : (Int8.ofInt n).toInt32 = x) (K : Wp d y q l (.inl x :: st) m Q) : Wp d y pc l st m Q :=
  Wp.step hM ha.1 rfl rfl (fun lc h => ⟨lc, h, by rw [← ha.2, ← hx]; rfl⟩) K
theorem w_sipush {n : Int} {x : Int32} (hM : tMs[y]? = some M) (ha : dAt M pc q (.sipush n) a b e) (hx : (Int16.ofInt n).toInt32 = x) (K : Wp d y q l (.inl x :: st) m Q) : Wp d y pc l st m Q :=
  Wp.step hM ha.1 rfl rfl (fun lc h => ⟨lc, h, by rw [← ha.2, ← hx]; rfl⟩) K
theorem w_lconst {n : Fin 2} {x : Int64} (hM : tMs[y]? = some M) (ha : dAt M pc q (.lconst n) a b e) (hx : Int64.ofNat (n : Nat) = x) (K : Wp d y q l (.inr (.inl x) :: st) m Q) : Wp d y pc l st m Q :=
  Wp.step hM ha.1 rfl rfl (fun lc h => ⟨lc, h, by rw [← ha.2, ← hx]; rfl⟩) K
theorem w_ldc {n : Nat} {x : Int32} (hM : tMs[y]? = some M) (ha : dAt M pc q (.ldc n) a b e) (hx : Int32.ofNat a = x) (K : Wp d y q l (.inl x :: st) m Q) : Wp d y pc l st m Q :=
  Wp.step hM ha.1 rfl rfl (fun lc h => ⟨lc, h, by rw [← ha.2, ← hx]; rfl⟩) K
theorem w_ldc_w {n : Nat} {x : Int32} (hM : tMs[y]? = some M) (ha : dAt M pc q (.ldc_w n) a b e) (hx : Int32.ofNat a = x) (K : Wp d y q l (.inl x :: st) m Q) : Wp d y pc l st m Q :=
  Wp.step hM ha.1 rfl rfl (fun lc h => ⟨lc, h, by rw [← ha.2, ← hx]; rfl⟩) K
theorem w_ldc2_w {n : Nat} {x : Int64} (hM : tMs[y]? = some M) (ha : dAt M pc q (.ldc2_w n) a b e) (hx : Int64.ofNat a = x) (K : Wp d y q l (.inr (.inl x) :: st) m Q) : Wp d y pc l st m Q :=
  Wp.step hM ha.1 rfl rfl (fun lc h => ⟨lc, h, by rw [← ha.2, ← hx]; rfl⟩) K
theorem w_iload_n {k : Fin 4} {x : Int32} (hM : tMs[y]? = some M) (ha : dAt M pc q (.iload_n k) a b e) (hl : l[(k : Nat)]? = some (some (.inl x))) (K : Wp d y q l (.inl x :: st) m Q) : Wp d y pc l st m Q :=
  Wp.step hM ha.1 rfl rfl (fun lc h => ⟨lc, h, by rw [← ha.2]; simp only [cStep, h _ _ hl]; rfl⟩) K
theorem w_istore_n {k : Fin 4} {x : Int32} {l' : dL} (hM : tMs[y]? = some M) (ha : dAt M pc q (.istore_n k) a b e) (hn : Nat.blt ((k : Nat)) M.2.1 = true) (hk : dKl l (k : Nat) = true) (hl : l.set (k : Nat) (some (.inl x)) = l') (K : Wp d y q l' st m Q) : Wp d y pc l (.inl x :: st) m Q :=
  Wp.step hM ha.1 rfl rfl (fun lc h => ⟨_, hl ▸ dPut_ok h hk, by rw [← ha.2]; simp only [cStep, hn, cond_true]; rfl⟩) K
theorem w_iload {k : Nat} {x : Int32} (hM : tMs[y]? = some M) (ha : dAt M pc q (.iload k) a b e) (hl : l[(k : Nat)]? = some (some (.inl x))) (K : Wp d y q l (.inl x :: st) m Q) : Wp d y pc l st m Q :=
  Wp.step hM ha.1 rfl rfl (fun lc h => ⟨lc, h, by rw [← ha.2]; simp only [cStep, h _ _ hl]; rfl⟩) K
theorem w_istore {k : Nat} {x : Int32} {l' : dL} (hM : tMs[y]? = some M) (ha : dAt M pc q (.istore k) a b e) (hn : Nat.blt ((k : Nat)) M.2.1 = true) (hk : dKl l (k : Nat) = true) (hl : l.set (k : Nat) (some (.inl x)) = l') (K : Wp d y q l' st m Q) : Wp d y pc l (.inl x :: st) m Q :=
  Wp.step hM ha.1 rfl rfl (fun lc h => ⟨_, hl ▸ dPut_ok h hk, by rw [← ha.2]; simp only [cStep, hn, cond_true]; rfl⟩) K
theorem w_lload_n {k : Fin 4} {x : Int64} (hM : tMs[y]? = some M) (ha : dAt M pc q (.lload_n k) a b e) (hl : l[(k : Nat)]? = some (some (.inr (.inl x)))) (K : Wp d y q l (.inr (.inl x) :: st) m Q) : Wp d y pc l st m Q :=
  Wp.step hM ha.1 rfl rfl (fun lc h => ⟨lc, h, by rw [← ha.2]; simp only [cStep, h _ _ hl]; rfl⟩) K
theorem w_lstore_n {k : Fin 4} {x : Int64} {l' : dL} (hM : tMs[y]? = some M) (ha : dAt M pc q (.lstore_n k) a b e) (hn : Nat.blt ((k : Nat) + 1) M.2.1 = true) (hk : dKl l (k : Nat) = true) (hl : (l.set (k : Nat) (some (.inr (.inl x)))).set ((k : Nat) + 1) none = l') (K : Wp d y q l' st m Q) : Wp d y pc l (.inr (.inl x) :: st) m Q :=
  Wp.step hM ha.1 rfl rfl (fun lc h => ⟨_, hl ▸ dPut2_ok h hk, by rw [← ha.2]; simp only [cStep, hn, cond_true]; rfl⟩) K
theorem w_lload {k : Nat} {x : Int64} (hM : tMs[y]? = some M) (ha : dAt M pc q (.lload k) a b e) (hl : l[(k : Nat)]? = some (some (.inr (.inl x)))) (K : Wp d y q l (.inr (.inl x) :: st) m Q) : Wp d y pc l st m Q :=
  Wp.step hM ha.1 rfl rfl (fun lc h => ⟨lc, h, by rw [← ha.2]; simp only [cStep, h _ _ hl]; rfl⟩) K
theorem w_lstore {k : Nat} {x : Int64} {l' : dL} (hM : tMs[y]? = some M) (ha : dAt M pc q (.lstore k) a b e) (hn : Nat.blt ((k : Nat) + 1) M.2.1 = true) (hk : dKl l (k : Nat) = true) (hl : (l.set (k : Nat) (some (.inr (.inl x)))).set ((k : Nat) + 1) none = l') (K : Wp d y q l' st m Q) : Wp d y pc l (.inr (.inl x) :: st) m Q :=
  Wp.step hM ha.1 rfl rfl (fun lc h => ⟨_, hl ▸ dPut2_ok h hk, by rw [← ha.2]; simp only [cStep, hn, cond_true]; rfl⟩) K
theorem w_aload_n {k : Fin 4} {x : Nat} (hM : tMs[y]? = some M) (ha : dAt M pc q (.aload_n k) a b e) (hl : l[(k : Nat)]? = some (some (.inr (.inr (some x))))) (K : Wp d y q l (.inr (.inr (some x)) :: st) m Q) : Wp d y pc l st m Q :=
  Wp.step hM ha.1 rfl rfl (fun lc h => ⟨lc, h, by rw [← ha.2]; simp only [cStep, h _ _ hl]; rfl⟩) K
theorem w_astore_n {k : Fin 4} {x : Nat} {l' : dL} (hM : tMs[y]? = some M) (ha : dAt M pc q (.astore_n k) a b e) (hn : Nat.blt ((k : Nat)) M.2.1 = true) (hk : dKl l (k : Nat) = true) (hl : l.set (k : Nat) (some (.inr (.inr (some x)))) = l') (K : Wp d y q l' st m Q) : Wp d y pc l (.inr (.inr (some x)) :: st) m Q :=
  Wp.step hM ha.1 rfl rfl (fun lc h => ⟨_, hl ▸ dPut_ok h hk, by rw [← ha.2]; simp only [cStep, hn, cond_true]; rfl⟩) K
theorem w_aload {k : Nat} {x : Nat} (hM : tMs[y]? = some M) (ha : dAt M pc q (.aload k) a b e) (hl : l[(k : Nat)]? = some (some (.inr (.inr (some x))))) (K : Wp d y q l (.inr (.inr (some x)) :: st) m Q) : Wp d y pc l st m Q :=
  Wp.step hM ha.1 rfl rfl (fun lc h => ⟨lc, h, by rw [← ha.2]; simp only [cStep, h _ _ hl]; rfl⟩) K
theorem w_astore {k : Nat} {x : Nat} {l' : dL} (hM : tMs[y]? = some M) (ha : dAt M pc q (.astore k) a b e) (hn : Nat.blt ((k : Nat)) M.2.1 = true) (hk : dKl l (k : Nat) = true) (hl : l.set (k : Nat) (some (.inr (.inr (some x)))) = l') (K : Wp d y q l' st m Q) : Wp d y pc l (.inr (.inr (some x)) :: st) m Q :=
  Wp.step hM ha.1 rfl rfl (fun lc h => ⟨_, hl ▸ dPut_ok h hk, by rw [← ha.2]; simp only [cStep, hn, cond_true]; rfl⟩) K
theorem w_iinc {k : Nat} {n : Int} {x z : Int32} {l' : dL} (hM : tMs[y]? = some M) (ha : dAt M pc q (.iinc k n) a b e) (hg : l[k]? = some (some (.inl x))) (hn : Nat.blt k M.2.1 = true) (hk : dKl l k = true) (hz : Int32.ofInt n = z) (hl : l.set k (some (.inl (x + z))) = l') (K : Wp d y q l' st m Q) : Wp d y pc l st m Q :=
  Wp.step hM ha.1 rfl rfl (fun lc h => ⟨_, hl ▸ dPut_ok h hk, by rw [← ha.2, ← hz]; simp only [cStep, h _ _ hg, hn, cond_true]; rfl⟩) K
theorem w_iadd {x z : Int32} (hM : tMs[y]? = some M) (ha : dAt M pc q .iadd a b e) (K : Wp d y q l (.inl (x + z) :: st) m Q) : Wp d y pc l (.inl z :: .inl x :: st) m Q :=
  Wp.step hM ha.1 rfl rfl (fun lc h => ⟨lc, h, by rw [← ha.2]; rfl⟩) K
theorem w_isub {x z : Int32} (hM : tMs[y]? = some M) (ha : dAt M pc q .isub a b e) (K : Wp d y q l (.inl (x - z) :: st) m Q) : Wp d y pc l (.inl z :: .inl x :: st) m Q :=
  Wp.step hM ha.1 rfl rfl (fun lc h => ⟨lc, h, by rw [← ha.2]; rfl⟩) K
theorem w_imul {x z : Int32} (hM : tMs[y]? = some M) (ha : dAt M pc q .imul a b e) (K : Wp d y q l (.inl (x * z) :: st) m Q) : Wp d y pc l (.inl z :: .inl x :: st) m Q :=
  Wp.step hM ha.1 rfl rfl (fun lc h => ⟨lc, h, by rw [← ha.2]; rfl⟩) K
theorem w_iand {x z : Int32} (hM : tMs[y]? = some M) (ha : dAt M pc q .iand a b e) (K : Wp d y q l (.inl (x &&& z) :: st) m Q) : Wp d y pc l (.inl z :: .inl x :: st) m Q :=
  Wp.step hM ha.1 rfl rfl (fun lc h => ⟨lc, h, by rw [← ha.2]; rfl⟩) K
theorem w_ior {x z : Int32} (hM : tMs[y]? = some M) (ha : dAt M pc q .ior a b e) (K : Wp d y q l (.inl (x ||| z) :: st) m Q) : Wp d y pc l (.inl z :: .inl x :: st) m Q :=
  Wp.step hM ha.1 rfl rfl (fun lc h => ⟨lc, h, by rw [← ha.2]; rfl⟩) K
theorem w_ixor {x z : Int32} (hM : tMs[y]? = some M) (ha : dAt M pc q .ixor a b e) (K : Wp d y q l (.inl (x ^^^ z) :: st) m Q) : Wp d y pc l (.inl z :: .inl x :: st) m Q :=
  Wp.step hM ha.1 rfl rfl (fun lc h => ⟨lc, h, by rw [← ha.2]; rfl⟩) K
theorem w_ishl {x z : Int32} (hM : tMs[y]? = some M) (ha : dAt M pc q .ishl a b e) (K : Wp d y q l (.inl (x <<< (z &&& 31)) :: st) m Q) : Wp d y pc l (.inl z :: .inl x :: st) m Q :=
  Wp.step hM ha.1 rfl rfl (fun lc h => ⟨lc, h, by rw [← ha.2]; rfl⟩) K
theorem w_ishr {x z : Int32} (hM : tMs[y]? = some M) (ha : dAt M pc q .ishr a b e) (K : Wp d y q l (.inl (x >>> (z &&& 31)) :: st) m Q) : Wp d y pc l (.inl z :: .inl x :: st) m Q :=
  Wp.step hM ha.1 rfl rfl (fun lc h => ⟨lc, h, by rw [← ha.2]; rfl⟩) K
theorem w_iushr {x z : Int32} (hM : tMs[y]? = some M) (ha : dAt M pc q .iushr a b e) (K : Wp d y q l (.inl ((x.toUInt32 >>> (z.toUInt32 &&& Int32.toUInt32 31)).toInt32) :: st) m Q) : Wp d y pc l (.inl z :: .inl x :: st) m Q :=
  Wp.step hM ha.1 rfl rfl (fun lc h => ⟨lc, h, by rw [← ha.2]; rfl⟩) K
theorem w_irem {x z : Int32} (hM : tMs[y]? = some M) (ha : dAt M pc q .irem a b e) (hz : z ≠ 0) (K : Wp d y q l (.inl (x - x / z * z) :: st) m Q) : Wp d y pc l (.inl z :: .inl x :: st) m Q :=
  Wp.step hM ha.1 rfl rfl (fun lc h => ⟨lc, h, by rw [← ha.2]; simp only [cStep, cBin, decide_eq_false hz, cond_false]; rfl⟩) K
theorem w_idiv {x z : Int32} (hM : tMs[y]? = some M) (ha : dAt M pc q .idiv a b e) (hz : z ≠ 0) (K : Wp d y q l (.inl (x / z) :: st) m Q) : Wp d y pc l (.inl z :: .inl x :: st) m Q :=
  Wp.step hM ha.1 rfl rfl (fun lc h => ⟨lc, h, by rw [← ha.2]; simp only [cStep, cBin, decide_eq_false hz, cond_false]; rfl⟩) K
theorem w_i2b {x : Int32} (hM : tMs[y]? = some M) (ha : dAt M pc q .i2b a b e) (K : Wp d y q l (.inl x.toInt8.toInt32 :: st) m Q) : Wp d y pc l (.inl x :: st) m Q :=
  Wp.step hM ha.1 rfl rfl (fun lc h => ⟨lc, h, by
    rw [← ha.2]
    match st with
    | [] => rfl
    | .inl _ :: _ => rfl
    | .inr _ :: _ => rfl⟩) K
theorem w_i2l {x : Int32} (hM : tMs[y]? = some M) (ha : dAt M pc q .i2l a b e) (K : Wp d y q l (.inr (.inl x.toInt64) :: st) m Q) : Wp d y pc l (.inl x :: st) m Q :=
  Wp.step hM ha.1 rfl rfl (fun lc h => ⟨lc, h, by
    rw [← ha.2]
    match st with
    | [] => rfl
    | .inl _ :: _ => rfl
    | .inr _ :: _ => rfl⟩) K
theorem w_l2i {x : Int64} (hM : tMs[y]? = some M) (ha : dAt M pc q .l2i a b e) (K : Wp d y q l (.inl x.toInt32 :: st) m Q) : Wp d y pc l (.inr (.inl x) :: st) m Q :=
  Wp.step hM ha.1 rfl rfl (fun lc h => ⟨lc, h, by
    rw [← ha.2]
    match st with
    | [] => rfl
    | .inl _ :: _ => rfl
    | .inr (.inl _) :: _ => rfl
    | .inr (.inr _) :: _ => rfl⟩) K
theorem w_ladd {x z : Int64} (hM : tMs[y]? = some M) (ha : dAt M pc q .ladd a b e) (K : Wp d y q l (.inr (.inl (x + z)) :: st) m Q) : Wp d y pc l (.inr (.inl z) :: .inr (.inl x) :: st) m Q :=
  Wp.step hM ha.1 rfl rfl (fun lc h => ⟨lc, h, by rw [← ha.2]; rfl⟩) K
theorem w_lmul {x z : Int64} (hM : tMs[y]? = some M) (ha : dAt M pc q .lmul a b e) (K : Wp d y q l (.inr (.inl (x * z)) :: st) m Q) : Wp d y pc l (.inr (.inl z) :: .inr (.inl x) :: st) m Q :=
  Wp.step hM ha.1 rfl rfl (fun lc h => ⟨lc, h, by rw [← ha.2]; rfl⟩) K
theorem w_lcmp {x z : Int64} (hM : tMs[y]? = some M) (ha : dAt M pc q .lcmp a b e) (K : Wp d y q l (.inl (lg_cmp x z) :: st) m Q) : Wp d y pc l (.inr (.inl z) :: .inr (.inl x) :: st) m Q :=
  Wp.step hM ha.1 rfl rfl (fun lc h => ⟨lc, h, by rw [← ha.2]; rfl⟩) K
theorem w_dup {v : cV} (hM : tMs[y]? = some M) (ha : dAt M pc q .dup a b e) (hv : Nat.beq (cCat v) 1 = true) (K : Wp d y q l (v :: v :: st) m Q) : Wp d y pc l (v :: st) m Q :=
  Wp.step hM ha.1 rfl rfl (fun lc h => ⟨lc, h, by rw [← ha.2]; simp only [cStep, hv, cond_true]; rfl⟩) K
theorem w_dup2 {v w : cV} (hM : tMs[y]? = some M) (ha : dAt M pc q .dup2 a b e) (hv : (Nat.beq (cCat v) 1 && Nat.beq (cCat w) 1) = true) (K : Wp d y q l (v :: w :: v :: w :: st) m Q) : Wp d y pc l (v :: w :: st) m Q :=
  Wp.step hM ha.1 rfl rfl (fun lc h => ⟨lc, h, by rw [← ha.2]; simp only [cStep, hv, cond_true]; rfl⟩) K
theorem w_pop {v : cV} (hM : tMs[y]? = some M) (ha : dAt M pc q .pop a b e) (hv : Nat.beq (cCat v) 1 = true) (K : Wp d y q l st m Q) : Wp d y pc l (v :: st) m Q :=
  Wp.step hM ha.1 rfl rfl (fun lc h => ⟨lc, h, by rw [← ha.2]; simp only [cStep, hv, cond_true]; rfl⟩) K
theorem w_getf {k z : Nat} {v : Int32} (hM : tMs[y]? = some M) (ha : dAt M pc q (.getfield z) a b e) (hf : dFk k a b = some none) (hv : m.1 k b = v) (K : Wp d y q l (.inl v :: st) m Q) : Wp d y pc l (.inr (.inr (some k)) :: st) m Q := by
  obtain ⟨fs, h1, h2⟩ := dFk_ok hf
  refine Wp.step hM ha.1 rfl rfl (fun lc h => ⟨lc, h, ?_⟩) K
  rw [← ha.2]
  simp only [cStep, dHp_at, h1, Option.map_some, dC, Nat.beq_refl, cond_true, dFs_at, h2, dFv, Nat.zero_add]
  rw [hv]; rfl
theorem w_getr {k z : Nat} {r : Nat} (hM : tMs[y]? = some M) (ha : dAt M pc q (.getfield z) a b e) (hf : dFk k a b = some (some (some r))) (K : Wp d y q l (.inr (.inr (some r)) :: st) m Q) : Wp d y pc l (.inr (.inr (some k)) :: st) m Q := by
  obtain ⟨fs, h1, h2⟩ := dFk_ok hf
  refine Wp.step hM ha.1 rfl rfl (fun lc h => ⟨lc, h, ?_⟩) K
  rw [← ha.2]
  simp only [cStep, dHp_at, h1, Option.map_some, dC, Nat.beq_refl, cond_true, dFs_at, h2, dFv, Nat.zero_add]
  rfl
theorem w_gett {k z : Nat} (hM : tMs[y]? = some M) (ha : dAt M pc q (.getfield z) a b e) (hf : dFk k a b = some (some none)) (K : Wp d y q l (.inr (.inr (cond m.2.2 (some 1) none)) :: st) m Q) : Wp d y pc l (.inr (.inr (some k)) :: st) m Q := by
  obtain ⟨fs, h1, h2⟩ := dFk_ok hf
  refine Wp.step hM ha.1 rfl rfl (fun lc h => ⟨lc, h, ?_⟩) K
  rw [← ha.2]
  simp only [cStep, dHp_at, h1, Option.map_some, dC, Nat.beq_refl, cond_true, dFs_at, h2, dFv, Nat.zero_add]
  rfl
theorem w_gettT {k z : Nat} (hM : tMs[y]? = some M) (ha : dAt M pc q (.getfield z) a b e) (hf : dFk k a b = some (some none)) (ht : m.2.2 = true) (K : Wp d y q l (.inr (.inr (some 1)) :: st) m Q) : Wp d y pc l (.inr (.inr (some k)) :: st) m Q := by
  obtain ⟨fs, h1, h2⟩ := dFk_ok hf
  refine Wp.step hM ha.1 rfl rfl (fun lc h => ⟨lc, h, ?_⟩) K
  rw [← ha.2]
  simp only [cStep, dHp_at, h1, Option.map_some, dC, Nat.beq_refl, cond_true, dFs_at, h2, dFv, Nat.zero_add]
  rw [ht]; rfl
theorem w_putf {k z : Nat} {x : Int32} {m' : dM} (hM : tMs[y]? = some M) (ha : dAt M pc q (.putfield z) a b e) (hf : dFk k a b = some none) (he : e = 0) (hm : dSet m k b x = m') (K : Wp d y q l st m' Q) : Wp d y pc l (.inl x :: .inr (.inr (some k)) :: st) m Q := by
  obtain ⟨fs, h1, h2⟩ := dFk_ok hf
  subst hm
  refine Wp.step hM ha.1 rfl rfl (fun lc h => ⟨lc, h, ?_⟩) K
  rw [← ha.2]
  have hb : Nat.blt b (dFs m k 0 fs).length = true := by
    have : (dFs m k 0 fs)[b]? = some (.inl (m.1 k b)) := by rw [dFs_at, h2]; simp [dFv]
    exact Nat.ble_eq_true_of_le (List.getElem?_eq_some_iff.mp this).1
  have hc : (Nat.beq e 0 || (Nat.beq e 2 && cB1 x)) = true := by simp only [he, Nat.beq_refl, Bool.true_or]
  simp only [cStep, dHp_at, h1, Option.map_some, dC, Nat.beq_refl, hb, hc, Bool.and_true, cond_true]
  rw [dHp_set (m' := dSet m k b x) (fun j hj => ⟨dSet_k hj, rfl⟩) rfl (fun s hs => ?_)]
  · rfl
  · rw [h1] at hs
    cases hs
    simp only [dC, dFs_set h2]
theorem w_putz {k z : Nat} {x : Int32} {m' : dM} (hM : tMs[y]? = some M) (ha : dAt M pc q (.putfield z) a b e) (hf : dFk k a b = some none) (he : e = 2) (hx : x = 0 ∨ x = 1) (hm : dSet m k b x = m') (K : Wp d y q l st m' Q) : Wp d y pc l (.inl x :: .inr (.inr (some k)) :: st) m Q := by
  obtain ⟨fs, h1, h2⟩ := dFk_ok hf
  subst hm
  refine Wp.step hM ha.1 rfl rfl (fun lc h => ⟨lc, h, ?_⟩) K
  rw [← ha.2]
  have hb : Nat.blt b (dFs m k 0 fs).length = true := by
    have : (dFs m k 0 fs)[b]? = some (.inl (m.1 k b)) := by rw [dFs_at, h2]; simp [dFv]
    exact Nat.ble_eq_true_of_le (List.getElem?_eq_some_iff.mp this).1
  have hc : (Nat.beq e 0 || (Nat.beq e 2 && cB1 x)) = true := by simp only [he, Nat.beq_refl, Bool.true_and, cB1, decide_eq_true hx, Bool.or_true]
  simp only [cStep, dHp_at, h1, Option.map_some, dC, Nat.beq_refl, hb, hc, Bool.and_true, cond_true]
  rw [dHp_set (m' := dSet m k b x) (fun j hj => ⟨dSet_k hj, rfl⟩) rfl (fun s hs => ?_)]
  · rfl
  · rw [h1] at hs
    cases hs
    simp only [dC, dFs_set h2]
theorem w_putt {k z : Nat} (hM : tMs[y]? = some M) (ha : dAt M pc q (.putfield z) a b e) (hk : k = 38) (hb : b = 4) (hA : a = 8) (he : e = 5) (K : Wp d y q l st (dTx m) Q) : Wp d y pc l (.inr (.inr (some 1)) :: .inr (.inr (some k)) :: st) m Q := by
  subst hk
  subst hb
  subst hA
  subst he
  refine Wp.step hM ha.1 rfl rfl (fun lc h => ⟨lc, h, ?_⟩) K
  rw [← ha.2]
  rfl
theorem d_cix {x : Int32} {n : Nat} (h : 0 ≤ x.toInt ∧ x.toInt < n) : cIx x n = true := decide_eq_true h
theorem w_iald {k n j : Nat} {x v : Int32} (hM : tMs[y]? = some M) (ha : dAt M pc q .iaload a b e) (hk : dAk k = some (0, n)) (hi : 0 ≤ x.toInt ∧ x.toInt < n) (hj : x.toNatClampNeg = j) (hv : m.1 k j = v) (K : Wp d y q l (.inl v :: st) m Q) : Wp d y pc l (.inl x :: .inr (.inr (some k)) :: st) m Q := by
  refine Wp.step hM ha.1 rfl rfl (fun lc h => ⟨lc, h, ?_⟩) K
  rw [← ha.2]
  simp only [cStep, dHp_at, dAk_ok hk, Option.map_some, dC, Nat.beq_refl, d_cix hi, Bool.and_true, Bool.true_or, Bool.or_true, cond_true, hj, hv]
  rfl
theorem w_bald {k n j : Nat} {x v : Int32} (hM : tMs[y]? = some M) (ha : dAt M pc q .baload a b e) (hk : dAk k = some (1, n)) (hi : 0 ≤ x.toInt ∧ x.toInt < n) (hj : x.toNatClampNeg = j) (hv : m.1 k j = v) (K : Wp d y q l (.inl v :: st) m Q) : Wp d y pc l (.inl x :: .inr (.inr (some k)) :: st) m Q := by
  refine Wp.step hM ha.1 rfl rfl (fun lc h => ⟨lc, h, ?_⟩) K
  rw [← ha.2]
  simp only [cStep, dHp_at, dAk_ok hk, Option.map_some, dC, Nat.beq_refl, d_cix hi, Bool.and_true, Bool.true_or, Bool.or_true, cond_true, hj, hv]
  rfl
theorem w_zald {k n j : Nat} {x v : Int32} (hM : tMs[y]? = some M) (ha : dAt M pc q .baload a b e) (hk : dAk k = some (2, n)) (hi : 0 ≤ x.toInt ∧ x.toInt < n) (hj : x.toNatClampNeg = j) (hv : m.1 k j = v) (K : Wp d y q l (.inl v :: st) m Q) : Wp d y pc l (.inl x :: .inr (.inr (some k)) :: st) m Q := by
  refine Wp.step hM ha.1 rfl rfl (fun lc h => ⟨lc, h, ?_⟩) K
  rw [← ha.2]
  simp only [cStep, dHp_at, dAk_ok hk, Option.map_some, dC, Nat.beq_refl, d_cix hi, Bool.and_true, Bool.true_or, Bool.or_true, cond_true, hj, hv]
  rfl
theorem w_iast {k n j : Nat} {x z : Int32} {m' : dM} (hM : tMs[y]? = some M) (ha : dAt M pc q .iastore a b e) (hk : dAk k = some (0, n)) (hi : 0 ≤ x.toInt ∧ x.toInt < n) (hj : x.toNatClampNeg = j) (hm : dSet m k j (z) = m') (K : Wp d y q l st m' Q) : Wp d y pc l (.inl z :: .inl x :: .inr (.inr (some k)) :: st) m Q := by
  subst hm
  subst hj
  refine Wp.step hM ha.1 rfl rfl (fun lc h => ⟨lc, h, ?_⟩) K
  rw [← ha.2]
  simp only [cStep, dHp_at, dAk_ok hk, Option.map_some, dC, Nat.beq_refl, d_cix hi, Bool.and_true, Bool.true_or, Bool.or_true, cond_true]
  rw [dHp_set (m' := dSet m k x.toNatClampNeg (z)) (fun j hj => ⟨dSet_k hj, rfl⟩) rfl (fun s hs => ?_)]
  · rfl
  · rw [dAk_ok hk] at hs
    cases hs
    simp only [dC, dSet_f]
    all_goals rfl
theorem w_bast {k n j : Nat} {x z : Int32} {m' : dM} (hM : tMs[y]? = some M) (ha : dAt M pc q .bastore a b e) (hk : dAk k = some (1, n)) (hi : 0 ≤ x.toInt ∧ x.toInt < n) (hj : x.toNatClampNeg = j) (hm : dSet m k j (z.toInt8.toInt32) = m') (K : Wp d y q l st m' Q) : Wp d y pc l (.inl z :: .inl x :: .inr (.inr (some k)) :: st) m Q := by
  subst hm
  subst hj
  refine Wp.step hM ha.1 rfl rfl (fun lc h => ⟨lc, h, ?_⟩) K
  rw [← ha.2]
  simp only [cStep, dHp_at, dAk_ok hk, Option.map_some, dC, Nat.beq_refl, d_cix hi, Bool.and_true, Bool.true_or, Bool.or_true, cond_true]
  rw [dHp_set (m' := dSet m k x.toNatClampNeg (z.toInt8.toInt32)) (fun j hj => ⟨dSet_k hj, rfl⟩) rfl (fun s hs => ?_)]
  · rfl
  · rw [dAk_ok hk] at hs
    cases hs
    simp only [dC, dSet_f]
    all_goals rfl
theorem w_zast {k n j : Nat} {x z : Int32} {m' : dM} (hM : tMs[y]? = some M) (ha : dAt M pc q .bastore a b e) (hk : dAk k = some (2, n)) (hz : z = 0 ∨ z = 1) (hi : 0 ≤ x.toInt ∧ x.toInt < n) (hj : x.toNatClampNeg = j) (hm : dSet m k j (z) = m') (K : Wp d y q l st m' Q) : Wp d y pc l (.inl z :: .inl x :: .inr (.inr (some k)) :: st) m Q := by
  subst hm
  subst hj
  refine Wp.step hM ha.1 rfl rfl (fun lc h => ⟨lc, h, ?_⟩) K
  rw [← ha.2]
  simp only [cStep, dHp_at, dAk_ok hk, Option.map_some, dC, Nat.beq_refl, d_cix hi, Bool.and_true, Bool.true_or, Bool.or_true, cond_true, cB1, decide_eq_true hz, Bool.true_and]
  rw [dHp_set (m' := dSet m k x.toNatClampNeg (z)) (fun j hj => ⟨dSet_k hj, rfl⟩) rfl (fun s hs => ?_)]
  · rfl
  · rw [dAk_ok hk] at hs
    cases hs
    simp only [dC, dSet_f]
    all_goals rfl
theorem w_lald {k n j : Nat} {x : Int32} {v : Int64} (hM : tMs[y]? = some M) (ha : dAt M pc q .laload a b e) (hk : dLk k = some n) (hi : 0 ≤ x.toInt ∧ x.toInt < n) (hj : x.toNatClampNeg = j) (hv : dLg m k j = v) (K : Wp d y q l (.inr (.inl v) :: st) m Q) : Wp d y pc l (.inl x :: .inr (.inr (some k)) :: st) m Q := by
  refine Wp.step hM ha.1 rfl rfl (fun lc h => ⟨lc, h, ?_⟩) K
  rw [← ha.2]
  simp only [cStep, dHp_at, dLk_ok hk, Option.map_some, dC, d_cix hi, cond_true, hj, hv]
  rfl
theorem w_last {k n j : Nat} {x : Int32} {z : Int64} {m' : dM} (hM : tMs[y]? = some M) (ha : dAt M pc q .lastore a b e) (hk : dLk k = some n) (hi : 0 ≤ x.toInt ∧ x.toInt < n) (hj : x.toNatClampNeg = j) (hm : dSetL m k j z = m') (K : Wp d y q l st m' Q) (hK : (Nat.beq k 42 || Nat.beq k 77) = false := by rfl) : Wp d y pc l (.inr (.inl z) :: .inl x :: .inr (.inr (some k)) :: st) m Q := by
  subst hm
  subst hj
  refine Wp.step hM ha.1 rfl rfl (fun lc h => ⟨lc, h, ?_⟩) K
  rw [← ha.2]
  simp only [cStep, dHp_at, dLk_ok hk, Option.map_some, dC, d_cix hi, cond_true]
  rw [dHp_set (m := m) (m' := dSetL m k x.toNatClampNeg z) (fun j hj => ⟨rfl, ?_⟩) rfl (fun s hs => ?_)]
  · rfl
  · funext b
    simp [dSetL, d_beq hj]
  · rw [dLk_ok hk] at hs
    cases hs
    simp only [dC]
    congr 4
    funext b
    unfold vp_updL dLg
    rw [hK]
    by_cases hb : b = x.toNatClampNeg
    · subst hb; simp [dSetL]
    · simp [dSetL, d_beq hb, hb]
def dRs (rs : List Nat) (i : Int) (X : Int) (K : Nat → Prop) : Prop := match rs with
  | [] => True
  | r :: rs => (X = i → K r) ∧ dRs rs (i + 1) X K
theorem dRs_ok : ∀ {rs : List Nat} {i X : Int} {K : Nat → Prop}, dRs rs i X K → ∀ (j : Nat) (r : Nat), rs[j]? = some r → X = i + j → K r
  | [], i, X, K, h, j, r, hj, hx => by simp at hj
  | r0 :: rs, i, X, K, h, 0, r, hj, hx => by
    simp at hj
    subst hj
    exact h.1 (by simpa using hx)
  | r0 :: rs, i, X, K, h, j + 1, r, hj, hx => dRs_ok h.2 j r (by simpa using hj) (by rw [hx]; push_cast; omega)
theorem w_aald {k : Nat} {rs : List Nat} {x : Int32} {X : Int} (hM : tMs[y]? = some M) (ha : dAt M pc q .aaload a b e) (hk : dRk k = some rs) (hX : x.toInt = X) (hi : 0 ≤ X ∧ X < rs.length) (K : dRs rs 0 X (fun r => Wp d y q l (.inr (.inr (some r)) :: st) m Q)) : Wp d y pc l (.inl x :: .inr (.inr (some k)) :: st) m Q := by
  have hc : x.toNatClampNeg < rs.length := by rw [Int32.toNatClampNeg, hX]; omega
  have hr : rs[x.toNatClampNeg]? = some rs[x.toNatClampNeg] := List.getElem?_eq_getElem hc
  have K := dRs_ok K x.toNatClampNeg _ hr (by rw [Int32.toNatClampNeg, hX]; omega)
  refine Wp.step hM ha.1 rfl rfl (fun lc h => ⟨lc, h, ?_⟩) K
  rw [← ha.2]
  subst hX
  simp only [cStep, dHp_at, dRk_ok hk, Option.map_some, dC, d_cix hi, cond_true, hr]
  rfl
theorem w_alen {k n t : Nat} {x : Int32} (hM : tMs[y]? = some M) (ha : dAt M pc q .arraylength a b e) (hk : dAk k = some (t, n)) (hx : Int32.ofNat n = x) (K : Wp d y q l (.inl x :: st) m Q) : Wp d y pc l (.inr (.inr (some k)) :: st) m Q := by
  refine Wp.step hM ha.1 rfl rfl (fun lc h => ⟨lc, h, ?_⟩) K
  rw [← ha.2]
  simp only [cStep, dHp_at, dAk_ok hk, Option.map_some, dC, hx]
  rfl
theorem w_alenL {k n : Nat} {x : Int32} (hM : tMs[y]? = some M) (ha : dAt M pc q .arraylength a b e) (hk : dLk k = some n) (hx : Int32.ofNat n = x) (K : Wp d y q l (.inl x :: st) m Q) : Wp d y pc l (.inr (.inr (some k)) :: st) m Q := by
  refine Wp.step hM ha.1 rfl rfl (fun lc h => ⟨lc, h, ?_⟩) K
  rw [← ha.2]
  simp only [cStep, dHp_at, dLk_ok hk, Option.map_some, dC, hx]
  rfl
theorem w_goto {off : Int} (hM : tMs[y]? = some M) (ha : ∃ c len, eAt M.1 pc = some (pc, .goto off, len, q, b, c, e)) (K : Wp d y q l st m Q) : Wp d y pc l st m Q :=
  Wp.step hM ha rfl rfl (fun lc h => ⟨lc, h, rfl⟩) K
theorem w_icmp_eq {off : Int} {x z : Int32} {X Y : Int} (hM : tMs[y]? = some M) (ha : dAt M pc q (.if_icmp .eq off) a b e) (hx : x.toInt = X) (hz : z.toInt = Y) (K1 : X = Y → Wp d y a l st m Q) (K2 : X ≠ Y → Wp d y q l st m Q) : Wp d y pc l (.inl z :: .inl x :: st) m Q := by
  subst hx
  subst hz
  by_cases hc : cHd .eq x z = true
  · refine Wp.step hM ha.1 rfl rfl (fun lc h => ⟨lc, h, ?_⟩) (K1 (of_decide_eq_true hc))
    simp only [cStep, hc, cond_true]
  · have hc : cHd .eq x z = false := by simpa using hc
    refine Wp.step hM ha.1 rfl rfl (fun lc h => ⟨lc, h, ?_⟩) (K2 (by have := of_decide_eq_false hc; omega))
    rw [← ha.2]
    simp only [cStep, hc, cond_false]
    rfl
theorem w_if_eq {off : Int} {x : Int32} {X : Int} (hM : tMs[y]? = some M) (ha : dAt M pc q (.ifCond .eq off) a b e) (hx : x.toInt = X) (K1 : X = 0 → Wp d y a l st m Q) (K2 : X ≠ 0 → Wp d y q l st m Q) : Wp d y pc l (.inl x :: st) m Q := by
  subst hx
  have e0 : (0 : Int32).toInt = 0 := rfl
  by_cases hc : cHd .eq x 0 = true
  · refine Wp.step hM ha.1 rfl rfl (fun lc h => ⟨lc, h, ?_⟩) (K1 (by have := of_decide_eq_true hc; omega))
    simp only [cStep, hc, cond_true]
  · have hc : cHd .eq x 0 = false := by simpa using hc
    refine Wp.step hM ha.1 rfl rfl (fun lc h => ⟨lc, h, ?_⟩) (K2 (by have := of_decide_eq_false hc; omega))
    rw [← ha.2]
    simp only [cStep, hc, cond_false]
    rfl
theorem w_icmp_ne {off : Int} {x z : Int32} {X Y : Int} (hM : tMs[y]? = some M) (ha : dAt M pc q (.if_icmp .ne off) a b e) (hx : x.toInt = X) (hz : z.toInt = Y) (K1 : X ≠ Y → Wp d y a l st m Q) (K2 : X = Y → Wp d y q l st m Q) : Wp d y pc l (.inl z :: .inl x :: st) m Q := by
  subst hx
  subst hz
  by_cases hc : cHd .ne x z = true
  · refine Wp.step hM ha.1 rfl rfl (fun lc h => ⟨lc, h, ?_⟩) (K1 (of_decide_eq_true hc))
    simp only [cStep, hc, cond_true]
  · have hc : cHd .ne x z = false := by simpa using hc
    refine Wp.step hM ha.1 rfl rfl (fun lc h => ⟨lc, h, ?_⟩) (K2 (by have := of_decide_eq_false hc; omega))
    rw [← ha.2]
    simp only [cStep, hc, cond_false]
    rfl
theorem w_if_ne {off : Int} {x : Int32} {X : Int} (hM : tMs[y]? = some M) (ha : dAt M pc q (.ifCond .ne off) a b e) (hx : x.toInt = X) (K1 : X ≠ 0 → Wp d y a l st m Q) (K2 : X = 0 → Wp d y q l st m Q) : Wp d y pc l (.inl x :: st) m Q := by
  subst hx
  have e0 : (0 : Int32).toInt = 0 := rfl
  by_cases hc : cHd .ne x 0 = true
  · refine Wp.step hM ha.1 rfl rfl (fun lc h => ⟨lc, h, ?_⟩) (K1 (by have := of_decide_eq_true hc; omega))
    simp only [cStep, hc, cond_true]
  · have hc : cHd .ne x 0 = false := by simpa using hc
    refine Wp.step hM ha.1 rfl rfl (fun lc h => ⟨lc, h, ?_⟩) (K2 (by have := of_decide_eq_false hc; omega))
    rw [← ha.2]
    simp only [cStep, hc, cond_false]
    rfl
theorem w_icmp_lt {off : Int} {x z : Int32} {X Y : Int} (hM : tMs[y]? = some M) (ha : dAt M pc q (.if_icmp .lt off) a b e) (hx : x.toInt = X) (hz : z.toInt = Y) (K1 : X < Y → Wp d y a l st m Q) (K2 : Y ≤ X → Wp d y q l st m Q) : Wp d y pc l (.inl z :: .inl x :: st) m Q := by
  subst hx
  subst hz
  by_cases hc : cHd .lt x z = true
  · refine Wp.step hM ha.1 rfl rfl (fun lc h => ⟨lc, h, ?_⟩) (K1 (of_decide_eq_true hc))
    simp only [cStep, hc, cond_true]
  · have hc : cHd .lt x z = false := by simpa using hc
    refine Wp.step hM ha.1 rfl rfl (fun lc h => ⟨lc, h, ?_⟩) (K2 (by have := of_decide_eq_false hc; omega))
    rw [← ha.2]
    simp only [cStep, hc, cond_false]
    rfl
theorem w_if_lt {off : Int} {x : Int32} {X : Int} (hM : tMs[y]? = some M) (ha : dAt M pc q (.ifCond .lt off) a b e) (hx : x.toInt = X) (K1 : X < 0 → Wp d y a l st m Q) (K2 : 0 ≤ X → Wp d y q l st m Q) : Wp d y pc l (.inl x :: st) m Q := by
  subst hx
  have e0 : (0 : Int32).toInt = 0 := rfl
  by_cases hc : cHd .lt x 0 = true
  · refine Wp.step hM ha.1 rfl rfl (fun lc h => ⟨lc, h, ?_⟩) (K1 (by have := of_decide_eq_true hc; omega))
    simp only [cStep, hc, cond_true]
  · have hc : cHd .lt x 0 = false := by simpa using hc
    refine Wp.step hM ha.1 rfl rfl (fun lc h => ⟨lc, h, ?_⟩) (K2 (by have := of_decide_eq_false hc; omega))
    rw [← ha.2]
    simp only [cStep, hc, cond_false]
    rfl
theorem w_icmp_ge {off : Int} {x z : Int32} {X Y : Int} (hM : tMs[y]? = some M) (ha : dAt M pc q (.if_icmp .ge off) a b e) (hx : x.toInt = X) (hz : z.toInt = Y) (K1 : Y ≤ X → Wp d y a l st m Q) (K2 : X < Y → Wp d y q l st m Q) : Wp d y pc l (.inl z :: .inl x :: st) m Q := by
  subst hx
  subst hz
  by_cases hc : cHd .ge x z = true
  · refine Wp.step hM ha.1 rfl rfl (fun lc h => ⟨lc, h, ?_⟩) (K1 (of_decide_eq_true hc))
    simp only [cStep, hc, cond_true]
  · have hc : cHd .ge x z = false := by simpa using hc
    refine Wp.step hM ha.1 rfl rfl (fun lc h => ⟨lc, h, ?_⟩) (K2 (by have := of_decide_eq_false hc; omega))
    rw [← ha.2]
    simp only [cStep, hc, cond_false]
    rfl
theorem w_if_ge {off : Int} {x : Int32} {X : Int} (hM : tMs[y]? = some M) (ha : dAt M pc q (.ifCond .ge off) a b e) (hx : x.toInt = X) (K1 : 0 ≤ X → Wp d y a l st m Q) (K2 : X < 0 → Wp d y q l st m Q) : Wp d y pc l (.inl x :: st) m Q := by
  subst hx
  have e0 : (0 : Int32).toInt = 0 := rfl
  by_cases hc : cHd .ge x 0 = true
  · refine Wp.step hM ha.1 rfl rfl (fun lc h => ⟨lc, h, ?_⟩) (K1 (by have := of_decide_eq_true hc; omega))
    simp only [cStep, hc, cond_true]
  · have hc : cHd .ge x 0 = false := by simpa using hc
    refine Wp.step hM ha.1 rfl rfl (fun lc h => ⟨lc, h, ?_⟩) (K2 (by have := of_decide_eq_false hc; omega))
    rw [← ha.2]
    simp only [cStep, hc, cond_false]
    rfl
theorem w_icmp_gt {off : Int} {x z : Int32} {X Y : Int} (hM : tMs[y]? = some M) (ha : dAt M pc q (.if_icmp .gt off) a b e) (hx : x.toInt = X) (hz : z.toInt = Y) (K1 : Y < X → Wp d y a l st m Q) (K2 : X ≤ Y → Wp d y q l st m Q) : Wp d y pc l (.inl z :: .inl x :: st) m Q := by
  subst hx
  subst hz
  by_cases hc : cHd .gt x z = true
  · refine Wp.step hM ha.1 rfl rfl (fun lc h => ⟨lc, h, ?_⟩) (K1 (of_decide_eq_true hc))
    simp only [cStep, hc, cond_true]
  · have hc : cHd .gt x z = false := by simpa using hc
    refine Wp.step hM ha.1 rfl rfl (fun lc h => ⟨lc, h, ?_⟩) (K2 (by have := of_decide_eq_false hc; omega))
    rw [← ha.2]
    simp only [cStep, hc, cond_false]
    rfl
theorem w_if_gt {off : Int} {x : Int32} {X : Int} (hM : tMs[y]? = some M) (ha : dAt M pc q (.ifCond .gt off) a b e) (hx : x.toInt = X) (K1 : 0 < X → Wp d y a l st m Q) (K2 : X ≤ 0 → Wp d y q l st m Q) : Wp d y pc l (.inl x :: st) m Q := by
  subst hx
  have e0 : (0 : Int32).toInt = 0 := rfl
  by_cases hc : cHd .gt x 0 = true
  · refine Wp.step hM ha.1 rfl rfl (fun lc h => ⟨lc, h, ?_⟩) (K1 (by have := of_decide_eq_true hc; omega))
    simp only [cStep, hc, cond_true]
  · have hc : cHd .gt x 0 = false := by simpa using hc
    refine Wp.step hM ha.1 rfl rfl (fun lc h => ⟨lc, h, ?_⟩) (K2 (by have := of_decide_eq_false hc; omega))
    rw [← ha.2]
    simp only [cStep, hc, cond_false]
    rfl
theorem w_icmp_le {off : Int} {x z : Int32} {X Y : Int} (hM : tMs[y]? = some M) (ha : dAt M pc q (.if_icmp .le off) a b e) (hx : x.toInt = X) (hz : z.toInt = Y) (K1 : X ≤ Y → Wp d y a l st m Q) (K2 : Y < X → Wp d y q l st m Q) : Wp d y pc l (.inl z :: .inl x :: st) m Q := by
  subst hx
  subst hz
  by_cases hc : cHd .le x z = true
  · refine Wp.step hM ha.1 rfl rfl (fun lc h => ⟨lc, h, ?_⟩) (K1 (of_decide_eq_true hc))
    simp only [cStep, hc, cond_true]
  · have hc : cHd .le x z = false := by simpa using hc
    refine Wp.step hM ha.1 rfl rfl (fun lc h => ⟨lc, h, ?_⟩) (K2 (by have := of_decide_eq_false hc; omega))
    rw [← ha.2]
    simp only [cStep, hc, cond_false]
    rfl
theorem w_if_le {off : Int} {x : Int32} {X : Int} (hM : tMs[y]? = some M) (ha : dAt M pc q (.ifCond .le off) a b e) (hx : x.toInt = X) (K1 : X ≤ 0 → Wp d y a l st m Q) (K2 : 0 < X → Wp d y q l st m Q) : Wp d y pc l (.inl x :: st) m Q := by
  subst hx
  have e0 : (0 : Int32).toInt = 0 := rfl
  by_cases hc : cHd .le x 0 = true
  · refine Wp.step hM ha.1 rfl rfl (fun lc h => ⟨lc, h, ?_⟩) (K1 (by have := of_decide_eq_true hc; omega))
    simp only [cStep, hc, cond_true]
  · have hc : cHd .le x 0 = false := by simpa using hc
    refine Wp.step hM ha.1 rfl rfl (fun lc h => ⟨lc, h, ?_⟩) (K2 (by have := of_decide_eq_false hc; omega))
    rw [← ha.2]
    simp only [cStep, hc, cond_false]
    rfl
theorem w_ifnull {off : Int} {k : Nat} {t : Bool} (hM : tMs[y]? = some M) (ha : dAt M pc q (.ifnull off) a b e) (K1 : t = false → Wp d y a l st m Q) (K2 : t = true → Wp d y q l st m Q) : Wp d y pc l (.inr (.inr (cond t (some k) none)) :: st) m Q := by
  cases t with
  | false => exact Wp.step hM ha.1 rfl rfl (fun lc h => ⟨lc, h, rfl⟩) (K1 rfl)
  | true => exact Wp.step hM ha.1 rfl rfl (fun lc h => ⟨lc, h, by rw [← ha.2]; rfl⟩) (K2 rfl)
def dTs (pc : Nat) (offs : List Int) (i : Int) (X : Int) (K : Nat → Prop) : Prop := match offs with
  | [] => True
  | o :: os => (X = i → K ((pc : Int) + o).toNat) ∧ dTs pc os (i + 1) X K
theorem dTs_ok {pc : Nat} : ∀ {os : List Int} {i X : Int} {K : Nat → Prop}, dTs pc os i X K → ∀ (j : Nat) (o : Int), os[j]? = some o → X = i + j → K ((pc : Int) + o).toNat
  | [], i, X, K, h, j, r, hj, hx => by simp at hj
  | r0 :: rs, i, X, K, h, 0, r, hj, hx => by
    simp at hj
    subst hj
    exact h.1 (by simpa using hx)
  | r0 :: rs, i, X, K, h, j + 1, r, hj, hx => dTs_ok h.2 j r (by simpa using hj) (by rw [hx]; push_cast; omega)
def dPos (pc : Nat) (dflt : Int) (offs : List Int) : Bool := decide (0 ≤ (pc : Int) + dflt) && offs.all (fun o => decide (0 ≤ (pc : Int) + o))
theorem w_tsw {dflt lo hi : Int} {offs : Array Int} {x : Int32} {X : Int} (hM : tMs[y]? = some M) (ha : ∃ c len, eAt M.1 pc = some (pc, .tableswitch dflt lo hi offs, len, a, b, c, e)) (hp : dPos pc dflt offs.toList = true) (hn : (offs.toList.length : Int) = hi - lo + 1) (hx : x.toInt = X) (K : dTs pc offs.toList lo X (fun t => Wp d y t l st m Q)) (K2 : X < lo ∨ hi < X → Wp d y ((pc : Int) + dflt).toNat l st m Q) : Wp d y pc l (.inl x :: st) m Q := by
  subst hx
  unfold dPos at hp
  rw [Bool.and_eq_true] at hp
  by_cases hc : lo ≤ x.toInt ∧ x.toInt ≤ hi
  · have hj : (x.toInt - lo).toNat < offs.toList.length := by omega
    have hr : offs.toList[(x.toInt - lo).toNat]? = some offs.toList[(x.toInt - lo).toNat] := List.getElem?_eq_getElem hj
    have K := dTs_ok K _ _ hr (by omega)
    have h0 := List.all_eq_true.mp hp.2 _ (List.mem_of_getElem? hr)
    refine Wp.step hM ha rfl rfl (fun lc h => ⟨lc, h, ?_⟩) K
    have hr2 : offs[(x.toInt - lo).toNat]? = some offs.toList[(x.toInt - lo).toNat] := by rw [← Array.getElem?_toList]; exact hr
    simp only [cStep, decide_eq_true hc.1, decide_eq_true hc.2, Bool.and_true, cond_true, hr2, h0]
  · refine Wp.step hM ha rfl rfl (fun lc h => ⟨lc, h, ?_⟩) (K2 (by omega))
    have h1 : (decide (lo ≤ x.toInt) && decide (x.toInt ≤ hi)) = false := by
      rw [Bool.and_eq_false_iff]
      by_cases h2 : lo ≤ x.toInt
      · exact Or.inr (decide_eq_false (fun h3 => hc ⟨h2, h3⟩))
      · exact Or.inl (decide_eq_false h2)
    simp only [cStep, h1, cond_false, hp.1, cond_true]
theorem Wp.ret {i : Instr} {v : Option cV} (hM : tMs[y]? = some M) (ha : dAt M pc q i a b e) (hv : ∀ (c len : Nat) (S : cS), S.2.2.1 = st → cRet M (pc, i, len, a, b, c, e) S = some v) (K : Q v m) : Wp d y pc l st m Q := by
  intro lc hlc
  obtain ⟨c, len, ha⟩ := ha.1
  exact ⟨v, m, cRun.ret hM ha (hv c len _ rfl) rfl, K⟩
theorem w_retv {Q : dM → Prop} (hM : tMs[y]? = some M) (ha : dAt M pc q .return_ a b e) (hr : M.2.2.2.2.1 = 0) (K : Q m) : Wp d y pc l [] m (qV Q) := by
  refine Wp.ret (v := none) hM ha (fun c len S hS => ?_) ⟨rfl, K⟩
  unfold cRet
  rw [hr, hS]
  rfl
theorem w_reti {Q : Int32 → dM → Prop} {x : Int32} (hM : tMs[y]? = some M) (ha : dAt M pc q .ireturn a b e) (hr : M.2.2.2.2.1 = 1) (K : Q x m) : Wp d y pc l [.inl x] m (qI Q) := by
  refine Wp.ret (v := some (.inl x)) hM ha (fun c len S hS => ?_) ⟨x, rfl, K⟩
  unfold cRet
  rw [hr, hS]
  rfl
theorem w_retz {Q : Int32 → dM → Prop} {x : Int32} (hM : tMs[y]? = some M) (ha : dAt M pc q .ireturn a b e) (hr : M.2.2.2.2.1 = 2) (hx : x = 0 ∨ x = 1) (K : Q x m) : Wp d y pc l [.inl x] m (qI Q) := by
  refine Wp.ret (v := some (.inl x)) hM ha (fun c len S hS => ?_) ⟨x, rfl, K⟩
  unfold cRet
  rw [hr, hS]
  simp only [cB1, decide_eq_true hx, cond_true]
theorem w_retl {Q : Int64 → dM → Prop} {x : Int64} (hM : tMs[y]? = some M) (ha : dAt M pc q .lreturn a b e) (hr : M.2.2.2.2.1 = 3) (K : Q x m) : Wp d y pc l [.inr (.inl x)] m (qL Q) := by
  refine Wp.ret (v := some (.inr (.inl x))) hM ha (fun c len S hS => ?_) ⟨x, rfl, K⟩
  unfold cRet
  rw [hr, hS]
  rfl
theorem w_reta {Q : dM → Prop} {k : Nat} (hM : tMs[y]? = some M) (ha : dAt M pc q .areturn a b e) (hr : M.2.2.2.2.1 = 4) (K : Q m) : Wp d y pc l [.inr (.inr (some k))] m (qR k Q) := by
  refine Wp.ret (v := some (.inr (.inr (some k)))) hM ha (fun c len S hS => ?_) ⟨rfl, K⟩
  unfold cRet
  rw [hr, hS]
  rfl
theorem Wp.blt {i : Instr} {st' : List cV} {m' : dM} (hM : tMs[y]? = some M) (ha : dAt M pc q i a b e) (hq : pc + 3 = q) (hc : cIsC i = true) (hr : cIsR i = false) (hk : Nat.ble 6 a = true) (hb : cBlt a (dHp m) st = some (st', dHp m')) (K : Wp (d + 1) y q l st' m' Q) : Wp (d + 1) y pc l st m Q := by
  intro lc hlc
  obtain ⟨c, len, ha⟩ := ha.1
  obtain ⟨v, m2, h3, h4⟩ := K lc hlc
  exact ⟨v, m2, cRun.blt hM ha (cRet_none hr) hc hk hb (by rw [← hq] at h3; exact h3), h4⟩
theorem w_min {z : Nat} {x w : Int32} (hM : tMs[y]? = some M) (ha : dAt M pc q (.invokestatic z) a b e) (hA : a = 7) (hn : Nat.ble (cCats st) 8 = true) (K : Wp (d + 1) y q l (.inl (if w < x then w else x) :: st) m Q) : Wp (d + 1) y pc l (.inl w :: .inl x :: st) m Q := by
  subst hA
  exact Wp.blt hM ha ha.2 rfl rfl rfl (by simp only [cBlt, hn, cond_true]) K
theorem w_max {z : Nat} {x w : Int32} (hM : tMs[y]? = some M) (ha : dAt M pc q (.invokestatic z) a b e) (hA : a = 8) (hn : Nat.ble (cCats st) 8 = true) (K : Wp (d + 1) y q l (.inl (if x < w then w else x) :: st) m Q) : Wp (d + 1) y pc l (.inl w :: .inl x :: st) m Q := by
  subst hA
  exact Wp.blt hM ha ha.2 rfl rfl rfl (by simp only [cBlt, hn, cond_true]) K
theorem w_copy {z k0 k1 n0 n1 : Nat} {n dp sp : Int32} {N D S : Int} (hM : tMs[y]? = some M) (ha : dAt M pc q (.invokestatic z) a b e) (hA : a = 9) (hn : Nat.ble (cCats st) 8 = true) (h0 : dAk k0 = some (0, n0)) (h1 : dAk k1 = some (0, n1)) (hne : Nat.beq k0 k1 = false) (hN : n.toInt = N) (hD : dp.toInt = D) (hS : sp.toInt = S) (hi : 0 ≤ N ∧ 0 ≤ D ∧ 0 ≤ S ∧ S + N ≤ n0 ∧ D + N ≤ n1) (K : Wp (d + 1) y q l st (dCpy m k0 S.toNat k1 D.toNat N.toNat) Q) : Wp (d + 1) y pc l (.inl n :: .inl dp :: .inr (.inr (some k1)) :: .inl sp :: .inr (.inr (some k0)) :: st) m Q := by
  subst hA
  subst hN
  subst hD
  subst hS
  refine Wp.blt (m' := dCpy m k0 sp.toInt.toNat k1 dp.toInt.toNat n.toInt.toNat) hM ha ha.2 rfl rfl rfl ?_ K
  have hx : (dHp m).set k1 (.inr (.inl (0, n1, va_cpy (m.1 k0) (m.1 k1) sp.toNatClampNeg dp.toNatClampNeg n.toNatClampNeg))) = dHp (dCpy m k0 sp.toInt.toNat k1 dp.toInt.toNat n.toInt.toNat) := by
    refine dHp_set (fun j hj => ⟨?_, rfl⟩) rfl (fun s hs => ?_)
    · funext b
      simp [dCpy, d_beq hj]
    · rw [dAk_ok h1] at hs
      cases hs
      simp only [dC]
      congr 4
      funext b
      simp only [dCpy, Nat.beq_refl, cond_true]
      rfl
  simp only [cBlt, hn, cond_true, cCpy, dHp_at, dAk_ok h0, dAk_ok h1, Option.map_some, dC, Nat.beq_refl, hne, Bool.not_false, Bool.and_true, Bool.true_and, decide_eq_true hi]
  rw [hx]
theorem w_call {i : Instr} {N : eM} {vs rest : List cV} {la : dL} {n : Nat} (hM : tMs[y]? = some M) (ha : dAt M pc q i a b e) (hq : pc + 3 = q) (hc : cIsC i = true) (hr : cIsR i = false) (hk : Nat.ble 6 a = false) (hN : tMs[b]? = some N) (hp : cPop st N.2.2.2.2.2 a = some (vs, rest)) (hn : (Nat.ble (cCats rest) 8 && Nat.beq N.2.2.1 0 && Nat.beq N.2.2.2.1 0 && Nat.ble (cCats vs) N.2.1) = true) (hv : a = 0 → ∃ k vs', vs = .inr (.inr (some k)) :: vs' ∧ dCk k e = true) (hla : dArgs vs ++ List.replicate n none = la) (K : Wp d b 0 la [] m (fun o m' => Wp (d + 1) y q l (o.toList ++ rest) m' Q)) : Wp (d + 1) y pc l st m Q := by
  intro lc hlc
  obtain ⟨c, len, ha⟩ := ha.1
  obtain ⟨v, m2, h3, h4⟩ := K (cArgs 0 vs) (fun i w hw => by
    rw [← hla] at hw
    have := dArgs_ok vs 0 i w n hw
    rwa [Nat.zero_add] at this)
  obtain ⟨v', m3, h5, h6⟩ := h4 lc hlc
  refine ⟨v', m3, cRun.call (N := N) (q := (vs, rest)) hM ha (cRet_none hr) hc hk hN hp ?_ h3 (by rw [← hq] at h5; exact h5), h6⟩
  rw [Bool.and_eq_true]
  refine ⟨hn, ?_⟩
  show cRcv (dHp m) a e vs = true
  unfold cRcv
  split
  · rename_i h0
    obtain ⟨k, vs', rfl, hk2⟩ := hv rfl
    simp only
    unfold dCk at hk2
    rw [dHp_at]
    split at hk2
    · rename_i o ho
      rw [ho]
      exact hk2
    · cases hk2
  · rfl
end DRU
/-! two runs of one thing end alike -/
theorem cRun.same {ms : List eM} {d d' y : Nat} {S : cS} {v v' : Option cV} {h h' : cH} (h1 : cRun ms d y S v h) (h2 : cRun ms d' y S v' h') : v = v' ∧ h = h' := by
  obtain ⟨n1, e1⟩ := h1.deep (Nat.le_max_left d d')
  obtain ⟨n2, e2⟩ := h2.deep (Nat.le_max_right d d')
  have e1 := cEx_le (Nat.le_max_left n1 n2) e1
  have e2 := cEx_le (Nat.le_max_right n1 n2) e2
  rw [e1] at e2
  cases e2
  exact ⟨rfl, rfl⟩
/-- alike in all cells -/
def Sm (m m' : dM) : Prop := dHp m = dHp m'
theorem Sm.row {m m' : dM} (h : Sm m m') {k : Nat} {a : Nat × Nat} (hk : dAk k = some a) : m.1 k = m'.1 k := by
  have e := congrArg (fun l : cH => l[k]?) h
  simp only [dHp_at, dAk_ok hk, Option.map_some, dC] at e
  simpa using e
theorem Sm.fld {m m' : dM} (h : Sm m m') {k a j : Nat} (hk : dFk k a j = some none) : m.1 k j = m'.1 k j := by
  obtain ⟨fs, h1, h2⟩ := dFk_ok hk
  have e := congrArg (fun l : cH => l[k]?) h
  simp only [dHp_at, h1, Option.map_some, dC] at e
  have e2 : dFs m k 0 fs = dFs m' k 0 fs := by simpa using e
  have e3 := congrArg (fun l : List cV => l[j]?) e2
  simp only [dFs_at, h2, Option.map_some, dFv, Nat.zero_add] at e3
  simpa using e3
theorem Wp.and {d d' y pc : Nat} {l : dL} {st : List cV} {m : dM} {Q Q' : Option cV → dM → Prop} (h : Wp d y pc l st m Q) (h' : Wp d' y pc l st m Q') : Wp d y pc l st m (fun v m1 => Q v m1 ∧ ∃ m2, Sm m1 m2 ∧ Q' v m2) := by
  intro lc hlc
  obtain ⟨v, m1, h1, h2⟩ := h lc hlc
  obtain ⟨v', m2, h3, h4⟩ := h' lc hlc
  obtain ⟨e1, e2⟩ := h1.same h3
  subst e1
  exact ⟨v, m1, h1, h2, m2, e2, h4⟩
end
section
/-! WHAT EACH METHOD COMES TO, block by block, printed by wip/p34/vc.py -/
abbrev oI (x : Int32) : Option cV := some (.inl x)
abbrev oL (x : Int64) : Option cV := some (.inr (.inl x))
abbrev oR (k : Nat) : Option cV := some (.inr (.inr (some k)))
theorem alen_10 : Int32.ofNat 10 = (10 : Int32) := by decide
theorem alen_1320 : Int32.ofNat 1320 = (1320 : Int32) := by decide
theorem alen_2000 : Int32.ofNat 2000 = (2000 : Int32) := by decide
theorem alen_406 : Int32.ofNat 406 = (406 : Int32) := by decide
theorem alen_7 : Int32.ofNat 7 = (7 : Int32) := by decide
theorem alen_8 : Int32.ofNat 8 = (8 : Int32) := by decide
theorem alen_9 : Int32.ofNat 9 = (9 : Int32) := by decide
theorem alen_99 : Int32.ofNat 99 = (99 : Int32) := by decide
theorem bipush_m2 : (Int8.ofInt (-2)).toInt32 = (-2 : Int32) := by decide
theorem bipush_10 : (Int8.ofInt (10)).toInt32 = (10 : Int32) := by decide
theorem bipush_100 : (Int8.ofInt (100)).toInt32 = (100 : Int32) := by decide
theorem bipush_11 : (Int8.ofInt (11)).toInt32 = (11 : Int32) := by decide
theorem bipush_12 : (Int8.ofInt (12)).toInt32 = (12 : Int32) := by decide
theorem bipush_122 : (Int8.ofInt (122)).toInt32 = (122 : Int32) := by decide
theorem bipush_13 : (Int8.ofInt (13)).toInt32 = (13 : Int32) := by decide
theorem bipush_14 : (Int8.ofInt (14)).toInt32 = (14 : Int32) := by decide
theorem bipush_15 : (Int8.ofInt (15)).toInt32 = (15 : Int32) := by decide
theorem bipush_16 : (Int8.ofInt (16)).toInt32 = (16 : Int32) := by decide
theorem bipush_19 : (Int8.ofInt (19)).toInt32 = (19 : Int32) := by decide
theorem bipush_20 : (Int8.ofInt (20)).toInt32 = (20 : Int32) := by decide
theorem bipush_21 : (Int8.ofInt (21)).toInt32 = (21 : Int32) := by decide
theorem bipush_22 : (Int8.ofInt (22)).toInt32 = (22 : Int32) := by decide
theorem bipush_23 : (Int8.ofInt (23)).toInt32 = (23 : Int32) := by decide
theorem bipush_24 : (Int8.ofInt (24)).toInt32 = (24 : Int32) := by decide
theorem bipush_25 : (Int8.ofInt (25)).toInt32 = (25 : Int32) := by decide
theorem bipush_26 : (Int8.ofInt (26)).toInt32 = (26 : Int32) := by decide
theorem bipush_30 : (Int8.ofInt (30)).toInt32 = (30 : Int32) := by decide
theorem bipush_31 : (Int8.ofInt (31)).toInt32 = (31 : Int32) := by decide
theorem bipush_32 : (Int8.ofInt (32)).toInt32 = (32 : Int32) := by decide
theorem bipush_33 : (Int8.ofInt (33)).toInt32 = (33 : Int32) := by decide
theorem bipush_40 : (Int8.ofInt (40)).toInt32 = (40 : Int32) := by decide
theorem bipush_41 : (Int8.ofInt (41)).toInt32 = (41 : Int32) := by decide
theorem bipush_42 : (Int8.ofInt (42)).toInt32 = (42 : Int32) := by decide
theorem bipush_43 : (Int8.ofInt (43)).toInt32 = (43 : Int32) := by decide
theorem bipush_45 : (Int8.ofInt (45)).toInt32 = (45 : Int32) := by decide
theorem bipush_47 : (Int8.ofInt (47)).toInt32 = (47 : Int32) := by decide
theorem bipush_48 : (Int8.ofInt (48)).toInt32 = (48 : Int32) := by decide
theorem bipush_55 : (Int8.ofInt (55)).toInt32 = (55 : Int32) := by decide
theorem bipush_56 : (Int8.ofInt (56)).toInt32 = (56 : Int32) := by decide
theorem bipush_57 : (Int8.ofInt (57)).toInt32 = (57 : Int32) := by decide
theorem bipush_58 : (Int8.ofInt (58)).toInt32 = (58 : Int32) := by decide
theorem bipush_59 : (Int8.ofInt (59)).toInt32 = (59 : Int32) := by decide
theorem bipush_6 : (Int8.ofInt (6)).toInt32 = (6 : Int32) := by decide
theorem bipush_60 : (Int8.ofInt (60)).toInt32 = (60 : Int32) := by decide
theorem bipush_61 : (Int8.ofInt (61)).toInt32 = (61 : Int32) := by decide
theorem bipush_63 : (Int8.ofInt (63)).toInt32 = (63 : Int32) := by decide
theorem bipush_7 : (Int8.ofInt (7)).toInt32 = (7 : Int32) := by decide
theorem bipush_72 : (Int8.ofInt (72)).toInt32 = (72 : Int32) := by decide
theorem bipush_8 : (Int8.ofInt (8)).toInt32 = (8 : Int32) := by decide
theorem bipush_9 : (Int8.ofInt (9)).toInt32 = (9 : Int32) := by decide
theorem bipush_97 : (Int8.ofInt (97)).toInt32 = (97 : Int32) := by decide
theorem bipush_99 : (Int8.ofInt (99)).toInt32 = (99 : Int32) := by decide
theorem iconst_m1 : Int32.ofInt (-1) = (-1 : Int32) := by decide
theorem iconst_m8 : Int32.ofInt (-8) = (-8 : Int32) := by decide
theorem iconst_0 : Int32.ofInt (0) = (0 : Int32) := by decide
theorem iconst_1 : Int32.ofInt (1) = (1 : Int32) := by decide
theorem iconst_2 : Int32.ofInt (2) = (2 : Int32) := by decide
theorem iconst_3 : Int32.ofInt (3) = (3 : Int32) := by decide
theorem iconst_4 : Int32.ofInt (4) = (4 : Int32) := by decide
theorem iconst_5 : Int32.ofInt (5) = (5 : Int32) := by decide
theorem lconst_0 : Int64.ofNat ((0 : Fin 2) : Nat) = (0 : Int64) := by decide
theorem ldc_1103515245 : Int32.ofNat 1103515245 = (1103515245 : Int32) := by decide
theorem ldc_1431655765 : Int32.ofNat 1431655765 = (1431655765 : Int32) := by decide
theorem ldc_2147483647 : Int32.ofNat 2147483647 = (2147483647 : Int32) := by decide
theorem ldc_252645135 : Int32.ofNat 252645135 = (252645135 : Int32) := by decide
theorem ldc_858993459 : Int32.ofNat 858993459 = (858993459 : Int32) := by decide
theorem ldc_99999 : Int32.ofNat 99999 = (99999 : Int32) := by decide
theorem ldc_999999 : Int32.ofNat 999999 = (999999 : Int32) := by decide
theorem ldc2_10 : Int64.ofNat 10 = (10 : Int64) := by decide
theorem ldc2_27 : Int64.ofNat 27 = (27 : Int64) := by decide
theorem sipush_m1000 : (Int16.ofInt (-1000)).toInt32 = (-1000 : Int32) := by decide
theorem sipush_m2000 : (Int16.ofInt (-2000)).toInt32 = (-2000 : Int32) := by decide
theorem sipush_12345 : (Int16.ofInt (12345)).toInt32 = (12345 : Int32) := by decide
theorem sipush_129 : (Int16.ofInt (129)).toInt32 = (129 : Int32) := by decide
theorem sipush_130 : (Int16.ofInt (130)).toInt32 = (130 : Int32) := by decide
theorem sipush_200 : (Int16.ofInt (200)).toInt32 = (200 : Int32) := by decide
theorem sipush_2000 : (Int16.ofInt (2000)).toInt32 = (2000 : Int32) := by decide
theorem sipush_201 : (Int16.ofInt (201)).toInt32 = (201 : Int32) := by decide
theorem sipush_2262 : (Int16.ofInt (2262)).toInt32 = (2262 : Int32) := by decide
theorem sipush_255 : (Int16.ofInt (255)).toInt32 = (255 : Int32) := by decide
theorem sipush_400 : (Int16.ofInt (400)).toInt32 = (400 : Int32) := by decide
theorem sipush_420 : (Int16.ofInt (420)).toInt32 = (420 : Int32) := by decide
theorem sipush_999 : (Int16.ofInt (999)).toInt32 = (999 : Int32) := by decide
theorem sipush_9999 : (Int16.ofInt (9999)).toInt32 = (9999 : Int32) := by decide
set_option maxRecDepth 20000 in
theorem hm1 : tMs[1]? = some tM1 := rfl
set_option maxRecDepth 20000 in
theorem hm2 : tMs[2]? = some tM2 := rfl
set_option maxRecDepth 20000 in
theorem hm3 : tMs[3]? = some tM3 := rfl
set_option maxRecDepth 20000 in
theorem hm4 : tMs[4]? = some tM4 := rfl
set_option maxRecDepth 20000 in
theorem hm5 : tMs[5]? = some tM5 := rfl
set_option maxRecDepth 20000 in
theorem hm6 : tMs[6]? = some tM6 := rfl
set_option maxRecDepth 20000 in
theorem hm7 : tMs[7]? = some tM7 := rfl
set_option maxRecDepth 20000 in
theorem hm9 : tMs[9]? = some tM9 := rfl
set_option maxRecDepth 20000 in
theorem hm10 : tMs[10]? = some tM10 := rfl
set_option maxRecDepth 20000 in
theorem hm11 : tMs[11]? = some tM11 := rfl
set_option maxRecDepth 20000 in
theorem hm12 : tMs[12]? = some tM12 := rfl
set_option maxRecDepth 20000 in
theorem hm13 : tMs[13]? = some tM13 := rfl
set_option maxRecDepth 20000 in
theorem hm14 : tMs[14]? = some tM14 := rfl
set_option maxRecDepth 20000 in
theorem hm15 : tMs[15]? = some tM15 := rfl
set_option maxRecDepth 20000 in
theorem hm16 : tMs[16]? = some tM16 := rfl
set_option maxRecDepth 20000 in
theorem hm17 : tMs[17]? = some tM17 := rfl
set_option maxRecDepth 20000 in
theorem hm18 : tMs[18]? = some tM18 := rfl
set_option maxRecDepth 20000 in
theorem hm19 : tMs[19]? = some tM19 := rfl
set_option maxRecDepth 20000 in
theorem hm20 : tMs[20]? = some tM20 := rfl
set_option maxRecDepth 20000 in
theorem hm21 : tMs[21]? = some tM21 := rfl
set_option maxRecDepth 20000 in
theorem hm22 : tMs[22]? = some tM22 := rfl
set_option maxRecDepth 20000 in
theorem hm23 : tMs[23]? = some tM23 := rfl
set_option maxRecDepth 20000 in
theorem hm24 : tMs[24]? = some tM24 := rfl
set_option maxRecDepth 20000 in
theorem hm25 : tMs[25]? = some tM25 := rfl
set_option maxRecDepth 20000 in
theorem hm26 : tMs[26]? = some tM26 := rfl
set_option maxRecDepth 20000 in
theorem hm27 : tMs[27]? = some tM27 := rfl
set_option maxRecDepth 20000 in
theorem hm28 : tMs[28]? = some tM28 := rfl
set_option maxRecDepth 20000 in
theorem hm29 : tMs[29]? = some tM29 := rfl
set_option maxRecDepth 20000 in
theorem hm30 : tMs[30]? = some tM30 := rfl
set_option maxRecDepth 20000 in
theorem hm31 : tMs[31]? = some tM31 := rfl
set_option maxRecDepth 20000 in
theorem hm32 : tMs[32]? = some tM32 := rfl
set_option maxRecDepth 20000 in
theorem hm33 : tMs[33]? = some tM33 := rfl
set_option maxRecDepth 20000 in
theorem hm34 : tMs[34]? = some tM34 := rfl
set_option maxRecDepth 20000 in
theorem hm35 : tMs[35]? = some tM35 := rfl
set_option maxRecDepth 20000 in
theorem hm36 : tMs[36]? = some tM36 := rfl
set_option maxRecDepth 20000 in
theorem hm37 : tMs[37]? = some tM37 := rfl
set_option maxRecDepth 20000 in
theorem hm38 : tMs[38]? = some tM38 := rfl
set_option maxRecDepth 20000 in
theorem hm39 : tMs[39]? = some tM39 := rfl
set_option maxRecDepth 20000 in
theorem hm40 : tMs[40]? = some tM40 := rfl
set_option maxRecDepth 20000 in
theorem hm41 : tMs[41]? = some tM41 := rfl
set_option maxRecDepth 20000 in
theorem hm42 : tMs[42]? = some tM42 := rfl
set_option maxRecDepth 20000 in
theorem hm43 : tMs[43]? = some tM43 := rfl
set_option maxRecDepth 20000 in
theorem hm44 : tMs[44]? = some tM44 := rfl
set_option maxRecDepth 20000 in
theorem hm45 : tMs[45]? = some tM45 := rfl
set_option maxRecDepth 20000 in
theorem hm46 : tMs[46]? = some tM46 := rfl
set_option maxRecDepth 20000 in
theorem hm47 : tMs[47]? = some tM47 := rfl
set_option maxRecDepth 20000 in
theorem hm48 : tMs[48]? = some tM48 := rfl
set_option maxRecDepth 20000 in
theorem hm49 : tMs[49]? = some tM49 := rfl
set_option maxRecDepth 20000 in
theorem hm50 : tMs[50]? = some tM50 := rfl
set_option maxRecDepth 20000 in
theorem hm51 : tMs[51]? = some tM51 := rfl
set_option maxRecDepth 20000 in
theorem hm52 : tMs[52]? = some tM52 := rfl
set_option maxRecDepth 20000 in
theorem hm53 : tMs[53]? = some tM53 := rfl
set_option maxRecDepth 20000 in
theorem hm54 : tMs[54]? = some tM54 := rfl
set_option maxRecDepth 20000 in
theorem hm55 : tMs[55]? = some tM55 := rfl
set_option maxRecDepth 20000 in
theorem hm56 : tMs[56]? = some tM56 := rfl
set_option maxRecDepth 20000 in
theorem hm57 : tMs[57]? = some tM57 := rfl
set_option maxRecDepth 20000 in
theorem hm58 : tMs[58]? = some tM58 := rfl
set_option maxRecDepth 20000 in
theorem hm59 : tMs[59]? = some tM59 := rfl
set_option maxRecDepth 20000 in
theorem hm60 : tMs[60]? = some tM60 := rfl
set_option maxRecDepth 20000 in
theorem hm61 : tMs[61]? = some tM61 := rfl
set_option maxRecDepth 20000 in
theorem hm62 : tMs[62]? = some tM62 := rfl
set_option maxRecDepth 20000 in
theorem hm63 : tMs[63]? = some tM63 := rfl
set_option maxRecDepth 20000 in
theorem hm64 : tMs[64]? = some tM64 := rfl
set_option maxRecDepth 20000 in
theorem hm65 : tMs[65]? = some tM65 := rfl
set_option maxRecDepth 20000 in
theorem hm66 : tMs[66]? = some tM66 := rfl
set_option maxRecDepth 20000 in
theorem hm67 : tMs[67]? = some tM67 := rfl
set_option maxRecDepth 20000 in
theorem hm68 : tMs[68]? = some tM68 := rfl
set_option maxRecDepth 20000 in
theorem hm69 : tMs[69]? = some tM69 := rfl
set_option maxRecDepth 20000 in
theorem hm70 : tMs[70]? = some tM70 := rfl
set_option maxRecDepth 20000 in
theorem hm71 : tMs[71]? = some tM71 := rfl
set_option maxRecDepth 20000 in
theorem hm72 : tMs[72]? = some tM72 := rfl
set_option maxRecDepth 20000 in
theorem hm73 : tMs[73]? = some tM73 := rfl
set_option maxRecDepth 20000 in
theorem hm74 : tMs[74]? = some tM74 := rfl
set_option maxRecDepth 20000 in
theorem hm75 : tMs[75]? = some tM75 := rfl
set_option maxRecDepth 20000 in
theorem hm76 : tMs[76]? = some tM76 := rfl
set_option maxRecDepth 20000 in
theorem hm77 : tMs[77]? = some tM77 := rfl
set_option maxRecDepth 20000 in
theorem hm78 : tMs[78]? = some tM78 := rfl
set_option maxRecDepth 20000 in
theorem hm79 : tMs[79]? = some tM79 := rfl
set_option maxRecDepth 20000 in
theorem hm80 : tMs[80]? = some tM80 := rfl
set_option maxRecDepth 20000 in
theorem hm81 : tMs[81]? = some tM81 := rfl
set_option maxRecDepth 20000 in
theorem hm82 : tMs[82]? = some tM82 := rfl
set_option maxRecDepth 20000 in
theorem hm83 : tMs[83]? = some tM83 := rfl
set_option maxRecDepth 20000 in
theorem hm84 : tMs[84]? = some tM84 := rfl
set_option maxRecDepth 20000 in
theorem hm85 : tMs[85]? = some tM85 := rfl
set_option maxRecDepth 20000 in
theorem hm86 : tMs[86]? = some tM86 := rfl
set_option maxRecDepth 20000 in
theorem hm87 : tMs[87]? = some tM87 := rfl
set_option maxRecDepth 20000 in
theorem hm88 : tMs[88]? = some tM88 := rfl
set_option maxRecDepth 20000 in
theorem hm89 : tMs[89]? = some tM89 := rfl
set_option maxRecDepth 20000 in
theorem hm90 : tMs[90]? = some tM90 := rfl
set_option maxRecDepth 20000 in
theorem hm91 : tMs[91]? = some tM91 := rfl
set_option maxRecDepth 20000 in
theorem hm92 : tMs[92]? = some tM92 := rfl
set_option maxRecDepth 20000 in
theorem hm93 : tMs[93]? = some tM93 := rfl
set_option maxRecDepth 20000 in
theorem hm94 : tMs[94]? = some tM94 := rfl
set_option maxRecDepth 20000 in
theorem hm95 : tMs[95]? = some tM95 := rfl
set_option maxRecDepth 20000 in
theorem hm96 : tMs[96]? = some tM96 := rfl
set_option maxRecDepth 20000 in
theorem hm97 : tMs[97]? = some tM97 := rfl
set_option maxRecDepth 20000 in
theorem hm98 : tMs[98]? = some tM98 := rfl
set_option maxRecDepth 20000 in
theorem hm99 : tMs[99]? = some tM99 := rfl
set_option maxRecDepth 20000 in
theorem hm100 : tMs[100]? = some tM100 := rfl
set_option maxRecDepth 20000 in
theorem hm101 : tMs[101]? = some tM101 := rfl
set_option maxRecDepth 20000 in
theorem hm102 : tMs[102]? = some tM102 := rfl
set_option maxRecDepth 20000 in
theorem hm103 : tMs[103]? = some tM103 := rfl
set_option maxRecDepth 20000 in
theorem hm104 : tMs[104]? = some tM104 := rfl
set_option maxRecDepth 20000 in
theorem hm105 : tMs[105]? = some tM105 := rfl
set_option maxRecDepth 20000 in
theorem hm106 : tMs[106]? = some tM106 := rfl
set_option maxRecDepth 20000 in
theorem hm107 : tMs[107]? = some tM107 := rfl
set_option maxRecDepth 20000 in
theorem hm108 : tMs[108]? = some tM108 := rfl
set_option maxRecDepth 20000 in
theorem hm109 : tMs[109]? = some tM109 := rfl
set_option maxRecDepth 20000 in
theorem hm110 : tMs[110]? = some tM110 := rfl
set_option maxRecDepth 20000 in
theorem hm111 : tMs[111]? = some tM111 := rfl
set_option maxRecDepth 20000 in
theorem hm112 : tMs[112]? = some tM112 := rfl
set_option maxRecDepth 20000 in
theorem hm113 : tMs[113]? = some tM113 := rfl
set_option maxRecDepth 20000 in
theorem hm115 : tMs[115]? = some tM115 := rfl
set_option maxRecDepth 20000 in
theorem hm116 : tMs[116]? = some tM116 := rfl
set_option maxRecDepth 20000 in
theorem hm117 : tMs[117]? = some tM117 := rfl
set_option maxRecDepth 20000 in
theorem hm118 : tMs[118]? = some tM118 := rfl
set_option maxRecDepth 20000 in
theorem hm119 : tMs[119]? = some tM119 := rfl
set_option maxRecDepth 20000 in
theorem hm120 : tMs[120]? = some tM120 := rfl
set_option maxRecDepth 20000 in
theorem hm121 : tMs[121]? = some tM121 := rfl
set_option maxRecDepth 20000 in
theorem hm122 : tMs[122]? = some tM122 := rfl
set_option maxRecDepth 20000 in
theorem hm123 : tMs[123]? = some tM123 := rfl
set_option maxRecDepth 20000 in
theorem hm124 : tMs[124]? = some tM124 := rfl
set_option maxRecDepth 20000 in
theorem hm125 : tMs[125]? = some tM125 := rfl
set_option maxRecDepth 20000 in
theorem hm126 : tMs[126]? = some tM126 := rfl
set_option maxRecDepth 20000 in
theorem hm127 : tMs[127]? = some tM127 := rfl
set_option maxRecDepth 20000 in
theorem hm128 : tMs[128]? = some tM128 := rfl
set_option maxRecDepth 20000 in
theorem hm129 : tMs[129]? = some tM129 := rfl
set_option maxRecDepth 20000 in
theorem hm130 : tMs[130]? = some tM130 := rfl
set_option maxRecDepth 20000 in
theorem hm131 : tMs[131]? = some tM131 := rfl
set_option maxRecDepth 20000 in
theorem hm132 : tMs[132]? = some tM132 := rfl
set_option maxRecDepth 20000 in
theorem hm133 : tMs[133]? = some tM133 := rfl
set_option maxRecDepth 20000 in
theorem hm134 : tMs[134]? = some tM134 := rfl
set_option maxRecDepth 20000 in
theorem hm135 : tMs[135]? = some tM135 := rfl
set_option maxRecDepth 20000 in
theorem hm136 : tMs[136]? = some tM136 := rfl
set_option maxRecDepth 20000 in
theorem hm137 : tMs[137]? = some tM137 := rfl
set_option maxRecDepth 20000 in
theorem hm139 : tMs[139]? = some tM139 := rfl
set_option maxRecDepth 20000 in
theorem hm140 : tMs[140]? = some tM140 := rfl
set_option maxRecDepth 20000 in
theorem hm141 : tMs[141]? = some tM141 := rfl
set_option maxRecDepth 20000 in
theorem hm142 : tMs[142]? = some tM142 := rfl
set_option maxRecDepth 20000 in
theorem hm143 : tMs[143]? = some tM143 := rfl
set_option maxRecDepth 20000 in
theorem hm144 : tMs[144]? = some tM144 := rfl
set_option maxRecDepth 20000 in
theorem hm145 : tMs[145]? = some tM145 := rfl
set_option maxRecDepth 20000 in
theorem hm146 : tMs[146]? = some tM146 := rfl
set_option maxRecDepth 20000 in
theorem hm147 : tMs[147]? = some tM147 := rfl
set_option maxRecDepth 20000 in
theorem hm148 : tMs[148]? = some tM148 := rfl
set_option maxRecDepth 20000 in
theorem hm149 : tMs[149]? = some tM149 := rfl
set_option maxRecDepth 20000 in
theorem hm150 : tMs[150]? = some tM150 := rfl
set_option maxRecDepth 20000 in
theorem hm151 : tMs[151]? = some tM151 := rfl
set_option maxRecDepth 20000 in
theorem hm152 : tMs[152]? = some tM152 := rfl
set_option maxRecDepth 20000 in
theorem hm154 : tMs[154]? = some tM154 := rfl
set_option maxRecDepth 20000 in
theorem hm155 : tMs[155]? = some tM155 := rfl
set_option maxRecDepth 20000 in
theorem hm156 : tMs[156]? = some tM156 := rfl
set_option maxRecDepth 20000 in
theorem hm157 : tMs[157]? = some tM157 := rfl
set_option maxRecDepth 20000 in
theorem hm158 : tMs[158]? = some tM158 := rfl
set_option maxRecDepth 20000 in
theorem hm159 : tMs[159]? = some tM159 := rfl
set_option maxRecDepth 20000 in
theorem hm160 : tMs[160]? = some tM160 := rfl
set_option maxRecDepth 20000 in
theorem hm161 : tMs[161]? = some tM161 := rfl
set_option maxRecDepth 20000 in
theorem hm162 : tMs[162]? = some tM162 := rfl
set_option maxRecDepth 20000 in
theorem hm163 : tMs[163]? = some tM163 := rfl
set_option maxRecDepth 20000 in
theorem hm164 : tMs[164]? = some tM164 := rfl
set_option maxRecDepth 20000 in
theorem hm165 : tMs[165]? = some tM165 := rfl
set_option maxRecDepth 20000 in
theorem hm166 : tMs[166]? = some tM166 := rfl
set_option maxRecDepth 20000 in
theorem hm167 : tMs[167]? = some tM167 := rfl
set_option maxRecDepth 20000 in
theorem hm169 : tMs[169]? = some tM169 := rfl
set_option maxRecDepth 20000 in
theorem hm170 : tMs[170]? = some tM170 := rfl
set_option maxRecDepth 20000 in
theorem hm171 : tMs[171]? = some tM171 := rfl
set_option maxRecDepth 20000 in
theorem hm172 : tMs[172]? = some tM172 := rfl
set_option maxRecDepth 20000 in
theorem hm173 : tMs[173]? = some tM173 := rfl
set_option maxRecDepth 20000 in
theorem hm174 : tMs[174]? = some tM174 := rfl
set_option maxRecDepth 20000 in
theorem hm176 : tMs[176]? = some tM176 := rfl
set_option maxRecDepth 20000 in
theorem hm177 : tMs[177]? = some tM177 := rfl
set_option maxRecDepth 20000 in
theorem hm178 : tMs[178]? = some tM178 := rfl
set_option maxRecDepth 20000 in
theorem hm179 : tMs[179]? = some tM179 := rfl
set_option maxRecDepth 20000 in
theorem hm180 : tMs[180]? = some tM180 := rfl
set_option maxRecDepth 20000 in
theorem hm181 : tMs[181]? = some tM181 := rfl
set_option maxRecDepth 20000 in
theorem hm182 : tMs[182]? = some tM182 := rfl
set_option maxRecDepth 20000 in
theorem hm183 : tMs[183]? = some tM183 := rfl
set_option maxRecDepth 20000 in
theorem hm185 : tMs[185]? = some tM185 := rfl
set_option maxRecDepth 20000 in
theorem hm186 : tMs[186]? = some tM186 := rfl
set_option maxRecDepth 20000 in
theorem hm187 : tMs[187]? = some tM187 := rfl
set_option maxRecDepth 20000 in
theorem hm188 : tMs[188]? = some tM188 := rfl
set_option maxRecDepth 20000 in
theorem hm189 : tMs[189]? = some tM189 := rfl
set_option maxRecDepth 20000 in
theorem hm190 : tMs[190]? = some tM190 := rfl
set_option maxRecDepth 20000 in
theorem hm191 : tMs[191]? = some tM191 := rfl
set_option maxRecDepth 20000 in
theorem hm192 : tMs[192]? = some tM192 := rfl
set_option maxRecDepth 20000 in
theorem hm193 : tMs[193]? = some tM193 := rfl
set_option maxRecDepth 20000 in
theorem hm194 : tMs[194]? = some tM194 := rfl
set_option maxRecDepth 20000 in
theorem hm195 : tMs[195]? = some tM195 := rfl
set_option maxRecDepth 20000 in
theorem hm196 : tMs[196]? = some tM196 := rfl
set_option maxRecDepth 20000 in
theorem hm197 : tMs[197]? = some tM197 := rfl
set_option maxRecDepth 20000 in
theorem hm198 : tMs[198]? = some tM198 := rfl
set_option maxRecDepth 20000 in
theorem hm199 : tMs[199]? = some tM199 := rfl
set_option maxRecDepth 20000 in
theorem hm201 : tMs[201]? = some tM201 := rfl
set_option maxRecDepth 20000 in
theorem hm202 : tMs[202]? = some tM202 := rfl
set_option maxRecDepth 20000 in
theorem hm203 : tMs[203]? = some tM203 := rfl
set_option maxRecDepth 20000 in
theorem hm204 : tMs[204]? = some tM204 := rfl
set_option maxRecDepth 20000 in
theorem hm205 : tMs[205]? = some tM205 := rfl
set_option maxRecDepth 20000 in
theorem hm206 : tMs[206]? = some tM206 := rfl
set_option maxRecDepth 20000 in
theorem hm208 : tMs[208]? = some tM208 := rfl
set_option maxRecDepth 20000 in
theorem hm209 : tMs[209]? = some tM209 := rfl
set_option maxRecDepth 20000 in
theorem hm210 : tMs[210]? = some tM210 := rfl
set_option maxRecDepth 20000 in
theorem hm211 : tMs[211]? = some tM211 := rfl
set_option maxRecDepth 20000 in
theorem hm212 : tMs[212]? = some tM212 := rfl
set_option maxRecDepth 20000 in
theorem hm213 : tMs[213]? = some tM213 := rfl
set_option maxRecDepth 20000 in
theorem hm215 : tMs[215]? = some tM215 := rfl
set_option maxRecDepth 20000 in
theorem hm216 : tMs[216]? = some tM216 := rfl
set_option maxRecDepth 20000 in
theorem hm217 : tMs[217]? = some tM217 := rfl
set_option maxRecDepth 20000 in
theorem hm218 : tMs[218]? = some tM218 := rfl
set_option maxRecDepth 20000 in
theorem hm219 : tMs[219]? = some tM219 := rfl
set_option maxRecDepth 20000 in
theorem hm220 : tMs[220]? = some tM220 := rfl
set_option maxRecDepth 20000 in
theorem hm221 : tMs[221]? = some tM221 := rfl
set_option maxRecDepth 20000 in
theorem hm222 : tMs[222]? = some tM222 := rfl
set_option maxRecDepth 20000 in
theorem hm223 : tMs[223]? = some tM223 := rfl
set_option maxRecDepth 20000 in
theorem hm224 : tMs[224]? = some tM224 := rfl
set_option maxRecDepth 20000 in
theorem hm225 : tMs[225]? = some tM225 := rfl
set_option maxRecDepth 20000 in
theorem hm226 : tMs[226]? = some tM226 := rfl
set_option maxRecDepth 20000 in
theorem hm227 : tMs[227]? = some tM227 := rfl
set_option maxRecDepth 20000 in
theorem hm228 : tMs[228]? = some tM228 := rfl
set_option maxRecDepth 20000 in
theorem hm229 : tMs[229]? = some tM229 := rfl
set_option maxRecDepth 20000 in
theorem hm231 : tMs[231]? = some tM231 := rfl
set_option maxRecDepth 20000 in
theorem hm232 : tMs[232]? = some tM232 := rfl
set_option maxRecDepth 20000 in
theorem hm233 : tMs[233]? = some tM233 := rfl
set_option maxRecDepth 20000 in
theorem hm234 : tMs[234]? = some tM234 := rfl
set_option maxRecDepth 20000 in
theorem hm235 : tMs[235]? = some tM235 := rfl
set_option maxRecDepth 20000 in
theorem hm236 : tMs[236]? = some tM236 := rfl
set_option maxRecDepth 20000 in
theorem hm238 : tMs[238]? = some tM238 := rfl
set_option maxRecDepth 20000 in
theorem hm239 : tMs[239]? = some tM239 := rfl
set_option maxRecDepth 20000 in
theorem hm240 : tMs[240]? = some tM240 := rfl
set_option maxRecDepth 20000 in
theorem hm241 : tMs[241]? = some tM241 := rfl
set_option maxRecDepth 20000 in
theorem hm243 : tMs[243]? = some tM243 := rfl
set_option maxRecDepth 20000 in
theorem hm244 : tMs[244]? = some tM244 := rfl
set_option maxRecDepth 20000 in
theorem hm245 : tMs[245]? = some tM245 := rfl
set_option maxRecDepth 20000 in
theorem hm246 : tMs[246]? = some tM246 := rfl
set_option maxRecDepth 20000 in
theorem hm247 : tMs[247]? = some tM247 := rfl
set_option maxRecDepth 20000 in
theorem hm248 : tMs[248]? = some tM248 := rfl
set_option maxRecDepth 20000 in
theorem hm249 : tMs[249]? = some tM249 := rfl
set_option maxRecDepth 20000 in
theorem hm250 : tMs[250]? = some tM250 := rfl
set_option maxRecDepth 20000 in
theorem hm251 : tMs[251]? = some tM251 := rfl
set_option maxRecDepth 20000 in
theorem hm252 : tMs[252]? = some tM252 := rfl
set_option maxRecDepth 20000 in
theorem hm253 : tMs[253]? = some tM253 := rfl
set_option maxRecDepth 20000 in
theorem hm254 : tMs[254]? = some tM254 := rfl
set_option maxRecDepth 20000 in
theorem hm255 : tMs[255]? = some tM255 := rfl
set_option maxRecDepth 20000 in
theorem hm256 : tMs[256]? = some tM256 := rfl
set_option maxRecDepth 20000 in
theorem hm257 : tMs[257]? = some tM257 := rfl
set_option maxRecDepth 20000 in
theorem hm258 : tMs[258]? = some tM258 := rfl
set_option maxRecDepth 20000 in
theorem hm259 : tMs[259]? = some tM259 := rfl
set_option maxRecDepth 20000 in
theorem hm260 : tMs[260]? = some tM260 := rfl
set_option maxRecDepth 20000 in
theorem hm261 : tMs[261]? = some tM261 := rfl
set_option maxRecDepth 20000 in
theorem hm262 : tMs[262]? = some tM262 := rfl
set_option maxRecDepth 20000 in
theorem hm263 : tMs[263]? = some tM263 := rfl
set_option maxRecDepth 20000 in
theorem hm264 : tMs[264]? = some tM264 := rfl
set_option maxRecDepth 20000 in
theorem hm265 : tMs[265]? = some tM265 := rfl
set_option maxRecDepth 20000 in
theorem hm266 : tMs[266]? = some tM266 := rfl
set_option maxRecDepth 20000 in
theorem hm267 : tMs[267]? = some tM267 := rfl
set_option maxRecDepth 20000 in
theorem hm268 : tMs[268]? = some tM268 := rfl
set_option maxRecDepth 20000 in
theorem hm269 : tMs[269]? = some tM269 := rfl
set_option maxRecDepth 20000 in
theorem hm270 : tMs[270]? = some tM270 := rfl
set_option maxRecDepth 20000 in
theorem hm271 : tMs[271]? = some tM271 := rfl
set_option maxRecDepth 20000 in
theorem hm272 : tMs[272]? = some tM272 := rfl
set_option maxRecDepth 20000 in
theorem hm273 : tMs[273]? = some tM273 := rfl
set_option maxRecDepth 20000 in
theorem hm274 : tMs[274]? = some tM274 := rfl
set_option maxRecDepth 20000 in
theorem hm275 : tMs[275]? = some tM275 := rfl
set_option maxRecDepth 20000 in
theorem hm276 : tMs[276]? = some tM276 := rfl
set_option maxRecDepth 20000 in
theorem hm277 : tMs[277]? = some tM277 := rfl
set_option maxRecDepth 20000 in
theorem hm278 : tMs[278]? = some tM278 := rfl
set_option maxRecDepth 20000 in
theorem hm279 : tMs[279]? = some tM279 := rfl
set_option maxRecDepth 20000 in
theorem hm280 : tMs[280]? = some tM280 := rfl
set_option maxRecDepth 20000 in
theorem hm281 : tMs[281]? = some tM281 := rfl
set_option maxRecDepth 20000 in
theorem hm282 : tMs[282]? = some tM282 := rfl
set_option maxRecDepth 20000 in
theorem hm283 : tMs[283]? = some tM283 := rfl
set_option maxRecDepth 20000 in
theorem hm284 : tMs[284]? = some tM284 := rfl
set_option maxRecDepth 20000 in
theorem hm285 : tMs[285]? = some tM285 := rfl
set_option maxRecDepth 20000 in
theorem hm286 : tMs[286]? = some tM286 := rfl
abbrev c_X11_putBytes_0 (d : Nat) (x1 : Int32) (m : dM) (Q : dM → Prop) : Prop := Wp d 244 0 [oR 0, oI x1, none] [] m (qV Q)
abbrev j_X11_putBytes_0_3 (d : Nat) (x1 : Int32) (x2 : Int32) (m : dM) (Q : dM → Prop) : Prop := Wp d 244 3 [oR 0, oI x1, oI x2] [] m (qV Q)
abbrev j_X11_putBytes_0_46 (d : Nat) (m : dM) (Q : dM → Prop) : Prop := Wp d 244 46 [none, none, none] [] m (qV Q)
abbrev c_X11_feed_0 (d : Nat) (x1 : Int32) (x2 : Int32) (x3 : Int32) (x4 : Int32) (x5 : Int32) (m : dM) (Q : Int32 → dM → Prop) : Prop := Wp d 243 0 [oR 0, oI x1, oI x2, oI x3, oI x4, oI x5] [] m (qI Q)
abbrev c_X12_put_70 (d : Nat) (x1 : Int32) (m : dM) (Q : dM → Prop) : Prop := Wp d 2 0 [oR 70, oI x1, none] [] m (qV Q)
abbrev j_X12_put_70_3 (d : Nat) (x1 : Int32) (x2 : Int32) (m : dM) (Q : dM → Prop) : Prop := Wp d 2 3 [oR 70, oI x1, oI x2] [] m (qV Q)
abbrev c_X12_feed_70 (d : Nat) (x1 : Int32) (x2 : Int32) (x3 : Int32) (x4 : Int32) (x5 : Int32) (m : dM) (Q : Int32 → dM → Prop) : Prop := Wp d 1 0 [oR 70, oI x1, oI x2, oI x3, oI x4, oI x5] [] m (qI Q)
abbrev c_X11_back_0 (d : Nat) (x1 : Int32) (m : dM) (Q : Int32 → dM → Prop) : Prop := Wp d 245 0 [oR 0, oI x1] [] m (qI Q)
abbrev j_X11_back_0_12 (d : Nat) (m : dM) (Q : Int32 → dM → Prop) : Prop := Wp d 245 12 [none, none] [] m (qI Q)
abbrev c_X12_back_70 (d : Nat) (x1 : Int32) (m : dM) (Q : Int32 → dM → Prop) : Prop := Wp d 3 0 [oR 70, oI x1] [] m (qI Q)
abbrev j_X12_back_70_12 (d : Nat) (m : dM) (Q : Int32 → dM → Prop) : Prop := Wp d 3 12 [none, none] [] m (qI Q)
abbrev c_X8_byteAt_38 (d : Nat) (x1 : Int32) (m : dM) (Q : Int32 → dM → Prop) : Prop := Wp d 221 0 [oR 38, oI x1] [] m (qI Q)
abbrev j_X8_byteAt_38_41 (d : Nat) (m : dM) (Q : Int32 → dM → Prop) : Prop := Wp d 221 41 [none, none] [] m (qI Q)
abbrev c_X8_pastBlanks_38 (d : Nat) (x1 : Int32) (m : dM) (Q : Int32 → dM → Prop) : Prop := Wp d 224 0 [oR 38, oI x1, none, none] [] m (qI Q)
abbrev j_X8_pastBlanks_38_2 (d : Nat) (x2 : Int32) (m : dM) (Q : Int32 → dM → Prop) : Prop := Wp d 224 2 [oR 38, none, oI x2, none] [] m (qI Q)
abbrev j_X8_pastBlanks_38_42 (d : Nat) (x2 : Int32) (m : dM) (Q : Int32 → dM → Prop) : Prop := Wp d 224 42 [oR 38, none, oI x2, none] [] m (qI Q)
abbrev c_X8_isLetterAt_38 (d : Nat) (x1 : Int32) (m : dM) (Q : Int32 → dM → Prop) : Prop := Wp d 222 0 [oR 38, oI x1, none] [] m (qI Q)
abbrev j_X8_isLetterAt_38_22 (d : Nat) (m : dM) (Q : Int32 → dM → Prop) : Prop := Wp d 222 22 [none, none, none] [] m (qI Q)
abbrev c_X8_isDigitAt_38 (d : Nat) (x1 : Int32) (m : dM) (Q : Int32 → dM → Prop) : Prop := Wp d 223 0 [oR 38, oI x1, none] [] m (qI Q)
abbrev j_X8_isDigitAt_38_22 (d : Nat) (m : dM) (Q : Int32 → dM → Prop) : Prop := Wp d 223 22 [none, none, none] [] m (qI Q)
abbrev c_X8_signOf (d : Nat) (x0 : Int32) (m : dM) (Q : Int32 → dM → Prop) : Prop := Wp d 226 0 [oI x0] [] m (qI Q)
abbrev c_X8_scanDigits_38 (d : Nat) (x1 : Int32) (x2 : Int32) (m : dM) (Q : Int32 → dM → Prop) : Prop := Wp d 229 0 [oR 38, oI x1, oI x2, none, none, none] [] m (qI Q)
abbrev j_X8_scanDigits_38_5 (d : Nat) (x1 : Int32) (x2 : Int32) (y3 : Int64) (x5 : Int32) (m : dM) (Q : Int32 → dM → Prop) : Prop := Wp d 229 5 [oR 38, oI x1, oI x2, oL y3, none, oI x5] [] m (qI Q)
abbrev j_X8_scanDigits_38_54 (d : Nat) (x1 : Int32) (x2 : Int32) (y3 : Int64) (x5 : Int32) (m : dM) (Q : Int32 → dM → Prop) : Prop := Wp d 229 54 [oR 38, oI x1, oI x2, oL y3, none, oI x5] [] m (qI Q)
abbrev c_X8_withLetter (d : Nat) (y0 : Int64) (x2 : Int32) (m : dM) (Q : Int64 → dM → Prop) : Prop := Wp d 220 0 [oL y0, none, oI x2] [] m (qL Q)
abbrev c_X8_wordOrName_38 (d : Nat) (y1 : Int64) (m : dM) (Q : Int32 → dM → Prop) : Prop := Wp d 228 0 [oR 38, oL y1, none, none] [] m (qI Q)
abbrev j_X8_wordOrName_38_2 (d : Nat) (y1 : Int64) (x3 : Int32) (m : dM) (Q : Int32 → dM → Prop) : Prop := Wp d 228 2 [oR 38, oL y1, none, oI x3] [] m (qI Q)
abbrev c_X8_scanLetters_38 (d : Nat) (x1 : Int32) (x2 : Int32) (m : dM) (Q : Int32 → dM → Prop) : Prop := Wp d 227 0 [oR 38, oI x1, oI x2, none, none, none] [] m (qI Q)
abbrev j_X8_scanLetters_38_5 (d : Nat) (x1 : Int32) (x2 : Int32) (y3 : Int64) (x5 : Int32) (m : dM) (Q : Int32 → dM → Prop) : Prop := Wp d 227 5 [oR 38, oI x1, oI x2, oL y3, none, oI x5] [] m (qI Q)
abbrev j_X8_scanLetters_38_49 (d : Nat) (x1 : Int32) (x2 : Int32) (y3 : Int64) (x5 : Int32) (m : dM) (Q : Int32 → dM → Prop) : Prop := Wp d 227 49 [oR 38, oI x1, oI x2, oL y3, none, oI x5] [] m (qI Q)
abbrev c_X8_scanOne_38 (d : Nat) (x1 : Int32) (x2 : Int32) (m : dM) (Q : Int32 → dM → Prop) : Prop := Wp d 225 0 [oR 38, oI x1, oI x2] [] m (qI Q)
abbrev c_X8_scan_38_1 (d : Nat) (x2 : Int32) (m : dM) (Q : dM → Prop) : Prop := Wp d 215 0 [oR 38, oR 1, oI x2, none, none] [] m (qV Q)
abbrev j_X8_scan_38_1_20 (d : Nat) (x3 : Int32) (x4 : Int32) (m : dM) (Q : dM → Prop) : Prop := Wp d 215 20 [oR 38, none, none, oI x3, oI x4] [] m (qV Q)
abbrev j_X8_scan_38_1_74 (d : Nat) (m : dM) (Q : dM → Prop) : Prop := Wp d 215 74 [none, none, none, none, none] [] m (qV Q)
abbrev c_X4_begin_29 (d : Nat) (x1 : Int32) (m : dM) (Q : dM → Prop) : Prop := Wp d 178 0 [oR 29, oI x1] [] m (qV Q)
abbrev c_X4_put_29 (d : Nat) (x1 : Int32) (m : dM) (Q : dM → Prop) : Prop := Wp d 179 0 [oR 29, oI x1] [] m (qV Q)
abbrev j_X4_put_29_32 (d : Nat) (m : dM) (Q : dM → Prop) : Prop := Wp d 179 32 [none, none] [] m (qV Q)
abbrev c_X4_endPiece_29 (d : Nat) (x1 : Int32) (m : dM) (Q : dM → Prop) : Prop := Wp d 180 0 [oR 29, oI x1] [] m (qV Q)
abbrev j_X4_endPiece_29_38 (d : Nat) (m : dM) (Q : dM → Prop) : Prop := Wp d 180 38 [none, none] [] m (qV Q)
abbrev c_X4_clear_29 (d : Nat) (m : dM) (Q : dM → Prop) : Prop := Wp d 176 0 [oR 29] [] m (qV Q)
abbrev c_X3_clear_20 (d : Nat) (m : dM) (Q : dM → Prop) : Prop := Wp d 169 0 [oR 20] [] m (qV Q)
abbrev c_X2_kind_43 (d : Nat) (m : dM) (Q : Int32 → dM → Prop) : Prop := Wp d 157 0 [oR 43] [] m (qI Q)
abbrev j_X2_kind_43_32 (d : Nat) (m : dM) (Q : Int32 → dM → Prop) : Prop := Wp d 157 32 [none] [] m (qI Q)
abbrev c_X2_step_43 (d : Nat) (m : dM) (Q : Int32 → dM → Prop) : Prop := Wp d 159 0 [oR 43] [] m (qI Q)
abbrev c_X2_fail_43 (d : Nat) (x1 : Int32) (m : dM) (Q : Int32 → dM → Prop) : Prop := Wp d 158 0 [oR 43, oI x1] [] m (qI Q)
abbrev c_X2_need_43 (d : Nat) (x1 : Int32) (m : dM) (Q : Int32 → dM → Prop) : Prop := Wp d 160 0 [oR 43, oI x1] [] m (qI Q)
abbrev c_X2_checkRow_43 (d : Nat) (x1 : Int32) (x2 : Int32) (m : dM) (Q : dM → Prop) : Prop := Wp d 161 0 [oR 43, oI x1, oI x2, none, none] [] m (qV Q)
abbrev j_X2_checkRow_43_8 (d : Nat) (x1 : Int32) (x2 : Int32) (x3 : Int32) (x4 : Int32) (m : dM) (Q : dM → Prop) : Prop := Wp d 161 8 [oR 43, oI x1, oI x2, oI x3, oI x4] [] m (qV Q)
abbrev j_X2_checkRow_43_31 (d : Nat) (x2 : Int32) (x3 : Int32) (m : dM) (Q : dM → Prop) : Prop := Wp d 161 31 [oR 43, none, oI x2, oI x3, none] [] m (qV Q)
abbrev j_X2_checkRow_43_34 (d : Nat) (x2 : Int32) (x3 : Int32) (x4 : Int32) (m : dM) (Q : dM → Prop) : Prop := Wp d 161 34 [oR 43, none, oI x2, oI x3, oI x4] [] m (qV Q)
abbrev j_X2_checkRow_43_57 (d : Nat) (x3 : Int32) (m : dM) (Q : dM → Prop) : Prop := Wp d 161 57 [oR 43, none, none, oI x3, none] [] m (qV Q)
abbrev j_X2_checkRow_43_68 (d : Nat) (m : dM) (Q : dM → Prop) : Prop := Wp d 161 68 [none, none, none, none, none] [] m (qV Q)
abbrev c_X2_checkCounted_43 (d : Nat) (x1 : Int32) (x2 : Int32) (x3 : Int32) (x4 : Int32) (m : dM) (Q : dM → Prop) : Prop := Wp d 162 0 [oR 43, oI x1, oI x2, oI x3, oI x4] [] m (qV Q)
abbrev j_X2_checkCounted_43_20 (d : Nat) (m : dM) (Q : dM → Prop) : Prop := Wp d 162 20 [none, none, none, none, none] [] m (qV Q)
abbrev c_X8_nameAt_38 (d : Nat) (x1 : Int32) (m : dM) (Q : Int64 → dM → Prop) : Prop := Wp d 219 0 [oR 38, oI x1] [] m (qL Q)
abbrev j_X8_nameAt_38_20 (d : Nat) (m : dM) (Q : Int64 → dM → Prop) : Prop := Wp d 219 20 [none, none] [] m (qL Q)
abbrev c_X8_numberAt_38 (d : Nat) (x1 : Int32) (m : dM) (Q : Int32 → dM → Prop) : Prop := Wp d 218 0 [oR 38, oI x1] [] m (qI Q)
abbrev c_X2_unit_43 (d : Nat) (x1 : Int32) (m : dM) (Q : Int32 → dM → Prop) : Prop := Wp d 167 0 [oR 43, oI x1, none] [] m (qI Q)
abbrev j_X2_unit_43_67 (d : Nat) (x1 : Int32) (x2 : Int32) (m : dM) (Q : Int32 → dM → Prop) : Prop := Wp d 167 67 [oR 43, oI x1, oI x2] [] m (qI Q)
abbrev j_X2_unit_43_123 (d : Nat) (m : dM) (Q : Int32 → dM → Prop) : Prop := Wp d 167 123 [none, none, none] [] m (qI Q)
abbrev c_X2_product_43 (d : Nat) (x1 : Int32) (m : dM) (Q : Int32 → dM → Prop) : Prop := Wp d 166 0 [oR 43, oI x1, none, none] [] m (qI Q)
abbrev j_X2_product_43_12 (d : Nat) (x1 : Int32) (x2 : Int32) (m : dM) (Q : Int32 → dM → Prop) : Prop := Wp d 166 12 [oR 43, oI x1, oI x2, none] [] m (qI Q)
abbrev j_X2_product_43_37 (d : Nat) (x1 : Int32) (x2 : Int32) (m : dM) (Q : Int32 → dM → Prop) : Prop := Wp d 166 37 [oR 43, oI x1, oI x2, none] [] m (qI Q)
abbrev j_X2_product_43_67 (d : Nat) (m : dM) (Q : Int32 → dM → Prop) : Prop := Wp d 166 67 [none, none, none, none] [] m (qI Q)
abbrev j_X2_product_43_83 (d : Nat) (m : dM) (Q : Int32 → dM → Prop) : Prop := Wp d 166 83 [none, none, none, none] [] m (qI Q)
abbrev c_X2_sum_43 (d : Nat) (x1 : Int32) (m : dM) (Q : Int32 → dM → Prop) : Prop := Wp d 165 0 [oR 43, oI x1, none, none] [] m (qI Q)
abbrev j_X2_sum_43_12 (d : Nat) (x1 : Int32) (x2 : Int32) (m : dM) (Q : Int32 → dM → Prop) : Prop := Wp d 165 12 [oR 43, oI x1, oI x2, none] [] m (qI Q)
abbrev j_X2_sum_43_37 (d : Nat) (x1 : Int32) (x2 : Int32) (m : dM) (Q : Int32 → dM → Prop) : Prop := Wp d 165 37 [oR 43, oI x1, oI x2, none] [] m (qI Q)
abbrev j_X2_sum_43_67 (d : Nat) (m : dM) (Q : Int32 → dM → Prop) : Prop := Wp d 165 67 [none, none, none, none] [] m (qI Q)
abbrev j_X2_sum_43_83 (d : Nat) (m : dM) (Q : Int32 → dM → Prop) : Prop := Wp d 165 83 [none, none, none, none] [] m (qI Q)
abbrev c_X2_endPiece_43 (d : Nat) (x1 : Int32) (x2 : Int32) (m : dM) (Q : Int32 → dM → Prop) : Prop := Wp d 164 0 [oR 43, oI x1, oI x2] [] m (qI Q)
abbrev c_X2_checkLaw_43 (d : Nat) (x1 : Int32) (m : dM) (Q : Int32 → dM → Prop) : Prop := Wp d 163 0 [oR 43, oI x1, none] [] m (qI Q)
abbrev j_X2_checkLaw_43_24 (d : Nat) (m : dM) (Q : Int32 → dM → Prop) : Prop := Wp d 163 24 [none, none, none] [] m (qI Q)
abbrev j_X2_checkLaw_43_28 (d : Nat) (x1 : Int32) (x2 : Int32) (m : dM) (Q : Int32 → dM → Prop) : Prop := Wp d 163 28 [oR 43, oI x1, oI x2] [] m (qI Q)
abbrev j_X2_checkLaw_43_114 (d : Nat) (m : dM) (Q : Int32 → dM → Prop) : Prop := Wp d 163 114 [none, none, none] [] m (qI Q)
abbrev j_X2_checkLaw_43_122 (d : Nat) (x1 : Int32) (m : dM) (Q : Int32 → dM → Prop) : Prop := Wp d 163 122 [oR 43, oI x1, none] [] m (qI Q)
abbrev j_X2_checkLaw_43_144 (d : Nat) (m : dM) (Q : Int32 → dM → Prop) : Prop := Wp d 163 144 [none, none, none] [] m (qI Q)
abbrev c_X2_checkTold_43 (d : Nat) (x1 : Int32) (m : dM) (Q : dM → Prop) : Prop := Wp d 155 0 [oR 43, oI x1] [] m (qV Q)
abbrev j_X2_checkTold_43_165 (d : Nat) (m : dM) (Q : dM → Prop) : Prop := Wp d 155 165 [none, none] [] m (qV Q)
abbrev c_X2_check_43 (d : Nat) (m : dM) (Q : Int32 → dM → Prop) : Prop := Wp d 154 0 [oR 43, none] [] m (qI Q)
abbrev j_X2_check_43_27 (d : Nat) (x1 : Int32) (m : dM) (Q : Int32 → dM → Prop) : Prop := Wp d 154 27 [oR 43, oI x1] [] m (qI Q)
abbrev j_X2_check_43_64 (d : Nat) (m : dM) (Q : Int32 → dM → Prop) : Prop := Wp d 154 64 [oR 43, none] [] m (qI Q)
abbrev c_X8_placeAt_38 (d : Nat) (x1 : Int32) (m : dM) (Q : Int32 → dM → Prop) : Prop := Wp d 217 0 [oR 38, oI x1] [] m (qI Q)
abbrev j_X8_placeAt_38_20 (d : Nat) (m : dM) (Q : Int32 → dM → Prop) : Prop := Wp d 217 20 [oR 38, none] [] m (qI Q)
abbrev c_X2_faultAt_43 (d : Nat) (m : dM) (Q : Int32 → dM → Prop) : Prop := Wp d 156 0 [oR 43] [] m (qI Q)
abbrev c_X8_kindAt_38 (d : Nat) (x1 : Int32) (m : dM) (Q : Int32 → dM → Prop) : Prop := Wp d 216 0 [oR 38, oI x1] [] m (qI Q)
abbrev j_X8_kindAt_38_20 (d : Nat) (m : dM) (Q : Int32 → dM → Prop) : Prop := Wp d 216 20 [none, none] [] m (qI Q)
abbrev c_X5_indexOf_45 (d : Nat) (x1 : Int32) (y2 : Int64) (m : dM) (Q : Int32 → dM → Prop) : Prop := Wp d 199 0 [oR 45, oI x1, oL y2, none, none] [] m (qI Q)
abbrev j_X5_indexOf_45_3 (d : Nat) (x1 : Int32) (y2 : Int64) (x4 : Int32) (m : dM) (Q : Int32 → dM → Prop) : Prop := Wp d 199 3 [oR 45, oI x1, oL y2, none, oI x4] [] m (qI Q)
abbrev j_X5_indexOf_45_34 (d : Nat) (m : dM) (Q : Int32 → dM → Prop) : Prop := Wp d 199 34 [none, none, none, none, none] [] m (qI Q)
abbrev c_X5_indexOf_46 (d : Nat) (x1 : Int32) (y2 : Int64) (m : dM) (Q : Int32 → dM → Prop) : Prop := Wp d 199 0 [oR 46, oI x1, oL y2, none, none] [] m (qI Q)
abbrev j_X5_indexOf_46_3 (d : Nat) (x1 : Int32) (y2 : Int64) (x4 : Int32) (m : dM) (Q : Int32 → dM → Prop) : Prop := Wp d 199 3 [oR 46, oI x1, oL y2, none, oI x4] [] m (qI Q)
abbrev j_X5_indexOf_46_34 (d : Nat) (m : dM) (Q : Int32 → dM → Prop) : Prop := Wp d 199 34 [none, none, none, none, none] [] m (qI Q)
abbrev c_X5_fail_44 (d : Nat) (x1 : Int32) (m : dM) (Q : Int32 → dM → Prop) : Prop := Wp d 188 0 [oR 44, oI x1] [] m (qI Q)
abbrev c_X5_isNewName_44 (d : Nat) (m : dM) (Q : Int32 → dM → Prop) : Prop := Wp d 197 0 [oR 44, none, none, none] [] m (qI Q)
abbrev j_X5_isNewName_44_50 (d : Nat) (m : dM) (Q : Int32 → dM → Prop) : Prop := Wp d 197 50 [oR 44, none, none, none] [] m (qI Q)
abbrev c_X5_isWithin_44 (d : Nat) (x1 : Int32) (x2 : Int32) (m : dM) (Q : Int32 → dM → Prop) : Prop := Wp d 196 0 [oR 44, oI x1, oI x2, none] [] m (qI Q)
abbrev j_X5_isWithin_44_22 (d : Nat) (m : dM) (Q : Int32 → dM → Prop) : Prop := Wp d 196 22 [oR 44, none, none, none] [] m (qI Q)
abbrev c_X5_takeFlat_44 (d : Nat) (m : dM) (Q : Int32 → dM → Prop) : Prop := Wp d 190 0 [oR 44, none] [] m (qI Q)
abbrev c_X5_flatNamed_44 (d : Nat) (m : dM) (Q : Int32 → dM → Prop) : Prop := Wp d 198 0 [oR 44, none] [] m (qI Q)
abbrev j_X5_flatNamed_44_36 (d : Nat) (x1 : Int32) (m : dM) (Q : Int32 → dM → Prop) : Prop := Wp d 198 36 [none, oI x1] [] m (qI Q)
abbrev c_X3_endsOf_20 (d : Nat) (x1 : Int32) (m : dM) (Q : Int32 → dM → Prop) : Prop := Wp d 172 0 [oR 20, oI x1] [] m (qI Q)
abbrev c_X3_isWired_20 (d : Nat) (x1 : Int32) (x2 : Int32) (m : dM) (Q : Int32 → dM → Prop) : Prop := Wp d 171 0 [oR 20, oI x1, oI x2, none, none] [] m (qI Q)
abbrev j_X3_isWired_20_11 (d : Nat) (x3 : Int32) (x4 : Int32) (m : dM) (Q : Int32 → dM → Prop) : Prop := Wp d 171 11 [oR 20, none, none, oI x3, oI x4] [] m (qI Q)
abbrev c_X5_takeWire_44 (d : Nat) (m : dM) (Q : Int32 → dM → Prop) : Prop := Wp d 191 0 [oR 44, none, none, none] [] m (qI Q)
abbrev j_X5_takeWire_44_71 (d : Nat) (m : dM) (Q : Int32 → dM → Prop) : Prop := Wp d 191 71 [oR 44, none, none, none] [] m (qI Q)
abbrev c_X5_takeUse_44 (d : Nat) (m : dM) (Q : Int32 → dM → Prop) : Prop := Wp d 192 0 [oR 44, none] [] m (qI Q)
abbrev j_X5_takeUse_44_213 (d : Nat) (m : dM) (Q : Int32 → dM → Prop) : Prop := Wp d 192 213 [none, none] [] m (qI Q)
abbrev c_X5_takeSurge_44 (d : Nat) (m : dM) (Q : Int32 → dM → Prop) : Prop := Wp d 193 0 [oR 44] [] m (qI Q)
abbrev j_X5_takeSurge_44_62 (d : Nat) (m : dM) (Q : Int32 → dM → Prop) : Prop := Wp d 193 62 [none] [] m (qI Q)
abbrev c_X5_takeCoins_44 (d : Nat) (m : dM) (Q : Int32 → dM → Prop) : Prop := Wp d 194 0 [oR 44] [] m (qI Q)
abbrev c_X5_takeSeed_44 (d : Nat) (m : dM) (Q : Int32 → dM → Prop) : Prop := Wp d 195 0 [oR 44] [] m (qI Q)
abbrev c_X5_takeTold_44 (d : Nat) (x1 : Int32) (m : dM) (Q : Int32 → dM → Prop) : Prop := Wp d 189 0 [oR 44, oI x1] [] m (qI Q)
abbrev c_X5_skipEnd_44 (d : Nat) (m : dM) (Q : dM → Prop) : Prop := Wp d 187 0 [oR 44] [] m (qV Q)
abbrev j_X5_skipEnd_44_0 (d : Nat) (m : dM) (Q : dM → Prop) : Prop := Wp d 187 0 [oR 44] [] m (qV Q)
abbrev j_X5_skipEnd_44_39 (d : Nat) (m : dM) (Q : dM → Prop) : Prop := Wp d 187 39 [oR 44] [] m (qV Q)
abbrev c_X5_check_44 (d : Nat) (m : dM) (Q : Int32 → dM → Prop) : Prop := Wp d 185 0 [oR 44, none, none] [] m (qI Q)
abbrev j_X5_check_44_12 (d : Nat) (x1 : Int32) (m : dM) (Q : Int32 → dM → Prop) : Prop := Wp d 185 12 [oR 44, oI x1, none] [] m (qI Q)
abbrev j_X5_check_44_76 (d : Nat) (x1 : Int32) (m : dM) (Q : Int32 → dM → Prop) : Prop := Wp d 185 76 [oR 44, oI x1, none] [] m (qI Q)
abbrev j_X5_check_44_82 (d : Nat) (m : dM) (Q : Int32 → dM → Prop) : Prop := Wp d 185 82 [oR 44, none, none] [] m (qI Q)
abbrev c_X5_faultAt_44 (d : Nat) (m : dM) (Q : Int32 → dM → Prop) : Prop := Wp d 186 0 [oR 44] [] m (qI Q)
abbrev c_X4_copy_11_29 (d : Nat) (m : dM) (Q : dM → Prop) : Prop := Wp d 177 0 [oR 11, oR 29, none] [] m (qV Q)
abbrev j_X4_copy_11_29_27 (d : Nat) (x2 : Int32) (m : dM) (Q : dM → Prop) : Prop := Wp d 177 27 [oR 11, oR 29, oI x2] [] m (qV Q)
abbrev c_X3_copy_2_20 (d : Nat) (m : dM) (Q : dM → Prop) : Prop := Wp d 170 0 [oR 2, oR 20] [] m (qV Q)
abbrev c_X10_houseIsNew_57 (d : Nat) (m : dM) (Q : dM → Prop) : Prop := Wp d 238 0 [oR 57] [] m (qV Q)
abbrev c_X0_houseIsNew_54 (d : Nat) (m : dM) (Q : dM → Prop) : Prop := Wp d 115 0 [oR 54] [] m (qV Q)
abbrev c_J7_fill_49 (d : Nat) (x1 : Int32) (m : dM) (Q : dM → Prop) : Prop := Wp d 286 0 [oR 49, oI x1, none, none] [] m (qV Q)
abbrev j_J7_fill_49_5 (d : Nat) (x1 : Int32) (x2 : Int32) (x3 : Int32) (m : dM) (Q : dM → Prop) : Prop := Wp d 286 5 [oR 49, oI x1, oI x2, oI x3] [] m (qV Q)
abbrev c_J7_fill_50 (d : Nat) (x1 : Int32) (m : dM) (Q : dM → Prop) : Prop := Wp d 286 0 [oR 50, oI x1, none, none] [] m (qV Q)
abbrev j_J7_fill_50_5 (d : Nat) (x1 : Int32) (x2 : Int32) (x3 : Int32) (m : dM) (Q : dM → Prop) : Prop := Wp d 286 5 [oR 50, oI x1, oI x2, oI x3] [] m (qV Q)
abbrev c_X7_begin_47_2 (d : Nat) (m : dM) (Q : dM → Prop) : Prop := Wp d 208 0 [oR 47, oR 2] [] m (qV Q)
abbrev c_X6_clear_51 (d : Nat) (m : dM) (Q : dM → Prop) : Prop := Wp d 201 0 [oR 51] [] m (qV Q)
abbrev c_X6_clearSlots_51 (d : Nat) (m : dM) (Q : dM → Prop) : Prop := Wp d 202 0 [oR 51] [] m (qV Q)
abbrev c_X9_clear_67 (d : Nat) (m : dM) (Q : dM → Prop) : Prop := Wp d 231 0 [oR 67] [] m (qV Q)
abbrev c_X11_read_0 (d : Nat) (m : dM) (Q : Int32 → dM → Prop) : Prop := Wp d 246 0 [oR 0, none] [] m (qI Q)
abbrev j_X11_read_0_69 (d : Nat) (x1 : Int32) (m : dM) (Q : Int32 → dM → Prop) : Prop := Wp d 246 69 [oR 0, oI x1] [] m (qI Q)
abbrev j_X11_read_0_123 (d : Nat) (x1 : Int32) (m : dM) (Q : Int32 → dM → Prop) : Prop := Wp d 246 123 [none, oI x1] [] m (qI Q)
abbrev c_X12_byteAt_70 (d : Nat) (x1 : Int32) (m : dM) (Q : Int32 → dM → Prop) : Prop := Wp d 4 0 [oR 70, oI x1] [] m (qI Q)
abbrev c_X12_isLetter (d : Nat) (x0 : Int32) (m : dM) (Q : Int32 → dM → Prop) : Prop := Wp d 6 0 [oI x0] [] m (qI Q)
abbrev j_X12_isLetter_16 (d : Nat) (m : dM) (Q : Int32 → dM → Prop) : Prop := Wp d 6 16 [none] [] m (qI Q)
abbrev c_X12_isDigit (d : Nat) (x0 : Int32) (m : dM) (Q : Int32 → dM → Prop) : Prop := Wp d 5 0 [oI x0] [] m (qI Q)
abbrev j_X12_isDigit_16 (d : Nat) (m : dM) (Q : Int32 → dM → Prop) : Prop := Wp d 5 16 [none] [] m (qI Q)
abbrev c_X12_token_70 (d : Nat) (x1 : Int32) (x2 : Int32) (x3 : Int32) (y4 : Int64) (m : dM) (Q : dM → Prop) : Prop := Wp d 9 0 [oR 70, oI x1, oI x2, oI x3, oL y4, none] [] m (qV Q)
abbrev c_X12_sign_70 (d : Nat) (x1 : Int32) (x2 : Int32) (x3 : Int32) (m : dM) (Q : Int32 → dM → Prop) : Prop := Wp d 11 0 [oR 70, oI x1, oI x2, oI x3, none] [] m (qI Q)
abbrev j_X12_sign_70_55 (d : Nat) (x1 : Int32) (x2 : Int32) (x4 : Int32) (m : dM) (Q : Int32 → dM → Prop) : Prop := Wp d 11 55 [oR 70, oI x1, oI x2, none, oI x4] [] m (qI Q)
abbrev j_X12_sign_70_65 (d : Nat) (x1 : Int32) (x2 : Int32) (x4 : Int32) (m : dM) (Q : Int32 → dM → Prop) : Prop := Wp d 11 65 [oR 70, oI x1, oI x2, none, oI x4] [] m (qI Q)
abbrev j_X12_sign_70_75 (d : Nat) (x1 : Int32) (x2 : Int32) (x4 : Int32) (m : dM) (Q : Int32 → dM → Prop) : Prop := Wp d 11 75 [oR 70, oI x1, oI x2, none, oI x4] [] m (qI Q)
abbrev j_X12_sign_70_85 (d : Nat) (x1 : Int32) (x2 : Int32) (x4 : Int32) (m : dM) (Q : Int32 → dM → Prop) : Prop := Wp d 11 85 [oR 70, oI x1, oI x2, none, oI x4] [] m (qI Q)
abbrev j_X12_sign_70_95 (d : Nat) (x1 : Int32) (x4 : Int32) (m : dM) (Q : Int32 → dM → Prop) : Prop := Wp d 11 95 [oR 70, oI x1, none, none, oI x4] [] m (qI Q)
abbrev c_X12_appends (d : Nat) (y0 : Int64) (x2 : Int32) (m : dM) (Q : Int64 → dM → Prop) : Prop := Wp d 7 0 [oL y0, none, oI x2] [] m (qL Q)
abbrev c_X12_cutsUp_70 (d : Nat) (m : dM) (Q : dM → Prop) : Prop := Wp d 10 0 [oR 70, none, none, none, none, none, none, none] [] m (qV Q)
abbrev j_X12_cutsUp_70_7 (d : Nat) (x1 : Int32) (m : dM) (Q : dM → Prop) : Prop := Wp d 10 7 [oR 70, oI x1, none, none, none, none, none, none] [] m (qV Q)
abbrev j_X12_cutsUp_70_67 (d : Nat) (x1 : Int32) (m : dM) (Q : dM → Prop) : Prop := Wp d 10 67 [oR 70, oI x1, none, none, none, none, none, none] [] m (qV Q)
abbrev j_X12_cutsUp_70_85 (d : Nat) (x1 : Int32) (x3 : Int32) (y4 : Int64) (m : dM) (Q : dM → Prop) : Prop := Wp d 10 85 [oR 70, oI x1, none, oI x3, oL y4, none, none, none] [] m (qV Q)
abbrev j_X12_cutsUp_70_118 (d : Nat) (x1 : Int32) (x3 : Int32) (y4 : Int64) (m : dM) (Q : dM → Prop) : Prop := Wp d 10 118 [oR 70, oI x1, none, oI x3, oL y4, none, none, none] [] m (qV Q)
abbrev j_X12_cutsUp_70_146 (d : Nat) (x1 : Int32) (x3 : Int32) (y4 : Int64) (x6 : Int32) (x7 : Int32) (m : dM) (Q : dM → Prop) : Prop := Wp d 10 146 [oR 70, oI x1, none, oI x3, oL y4, none, oI x6, oI x7] [] m (qV Q)
abbrev j_X12_cutsUp_70_173 (d : Nat) (x1 : Int32) (x3 : Int32) (y4 : Int64) (x6 : Int32) (x7 : Int32) (m : dM) (Q : dM → Prop) : Prop := Wp d 10 173 [oR 70, oI x1, none, oI x3, oL y4, none, oI x6, oI x7] [] m (qV Q)
abbrev j_X12_cutsUp_70_179 (d : Nat) (x1 : Int32) (x3 : Int32) (y4 : Int64) (x6 : Int32) (m : dM) (Q : dM → Prop) : Prop := Wp d 10 179 [oR 70, oI x1, none, oI x3, oL y4, none, oI x6, none] [] m (qV Q)
abbrev j_X12_cutsUp_70_208 (d : Nat) (x1 : Int32) (x3 : Int32) (x4 : Int32) (m : dM) (Q : dM → Prop) : Prop := Wp d 10 208 [oR 70, oI x1, none, oI x3, oI x4, none, none, none] [] m (qV Q)
abbrev j_X12_cutsUp_70_244 (d : Nat) (x1 : Int32) (x3 : Int32) (x4 : Int32) (m : dM) (Q : dM → Prop) : Prop := Wp d 10 244 [oR 70, oI x1, none, oI x3, oI x4, none, none, none] [] m (qV Q)
abbrev j_X12_cutsUp_70_291 (d : Nat) (x1 : Int32) (m : dM) (Q : dM → Prop) : Prop := Wp d 10 291 [oR 70, oI x1, none, none, none, none, none, none] [] m (qV Q)
abbrev c_X12_plain_70 (d : Nat) (x1 : Int32) (m : dM) (Q : dM → Prop) : Prop := Wp d 17 0 [oR 70, oI x1, none] [] m (qV Q)
abbrev j_X12_plain_70_52 (d : Nat) (x1 : Int32) (x2 : Int32) (m : dM) (Q : dM → Prop) : Prop := Wp d 17 52 [oR 70, oI x1, oI x2] [] m (qV Q)
abbrev c_X12_is_70 (d : Nat) (x1 : Int32) (m : dM) (Q : Int32 → dM → Prop) : Prop := Wp d 12 0 [oR 70, oI x1] [] m (qI Q)
abbrev j_X12_is_70_24 (d : Nat) (m : dM) (Q : Int32 → dM → Prop) : Prop := Wp d 12 24 [none, none] [] m (qI Q)
abbrev c_X12_fail_70 (d : Nat) (x1 : Int32) (m : dM) (Q : dM → Prop) : Prop := Wp d 13 0 [oR 70, oI x1] [] m (qV Q)
abbrev c_X12_goesOn_70 (d : Nat) (m : dM) (Q : dM → Prop) : Prop := Wp d 15 0 [oR 70] [] m (qV Q)
abbrev j_X12_goesOn_70_28 (d : Nat) (m : dM) (Q : dM → Prop) : Prop := Wp d 15 28 [none] [] m (qV Q)
abbrev c_X12_roomFor_70 (d : Nat) (x1 : Int32) (x2 : Int32) (m : dM) (Q : dM → Prop) : Prop := Wp d 20 0 [oR 70, oI x1, oI x2] [] m (qV Q)
abbrev j_X12_roomFor_70_10 (d : Nat) (m : dM) (Q : dM → Prop) : Prop := Wp d 20 10 [oR 70, none, none] [] m (qV Q)
abbrev j_X12_roomFor_70_21 (d : Nat) (m : dM) (Q : dM → Prop) : Prop := Wp d 20 21 [none, none, none] [] m (qV Q)
abbrev c_X12_must_70 (d : Nat) (x1 : Int32) (m : dM) (Q : dM → Prop) : Prop := Wp d 16 0 [oR 70, oI x1] [] m (qV Q)
abbrev j_X12_must_70_20 (d : Nat) (m : dM) (Q : dM → Prop) : Prop := Wp d 16 20 [none, none] [] m (qV Q)
abbrev c_X12_wrong_70 (d : Nat) (x1 : Int32) (x2 : Int32) (m : dM) (Q : dM → Prop) : Prop := Wp d 14 0 [oR 70, oI x1, oI x2, none] [] m (qV Q)
abbrev j_X12_wrong_70_45 (d : Nat) (m : dM) (Q : dM → Prop) : Prop := Wp d 14 45 [none, none, none, none] [] m (qV Q)
abbrev j_X12_wrong_70_46 (d : Nat) (x1 : Int32) (x3 : Int32) (m : dM) (Q : dM → Prop) : Prop := Wp d 14 46 [oR 70, oI x1, none, oI x3] [] m (qV Q)
abbrev c_X12_named_70 (d : Nat) (m : dM) (Q : Int32 → dM → Prop) : Prop := Wp d 22 0 [oR 70, none, none] [] m (qI Q)
abbrev j_X12_named_70_12 (d : Nat) (x1 : Int32) (x2 : Int32) (m : dM) (Q : Int32 → dM → Prop) : Prop := Wp d 22 12 [oR 70, oI x1, oI x2] [] m (qI Q)
abbrev j_X12_named_70_49 (d : Nat) (x1 : Int32) (x2 : Int32) (m : dM) (Q : Int32 → dM → Prop) : Prop := Wp d 22 49 [oR 70, oI x1, oI x2] [] m (qI Q)
abbrev j_X12_named_70_55 (d : Nat) (x1 : Int32) (m : dM) (Q : Int32 → dM → Prop) : Prop := Wp d 22 55 [none, oI x1, none] [] m (qI Q)
abbrev c_X12_bounded_70 (d : Nat) (x1 : Int32) (x2 : Int32) (m : dM) (Q : Int32 → dM → Prop) : Prop := Wp d 25 0 [oR 70, oI x1, oI x2, none] [] m (qI Q)
abbrev j_X12_bounded_70_15 (d : Nat) (x1 : Int32) (m : dM) (Q : Int32 → dM → Prop) : Prop := Wp d 25 15 [oR 70, oI x1, none, none] [] m (qI Q)
abbrev j_X12_bounded_70_42 (d : Nat) (x3 : Int32) (m : dM) (Q : Int32 → dM → Prop) : Prop := Wp d 25 42 [oR 70, none, none, oI x3] [] m (qI Q)
abbrev j_X12_bounded_70_51 (d : Nat) (x3 : Int32) (m : dM) (Q : Int32 → dM → Prop) : Prop := Wp d 25 51 [oR 70, none, none, oI x3] [] m (qI Q)
abbrev c_X12_endsName_70 (d : Nat) (x1 : Int32) (x2 : Int32) (m : dM) (Q : dM → Prop) : Prop := Wp d 23 0 [oR 70, oI x1, oI x2] [] m (qV Q)
abbrev c_X12_knownFlat_70 (d : Nat) (m : dM) (Q : Int32 → dM → Prop) : Prop := Wp d 24 0 [oR 70, none, none] [] m (qI Q)
abbrev j_X12_knownFlat_70_21 (d : Nat) (x1 : Int32) (x2 : Int32) (m : dM) (Q : Int32 → dM → Prop) : Prop := Wp d 24 21 [oR 70, oI x1, oI x2] [] m (qI Q)
abbrev j_X12_knownFlat_70_61 (d : Nat) (x1 : Int32) (x2 : Int32) (m : dM) (Q : Int32 → dM → Prop) : Prop := Wp d 24 61 [oR 70, oI x1, oI x2] [] m (qI Q)
abbrev c_X12_areWired_70 (d : Nat) (x1 : Int32) (x2 : Int32) (m : dM) (Q : Int32 → dM → Prop) : Prop := Wp d 26 0 [oR 70, oI x1, oI x2, none] [] m (qI Q)
abbrev j_X12_areWired_70_8 (d : Nat) (x1 : Int32) (x2 : Int32) (x3 : Int32) (m : dM) (Q : Int32 → dM → Prop) : Prop := Wp d 26 8 [oR 70, oI x1, oI x2, oI x3] [] m (qI Q)
abbrev j_X12_areWired_70_49 (d : Nat) (x1 : Int32) (x2 : Int32) (x3 : Int32) (m : dM) (Q : Int32 → dM → Prop) : Prop := Wp d 26 49 [oR 70, oI x1, oI x2, oI x3] [] m (qI Q)
abbrev j_X12_areWired_70_69 (d : Nat) (m : dM) (Q : Int32 → dM → Prop) : Prop := Wp d 26 69 [none, none, none, none] [] m (qI Q)
abbrev j_X12_areWired_70_71 (d : Nat) (x1 : Int32) (x2 : Int32) (x3 : Int32) (m : dM) (Q : Int32 → dM → Prop) : Prop := Wp d 26 71 [oR 70, oI x1, oI x2, oI x3] [] m (qI Q)
abbrev c_X12_tellWire_70 (d : Nat) (m : dM) (Q : dM → Prop) : Prop := Wp d 27 0 [oR 70, none, none, none, none] [] m (qV Q)
abbrev j_X12_tellWire_70_66 (d : Nat) (x1 : Int32) (x2 : Int32) (x3 : Int32) (x4 : Int32) (m : dM) (Q : dM → Prop) : Prop := Wp d 27 66 [oR 70, oI x1, oI x2, oI x3, oI x4] [] m (qV Q)
abbrev j_X12_tellWire_70_72 (d : Nat) (x1 : Int32) (x2 : Int32) (x4 : Int32) (m : dM) (Q : dM → Prop) : Prop := Wp d 27 72 [oR 70, oI x1, oI x2, none, oI x4] [] m (qV Q)
abbrev j_X12_tellWire_70_125 (d : Nat) (m : dM) (Q : dM → Prop) : Prop := Wp d 27 125 [none, none, none, none, none] [] m (qV Q)
abbrev c_X12_tellUse_70 (d : Nat) (m : dM) (Q : dM → Prop) : Prop := Wp d 28 0 [oR 70, none, none] [] m (qV Q)
abbrev j_X12_tellUse_70_118 (d : Nat) (m : dM) (Q : dM → Prop) : Prop := Wp d 28 118 [none, none, none] [] m (qV Q)
abbrev c_X12_emit_70 (d : Nat) (x1 : Int32) (x2 : Int32) (m : dM) (Q : dM → Prop) : Prop := Wp d 31 0 [oR 70, oI x1, oI x2] [] m (qV Q)
abbrev c_X12_unit_70 (d : Nat) (m : dM) (Q : dM → Prop) : Prop := Wp d 34 0 [oR 70] [] m (qV Q)
abbrev j_X12_unit_70_88 (d : Nat) (m : dM) (Q : dM → Prop) : Prop := Wp d 34 88 [oR 70] [] m (qV Q)
abbrev j_X12_unit_70_93 (d : Nat) (m : dM) (Q : dM → Prop) : Prop := Wp d 34 93 [none] [] m (qV Q)
abbrev c_X12_comesOut_70 (d : Nat) (x1 : Int32) (m : dM) (Q : dM → Prop) : Prop := Wp d 32 0 [oR 70, oI x1, none] [] m (qV Q)
abbrev j_X12_comesOut_70_0 (d : Nat) (x1 : Int32) (m : dM) (Q : dM → Prop) : Prop := Wp d 32 0 [oR 70, oI x1, none] [] m (qV Q)
abbrev j_X12_comesOut_70_41 (d : Nat) (m : dM) (Q : dM → Prop) : Prop := Wp d 32 41 [none, none, none] [] m (qV Q)
abbrev j_X12_comesOut_70_42 (d : Nat) (x1 : Int32) (x2 : Int32) (m : dM) (Q : dM → Prop) : Prop := Wp d 32 42 [oR 70, oI x1, oI x2] [] m (qV Q)
abbrev c_X12_expression_70 (d : Nat) (m : dM) (Q : dM → Prop) : Prop := Wp d 33 0 [oR 70, none, none] [] m (qV Q)
abbrev j_X12_expression_70_12 (d : Nat) (x1 : Int32) (x2 : Int32) (m : dM) (Q : dM → Prop) : Prop := Wp d 33 12 [oR 70, oI x1, oI x2] [] m (qV Q)
abbrev j_X12_expression_70_23 (d : Nat) (x1 : Int32) (m : dM) (Q : dM → Prop) : Prop := Wp d 33 23 [oR 70, oI x1, none] [] m (qV Q)
abbrev j_X12_expression_70_46 (d : Nat) (x1 : Int32) (m : dM) (Q : dM → Prop) : Prop := Wp d 33 46 [oR 70, oI x1, none] [] m (qV Q)
abbrev j_X12_expression_70_96 (d : Nat) (x1 : Int32) (m : dM) (Q : dM → Prop) : Prop := Wp d 33 96 [oR 70, oI x1, none] [] m (qV Q)
abbrev j_X12_expression_70_145 (d : Nat) (x1 : Int32) (m : dM) (Q : dM → Prop) : Prop := Wp d 33 145 [oR 70, oI x1, none] [] m (qV Q)
abbrev j_X12_expression_70_181 (d : Nat) (x1 : Int32) (m : dM) (Q : dM → Prop) : Prop := Wp d 33 181 [oR 70, oI x1, none] [] m (qV Q)
abbrev j_X12_expression_70_204 (d : Nat) (m : dM) (Q : dM → Prop) : Prop := Wp d 33 204 [oR 70, none, none] [] m (qV Q)
abbrev j_X12_expression_70_272 (d : Nat) (m : dM) (Q : dM → Prop) : Prop := Wp d 33 272 [none, none, none] [] m (qV Q)
abbrev c_X12_term_70 (d : Nat) (m : dM) (Q : dM → Prop) : Prop := Wp d 30 0 [oR 70] [] m (qV Q)
abbrev j_X12_term_70_24 (d : Nat) (m : dM) (Q : dM → Prop) : Prop := Wp d 30 24 [oR 70] [] m (qV Q)
abbrev c_X12_tellLaw_70 (d : Nat) (x1 : Int32) (m : dM) (Q : dM → Prop) : Prop := Wp d 29 0 [oR 70, oI x1, none, none] [] m (qV Q)
abbrev j_X12_tellLaw_70_12 (d : Nat) (x1 : Int32) (x2 : Int32) (x3 : Int32) (m : dM) (Q : dM → Prop) : Prop := Wp d 29 12 [oR 70, oI x1, oI x2, oI x3] [] m (qV Q)
abbrev j_X12_tellLaw_70_38 (d : Nat) (x1 : Int32) (x2 : Int32) (x3 : Int32) (m : dM) (Q : dM → Prop) : Prop := Wp d 29 38 [oR 70, oI x1, oI x2, oI x3] [] m (qV Q)
abbrev j_X12_tellLaw_70_110 (d : Nat) (x1 : Int32) (x2 : Int32) (x3 : Int32) (m : dM) (Q : dM → Prop) : Prop := Wp d 29 110 [oR 70, oI x1, oI x2, oI x3] [] m (qV Q)
abbrev j_X12_tellLaw_70_129 (d : Nat) (x1 : Int32) (x2 : Int32) (m : dM) (Q : dM → Prop) : Prop := Wp d 29 129 [oR 70, oI x1, oI x2, none] [] m (qV Q)
abbrev c_X12_tellOne_70 (d : Nat) (m : dM) (Q : dM → Prop) : Prop := Wp d 21 0 [oR 70, none] [] m (qV Q)
abbrev j_X12_tellOne_70_349 (d : Nat) (x1 : Int32) (m : dM) (Q : dM → Prop) : Prop := Wp d 21 349 [oR 70, oI x1] [] m (qV Q)
abbrev j_X12_tellOne_70_354 (d : Nat) (x1 : Int32) (m : dM) (Q : dM → Prop) : Prop := Wp d 21 354 [oR 70, oI x1] [] m (qV Q)
abbrev j_X12_tellOne_70_371 (d : Nat) (m : dM) (Q : dM → Prop) : Prop := Wp d 21 371 [none, none] [] m (qV Q)
abbrev c_X12_begins_70 (d : Nat) (m : dM) (Q : dM → Prop) : Prop := Wp d 42 0 [oR 70, none] [] m (qV Q)
abbrev j_X12_begins_70_2 (d : Nat) (x1 : Int32) (m : dM) (Q : dM → Prop) : Prop := Wp d 42 2 [oR 70, oI x1] [] m (qV Q)
abbrev j_X12_begins_70_23 (d : Nat) (x1 : Int32) (m : dM) (Q : dM → Prop) : Prop := Wp d 42 23 [oR 70, oI x1] [] m (qV Q)
abbrev j_X12_begins_70_64 (d : Nat) (x1 : Int32) (m : dM) (Q : dM → Prop) : Prop := Wp d 42 64 [oR 70, oI x1] [] m (qV Q)
abbrev c_X12_keepsRow_70 (d : Nat) (m : dM) (Q : dM → Prop) : Prop := Wp d 43 0 [oR 70, none] [] m (qV Q)
abbrev j_X12_keepsRow_70_2 (d : Nat) (x1 : Int32) (m : dM) (Q : dM → Prop) : Prop := Wp d 43 2 [oR 70, oI x1] [] m (qV Q)
abbrev c_X12_read_70 (d : Nat) (m : dM) (Q : Int32 → dM → Prop) : Prop := Wp d 18 0 [oR 70, none] [] m (qI Q)
abbrev j_X12_read_70_10 (d : Nat) (x1 : Int32) (m : dM) (Q : Int32 → dM → Prop) : Prop := Wp d 18 10 [oR 70, oI x1] [] m (qI Q)
abbrev j_X12_read_70_112 (d : Nat) (m : dM) (Q : Int32 → dM → Prop) : Prop := Wp d 18 112 [oR 70, none] [] m (qI Q)
abbrev j_X12_read_70_134 (d : Nat) (m : dM) (Q : Int32 → dM → Prop) : Prop := Wp d 18 134 [oR 70, none] [] m (qI Q)
abbrev j_X12_read_70_219 (d : Nat) (x1 : Int32) (m : dM) (Q : Int32 → dM → Prop) : Prop := Wp d 18 219 [oR 70, oI x1] [] m (qI Q)
abbrev c_X11_place_0 (d : Nat) (m : dM) (Q : Int32 → dM → Prop) : Prop := Wp d 247 0 [oR 0] [] m (qI Q)
abbrev c_X12_place_70 (d : Nat) (m : dM) (Q : Int32 → dM → Prop) : Prop := Wp d 19 0 [oR 70] [] m (qI Q)
abbrev c_X11_isFlat_0 (d : Nat) (x1 : Int32) (m : dM) (Q : Int32 → dM → Prop) : Prop := Wp d 248 0 [oR 0, oI x1] [] m (qI Q)
abbrev j_X11_isFlat_0_19 (d : Nat) (m : dM) (Q : Int32 → dM → Prop) : Prop := Wp d 248 19 [none, none] [] m (qI Q)
abbrev c_J7_fill_59 (d : Nat) (x1 : Int32) (m : dM) (Q : dM → Prop) : Prop := Wp d 286 0 [oR 59, oI x1, none, none] [] m (qV Q)
abbrev j_J7_fill_59_5 (d : Nat) (x1 : Int32) (x2 : Int32) (x3 : Int32) (m : dM) (Q : dM → Prop) : Prop := Wp d 286 5 [oR 59, oI x1, oI x2, oI x3] [] m (qV Q)
abbrev c_J7_fill_60 (d : Nat) (x1 : Int32) (m : dM) (Q : dM → Prop) : Prop := Wp d 286 0 [oR 60, oI x1, none, none] [] m (qV Q)
abbrev j_J7_fill_60_5 (d : Nat) (x1 : Int32) (x2 : Int32) (x3 : Int32) (m : dM) (Q : dM → Prop) : Prop := Wp d 286 5 [oR 60, oI x1, oI x2, oI x3] [] m (qV Q)
abbrev c_X11_has (d : Nat) (x0 : Int32) (x1 : Int32) (m : dM) (Q : Int32 → dM → Prop) : Prop := Wp d 283 0 [oI x0, oI x1] [] m (qI Q)
abbrev c_X10_reachBy_57 (d : Nat) (x1 : Int32) (x2 : Int32) (m : dM) (Q : dM → Prop) : Prop := Wp d 240 0 [oR 57, oI x1, oI x2, none, none, none] [] m (qV Q)
abbrev j_X10_reachBy_57_151 (d : Nat) (m : dM) (Q : dM → Prop) : Prop := Wp d 240 151 [none, none, none, none, none, none] [] m (qV Q)
abbrev c_X10_lay_57 (d : Nat) (x1 : Int32) (m : dM) (Q : dM → Prop) : Prop := Wp d 239 0 [oR 57, oI x1, none, none, none] [] m (qV Q)
abbrev j_X10_lay_57_58 (d : Nat) (x1 : Int32) (x2 : Int32) (m : dM) (Q : dM → Prop) : Prop := Wp d 239 58 [oR 57, oI x1, oI x2, none, none] [] m (qV Q)
abbrev j_X10_lay_57_77 (d : Nat) (x1 : Int32) (x2 : Int32) (x3 : Int32) (x4 : Int32) (m : dM) (Q : dM → Prop) : Prop := Wp d 239 77 [oR 57, oI x1, oI x2, oI x3, oI x4] [] m (qV Q)
abbrev j_X10_lay_57_105 (d : Nat) (x1 : Int32) (x2 : Int32) (x3 : Int32) (x4 : Int32) (m : dM) (Q : dM → Prop) : Prop := Wp d 239 105 [oR 57, oI x1, oI x2, oI x3, oI x4] [] m (qV Q)
abbrev j_X10_lay_57_128 (d : Nat) (m : dM) (Q : dM → Prop) : Prop := Wp d 239 128 [none, none, none, none, none] [] m (qV Q)
abbrev c_X0_waysNow_54_47 (d : Nat) (m : dM) (Q : dM → Prop) : Prop := Wp d 116 0 [oR 54, oR 47] [] m (qR 57 Q)
abbrev c_X7_hourOfDay_47 (d : Nat) (m : dM) (Q : Int32 → dM → Prop) : Prop := Wp d 212 0 [oR 47] [] m (qI Q)
abbrev c_X7_day_47 (d : Nat) (m : dM) (Q : Int32 → dM → Prop) : Prop := Wp d 213 0 [oR 47] [] m (qI Q)
abbrev c_J7_fill_55 (d : Nat) (x1 : Int32) (m : dM) (Q : dM → Prop) : Prop := Wp d 286 0 [oR 55, oI x1, none, none] [] m (qV Q)
abbrev j_J7_fill_55_5 (d : Nat) (x1 : Int32) (x2 : Int32) (x3 : Int32) (m : dM) (Q : dM → Prop) : Prop := Wp d 286 5 [oR 55, oI x1, oI x2, oI x3] [] m (qV Q)
abbrev c_X0_setVars_54 (d : Nat) (x1 : Int32) (x2 : Int32) (x3 : Int32) (m : dM) (Q : dM → Prop) : Prop := Wp d 125 0 [oR 54, oI x1, oI x2, oI x3] [] m (qV Q)
abbrev c_X4_worked_11 (d : Nat) (x1 : Int32) (x2 : Int32) (x3 : Int32) (m : dM) (Q : Int32 → dM → Prop) : Prop := Wp d 183 0 [oR 11, oI x1, oI x2, oI x3] [] m (qI Q)
abbrev c_X4_pieceTells_11_55 (d : Nat) (x1 : Int32) (x2 : Int32) (m : dM) (Q : Int32 → dM → Prop) : Prop := Wp d 182 0 [oR 11, oI x1, oI x2, oR 55, none, none, none, none] [] m (qI Q)
abbrev j_X4_pieceTells_11_55_10 (d : Nat) (m : dM) (Q : Int32 → dM → Prop) : Prop := Wp d 182 10 [none, none, none, none, none, none, none, none] [] m (qI Q)
abbrev j_X4_pieceTells_11_55_37 (d : Nat) (x4 : Int32) (x5 : Int32) (x6 : Int32) (m : dM) (Q : Int32 → dM → Prop) : Prop := Wp d 182 37 [oR 11, none, none, oR 55, oI x4, oI x5, oI x6, none] [] m (qI Q)
abbrev j_X4_pieceTells_11_55_150 (d : Nat) (x4 : Int32) (x5 : Int32) (x6 : Int32) (m : dM) (Q : Int32 → dM → Prop) : Prop := Wp d 182 150 [oR 11, none, none, oR 55, oI x4, oI x5, oI x6, none] [] m (qI Q)
abbrev j_X4_pieceTells_11_55_156 (d : Nat) (m : dM) (Q : Int32 → dM → Prop) : Prop := Wp d 182 156 [oR 11, none, none, none, none, none, none, none] [] m (qI Q)
abbrev c_X4_tells_11_55 (d : Nat) (x1 : Int32) (m : dM) (Q : Int32 → dM → Prop) : Prop := Wp d 181 0 [oR 11, oI x1, oR 55, none, none, none, none] [] m (qI Q)
abbrev j_X4_tells_11_55_17 (d : Nat) (x1 : Int32) (x3 : Int32) (x4 : Int32) (m : dM) (Q : Int32 → dM → Prop) : Prop := Wp d 181 17 [oR 11, oI x1, oR 55, oI x3, oI x4, none, none] [] m (qI Q)
abbrev j_X4_tells_11_55_93 (d : Nat) (x1 : Int32) (x3 : Int32) (m : dM) (Q : Int32 → dM → Prop) : Prop := Wp d 181 93 [oR 11, oI x1, oR 55, oI x3, none, none, none] [] m (qI Q)
abbrev c_X0_held (d : Nat) (x0 : Int32) (m : dM) (Q : Int32 → dM → Prop) : Prop := Wp d 126 0 [oI x0] [] m (qI Q)
abbrev c_X0_quarrelOf_54_47 (d : Nat) (x2 : Int32) (m : dM) (Q : Int32 → dM → Prop) : Prop := Wp d 127 0 [oR 54, oR 47, oI x2] [] m (qI Q)
abbrev c_X0_usesAt_54_47 (d : Nat) (x2 : Int32) (m : dM) (Q : Int32 → dM → Prop) : Prop := Wp d 118 0 [oR 54, oR 47, oI x2, none, none, none] [] m (qI Q)
abbrev j_X0_usesAt_54_47_16 (d : Nat) (x2 : Int32) (x3 : Int32) (x4 : Int32) (m : dM) (Q : Int32 → dM → Prop) : Prop := Wp d 118 16 [oR 54, oR 47, oI x2, oI x3, oI x4, none] [] m (qI Q)
abbrev j_X0_usesAt_54_47_60 (d : Nat) (x2 : Int32) (x3 : Int32) (x4 : Int32) (m : dM) (Q : Int32 → dM → Prop) : Prop := Wp d 118 60 [oR 54, oR 47, oI x2, oI x3, oI x4, none] [] m (qI Q)
abbrev j_X0_usesAt_54_47_110 (d : Nat) (x2 : Int32) (x3 : Int32) (x4 : Int32) (m : dM) (Q : Int32 → dM → Prop) : Prop := Wp d 118 110 [oR 54, oR 47, oI x2, oI x3, oI x4, none] [] m (qI Q)
abbrev c_X0_usesNow_54_47 (d : Nat) (m : dM) (Q : Int32 → dM → Prop) : Prop := Wp d 117 0 [oR 54, oR 47] [] m (qI Q)
abbrev c_X0_ampsOf_54 (d : Nat) (x1 : Int32) (x2 : Int32) (m : dM) (Q : Int32 → dM → Prop) : Prop := Wp d 119 0 [oR 54, oI x1, oI x2, none, none] [] m (qI Q)
abbrev j_X0_ampsOf_54_5 (d : Nat) (x1 : Int32) (x2 : Int32) (x3 : Int32) (x4 : Int32) (m : dM) (Q : Int32 → dM → Prop) : Prop := Wp d 119 5 [oR 54, oI x1, oI x2, oI x3, oI x4] [] m (qI Q)
abbrev c_X11_flat_0 (d : Nat) (x1 : Int32) (x2 : Int32) (m : dM) (Q : Int32 → dM → Prop) : Prop := Wp d 251 0 [oR 0, oI x1, oI x2, none] [] m (qI Q)
abbrev c_X12_in (d : Nat) (x0 : Int32) (x1 : Int32) (x2 : Int32) (m : dM) (Q : Int32 → dM → Prop) : Prop := Wp d 36 0 [oI x0, oI x1, oI x2] [] m (qI Q)
abbrev j_X12_in_14 (d : Nat) (m : dM) (Q : Int32 → dM → Prop) : Prop := Wp d 36 14 [none, none, none] [] m (qI Q)
abbrev c_X12_isFlat_70 (d : Nat) (x1 : Int32) (m : dM) (Q : Int32 → dM → Prop) : Prop := Wp d 39 0 [oR 70, oI x1] [] m (qI Q)
abbrev c_X12_isWire_70 (d : Nat) (x1 : Int32) (m : dM) (Q : Int32 → dM → Prop) : Prop := Wp d 40 0 [oR 70, oI x1] [] m (qI Q)
abbrev c_X12_isWhole_70 (d : Nat) (x1 : Int32) (m : dM) (Q : Int32 → dM → Prop) : Prop := Wp d 47 0 [oR 70, oI x1] [] m (qI Q)
abbrev j_X12_isWhole_70_24 (d : Nat) (m : dM) (Q : Int32 → dM → Prop) : Prop := Wp d 47 24 [none, none] [] m (qI Q)
abbrev c_X12_otherEnd_70 (d : Nat) (x1 : Int32) (x2 : Int32) (m : dM) (Q : Int32 → dM → Prop) : Prop := Wp d 48 0 [oR 70, oI x1, oI x2, none] [] m (qI Q)
abbrev c_X12_wireFrom_70 (d : Nat) (x1 : Int32) (m : dM) (Q : Int32 → dM → Prop) : Prop := Wp d 49 0 [oR 70, oI x1, none, none] [] m (qI Q)
abbrev j_X12_wireFrom_70_2 (d : Nat) (x1 : Int32) (x2 : Int32) (m : dM) (Q : Int32 → dM → Prop) : Prop := Wp d 49 2 [oR 70, oI x1, oI x2, none] [] m (qI Q)
abbrev j_X12_wireFrom_70_56 (d : Nat) (x1 : Int32) (x2 : Int32) (m : dM) (Q : Int32 → dM → Prop) : Prop := Wp d 49 56 [oR 70, oI x1, oI x2, none] [] m (qI Q)
abbrev c_X12_fillsWays_70 (d : Nat) (m : dM) (Q : dM → Prop) : Prop := Wp d 50 0 [oR 70, none, none, none, none] [] m (qV Q)
abbrev j_X12_fillsWays_70_2 (d : Nat) (x1 : Int32) (m : dM) (Q : dM → Prop) : Prop := Wp d 50 2 [oR 70, oI x1, none, none, none] [] m (qV Q)
abbrev j_X12_fillsWays_70_51 (d : Nat) (x1 : Int32) (m : dM) (Q : dM → Prop) : Prop := Wp d 50 51 [oR 70, oI x1, none, none, none] [] m (qV Q)
abbrev j_X12_fillsWays_70_59 (d : Nat) (x1 : Int32) (x2 : Int32) (m : dM) (Q : dM → Prop) : Prop := Wp d 50 59 [oR 70, oI x1, oI x2, none, none] [] m (qV Q)
abbrev j_X12_fillsWays_70_146 (d : Nat) (x1 : Int32) (x2 : Int32) (x3 : Int32) (x4 : Int32) (m : dM) (Q : dM → Prop) : Prop := Wp d 50 146 [oR 70, oI x1, oI x2, oI x3, oI x4] [] m (qV Q)
abbrev j_X12_fillsWays_70_177 (d : Nat) (x1 : Int32) (x2 : Int32) (m : dM) (Q : dM → Prop) : Prop := Wp d 50 177 [oR 70, oI x1, oI x2, none, none] [] m (qV Q)
abbrev j_X12_fillsWays_70_191 (d : Nat) (x1 : Int32) (m : dM) (Q : dM → Prop) : Prop := Wp d 50 191 [oR 70, oI x1, none, none, none] [] m (qV Q)
abbrev j_X12_fillsWays_70_199 (d : Nat) (x1 : Int32) (x2 : Int32) (m : dM) (Q : dM → Prop) : Prop := Wp d 50 199 [oR 70, oI x1, oI x2, none, none] [] m (qV Q)
abbrev j_X12_fillsWays_70_245 (d : Nat) (x1 : Int32) (x2 : Int32) (m : dM) (Q : dM → Prop) : Prop := Wp d 50 245 [oR 70, oI x1, oI x2, none, none] [] m (qV Q)
abbrev c_X12_copies_70 (d : Nat) (m : dM) (Q : dM → Prop) : Prop := Wp d 44 0 [oR 70, none] [] m (qV Q)
abbrev j_X12_copies_70_2 (d : Nat) (x1 : Int32) (m : dM) (Q : dM → Prop) : Prop := Wp d 44 2 [oR 70, oI x1] [] m (qV Q)
abbrev c_X12_isLit_70 (d : Nat) (x1 : Int32) (m : dM) (Q : Int32 → dM → Prop) : Prop := Wp d 51 0 [oR 70, oI x1] [] m (qI Q)
abbrev c_X12_looks_70 (d : Nat) (x1 : Int32) (x2 : Int32) (m : dM) (Q : dM → Prop) : Prop := Wp d 58 0 [oR 70, oI x1, oI x2, none] [] m (qV Q)
abbrev j_X12_looks_70_2 (d : Nat) (x1 : Int32) (x2 : Int32) (x3 : Int32) (m : dM) (Q : dM → Prop) : Prop := Wp d 58 2 [oR 70, oI x1, oI x2, oI x3] [] m (qV Q)
abbrev c_X12_termOf_70 (d : Nat) (x1 : Int32) (x2 : Int32) (m : dM) (Q : Int32 → dM → Prop) : Prop := Wp d 35 0 [oR 70, oI x1, oI x2, none, none, none, none, none] [] m (qI Q)
abbrev j_X12_termOf_70_5 (d : Nat) (x2 : Int32) (x3 : Int32) (x4 : Int32) (m : dM) (Q : Int32 → dM → Prop) : Prop := Wp d 35 5 [oR 70, none, oI x2, oI x3, oI x4, none, none, none] [] m (qI Q)
abbrev j_X12_termOf_70_104 (d : Nat) (x2 : Int32) (x3 : Int32) (x4 : Int32) (x5 : Int32) (x6 : Int32) (x7 : Int32) (m : dM) (Q : Int32 → dM → Prop) : Prop := Wp d 35 104 [oR 70, none, oI x2, oI x3, oI x4, oI x5, oI x6, oI x7] [] m (qI Q)
abbrev j_X12_termOf_70_159 (d : Nat) (x2 : Int32) (x3 : Int32) (x4 : Int32) (m : dM) (Q : Int32 → dM → Prop) : Prop := Wp d 35 159 [oR 70, none, oI x2, oI x3, oI x4, none, none, none] [] m (qI Q)
abbrev c_X12_lawTells_70 (d : Nat) (x1 : Int32) (x2 : Int32) (m : dM) (Q : Int32 → dM → Prop) : Prop := Wp d 59 0 [oR 70, oI x1, oI x2, none, none, none, none] [] m (qI Q)
abbrev j_X12_lawTells_70_39 (d : Nat) (x3 : Int32) (x4 : Int32) (m : dM) (Q : Int32 → dM → Prop) : Prop := Wp d 59 39 [oR 70, none, none, oI x3, oI x4, none, none] [] m (qI Q)
abbrev j_X12_lawTells_70_119 (d : Nat) (x4 : Int32) (m : dM) (Q : Int32 → dM → Prop) : Prop := Wp d 59 119 [oR 70, none, none, none, oI x4, none, none] [] m (qI Q)
abbrev c_X12_within (d : Nat) (x0 : Int32) (x1 : Int32) (x2 : Int32) (m : dM) (Q : Int32 → dM → Prop) : Prop := Wp d 37 0 [oI x0, oI x1, oI x2] [] m (qI Q)
abbrev c_X12_quarrelOf_70 (d : Nat) (x1 : Int32) (m : dM) (Q : Int32 → dM → Prop) : Prop := Wp d 62 0 [oR 70, oI x1] [] m (qI Q)
abbrev c_X12_flatAt_70 (d : Nat) (x1 : Int32) (m : dM) (Q : Int32 → dM → Prop) : Prop := Wp d 53 0 [oR 70, oI x1] [] m (qI Q)
abbrev c_X12_onAt_70 (d : Nat) (x1 : Int32) (m : dM) (Q : Int32 → dM → Prop) : Prop := Wp d 55 0 [oR 70, oI x1, none, none] [] m (qI Q)
abbrev j_X12_onAt_70_4 (d : Nat) (x1 : Int32) (x2 : Int32) (x3 : Int32) (m : dM) (Q : Int32 → dM → Prop) : Prop := Wp d 55 4 [oR 70, oI x1, oI x2, oI x3] [] m (qI Q)
abbrev j_X12_onAt_70_83 (d : Nat) (x1 : Int32) (x2 : Int32) (x3 : Int32) (m : dM) (Q : Int32 → dM → Prop) : Prop := Wp d 55 83 [oR 70, oI x1, oI x2, oI x3] [] m (qI Q)
abbrev c_X12_onNow_70 (d : Nat) (m : dM) (Q : Int32 → dM → Prop) : Prop := Wp d 56 0 [oR 70] [] m (qI Q)
abbrev c_X12_ampsAt_70 (d : Nat) (x1 : Int32) (m : dM) (Q : Int32 → dM → Prop) : Prop := Wp d 54 0 [oR 70, oI x1] [] m (qI Q)
abbrev c_X12_ampsOn_70 (d : Nat) (x1 : Int32) (m : dM) (Q : Int32 → dM → Prop) : Prop := Wp d 70 0 [oR 70, oI x1, none, none, none] [] m (qI Q)
abbrev j_X12_ampsOn_70_10 (d : Nat) (x1 : Int32) (x2 : Int32) (x3 : Int32) (x4 : Int32) (m : dM) (Q : Int32 → dM → Prop) : Prop := Wp d 70 10 [oR 70, oI x1, oI x2, oI x3, oI x4] [] m (qI Q)
abbrev j_X12_ampsOn_70_53 (d : Nat) (x1 : Int32) (x2 : Int32) (x3 : Int32) (x4 : Int32) (m : dM) (Q : Int32 → dM → Prop) : Prop := Wp d 70 53 [oR 70, oI x1, oI x2, oI x3, oI x4] [] m (qI Q)
abbrev c_X12_flat_70 (d : Nat) (x1 : Int32) (x2 : Int32) (m : dM) (Q : Int32 → dM → Prop) : Prop := Wp d 69 0 [oR 70, oI x1, oI x2] [] m (qI Q)
abbrev c_X11_isWire_0 (d : Nat) (x1 : Int32) (m : dM) (Q : Int32 → dM → Prop) : Prop := Wp d 249 0 [oR 0, oI x1] [] m (qI Q)
abbrev j_X11_isWire_0_19 (d : Nat) (m : dM) (Q : Int32 → dM → Prop) : Prop := Wp d 249 19 [none, none] [] m (qI Q)
abbrev c_J7_fill_56 (d : Nat) (x1 : Int32) (m : dM) (Q : dM → Prop) : Prop := Wp d 286 0 [oR 56, oI x1, none, none] [] m (qV Q)
abbrev j_J7_fill_56_5 (d : Nat) (x1 : Int32) (x2 : Int32) (x3 : Int32) (m : dM) (Q : dM → Prop) : Prop := Wp d 286 5 [oR 56, oI x1, oI x2, oI x3] [] m (qV Q)
abbrev c_X0_putOn_54_47 (d : Nat) (x2 : Int32) (m : dM) (Q : dM → Prop) : Prop := Wp d 120 0 [oR 54, oR 47, oI x2, none, none, none] [] m (qV Q)
abbrev j_X0_putOn_54_47_21 (d : Nat) (x2 : Int32) (x3 : Int32) (m : dM) (Q : dM → Prop) : Prop := Wp d 120 21 [oR 54, none, oI x2, oI x3, none, none] [] m (qV Q)
abbrev j_X0_putOn_54_47_66 (d : Nat) (x2 : Int32) (x3 : Int32) (x4 : Int32) (x5 : Int32) (m : dM) (Q : dM → Prop) : Prop := Wp d 120 66 [oR 54, none, oI x2, oI x3, oI x4, oI x5] [] m (qV Q)
abbrev j_X0_putOn_54_47_125 (d : Nat) (x2 : Int32) (x3 : Int32) (m : dM) (Q : dM → Prop) : Prop := Wp d 120 125 [oR 54, none, oI x2, oI x3, none, none] [] m (qV Q)
abbrev c_X0_loadNow_54_47 (d : Nat) (x2 : Int32) (m : dM) (Q : Int32 → dM → Prop) : Prop := Wp d 121 0 [oR 54, oR 47, oI x2] [] m (qI Q)
abbrev c_X0_costOf_54_47 (d : Nat) (x2 : Int32) (m : dM) (Q : Int32 → dM → Prop) : Prop := Wp d 128 0 [oR 54, oR 47, oI x2] [] m (qI Q)
abbrev c_X0_going_54_47 (d : Nat) (x2 : Int32) (x3 : Int32) (m : dM) (Q : Int32 → dM → Prop) : Prop := Wp d 124 0 [oR 54, oR 47, oI x2, oI x3, none, none] [] m (qI Q)
abbrev j_X0_going_54_47_6 (d : Nat) (x2 : Int32) (x3 : Int32) (x4 : Int32) (x5 : Int32) (m : dM) (Q : Int32 → dM → Prop) : Prop := Wp d 124 6 [oR 54, oR 47, oI x2, oI x3, oI x4, oI x5] [] m (qI Q)
abbrev j_X0_going_54_47_119 (d : Nat) (x2 : Int32) (x3 : Int32) (x4 : Int32) (x5 : Int32) (m : dM) (Q : Int32 → dM → Prop) : Prop := Wp d 124 119 [oR 54, oR 47, oI x2, oI x3, oI x4, oI x5] [] m (qI Q)
abbrev c_X0_goingWith_54_47 (d : Nat) (x2 : Int32) (m : dM) (Q : Int32 → dM → Prop) : Prop := Wp d 123 0 [oR 54, oR 47, oI x2] [] m (qI Q)
abbrev c_X0_goingNow_54_47 (d : Nat) (m : dM) (Q : Int32 → dM → Prop) : Prop := Wp d 122 0 [oR 54, oR 47] [] m (qI Q)
abbrev c_X11_wire_0 (d : Nat) (x1 : Int32) (x2 : Int32) (m : dM) (Q : Int32 → dM → Prop) : Prop := Wp d 252 0 [oR 0, oI x1, oI x2] [] m (qI Q)
abbrev c_X12_loadBy_70 (d : Nat) (x1 : Int32) (x2 : Int32) (m : dM) (Q : Int32 → dM → Prop) : Prop := Wp d 57 0 [oR 70, oI x1, oI x2, none, none] [] m (qI Q)
abbrev j_X12_loadBy_70_5 (d : Nat) (x1 : Int32) (x2 : Int32) (x3 : Int32) (x4 : Int32) (m : dM) (Q : Int32 → dM → Prop) : Prop := Wp d 57 5 [oR 70, oI x1, oI x2, oI x3, oI x4] [] m (qI Q)
abbrev j_X12_loadBy_70_57 (d : Nat) (x1 : Int32) (x2 : Int32) (x3 : Int32) (x4 : Int32) (m : dM) (Q : Int32 → dM → Prop) : Prop := Wp d 57 57 [oR 70, oI x1, oI x2, oI x3, oI x4] [] m (qI Q)
abbrev c_X12_costsOf_70 (d : Nat) (x1 : Int32) (m : dM) (Q : Int32 → dM → Prop) : Prop := Wp d 63 0 [oR 70, oI x1] [] m (qI Q)
abbrev c_X12_doesGo_70 (d : Nat) (x1 : Int32) (x2 : Int32) (x3 : Int32) (x4 : Int32) (m : dM) (Q : Int32 → dM → Prop) : Prop := Wp d 60 0 [oR 70, oI x1, oI x2, oI x3, oI x4, none] [] m (qI Q)
abbrev j_X12_doesGo_70_21 (d : Nat) (m : dM) (Q : Int32 → dM → Prop) : Prop := Wp d 60 21 [none, none, none, none, none, none] [] m (qI Q)
abbrev c_X12_wire_70 (d : Nat) (x1 : Int32) (x2 : Int32) (m : dM) (Q : Int32 → dM → Prop) : Prop := Wp d 71 0 [oR 70, oI x1, oI x2] [] m (qI Q)
abbrev c_X11_isUse_0 (d : Nat) (x1 : Int32) (m : dM) (Q : Int32 → dM → Prop) : Prop := Wp d 250 0 [oR 0, oI x1] [] m (qI Q)
abbrev j_X11_isUse_0_19 (d : Nat) (m : dM) (Q : Int32 → dM → Prop) : Prop := Wp d 250 19 [none, none] [] m (qI Q)
abbrev c_X0_payOf_54_47 (d : Nat) (x2 : Int32) (m : dM) (Q : Int32 → dM → Prop) : Prop := Wp d 129 0 [oR 54, oR 47, oI x2] [] m (qI Q)
abbrev c_X11_use_0 (d : Nat) (x1 : Int32) (x2 : Int32) (m : dM) (Q : Int32 → dM → Prop) : Prop := Wp d 253 0 [oR 0, oI x1, oI x2, none] [] m (qI Q)
abbrev c_X12_isUse_70 (d : Nat) (x1 : Int32) (m : dM) (Q : Int32 → dM → Prop) : Prop := Wp d 41 0 [oR 70, oI x1] [] m (qI Q)
abbrev c_X12_paysOf_70 (d : Nat) (x1 : Int32) (m : dM) (Q : Int32 → dM → Prop) : Prop := Wp d 64 0 [oR 70, oI x1] [] m (qI Q)
abbrev c_X12_use_70 (d : Nat) (x1 : Int32) (x2 : Int32) (m : dM) (Q : Int32 → dM → Prop) : Prop := Wp d 72 0 [oR 70, oI x1, oI x2] [] m (qI Q)
abbrev c_X7_writeTo_47_52 (d : Nat) (x2 : Int32) (m : dM) (Q : dM → Prop) : Prop := Wp d 210 0 [oR 47, oR 52, oI x2] [] m (qV Q)
abbrev j_X7_writeTo_47_52_13 (d : Nat) (m : dM) (Q : dM → Prop) : Prop := Wp d 210 13 [none, none, none] [] m (qV Q)
abbrev c_X6_keep_51_47 (d : Nat) (m : dM) (Q : dM → Prop) : Prop := Wp d 203 0 [oR 51, oR 47] [] m (qV Q)
abbrev c_X11_agree_0 (d : Nat) (x1 : Int32) (x2 : Int32) (m : dM) (Q : Int32 → dM → Prop) : Prop := Wp d 254 0 [oR 0, oI x1, oI x2] [] m (qI Q)
abbrev j_X11_agree_0_23 (d : Nat) (m : dM) (Q : Int32 → dM → Prop) : Prop := Wp d 254 23 [none, none, none] [] m (qI Q)
abbrev c_X12_records_70 (d : Nat) (m : dM) (Q : dM → Prop) : Prop := Wp d 73 0 [oR 70, none] [] m (qV Q)
abbrev j_X12_records_70_11 (d : Nat) (x1 : Int32) (m : dM) (Q : dM → Prop) : Prop := Wp d 73 11 [oR 70, oI x1] [] m (qV Q)
abbrev j_X12_records_70_49 (d : Nat) (m : dM) (Q : dM → Prop) : Prop := Wp d 73 49 [oR 70, none] [] m (qV Q)
abbrev j_X12_records_70_51 (d : Nat) (x1 : Int32) (m : dM) (Q : dM → Prop) : Prop := Wp d 73 51 [oR 70, oI x1] [] m (qV Q)
abbrev c_X12_agree_70 (d : Nat) (x1 : Int32) (x2 : Int32) (m : dM) (Q : Int32 → dM → Prop) : Prop := Wp d 74 0 [oR 70, oI x1, oI x2] [] m (qI Q)
abbrev j_X12_agree_70_30 (d : Nat) (m : dM) (Q : Int32 → dM → Prop) : Prop := Wp d 74 30 [none, none, none] [] m (qI Q)
abbrev c_X11_mend_0 (d : Nat) (x1 : Int32) (m : dM) (Q : Int32 → dM → Prop) : Prop := Wp d 255 0 [oR 0, oI x1, none] [] m (qI Q)
abbrev j_X11_mend_0_48 (d : Nat) (m : dM) (Q : Int32 → dM → Prop) : Prop := Wp d 255 48 [none, none, none] [] m (qI Q)
abbrev c_X12_mend_70 (d : Nat) (x1 : Int32) (m : dM) (Q : Int32 → dM → Prop) : Prop := Wp d 75 0 [oR 70, oI x1] [] m (qI Q)
abbrev j_X12_mend_70_41 (d : Nat) (m : dM) (Q : Int32 → dM → Prop) : Prop := Wp d 75 41 [none, none] [] m (qI Q)
abbrev c_X11_thicken_0 (d : Nat) (x1 : Int32) (m : dM) (Q : Int32 → dM → Prop) : Prop := Wp d 256 0 [oR 0, oI x1, none] [] m (qI Q)
abbrev j_X11_thicken_0_62 (d : Nat) (m : dM) (Q : Int32 → dM → Prop) : Prop := Wp d 256 62 [none, none, none] [] m (qI Q)
abbrev c_X12_thicken_70 (d : Nat) (x1 : Int32) (m : dM) (Q : Int32 → dM → Prop) : Prop := Wp d 76 0 [oR 70, oI x1] [] m (qI Q)
abbrev j_X12_thicken_70_53 (d : Nat) (m : dM) (Q : Int32 → dM → Prop) : Prop := Wp d 76 53 [none, none] [] m (qI Q)
abbrev c_X11_pin_0 (d : Nat) (x1 : Int32) (x2 : Int32) (m : dM) (Q : Int32 → dM → Prop) : Prop := Wp d 257 0 [oR 0, oI x1, oI x2] [] m (qI Q)
abbrev j_X11_pin_0_37 (d : Nat) (m : dM) (Q : Int32 → dM → Prop) : Prop := Wp d 257 37 [none, none, none] [] m (qI Q)
abbrev c_X12_pin_70 (d : Nat) (x1 : Int32) (x2 : Int32) (m : dM) (Q : Int32 → dM → Prop) : Prop := Wp d 77 0 [oR 70, oI x1, oI x2] [] m (qI Q)
abbrev j_X12_pin_70_43 (d : Nat) (m : dM) (Q : Int32 → dM → Prop) : Prop := Wp d 77 43 [none, none, none] [] m (qI Q)
abbrev c_X0_takePay_54_47 (d : Nat) (m : dM) (Q : dM → Prop) : Prop := Wp d 135 0 [oR 54, oR 47, none, none] [] m (qV Q)
abbrev j_X0_takePay_54_47_12 (d : Nat) (x2 : Int32) (x3 : Int32) (m : dM) (Q : dM → Prop) : Prop := Wp d 135 12 [oR 54, oR 47, oI x2, oI x3] [] m (qV Q)
abbrev j_X0_takePay_54_47_51 (d : Nat) (x2 : Int32) (x3 : Int32) (m : dM) (Q : dM → Prop) : Prop := Wp d 135 51 [oR 54, oR 47, oI x2, oI x3] [] m (qV Q)
abbrev c_X0_countQuarrels_54_47 (d : Nat) (m : dM) (Q : dM → Prop) : Prop := Wp d 136 0 [oR 54, oR 47, none] [] m (qV Q)
abbrev j_X0_countQuarrels_54_47_13 (d : Nat) (x2 : Int32) (m : dM) (Q : dM → Prop) : Prop := Wp d 136 13 [oR 54, oR 47, oI x2] [] m (qV Q)
abbrev j_X0_countQuarrels_54_47_78 (d : Nat) (x2 : Int32) (m : dM) (Q : dM → Prop) : Prop := Wp d 136 78 [oR 54, oR 47, oI x2] [] m (qV Q)
abbrev c_X0_stirred (d : Nat) (x0 : Int32) (x1 : Int32) (m : dM) (Q : Int32 → dM → Prop) : Prop := Wp d 133 0 [oI x0, oI x1, none] [] m (qI Q)
abbrev c_X0_lot (d : Nat) (x0 : Int32) (x1 : Int32) (x2 : Int32) (m : dM) (Q : Int32 → dM → Prop) : Prop := Wp d 132 0 [oI x0, oI x1, oI x2, none] [] m (qI Q)
abbrev c_X0_isSurge_54 (d : Nat) (x1 : Int32) (x2 : Int32) (m : dM) (Q : Int32 → dM → Prop) : Prop := Wp d 130 0 [oR 54, oI x1, oI x2] [] m (qI Q)
abbrev c_X0_surgeOf_54 (d : Nat) (x1 : Int32) (x2 : Int32) (m : dM) (Q : Int32 → dM → Prop) : Prop := Wp d 131 0 [oR 54, oI x1, oI x2] [] m (qI Q)
abbrev c_X0_passWires_54_47 (d : Nat) (x2 : Int32) (m : dM) (Q : Int32 → dM → Prop) : Prop := Wp d 137 0 [oR 54, oR 47, oI x2, none, none] [] m (qI Q)
abbrev j_X0_passWires_54_47_38 (d : Nat) (x3 : Int32) (x4 : Int32) (m : dM) (Q : Int32 → dM → Prop) : Prop := Wp d 137 38 [oR 54, oR 47, none, oI x3, oI x4] [] m (qI Q)
abbrev j_X0_passWires_54_47_84 (d : Nat) (x3 : Int32) (x4 : Int32) (m : dM) (Q : Int32 → dM → Prop) : Prop := Wp d 137 84 [oR 54, oR 47, none, oI x3, oI x4] [] m (qI Q)
abbrev c_X0_passHour_54_47 (d : Nat) (m : dM) (Q : dM → Prop) : Prop := Wp d 134 0 [oR 54, oR 47] [] m (qV Q)
abbrev c_X11_hours_0 (d : Nat) (x1 : Int32) (m : dM) (Q : Int32 → dM → Prop) : Prop := Wp d 258 0 [oR 0, oI x1, none] [] m (qI Q)
abbrev j_X11_hours_0_10 (d : Nat) (m : dM) (Q : Int32 → dM → Prop) : Prop := Wp d 258 10 [none, none, none] [] m (qI Q)
abbrev j_X11_hours_0_27 (d : Nat) (x1 : Int32) (m : dM) (Q : Int32 → dM → Prop) : Prop := Wp d 258 27 [oR 0, oI x1, none] [] m (qI Q)
abbrev j_X11_hours_0_29 (d : Nat) (x1 : Int32) (x2 : Int32) (m : dM) (Q : Int32 → dM → Prop) : Prop := Wp d 258 29 [oR 0, oI x1, oI x2] [] m (qI Q)
abbrev c_X12_isLong (d : Nat) (x0 : Int32) (m : dM) (Q : Int32 → dM → Prop) : Prop := Wp d 78 0 [oI x0] [] m (qI Q)
abbrev c_X12_goingBits_70 (d : Nat) (x1 : Int32) (x2 : Int32) (x3 : Int32) (m : dM) (Q : Int32 → dM → Prop) : Prop := Wp d 61 0 [oR 70, oI x1, oI x2, oI x3, none, none] [] m (qI Q)
abbrev j_X12_goingBits_70_6 (d : Nat) (x1 : Int32) (x2 : Int32) (x3 : Int32) (x4 : Int32) (x5 : Int32) (m : dM) (Q : Int32 → dM → Prop) : Prop := Wp d 61 6 [oR 70, oI x1, oI x2, oI x3, oI x4, oI x5] [] m (qI Q)
abbrev j_X12_goingBits_70_41 (d : Nat) (x1 : Int32) (x2 : Int32) (x3 : Int32) (x4 : Int32) (x5 : Int32) (m : dM) (Q : Int32 → dM → Prop) : Prop := Wp d 61 41 [oR 70, oI x1, oI x2, oI x3, oI x4, oI x5] [] m (qI Q)
abbrev c_X12_paysAll_70 (d : Nat) (x1 : Int32) (m : dM) (Q : Int32 → dM → Prop) : Prop := Wp d 65 0 [oR 70, oI x1, none, none] [] m (qI Q)
abbrev j_X12_paysAll_70_4 (d : Nat) (x1 : Int32) (x2 : Int32) (x3 : Int32) (m : dM) (Q : Int32 → dM → Prop) : Prop := Wp d 65 4 [oR 70, oI x1, oI x2, oI x3] [] m (qI Q)
abbrev j_X12_paysAll_70_34 (d : Nat) (x1 : Int32) (x2 : Int32) (x3 : Int32) (m : dM) (Q : Int32 → dM → Prop) : Prop := Wp d 65 34 [oR 70, oI x1, oI x2, oI x3] [] m (qI Q)
abbrev c_X12_quarrelsAll_70 (d : Nat) (m : dM) (Q : Int32 → dM → Prop) : Prop := Wp d 66 0 [oR 70, none, none] [] m (qI Q)
abbrev j_X12_quarrelsAll_70_4 (d : Nat) (x1 : Int32) (x2 : Int32) (m : dM) (Q : Int32 → dM → Prop) : Prop := Wp d 66 4 [oR 70, oI x1, oI x2] [] m (qI Q)
abbrev j_X12_quarrelsAll_70_33 (d : Nat) (x1 : Int32) (x2 : Int32) (m : dM) (Q : Int32 → dM → Prop) : Prop := Wp d 66 33 [oR 70, oI x1, oI x2] [] m (qI Q)
abbrev c_X12_mixed (d : Nat) (x0 : Int32) (x1 : Int32) (m : dM) (Q : Int32 → dM → Prop) : Prop := Wp d 45 0 [oI x0, oI x1, none] [] m (qI Q)
abbrev c_X12_isSurge_70 (d : Nat) (m : dM) (Q : Int32 → dM → Prop) : Prop := Wp d 46 0 [oR 70] [] m (qI Q)
abbrev c_X12_hourGoes_70 (d : Nat) (m : dM) (Q : dM → Prop) : Prop := Wp d 67 0 [oR 70, none, none, none, none] [] m (qV Q)
abbrev j_X12_hourGoes_70_111 (d : Nat) (x4 : Int32) (m : dM) (Q : dM → Prop) : Prop := Wp d 67 111 [oR 70, none, none, none, oI x4] [] m (qV Q)
abbrev j_X12_hourGoes_70_169 (d : Nat) (x4 : Int32) (m : dM) (Q : dM → Prop) : Prop := Wp d 67 169 [oR 70, none, none, none, oI x4] [] m (qV Q)
abbrev j_X12_hourGoes_70_256 (d : Nat) (x4 : Int32) (m : dM) (Q : dM → Prop) : Prop := Wp d 67 256 [oR 70, none, none, none, oI x4] [] m (qV Q)
abbrev j_X12_hourGoes_70_284 (d : Nat) (m : dM) (Q : dM → Prop) : Prop := Wp d 67 284 [none, none, none, none, none] [] m (qV Q)
abbrev c_X12_goes_70 (d : Nat) (x1 : Int32) (m : dM) (Q : dM → Prop) : Prop := Wp d 68 0 [oR 70, oI x1, none] [] m (qV Q)
abbrev j_X12_goes_70_2 (d : Nat) (x1 : Int32) (x2 : Int32) (m : dM) (Q : dM → Prop) : Prop := Wp d 68 2 [oR 70, oI x1, oI x2] [] m (qV Q)
abbrev c_X12_hours_70 (d : Nat) (x1 : Int32) (m : dM) (Q : Int32 → dM → Prop) : Prop := Wp d 79 0 [oR 70, oI x1] [] m (qI Q)
abbrev c_X7_readFrom_47_52 (d : Nat) (x2 : Int32) (m : dM) (Q : dM → Prop) : Prop := Wp d 211 0 [oR 47, oR 52, oI x2] [] m (qV Q)
abbrev j_X7_readFrom_47_52_13 (d : Nat) (m : dM) (Q : dM → Prop) : Prop := Wp d 211 13 [none, none, none] [] m (qV Q)
abbrev c_X6_takeBack_51_47 (d : Nat) (m : dM) (Q : Int32 → dM → Prop) : Prop := Wp d 204 0 [oR 51, oR 47] [] m (qI Q)
abbrev c_X11_undo_0 (d : Nat) (m : dM) (Q : Int32 → dM → Prop) : Prop := Wp d 259 0 [oR 0] [] m (qI Q)
abbrev c_X12_undo_70 (d : Nat) (m : dM) (Q : Int32 → dM → Prop) : Prop := Wp d 80 0 [oR 70, none] [] m (qI Q)
abbrev j_X12_undo_70_21 (d : Nat) (x1 : Int32) (m : dM) (Q : Int32 → dM → Prop) : Prop := Wp d 80 21 [oR 70, oI x1] [] m (qI Q)
abbrev c_X10_wireAt_57 (d : Nat) (x1 : Int32) (x2 : Int32) (m : dM) (Q : Int32 → dM → Prop) : Prop := Wp d 241 0 [oR 57, oI x1, oI x2, none, none, none] [] m (qI Q)
abbrev j_X10_wireAt_57_14 (d : Nat) (m : dM) (Q : Int32 → dM → Prop) : Prop := Wp d 241 14 [none, none, none, none, none, none] [] m (qI Q)
abbrev j_X10_wireAt_57_21 (d : Nat) (x2 : Int32) (x3 : Int32) (x4 : Int32) (m : dM) (Q : Int32 → dM → Prop) : Prop := Wp d 241 21 [oR 57, none, oI x2, oI x3, oI x4, none] [] m (qI Q)
abbrev c_X11_way_0 (d : Nat) (x1 : Int32) (x2 : Int32) (m : dM) (Q : Int32 → dM → Prop) : Prop := Wp d 260 0 [oR 0, oI x1, oI x2, none] [] m (qI Q)
abbrev j_X11_way_0_12 (d : Nat) (m : dM) (Q : Int32 → dM → Prop) : Prop := Wp d 260 12 [none, none, none, none] [] m (qI Q)
abbrev c_X12_way_70 (d : Nat) (x1 : Int32) (x2 : Int32) (m : dM) (Q : Int32 → dM → Prop) : Prop := Wp d 81 0 [oR 70, oI x1, oI x2, none, none] [] m (qI Q)
abbrev j_X12_way_70_12 (d : Nat) (m : dM) (Q : Int32 → dM → Prop) : Prop := Wp d 81 12 [none, none, none, none, none] [] m (qI Q)
abbrev j_X12_way_70_46 (d : Nat) (x2 : Int32) (x3 : Int32) (x4 : Int32) (m : dM) (Q : Int32 → dM → Prop) : Prop := Wp d 81 46 [oR 70, none, oI x2, oI x3, oI x4] [] m (qI Q)
abbrev c_X7_copy_62_47 (d : Nat) (m : dM) (Q : dM → Prop) : Prop := Wp d 209 0 [oR 62, oR 47] [] m (qV Q)
abbrev c_X7_hourOfDay_62 (d : Nat) (m : dM) (Q : Int32 → dM → Prop) : Prop := Wp d 212 0 [oR 62] [] m (qI Q)
abbrev c_X0_usesAt_54_62 (d : Nat) (x2 : Int32) (m : dM) (Q : Int32 → dM → Prop) : Prop := Wp d 118 0 [oR 54, oR 62, oI x2, none, none, none] [] m (qI Q)
abbrev j_X0_usesAt_54_62_16 (d : Nat) (x2 : Int32) (x3 : Int32) (x4 : Int32) (m : dM) (Q : Int32 → dM → Prop) : Prop := Wp d 118 16 [oR 54, oR 62, oI x2, oI x3, oI x4, none] [] m (qI Q)
abbrev j_X0_usesAt_54_62_60 (d : Nat) (x2 : Int32) (x3 : Int32) (x4 : Int32) (m : dM) (Q : Int32 → dM → Prop) : Prop := Wp d 118 60 [oR 54, oR 62, oI x2, oI x3, oI x4, none] [] m (qI Q)
abbrev j_X0_usesAt_54_62_110 (d : Nat) (x2 : Int32) (x3 : Int32) (x4 : Int32) (m : dM) (Q : Int32 → dM → Prop) : Prop := Wp d 118 110 [oR 54, oR 62, oI x2, oI x3, oI x4, none] [] m (qI Q)
abbrev c_X0_putOn_54_62 (d : Nat) (x2 : Int32) (m : dM) (Q : dM → Prop) : Prop := Wp d 120 0 [oR 54, oR 62, oI x2, none, none, none] [] m (qV Q)
abbrev j_X0_putOn_54_62_21 (d : Nat) (x2 : Int32) (x3 : Int32) (m : dM) (Q : dM → Prop) : Prop := Wp d 120 21 [oR 54, none, oI x2, oI x3, none, none] [] m (qV Q)
abbrev j_X0_putOn_54_62_66 (d : Nat) (x2 : Int32) (x3 : Int32) (x4 : Int32) (x5 : Int32) (m : dM) (Q : dM → Prop) : Prop := Wp d 120 66 [oR 54, none, oI x2, oI x3, oI x4, oI x5] [] m (qV Q)
abbrev j_X0_putOn_54_62_125 (d : Nat) (x2 : Int32) (x3 : Int32) (m : dM) (Q : dM → Prop) : Prop := Wp d 120 125 [oR 54, none, oI x2, oI x3, none, none] [] m (qV Q)
abbrev c_X7_day_62 (d : Nat) (m : dM) (Q : Int32 → dM → Prop) : Prop := Wp d 213 0 [oR 62] [] m (qI Q)
abbrev c_X0_going_54_62 (d : Nat) (x2 : Int32) (x3 : Int32) (m : dM) (Q : Int32 → dM → Prop) : Prop := Wp d 124 0 [oR 54, oR 62, oI x2, oI x3, none, none] [] m (qI Q)
abbrev j_X0_going_54_62_6 (d : Nat) (x2 : Int32) (x3 : Int32) (x4 : Int32) (x5 : Int32) (m : dM) (Q : Int32 → dM → Prop) : Prop := Wp d 124 6 [oR 54, oR 62, oI x2, oI x3, oI x4, oI x5] [] m (qI Q)
abbrev j_X0_going_54_62_119 (d : Nat) (x2 : Int32) (x3 : Int32) (x4 : Int32) (x5 : Int32) (m : dM) (Q : Int32 → dM → Prop) : Prop := Wp d 124 119 [oR 54, oR 62, oI x2, oI x3, oI x4, oI x5] [] m (qI Q)
abbrev c_X0_passWires_54_62 (d : Nat) (x2 : Int32) (m : dM) (Q : Int32 → dM → Prop) : Prop := Wp d 137 0 [oR 54, oR 62, oI x2, none, none] [] m (qI Q)
abbrev j_X0_passWires_54_62_38 (d : Nat) (x3 : Int32) (x4 : Int32) (m : dM) (Q : Int32 → dM → Prop) : Prop := Wp d 137 38 [oR 54, oR 62, none, oI x3, oI x4] [] m (qI Q)
abbrev j_X0_passWires_54_62_84 (d : Nat) (x3 : Int32) (x4 : Int32) (m : dM) (Q : Int32 → dM → Prop) : Prop := Wp d 137 84 [oR 54, oR 62, none, oI x3, oI x4] [] m (qI Q)
abbrev c_X1_peakOf_61_47 (d : Nat) (x2 : Int32) (x3 : Int32) (x4 : Int32) (m : dM) (Q : Int32 → dM → Prop) : Prop := Wp d 139 0 [oR 61, oR 47, oI x2, oI x3, oI x4, none, none, none] [] m (qI Q)
abbrev j_X1_peakOf_61_47_17 (d : Nat) (x2 : Int32) (x3 : Int32) (x4 : Int32) (x5 : Int32) (x6 : Int32) (x7 : Int32) (m : dM) (Q : Int32 → dM → Prop) : Prop := Wp d 139 17 [oR 61, none, oI x2, oI x3, oI x4, oI x5, oI x6, oI x7] [] m (qI Q)
abbrev j_X1_peakOf_61_47_65 (d : Nat) (x2 : Int32) (x3 : Int32) (x4 : Int32) (x5 : Int32) (x6 : Int32) (x7 : Int32) (m : dM) (Q : Int32 → dM → Prop) : Prop := Wp d 139 65 [oR 61, none, oI x2, oI x3, oI x4, oI x5, oI x6, oI x7] [] m (qI Q)
abbrev c_X11_peak_0 (d : Nat) (x1 : Int32) (x2 : Int32) (x3 : Int32) (m : dM) (Q : Int32 → dM → Prop) : Prop := Wp d 261 0 [oR 0, oI x1, oI x2, oI x3] [] m (qI Q)
abbrev j_X11_peak_0_28 (d : Nat) (m : dM) (Q : Int32 → dM → Prop) : Prop := Wp d 261 28 [none, none, none, none] [] m (qI Q)
abbrev c_X12_copiesStill_70 (d : Nat) (m : dM) (Q : dM → Prop) : Prop := Wp d 82 0 [oR 70] [] m (qV Q)
abbrev c_X12_peak_70 (d : Nat) (x1 : Int32) (x2 : Int32) (x3 : Int32) (m : dM) (Q : Int32 → dM → Prop) : Prop := Wp d 83 0 [oR 70, oI x1, oI x2, oI x3, none, none, none, none] [] m (qI Q)
abbrev j_X12_peak_70_27 (d : Nat) (m : dM) (Q : Int32 → dM → Prop) : Prop := Wp d 83 27 [none, none, none, none, none, none, none, none] [] m (qI Q)
abbrev j_X12_peak_70_42 (d : Nat) (x1 : Int32) (x2 : Int32) (x3 : Int32) (x4 : Int32) (x5 : Int32) (x6 : Int32) (m : dM) (Q : Int32 → dM → Prop) : Prop := Wp d 83 42 [oR 70, oI x1, oI x2, oI x3, oI x4, oI x5, oI x6, none] [] m (qI Q)
abbrev j_X12_peak_70_86 (d : Nat) (x1 : Int32) (x2 : Int32) (x3 : Int32) (x4 : Int32) (x5 : Int32) (x6 : Int32) (m : dM) (Q : Int32 → dM → Prop) : Prop := Wp d 83 86 [oR 70, oI x1, oI x2, oI x3, oI x4, oI x5, oI x6, none] [] m (qI Q)
abbrev c_X1_trialTillGone_61 (d : Nat) (m : dM) (Q : Int32 → dM → Prop) : Prop := Wp d 142 0 [oR 61, none] [] m (qI Q)
abbrev j_X1_trialTillGone_61_7 (d : Nat) (x1 : Int32) (m : dM) (Q : Int32 → dM → Prop) : Prop := Wp d 142 7 [oR 61, oI x1] [] m (qI Q)
abbrev c_X1_firstGone_61_47 (d : Nat) (m : dM) (Q : Int32 → dM → Prop) : Prop := Wp d 140 0 [oR 61, oR 47] [] m (qI Q)
abbrev c_X11_bitAt (d : Nat) (x0 : Int32) (x1 : Int32) (m : dM) (Q : Int32 → dM → Prop) : Prop := Wp d 284 0 [oI x0, oI x1, none, none] [] m (qI Q)
abbrev j_X11_bitAt_4 (d : Nat) (x0 : Int32) (x1 : Int32) (x2 : Int32) (x3 : Int32) (m : dM) (Q : Int32 → dM → Prop) : Prop := Wp d 284 4 [oI x0, oI x1, oI x2, oI x3] [] m (qI Q)
abbrev j_X11_bitAt_28 (d : Nat) (x0 : Int32) (x1 : Int32) (x2 : Int32) (x3 : Int32) (m : dM) (Q : Int32 → dM → Prop) : Prop := Wp d 284 28 [oI x0, oI x1, oI x2, oI x3] [] m (qI Q)
abbrev c_X1_firstWire_61 (d : Nat) (m : dM) (Q : Int32 → dM → Prop) : Prop := Wp d 141 0 [oR 61] [] m (qI Q)
abbrev c_X11_first_0 (d : Nat) (x1 : Int32) (m : dM) (Q : Int32 → dM → Prop) : Prop := Wp d 262 0 [oR 0, oI x1, none] [] m (qI Q)
abbrev j_X11_first_0_9 (d : Nat) (m : dM) (Q : Int32 → dM → Prop) : Prop := Wp d 262 9 [none, none, none] [] m (qI Q)
abbrev c_X12_firstGoing_70 (d : Nat) (m : dM) (Q : Int32 → dM → Prop) : Prop := Wp d 84 0 [oR 70, none] [] m (qI Q)
abbrev j_X12_firstGoing_70_2 (d : Nat) (x1 : Int32) (m : dM) (Q : Int32 → dM → Prop) : Prop := Wp d 84 2 [oR 70, oI x1] [] m (qI Q)
abbrev c_X12_lowestOf (d : Nat) (x0 : Int32) (m : dM) (Q : Int32 → dM → Prop) : Prop := Wp d 85 0 [oI x0, none] [] m (qI Q)
abbrev j_X12_lowestOf_2 (d : Nat) (x0 : Int32) (x1 : Int32) (m : dM) (Q : Int32 → dM → Prop) : Prop := Wp d 85 2 [oI x0, oI x1] [] m (qI Q)
abbrev j_X12_lowestOf_22 (d : Nat) (x1 : Int32) (m : dM) (Q : Int32 → dM → Prop) : Prop := Wp d 85 22 [none, oI x1] [] m (qI Q)
abbrev c_X12_first_70 (d : Nat) (x1 : Int32) (m : dM) (Q : Int32 → dM → Prop) : Prop := Wp d 86 0 [oR 70, oI x1, none] [] m (qI Q)
abbrev c_X1_payOfAll_61 (d : Nat) (x1 : Int32) (m : dM) (Q : Int32 → dM → Prop) : Prop := Wp d 145 0 [oR 61, oI x1, none, none] [] m (qI Q)
abbrev j_X1_payOfAll_61_4 (d : Nat) (x1 : Int32) (x2 : Int32) (x3 : Int32) (m : dM) (Q : Int32 → dM → Prop) : Prop := Wp d 145 4 [oR 61, oI x1, oI x2, oI x3] [] m (qI Q)
abbrev c_X1_bestTogether_61_47 (d : Nat) (m : dM) (Q : Int32 → dM → Prop) : Prop := Wp d 144 0 [oR 61, oR 47, none, none, none, none, none] [] m (qI Q)
abbrev j_X1_bestTogether_61_47_17 (d : Nat) (x2 : Int32) (x3 : Int32) (x4 : Int32) (m : dM) (Q : Int32 → dM → Prop) : Prop := Wp d 144 17 [oR 61, oR 47, oI x2, oI x3, oI x4, none, none] [] m (qI Q)
abbrev j_X1_bestTogether_61_47_89 (d : Nat) (x3 : Int32) (x4 : Int32) (x5 : Int32) (x6 : Int32) (m : dM) (Q : Int32 → dM → Prop) : Prop := Wp d 144 89 [oR 61, oR 47, none, oI x3, oI x4, oI x5, oI x6] [] m (qI Q)
abbrev j_X1_bestTogether_61_47_148 (d : Nat) (x3 : Int32) (x4 : Int32) (x5 : Int32) (x6 : Int32) (m : dM) (Q : Int32 → dM → Prop) : Prop := Wp d 144 148 [oR 61, oR 47, none, oI x3, oI x4, oI x5, oI x6] [] m (qI Q)
abbrev c_X11_together_0 (d : Nat) (x1 : Int32) (m : dM) (Q : Int32 → dM → Prop) : Prop := Wp d 263 0 [oR 0, oI x1, none] [] m (qI Q)
abbrev j_X11_together_0_9 (d : Nat) (m : dM) (Q : Int32 → dM → Prop) : Prop := Wp d 263 9 [none, none, none] [] m (qI Q)
abbrev c_X12_usesLit_70 (d : Nat) (m : dM) (Q : Int32 → dM → Prop) : Prop := Wp d 87 0 [oR 70, none, none] [] m (qI Q)
abbrev j_X12_usesLit_70_4 (d : Nat) (x1 : Int32) (x2 : Int32) (m : dM) (Q : Int32 → dM → Prop) : Prop := Wp d 87 4 [oR 70, oI x1, oI x2] [] m (qI Q)
abbrev j_X12_usesLit_70_35 (d : Nat) (x1 : Int32) (x2 : Int32) (m : dM) (Q : Int32 → dM → Prop) : Prop := Wp d 87 35 [oR 70, oI x1, oI x2] [] m (qI Q)
abbrev c_X12_together_70 (d : Nat) (x1 : Int32) (m : dM) (Q : Int32 → dM → Prop) : Prop := Wp d 88 0 [oR 70, oI x1, none, none, none, none, none] [] m (qI Q)
abbrev j_X12_together_70_28 (d : Nat) (x1 : Int32) (x2 : Int32) (x3 : Int32) (x4 : Int32) (x5 : Int32) (m : dM) (Q : Int32 → dM → Prop) : Prop := Wp d 88 28 [oR 70, oI x1, oI x2, oI x3, oI x4, oI x5, none] [] m (qI Q)
abbrev j_X12_together_70_101 (d : Nat) (x1 : Int32) (x2 : Int32) (x3 : Int32) (x4 : Int32) (x5 : Int32) (m : dM) (Q : Int32 → dM → Prop) : Prop := Wp d 88 101 [oR 70, oI x1, oI x2, oI x3, oI x4, oI x5, none] [] m (qI Q)
abbrev c_X1_firstStart_61_47 (d : Nat) (x2 : Int32) (m : dM) (Q : Int32 → dM → Prop) : Prop := Wp d 146 0 [oR 61, oR 47, oI x2, none, none, none] [] m (qI Q)
abbrev j_X1_firstStart_61_47_28 (d : Nat) (x2 : Int32) (x3 : Int32) (x4 : Int32) (x5 : Int32) (m : dM) (Q : Int32 → dM → Prop) : Prop := Wp d 146 28 [oR 61, oR 47, oI x2, oI x3, oI x4, oI x5] [] m (qI Q)
abbrev c_X11_when_0 (d : Nat) (x1 : Int32) (m : dM) (Q : Int32 → dM → Prop) : Prop := Wp d 264 0 [oR 0, oI x1] [] m (qI Q)
abbrev c_X12_canBegin_70 (d : Nat) (x1 : Int32) (x2 : Int32) (m : dM) (Q : Int32 → dM → Prop) : Prop := Wp d 89 0 [oR 70, oI x1, oI x2, none, none, none] [] m (qI Q)
abbrev j_X12_canBegin_70_33 (d : Nat) (x1 : Int32) (x2 : Int32) (x3 : Int32) (x4 : Int32) (m : dM) (Q : Int32 → dM → Prop) : Prop := Wp d 89 33 [oR 70, oI x1, oI x2, oI x3, oI x4, none] [] m (qI Q)
abbrev j_X12_canBegin_70_75 (d : Nat) (x1 : Int32) (x2 : Int32) (x3 : Int32) (x4 : Int32) (x5 : Int32) (m : dM) (Q : Int32 → dM → Prop) : Prop := Wp d 89 75 [oR 70, oI x1, oI x2, oI x3, oI x4, oI x5] [] m (qI Q)
abbrev c_X12_when_70 (d : Nat) (x1 : Int32) (m : dM) (Q : Int32 → dM → Prop) : Prop := Wp d 90 0 [oR 70, oI x1, none, none] [] m (qI Q)
abbrev j_X12_when_70_46 (d : Nat) (x1 : Int32) (x2 : Int32) (x3 : Int32) (m : dM) (Q : Int32 → dM → Prop) : Prop := Wp d 90 46 [oR 70, oI x1, oI x2, oI x3] [] m (qI Q)
abbrev c_X1_bestThicker_61_47 (d : Nat) (x2 : Int32) (m : dM) (Q : Int32 → dM → Prop) : Prop := Wp d 143 0 [oR 61, oR 47, oI x2, none, none, none, none] [] m (qI Q)
abbrev j_X1_bestThicker_61_47_20 (d : Nat) (x2 : Int32) (x3 : Int32) (x4 : Int32) (x5 : Int32) (m : dM) (Q : Int32 → dM → Prop) : Prop := Wp d 143 20 [oR 61, oR 47, oI x2, oI x3, oI x4, oI x5, none] [] m (qI Q)
abbrev j_X1_bestThicker_61_47_105 (d : Nat) (x2 : Int32) (x3 : Int32) (x4 : Int32) (x5 : Int32) (m : dM) (Q : Int32 → dM → Prop) : Prop := Wp d 143 105 [oR 61, oR 47, oI x2, oI x3, oI x4, oI x5, none] [] m (qI Q)
abbrev j_X1_bestThicker_61_47_111 (d : Nat) (x4 : Int32) (m : dM) (Q : Int32 → dM → Prop) : Prop := Wp d 143 111 [none, none, none, none, oI x4, none, none] [] m (qI Q)
abbrev c_X11_thick_0 (d : Nat) (x1 : Int32) (m : dM) (Q : Int32 → dM → Prop) : Prop := Wp d 265 0 [oR 0, oI x1] [] m (qI Q)
abbrev j_X11_thick_0_11 (d : Nat) (m : dM) (Q : Int32 → dM → Prop) : Prop := Wp d 265 11 [none, none] [] m (qI Q)
abbrev c_X12_thick_70 (d : Nat) (x1 : Int32) (m : dM) (Q : Int32 → dM → Prop) : Prop := Wp d 91 0 [oR 70, oI x1, none, none, none, none] [] m (qI Q)
abbrev j_X12_thick_70_27 (d : Nat) (x1 : Int32) (x2 : Int32) (x3 : Int32) (x4 : Int32) (m : dM) (Q : Int32 → dM → Prop) : Prop := Wp d 91 27 [oR 70, oI x1, oI x2, oI x3, oI x4, none] [] m (qI Q)
abbrev j_X12_thick_70_105 (d : Nat) (x1 : Int32) (x2 : Int32) (x3 : Int32) (x4 : Int32) (m : dM) (Q : Int32 → dM → Prop) : Prop := Wp d 91 105 [oR 70, oI x1, oI x2, oI x3, oI x4, none] [] m (qI Q)
abbrev c_X3_endsOf_2 (d : Nat) (x1 : Int32) (m : dM) (Q : Int32 → dM → Prop) : Prop := Wp d 172 0 [oR 2, oI x1] [] m (qI Q)
abbrev c_X3_litWithout_2 (d : Nat) (x1 : Int32) (m : dM) (Q : Int32 → dM → Prop) : Prop := Wp d 174 0 [oR 2, oI x1, none, none, none, none, none] [] m (qI Q)
abbrev j_X3_litWithout_2_15 (d : Nat) (x1 : Int32) (x2 : Int32) (x3 : Int32) (m : dM) (Q : Int32 → dM → Prop) : Prop := Wp d 174 15 [oR 2, oI x1, oI x2, oI x3, none, none, none] [] m (qI Q)
abbrev j_X3_litWithout_2_29 (d : Nat) (x1 : Int32) (x2 : Int32) (x3 : Int32) (x4 : Int32) (x5 : Int32) (m : dM) (Q : Int32 → dM → Prop) : Prop := Wp d 174 29 [oR 2, oI x1, oI x2, oI x3, oI x4, oI x5, none] [] m (qI Q)
abbrev j_X3_litWithout_2_67 (d : Nat) (x1 : Int32) (x2 : Int32) (x3 : Int32) (x4 : Int32) (x5 : Int32) (m : dM) (Q : Int32 → dM → Prop) : Prop := Wp d 174 67 [oR 2, oI x1, oI x2, oI x3, oI x4, oI x5, none] [] m (qI Q)
abbrev j_X3_litWithout_2_88 (d : Nat) (x2 : Int32) (m : dM) (Q : Int32 → dM → Prop) : Prop := Wp d 174 88 [none, none, oI x2, none, none, none, none] [] m (qI Q)
abbrev c_X1_cutBy_2 (d : Nat) (x1 : Int32) (x2 : Int32) (x3 : Int32) (x4 : Int32) (m : dM) (Q : Int32 → dM → Prop) : Prop := Wp d 148 0 [oR 2, oI x1, oI x2, oI x3, oI x4, none, none] [] m (qI Q)
abbrev j_X1_cutBy_2_26 (d : Nat) (x1 : Int32) (x2 : Int32) (x4 : Int32) (x5 : Int32) (m : dM) (Q : Int32 → dM → Prop) : Prop := Wp d 148 26 [oR 2, oI x1, oI x2, none, oI x4, oI x5, none] [] m (qI Q)
abbrev j_X1_cutBy_2_79 (d : Nat) (x1 : Int32) (x2 : Int32) (x4 : Int32) (x5 : Int32) (m : dM) (Q : Int32 → dM → Prop) : Prop := Wp d 148 79 [oR 2, oI x1, oI x2, none, oI x4, oI x5, none] [] m (qI Q)
abbrev c_X1_leastCut_61_47 (d : Nat) (x2 : Int32) (m : dM) (Q : Int32 → dM → Prop) : Prop := Wp d 147 0 [oR 61, oR 47, oI x2, none, none] [] m (qI Q)
abbrev j_X1_leastCut_61_47_2 (d : Nat) (x2 : Int32) (x3 : Int32) (m : dM) (Q : Int32 → dM → Prop) : Prop := Wp d 147 2 [oR 61, oR 47, oI x2, oI x3, none] [] m (qI Q)
abbrev c_J6_bitCount (d : Nat) (x0 : Int32) (m : dM) (Q : Int32 → dM → Prop) : Prop := Wp d 285 0 [oI x0] [] m (qI Q)
abbrev c_X11_cut_0 (d : Nat) (x1 : Int32) (x2 : Int32) (m : dM) (Q : Int32 → dM → Prop) : Prop := Wp d 266 0 [oR 0, oI x1, oI x2, none] [] m (qI Q)
abbrev j_X11_cut_0_18 (d : Nat) (m : dM) (Q : Int32 → dM → Prop) : Prop := Wp d 266 18 [none, none, none, none] [] m (qI Q)
abbrev c_X12_goneBits_70 (d : Nat) (m : dM) (Q : Int32 → dM → Prop) : Prop := Wp d 93 0 [oR 70, none, none] [] m (qI Q)
abbrev j_X12_goneBits_70_4 (d : Nat) (x1 : Int32) (x2 : Int32) (m : dM) (Q : Int32 → dM → Prop) : Prop := Wp d 93 4 [oR 70, oI x1, oI x2] [] m (qI Q)
abbrev j_X12_goneBits_70_36 (d : Nat) (x1 : Int32) (x2 : Int32) (m : dM) (Q : Int32 → dM → Prop) : Prop := Wp d 93 36 [oR 70, oI x1, oI x2] [] m (qI Q)
abbrev c_X12_ithOf (d : Nat) (x0 : Int32) (x1 : Int32) (m : dM) (Q : Int32 → dM → Prop) : Prop := Wp d 94 0 [oI x0, oI x1, none, none] [] m (qI Q)
abbrev j_X12_ithOf_4 (d : Nat) (x0 : Int32) (x1 : Int32) (x2 : Int32) (x3 : Int32) (m : dM) (Q : Int32 → dM → Prop) : Prop := Wp d 94 4 [oI x0, oI x1, oI x2, oI x3] [] m (qI Q)
abbrev j_X12_ithOf_31 (d : Nat) (x0 : Int32) (x1 : Int32) (x2 : Int32) (x3 : Int32) (m : dM) (Q : Int32 → dM → Prop) : Prop := Wp d 94 31 [oI x0, oI x1, oI x2, oI x3] [] m (qI Q)
abbrev c_X12_bits (d : Nat) (x0 : Int32) (m : dM) (Q : Int32 → dM → Prop) : Prop := Wp d 38 0 [oI x0, none, none] [] m (qI Q)
abbrev j_X12_bits_4 (d : Nat) (x0 : Int32) (x1 : Int32) (x2 : Int32) (m : dM) (Q : Int32 → dM → Prop) : Prop := Wp d 38 4 [oI x0, oI x1, oI x2] [] m (qI Q)
abbrev c_X12_isEarlier (d : Nat) (x0 : Int32) (x1 : Int32) (m : dM) (Q : Int32 → dM → Prop) : Prop := Wp d 95 0 [oI x0, oI x1, none] [] m (qI Q)
abbrev j_X12_isEarlier_2 (d : Nat) (x0 : Int32) (x1 : Int32) (x2 : Int32) (m : dM) (Q : Int32 → dM → Prop) : Prop := Wp d 95 2 [oI x0, oI x1, oI x2] [] m (qI Q)
abbrev c_X12_loses_70 (d : Nat) (x1 : Int32) (m : dM) (Q : dM → Prop) : Prop := Wp d 92 0 [oR 70, oI x1, none] [] m (qV Q)
abbrev j_X12_loses_70_6 (d : Nat) (x1 : Int32) (x2 : Int32) (m : dM) (Q : dM → Prop) : Prop := Wp d 92 6 [oR 70, oI x1, oI x2] [] m (qV Q)
abbrev j_X12_loses_70_31 (d : Nat) (x1 : Int32) (x2 : Int32) (m : dM) (Q : dM → Prop) : Prop := Wp d 92 31 [oR 70, oI x1, oI x2] [] m (qV Q)
abbrev c_X12_cut_70 (d : Nat) (x1 : Int32) (x2 : Int32) (m : dM) (Q : Int32 → dM → Prop) : Prop := Wp d 96 0 [oR 70, oI x1, oI x2, none, none, none] [] m (qI Q)
abbrev j_X12_cut_70_17 (d : Nat) (m : dM) (Q : Int32 → dM → Prop) : Prop := Wp d 96 17 [none, none, none, none, none, none] [] m (qI Q)
abbrev j_X12_cut_70_30 (d : Nat) (x1 : Int32) (x2 : Int32) (x3 : Int32) (x4 : Int32) (x5 : Int32) (m : dM) (Q : Int32 → dM → Prop) : Prop := Wp d 96 30 [oR 70, oI x1, oI x2, oI x3, oI x4, oI x5] [] m (qI Q)
abbrev j_X12_cut_70_109 (d : Nat) (x1 : Int32) (x2 : Int32) (x3 : Int32) (x4 : Int32) (x5 : Int32) (m : dM) (Q : Int32 → dM → Prop) : Prop := Wp d 96 109 [oR 70, oI x1, oI x2, oI x3, oI x4, oI x5] [] m (qI Q)
abbrev j_X12_cut_70_127 (d : Nat) (x1 : Int32) (x2 : Int32) (x3 : Int32) (x4 : Int32) (x5 : Int32) (m : dM) (Q : Int32 → dM → Prop) : Prop := Wp d 96 127 [oR 70, oI x1, oI x2, oI x3, oI x4, oI x5] [] m (qI Q)
abbrev c_X11_share_0 (d : Nat) (x1 : Int32) (x2 : Int32) (m : dM) (Q : Int32 → dM → Prop) : Prop := Wp d 267 0 [oR 0, oI x1, oI x2, none] [] m (qI Q)
abbrev j_X11_share_0_16 (d : Nat) (m : dM) (Q : Int32 → dM → Prop) : Prop := Wp d 267 16 [none, none, none, none] [] m (qI Q)
abbrev c_X12_share_70 (d : Nat) (x1 : Int32) (x2 : Int32) (m : dM) (Q : Int32 → dM → Prop) : Prop := Wp d 97 0 [oR 70, oI x1, oI x2] [] m (qI Q)
abbrev j_X12_share_70_16 (d : Nat) (m : dM) (Q : Int32 → dM → Prop) : Prop := Wp d 97 16 [none, none, none] [] m (qI Q)
abbrev c_X3_allFlats_2 (d : Nat) (m : dM) (Q : Int32 → dM → Prop) : Prop := Wp d 173 0 [oR 2] [] m (qI Q)
abbrev c_X11_without_0 (d : Nat) (x1 : Int32) (m : dM) (Q : Int32 → dM → Prop) : Prop := Wp d 268 0 [oR 0, oI x1] [] m (qI Q)
abbrev c_X12_litBits_70 (d : Nat) (m : dM) (Q : Int32 → dM → Prop) : Prop := Wp d 52 0 [oR 70, none, none] [] m (qI Q)
abbrev j_X12_litBits_70_4 (d : Nat) (x1 : Int32) (x2 : Int32) (m : dM) (Q : Int32 → dM → Prop) : Prop := Wp d 52 4 [oR 70, oI x1, oI x2] [] m (qI Q)
abbrev j_X12_litBits_70_31 (d : Nat) (x1 : Int32) (x2 : Int32) (m : dM) (Q : Int32 → dM → Prop) : Prop := Wp d 52 31 [oR 70, oI x1, oI x2] [] m (qI Q)
abbrev c_X12_darkBits_70 (d : Nat) (m : dM) (Q : Int32 → dM → Prop) : Prop := Wp d 98 0 [oR 70] [] m (qI Q)
abbrev c_X12_without_70 (d : Nat) (x1 : Int32) (m : dM) (Q : Int32 → dM → Prop) : Prop := Wp d 99 0 [oR 70, oI x1] [] m (qI Q)
abbrev c_X11_needed_0 (d : Nat) (m : dM) (Q : Int32 → dM → Prop) : Prop := Wp d 269 0 [oR 0, none, none, none] [] m (qI Q)
abbrev j_X11_needed_0_19 (d : Nat) (x1 : Int32) (x2 : Int32) (x3 : Int32) (m : dM) (Q : Int32 → dM → Prop) : Prop := Wp d 269 19 [oR 0, oI x1, oI x2, oI x3] [] m (qI Q)
abbrev j_X11_needed_0_72 (d : Nat) (x1 : Int32) (x2 : Int32) (x3 : Int32) (m : dM) (Q : Int32 → dM → Prop) : Prop := Wp d 269 72 [oR 0, oI x1, oI x2, oI x3] [] m (qI Q)
abbrev c_X12_needed_70 (d : Nat) (m : dM) (Q : Int32 → dM → Prop) : Prop := Wp d 100 0 [oR 70, none, none, none] [] m (qI Q)
abbrev j_X12_needed_70_13 (d : Nat) (x1 : Int32) (x2 : Int32) (x3 : Int32) (m : dM) (Q : Int32 → dM → Prop) : Prop := Wp d 100 13 [oR 70, oI x1, oI x2, oI x3] [] m (qI Q)
abbrev j_X12_needed_70_63 (d : Nat) (x1 : Int32) (x2 : Int32) (x3 : Int32) (m : dM) (Q : Int32 → dM → Prop) : Prop := Wp d 100 63 [oR 70, oI x1, oI x2, oI x3] [] m (qI Q)
abbrev c_X11_hottest_0 (d : Nat) (x1 : Int32) (m : dM) (Q : Int32 → dM → Prop) : Prop := Wp d 270 0 [oR 0, oI x1, none, none, none, none] [] m (qI Q)
abbrev j_X11_hottest_0_9 (d : Nat) (m : dM) (Q : Int32 → dM → Prop) : Prop := Wp d 270 9 [none, none, none, none, none, none] [] m (qI Q)
abbrev j_X11_hottest_0_42 (d : Nat) (x1 : Int32) (x2 : Int32) (x3 : Int32) (x4 : Int32) (m : dM) (Q : Int32 → dM → Prop) : Prop := Wp d 270 42 [oR 0, oI x1, oI x2, oI x3, oI x4, none] [] m (qI Q)
abbrev j_X11_hottest_0_103 (d : Nat) (x1 : Int32) (x4 : Int32) (x5 : Int32) (m : dM) (Q : Int32 → dM → Prop) : Prop := Wp d 270 103 [oR 0, oI x1, none, none, oI x4, oI x5] [] m (qI Q)
abbrev j_X11_hottest_0_109 (d : Nat) (x1 : Int32) (x2 : Int32) (x3 : Int32) (x4 : Int32) (m : dM) (Q : Int32 → dM → Prop) : Prop := Wp d 270 109 [oR 0, oI x1, oI x2, oI x3, oI x4, none] [] m (qI Q)
abbrev c_X12_hottest_70 (d : Nat) (x1 : Int32) (m : dM) (Q : Int32 → dM → Prop) : Prop := Wp d 101 0 [oR 70, oI x1, none, none, none, none, none] [] m (qI Q)
abbrev j_X12_hottest_70_34 (d : Nat) (x1 : Int32) (x2 : Int32) (x3 : Int32) (x4 : Int32) (x5 : Int32) (m : dM) (Q : Int32 → dM → Prop) : Prop := Wp d 101 34 [oR 70, oI x1, oI x2, oI x3, oI x4, oI x5, none] [] m (qI Q)
abbrev j_X12_hottest_70_88 (d : Nat) (x1 : Int32) (x2 : Int32) (x5 : Int32) (x6 : Int32) (m : dM) (Q : Int32 → dM → Prop) : Prop := Wp d 101 88 [oR 70, oI x1, oI x2, none, none, oI x5, oI x6] [] m (qI Q)
abbrev j_X12_hottest_70_95 (d : Nat) (x1 : Int32) (x2 : Int32) (x3 : Int32) (x4 : Int32) (x5 : Int32) (m : dM) (Q : Int32 → dM → Prop) : Prop := Wp d 101 95 [oR 70, oI x1, oI x2, oI x3, oI x4, oI x5, none] [] m (qI Q)
abbrev c_X1_clashOf_61_47 (d : Nat) (x2 : Int32) (x3 : Int32) (m : dM) (Q : Int32 → dM → Prop) : Prop := Wp d 149 0 [oR 61, oR 47, oI x2, oI x3, none, none] [] m (qI Q)
abbrev j_X1_clashOf_61_47_47 (d : Nat) (m : dM) (Q : Int32 → dM → Prop) : Prop := Wp d 149 47 [none, none, none, none, none, none] [] m (qI Q)
abbrev c_X11_clash_0 (d : Nat) (x1 : Int32) (x2 : Int32) (m : dM) (Q : Int32 → dM → Prop) : Prop := Wp d 271 0 [oR 0, oI x1, oI x2] [] m (qI Q)
abbrev j_X11_clash_0_37 (d : Nat) (m : dM) (Q : Int32 → dM → Prop) : Prop := Wp d 271 37 [none, none, none] [] m (qI Q)
abbrev c_X12_clash_70 (d : Nat) (x1 : Int32) (x2 : Int32) (m : dM) (Q : Int32 → dM → Prop) : Prop := Wp d 102 0 [oR 70, oI x1, oI x2, none] [] m (qI Q)
abbrev j_X12_clash_70_21 (d : Nat) (m : dM) (Q : Int32 → dM → Prop) : Prop := Wp d 102 21 [none, none, none, none] [] m (qI Q)
abbrev j_X12_clash_70_51 (d : Nat) (m : dM) (Q : Int32 → dM → Prop) : Prop := Wp d 102 51 [none, none, none, none] [] m (qI Q)
abbrev c_X0_payOf_54_62 (d : Nat) (x2 : Int32) (m : dM) (Q : Int32 → dM → Prop) : Prop := Wp d 129 0 [oR 54, oR 62, oI x2] [] m (qI Q)
abbrev c_X0_takePay_54_62 (d : Nat) (m : dM) (Q : dM → Prop) : Prop := Wp d 135 0 [oR 54, oR 62, none, none] [] m (qV Q)
abbrev j_X0_takePay_54_62_12 (d : Nat) (x2 : Int32) (x3 : Int32) (m : dM) (Q : dM → Prop) : Prop := Wp d 135 12 [oR 54, oR 62, oI x2, oI x3] [] m (qV Q)
abbrev j_X0_takePay_54_62_51 (d : Nat) (x2 : Int32) (x3 : Int32) (m : dM) (Q : dM → Prop) : Prop := Wp d 135 51 [oR 54, oR 62, oI x2, oI x3] [] m (qV Q)
abbrev c_X0_quarrelOf_54_62 (d : Nat) (x2 : Int32) (m : dM) (Q : Int32 → dM → Prop) : Prop := Wp d 127 0 [oR 54, oR 62, oI x2] [] m (qI Q)
abbrev c_X0_countQuarrels_54_62 (d : Nat) (m : dM) (Q : dM → Prop) : Prop := Wp d 136 0 [oR 54, oR 62, none] [] m (qV Q)
abbrev j_X0_countQuarrels_54_62_13 (d : Nat) (x2 : Int32) (m : dM) (Q : dM → Prop) : Prop := Wp d 136 13 [oR 54, oR 62, oI x2] [] m (qV Q)
abbrev j_X0_countQuarrels_54_62_78 (d : Nat) (x2 : Int32) (m : dM) (Q : dM → Prop) : Prop := Wp d 136 78 [oR 54, oR 62, oI x2] [] m (qV Q)
abbrev c_X0_passHour_54_62 (d : Nat) (m : dM) (Q : dM → Prop) : Prop := Wp d 134 0 [oR 54, oR 62] [] m (qV Q)
abbrev c_X1_after_61_47 (d : Nat) (x2 : Int32) (m : dM) (Q : dM → Prop) : Prop := Wp d 150 0 [oR 61, oR 47, oI x2, none] [] m (qR 62 Q)
abbrev j_X1_after_61_47_10 (d : Nat) (x2 : Int32) (x3 : Int32) (m : dM) (Q : dM → Prop) : Prop := Wp d 150 10 [oR 61, none, oI x2, oI x3] [] m (qR 62 Q)
abbrev c_X11_then_0 (d : Nat) (x1 : Int32) (x2 : Int32) (m : dM) (Q : Int32 → dM → Prop) : Prop := Wp d 272 0 [oR 0, oI x1, oI x2, none] [] m (qI Q)
abbrev j_X11_then_0_19 (d : Nat) (m : dM) (Q : Int32 → dM → Prop) : Prop := Wp d 272 19 [none, none, none, none] [] m (qI Q)
abbrev c_X12_then_70 (d : Nat) (x1 : Int32) (x2 : Int32) (m : dM) (Q : Int32 → dM → Prop) : Prop := Wp d 103 0 [oR 70, oI x1, oI x2, none, none] [] m (qI Q)
abbrev j_X12_then_70_16 (d : Nat) (m : dM) (Q : Int32 → dM → Prop) : Prop := Wp d 103 16 [none, none, none, none, none] [] m (qI Q)
abbrev j_X12_then_70_57 (d : Nat) (x3 : Int32) (x4 : Int32) (m : dM) (Q : Int32 → dM → Prop) : Prop := Wp d 103 57 [oR 70, none, none, oI x3, oI x4] [] m (qI Q)
abbrev c_X11_litIn_0 (d : Nat) (x1 : Int32) (x2 : Int32) (m : dM) (Q : Int32 → dM → Prop) : Prop := Wp d 273 0 [oR 0, oI x1, oI x2] [] m (qI Q)
abbrev j_X11_litIn_0_18 (d : Nat) (m : dM) (Q : Int32 → dM → Prop) : Prop := Wp d 273 18 [none, none, none] [] m (qI Q)
abbrev c_X12_litIn_70 (d : Nat) (x1 : Int32) (x2 : Int32) (m : dM) (Q : Int32 → dM → Prop) : Prop := Wp d 104 0 [oR 70, oI x1, oI x2] [] m (qI Q)
abbrev j_X12_litIn_70_15 (d : Nat) (m : dM) (Q : Int32 → dM → Prop) : Prop := Wp d 104 15 [none, none, none] [] m (qI Q)
abbrev c_X1_isCalm_61_47 (d : Nat) (x2 : Int32) (x3 : Int32) (m : dM) (Q : Int32 → dM → Prop) : Prop := Wp d 152 0 [oR 61, oR 47, oI x2, oI x3, none] [] m (qI Q)
abbrev j_X1_isCalm_61_47_11 (d : Nat) (x2 : Int32) (x3 : Int32) (x4 : Int32) (m : dM) (Q : Int32 → dM → Prop) : Prop := Wp d 152 11 [oR 61, none, oI x2, oI x3, oI x4] [] m (qI Q)
abbrev c_X1_calmSeeds_61_47 (d : Nat) (x2 : Int32) (x3 : Int32) (m : dM) (Q : Int32 → dM → Prop) : Prop := Wp d 151 0 [oR 61, oR 47, oI x2, oI x3, none, none] [] m (qI Q)
abbrev j_X1_calmSeeds_61_47_6 (d : Nat) (x2 : Int32) (x3 : Int32) (x4 : Int32) (x5 : Int32) (m : dM) (Q : Int32 → dM → Prop) : Prop := Wp d 151 6 [oR 61, oR 47, oI x2, oI x3, oI x4, oI x5] [] m (qI Q)
abbrev c_X11_year_0 (d : Nat) (x1 : Int32) (x2 : Int32) (m : dM) (Q : Int32 → dM → Prop) : Prop := Wp d 274 0 [oR 0, oI x1, oI x2] [] m (qI Q)
abbrev j_X11_year_0_21 (d : Nat) (m : dM) (Q : Int32 → dM → Prop) : Prop := Wp d 274 21 [none, none, none] [] m (qI Q)
abbrev c_X12_year_70 (d : Nat) (x1 : Int32) (x2 : Int32) (m : dM) (Q : Int32 → dM → Prop) : Prop := Wp d 105 0 [oR 70, oI x1, oI x2, none, none, none, none] [] m (qI Q)
abbrev j_X12_year_70_17 (d : Nat) (m : dM) (Q : Int32 → dM → Prop) : Prop := Wp d 105 17 [none, none, none, none, none, none, none] [] m (qI Q)
abbrev j_X12_year_70_24 (d : Nat) (x1 : Int32) (x2 : Int32) (x3 : Int32) (x4 : Int32) (m : dM) (Q : Int32 → dM → Prop) : Prop := Wp d 105 24 [oR 70, oI x1, oI x2, oI x3, oI x4, none, none] [] m (qI Q)
abbrev j_X12_year_70_51 (d : Nat) (x1 : Int32) (x2 : Int32) (x3 : Int32) (x4 : Int32) (x5 : Int32) (x6 : Int32) (m : dM) (Q : Int32 → dM → Prop) : Prop := Wp d 105 51 [oR 70, oI x1, oI x2, oI x3, oI x4, oI x5, oI x6] [] m (qI Q)
abbrev j_X12_year_70_71 (d : Nat) (x1 : Int32) (x2 : Int32) (x3 : Int32) (x4 : Int32) (x5 : Int32) (x6 : Int32) (m : dM) (Q : Int32 → dM → Prop) : Prop := Wp d 105 71 [oR 70, oI x1, oI x2, oI x3, oI x4, oI x5, oI x6] [] m (qI Q)
abbrev j_X12_year_70_85 (d : Nat) (x1 : Int32) (x2 : Int32) (x3 : Int32) (x4 : Int32) (m : dM) (Q : Int32 → dM → Prop) : Prop := Wp d 105 85 [oR 70, oI x1, oI x2, oI x3, oI x4, none, none] [] m (qI Q)
abbrev c_X9_add_67 (d : Nat) (x1 : Int32) (x2 : Int32) (m : dM) (Q : Int32 → dM → Prop) : Prop := Wp d 232 0 [oR 67, oI x1, oI x2] [] m (qI Q)
abbrev c_X11_tell_0 (d : Nat) (x1 : Int32) (x2 : Int32) (m : dM) (Q : Int32 → dM → Prop) : Prop := Wp d 275 0 [oR 0, oI x1, oI x2] [] m (qI Q)
abbrev c_X12_tell_70 (d : Nat) (x1 : Int32) (x2 : Int32) (m : dM) (Q : Int32 → dM → Prop) : Prop := Wp d 106 0 [oR 70, oI x1, oI x2] [] m (qI Q)
abbrev j_X12_tell_70_17 (d : Nat) (m : dM) (Q : Int32 → dM → Prop) : Prop := Wp d 106 17 [none, none, none] [] m (qI Q)
abbrev c_X11_forget_0 (d : Nat) (m : dM) (Q : Int32 → dM → Prop) : Prop := Wp d 276 0 [oR 0, none] [] m (qI Q)
abbrev c_X12_forget_70 (d : Nat) (m : dM) (Q : Int32 → dM → Prop) : Prop := Wp d 107 0 [oR 70, none] [] m (qI Q)
abbrev c_X9_isSo_67 (d : Nat) (x1 : Int32) (x2 : Int32) (m : dM) (Q : Int32 → dM → Prop) : Prop := Wp d 234 0 [oR 67, oI x1, oI x2, none] [] m (qI Q)
abbrev j_X9_isSo_67_2 (d : Nat) (x1 : Int32) (x2 : Int32) (x3 : Int32) (m : dM) (Q : Int32 → dM → Prop) : Prop := Wp d 234 2 [oR 67, oI x1, oI x2, oI x3] [] m (qI Q)
abbrev j_X9_isSo_67_42 (d : Nat) (m : dM) (Q : Int32 → dM → Prop) : Prop := Wp d 234 42 [none, none, none, none] [] m (qI Q)
abbrev c_X9_suspects_67 (d : Nat) (x1 : Int32) (x2 : Int32) (m : dM) (Q : Int32 → dM → Prop) : Prop := Wp d 233 0 [oR 67, oI x1, oI x2, none, none] [] m (qI Q)
abbrev j_X9_suspects_67_5 (d : Nat) (x1 : Int32) (x2 : Int32) (x3 : Int32) (x4 : Int32) (m : dM) (Q : Int32 → dM → Prop) : Prop := Wp d 233 5 [oR 67, oI x1, oI x2, oI x3, oI x4] [] m (qI Q)
abbrev j_X9_suspects_67_54 (d : Nat) (x1 : Int32) (x2 : Int32) (x3 : Int32) (x4 : Int32) (m : dM) (Q : Int32 → dM → Prop) : Prop := Wp d 233 54 [oR 67, oI x1, oI x2, oI x3, oI x4] [] m (qI Q)
abbrev c_X11_went_0 (d : Nat) (x1 : Int32) (x2 : Int32) (m : dM) (Q : Int32 → dM → Prop) : Prop := Wp d 277 0 [oR 0, oI x1, oI x2, none] [] m (qI Q)
abbrev j_X11_went_0_24 (d : Nat) (m : dM) (Q : Int32 → dM → Prop) : Prop := Wp d 277 24 [none, none, none, none] [] m (qI Q)
abbrev c_X12_wentBits_70 (d : Nat) (x1 : Int32) (m : dM) (Q : Int32 → dM → Prop) : Prop := Wp d 108 0 [oR 70, oI x1, none, none, none, none] [] m (qI Q)
abbrev j_X12_wentBits_70_4 (d : Nat) (x1 : Int32) (x2 : Int32) (x3 : Int32) (m : dM) (Q : Int32 → dM → Prop) : Prop := Wp d 108 4 [oR 70, oI x1, oI x2, oI x3, none, none] [] m (qI Q)
abbrev j_X12_wentBits_70_56 (d : Nat) (x1 : Int32) (x2 : Int32) (x3 : Int32) (x4 : Int32) (x5 : Int32) (m : dM) (Q : Int32 → dM → Prop) : Prop := Wp d 108 56 [oR 70, oI x1, oI x2, oI x3, oI x4, oI x5] [] m (qI Q)
abbrev j_X12_wentBits_70_91 (d : Nat) (x1 : Int32) (x2 : Int32) (x3 : Int32) (x4 : Int32) (x5 : Int32) (m : dM) (Q : Int32 → dM → Prop) : Prop := Wp d 108 91 [oR 70, oI x1, oI x2, oI x3, oI x4, oI x5] [] m (qI Q)
abbrev j_X12_wentBits_70_108 (d : Nat) (x1 : Int32) (x2 : Int32) (x3 : Int32) (m : dM) (Q : Int32 → dM → Prop) : Prop := Wp d 108 108 [oR 70, oI x1, oI x2, oI x3, none, none] [] m (qI Q)
abbrev c_X12_went_70 (d : Nat) (x1 : Int32) (x2 : Int32) (m : dM) (Q : Int32 → dM → Prop) : Prop := Wp d 109 0 [oR 70, oI x1, oI x2, none] [] m (qI Q)
abbrev j_X12_went_70_21 (d : Nat) (m : dM) (Q : Int32 → dM → Prop) : Prop := Wp d 109 21 [none, none, none, none] [] m (qI Q)
abbrev c_X9_leftAtWorst_67 (d : Nat) (x1 : Int32) (x2 : Int32) (x3 : Int32) (m : dM) (Q : Int32 → dM → Prop) : Prop := Wp d 236 0 [oR 67, oI x1, oI x2, oI x3, none, none] [] m (qI Q)
abbrev j_X9_leftAtWorst_67_6 (d : Nat) (x1 : Int32) (x2 : Int32) (x3 : Int32) (x4 : Int32) (x5 : Int32) (m : dM) (Q : Int32 → dM → Prop) : Prop := Wp d 236 6 [oR 67, oI x1, oI x2, oI x3, oI x4, oI x5] [] m (qI Q)
abbrev c_X9_bestQuestion_67 (d : Nat) (x1 : Int32) (x2 : Int32) (m : dM) (Q : Int32 → dM → Prop) : Prop := Wp d 235 0 [oR 67, oI x1, oI x2, none, none, none, none, none] [] m (qI Q)
abbrev j_X9_bestQuestion_67_18 (d : Nat) (x1 : Int32) (x3 : Int32) (x4 : Int32) (x5 : Int32) (x6 : Int32) (m : dM) (Q : Int32 → dM → Prop) : Prop := Wp d 235 18 [oR 67, oI x1, none, oI x3, oI x4, oI x5, oI x6, none] [] m (qI Q)
abbrev j_X9_bestQuestion_67_59 (d : Nat) (x1 : Int32) (x3 : Int32) (x4 : Int32) (x5 : Int32) (x6 : Int32) (m : dM) (Q : Int32 → dM → Prop) : Prop := Wp d 235 59 [oR 67, oI x1, none, oI x3, oI x4, oI x5, oI x6, none] [] m (qI Q)
abbrev j_X9_bestQuestion_67_65 (d : Nat) (x4 : Int32) (m : dM) (Q : Int32 → dM → Prop) : Prop := Wp d 235 65 [none, none, none, none, oI x4, none, none, none] [] m (qI Q)
abbrev c_X11_ask_0 (d : Nat) (x1 : Int32) (m : dM) (Q : Int32 → dM → Prop) : Prop := Wp d 278 0 [oR 0, oI x1] [] m (qI Q)
abbrev j_X11_ask_0_15 (d : Nat) (m : dM) (Q : Int32 → dM → Prop) : Prop := Wp d 278 15 [none, none] [] m (qI Q)
abbrev c_X12_ask_70 (d : Nat) (x1 : Int32) (m : dM) (Q : Int32 → dM → Prop) : Prop := Wp d 110 0 [oR 70, oI x1, none, none, none, none, none, none] [] m (qI Q)
abbrev j_X12_ask_70_29 (d : Nat) (x2 : Int32) (x3 : Int32) (x4 : Int32) (x5 : Int32) (m : dM) (Q : Int32 → dM → Prop) : Prop := Wp d 110 29 [oR 70, none, oI x2, oI x3, oI x4, oI x5, none, none] [] m (qI Q)
abbrev j_X12_ask_70_53 (d : Nat) (x2 : Int32) (x3 : Int32) (x4 : Int32) (x5 : Int32) (x6 : Int32) (x7 : Int32) (m : dM) (Q : Int32 → dM → Prop) : Prop := Wp d 110 53 [oR 70, none, oI x2, oI x3, oI x4, oI x5, oI x6, oI x7] [] m (qI Q)
abbrev j_X12_ask_70_94 (d : Nat) (x2 : Int32) (x3 : Int32) (x4 : Int32) (x5 : Int32) (x6 : Int32) (x7 : Int32) (m : dM) (Q : Int32 → dM → Prop) : Prop := Wp d 110 94 [oR 70, none, oI x2, oI x3, oI x4, oI x5, oI x6, oI x7] [] m (qI Q)
abbrev j_X12_ask_70_140 (d : Nat) (x2 : Int32) (x5 : Int32) (x7 : Int32) (m : dM) (Q : Int32 → dM → Prop) : Prop := Wp d 110 140 [oR 70, none, oI x2, none, none, oI x5, none, oI x7] [] m (qI Q)
abbrev j_X12_ask_70_147 (d : Nat) (x2 : Int32) (x3 : Int32) (x4 : Int32) (x5 : Int32) (m : dM) (Q : Int32 → dM → Prop) : Prop := Wp d 110 147 [oR 70, none, oI x2, oI x3, oI x4, oI x5, none, none] [] m (qI Q)
abbrev j_X12_ask_70_153 (d : Nat) (x3 : Int32) (m : dM) (Q : Int32 → dM → Prop) : Prop := Wp d 110 153 [none, none, none, oI x3, none, none, none, none] [] m (qI Q)
abbrev c_X7_writeTo_47_53 (d : Nat) (x2 : Int32) (m : dM) (Q : dM → Prop) : Prop := Wp d 210 0 [oR 47, oR 53, oI x2] [] m (qV Q)
abbrev j_X7_writeTo_47_53_13 (d : Nat) (m : dM) (Q : dM → Prop) : Prop := Wp d 210 13 [none, none, none] [] m (qV Q)
abbrev c_X6_store_51_47 (d : Nat) (x1 : Int32) (m : dM) (Q : Int32 → dM → Prop) : Prop := Wp d 205 0 [oR 51, oI x1, oR 47] [] m (qI Q)
abbrev j_X6_store_51_47_9 (d : Nat) (m : dM) (Q : Int32 → dM → Prop) : Prop := Wp d 205 9 [none, none, none] [] m (qI Q)
abbrev c_X11_hold_0 (d : Nat) (x1 : Int32) (m : dM) (Q : Int32 → dM → Prop) : Prop := Wp d 279 0 [oR 0, oI x1] [] m (qI Q)
abbrev c_X12_hold_70 (d : Nat) (x1 : Int32) (m : dM) (Q : Int32 → dM → Prop) : Prop := Wp d 111 0 [oR 70, oI x1, none] [] m (qI Q)
abbrev j_X12_hold_70_20 (d : Nat) (x1 : Int32) (x2 : Int32) (m : dM) (Q : Int32 → dM → Prop) : Prop := Wp d 111 20 [oR 70, oI x1, oI x2] [] m (qI Q)
abbrev c_X7_readFrom_47_53 (d : Nat) (x2 : Int32) (m : dM) (Q : dM → Prop) : Prop := Wp d 211 0 [oR 47, oR 53, oI x2] [] m (qV Q)
abbrev j_X7_readFrom_47_53_13 (d : Nat) (m : dM) (Q : dM → Prop) : Prop := Wp d 211 13 [none, none, none] [] m (qV Q)
abbrev c_X6_fetch_51_47 (d : Nat) (x1 : Int32) (m : dM) (Q : Int32 → dM → Prop) : Prop := Wp d 206 0 [oR 51, oI x1, oR 47] [] m (qI Q)
abbrev j_X6_fetch_51_47_20 (d : Nat) (m : dM) (Q : Int32 → dM → Prop) : Prop := Wp d 206 20 [none, none, none] [] m (qI Q)
abbrev c_X11_restore_0 (d : Nat) (x1 : Int32) (m : dM) (Q : Int32 → dM → Prop) : Prop := Wp d 280 0 [oR 0, oI x1] [] m (qI Q)
abbrev c_X12_restore_70 (d : Nat) (x1 : Int32) (m : dM) (Q : Int32 → dM → Prop) : Prop := Wp d 112 0 [oR 70, oI x1, none] [] m (qI Q)
abbrev j_X12_restore_70_18 (d : Nat) (m : dM) (Q : Int32 → dM → Prop) : Prop := Wp d 112 18 [none, none, none] [] m (qI Q)
abbrev j_X12_restore_70_22 (d : Nat) (x1 : Int32) (x2 : Int32) (m : dM) (Q : Int32 → dM → Prop) : Prop := Wp d 112 22 [oR 70, oI x1, oI x2] [] m (qI Q)
abbrev c_X11_wholeRatings_0 (d : Nat) (m : dM) (Q : Int32 → dM → Prop) : Prop := Wp d 282 0 [oR 0, none, none] [] m (qI Q)
abbrev j_X11_wholeRatings_0_4 (d : Nat) (x1 : Int32) (x2 : Int32) (m : dM) (Q : Int32 → dM → Prop) : Prop := Wp d 282 4 [oR 0, oI x1, oI x2] [] m (qI Q)
abbrev c_X11_count_0 (d : Nat) (x1 : Int32) (m : dM) (Q : Int32 → dM → Prop) : Prop := Wp d 281 0 [oR 0, oI x1] [] m (qI Q)
abbrev c_X12_count_70 (d : Nat) (x1 : Int32) (m : dM) (Q : Int32 → dM → Prop) : Prop := Wp d 113 0 [oR 70, oI x1, none, none] [] m (qI Q)
abbrev j_X12_count_70_228 (d : Nat) (x2 : Int32) (x3 : Int32) (m : dM) (Q : Int32 → dM → Prop) : Prop := Wp d 113 228 [oR 70, none, oI x2, oI x3] [] m (qI Q)
abbrev j_X12_count_70_265 (d : Nat) (x2 : Int32) (x3 : Int32) (m : dM) (Q : Int32 → dM → Prop) : Prop := Wp d 113 265 [oR 70, none, oI x2, oI x3] [] m (qI Q)
abbrev j_X12_count_70_295 (d : Nat) (x2 : Int32) (x3 : Int32) (m : dM) (Q : Int32 → dM → Prop) : Prop := Wp d 113 295 [oR 70, none, oI x2, oI x3] [] m (qI Q)
end
section
theorem v_X11_putBytes_0 {d : Nat} {x1 : Int32} {m : dM} {Q : dM → Prop} (h : j_X11_putBytes_0_3 (d + 1) x1 (24 : Int32) m Q) : c_X11_putBytes_0 (d + 1) x1 m Q := by
  refine w_bipush (q := 2) hm244 ⟨⟨_, _, rfl⟩, rfl⟩ bipush_24 ?_
  refine w_istore_n (q := 3) (l' := [oR 0, oI x1, oI (24 : Int32)]) hm244 ⟨⟨_, _, rfl⟩, rfl⟩ rfl rfl rfl ?_
  exact h
theorem v_X11_putBytes_0_3 {d : Nat} {x1 : Int32} {x2 : Int32} {m : dM} {Q : dM → Prop} (h : ((x2.toInt < 0 → j_X11_putBytes_0_46 (d + 1) m Q) ∧ (0 ≤ x2.toInt → ((2000 ≤ (m.1 0 1).toInt → j_X11_putBytes_0_46 (d + 1) m Q) ∧ ((m.1 0 1).toInt < 2000 → ((0 ≤ (m.1 0 1).toInt ∧ (m.1 0 1).toInt < 2000) ∧ j_X11_putBytes_0_3 (d + 1) x1 (x2 + (-8 : Int32)) (dSet (dSet m 1 (m.1 0 1).toNatClampNeg (x1.toUInt32 >>> (x2.toUInt32 &&& Int32.toUInt32 31)).toInt32.toInt8.toInt32.toInt8.toInt32) 0 1 ((m.1 0 1) + (1 : Int32))) Q)))))) : j_X11_putBytes_0_3 (d + 1) x1 x2 m Q := by
  refine w_iload_n (q := 4) hm244 ⟨⟨_, _, rfl⟩, rfl⟩ rfl ?_
  refine w_if_lt (q := 7) (X := x2.toInt) hm244 ⟨⟨_, _, rfl⟩, rfl⟩ rfl (fun hc => ?_) (fun hc => ?_)
  · have h := h.1 hc
    exact Wp.wk [false, false, false] h
  · have h := h.2 hc
    refine w_aload_n (q := 8) hm244 ⟨⟨_, _, rfl⟩, rfl⟩ rfl ?_
    refine w_getf (q := 11) (v := (m.1 0 1)) hm244 ⟨⟨_, _, rfl⟩, rfl⟩ rfl rfl ?_
    refine w_sipush (q := 14) hm244 ⟨⟨_, _, rfl⟩, rfl⟩ sipush_2000 ?_
    refine w_icmp_ge (q := 17) (X := (m.1 0 1).toInt) (Y := 2000) hm244 ⟨⟨_, _, rfl⟩, rfl⟩ rfl (by decide) (fun hc => ?_) (fun hc => ?_)
    · have h := h.1 hc
      exact Wp.wk [false, false, false] h
    · have h := h.2 hc
      refine w_aload_n (q := 18) hm244 ⟨⟨_, _, rfl⟩, rfl⟩ rfl ?_
      refine w_getr (q := 21) hm244 ⟨⟨_, _, rfl⟩, rfl⟩ rfl ?_
      refine w_aload_n (q := 22) hm244 ⟨⟨_, _, rfl⟩, rfl⟩ rfl ?_
      refine w_getf (q := 25) (v := (m.1 0 1)) hm244 ⟨⟨_, _, rfl⟩, rfl⟩ rfl rfl ?_
      refine w_iload_n (q := 26) hm244 ⟨⟨_, _, rfl⟩, rfl⟩ rfl ?_
      refine w_iload_n (q := 27) hm244 ⟨⟨_, _, rfl⟩, rfl⟩ rfl ?_
      refine w_iushr (q := 28) hm244 ⟨⟨_, _, rfl⟩, rfl⟩ ?_
      refine w_i2b (q := 29) hm244 ⟨⟨_, _, rfl⟩, rfl⟩ ?_
      obtain ⟨hi, h⟩ := h
      refine w_bast (q := 30) hm244 ⟨⟨_, _, rfl⟩, rfl⟩ rfl hi rfl rfl ?_
      refine w_aload_n (q := 31) hm244 ⟨⟨_, _, rfl⟩, rfl⟩ rfl ?_
      refine w_dup (q := 32) hm244 ⟨⟨_, _, rfl⟩, rfl⟩ rfl ?_
      refine w_getf (q := 35) (v := (m.1 0 1)) hm244 ⟨⟨_, _, rfl⟩, rfl⟩ rfl rfl ?_
      refine w_iconst (q := 36) hm244 ⟨⟨_, _, rfl⟩, rfl⟩ iconst_1 ?_
      refine w_iadd (q := 37) hm244 ⟨⟨_, _, rfl⟩, rfl⟩ ?_
      refine w_putf (q := 40) hm244 ⟨⟨_, _, rfl⟩, rfl⟩ rfl rfl rfl ?_
      refine w_iinc (q := 43) (l' := [oR 0, oI x1, oI (x2 + (-8 : Int32))]) hm244 ⟨⟨_, _, rfl⟩, rfl⟩ rfl rfl rfl iconst_m8 rfl ?_
      refine w_goto (q := 3) hm244 ⟨_, _, rfl⟩ ?_
      exact h
theorem v_X11_putBytes_0_46 {d : Nat} {m : dM} {Q : dM → Prop} (h : Q m) : j_X11_putBytes_0_46 (d + 1) m Q := by
  exact w_retv hm244 ⟨⟨_, _, rfl⟩, rfl⟩ rfl h
theorem v_X11_feed_0 {d : Nat} {x1 : Int32} {x2 : Int32} {x3 : Int32} {x4 : Int32} {x5 : Int32} {m : dM} {Q : Int32 → dM → Prop} (h : ((((m.1 0 1) + (20 : Int32)).toInt ≤ 2000 → c_X11_putBytes_0 d x1 m (fun m1 => c_X11_putBytes_0 d x2 m1 (fun m2 => c_X11_putBytes_0 d x3 m2 (fun m3 => c_X11_putBytes_0 d x4 m3 (fun m4 => c_X11_putBytes_0 d x5 m4 (fun m5 => Q (m5.1 0 1) m5)))))) ∧ (2000 < ((m.1 0 1) + (20 : Int32)).toInt → Q (-1 : Int32) m))) : c_X11_feed_0 (d + 1) x1 x2 x3 x4 x5 m Q := by
  refine w_aload_n (q := 1) hm243 ⟨⟨_, _, rfl⟩, rfl⟩ rfl ?_
  refine w_getf (q := 4) (v := (m.1 0 1)) hm243 ⟨⟨_, _, rfl⟩, rfl⟩ rfl rfl ?_
  refine w_bipush (q := 6) hm243 ⟨⟨_, _, rfl⟩, rfl⟩ bipush_20 ?_
  refine w_iadd (q := 7) hm243 ⟨⟨_, _, rfl⟩, rfl⟩ ?_
  refine w_sipush (q := 10) hm243 ⟨⟨_, _, rfl⟩, rfl⟩ sipush_2000 ?_
  refine w_icmp_le (q := 13) (X := ((m.1 0 1) + (20 : Int32)).toInt) (Y := 2000) hm243 ⟨⟨_, _, rfl⟩, rfl⟩ rfl (by decide) (fun hc => ?_) (fun hc => ?_)
  · have h := h.1 hc
    refine w_aload_n (q := 16) hm243 ⟨⟨_, _, rfl⟩, rfl⟩ rfl ?_
    refine w_iload_n (q := 17) hm243 ⟨⟨_, _, rfl⟩, rfl⟩ rfl ?_
    refine w_call (q := 20) (n := 1) (vs := [.inr (.inr (some 0)), .inl x1]) (rest := []) (la := [oR 0, oI x1, none]) hm243 ⟨⟨_, _, rfl⟩, rfl⟩ rfl rfl rfl rfl hm244 rfl rfl (fun _ => ⟨_, _, rfl, rfl⟩) rfl (Wp.mono h ?_)
    rintro _ m1 ⟨rfl, h⟩
    change Wp _ _ 20 _ [] _ _
    refine w_aload_n (q := 21) hm243 ⟨⟨_, _, rfl⟩, rfl⟩ rfl ?_
    refine w_iload_n (q := 22) hm243 ⟨⟨_, _, rfl⟩, rfl⟩ rfl ?_
    refine w_call (q := 25) (n := 1) (vs := [.inr (.inr (some 0)), .inl x2]) (rest := []) (la := [oR 0, oI x2, none]) hm243 ⟨⟨_, _, rfl⟩, rfl⟩ rfl rfl rfl rfl hm244 rfl rfl (fun _ => ⟨_, _, rfl, rfl⟩) rfl (Wp.mono h ?_)
    rintro _ m2 ⟨rfl, h⟩
    change Wp _ _ 25 _ [] _ _
    refine w_aload_n (q := 26) hm243 ⟨⟨_, _, rfl⟩, rfl⟩ rfl ?_
    refine w_iload_n (q := 27) hm243 ⟨⟨_, _, rfl⟩, rfl⟩ rfl ?_
    refine w_call (q := 30) (n := 1) (vs := [.inr (.inr (some 0)), .inl x3]) (rest := []) (la := [oR 0, oI x3, none]) hm243 ⟨⟨_, _, rfl⟩, rfl⟩ rfl rfl rfl rfl hm244 rfl rfl (fun _ => ⟨_, _, rfl, rfl⟩) rfl (Wp.mono h ?_)
    rintro _ m3 ⟨rfl, h⟩
    change Wp _ _ 30 _ [] _ _
    refine w_aload_n (q := 31) hm243 ⟨⟨_, _, rfl⟩, rfl⟩ rfl ?_
    refine w_iload (q := 33) hm243 ⟨⟨_, _, rfl⟩, rfl⟩ rfl ?_
    refine w_call (q := 36) (n := 1) (vs := [.inr (.inr (some 0)), .inl x4]) (rest := []) (la := [oR 0, oI x4, none]) hm243 ⟨⟨_, _, rfl⟩, rfl⟩ rfl rfl rfl rfl hm244 rfl rfl (fun _ => ⟨_, _, rfl, rfl⟩) rfl (Wp.mono h ?_)
    rintro _ m4 ⟨rfl, h⟩
    change Wp _ _ 36 _ [] _ _
    refine w_aload_n (q := 37) hm243 ⟨⟨_, _, rfl⟩, rfl⟩ rfl ?_
    refine w_iload (q := 39) hm243 ⟨⟨_, _, rfl⟩, rfl⟩ rfl ?_
    refine w_call (q := 42) (n := 1) (vs := [.inr (.inr (some 0)), .inl x5]) (rest := []) (la := [oR 0, oI x5, none]) hm243 ⟨⟨_, _, rfl⟩, rfl⟩ rfl rfl rfl rfl hm244 rfl rfl (fun _ => ⟨_, _, rfl, rfl⟩) rfl (Wp.mono h ?_)
    rintro _ m5 ⟨rfl, h⟩
    change Wp _ _ 42 _ [] _ _
    refine w_aload_n (q := 43) hm243 ⟨⟨_, _, rfl⟩, rfl⟩ rfl ?_
    refine w_getf (q := 46) (v := (m5.1 0 1)) hm243 ⟨⟨_, _, rfl⟩, rfl⟩ rfl rfl ?_
    exact w_reti hm243 ⟨⟨_, _, rfl⟩, rfl⟩ rfl h
  · have h := h.2 hc
    refine w_iconst (q := 14) hm243 ⟨⟨_, _, rfl⟩, rfl⟩ iconst_m1 ?_
    exact w_reti hm243 ⟨⟨_, _, rfl⟩, rfl⟩ rfl h
theorem v_X12_put_70 {d : Nat} {x1 : Int32} {m : dM} {Q : dM → Prop} (h : j_X12_put_70_3 (d + 1) x1 (24 : Int32) m Q) : c_X12_put_70 (d + 1) x1 m Q := by
  refine w_bipush (q := 2) hm2 ⟨⟨_, _, rfl⟩, rfl⟩ bipush_24 ?_
  refine w_istore_n (q := 3) (l' := [oR 70, oI x1, oI (24 : Int32)]) hm2 ⟨⟨_, _, rfl⟩, rfl⟩ rfl rfl rfl ?_
  exact h
theorem v_X12_put_70_3 {d : Nat} {x1 : Int32} {x2 : Int32} {m : dM} {Q : dM → Prop} (h : ((x2.toInt < 0 → Q m) ∧ (0 ≤ x2.toInt → ((0 ≤ (m.1 70 2).toInt ∧ (m.1 70 2).toInt < 2000) ∧ j_X12_put_70_3 (d + 1) x1 (x2 + (-8 : Int32)) (dSet (dSet m 71 (m.1 70 2).toNatClampNeg (x1 >>> (x2 &&& 31)).toInt8.toInt32.toInt8.toInt32) 70 2 ((m.1 70 2) + (1 : Int32))) Q)))) : j_X12_put_70_3 (d + 1) x1 x2 m Q := by
  refine w_iload_n (q := 4) hm2 ⟨⟨_, _, rfl⟩, rfl⟩ rfl ?_
  refine w_if_lt (q := 7) (X := x2.toInt) hm2 ⟨⟨_, _, rfl⟩, rfl⟩ rfl (fun hc => ?_) (fun hc => ?_)
  · have h := h.1 hc
    exact w_retv hm2 ⟨⟨_, _, rfl⟩, rfl⟩ rfl h
  · have h := h.2 hc
    refine w_aload_n (q := 8) hm2 ⟨⟨_, _, rfl⟩, rfl⟩ rfl ?_
    refine w_getr (q := 11) hm2 ⟨⟨_, _, rfl⟩, rfl⟩ rfl ?_
    refine w_aload_n (q := 12) hm2 ⟨⟨_, _, rfl⟩, rfl⟩ rfl ?_
    refine w_getf (q := 15) (v := (m.1 70 2)) hm2 ⟨⟨_, _, rfl⟩, rfl⟩ rfl rfl ?_
    refine w_iload_n (q := 16) hm2 ⟨⟨_, _, rfl⟩, rfl⟩ rfl ?_
    refine w_iload_n (q := 17) hm2 ⟨⟨_, _, rfl⟩, rfl⟩ rfl ?_
    refine w_ishr (q := 18) hm2 ⟨⟨_, _, rfl⟩, rfl⟩ ?_
    refine w_i2b (q := 19) hm2 ⟨⟨_, _, rfl⟩, rfl⟩ ?_
    obtain ⟨hi, h⟩ := h
    refine w_bast (q := 20) hm2 ⟨⟨_, _, rfl⟩, rfl⟩ rfl hi rfl rfl ?_
    refine w_aload_n (q := 21) hm2 ⟨⟨_, _, rfl⟩, rfl⟩ rfl ?_
    refine w_dup (q := 22) hm2 ⟨⟨_, _, rfl⟩, rfl⟩ rfl ?_
    refine w_getf (q := 25) (v := (m.1 70 2)) hm2 ⟨⟨_, _, rfl⟩, rfl⟩ rfl rfl ?_
    refine w_iconst (q := 26) hm2 ⟨⟨_, _, rfl⟩, rfl⟩ iconst_1 ?_
    refine w_iadd (q := 27) hm2 ⟨⟨_, _, rfl⟩, rfl⟩ ?_
    refine w_putf (q := 30) hm2 ⟨⟨_, _, rfl⟩, rfl⟩ rfl rfl rfl ?_
    refine w_iinc (q := 33) (l' := [oR 70, oI x1, oI (x2 + (-8 : Int32))]) hm2 ⟨⟨_, _, rfl⟩, rfl⟩ rfl rfl rfl iconst_m8 rfl ?_
    refine w_goto (q := 3) hm2 ⟨_, _, rfl⟩ ?_
    exact h
theorem v_X12_feed_70 {d : Nat} {x1 : Int32} {x2 : Int32} {x3 : Int32} {x4 : Int32} {x5 : Int32} {m : dM} {Q : Int32 → dM → Prop} (h : ((((m.1 70 2) + (20 : Int32)).toInt ≤ 2000 → c_X12_put_70 d x1 m (fun m1 => c_X12_put_70 d x2 m1 (fun m2 => c_X12_put_70 d x3 m2 (fun m3 => c_X12_put_70 d x4 m3 (fun m4 => c_X12_put_70 d x5 m4 (fun m5 => Q (m5.1 70 2) m5)))))) ∧ (2000 < ((m.1 70 2) + (20 : Int32)).toInt → Q (-1 : Int32) m))) : c_X12_feed_70 (d + 1) x1 x2 x3 x4 x5 m Q := by
  refine w_aload_n (q := 1) hm1 ⟨⟨_, _, rfl⟩, rfl⟩ rfl ?_
  refine w_getf (q := 4) (v := (m.1 70 2)) hm1 ⟨⟨_, _, rfl⟩, rfl⟩ rfl rfl ?_
  refine w_bipush (q := 6) hm1 ⟨⟨_, _, rfl⟩, rfl⟩ bipush_20 ?_
  refine w_iadd (q := 7) hm1 ⟨⟨_, _, rfl⟩, rfl⟩ ?_
  refine w_sipush (q := 10) hm1 ⟨⟨_, _, rfl⟩, rfl⟩ sipush_2000 ?_
  refine w_icmp_le (q := 13) (X := ((m.1 70 2) + (20 : Int32)).toInt) (Y := 2000) hm1 ⟨⟨_, _, rfl⟩, rfl⟩ rfl (by decide) (fun hc => ?_) (fun hc => ?_)
  · have h := h.1 hc
    refine w_aload_n (q := 16) hm1 ⟨⟨_, _, rfl⟩, rfl⟩ rfl ?_
    refine w_iload_n (q := 17) hm1 ⟨⟨_, _, rfl⟩, rfl⟩ rfl ?_
    refine w_call (q := 20) (n := 1) (vs := [.inr (.inr (some 70)), .inl x1]) (rest := []) (la := [oR 70, oI x1, none]) hm1 ⟨⟨_, _, rfl⟩, rfl⟩ rfl rfl rfl rfl hm2 rfl rfl (fun _ => ⟨_, _, rfl, rfl⟩) rfl (Wp.mono h ?_)
    rintro _ m1 ⟨rfl, h⟩
    change Wp _ _ 20 _ [] _ _
    refine w_aload_n (q := 21) hm1 ⟨⟨_, _, rfl⟩, rfl⟩ rfl ?_
    refine w_iload_n (q := 22) hm1 ⟨⟨_, _, rfl⟩, rfl⟩ rfl ?_
    refine w_call (q := 25) (n := 1) (vs := [.inr (.inr (some 70)), .inl x2]) (rest := []) (la := [oR 70, oI x2, none]) hm1 ⟨⟨_, _, rfl⟩, rfl⟩ rfl rfl rfl rfl hm2 rfl rfl (fun _ => ⟨_, _, rfl, rfl⟩) rfl (Wp.mono h ?_)
    rintro _ m2 ⟨rfl, h⟩
    change Wp _ _ 25 _ [] _ _
    refine w_aload_n (q := 26) hm1 ⟨⟨_, _, rfl⟩, rfl⟩ rfl ?_
    refine w_iload_n (q := 27) hm1 ⟨⟨_, _, rfl⟩, rfl⟩ rfl ?_
    refine w_call (q := 30) (n := 1) (vs := [.inr (.inr (some 70)), .inl x3]) (rest := []) (la := [oR 70, oI x3, none]) hm1 ⟨⟨_, _, rfl⟩, rfl⟩ rfl rfl rfl rfl hm2 rfl rfl (fun _ => ⟨_, _, rfl, rfl⟩) rfl (Wp.mono h ?_)
    rintro _ m3 ⟨rfl, h⟩
    change Wp _ _ 30 _ [] _ _
    refine w_aload_n (q := 31) hm1 ⟨⟨_, _, rfl⟩, rfl⟩ rfl ?_
    refine w_iload (q := 33) hm1 ⟨⟨_, _, rfl⟩, rfl⟩ rfl ?_
    refine w_call (q := 36) (n := 1) (vs := [.inr (.inr (some 70)), .inl x4]) (rest := []) (la := [oR 70, oI x4, none]) hm1 ⟨⟨_, _, rfl⟩, rfl⟩ rfl rfl rfl rfl hm2 rfl rfl (fun _ => ⟨_, _, rfl, rfl⟩) rfl (Wp.mono h ?_)
    rintro _ m4 ⟨rfl, h⟩
    change Wp _ _ 36 _ [] _ _
    refine w_aload_n (q := 37) hm1 ⟨⟨_, _, rfl⟩, rfl⟩ rfl ?_
    refine w_iload (q := 39) hm1 ⟨⟨_, _, rfl⟩, rfl⟩ rfl ?_
    refine w_call (q := 42) (n := 1) (vs := [.inr (.inr (some 70)), .inl x5]) (rest := []) (la := [oR 70, oI x5, none]) hm1 ⟨⟨_, _, rfl⟩, rfl⟩ rfl rfl rfl rfl hm2 rfl rfl (fun _ => ⟨_, _, rfl, rfl⟩) rfl (Wp.mono h ?_)
    rintro _ m5 ⟨rfl, h⟩
    change Wp _ _ 42 _ [] _ _
    refine w_aload_n (q := 43) hm1 ⟨⟨_, _, rfl⟩, rfl⟩ rfl ?_
    refine w_getf (q := 46) (v := (m5.1 70 2)) hm1 ⟨⟨_, _, rfl⟩, rfl⟩ rfl rfl ?_
    exact w_reti hm1 ⟨⟨_, _, rfl⟩, rfl⟩ rfl h
  · have h := h.2 hc
    refine w_iconst (q := 14) hm1 ⟨⟨_, _, rfl⟩, rfl⟩ iconst_m1 ?_
    exact w_reti hm1 ⟨⟨_, _, rfl⟩, rfl⟩ rfl h
theorem v_X11_back_0 {d : Nat} {x1 : Int32} {m : dM} {Q : Int32 → dM → Prop} (h : ((x1.toInt < 0 → j_X11_back_0_12 (d + 1) m Q) ∧ (0 ≤ x1.toInt → ((x1.toInt ≤ (m.1 0 1).toInt → Q ((m.1 0 1) - x1) (dSet m 0 1 ((m.1 0 1) - x1))) ∧ ((m.1 0 1).toInt < x1.toInt → j_X11_back_0_12 (d + 1) m Q))))) : c_X11_back_0 (d + 1) x1 m Q := by
  refine w_iload_n (q := 1) hm245 ⟨⟨_, _, rfl⟩, rfl⟩ rfl ?_
  refine w_if_lt (q := 4) (X := x1.toInt) hm245 ⟨⟨_, _, rfl⟩, rfl⟩ rfl (fun hc => ?_) (fun hc => ?_)
  · have h := h.1 hc
    exact Wp.wk [false, false] h
  · have h := h.2 hc
    refine w_iload_n (q := 5) hm245 ⟨⟨_, _, rfl⟩, rfl⟩ rfl ?_
    refine w_aload_n (q := 6) hm245 ⟨⟨_, _, rfl⟩, rfl⟩ rfl ?_
    refine w_getf (q := 9) (v := (m.1 0 1)) hm245 ⟨⟨_, _, rfl⟩, rfl⟩ rfl rfl ?_
    refine w_icmp_le (q := 12) (X := x1.toInt) (Y := (m.1 0 1).toInt) hm245 ⟨⟨_, _, rfl⟩, rfl⟩ rfl rfl (fun hc => ?_) (fun hc => ?_)
    · have h := h.1 hc
      refine w_aload_n (q := 15) hm245 ⟨⟨_, _, rfl⟩, rfl⟩ rfl ?_
      refine w_dup (q := 16) hm245 ⟨⟨_, _, rfl⟩, rfl⟩ rfl ?_
      refine w_getf (q := 19) (v := (m.1 0 1)) hm245 ⟨⟨_, _, rfl⟩, rfl⟩ rfl rfl ?_
      refine w_iload_n (q := 20) hm245 ⟨⟨_, _, rfl⟩, rfl⟩ rfl ?_
      refine w_isub (q := 21) hm245 ⟨⟨_, _, rfl⟩, rfl⟩ ?_
      refine w_putf (q := 24) hm245 ⟨⟨_, _, rfl⟩, rfl⟩ rfl rfl rfl ?_
      refine w_aload_n (q := 25) hm245 ⟨⟨_, _, rfl⟩, rfl⟩ rfl ?_
      refine w_getf (q := 28) (v := ((m.1 0 1) - x1)) hm245 ⟨⟨_, _, rfl⟩, rfl⟩ rfl rfl ?_
      exact w_reti hm245 ⟨⟨_, _, rfl⟩, rfl⟩ rfl h
    · have h := h.2 hc
      exact Wp.wk [false, false] h
theorem v_X11_back_0_12 {d : Nat} {m : dM} {Q : Int32 → dM → Prop} (h : Q (-1 : Int32) m) : j_X11_back_0_12 (d + 1) m Q := by
  refine w_iconst (q := 13) hm245 ⟨⟨_, _, rfl⟩, rfl⟩ iconst_m1 ?_
  exact w_reti hm245 ⟨⟨_, _, rfl⟩, rfl⟩ rfl h
theorem v_X12_back_70 {d : Nat} {x1 : Int32} {m : dM} {Q : Int32 → dM → Prop} (h : ((x1.toInt < 0 → j_X12_back_70_12 (d + 1) m Q) ∧ (0 ≤ x1.toInt → ((x1.toInt ≤ (m.1 70 2).toInt → Q ((m.1 70 2) - x1) (dSet m 70 2 ((m.1 70 2) - x1))) ∧ ((m.1 70 2).toInt < x1.toInt → j_X12_back_70_12 (d + 1) m Q))))) : c_X12_back_70 (d + 1) x1 m Q := by
  refine w_iload_n (q := 1) hm3 ⟨⟨_, _, rfl⟩, rfl⟩ rfl ?_
  refine w_if_lt (q := 4) (X := x1.toInt) hm3 ⟨⟨_, _, rfl⟩, rfl⟩ rfl (fun hc => ?_) (fun hc => ?_)
  · have h := h.1 hc
    exact Wp.wk [false, false] h
  · have h := h.2 hc
    refine w_iload_n (q := 5) hm3 ⟨⟨_, _, rfl⟩, rfl⟩ rfl ?_
    refine w_aload_n (q := 6) hm3 ⟨⟨_, _, rfl⟩, rfl⟩ rfl ?_
    refine w_getf (q := 9) (v := (m.1 70 2)) hm3 ⟨⟨_, _, rfl⟩, rfl⟩ rfl rfl ?_
    refine w_icmp_le (q := 12) (X := x1.toInt) (Y := (m.1 70 2).toInt) hm3 ⟨⟨_, _, rfl⟩, rfl⟩ rfl rfl (fun hc => ?_) (fun hc => ?_)
    · have h := h.1 hc
      refine w_aload_n (q := 15) hm3 ⟨⟨_, _, rfl⟩, rfl⟩ rfl ?_
      refine w_dup (q := 16) hm3 ⟨⟨_, _, rfl⟩, rfl⟩ rfl ?_
      refine w_getf (q := 19) (v := (m.1 70 2)) hm3 ⟨⟨_, _, rfl⟩, rfl⟩ rfl rfl ?_
      refine w_iload_n (q := 20) hm3 ⟨⟨_, _, rfl⟩, rfl⟩ rfl ?_
      refine w_isub (q := 21) hm3 ⟨⟨_, _, rfl⟩, rfl⟩ ?_
      refine w_putf (q := 24) hm3 ⟨⟨_, _, rfl⟩, rfl⟩ rfl rfl rfl ?_
      refine w_aload_n (q := 25) hm3 ⟨⟨_, _, rfl⟩, rfl⟩ rfl ?_
      refine w_getf (q := 28) (v := ((m.1 70 2) - x1)) hm3 ⟨⟨_, _, rfl⟩, rfl⟩ rfl rfl ?_
      exact w_reti hm3 ⟨⟨_, _, rfl⟩, rfl⟩ rfl h
    · have h := h.2 hc
      exact Wp.wk [false, false] h
theorem v_X12_back_70_12 {d : Nat} {m : dM} {Q : Int32 → dM → Prop} (h : Q (-1 : Int32) m) : j_X12_back_70_12 (d + 1) m Q := by
  refine w_iconst (q := 13) hm3 ⟨⟨_, _, rfl⟩, rfl⟩ iconst_m1 ?_
  exact w_reti hm3 ⟨⟨_, _, rfl⟩, rfl⟩ rfl h
theorem v_X8_byteAt_38 {d : Nat} {x1 : Int32} {m : dM} {Q : Int32 → dM → Prop} (h : ((m.2.2 = false → j_X8_byteAt_38_41 (d + 1) m Q) ∧ (m.2.2 = true → ((x1.toInt < 0 → j_X8_byteAt_38_41 (d + 1) m Q) ∧ (0 ≤ x1.toInt → (((m.1 38 5).toInt ≤ x1.toInt → j_X8_byteAt_38_41 (d + 1) m Q) ∧ (x1.toInt < (m.1 38 5).toInt → ((2000 ≤ x1.toInt → j_X8_byteAt_38_41 (d + 1) m Q) ∧ (x1.toInt < 2000 → ((0 ≤ x1.toInt ∧ x1.toInt < 2000) ∧ Q ((m.1 1 x1.toNatClampNeg) &&& (255 : Int32)) m)))))))))) : c_X8_byteAt_38 (d + 1) x1 m Q := by
  refine w_aload_n (q := 1) hm221 ⟨⟨_, _, rfl⟩, rfl⟩ rfl ?_
  refine w_gett (q := 4) hm221 ⟨⟨_, _, rfl⟩, rfl⟩ rfl ?_
  refine w_ifnull (q := 7) hm221 ⟨⟨_, _, rfl⟩, rfl⟩ (fun hc => ?_) (fun htx => ?_)
  · have h := h.1 hc
    exact Wp.wk [false, false] h
  · have h := h.2 htx
    refine w_iload_n (q := 8) hm221 ⟨⟨_, _, rfl⟩, rfl⟩ rfl ?_
    refine w_if_lt (q := 11) (X := x1.toInt) hm221 ⟨⟨_, _, rfl⟩, rfl⟩ rfl (fun hc => ?_) (fun hc => ?_)
    · have h := h.1 hc
      exact Wp.wk [false, false] h
    · have h := h.2 hc
      refine w_iload_n (q := 12) hm221 ⟨⟨_, _, rfl⟩, rfl⟩ rfl ?_
      refine w_aload_n (q := 13) hm221 ⟨⟨_, _, rfl⟩, rfl⟩ rfl ?_
      refine w_getf (q := 16) (v := (m.1 38 5)) hm221 ⟨⟨_, _, rfl⟩, rfl⟩ rfl rfl ?_
      refine w_icmp_ge (q := 19) (X := x1.toInt) (Y := (m.1 38 5).toInt) hm221 ⟨⟨_, _, rfl⟩, rfl⟩ rfl rfl (fun hc => ?_) (fun hc => ?_)
      · have h := h.1 hc
        exact Wp.wk [false, false] h
      · have h := h.2 hc
        refine w_iload_n (q := 20) hm221 ⟨⟨_, _, rfl⟩, rfl⟩ rfl ?_
        refine w_aload_n (q := 21) hm221 ⟨⟨_, _, rfl⟩, rfl⟩ rfl ?_
        refine w_gettT (q := 24) hm221 ⟨⟨_, _, rfl⟩, rfl⟩ rfl htx ?_
        refine w_alen (q := 25) hm221 ⟨⟨_, _, rfl⟩, rfl⟩ rfl alen_2000 ?_
        refine w_icmp_ge (q := 28) (X := x1.toInt) (Y := 2000) hm221 ⟨⟨_, _, rfl⟩, rfl⟩ rfl (by decide) (fun hc => ?_) (fun hc => ?_)
        · have h := h.1 hc
          exact Wp.wk [false, false] h
        · have h := h.2 hc
          refine w_aload_n (q := 29) hm221 ⟨⟨_, _, rfl⟩, rfl⟩ rfl ?_
          refine w_gettT (q := 32) hm221 ⟨⟨_, _, rfl⟩, rfl⟩ rfl htx ?_
          refine w_iload_n (q := 33) hm221 ⟨⟨_, _, rfl⟩, rfl⟩ rfl ?_
          obtain ⟨hi, h⟩ := h
          refine w_bald (q := 34) (v := (m.1 1 x1.toNatClampNeg)) hm221 ⟨⟨_, _, rfl⟩, rfl⟩ rfl hi rfl rfl ?_
          refine w_sipush (q := 37) hm221 ⟨⟨_, _, rfl⟩, rfl⟩ sipush_255 ?_
          refine w_iand (q := 38) hm221 ⟨⟨_, _, rfl⟩, rfl⟩ ?_
          refine w_goto (q := 42) hm221 ⟨_, _, rfl⟩ ?_
          exact w_reti hm221 ⟨⟨_, _, rfl⟩, rfl⟩ rfl h
theorem v_X8_byteAt_38_41 {d : Nat} {m : dM} {Q : Int32 → dM → Prop} (h : Q (0 : Int32) m) : j_X8_byteAt_38_41 (d + 1) m Q := by
  refine w_iconst (q := 42) hm221 ⟨⟨_, _, rfl⟩, rfl⟩ iconst_0 ?_
  exact w_reti hm221 ⟨⟨_, _, rfl⟩, rfl⟩ rfl h
theorem v_X8_pastBlanks_38 {d : Nat} {x1 : Int32} {m : dM} {Q : Int32 → dM → Prop} (h : j_X8_pastBlanks_38_2 (d + 1) x1 m Q) : c_X8_pastBlanks_38 (d + 1) x1 m Q := by
  refine w_iload_n (q := 1) hm224 ⟨⟨_, _, rfl⟩, rfl⟩ rfl ?_
  refine w_istore_n (q := 2) (l' := [oR 38, oI x1, oI x1, none]) hm224 ⟨⟨_, _, rfl⟩, rfl⟩ rfl rfl rfl ?_
  exact Wp.wk [true, false, true, false] h
theorem v_X8_pastBlanks_38_2 {d : Nat} {x2 : Int32} {m : dM} {Q : Int32 → dM → Prop} (h : (((m.1 38 5).toInt ≤ x2.toInt → Q (m.1 38 5) m) ∧ (x2.toInt < (m.1 38 5).toInt → c_X8_byteAt_38 d x2 m (fun r1 m1 => ((r1.toInt = 9 → j_X8_pastBlanks_38_42 (d + 1) x2 m1 Q) ∧ (r1.toInt ≠ 9 → ((r1.toInt = 10 → j_X8_pastBlanks_38_42 (d + 1) x2 m1 Q) ∧ (r1.toInt ≠ 10 → ((r1.toInt = 13 → j_X8_pastBlanks_38_42 (d + 1) x2 m1 Q) ∧ (r1.toInt ≠ 13 → ((r1.toInt = 32 → j_X8_pastBlanks_38_42 (d + 1) x2 m1 Q) ∧ (r1.toInt ≠ 32 → Q x2 m1)))))))))))) : j_X8_pastBlanks_38_2 (d + 1) x2 m Q := by
  refine w_iload_n (q := 3) hm224 ⟨⟨_, _, rfl⟩, rfl⟩ rfl ?_
  refine w_aload_n (q := 4) hm224 ⟨⟨_, _, rfl⟩, rfl⟩ rfl ?_
  refine w_getf (q := 7) (v := (m.1 38 5)) hm224 ⟨⟨_, _, rfl⟩, rfl⟩ rfl rfl ?_
  refine w_icmp_ge (q := 10) (X := x2.toInt) (Y := (m.1 38 5).toInt) hm224 ⟨⟨_, _, rfl⟩, rfl⟩ rfl rfl (fun hc => ?_) (fun hc => ?_)
  · have h := h.1 hc
    refine w_aload_n (q := 49) hm224 ⟨⟨_, _, rfl⟩, rfl⟩ rfl ?_
    refine w_getf (q := 52) (v := (m.1 38 5)) hm224 ⟨⟨_, _, rfl⟩, rfl⟩ rfl rfl ?_
    exact w_reti hm224 ⟨⟨_, _, rfl⟩, rfl⟩ rfl h
  · have h := h.2 hc
    refine w_aload_n (q := 11) hm224 ⟨⟨_, _, rfl⟩, rfl⟩ rfl ?_
    refine w_iload_n (q := 12) hm224 ⟨⟨_, _, rfl⟩, rfl⟩ rfl ?_
    refine w_call (q := 15) (n := 0) (vs := [.inr (.inr (some 38)), .inl x2]) (rest := []) (la := [oR 38, oI x2]) hm224 ⟨⟨_, _, rfl⟩, rfl⟩ rfl rfl rfl rfl hm221 rfl rfl (fun _ => ⟨_, _, rfl, rfl⟩) rfl (Wp.mono h ?_)
    rintro _ m1 ⟨r1, rfl, h⟩
    change Wp _ _ 15 _ [.inl r1] _ _
    refine w_istore_n (q := 16) (l' := [oR 38, none, oI x2, oI r1]) hm224 ⟨⟨_, _, rfl⟩, rfl⟩ rfl rfl rfl ?_
    refine w_iload_n (q := 17) hm224 ⟨⟨_, _, rfl⟩, rfl⟩ rfl ?_
    refine w_bipush (q := 19) hm224 ⟨⟨_, _, rfl⟩, rfl⟩ bipush_9 ?_
    refine w_icmp_eq (q := 22) (X := r1.toInt) (Y := 9) hm224 ⟨⟨_, _, rfl⟩, rfl⟩ rfl (by decide) (fun hc => ?_) (fun hc => ?_)
    · have h := h.1 hc
      exact Wp.wk [true, false, true, false] h
    · have h := h.2 hc
      refine w_iload_n (q := 23) hm224 ⟨⟨_, _, rfl⟩, rfl⟩ rfl ?_
      refine w_bipush (q := 25) hm224 ⟨⟨_, _, rfl⟩, rfl⟩ bipush_10 ?_
      refine w_icmp_eq (q := 28) (X := r1.toInt) (Y := 10) hm224 ⟨⟨_, _, rfl⟩, rfl⟩ rfl (by decide) (fun hc => ?_) (fun hc => ?_)
      · have h := h.1 hc
        exact Wp.wk [true, false, true, false] h
      · have h := h.2 hc
        refine w_iload_n (q := 29) hm224 ⟨⟨_, _, rfl⟩, rfl⟩ rfl ?_
        refine w_bipush (q := 31) hm224 ⟨⟨_, _, rfl⟩, rfl⟩ bipush_13 ?_
        refine w_icmp_eq (q := 34) (X := r1.toInt) (Y := 13) hm224 ⟨⟨_, _, rfl⟩, rfl⟩ rfl (by decide) (fun hc => ?_) (fun hc => ?_)
        · have h := h.1 hc
          exact Wp.wk [true, false, true, false] h
        · have h := h.2 hc
          refine w_iload_n (q := 35) hm224 ⟨⟨_, _, rfl⟩, rfl⟩ rfl ?_
          refine w_bipush (q := 37) hm224 ⟨⟨_, _, rfl⟩, rfl⟩ bipush_32 ?_
          refine w_icmp_eq (q := 40) (X := r1.toInt) (Y := 32) hm224 ⟨⟨_, _, rfl⟩, rfl⟩ rfl (by decide) (fun hc => ?_) (fun hc => ?_)
          · have h := h.1 hc
            exact Wp.wk [true, false, true, false] h
          · have h := h.2 hc
            refine w_iload_n (q := 41) hm224 ⟨⟨_, _, rfl⟩, rfl⟩ rfl ?_
            exact w_reti hm224 ⟨⟨_, _, rfl⟩, rfl⟩ rfl h
theorem v_X8_pastBlanks_38_42 {d : Nat} {x2 : Int32} {m : dM} {Q : Int32 → dM → Prop} (h : j_X8_pastBlanks_38_2 (d + 1) (x2 + (1 : Int32)) m Q) : j_X8_pastBlanks_38_42 (d + 1) x2 m Q := by
  refine w_iinc (q := 45) (l' := [oR 38, none, oI (x2 + (1 : Int32)), none]) hm224 ⟨⟨_, _, rfl⟩, rfl⟩ rfl rfl rfl iconst_1 rfl ?_
  refine w_goto (q := 2) hm224 ⟨_, _, rfl⟩ ?_
  exact h
theorem v_X8_isLetterAt_38 {d : Nat} {x1 : Int32} {m : dM} {Q : Int32 → dM → Prop} (h : c_X8_byteAt_38 d x1 m (fun r1 m1 => ((r1.toInt < 97 → j_X8_isLetterAt_38_22 (d + 1) m1 Q) ∧ (97 ≤ r1.toInt → ((122 < r1.toInt → j_X8_isLetterAt_38_22 (d + 1) m1 Q) ∧ (r1.toInt ≤ 122 → Q (1 : Int32) m1)))))) : c_X8_isLetterAt_38 (d + 1) x1 m Q := by
  refine w_aload_n (q := 1) hm222 ⟨⟨_, _, rfl⟩, rfl⟩ rfl ?_
  refine w_iload_n (q := 2) hm222 ⟨⟨_, _, rfl⟩, rfl⟩ rfl ?_
  refine w_call (q := 5) (n := 0) (vs := [.inr (.inr (some 38)), .inl x1]) (rest := []) (la := [oR 38, oI x1]) hm222 ⟨⟨_, _, rfl⟩, rfl⟩ rfl rfl rfl rfl hm221 rfl rfl (fun _ => ⟨_, _, rfl, rfl⟩) rfl (Wp.mono h ?_)
  rintro _ m1 ⟨r1, rfl, h⟩
  change Wp _ _ 5 _ [.inl r1] _ _
  refine w_istore_n (q := 6) (l' := [oR 38, oI x1, oI r1]) hm222 ⟨⟨_, _, rfl⟩, rfl⟩ rfl rfl rfl ?_
  refine w_iload_n (q := 7) hm222 ⟨⟨_, _, rfl⟩, rfl⟩ rfl ?_
  refine w_bipush (q := 9) hm222 ⟨⟨_, _, rfl⟩, rfl⟩ bipush_97 ?_
  refine w_icmp_lt (q := 12) (X := r1.toInt) (Y := 97) hm222 ⟨⟨_, _, rfl⟩, rfl⟩ rfl (by decide) (fun hc => ?_) (fun hc => ?_)
  · have h := h.1 hc
    exact Wp.wk [false, false, false] h
  · have h := h.2 hc
    refine w_iload_n (q := 13) hm222 ⟨⟨_, _, rfl⟩, rfl⟩ rfl ?_
    refine w_bipush (q := 15) hm222 ⟨⟨_, _, rfl⟩, rfl⟩ bipush_122 ?_
    refine w_icmp_gt (q := 18) (X := r1.toInt) (Y := 122) hm222 ⟨⟨_, _, rfl⟩, rfl⟩ rfl (by decide) (fun hc => ?_) (fun hc => ?_)
    · have h := h.1 hc
      exact Wp.wk [false, false, false] h
    · have h := h.2 hc
      refine w_iconst (q := 19) hm222 ⟨⟨_, _, rfl⟩, rfl⟩ iconst_1 ?_
      refine w_goto (q := 23) hm222 ⟨_, _, rfl⟩ ?_
      exact w_retz hm222 ⟨⟨_, _, rfl⟩, rfl⟩ rfl (by decide) h
theorem v_X8_isLetterAt_38_22 {d : Nat} {m : dM} {Q : Int32 → dM → Prop} (h : Q (0 : Int32) m) : j_X8_isLetterAt_38_22 (d + 1) m Q := by
  refine w_iconst (q := 23) hm222 ⟨⟨_, _, rfl⟩, rfl⟩ iconst_0 ?_
  exact w_retz hm222 ⟨⟨_, _, rfl⟩, rfl⟩ rfl (by decide) h
theorem v_X8_isDigitAt_38 {d : Nat} {x1 : Int32} {m : dM} {Q : Int32 → dM → Prop} (h : c_X8_byteAt_38 d x1 m (fun r1 m1 => ((r1.toInt < 48 → j_X8_isDigitAt_38_22 (d + 1) m1 Q) ∧ (48 ≤ r1.toInt → ((57 < r1.toInt → j_X8_isDigitAt_38_22 (d + 1) m1 Q) ∧ (r1.toInt ≤ 57 → Q (1 : Int32) m1)))))) : c_X8_isDigitAt_38 (d + 1) x1 m Q := by
  refine w_aload_n (q := 1) hm223 ⟨⟨_, _, rfl⟩, rfl⟩ rfl ?_
  refine w_iload_n (q := 2) hm223 ⟨⟨_, _, rfl⟩, rfl⟩ rfl ?_
  refine w_call (q := 5) (n := 0) (vs := [.inr (.inr (some 38)), .inl x1]) (rest := []) (la := [oR 38, oI x1]) hm223 ⟨⟨_, _, rfl⟩, rfl⟩ rfl rfl rfl rfl hm221 rfl rfl (fun _ => ⟨_, _, rfl, rfl⟩) rfl (Wp.mono h ?_)
  rintro _ m1 ⟨r1, rfl, h⟩
  change Wp _ _ 5 _ [.inl r1] _ _
  refine w_istore_n (q := 6) (l' := [oR 38, oI x1, oI r1]) hm223 ⟨⟨_, _, rfl⟩, rfl⟩ rfl rfl rfl ?_
  refine w_iload_n (q := 7) hm223 ⟨⟨_, _, rfl⟩, rfl⟩ rfl ?_
  refine w_bipush (q := 9) hm223 ⟨⟨_, _, rfl⟩, rfl⟩ bipush_48 ?_
  refine w_icmp_lt (q := 12) (X := r1.toInt) (Y := 48) hm223 ⟨⟨_, _, rfl⟩, rfl⟩ rfl (by decide) (fun hc => ?_) (fun hc => ?_)
  · have h := h.1 hc
    exact Wp.wk [false, false, false] h
  · have h := h.2 hc
    refine w_iload_n (q := 13) hm223 ⟨⟨_, _, rfl⟩, rfl⟩ rfl ?_
    refine w_bipush (q := 15) hm223 ⟨⟨_, _, rfl⟩, rfl⟩ bipush_57 ?_
    refine w_icmp_gt (q := 18) (X := r1.toInt) (Y := 57) hm223 ⟨⟨_, _, rfl⟩, rfl⟩ rfl (by decide) (fun hc => ?_) (fun hc => ?_)
    · have h := h.1 hc
      exact Wp.wk [false, false, false] h
    · have h := h.2 hc
      refine w_iconst (q := 19) hm223 ⟨⟨_, _, rfl⟩, rfl⟩ iconst_1 ?_
      refine w_goto (q := 23) hm223 ⟨_, _, rfl⟩ ?_
      exact w_retz hm223 ⟨⟨_, _, rfl⟩, rfl⟩ rfl (by decide) h
theorem v_X8_isDigitAt_38_22 {d : Nat} {m : dM} {Q : Int32 → dM → Prop} (h : Q (0 : Int32) m) : j_X8_isDigitAt_38_22 (d + 1) m Q := by
  refine w_iconst (q := 23) hm223 ⟨⟨_, _, rfl⟩, rfl⟩ iconst_0 ?_
  exact w_retz hm223 ⟨⟨_, _, rfl⟩, rfl⟩ rfl (by decide) h
theorem v_X8_signOf {d : Nat} {x0 : Int32} {m : dM} {Q : Int32 → dM → Prop} (h : ((x0.toInt = 40 → Q x0 m) ∧ (x0.toInt = 41 → Q x0 m) ∧ (x0.toInt = 42 → Q x0 m) ∧ (x0.toInt = 43 → Q x0 m) ∧ (x0.toInt = 44 → Q (25 : Int32) m) ∧ (x0.toInt = 45 → Q x0 m) ∧ (x0.toInt = 46 → Q (25 : Int32) m) ∧ (x0.toInt = 47 → Q x0 m) ∧ (x0.toInt = 48 → Q (25 : Int32) m) ∧ (x0.toInt = 49 → Q (25 : Int32) m) ∧ (x0.toInt = 50 → Q (25 : Int32) m) ∧ (x0.toInt = 51 → Q (25 : Int32) m) ∧ (x0.toInt = 52 → Q (25 : Int32) m) ∧ (x0.toInt = 53 → Q (25 : Int32) m) ∧ (x0.toInt = 54 → Q (25 : Int32) m) ∧ (x0.toInt = 55 → Q (25 : Int32) m) ∧ (x0.toInt = 56 → Q (25 : Int32) m) ∧ (x0.toInt = 57 → Q (25 : Int32) m) ∧ (x0.toInt = 58 → Q (25 : Int32) m) ∧ (x0.toInt = 59 → Q x0 m) ∧ (x0.toInt = 60 → Q x0 m) ∧ (x0.toInt = 61 → Q x0 m) ∧ (x0.toInt < 40 ∨ 61 < x0.toInt → Q (25 : Int32) m))) : c_X8_signOf (d + 1) x0 m Q := by
  refine w_iload_n (q := 1) hm226 ⟨⟨_, _, rfl⟩, rfl⟩ rfl ?_
  refine w_tsw (X := x0.toInt) hm226 ⟨_, _, rfl⟩ (by decide) (by decide) rfl ((And.intro (fun hc => ?_) (And.intro (fun hc => ?_) (And.intro (fun hc => ?_) (And.intro (fun hc => ?_) (And.intro (fun hc => ?_) (And.intro (fun hc => ?_) (And.intro (fun hc => ?_) (And.intro (fun hc => ?_) (And.intro (fun hc => ?_) (And.intro (fun hc => ?_) (And.intro (fun hc => ?_) (And.intro (fun hc => ?_) (And.intro (fun hc => ?_) (And.intro (fun hc => ?_) (And.intro (fun hc => ?_) (And.intro (fun hc => ?_) (And.intro (fun hc => ?_) (And.intro (fun hc => ?_) (And.intro (fun hc => ?_) (And.intro (fun hc => ?_) (And.intro (fun hc => ?_) (And.intro (fun hc => ?_) trivial))))))))))))))))))))))) (fun hc => ?_)
  · have h := (h.1) hc
    change Wp _ _ 104 _ _ _ _
    refine w_iload_n (q := 105) hm226 ⟨⟨_, _, rfl⟩, rfl⟩ rfl ?_
    exact w_reti hm226 ⟨⟨_, _, rfl⟩, rfl⟩ rfl h
  · have h := (h.2.1) hc
    change Wp _ _ 104 _ _ _ _
    refine w_iload_n (q := 105) hm226 ⟨⟨_, _, rfl⟩, rfl⟩ rfl ?_
    exact w_reti hm226 ⟨⟨_, _, rfl⟩, rfl⟩ rfl h
  · have h := (h.2.2.1) hc
    change Wp _ _ 104 _ _ _ _
    refine w_iload_n (q := 105) hm226 ⟨⟨_, _, rfl⟩, rfl⟩ rfl ?_
    exact w_reti hm226 ⟨⟨_, _, rfl⟩, rfl⟩ rfl h
  · have h := (h.2.2.2.1) hc
    change Wp _ _ 104 _ _ _ _
    refine w_iload_n (q := 105) hm226 ⟨⟨_, _, rfl⟩, rfl⟩ rfl ?_
    exact w_reti hm226 ⟨⟨_, _, rfl⟩, rfl⟩ rfl h
  · have h := (h.2.2.2.2.1) hc
    change Wp _ _ 106 _ _ _ _
    refine w_bipush (q := 108) hm226 ⟨⟨_, _, rfl⟩, rfl⟩ bipush_25 ?_
    exact w_reti hm226 ⟨⟨_, _, rfl⟩, rfl⟩ rfl h
  · have h := (h.2.2.2.2.2.1) hc
    change Wp _ _ 104 _ _ _ _
    refine w_iload_n (q := 105) hm226 ⟨⟨_, _, rfl⟩, rfl⟩ rfl ?_
    exact w_reti hm226 ⟨⟨_, _, rfl⟩, rfl⟩ rfl h
  · have h := (h.2.2.2.2.2.2.1) hc
    change Wp _ _ 106 _ _ _ _
    refine w_bipush (q := 108) hm226 ⟨⟨_, _, rfl⟩, rfl⟩ bipush_25 ?_
    exact w_reti hm226 ⟨⟨_, _, rfl⟩, rfl⟩ rfl h
  · have h := (h.2.2.2.2.2.2.2.1) hc
    change Wp _ _ 104 _ _ _ _
    refine w_iload_n (q := 105) hm226 ⟨⟨_, _, rfl⟩, rfl⟩ rfl ?_
    exact w_reti hm226 ⟨⟨_, _, rfl⟩, rfl⟩ rfl h
  · have h := (h.2.2.2.2.2.2.2.2.1) hc
    change Wp _ _ 106 _ _ _ _
    refine w_bipush (q := 108) hm226 ⟨⟨_, _, rfl⟩, rfl⟩ bipush_25 ?_
    exact w_reti hm226 ⟨⟨_, _, rfl⟩, rfl⟩ rfl h
  · have h := (h.2.2.2.2.2.2.2.2.2.1) hc
    change Wp _ _ 106 _ _ _ _
    refine w_bipush (q := 108) hm226 ⟨⟨_, _, rfl⟩, rfl⟩ bipush_25 ?_
    exact w_reti hm226 ⟨⟨_, _, rfl⟩, rfl⟩ rfl h
  · have h := (h.2.2.2.2.2.2.2.2.2.2.1) hc
    change Wp _ _ 106 _ _ _ _
    refine w_bipush (q := 108) hm226 ⟨⟨_, _, rfl⟩, rfl⟩ bipush_25 ?_
    exact w_reti hm226 ⟨⟨_, _, rfl⟩, rfl⟩ rfl h
  · have h := (h.2.2.2.2.2.2.2.2.2.2.2.1) hc
    change Wp _ _ 106 _ _ _ _
    refine w_bipush (q := 108) hm226 ⟨⟨_, _, rfl⟩, rfl⟩ bipush_25 ?_
    exact w_reti hm226 ⟨⟨_, _, rfl⟩, rfl⟩ rfl h
  · have h := (h.2.2.2.2.2.2.2.2.2.2.2.2.1) hc
    change Wp _ _ 106 _ _ _ _
    refine w_bipush (q := 108) hm226 ⟨⟨_, _, rfl⟩, rfl⟩ bipush_25 ?_
    exact w_reti hm226 ⟨⟨_, _, rfl⟩, rfl⟩ rfl h
  · have h := (h.2.2.2.2.2.2.2.2.2.2.2.2.2.1) hc
    change Wp _ _ 106 _ _ _ _
    refine w_bipush (q := 108) hm226 ⟨⟨_, _, rfl⟩, rfl⟩ bipush_25 ?_
    exact w_reti hm226 ⟨⟨_, _, rfl⟩, rfl⟩ rfl h
  · have h := (h.2.2.2.2.2.2.2.2.2.2.2.2.2.2.1) hc
    change Wp _ _ 106 _ _ _ _
    refine w_bipush (q := 108) hm226 ⟨⟨_, _, rfl⟩, rfl⟩ bipush_25 ?_
    exact w_reti hm226 ⟨⟨_, _, rfl⟩, rfl⟩ rfl h
  · have h := (h.2.2.2.2.2.2.2.2.2.2.2.2.2.2.2.1) hc
    change Wp _ _ 106 _ _ _ _
    refine w_bipush (q := 108) hm226 ⟨⟨_, _, rfl⟩, rfl⟩ bipush_25 ?_
    exact w_reti hm226 ⟨⟨_, _, rfl⟩, rfl⟩ rfl h
  · have h := (h.2.2.2.2.2.2.2.2.2.2.2.2.2.2.2.2.1) hc
    change Wp _ _ 106 _ _ _ _
    refine w_bipush (q := 108) hm226 ⟨⟨_, _, rfl⟩, rfl⟩ bipush_25 ?_
    exact w_reti hm226 ⟨⟨_, _, rfl⟩, rfl⟩ rfl h
  · have h := (h.2.2.2.2.2.2.2.2.2.2.2.2.2.2.2.2.2.1) hc
    change Wp _ _ 106 _ _ _ _
    refine w_bipush (q := 108) hm226 ⟨⟨_, _, rfl⟩, rfl⟩ bipush_25 ?_
    exact w_reti hm226 ⟨⟨_, _, rfl⟩, rfl⟩ rfl h
  · have h := (h.2.2.2.2.2.2.2.2.2.2.2.2.2.2.2.2.2.2.1) hc
    change Wp _ _ 106 _ _ _ _
    refine w_bipush (q := 108) hm226 ⟨⟨_, _, rfl⟩, rfl⟩ bipush_25 ?_
    exact w_reti hm226 ⟨⟨_, _, rfl⟩, rfl⟩ rfl h
  · have h := (h.2.2.2.2.2.2.2.2.2.2.2.2.2.2.2.2.2.2.2.1) hc
    change Wp _ _ 104 _ _ _ _
    refine w_iload_n (q := 105) hm226 ⟨⟨_, _, rfl⟩, rfl⟩ rfl ?_
    exact w_reti hm226 ⟨⟨_, _, rfl⟩, rfl⟩ rfl h
  · have h := (h.2.2.2.2.2.2.2.2.2.2.2.2.2.2.2.2.2.2.2.2.1) hc
    change Wp _ _ 104 _ _ _ _
    refine w_iload_n (q := 105) hm226 ⟨⟨_, _, rfl⟩, rfl⟩ rfl ?_
    exact w_reti hm226 ⟨⟨_, _, rfl⟩, rfl⟩ rfl h
  · have h := (h.2.2.2.2.2.2.2.2.2.2.2.2.2.2.2.2.2.2.2.2.2.1) hc
    change Wp _ _ 104 _ _ _ _
    refine w_iload_n (q := 105) hm226 ⟨⟨_, _, rfl⟩, rfl⟩ rfl ?_
    exact w_reti hm226 ⟨⟨_, _, rfl⟩, rfl⟩ rfl h
  · have h := (h.2.2.2.2.2.2.2.2.2.2.2.2.2.2.2.2.2.2.2.2.2.2) hc
    change Wp _ _ 106 _ _ _ _
    refine w_bipush (q := 108) hm226 ⟨⟨_, _, rfl⟩, rfl⟩ bipush_25 ?_
    exact w_reti hm226 ⟨⟨_, _, rfl⟩, rfl⟩ rfl h
theorem v_X8_scanDigits_38 {d : Nat} {x1 : Int32} {x2 : Int32} {m : dM} {Q : Int32 → dM → Prop} (h : j_X8_scanDigits_38_5 (d + 1) x1 x2 (0 : Int64) x2 m Q) : c_X8_scanDigits_38 (d + 1) x1 x2 m Q := by
  refine w_lconst (q := 1) hm229 ⟨⟨_, _, rfl⟩, rfl⟩ lconst_0 ?_
  refine w_lstore_n (q := 2) (l' := [oR 38, oI x1, oI x2, oL (0 : Int64), none, none]) hm229 ⟨⟨_, _, rfl⟩, rfl⟩ rfl rfl rfl ?_
  refine w_iload_n (q := 3) hm229 ⟨⟨_, _, rfl⟩, rfl⟩ rfl ?_
  refine w_istore (q := 5) (l' := [oR 38, oI x1, oI x2, oL (0 : Int64), none, oI x2]) hm229 ⟨⟨_, _, rfl⟩, rfl⟩ rfl rfl rfl ?_
  exact h
theorem v_X8_scanDigits_38_5 {d : Nat} {x1 : Int32} {x2 : Int32} {y3 : Int64} {x5 : Int32} {m : dM} {Q : Int32 → dM → Prop} (h : (((m.1 38 5).toInt ≤ x5.toInt → j_X8_scanDigits_38_54 (d + 1) x1 x2 y3 x5 m Q) ∧ (x5.toInt < (m.1 38 5).toInt → ((4 < (x5 - x2).toInt → j_X8_scanDigits_38_54 (d + 1) x1 x2 y3 x5 m Q) ∧ ((x5 - x2).toInt ≤ 4 → c_X8_isDigitAt_38 d x5 m (fun r1 m1 => ((r1.toInt = 0 → j_X8_scanDigits_38_54 (d + 1) x1 x2 y3 x5 m1 Q) ∧ (r1.toInt ≠ 0 → c_X8_byteAt_38 d x5 m1 (fun r2 m2 => j_X8_scanDigits_38_5 (d + 1) x1 x2 ((y3 * (10 : Int64)) + (r2 - (48 : Int32)).toInt64) (x5 + (1 : Int32)) m2 Q))))))))) : j_X8_scanDigits_38_5 (d + 1) x1 x2 y3 x5 m Q := by
  refine w_iload (q := 7) hm229 ⟨⟨_, _, rfl⟩, rfl⟩ rfl ?_
  refine w_aload_n (q := 8) hm229 ⟨⟨_, _, rfl⟩, rfl⟩ rfl ?_
  refine w_getf (q := 11) (v := (m.1 38 5)) hm229 ⟨⟨_, _, rfl⟩, rfl⟩ rfl rfl ?_
  refine w_icmp_ge (q := 14) (X := x5.toInt) (Y := (m.1 38 5).toInt) hm229 ⟨⟨_, _, rfl⟩, rfl⟩ rfl rfl (fun hc => ?_) (fun hc => ?_)
  · have h := h.1 hc
    exact h
  · have h := h.2 hc
    refine w_iload (q := 16) hm229 ⟨⟨_, _, rfl⟩, rfl⟩ rfl ?_
    refine w_iload_n (q := 17) hm229 ⟨⟨_, _, rfl⟩, rfl⟩ rfl ?_
    refine w_isub (q := 18) hm229 ⟨⟨_, _, rfl⟩, rfl⟩ ?_
    refine w_iconst (q := 19) hm229 ⟨⟨_, _, rfl⟩, rfl⟩ iconst_4 ?_
    refine w_icmp_gt (q := 22) (X := (x5 - x2).toInt) (Y := 4) hm229 ⟨⟨_, _, rfl⟩, rfl⟩ rfl (by decide) (fun hc => ?_) (fun hc => ?_)
    · have h := h.1 hc
      exact h
    · have h := h.2 hc
      refine w_aload_n (q := 23) hm229 ⟨⟨_, _, rfl⟩, rfl⟩ rfl ?_
      refine w_iload (q := 25) hm229 ⟨⟨_, _, rfl⟩, rfl⟩ rfl ?_
      refine w_call (q := 28) (n := 1) (vs := [.inr (.inr (some 38)), .inl x5]) (rest := []) (la := [oR 38, oI x5, none]) hm229 ⟨⟨_, _, rfl⟩, rfl⟩ rfl rfl rfl rfl hm223 rfl rfl (fun _ => ⟨_, _, rfl, rfl⟩) rfl (Wp.mono h ?_)
      rintro _ m1 ⟨r1, rfl, h⟩
      change Wp _ _ 28 _ [.inl r1] _ _
      refine w_if_eq (q := 31) (X := r1.toInt) hm229 ⟨⟨_, _, rfl⟩, rfl⟩ rfl (fun hc => ?_) (fun hc => ?_)
      · have h := h.1 hc
        exact h
      · have h := h.2 hc
        refine w_lload_n (q := 32) hm229 ⟨⟨_, _, rfl⟩, rfl⟩ rfl ?_
        refine w_ldc2_w (q := 35) hm229 ⟨⟨_, _, rfl⟩, rfl⟩ ldc2_10 ?_
        refine w_lmul (q := 36) hm229 ⟨⟨_, _, rfl⟩, rfl⟩ ?_
        refine w_aload_n (q := 37) hm229 ⟨⟨_, _, rfl⟩, rfl⟩ rfl ?_
        refine w_iload (q := 39) hm229 ⟨⟨_, _, rfl⟩, rfl⟩ rfl ?_
        refine w_call (q := 42) (n := 0) (vs := [.inr (.inr (some 38)), .inl x5]) (rest := [.inr (.inl (y3 * (10 : Int64)))]) (la := [oR 38, oI x5]) hm229 ⟨⟨_, _, rfl⟩, rfl⟩ rfl rfl rfl rfl hm221 rfl rfl (fun _ => ⟨_, _, rfl, rfl⟩) rfl (Wp.mono h ?_)
        rintro _ m2 ⟨r2, rfl, h⟩
        change Wp _ _ 42 _ [.inl r2, .inr (.inl (y3 * (10 : Int64)))] _ _
        refine w_bipush (q := 44) hm229 ⟨⟨_, _, rfl⟩, rfl⟩ bipush_48 ?_
        refine w_isub (q := 45) hm229 ⟨⟨_, _, rfl⟩, rfl⟩ ?_
        refine w_i2l (q := 46) hm229 ⟨⟨_, _, rfl⟩, rfl⟩ ?_
        refine w_ladd (q := 47) hm229 ⟨⟨_, _, rfl⟩, rfl⟩ ?_
        refine w_lstore_n (q := 48) (l' := [oR 38, oI x1, oI x2, oL ((y3 * (10 : Int64)) + (r2 - (48 : Int32)).toInt64), none, oI x5]) hm229 ⟨⟨_, _, rfl⟩, rfl⟩ rfl rfl rfl ?_
        refine w_iinc (q := 51) (l' := [oR 38, oI x1, oI x2, oL ((y3 * (10 : Int64)) + (r2 - (48 : Int32)).toInt64), none, oI (x5 + (1 : Int32))]) hm229 ⟨⟨_, _, rfl⟩, rfl⟩ rfl rfl rfl iconst_1 rfl ?_
        refine w_goto (q := 5) hm229 ⟨_, _, rfl⟩ ?_
        exact h
theorem v_X8_scanDigits_38_54 {d : Nat} {x1 : Int32} {x2 : Int32} {y3 : Int64} {x5 : Int32} {m : dM} {Q : Int32 → dM → Prop} (h : ((0 ≤ x1.toInt ∧ x1.toInt < 401) ∧ (((x5 - x2).toInt ≤ 4 → ((0 ≤ x1.toInt ∧ x1.toInt < 401) ∧ Q x5 (dSet (dSetL m 41 x1.toNatClampNeg y3) 39 x1.toNatClampNeg (23 : Int32)))) ∧ (4 < (x5 - x2).toInt → ((0 ≤ x1.toInt ∧ x1.toInt < 401) ∧ Q x5 (dSet (dSetL m 41 x1.toNatClampNeg y3) 39 x1.toNatClampNeg (25 : Int32))))))) : j_X8_scanDigits_38_54 (d + 1) x1 x2 y3 x5 m Q := by
  refine w_aload_n (q := 55) hm229 ⟨⟨_, _, rfl⟩, rfl⟩ rfl ?_
  refine w_getr (q := 58) hm229 ⟨⟨_, _, rfl⟩, rfl⟩ rfl ?_
  refine w_iload_n (q := 59) hm229 ⟨⟨_, _, rfl⟩, rfl⟩ rfl ?_
  refine w_lload_n (q := 60) hm229 ⟨⟨_, _, rfl⟩, rfl⟩ rfl ?_
  obtain ⟨hi, h⟩ := h
  refine w_last (q := 61) hm229 ⟨⟨_, _, rfl⟩, rfl⟩ rfl hi rfl rfl ?_
  refine w_aload_n (q := 62) hm229 ⟨⟨_, _, rfl⟩, rfl⟩ rfl ?_
  refine w_getr (q := 65) hm229 ⟨⟨_, _, rfl⟩, rfl⟩ rfl ?_
  refine w_iload_n (q := 66) hm229 ⟨⟨_, _, rfl⟩, rfl⟩ rfl ?_
  refine w_iload (q := 68) hm229 ⟨⟨_, _, rfl⟩, rfl⟩ rfl ?_
  refine w_iload_n (q := 69) hm229 ⟨⟨_, _, rfl⟩, rfl⟩ rfl ?_
  refine w_isub (q := 70) hm229 ⟨⟨_, _, rfl⟩, rfl⟩ ?_
  refine w_iconst (q := 71) hm229 ⟨⟨_, _, rfl⟩, rfl⟩ iconst_4 ?_
  refine w_icmp_le (q := 74) (X := (x5 - x2).toInt) (Y := 4) hm229 ⟨⟨_, _, rfl⟩, rfl⟩ rfl (by decide) (fun hc => ?_) (fun hc => ?_)
  · have h := h.1 hc
    refine w_bipush (q := 81) hm229 ⟨⟨_, _, rfl⟩, rfl⟩ bipush_23 ?_
    obtain ⟨hi, h⟩ := h
    refine w_iast (q := 82) hm229 ⟨⟨_, _, rfl⟩, rfl⟩ rfl hi rfl rfl ?_
    refine w_iload (q := 84) hm229 ⟨⟨_, _, rfl⟩, rfl⟩ rfl ?_
    exact w_reti hm229 ⟨⟨_, _, rfl⟩, rfl⟩ rfl h
  · have h := h.2 hc
    refine w_bipush (q := 76) hm229 ⟨⟨_, _, rfl⟩, rfl⟩ bipush_25 ?_
    refine w_goto (q := 81) hm229 ⟨_, _, rfl⟩ ?_
    obtain ⟨hi, h⟩ := h
    refine w_iast (q := 82) hm229 ⟨⟨_, _, rfl⟩, rfl⟩ rfl hi rfl rfl ?_
    refine w_iload (q := 84) hm229 ⟨⟨_, _, rfl⟩, rfl⟩ rfl ?_
    exact w_reti hm229 ⟨⟨_, _, rfl⟩, rfl⟩ rfl h
theorem v_X8_withLetter {d : Nat} {y0 : Int64} {x2 : Int32} {m : dM} {Q : Int64 → dM → Prop} (h : Q ((y0 * (27 : Int64)) + ((x2 - (97 : Int32)) + (1 : Int32)).toInt64) m) : c_X8_withLetter (d + 1) y0 x2 m Q := by
  refine w_lload_n (q := 1) hm220 ⟨⟨_, _, rfl⟩, rfl⟩ rfl ?_
  refine w_ldc2_w (q := 4) hm220 ⟨⟨_, _, rfl⟩, rfl⟩ ldc2_27 ?_
  refine w_lmul (q := 5) hm220 ⟨⟨_, _, rfl⟩, rfl⟩ ?_
  refine w_iload_n (q := 6) hm220 ⟨⟨_, _, rfl⟩, rfl⟩ rfl ?_
  refine w_bipush (q := 8) hm220 ⟨⟨_, _, rfl⟩, rfl⟩ bipush_97 ?_
  refine w_isub (q := 9) hm220 ⟨⟨_, _, rfl⟩, rfl⟩ ?_
  refine w_iconst (q := 10) hm220 ⟨⟨_, _, rfl⟩, rfl⟩ iconst_1 ?_
  refine w_iadd (q := 11) hm220 ⟨⟨_, _, rfl⟩, rfl⟩ ?_
  refine w_i2l (q := 12) hm220 ⟨⟨_, _, rfl⟩, rfl⟩ ?_
  refine w_ladd (q := 13) hm220 ⟨⟨_, _, rfl⟩, rfl⟩ ?_
  exact w_retl hm220 ⟨⟨_, _, rfl⟩, rfl⟩ rfl h
theorem v_X8_wordOrName_38 {d : Nat} {y1 : Int64} {m : dM} {Q : Int32 → dM → Prop} (h : j_X8_wordOrName_38_2 (d + 1) y1 (0 : Int32) m Q) : c_X8_wordOrName_38 (d + 1) y1 m Q := by
  refine w_iconst (q := 1) hm228 ⟨⟨_, _, rfl⟩, rfl⟩ iconst_0 ?_
  refine w_istore_n (q := 2) (l' := [oR 38, oL y1, none, oI (0 : Int32)]) hm228 ⟨⟨_, _, rfl⟩, rfl⟩ rfl rfl rfl ?_
  exact h
theorem v_X8_wordOrName_38_2 {d : Nat} {y1 : Int64} {x3 : Int32} {m : dM} {Q : Int32 → dM → Prop} (h : ((22 ≤ x3.toInt → Q (22 : Int32) m) ∧ (x3.toInt < 22 → ((0 ≤ x3.toInt ∧ x3.toInt < 22) ∧ (((lg_cmp (tKv x3.toNatClampNeg) y1).toInt ≠ 0 → j_X8_wordOrName_38_2 (d + 1) y1 (x3 + (1 : Int32)) m Q) ∧ ((lg_cmp (tKv x3.toNatClampNeg) y1).toInt = 0 → Q x3 m)))))) : j_X8_wordOrName_38_2 (d + 1) y1 x3 m Q := by
  refine w_iload_n (q := 3) hm228 ⟨⟨_, _, rfl⟩, rfl⟩ rfl ?_
  refine w_bipush (q := 5) hm228 ⟨⟨_, _, rfl⟩, rfl⟩ bipush_22 ?_
  refine w_icmp_ge (q := 8) (X := x3.toInt) (Y := 22) hm228 ⟨⟨_, _, rfl⟩, rfl⟩ rfl (by decide) (fun hc => ?_) (fun hc => ?_)
  · have h := h.1 hc
    refine w_bipush (q := 29) hm228 ⟨⟨_, _, rfl⟩, rfl⟩ bipush_22 ?_
    exact w_reti hm228 ⟨⟨_, _, rfl⟩, rfl⟩ rfl h
  · have h := h.2 hc
    refine w_aload_n (q := 9) hm228 ⟨⟨_, _, rfl⟩, rfl⟩ rfl ?_
    refine w_getr (q := 12) hm228 ⟨⟨_, _, rfl⟩, rfl⟩ rfl ?_
    refine w_iload_n (q := 13) hm228 ⟨⟨_, _, rfl⟩, rfl⟩ rfl ?_
    obtain ⟨hi, h⟩ := h
    refine w_lald (q := 14) (v := (tKv x3.toNatClampNeg)) hm228 ⟨⟨_, _, rfl⟩, rfl⟩ rfl hi rfl rfl ?_
    refine w_lload_n (q := 15) hm228 ⟨⟨_, _, rfl⟩, rfl⟩ rfl ?_
    refine w_lcmp (q := 16) hm228 ⟨⟨_, _, rfl⟩, rfl⟩ ?_
    refine w_if_ne (q := 19) (X := (lg_cmp (tKv x3.toNatClampNeg) y1).toInt) hm228 ⟨⟨_, _, rfl⟩, rfl⟩ rfl (fun hc => ?_) (fun hc => ?_)
    · have h := h.1 hc
      refine w_iinc (q := 24) (l' := [oR 38, oL y1, none, oI (x3 + (1 : Int32))]) hm228 ⟨⟨_, _, rfl⟩, rfl⟩ rfl rfl rfl iconst_1 rfl ?_
      refine w_goto (q := 2) hm228 ⟨_, _, rfl⟩ ?_
      exact h
    · have h := h.2 hc
      refine w_iload_n (q := 20) hm228 ⟨⟨_, _, rfl⟩, rfl⟩ rfl ?_
      exact w_reti hm228 ⟨⟨_, _, rfl⟩, rfl⟩ rfl h
theorem v_X8_scanLetters_38 {d : Nat} {x1 : Int32} {x2 : Int32} {m : dM} {Q : Int32 → dM → Prop} (h : j_X8_scanLetters_38_5 (d + 1) x1 x2 (0 : Int64) x2 m Q) : c_X8_scanLetters_38 (d + 1) x1 x2 m Q := by
  refine w_lconst (q := 1) hm227 ⟨⟨_, _, rfl⟩, rfl⟩ lconst_0 ?_
  refine w_lstore_n (q := 2) (l' := [oR 38, oI x1, oI x2, oL (0 : Int64), none, none]) hm227 ⟨⟨_, _, rfl⟩, rfl⟩ rfl rfl rfl ?_
  refine w_iload_n (q := 3) hm227 ⟨⟨_, _, rfl⟩, rfl⟩ rfl ?_
  refine w_istore (q := 5) (l' := [oR 38, oI x1, oI x2, oL (0 : Int64), none, oI x2]) hm227 ⟨⟨_, _, rfl⟩, rfl⟩ rfl rfl rfl ?_
  exact h
theorem v_X8_scanLetters_38_5 {d : Nat} {x1 : Int32} {x2 : Int32} {y3 : Int64} {x5 : Int32} {m : dM} {Q : Int32 → dM → Prop} (h : (((m.1 38 5).toInt ≤ x5.toInt → j_X8_scanLetters_38_49 (d + 1) x1 x2 y3 x5 m Q) ∧ (x5.toInt < (m.1 38 5).toInt → ((8 < (x5 - x2).toInt → j_X8_scanLetters_38_49 (d + 1) x1 x2 y3 x5 m Q) ∧ ((x5 - x2).toInt ≤ 8 → c_X8_isLetterAt_38 d x5 m (fun r1 m1 => ((r1.toInt = 0 → j_X8_scanLetters_38_49 (d + 1) x1 x2 y3 x5 m1 Q) ∧ (r1.toInt ≠ 0 → c_X8_byteAt_38 d x5 m1 (fun r2 m2 => c_X8_withLetter d y3 r2 m2 (fun r3 m3 => j_X8_scanLetters_38_5 (d + 1) x1 x2 r3 (x5 + (1 : Int32)) m3 Q)))))))))) : j_X8_scanLetters_38_5 (d + 1) x1 x2 y3 x5 m Q := by
  refine w_iload (q := 7) hm227 ⟨⟨_, _, rfl⟩, rfl⟩ rfl ?_
  refine w_aload_n (q := 8) hm227 ⟨⟨_, _, rfl⟩, rfl⟩ rfl ?_
  refine w_getf (q := 11) (v := (m.1 38 5)) hm227 ⟨⟨_, _, rfl⟩, rfl⟩ rfl rfl ?_
  refine w_icmp_ge (q := 14) (X := x5.toInt) (Y := (m.1 38 5).toInt) hm227 ⟨⟨_, _, rfl⟩, rfl⟩ rfl rfl (fun hc => ?_) (fun hc => ?_)
  · have h := h.1 hc
    exact h
  · have h := h.2 hc
    refine w_iload (q := 16) hm227 ⟨⟨_, _, rfl⟩, rfl⟩ rfl ?_
    refine w_iload_n (q := 17) hm227 ⟨⟨_, _, rfl⟩, rfl⟩ rfl ?_
    refine w_isub (q := 18) hm227 ⟨⟨_, _, rfl⟩, rfl⟩ ?_
    refine w_bipush (q := 20) hm227 ⟨⟨_, _, rfl⟩, rfl⟩ bipush_8 ?_
    refine w_icmp_gt (q := 23) (X := (x5 - x2).toInt) (Y := 8) hm227 ⟨⟨_, _, rfl⟩, rfl⟩ rfl (by decide) (fun hc => ?_) (fun hc => ?_)
    · have h := h.1 hc
      exact h
    · have h := h.2 hc
      refine w_aload_n (q := 24) hm227 ⟨⟨_, _, rfl⟩, rfl⟩ rfl ?_
      refine w_iload (q := 26) hm227 ⟨⟨_, _, rfl⟩, rfl⟩ rfl ?_
      refine w_call (q := 29) (n := 1) (vs := [.inr (.inr (some 38)), .inl x5]) (rest := []) (la := [oR 38, oI x5, none]) hm227 ⟨⟨_, _, rfl⟩, rfl⟩ rfl rfl rfl rfl hm222 rfl rfl (fun _ => ⟨_, _, rfl, rfl⟩) rfl (Wp.mono h ?_)
      rintro _ m1 ⟨r1, rfl, h⟩
      change Wp _ _ 29 _ [.inl r1] _ _
      refine w_if_eq (q := 32) (X := r1.toInt) hm227 ⟨⟨_, _, rfl⟩, rfl⟩ rfl (fun hc => ?_) (fun hc => ?_)
      · have h := h.1 hc
        exact h
      · have h := h.2 hc
        refine w_lload_n (q := 33) hm227 ⟨⟨_, _, rfl⟩, rfl⟩ rfl ?_
        refine w_aload_n (q := 34) hm227 ⟨⟨_, _, rfl⟩, rfl⟩ rfl ?_
        refine w_iload (q := 36) hm227 ⟨⟨_, _, rfl⟩, rfl⟩ rfl ?_
        refine w_call (q := 39) (n := 0) (vs := [.inr (.inr (some 38)), .inl x5]) (rest := [.inr (.inl y3)]) (la := [oR 38, oI x5]) hm227 ⟨⟨_, _, rfl⟩, rfl⟩ rfl rfl rfl rfl hm221 rfl rfl (fun _ => ⟨_, _, rfl, rfl⟩) rfl (Wp.mono h ?_)
        rintro _ m2 ⟨r2, rfl, h⟩
        change Wp _ _ 39 _ [.inl r2, .inr (.inl y3)] _ _
        refine w_call (q := 42) (n := 0) (vs := [.inr (.inl y3), .inl r2]) (rest := []) (la := [oL y3, none, oI r2]) hm227 ⟨⟨_, _, rfl⟩, rfl⟩ rfl rfl rfl rfl hm220 rfl rfl (fun hz => absurd hz (by decide)) rfl (Wp.mono h ?_)
        rintro _ m3 ⟨r3, rfl, h⟩
        change Wp _ _ 42 _ [.inr (.inl r3)] _ _
        refine w_lstore_n (q := 43) (l' := [oR 38, oI x1, oI x2, oL r3, none, oI x5]) hm227 ⟨⟨_, _, rfl⟩, rfl⟩ rfl rfl rfl ?_
        refine w_iinc (q := 46) (l' := [oR 38, oI x1, oI x2, oL r3, none, oI (x5 + (1 : Int32))]) hm227 ⟨⟨_, _, rfl⟩, rfl⟩ rfl rfl rfl iconst_1 rfl ?_
        refine w_goto (q := 5) hm227 ⟨_, _, rfl⟩ ?_
        exact h
theorem v_X8_scanLetters_38_49 {d : Nat} {x1 : Int32} {x2 : Int32} {y3 : Int64} {x5 : Int32} {m : dM} {Q : Int32 → dM → Prop} (h : ((0 ≤ x1.toInt ∧ x1.toInt < 401) ∧ (((x5 - x2).toInt ≤ 8 → c_X8_wordOrName_38 d y3 (dSetL m 41 x1.toNatClampNeg y3) (fun r1 m1 => ((0 ≤ x1.toInt ∧ x1.toInt < 401) ∧ Q x5 (dSet m1 39 x1.toNatClampNeg r1)))) ∧ (8 < (x5 - x2).toInt → ((0 ≤ x1.toInt ∧ x1.toInt < 401) ∧ Q x5 (dSet (dSetL m 41 x1.toNatClampNeg y3) 39 x1.toNatClampNeg (25 : Int32))))))) : j_X8_scanLetters_38_49 (d + 1) x1 x2 y3 x5 m Q := by
  refine w_aload_n (q := 50) hm227 ⟨⟨_, _, rfl⟩, rfl⟩ rfl ?_
  refine w_getr (q := 53) hm227 ⟨⟨_, _, rfl⟩, rfl⟩ rfl ?_
  refine w_iload_n (q := 54) hm227 ⟨⟨_, _, rfl⟩, rfl⟩ rfl ?_
  refine w_lload_n (q := 55) hm227 ⟨⟨_, _, rfl⟩, rfl⟩ rfl ?_
  obtain ⟨hi, h⟩ := h
  refine w_last (q := 56) hm227 ⟨⟨_, _, rfl⟩, rfl⟩ rfl hi rfl rfl ?_
  refine w_aload_n (q := 57) hm227 ⟨⟨_, _, rfl⟩, rfl⟩ rfl ?_
  refine w_getr (q := 60) hm227 ⟨⟨_, _, rfl⟩, rfl⟩ rfl ?_
  refine w_iload_n (q := 61) hm227 ⟨⟨_, _, rfl⟩, rfl⟩ rfl ?_
  refine w_iload (q := 63) hm227 ⟨⟨_, _, rfl⟩, rfl⟩ rfl ?_
  refine w_iload_n (q := 64) hm227 ⟨⟨_, _, rfl⟩, rfl⟩ rfl ?_
  refine w_isub (q := 65) hm227 ⟨⟨_, _, rfl⟩, rfl⟩ ?_
  refine w_bipush (q := 67) hm227 ⟨⟨_, _, rfl⟩, rfl⟩ bipush_8 ?_
  refine w_icmp_le (q := 70) (X := (x5 - x2).toInt) (Y := 8) hm227 ⟨⟨_, _, rfl⟩, rfl⟩ rfl (by decide) (fun hc => ?_) (fun hc => ?_)
  · have h := h.1 hc
    refine w_aload_n (q := 76) hm227 ⟨⟨_, _, rfl⟩, rfl⟩ rfl ?_
    refine w_lload_n (q := 77) hm227 ⟨⟨_, _, rfl⟩, rfl⟩ rfl ?_
    refine w_call (q := 80) (n := 1) (vs := [.inr (.inr (some 38)), .inr (.inl y3)]) (rest := [.inl x1, .inr (.inr (some 39))]) (la := [oR 38, oL y3, none, none]) hm227 ⟨⟨_, _, rfl⟩, rfl⟩ rfl rfl rfl rfl hm228 rfl rfl (fun _ => ⟨_, _, rfl, rfl⟩) rfl (Wp.mono h ?_)
    rintro _ m1 ⟨r1, rfl, h⟩
    change Wp _ _ 80 _ [.inl r1, .inl x1, .inr (.inr (some 39))] _ _
    obtain ⟨hi, h⟩ := h
    refine w_iast (q := 81) hm227 ⟨⟨_, _, rfl⟩, rfl⟩ rfl hi rfl rfl ?_
    refine w_iload (q := 83) hm227 ⟨⟨_, _, rfl⟩, rfl⟩ rfl ?_
    exact w_reti hm227 ⟨⟨_, _, rfl⟩, rfl⟩ rfl h
  · have h := h.2 hc
    refine w_bipush (q := 72) hm227 ⟨⟨_, _, rfl⟩, rfl⟩ bipush_25 ?_
    refine w_goto (q := 80) hm227 ⟨_, _, rfl⟩ ?_
    obtain ⟨hi, h⟩ := h
    refine w_iast (q := 81) hm227 ⟨⟨_, _, rfl⟩, rfl⟩ rfl hi rfl rfl ?_
    refine w_iload (q := 83) hm227 ⟨⟨_, _, rfl⟩, rfl⟩ rfl ?_
    exact w_reti hm227 ⟨⟨_, _, rfl⟩, rfl⟩ rfl h
theorem v_X8_scanOne_38 {d : Nat} {x1 : Int32} {x2 : Int32} {m : dM} {Q : Int32 → dM → Prop} (h : ((x2.toInt < (m.1 38 5).toInt → c_X8_isLetterAt_38 d x2 m (fun r1 m1 => ((r1.toInt = 0 → c_X8_isDigitAt_38 d x2 m1 (fun r2 m2 => ((r2.toInt = 0 → c_X8_byteAt_38 d x2 m2 (fun r3 m3 => c_X8_signOf d r3 m3 (fun r4 m4 => ((0 ≤ x1.toInt ∧ x1.toInt < 401) ∧ Q (x2 + (1 : Int32)) (dSet m4 39 x1.toNatClampNeg r4))))) ∧ (r2.toInt ≠ 0 → c_X8_scanDigits_38 d x1 x2 m2 (fun r5 m5 => Q r5 m5))))) ∧ (r1.toInt ≠ 0 → c_X8_scanLetters_38 d x1 x2 m1 (fun r6 m6 => Q r6 m6))))) ∧ ((m.1 38 5).toInt ≤ x2.toInt → ((0 ≤ x1.toInt ∧ x1.toInt < 401) ∧ Q x2 (dSet m 39 x1.toNatClampNeg (24 : Int32)))))) : c_X8_scanOne_38 (d + 1) x1 x2 m Q := by
  refine w_iload_n (q := 1) hm225 ⟨⟨_, _, rfl⟩, rfl⟩ rfl ?_
  refine w_aload_n (q := 2) hm225 ⟨⟨_, _, rfl⟩, rfl⟩ rfl ?_
  refine w_getf (q := 5) (v := (m.1 38 5)) hm225 ⟨⟨_, _, rfl⟩, rfl⟩ rfl rfl ?_
  refine w_icmp_lt (q := 8) (X := x2.toInt) (Y := (m.1 38 5).toInt) hm225 ⟨⟨_, _, rfl⟩, rfl⟩ rfl rfl (fun hc => ?_) (fun hc => ?_)
  · have h := h.1 hc
    refine w_aload_n (q := 19) hm225 ⟨⟨_, _, rfl⟩, rfl⟩ rfl ?_
    refine w_iload_n (q := 20) hm225 ⟨⟨_, _, rfl⟩, rfl⟩ rfl ?_
    refine w_call (q := 23) (n := 1) (vs := [.inr (.inr (some 38)), .inl x2]) (rest := []) (la := [oR 38, oI x2, none]) hm225 ⟨⟨_, _, rfl⟩, rfl⟩ rfl rfl rfl rfl hm222 rfl rfl (fun _ => ⟨_, _, rfl, rfl⟩) rfl (Wp.mono h ?_)
    rintro _ m1 ⟨r1, rfl, h⟩
    change Wp _ _ 23 _ [.inl r1] _ _
    refine w_if_eq (q := 26) (X := r1.toInt) hm225 ⟨⟨_, _, rfl⟩, rfl⟩ rfl (fun hc => ?_) (fun hc => ?_)
    · have h := h.1 hc
      refine w_aload_n (q := 34) hm225 ⟨⟨_, _, rfl⟩, rfl⟩ rfl ?_
      refine w_iload_n (q := 35) hm225 ⟨⟨_, _, rfl⟩, rfl⟩ rfl ?_
      refine w_call (q := 38) (n := 1) (vs := [.inr (.inr (some 38)), .inl x2]) (rest := []) (la := [oR 38, oI x2, none]) hm225 ⟨⟨_, _, rfl⟩, rfl⟩ rfl rfl rfl rfl hm223 rfl rfl (fun _ => ⟨_, _, rfl, rfl⟩) rfl (Wp.mono h ?_)
      rintro _ m2 ⟨r2, rfl, h⟩
      change Wp _ _ 38 _ [.inl r2] _ _
      refine w_if_eq (q := 41) (X := r2.toInt) hm225 ⟨⟨_, _, rfl⟩, rfl⟩ rfl (fun hc => ?_) (fun hc => ?_)
      · have h := h.1 hc
        refine w_aload_n (q := 49) hm225 ⟨⟨_, _, rfl⟩, rfl⟩ rfl ?_
        refine w_getr (q := 52) hm225 ⟨⟨_, _, rfl⟩, rfl⟩ rfl ?_
        refine w_iload_n (q := 53) hm225 ⟨⟨_, _, rfl⟩, rfl⟩ rfl ?_
        refine w_aload_n (q := 54) hm225 ⟨⟨_, _, rfl⟩, rfl⟩ rfl ?_
        refine w_iload_n (q := 55) hm225 ⟨⟨_, _, rfl⟩, rfl⟩ rfl ?_
        refine w_call (q := 58) (n := 0) (vs := [.inr (.inr (some 38)), .inl x2]) (rest := [.inl x1, .inr (.inr (some 39))]) (la := [oR 38, oI x2]) hm225 ⟨⟨_, _, rfl⟩, rfl⟩ rfl rfl rfl rfl hm221 rfl rfl (fun _ => ⟨_, _, rfl, rfl⟩) rfl (Wp.mono h ?_)
        rintro _ m3 ⟨r3, rfl, h⟩
        change Wp _ _ 58 _ [.inl r3, .inl x1, .inr (.inr (some 39))] _ _
        refine w_call (q := 61) (n := 0) (vs := [.inl r3]) (rest := [.inl x1, .inr (.inr (some 39))]) (la := [oI r3]) hm225 ⟨⟨_, _, rfl⟩, rfl⟩ rfl rfl rfl rfl hm226 rfl rfl (fun hz => absurd hz (by decide)) rfl (Wp.mono h ?_)
        rintro _ m4 ⟨r4, rfl, h⟩
        change Wp _ _ 61 _ [.inl r4, .inl x1, .inr (.inr (some 39))] _ _
        obtain ⟨hi, h⟩ := h
        refine w_iast (q := 62) hm225 ⟨⟨_, _, rfl⟩, rfl⟩ rfl hi rfl rfl ?_
        refine w_iload_n (q := 63) hm225 ⟨⟨_, _, rfl⟩, rfl⟩ rfl ?_
        refine w_iconst (q := 64) hm225 ⟨⟨_, _, rfl⟩, rfl⟩ iconst_1 ?_
        refine w_iadd (q := 65) hm225 ⟨⟨_, _, rfl⟩, rfl⟩ ?_
        exact w_reti hm225 ⟨⟨_, _, rfl⟩, rfl⟩ rfl h
      · have h := h.2 hc
        refine w_aload_n (q := 42) hm225 ⟨⟨_, _, rfl⟩, rfl⟩ rfl ?_
        refine w_iload_n (q := 43) hm225 ⟨⟨_, _, rfl⟩, rfl⟩ rfl ?_
        refine w_iload_n (q := 44) hm225 ⟨⟨_, _, rfl⟩, rfl⟩ rfl ?_
        refine w_call (q := 47) (n := 3) (vs := [.inr (.inr (some 38)), .inl x1, .inl x2]) (rest := []) (la := [oR 38, oI x1, oI x2, none, none, none]) hm225 ⟨⟨_, _, rfl⟩, rfl⟩ rfl rfl rfl rfl hm229 rfl rfl (fun _ => ⟨_, _, rfl, rfl⟩) rfl (Wp.mono h ?_)
        rintro _ m5 ⟨r5, rfl, h⟩
        change Wp _ _ 47 _ [.inl r5] _ _
        exact w_reti hm225 ⟨⟨_, _, rfl⟩, rfl⟩ rfl h
    · have h := h.2 hc
      refine w_aload_n (q := 27) hm225 ⟨⟨_, _, rfl⟩, rfl⟩ rfl ?_
      refine w_iload_n (q := 28) hm225 ⟨⟨_, _, rfl⟩, rfl⟩ rfl ?_
      refine w_iload_n (q := 29) hm225 ⟨⟨_, _, rfl⟩, rfl⟩ rfl ?_
      refine w_call (q := 32) (n := 3) (vs := [.inr (.inr (some 38)), .inl x1, .inl x2]) (rest := []) (la := [oR 38, oI x1, oI x2, none, none, none]) hm225 ⟨⟨_, _, rfl⟩, rfl⟩ rfl rfl rfl rfl hm227 rfl rfl (fun _ => ⟨_, _, rfl, rfl⟩) rfl (Wp.mono h ?_)
      rintro _ m6 ⟨r6, rfl, h⟩
      change Wp _ _ 32 _ [.inl r6] _ _
      exact w_reti hm225 ⟨⟨_, _, rfl⟩, rfl⟩ rfl h
  · have h := h.2 hc
    refine w_aload_n (q := 9) hm225 ⟨⟨_, _, rfl⟩, rfl⟩ rfl ?_
    refine w_getr (q := 12) hm225 ⟨⟨_, _, rfl⟩, rfl⟩ rfl ?_
    refine w_iload_n (q := 13) hm225 ⟨⟨_, _, rfl⟩, rfl⟩ rfl ?_
    refine w_bipush (q := 15) hm225 ⟨⟨_, _, rfl⟩, rfl⟩ bipush_24 ?_
    obtain ⟨hi, h⟩ := h
    refine w_iast (q := 16) hm225 ⟨⟨_, _, rfl⟩, rfl⟩ rfl hi rfl rfl ?_
    refine w_iload_n (q := 17) hm225 ⟨⟨_, _, rfl⟩, rfl⟩ rfl ?_
    exact w_reti hm225 ⟨⟨_, _, rfl⟩, rfl⟩ rfl h
theorem v_X8_scan_38_1 {d : Nat} {x2 : Int32} {m : dM} {Q : dM → Prop} (h : j_X8_scan_38_1_20 (d + 1) (0 : Int32) (0 : Int32) (dSet (dTx m) 38 5 (if (2000 : Int32) < x2 then (2000 : Int32) else x2)) Q) : c_X8_scan_38_1 (d + 1) x2 m Q := by
  refine w_aload_n (q := 1) hm215 ⟨⟨_, _, rfl⟩, rfl⟩ rfl ?_
  refine w_aload_n (q := 2) hm215 ⟨⟨_, _, rfl⟩, rfl⟩ rfl ?_
  refine w_putt (q := 5) hm215 ⟨⟨_, _, rfl⟩, rfl⟩ rfl rfl rfl rfl ?_
  refine w_aload_n (q := 6) hm215 ⟨⟨_, _, rfl⟩, rfl⟩ rfl ?_
  refine w_iload_n (q := 7) hm215 ⟨⟨_, _, rfl⟩, rfl⟩ rfl ?_
  refine w_aload_n (q := 8) hm215 ⟨⟨_, _, rfl⟩, rfl⟩ rfl ?_
  refine w_alen (q := 9) hm215 ⟨⟨_, _, rfl⟩, rfl⟩ rfl alen_2000 ?_
  refine w_min (q := 12) hm215 ⟨⟨_, _, rfl⟩, rfl⟩ rfl rfl ?_
  refine w_putf (q := 15) hm215 ⟨⟨_, _, rfl⟩, rfl⟩ rfl rfl rfl ?_
  refine w_iconst (q := 16) hm215 ⟨⟨_, _, rfl⟩, rfl⟩ iconst_0 ?_
  refine w_istore_n (q := 17) (l' := [oR 38, oR 1, oI x2, oI (0 : Int32), none]) hm215 ⟨⟨_, _, rfl⟩, rfl⟩ rfl rfl rfl ?_
  refine w_iconst (q := 18) hm215 ⟨⟨_, _, rfl⟩, rfl⟩ iconst_0 ?_
  refine w_istore (q := 20) (l' := [oR 38, oR 1, oI x2, oI (0 : Int32), oI (0 : Int32)]) hm215 ⟨⟨_, _, rfl⟩, rfl⟩ rfl rfl rfl ?_
  exact Wp.wk [true, false, false, true, true] h
theorem v_X8_scan_38_1_20 {d : Nat} {x3 : Int32} {x4 : Int32} {m : dM} {Q : dM → Prop} (h : ((400 < x4.toInt → Q m) ∧ (x4.toInt ≤ 400 → c_X8_pastBlanks_38 d x3 m (fun r1 m1 => ((0 ≤ x4.toInt ∧ x4.toInt < 401) ∧ c_X8_scanOne_38 d x4 r1 (dSet m1 40 x4.toNatClampNeg r1) (fun r2 m2 => ((0 ≤ x4.toInt ∧ x4.toInt < 401) ∧ (((m2.1 39 x4.toNatClampNeg).toInt = 24 → j_X8_scan_38_1_74 (d + 1) m2 Q) ∧ ((m2.1 39 x4.toNatClampNeg).toInt ≠ 24 → ((0 ≤ x4.toInt ∧ x4.toInt < 401) ∧ (((m2.1 39 x4.toNatClampNeg).toInt ≠ 25 → j_X8_scan_38_1_20 (d + 1) r2 (x4 + (1 : Int32)) m2 Q) ∧ ((m2.1 39 x4.toNatClampNeg).toInt = 25 → j_X8_scan_38_1_74 (d + 1) m2 Q)))))))))))) : j_X8_scan_38_1_20 (d + 1) x3 x4 m Q := by
  refine w_iload (q := 22) hm215 ⟨⟨_, _, rfl⟩, rfl⟩ rfl ?_
  refine w_sipush (q := 25) hm215 ⟨⟨_, _, rfl⟩, rfl⟩ sipush_400 ?_
  refine w_icmp_gt (q := 28) (X := x4.toInt) (Y := 400) hm215 ⟨⟨_, _, rfl⟩, rfl⟩ rfl (by decide) (fun hc => ?_) (fun hc => ?_)
  · have h := h.1 hc
    exact w_retv hm215 ⟨⟨_, _, rfl⟩, rfl⟩ rfl h
  · have h := h.2 hc
    refine w_aload_n (q := 29) hm215 ⟨⟨_, _, rfl⟩, rfl⟩ rfl ?_
    refine w_iload_n (q := 30) hm215 ⟨⟨_, _, rfl⟩, rfl⟩ rfl ?_
    refine w_call (q := 33) (n := 2) (vs := [.inr (.inr (some 38)), .inl x3]) (rest := []) (la := [oR 38, oI x3, none, none]) hm215 ⟨⟨_, _, rfl⟩, rfl⟩ rfl rfl rfl rfl hm224 rfl rfl (fun _ => ⟨_, _, rfl, rfl⟩) rfl (Wp.mono h ?_)
    rintro _ m1 ⟨r1, rfl, h⟩
    change Wp _ _ 33 _ [.inl r1] _ _
    refine w_istore_n (q := 34) (l' := [oR 38, none, none, oI r1, oI x4]) hm215 ⟨⟨_, _, rfl⟩, rfl⟩ rfl rfl rfl ?_
    refine w_aload_n (q := 35) hm215 ⟨⟨_, _, rfl⟩, rfl⟩ rfl ?_
    refine w_getr (q := 38) hm215 ⟨⟨_, _, rfl⟩, rfl⟩ rfl ?_
    refine w_iload (q := 40) hm215 ⟨⟨_, _, rfl⟩, rfl⟩ rfl ?_
    refine w_iload_n (q := 41) hm215 ⟨⟨_, _, rfl⟩, rfl⟩ rfl ?_
    obtain ⟨hi, h⟩ := h
    refine w_iast (q := 42) hm215 ⟨⟨_, _, rfl⟩, rfl⟩ rfl hi rfl rfl ?_
    refine w_aload_n (q := 43) hm215 ⟨⟨_, _, rfl⟩, rfl⟩ rfl ?_
    refine w_iload (q := 45) hm215 ⟨⟨_, _, rfl⟩, rfl⟩ rfl ?_
    refine w_iload_n (q := 46) hm215 ⟨⟨_, _, rfl⟩, rfl⟩ rfl ?_
    refine w_call (q := 49) (n := 0) (vs := [.inr (.inr (some 38)), .inl x4, .inl r1]) (rest := []) (la := [oR 38, oI x4, oI r1]) hm215 ⟨⟨_, _, rfl⟩, rfl⟩ rfl rfl rfl rfl hm225 rfl rfl (fun _ => ⟨_, _, rfl, rfl⟩) rfl (Wp.mono h ?_)
    rintro _ m2 ⟨r2, rfl, h⟩
    change Wp _ _ 49 _ [.inl r2] _ _
    refine w_istore_n (q := 50) (l' := [oR 38, none, none, oI r2, oI x4]) hm215 ⟨⟨_, _, rfl⟩, rfl⟩ rfl rfl rfl ?_
    refine w_aload_n (q := 51) hm215 ⟨⟨_, _, rfl⟩, rfl⟩ rfl ?_
    refine w_getr (q := 54) hm215 ⟨⟨_, _, rfl⟩, rfl⟩ rfl ?_
    refine w_iload (q := 56) hm215 ⟨⟨_, _, rfl⟩, rfl⟩ rfl ?_
    obtain ⟨hi, h⟩ := h
    refine w_iald (q := 57) (v := (m2.1 39 x4.toNatClampNeg)) hm215 ⟨⟨_, _, rfl⟩, rfl⟩ rfl hi rfl rfl ?_
    refine w_bipush (q := 59) hm215 ⟨⟨_, _, rfl⟩, rfl⟩ bipush_24 ?_
    refine w_icmp_eq (q := 62) (X := (m2.1 39 x4.toNatClampNeg).toInt) (Y := 24) hm215 ⟨⟨_, _, rfl⟩, rfl⟩ rfl (by decide) (fun hc => ?_) (fun hc => ?_)
    · have h := h.1 hc
      exact Wp.wk [false, false, false, false, false] h
    · have h := h.2 hc
      refine w_aload_n (q := 63) hm215 ⟨⟨_, _, rfl⟩, rfl⟩ rfl ?_
      refine w_getr (q := 66) hm215 ⟨⟨_, _, rfl⟩, rfl⟩ rfl ?_
      refine w_iload (q := 68) hm215 ⟨⟨_, _, rfl⟩, rfl⟩ rfl ?_
      obtain ⟨hi, h⟩ := h
      refine w_iald (q := 69) (v := (m2.1 39 x4.toNatClampNeg)) hm215 ⟨⟨_, _, rfl⟩, rfl⟩ rfl hi rfl rfl ?_
      refine w_bipush (q := 71) hm215 ⟨⟨_, _, rfl⟩, rfl⟩ bipush_25 ?_
      refine w_icmp_ne (q := 74) (X := (m2.1 39 x4.toNatClampNeg).toInt) (Y := 25) hm215 ⟨⟨_, _, rfl⟩, rfl⟩ rfl (by decide) (fun hc => ?_) (fun hc => ?_)
      · have h := h.1 hc
        refine w_iinc (q := 78) (l' := [oR 38, none, none, oI r2, oI (x4 + (1 : Int32))]) hm215 ⟨⟨_, _, rfl⟩, rfl⟩ rfl rfl rfl iconst_1 rfl ?_
        refine w_goto (q := 20) hm215 ⟨_, _, rfl⟩ ?_
        exact h
      · have h := h.2 hc
        exact Wp.wk [false, false, false, false, false] h
theorem v_X8_scan_38_1_74 {d : Nat} {m : dM} {Q : dM → Prop} (h : Q m) : j_X8_scan_38_1_74 (d + 1) m Q := by
  exact w_retv hm215 ⟨⟨_, _, rfl⟩, rfl⟩ rfl h
theorem v_X4_begin_29 {d : Nat} {x1 : Int32} {m : dM} {Q : dM → Prop} (h : ((0 ≤ x1.toInt ∧ x1.toInt < 4) ∧ ((0 ≤ x1.toInt ∧ x1.toInt < 4) ∧ (x1.toInt = 0 → Q (dSet (dSet m 36 x1.toNatClampNeg (0 : Int32)) 32 0 (m.1 29 1))) ∧ (x1.toInt = 1 → Q (dSet (dSet m 36 x1.toNatClampNeg (0 : Int32)) 33 0 (m.1 29 1))) ∧ (x1.toInt = 2 → Q (dSet (dSet m 36 x1.toNatClampNeg (0 : Int32)) 34 0 (m.1 29 1))) ∧ (x1.toInt = 3 → Q (dSet (dSet m 36 x1.toNatClampNeg (0 : Int32)) 35 0 (m.1 29 1)))))) : c_X4_begin_29 (d + 1) x1 m Q := by
  refine w_aload_n (q := 1) hm178 ⟨⟨_, _, rfl⟩, rfl⟩ rfl ?_
  refine w_getr (q := 4) hm178 ⟨⟨_, _, rfl⟩, rfl⟩ rfl ?_
  refine w_iload_n (q := 5) hm178 ⟨⟨_, _, rfl⟩, rfl⟩ rfl ?_
  refine w_iconst (q := 6) hm178 ⟨⟨_, _, rfl⟩, rfl⟩ iconst_0 ?_
  obtain ⟨hi, h⟩ := h
  refine w_iast (q := 7) hm178 ⟨⟨_, _, rfl⟩, rfl⟩ rfl hi rfl rfl ?_
  refine w_aload_n (q := 8) hm178 ⟨⟨_, _, rfl⟩, rfl⟩ rfl ?_
  refine w_getr (q := 11) hm178 ⟨⟨_, _, rfl⟩, rfl⟩ rfl ?_
  refine w_iload_n (q := 12) hm178 ⟨⟨_, _, rfl⟩, rfl⟩ rfl ?_
  obtain ⟨hi, h⟩ := h
  refine w_aald (q := 13) hm178 ⟨⟨_, _, rfl⟩, rfl⟩ rfl rfl hi ((And.intro (fun hc => ?_) (And.intro (fun hc => ?_) (And.intro (fun hc => ?_) (And.intro (fun hc => ?_) trivial)))))
  · have h := (h.1) hc
    refine w_iconst (q := 14) hm178 ⟨⟨_, _, rfl⟩, rfl⟩ iconst_0 ?_
    refine w_aload_n (q := 15) hm178 ⟨⟨_, _, rfl⟩, rfl⟩ rfl ?_
    refine w_getf (q := 18) (v := (m.1 29 1)) hm178 ⟨⟨_, _, rfl⟩, rfl⟩ rfl rfl ?_
    refine w_iast (q := 19) (j := 0) hm178 ⟨⟨_, _, rfl⟩, rfl⟩ rfl (by decide) (by decide) rfl ?_
    exact w_retv hm178 ⟨⟨_, _, rfl⟩, rfl⟩ rfl h
  · have h := (h.2.1) hc
    refine w_iconst (q := 14) hm178 ⟨⟨_, _, rfl⟩, rfl⟩ iconst_0 ?_
    refine w_aload_n (q := 15) hm178 ⟨⟨_, _, rfl⟩, rfl⟩ rfl ?_
    refine w_getf (q := 18) (v := (m.1 29 1)) hm178 ⟨⟨_, _, rfl⟩, rfl⟩ rfl rfl ?_
    refine w_iast (q := 19) (j := 0) hm178 ⟨⟨_, _, rfl⟩, rfl⟩ rfl (by decide) (by decide) rfl ?_
    exact w_retv hm178 ⟨⟨_, _, rfl⟩, rfl⟩ rfl h
  · have h := (h.2.2.1) hc
    refine w_iconst (q := 14) hm178 ⟨⟨_, _, rfl⟩, rfl⟩ iconst_0 ?_
    refine w_aload_n (q := 15) hm178 ⟨⟨_, _, rfl⟩, rfl⟩ rfl ?_
    refine w_getf (q := 18) (v := (m.1 29 1)) hm178 ⟨⟨_, _, rfl⟩, rfl⟩ rfl rfl ?_
    refine w_iast (q := 19) (j := 0) hm178 ⟨⟨_, _, rfl⟩, rfl⟩ rfl (by decide) (by decide) rfl ?_
    exact w_retv hm178 ⟨⟨_, _, rfl⟩, rfl⟩ rfl h
  · have h := (h.2.2.2) hc
    refine w_iconst (q := 14) hm178 ⟨⟨_, _, rfl⟩, rfl⟩ iconst_0 ?_
    refine w_aload_n (q := 15) hm178 ⟨⟨_, _, rfl⟩, rfl⟩ rfl ?_
    refine w_getf (q := 18) (v := (m.1 29 1)) hm178 ⟨⟨_, _, rfl⟩, rfl⟩ rfl rfl ?_
    refine w_iast (q := 19) (j := 0) hm178 ⟨⟨_, _, rfl⟩, rfl⟩ rfl (by decide) (by decide) rfl ?_
    exact w_retv hm178 ⟨⟨_, _, rfl⟩, rfl⟩ rfl h
theorem v_X4_put_29 {d : Nat} {x1 : Int32} {m : dM} {Q : dM → Prop} (h : ((406 ≤ (m.1 29 1).toInt → j_X4_put_29_32 (d + 1) m Q) ∧ ((m.1 29 1).toInt < 406 → ((0 ≤ (m.1 29 1).toInt ∧ (m.1 29 1).toInt < 406) ∧ j_X4_put_29_32 (d + 1) (dSet (dSet m 30 (m.1 29 1).toNatClampNeg x1) 29 1 ((m.1 29 1) + (1 : Int32))) Q)))) : c_X4_put_29 (d + 1) x1 m Q := by
  refine w_aload_n (q := 1) hm179 ⟨⟨_, _, rfl⟩, rfl⟩ rfl ?_
  refine w_getf (q := 4) (v := (m.1 29 1)) hm179 ⟨⟨_, _, rfl⟩, rfl⟩ rfl rfl ?_
  refine w_aload_n (q := 5) hm179 ⟨⟨_, _, rfl⟩, rfl⟩ rfl ?_
  refine w_getr (q := 8) hm179 ⟨⟨_, _, rfl⟩, rfl⟩ rfl ?_
  refine w_alen (q := 9) hm179 ⟨⟨_, _, rfl⟩, rfl⟩ rfl alen_406 ?_
  refine w_icmp_ge (q := 12) (X := (m.1 29 1).toInt) (Y := 406) hm179 ⟨⟨_, _, rfl⟩, rfl⟩ rfl (by decide) (fun hc => ?_) (fun hc => ?_)
  · have h := h.1 hc
    exact Wp.wk [false, false] h
  · have h := h.2 hc
    refine w_aload_n (q := 13) hm179 ⟨⟨_, _, rfl⟩, rfl⟩ rfl ?_
    refine w_getr (q := 16) hm179 ⟨⟨_, _, rfl⟩, rfl⟩ rfl ?_
    refine w_aload_n (q := 17) hm179 ⟨⟨_, _, rfl⟩, rfl⟩ rfl ?_
    refine w_getf (q := 20) (v := (m.1 29 1)) hm179 ⟨⟨_, _, rfl⟩, rfl⟩ rfl rfl ?_
    refine w_iload_n (q := 21) hm179 ⟨⟨_, _, rfl⟩, rfl⟩ rfl ?_
    obtain ⟨hi, h⟩ := h
    refine w_iast (q := 22) hm179 ⟨⟨_, _, rfl⟩, rfl⟩ rfl hi rfl rfl ?_
    refine w_aload_n (q := 23) hm179 ⟨⟨_, _, rfl⟩, rfl⟩ rfl ?_
    refine w_dup (q := 24) hm179 ⟨⟨_, _, rfl⟩, rfl⟩ rfl ?_
    refine w_getf (q := 27) (v := (m.1 29 1)) hm179 ⟨⟨_, _, rfl⟩, rfl⟩ rfl rfl ?_
    refine w_iconst (q := 28) hm179 ⟨⟨_, _, rfl⟩, rfl⟩ iconst_1 ?_
    refine w_iadd (q := 29) hm179 ⟨⟨_, _, rfl⟩, rfl⟩ ?_
    refine w_putf (q := 32) hm179 ⟨⟨_, _, rfl⟩, rfl⟩ rfl rfl rfl ?_
    exact Wp.wk [false, false] h
theorem v_X4_put_29_32 {d : Nat} {m : dM} {Q : dM → Prop} (h : Q m) : j_X4_put_29_32 (d + 1) m Q := by
  exact w_retv hm179 ⟨⟨_, _, rfl⟩, rfl⟩ rfl h
theorem v_X4_endPiece_29 {d : Nat} {x1 : Int32} {m : dM} {Q : dM → Prop} (h : ((0 ≤ x1.toInt ∧ x1.toInt < 4) ∧ ((13 ≤ (m.1 36 x1.toNatClampNeg).toInt → j_X4_endPiece_29_38 (d + 1) m Q) ∧ ((m.1 36 x1.toNatClampNeg).toInt < 13 → ((0 ≤ x1.toInt ∧ x1.toInt < 4) ∧ ((0 ≤ x1.toInt ∧ x1.toInt < 4) ∧ ((0 ≤ x1.toInt ∧ x1.toInt < 4) ∧ (x1.toInt = 0 → ((0 ≤ x1.toInt ∧ x1.toInt < 4) ∧ ((0 ≤ ((m.1 36 x1.toNatClampNeg) + (1 : Int32)).toInt ∧ ((m.1 36 x1.toNatClampNeg) + (1 : Int32)).toInt < 14) ∧ j_X4_endPiece_29_38 (d + 1) (dSet (dSet m 36 x1.toNatClampNeg ((m.1 36 x1.toNatClampNeg) + (1 : Int32))) 32 ((m.1 36 x1.toNatClampNeg) + (1 : Int32)).toNatClampNeg (m.1 29 1)) Q))) ∧ (x1.toInt = 1 → ((0 ≤ x1.toInt ∧ x1.toInt < 4) ∧ ((0 ≤ ((m.1 36 x1.toNatClampNeg) + (1 : Int32)).toInt ∧ ((m.1 36 x1.toNatClampNeg) + (1 : Int32)).toInt < 14) ∧ j_X4_endPiece_29_38 (d + 1) (dSet (dSet m 36 x1.toNatClampNeg ((m.1 36 x1.toNatClampNeg) + (1 : Int32))) 33 ((m.1 36 x1.toNatClampNeg) + (1 : Int32)).toNatClampNeg (m.1 29 1)) Q))) ∧ (x1.toInt = 2 → ((0 ≤ x1.toInt ∧ x1.toInt < 4) ∧ ((0 ≤ ((m.1 36 x1.toNatClampNeg) + (1 : Int32)).toInt ∧ ((m.1 36 x1.toNatClampNeg) + (1 : Int32)).toInt < 14) ∧ j_X4_endPiece_29_38 (d + 1) (dSet (dSet m 36 x1.toNatClampNeg ((m.1 36 x1.toNatClampNeg) + (1 : Int32))) 34 ((m.1 36 x1.toNatClampNeg) + (1 : Int32)).toNatClampNeg (m.1 29 1)) Q))) ∧ (x1.toInt = 3 → ((0 ≤ x1.toInt ∧ x1.toInt < 4) ∧ ((0 ≤ ((m.1 36 x1.toNatClampNeg) + (1 : Int32)).toInt ∧ ((m.1 36 x1.toNatClampNeg) + (1 : Int32)).toInt < 14) ∧ j_X4_endPiece_29_38 (d + 1) (dSet (dSet m 36 x1.toNatClampNeg ((m.1 36 x1.toNatClampNeg) + (1 : Int32))) 35 ((m.1 36 x1.toNatClampNeg) + (1 : Int32)).toNatClampNeg (m.1 29 1)) Q)))))))))) : c_X4_endPiece_29 (d + 1) x1 m Q := by
  refine w_aload_n (q := 1) hm180 ⟨⟨_, _, rfl⟩, rfl⟩ rfl ?_
  refine w_getr (q := 4) hm180 ⟨⟨_, _, rfl⟩, rfl⟩ rfl ?_
  refine w_iload_n (q := 5) hm180 ⟨⟨_, _, rfl⟩, rfl⟩ rfl ?_
  obtain ⟨hi, h⟩ := h
  refine w_iald (q := 6) (v := (m.1 36 x1.toNatClampNeg)) hm180 ⟨⟨_, _, rfl⟩, rfl⟩ rfl hi rfl rfl ?_
  refine w_bipush (q := 8) hm180 ⟨⟨_, _, rfl⟩, rfl⟩ bipush_13 ?_
  refine w_icmp_ge (q := 11) (X := (m.1 36 x1.toNatClampNeg).toInt) (Y := 13) hm180 ⟨⟨_, _, rfl⟩, rfl⟩ rfl (by decide) (fun hc => ?_) (fun hc => ?_)
  · have h := h.1 hc
    exact Wp.wk [false, false] h
  · have h := h.2 hc
    refine w_aload_n (q := 12) hm180 ⟨⟨_, _, rfl⟩, rfl⟩ rfl ?_
    refine w_getr (q := 15) hm180 ⟨⟨_, _, rfl⟩, rfl⟩ rfl ?_
    refine w_iload_n (q := 16) hm180 ⟨⟨_, _, rfl⟩, rfl⟩ rfl ?_
    refine w_dup2 (q := 17) hm180 ⟨⟨_, _, rfl⟩, rfl⟩ rfl ?_
    obtain ⟨hi, h⟩ := h
    refine w_iald (q := 18) (v := (m.1 36 x1.toNatClampNeg)) hm180 ⟨⟨_, _, rfl⟩, rfl⟩ rfl hi rfl rfl ?_
    refine w_iconst (q := 19) hm180 ⟨⟨_, _, rfl⟩, rfl⟩ iconst_1 ?_
    refine w_iadd (q := 20) hm180 ⟨⟨_, _, rfl⟩, rfl⟩ ?_
    obtain ⟨hi, h⟩ := h
    refine w_iast (q := 21) hm180 ⟨⟨_, _, rfl⟩, rfl⟩ rfl hi rfl rfl ?_
    refine w_aload_n (q := 22) hm180 ⟨⟨_, _, rfl⟩, rfl⟩ rfl ?_
    refine w_getr (q := 25) hm180 ⟨⟨_, _, rfl⟩, rfl⟩ rfl ?_
    refine w_iload_n (q := 26) hm180 ⟨⟨_, _, rfl⟩, rfl⟩ rfl ?_
    obtain ⟨hi, h⟩ := h
    refine w_aald (q := 27) hm180 ⟨⟨_, _, rfl⟩, rfl⟩ rfl rfl hi ((And.intro (fun hc => ?_) (And.intro (fun hc => ?_) (And.intro (fun hc => ?_) (And.intro (fun hc => ?_) trivial)))))
    · have h := (h.1) hc
      refine w_aload_n (q := 28) hm180 ⟨⟨_, _, rfl⟩, rfl⟩ rfl ?_
      refine w_getr (q := 31) hm180 ⟨⟨_, _, rfl⟩, rfl⟩ rfl ?_
      refine w_iload_n (q := 32) hm180 ⟨⟨_, _, rfl⟩, rfl⟩ rfl ?_
      obtain ⟨hi, h⟩ := h
      refine w_iald (q := 33) (v := ((m.1 36 x1.toNatClampNeg) + (1 : Int32))) hm180 ⟨⟨_, _, rfl⟩, rfl⟩ rfl hi rfl (dSet_s m 36 x1.toNatClampNeg ((m.1 36 x1.toNatClampNeg) + (1 : Int32))) ?_
      refine w_aload_n (q := 34) hm180 ⟨⟨_, _, rfl⟩, rfl⟩ rfl ?_
      refine w_getf (q := 37) (v := (m.1 29 1)) hm180 ⟨⟨_, _, rfl⟩, rfl⟩ rfl rfl ?_
      obtain ⟨hi, h⟩ := h
      refine w_iast (q := 38) hm180 ⟨⟨_, _, rfl⟩, rfl⟩ rfl hi rfl rfl ?_
      exact Wp.wk [false, false] h
    · have h := (h.2.1) hc
      refine w_aload_n (q := 28) hm180 ⟨⟨_, _, rfl⟩, rfl⟩ rfl ?_
      refine w_getr (q := 31) hm180 ⟨⟨_, _, rfl⟩, rfl⟩ rfl ?_
      refine w_iload_n (q := 32) hm180 ⟨⟨_, _, rfl⟩, rfl⟩ rfl ?_
      obtain ⟨hi, h⟩ := h
      refine w_iald (q := 33) (v := ((m.1 36 x1.toNatClampNeg) + (1 : Int32))) hm180 ⟨⟨_, _, rfl⟩, rfl⟩ rfl hi rfl (dSet_s m 36 x1.toNatClampNeg ((m.1 36 x1.toNatClampNeg) + (1 : Int32))) ?_
      refine w_aload_n (q := 34) hm180 ⟨⟨_, _, rfl⟩, rfl⟩ rfl ?_
      refine w_getf (q := 37) (v := (m.1 29 1)) hm180 ⟨⟨_, _, rfl⟩, rfl⟩ rfl rfl ?_
      obtain ⟨hi, h⟩ := h
      refine w_iast (q := 38) hm180 ⟨⟨_, _, rfl⟩, rfl⟩ rfl hi rfl rfl ?_
      exact Wp.wk [false, false] h
    · have h := (h.2.2.1) hc
      refine w_aload_n (q := 28) hm180 ⟨⟨_, _, rfl⟩, rfl⟩ rfl ?_
      refine w_getr (q := 31) hm180 ⟨⟨_, _, rfl⟩, rfl⟩ rfl ?_
      refine w_iload_n (q := 32) hm180 ⟨⟨_, _, rfl⟩, rfl⟩ rfl ?_
      obtain ⟨hi, h⟩ := h
      refine w_iald (q := 33) (v := ((m.1 36 x1.toNatClampNeg) + (1 : Int32))) hm180 ⟨⟨_, _, rfl⟩, rfl⟩ rfl hi rfl (dSet_s m 36 x1.toNatClampNeg ((m.1 36 x1.toNatClampNeg) + (1 : Int32))) ?_
      refine w_aload_n (q := 34) hm180 ⟨⟨_, _, rfl⟩, rfl⟩ rfl ?_
      refine w_getf (q := 37) (v := (m.1 29 1)) hm180 ⟨⟨_, _, rfl⟩, rfl⟩ rfl rfl ?_
      obtain ⟨hi, h⟩ := h
      refine w_iast (q := 38) hm180 ⟨⟨_, _, rfl⟩, rfl⟩ rfl hi rfl rfl ?_
      exact Wp.wk [false, false] h
    · have h := (h.2.2.2) hc
      refine w_aload_n (q := 28) hm180 ⟨⟨_, _, rfl⟩, rfl⟩ rfl ?_
      refine w_getr (q := 31) hm180 ⟨⟨_, _, rfl⟩, rfl⟩ rfl ?_
      refine w_iload_n (q := 32) hm180 ⟨⟨_, _, rfl⟩, rfl⟩ rfl ?_
      obtain ⟨hi, h⟩ := h
      refine w_iald (q := 33) (v := ((m.1 36 x1.toNatClampNeg) + (1 : Int32))) hm180 ⟨⟨_, _, rfl⟩, rfl⟩ rfl hi rfl (dSet_s m 36 x1.toNatClampNeg ((m.1 36 x1.toNatClampNeg) + (1 : Int32))) ?_
      refine w_aload_n (q := 34) hm180 ⟨⟨_, _, rfl⟩, rfl⟩ rfl ?_
      refine w_getf (q := 37) (v := (m.1 29 1)) hm180 ⟨⟨_, _, rfl⟩, rfl⟩ rfl rfl ?_
      obtain ⟨hi, h⟩ := h
      refine w_iast (q := 38) hm180 ⟨⟨_, _, rfl⟩, rfl⟩ rfl hi rfl rfl ?_
      exact Wp.wk [false, false] h
theorem v_X4_endPiece_29_38 {d : Nat} {m : dM} {Q : dM → Prop} (h : Q m) : j_X4_endPiece_29_38 (d + 1) m Q := by
  exact w_retv hm180 ⟨⟨_, _, rfl⟩, rfl⟩ rfl h
theorem v_X4_clear_29 {d : Nat} {m : dM} {Q : dM → Prop} (h : c_X4_begin_29 d (0 : Int32) (dSet m 29 1 (0 : Int32)) (fun m1 => c_X4_put_29 d (4 : Int32) m1 (fun m2 => c_X4_put_29 d (5 : Int32) m2 (fun m3 => c_X4_put_29 d (1 : Int32) m3 (fun m4 => c_X4_endPiece_29 d (0 : Int32) m4 (fun m5 => c_X4_begin_29 d (1 : Int32) m5 (fun m6 => c_X4_put_29 d (13 : Int32) m6 (fun m7 => c_X4_endPiece_29 d (1 : Int32) m7 (fun m8 => c_X4_begin_29 d (2 : Int32) m8 (fun m9 => c_X4_put_29 d (5 : Int32) m9 (fun m10 => c_X4_endPiece_29 d (2 : Int32) m10 (fun m11 => c_X4_begin_29 d (3 : Int32) m11 (fun m12 => c_X4_put_29 d (9 : Int32) m12 (fun m13 => c_X4_endPiece_29 d (3 : Int32) m13 (fun m14 => Q m14))))))))))))))) : c_X4_clear_29 (d + 1) m Q := by
  refine w_aload_n (q := 1) hm176 ⟨⟨_, _, rfl⟩, rfl⟩ rfl ?_
  refine w_iconst (q := 2) hm176 ⟨⟨_, _, rfl⟩, rfl⟩ iconst_0 ?_
  refine w_putf (q := 5) hm176 ⟨⟨_, _, rfl⟩, rfl⟩ rfl rfl rfl ?_
  refine w_aload_n (q := 6) hm176 ⟨⟨_, _, rfl⟩, rfl⟩ rfl ?_
  refine w_iconst (q := 7) hm176 ⟨⟨_, _, rfl⟩, rfl⟩ iconst_0 ?_
  refine w_call (q := 10) (n := 0) (vs := [.inr (.inr (some 29)), .inl (0 : Int32)]) (rest := []) (la := [oR 29, oI (0 : Int32)]) hm176 ⟨⟨_, _, rfl⟩, rfl⟩ rfl rfl rfl rfl hm178 rfl rfl (fun _ => ⟨_, _, rfl, rfl⟩) rfl (Wp.mono h ?_)
  rintro _ m1 ⟨rfl, h⟩
  change Wp _ _ 10 _ [] _ _
  refine w_aload_n (q := 11) hm176 ⟨⟨_, _, rfl⟩, rfl⟩ rfl ?_
  refine w_iconst (q := 12) hm176 ⟨⟨_, _, rfl⟩, rfl⟩ iconst_4 ?_
  refine w_call (q := 15) (n := 0) (vs := [.inr (.inr (some 29)), .inl (4 : Int32)]) (rest := []) (la := [oR 29, oI (4 : Int32)]) hm176 ⟨⟨_, _, rfl⟩, rfl⟩ rfl rfl rfl rfl hm179 rfl rfl (fun _ => ⟨_, _, rfl, rfl⟩) rfl (Wp.mono h ?_)
  rintro _ m2 ⟨rfl, h⟩
  change Wp _ _ 15 _ [] _ _
  refine w_aload_n (q := 16) hm176 ⟨⟨_, _, rfl⟩, rfl⟩ rfl ?_
  refine w_iconst (q := 17) hm176 ⟨⟨_, _, rfl⟩, rfl⟩ iconst_5 ?_
  refine w_call (q := 20) (n := 0) (vs := [.inr (.inr (some 29)), .inl (5 : Int32)]) (rest := []) (la := [oR 29, oI (5 : Int32)]) hm176 ⟨⟨_, _, rfl⟩, rfl⟩ rfl rfl rfl rfl hm179 rfl rfl (fun _ => ⟨_, _, rfl, rfl⟩) rfl (Wp.mono h ?_)
  rintro _ m3 ⟨rfl, h⟩
  change Wp _ _ 20 _ [] _ _
  refine w_aload_n (q := 21) hm176 ⟨⟨_, _, rfl⟩, rfl⟩ rfl ?_
  refine w_iconst (q := 22) hm176 ⟨⟨_, _, rfl⟩, rfl⟩ iconst_1 ?_
  refine w_call (q := 25) (n := 0) (vs := [.inr (.inr (some 29)), .inl (1 : Int32)]) (rest := []) (la := [oR 29, oI (1 : Int32)]) hm176 ⟨⟨_, _, rfl⟩, rfl⟩ rfl rfl rfl rfl hm179 rfl rfl (fun _ => ⟨_, _, rfl, rfl⟩) rfl (Wp.mono h ?_)
  rintro _ m4 ⟨rfl, h⟩
  change Wp _ _ 25 _ [] _ _
  refine w_aload_n (q := 26) hm176 ⟨⟨_, _, rfl⟩, rfl⟩ rfl ?_
  refine w_iconst (q := 27) hm176 ⟨⟨_, _, rfl⟩, rfl⟩ iconst_0 ?_
  refine w_call (q := 30) (n := 0) (vs := [.inr (.inr (some 29)), .inl (0 : Int32)]) (rest := []) (la := [oR 29, oI (0 : Int32)]) hm176 ⟨⟨_, _, rfl⟩, rfl⟩ rfl rfl rfl rfl hm180 rfl rfl (fun _ => ⟨_, _, rfl, rfl⟩) rfl (Wp.mono h ?_)
  rintro _ m5 ⟨rfl, h⟩
  change Wp _ _ 30 _ [] _ _
  refine w_aload_n (q := 31) hm176 ⟨⟨_, _, rfl⟩, rfl⟩ rfl ?_
  refine w_iconst (q := 32) hm176 ⟨⟨_, _, rfl⟩, rfl⟩ iconst_1 ?_
  refine w_call (q := 35) (n := 0) (vs := [.inr (.inr (some 29)), .inl (1 : Int32)]) (rest := []) (la := [oR 29, oI (1 : Int32)]) hm176 ⟨⟨_, _, rfl⟩, rfl⟩ rfl rfl rfl rfl hm178 rfl rfl (fun _ => ⟨_, _, rfl, rfl⟩) rfl (Wp.mono h ?_)
  rintro _ m6 ⟨rfl, h⟩
  change Wp _ _ 35 _ [] _ _
  refine w_aload_n (q := 36) hm176 ⟨⟨_, _, rfl⟩, rfl⟩ rfl ?_
  refine w_bipush (q := 38) hm176 ⟨⟨_, _, rfl⟩, rfl⟩ bipush_13 ?_
  refine w_call (q := 41) (n := 0) (vs := [.inr (.inr (some 29)), .inl (13 : Int32)]) (rest := []) (la := [oR 29, oI (13 : Int32)]) hm176 ⟨⟨_, _, rfl⟩, rfl⟩ rfl rfl rfl rfl hm179 rfl rfl (fun _ => ⟨_, _, rfl, rfl⟩) rfl (Wp.mono h ?_)
  rintro _ m7 ⟨rfl, h⟩
  change Wp _ _ 41 _ [] _ _
  refine w_aload_n (q := 42) hm176 ⟨⟨_, _, rfl⟩, rfl⟩ rfl ?_
  refine w_iconst (q := 43) hm176 ⟨⟨_, _, rfl⟩, rfl⟩ iconst_1 ?_
  refine w_call (q := 46) (n := 0) (vs := [.inr (.inr (some 29)), .inl (1 : Int32)]) (rest := []) (la := [oR 29, oI (1 : Int32)]) hm176 ⟨⟨_, _, rfl⟩, rfl⟩ rfl rfl rfl rfl hm180 rfl rfl (fun _ => ⟨_, _, rfl, rfl⟩) rfl (Wp.mono h ?_)
  rintro _ m8 ⟨rfl, h⟩
  change Wp _ _ 46 _ [] _ _
  refine w_aload_n (q := 47) hm176 ⟨⟨_, _, rfl⟩, rfl⟩ rfl ?_
  refine w_iconst (q := 48) hm176 ⟨⟨_, _, rfl⟩, rfl⟩ iconst_2 ?_
  refine w_call (q := 51) (n := 0) (vs := [.inr (.inr (some 29)), .inl (2 : Int32)]) (rest := []) (la := [oR 29, oI (2 : Int32)]) hm176 ⟨⟨_, _, rfl⟩, rfl⟩ rfl rfl rfl rfl hm178 rfl rfl (fun _ => ⟨_, _, rfl, rfl⟩) rfl (Wp.mono h ?_)
  rintro _ m9 ⟨rfl, h⟩
  change Wp _ _ 51 _ [] _ _
  refine w_aload_n (q := 52) hm176 ⟨⟨_, _, rfl⟩, rfl⟩ rfl ?_
  refine w_iconst (q := 53) hm176 ⟨⟨_, _, rfl⟩, rfl⟩ iconst_5 ?_
  refine w_call (q := 56) (n := 0) (vs := [.inr (.inr (some 29)), .inl (5 : Int32)]) (rest := []) (la := [oR 29, oI (5 : Int32)]) hm176 ⟨⟨_, _, rfl⟩, rfl⟩ rfl rfl rfl rfl hm179 rfl rfl (fun _ => ⟨_, _, rfl, rfl⟩) rfl (Wp.mono h ?_)
  rintro _ m10 ⟨rfl, h⟩
  change Wp _ _ 56 _ [] _ _
  refine w_aload_n (q := 57) hm176 ⟨⟨_, _, rfl⟩, rfl⟩ rfl ?_
  refine w_iconst (q := 58) hm176 ⟨⟨_, _, rfl⟩, rfl⟩ iconst_2 ?_
  refine w_call (q := 61) (n := 0) (vs := [.inr (.inr (some 29)), .inl (2 : Int32)]) (rest := []) (la := [oR 29, oI (2 : Int32)]) hm176 ⟨⟨_, _, rfl⟩, rfl⟩ rfl rfl rfl rfl hm180 rfl rfl (fun _ => ⟨_, _, rfl, rfl⟩) rfl (Wp.mono h ?_)
  rintro _ m11 ⟨rfl, h⟩
  change Wp _ _ 61 _ [] _ _
  refine w_aload_n (q := 62) hm176 ⟨⟨_, _, rfl⟩, rfl⟩ rfl ?_
  refine w_iconst (q := 63) hm176 ⟨⟨_, _, rfl⟩, rfl⟩ iconst_3 ?_
  refine w_call (q := 66) (n := 0) (vs := [.inr (.inr (some 29)), .inl (3 : Int32)]) (rest := []) (la := [oR 29, oI (3 : Int32)]) hm176 ⟨⟨_, _, rfl⟩, rfl⟩ rfl rfl rfl rfl hm178 rfl rfl (fun _ => ⟨_, _, rfl, rfl⟩) rfl (Wp.mono h ?_)
  rintro _ m12 ⟨rfl, h⟩
  change Wp _ _ 66 _ [] _ _
  refine w_aload_n (q := 67) hm176 ⟨⟨_, _, rfl⟩, rfl⟩ rfl ?_
  refine w_bipush (q := 69) hm176 ⟨⟨_, _, rfl⟩, rfl⟩ bipush_9 ?_
  refine w_call (q := 72) (n := 0) (vs := [.inr (.inr (some 29)), .inl (9 : Int32)]) (rest := []) (la := [oR 29, oI (9 : Int32)]) hm176 ⟨⟨_, _, rfl⟩, rfl⟩ rfl rfl rfl rfl hm179 rfl rfl (fun _ => ⟨_, _, rfl, rfl⟩) rfl (Wp.mono h ?_)
  rintro _ m13 ⟨rfl, h⟩
  change Wp _ _ 72 _ [] _ _
  refine w_aload_n (q := 73) hm176 ⟨⟨_, _, rfl⟩, rfl⟩ rfl ?_
  refine w_iconst (q := 74) hm176 ⟨⟨_, _, rfl⟩, rfl⟩ iconst_3 ?_
  refine w_call (q := 77) (n := 0) (vs := [.inr (.inr (some 29)), .inl (3 : Int32)]) (rest := []) (la := [oR 29, oI (3 : Int32)]) hm176 ⟨⟨_, _, rfl⟩, rfl⟩ rfl rfl rfl rfl hm180 rfl rfl (fun _ => ⟨_, _, rfl, rfl⟩) rfl (Wp.mono h ?_)
  rintro _ m14 ⟨rfl, h⟩
  change Wp _ _ 77 _ [] _ _
  exact w_retv hm176 ⟨⟨_, _, rfl⟩, rfl⟩ rfl h
theorem v_X3_clear_20 {d : Nat} {m : dM} {Q : dM → Prop} (h : c_X4_clear_29 d (dSet (dSet (dSet (dSet (dSet (dSet (dSet m 20 0 (0 : Int32)) 20 1 (0 : Int32)) 20 2 (0 : Int32)) 20 3 (0 : Int32)) 20 4 (0 : Int32)) 20 5 (100 : Int32)) 20 6 (0 : Int32)) (fun m1 => Q m1)) : c_X3_clear_20 (d + 1) m Q := by
  refine w_aload_n (q := 1) hm169 ⟨⟨_, _, rfl⟩, rfl⟩ rfl ?_
  refine w_iconst (q := 2) hm169 ⟨⟨_, _, rfl⟩, rfl⟩ iconst_0 ?_
  refine w_putf (q := 5) hm169 ⟨⟨_, _, rfl⟩, rfl⟩ rfl rfl rfl ?_
  refine w_aload_n (q := 6) hm169 ⟨⟨_, _, rfl⟩, rfl⟩ rfl ?_
  refine w_iconst (q := 7) hm169 ⟨⟨_, _, rfl⟩, rfl⟩ iconst_0 ?_
  refine w_putf (q := 10) hm169 ⟨⟨_, _, rfl⟩, rfl⟩ rfl rfl rfl ?_
  refine w_aload_n (q := 11) hm169 ⟨⟨_, _, rfl⟩, rfl⟩ rfl ?_
  refine w_iconst (q := 12) hm169 ⟨⟨_, _, rfl⟩, rfl⟩ iconst_0 ?_
  refine w_putf (q := 15) hm169 ⟨⟨_, _, rfl⟩, rfl⟩ rfl rfl rfl ?_
  refine w_aload_n (q := 16) hm169 ⟨⟨_, _, rfl⟩, rfl⟩ rfl ?_
  refine w_iconst (q := 17) hm169 ⟨⟨_, _, rfl⟩, rfl⟩ iconst_0 ?_
  refine w_putf (q := 20) hm169 ⟨⟨_, _, rfl⟩, rfl⟩ rfl rfl rfl ?_
  refine w_aload_n (q := 21) hm169 ⟨⟨_, _, rfl⟩, rfl⟩ rfl ?_
  refine w_iconst (q := 22) hm169 ⟨⟨_, _, rfl⟩, rfl⟩ iconst_0 ?_
  refine w_putf (q := 25) hm169 ⟨⟨_, _, rfl⟩, rfl⟩ rfl rfl rfl ?_
  refine w_aload_n (q := 26) hm169 ⟨⟨_, _, rfl⟩, rfl⟩ rfl ?_
  refine w_bipush (q := 28) hm169 ⟨⟨_, _, rfl⟩, rfl⟩ bipush_100 ?_
  refine w_putf (q := 31) hm169 ⟨⟨_, _, rfl⟩, rfl⟩ rfl rfl rfl ?_
  refine w_aload_n (q := 32) hm169 ⟨⟨_, _, rfl⟩, rfl⟩ rfl ?_
  refine w_iconst (q := 33) hm169 ⟨⟨_, _, rfl⟩, rfl⟩ iconst_0 ?_
  refine w_putf (q := 36) hm169 ⟨⟨_, _, rfl⟩, rfl⟩ rfl rfl rfl ?_
  refine w_aload_n (q := 37) hm169 ⟨⟨_, _, rfl⟩, rfl⟩ rfl ?_
  refine w_getr (q := 40) hm169 ⟨⟨_, _, rfl⟩, rfl⟩ rfl ?_
  refine w_call (q := 43) (n := 0) (vs := [.inr (.inr (some 29))]) (rest := []) (la := [oR 29]) hm169 ⟨⟨_, _, rfl⟩, rfl⟩ rfl rfl rfl rfl hm176 rfl rfl (fun _ => ⟨_, _, rfl, rfl⟩) rfl (Wp.mono h ?_)
  rintro _ m1 ⟨rfl, h⟩
  change Wp _ _ 43 _ [] _ _
  exact w_retv hm169 ⟨⟨_, _, rfl⟩, rfl⟩ rfl h
theorem v_X2_kind_43 {d : Nat} {m : dM} {Q : Int32 → dM → Prop} (h : (((m.1 43 2).toInt < 0 → j_X2_kind_43_32 (d + 1) m Q) ∧ (0 ≤ (m.1 43 2).toInt → ((400 < (m.1 43 2).toInt → j_X2_kind_43_32 (d + 1) m Q) ∧ ((m.1 43 2).toInt ≤ 400 → ((0 ≤ (m.1 43 2).toInt ∧ (m.1 43 2).toInt < 401) ∧ Q (m.1 39 (m.1 43 2).toNatClampNeg) m)))))) : c_X2_kind_43 (d + 1) m Q := by
  refine w_aload_n (q := 1) hm157 ⟨⟨_, _, rfl⟩, rfl⟩ rfl ?_
  refine w_getf (q := 4) (v := (m.1 43 2)) hm157 ⟨⟨_, _, rfl⟩, rfl⟩ rfl rfl ?_
  refine w_if_lt (q := 7) (X := (m.1 43 2).toInt) hm157 ⟨⟨_, _, rfl⟩, rfl⟩ rfl (fun hc => ?_) (fun hc => ?_)
  · have h := h.1 hc
    exact Wp.wk [false] h
  · have h := h.2 hc
    refine w_aload_n (q := 8) hm157 ⟨⟨_, _, rfl⟩, rfl⟩ rfl ?_
    refine w_getf (q := 11) (v := (m.1 43 2)) hm157 ⟨⟨_, _, rfl⟩, rfl⟩ rfl rfl ?_
    refine w_sipush (q := 14) hm157 ⟨⟨_, _, rfl⟩, rfl⟩ sipush_400 ?_
    refine w_icmp_gt (q := 17) (X := (m.1 43 2).toInt) (Y := 400) hm157 ⟨⟨_, _, rfl⟩, rfl⟩ rfl (by decide) (fun hc => ?_) (fun hc => ?_)
    · have h := h.1 hc
      exact Wp.wk [false] h
    · have h := h.2 hc
      refine w_aload_n (q := 18) hm157 ⟨⟨_, _, rfl⟩, rfl⟩ rfl ?_
      refine w_getr (q := 21) hm157 ⟨⟨_, _, rfl⟩, rfl⟩ rfl ?_
      refine w_getr (q := 24) hm157 ⟨⟨_, _, rfl⟩, rfl⟩ rfl ?_
      refine w_aload_n (q := 25) hm157 ⟨⟨_, _, rfl⟩, rfl⟩ rfl ?_
      refine w_getf (q := 28) (v := (m.1 43 2)) hm157 ⟨⟨_, _, rfl⟩, rfl⟩ rfl rfl ?_
      obtain ⟨hi, h⟩ := h
      refine w_iald (q := 29) (v := (m.1 39 (m.1 43 2).toNatClampNeg)) hm157 ⟨⟨_, _, rfl⟩, rfl⟩ rfl hi rfl rfl ?_
      refine w_goto (q := 34) hm157 ⟨_, _, rfl⟩ ?_
      exact w_reti hm157 ⟨⟨_, _, rfl⟩, rfl⟩ rfl h
theorem v_X2_kind_43_32 {d : Nat} {m : dM} {Q : Int32 → dM → Prop} (h : Q (24 : Int32) m) : j_X2_kind_43_32 (d + 1) m Q := by
  refine w_bipush (q := 34) hm157 ⟨⟨_, _, rfl⟩, rfl⟩ bipush_24 ?_
  exact w_reti hm157 ⟨⟨_, _, rfl⟩, rfl⟩ rfl h
theorem v_X2_step_43 {d : Nat} {m : dM} {Q : Int32 → dM → Prop} (h : (((m.1 43 2).toInt < 400 → Q (1 : Int32) (dSet m 43 2 ((m.1 43 2) + (1 : Int32)))) ∧ (400 ≤ (m.1 43 2).toInt → Q (0 : Int32) (dSet m 43 3 (2 : Int32))))) : c_X2_step_43 (d + 1) m Q := by
  refine w_aload_n (q := 1) hm159 ⟨⟨_, _, rfl⟩, rfl⟩ rfl ?_
  refine w_getf (q := 4) (v := (m.1 43 2)) hm159 ⟨⟨_, _, rfl⟩, rfl⟩ rfl rfl ?_
  refine w_sipush (q := 7) hm159 ⟨⟨_, _, rfl⟩, rfl⟩ sipush_400 ?_
  refine w_icmp_lt (q := 10) (X := (m.1 43 2).toInt) (Y := 400) hm159 ⟨⟨_, _, rfl⟩, rfl⟩ rfl (by decide) (fun hc => ?_) (fun hc => ?_)
  · have h := h.1 hc
    refine w_aload_n (q := 18) hm159 ⟨⟨_, _, rfl⟩, rfl⟩ rfl ?_
    refine w_dup (q := 19) hm159 ⟨⟨_, _, rfl⟩, rfl⟩ rfl ?_
    refine w_getf (q := 22) (v := (m.1 43 2)) hm159 ⟨⟨_, _, rfl⟩, rfl⟩ rfl rfl ?_
    refine w_iconst (q := 23) hm159 ⟨⟨_, _, rfl⟩, rfl⟩ iconst_1 ?_
    refine w_iadd (q := 24) hm159 ⟨⟨_, _, rfl⟩, rfl⟩ ?_
    refine w_putf (q := 27) hm159 ⟨⟨_, _, rfl⟩, rfl⟩ rfl rfl rfl ?_
    refine w_iconst (q := 28) hm159 ⟨⟨_, _, rfl⟩, rfl⟩ iconst_1 ?_
    exact w_retz hm159 ⟨⟨_, _, rfl⟩, rfl⟩ rfl (by decide) h
  · have h := h.2 hc
    refine w_aload_n (q := 11) hm159 ⟨⟨_, _, rfl⟩, rfl⟩ rfl ?_
    refine w_iconst (q := 12) hm159 ⟨⟨_, _, rfl⟩, rfl⟩ iconst_2 ?_
    refine w_putf (q := 15) hm159 ⟨⟨_, _, rfl⟩, rfl⟩ rfl rfl rfl ?_
    refine w_iconst (q := 16) hm159 ⟨⟨_, _, rfl⟩, rfl⟩ iconst_0 ?_
    exact w_retz hm159 ⟨⟨_, _, rfl⟩, rfl⟩ rfl (by decide) h
theorem v_X2_fail_43 {d : Nat} {x1 : Int32} {m : dM} {Q : Int32 → dM → Prop} (h : Q (0 : Int32) (dSet m 43 3 x1)) : c_X2_fail_43 (d + 1) x1 m Q := by
  refine w_aload_n (q := 1) hm158 ⟨⟨_, _, rfl⟩, rfl⟩ rfl ?_
  refine w_iload_n (q := 2) hm158 ⟨⟨_, _, rfl⟩, rfl⟩ rfl ?_
  refine w_putf (q := 5) hm158 ⟨⟨_, _, rfl⟩, rfl⟩ rfl rfl rfl ?_
  refine w_iconst (q := 6) hm158 ⟨⟨_, _, rfl⟩, rfl⟩ iconst_0 ?_
  exact w_retz hm158 ⟨⟨_, _, rfl⟩, rfl⟩ rfl (by decide) h
theorem v_X2_need_43 {d : Nat} {x1 : Int32} {m : dM} {Q : Int32 → dM → Prop} (h : c_X2_kind_43 d m (fun r1 m1 => ((r1.toInt ≠ x1.toInt → c_X2_fail_43 d (1 : Int32) m1 (fun r2 m2 => (r2 = 0 ∨ r2 = 1) ∧ Q r2 m2)) ∧ (r1.toInt = x1.toInt → c_X2_step_43 d m1 (fun r3 m3 => (r3 = 0 ∨ r3 = 1) ∧ Q r3 m3))))) : c_X2_need_43 (d + 1) x1 m Q := by
  refine w_aload_n (q := 1) hm160 ⟨⟨_, _, rfl⟩, rfl⟩ rfl ?_
  refine w_call (q := 4) (n := 0) (vs := [.inr (.inr (some 43))]) (rest := []) (la := [oR 43]) hm160 ⟨⟨_, _, rfl⟩, rfl⟩ rfl rfl rfl rfl hm157 rfl rfl (fun _ => ⟨_, _, rfl, rfl⟩) rfl (Wp.mono h ?_)
  rintro _ m1 ⟨r1, rfl, h⟩
  change Wp _ _ 4 _ [.inl r1] _ _
  refine w_iload_n (q := 5) hm160 ⟨⟨_, _, rfl⟩, rfl⟩ rfl ?_
  refine w_icmp_ne (q := 8) (X := r1.toInt) (Y := x1.toInt) hm160 ⟨⟨_, _, rfl⟩, rfl⟩ rfl rfl (fun hc => ?_) (fun hc => ?_)
  · have h := h.1 hc
    refine w_aload_n (q := 16) hm160 ⟨⟨_, _, rfl⟩, rfl⟩ rfl ?_
    refine w_iconst (q := 17) hm160 ⟨⟨_, _, rfl⟩, rfl⟩ iconst_1 ?_
    refine w_call (q := 20) (n := 0) (vs := [.inr (.inr (some 43)), .inl (1 : Int32)]) (rest := []) (la := [oR 43, oI (1 : Int32)]) hm160 ⟨⟨_, _, rfl⟩, rfl⟩ rfl rfl rfl rfl hm158 rfl rfl (fun _ => ⟨_, _, rfl, rfl⟩) rfl (Wp.mono h ?_)
    rintro _ m2 ⟨r2, rfl, h⟩
    change Wp _ _ 20 _ [.inl r2] _ _
    exact w_retz hm160 ⟨⟨_, _, rfl⟩, rfl⟩ rfl h.1 h.2
  · have h := h.2 hc
    refine w_aload_n (q := 9) hm160 ⟨⟨_, _, rfl⟩, rfl⟩ rfl ?_
    refine w_call (q := 12) (n := 0) (vs := [.inr (.inr (some 43))]) (rest := []) (la := [oR 43]) hm160 ⟨⟨_, _, rfl⟩, rfl⟩ rfl rfl rfl rfl hm159 rfl rfl (fun _ => ⟨_, _, rfl, rfl⟩) rfl (Wp.mono h ?_)
    rintro _ m3 ⟨r3, rfl, h⟩
    change Wp _ _ 12 _ [.inl r3] _ _
    refine w_goto (q := 20) hm160 ⟨_, _, rfl⟩ ?_
    exact w_retz hm160 ⟨⟨_, _, rfl⟩, rfl⟩ rfl h.1 h.2
theorem v_X2_checkRow_43 {d : Nat} {x1 : Int32} {x2 : Int32} {m : dM} {Q : dM → Prop} (h : c_X2_step_43 d m (fun r1 m1 => j_X2_checkRow_43_8 (d + 1) x1 x2 r1 (0 : Int32) m1 Q)) : c_X2_checkRow_43 (d + 1) x1 x2 m Q := by
  refine w_aload_n (q := 1) hm161 ⟨⟨_, _, rfl⟩, rfl⟩ rfl ?_
  refine w_call (q := 4) (n := 0) (vs := [.inr (.inr (some 43))]) (rest := []) (la := [oR 43]) hm161 ⟨⟨_, _, rfl⟩, rfl⟩ rfl rfl rfl rfl hm159 rfl rfl (fun _ => ⟨_, _, rfl, rfl⟩) rfl (Wp.mono h ?_)
  rintro _ m1 ⟨r1, rfl, h⟩
  change Wp _ _ 4 _ [.inl r1] _ _
  refine w_istore_n (q := 5) (l' := [oR 43, oI x1, oI x2, oI r1, none]) hm161 ⟨⟨_, _, rfl⟩, rfl⟩ rfl rfl rfl ?_
  refine w_iconst (q := 6) hm161 ⟨⟨_, _, rfl⟩, rfl⟩ iconst_0 ?_
  refine w_istore (q := 8) (l' := [oR 43, oI x1, oI x2, oI r1, oI (0 : Int32)]) hm161 ⟨⟨_, _, rfl⟩, rfl⟩ rfl rfl rfl ?_
  exact h
theorem v_X2_checkRow_43_8 {d : Nat} {x1 : Int32} {x2 : Int32} {x3 : Int32} {x4 : Int32} {m : dM} {Q : dM → Prop} (h : ((x1.toInt ≤ x4.toInt → j_X2_checkRow_43_31 (d + 1) x2 x3 m Q) ∧ (x4.toInt < x1.toInt → ((x3.toInt = 0 → j_X2_checkRow_43_31 (d + 1) x2 x3 m Q) ∧ (x3.toInt ≠ 0 → c_X2_need_43 d (22 : Int32) m (fun r1 m1 => j_X2_checkRow_43_8 (d + 1) x1 x2 r1 (x4 + (1 : Int32)) m1 Q)))))) : j_X2_checkRow_43_8 (d + 1) x1 x2 x3 x4 m Q := by
  refine w_iload (q := 10) hm161 ⟨⟨_, _, rfl⟩, rfl⟩ rfl ?_
  refine w_iload_n (q := 11) hm161 ⟨⟨_, _, rfl⟩, rfl⟩ rfl ?_
  refine w_icmp_ge (q := 14) (X := x4.toInt) (Y := x1.toInt) hm161 ⟨⟨_, _, rfl⟩, rfl⟩ rfl rfl (fun hc => ?_) (fun hc => ?_)
  · have h := h.1 hc
    exact Wp.wk [true, false, true, true, false] h
  · have h := h.2 hc
    refine w_iload_n (q := 15) hm161 ⟨⟨_, _, rfl⟩, rfl⟩ rfl ?_
    refine w_if_eq (q := 18) (X := x3.toInt) hm161 ⟨⟨_, _, rfl⟩, rfl⟩ rfl (fun hc => ?_) (fun hc => ?_)
    · have h := h.1 hc
      exact Wp.wk [true, false, true, true, false] h
    · have h := h.2 hc
      refine w_aload_n (q := 19) hm161 ⟨⟨_, _, rfl⟩, rfl⟩ rfl ?_
      refine w_bipush (q := 21) hm161 ⟨⟨_, _, rfl⟩, rfl⟩ bipush_22 ?_
      refine w_call (q := 24) (n := 0) (vs := [.inr (.inr (some 43)), .inl (22 : Int32)]) (rest := []) (la := [oR 43, oI (22 : Int32)]) hm161 ⟨⟨_, _, rfl⟩, rfl⟩ rfl rfl rfl rfl hm160 rfl rfl (fun _ => ⟨_, _, rfl, rfl⟩) rfl (Wp.mono h ?_)
      rintro _ m1 ⟨r1, rfl, h⟩
      change Wp _ _ 24 _ [.inl r1] _ _
      refine w_istore_n (q := 25) (l' := [oR 43, oI x1, oI x2, oI r1, oI x4]) hm161 ⟨⟨_, _, rfl⟩, rfl⟩ rfl rfl rfl ?_
      refine w_iinc (q := 28) (l' := [oR 43, oI x1, oI x2, oI r1, oI (x4 + (1 : Int32))]) hm161 ⟨⟨_, _, rfl⟩, rfl⟩ rfl rfl rfl iconst_1 rfl ?_
      refine w_goto (q := 8) hm161 ⟨_, _, rfl⟩ ?_
      exact h
theorem v_X2_checkRow_43_31 {d : Nat} {x2 : Int32} {x3 : Int32} {m : dM} {Q : dM → Prop} (h : j_X2_checkRow_43_34 (d + 1) x2 x3 (0 : Int32) m Q) : j_X2_checkRow_43_31 (d + 1) x2 x3 m Q := by
  refine w_iconst (q := 32) hm161 ⟨⟨_, _, rfl⟩, rfl⟩ iconst_0 ?_
  refine w_istore (q := 34) (l' := [oR 43, none, oI x2, oI x3, oI (0 : Int32)]) hm161 ⟨⟨_, _, rfl⟩, rfl⟩ rfl rfl rfl ?_
  exact h
theorem v_X2_checkRow_43_34 {d : Nat} {x2 : Int32} {x3 : Int32} {x4 : Int32} {m : dM} {Q : dM → Prop} (h : ((x2.toInt ≤ x4.toInt → j_X2_checkRow_43_57 (d + 1) x3 m Q) ∧ (x4.toInt < x2.toInt → ((x3.toInt = 0 → j_X2_checkRow_43_57 (d + 1) x3 m Q) ∧ (x3.toInt ≠ 0 → c_X2_need_43 d (23 : Int32) m (fun r1 m1 => j_X2_checkRow_43_34 (d + 1) x2 r1 (x4 + (1 : Int32)) m1 Q)))))) : j_X2_checkRow_43_34 (d + 1) x2 x3 x4 m Q := by
  refine w_iload (q := 36) hm161 ⟨⟨_, _, rfl⟩, rfl⟩ rfl ?_
  refine w_iload_n (q := 37) hm161 ⟨⟨_, _, rfl⟩, rfl⟩ rfl ?_
  refine w_icmp_ge (q := 40) (X := x4.toInt) (Y := x2.toInt) hm161 ⟨⟨_, _, rfl⟩, rfl⟩ rfl rfl (fun hc => ?_) (fun hc => ?_)
  · have h := h.1 hc
    exact Wp.wk [true, false, false, true, false] h
  · have h := h.2 hc
    refine w_iload_n (q := 41) hm161 ⟨⟨_, _, rfl⟩, rfl⟩ rfl ?_
    refine w_if_eq (q := 44) (X := x3.toInt) hm161 ⟨⟨_, _, rfl⟩, rfl⟩ rfl (fun hc => ?_) (fun hc => ?_)
    · have h := h.1 hc
      exact Wp.wk [true, false, false, true, false] h
    · have h := h.2 hc
      refine w_aload_n (q := 45) hm161 ⟨⟨_, _, rfl⟩, rfl⟩ rfl ?_
      refine w_bipush (q := 47) hm161 ⟨⟨_, _, rfl⟩, rfl⟩ bipush_23 ?_
      refine w_call (q := 50) (n := 0) (vs := [.inr (.inr (some 43)), .inl (23 : Int32)]) (rest := []) (la := [oR 43, oI (23 : Int32)]) hm161 ⟨⟨_, _, rfl⟩, rfl⟩ rfl rfl rfl rfl hm160 rfl rfl (fun _ => ⟨_, _, rfl, rfl⟩) rfl (Wp.mono h ?_)
      rintro _ m1 ⟨r1, rfl, h⟩
      change Wp _ _ 50 _ [.inl r1] _ _
      refine w_istore_n (q := 51) (l' := [oR 43, none, oI x2, oI r1, oI x4]) hm161 ⟨⟨_, _, rfl⟩, rfl⟩ rfl rfl rfl ?_
      refine w_iinc (q := 54) (l' := [oR 43, none, oI x2, oI r1, oI (x4 + (1 : Int32))]) hm161 ⟨⟨_, _, rfl⟩, rfl⟩ rfl rfl rfl iconst_1 rfl ?_
      refine w_goto (q := 34) hm161 ⟨_, _, rfl⟩ ?_
      exact h
theorem v_X2_checkRow_43_57 {d : Nat} {x3 : Int32} {m : dM} {Q : dM → Prop} (h : ((x3.toInt = 0 → j_X2_checkRow_43_68 (d + 1) m Q) ∧ (x3.toInt ≠ 0 → c_X2_need_43 d (59 : Int32) m (fun r1 m1 => j_X2_checkRow_43_68 (d + 1) m1 Q)))) : j_X2_checkRow_43_57 (d + 1) x3 m Q := by
  refine w_iload_n (q := 58) hm161 ⟨⟨_, _, rfl⟩, rfl⟩ rfl ?_
  refine w_if_eq (q := 61) (X := x3.toInt) hm161 ⟨⟨_, _, rfl⟩, rfl⟩ rfl (fun hc => ?_) (fun hc => ?_)
  · have h := h.1 hc
    exact Wp.wk [false, false, false, false, false] h
  · have h := h.2 hc
    refine w_aload_n (q := 62) hm161 ⟨⟨_, _, rfl⟩, rfl⟩ rfl ?_
    refine w_bipush (q := 64) hm161 ⟨⟨_, _, rfl⟩, rfl⟩ bipush_59 ?_
    refine w_call (q := 67) (n := 0) (vs := [.inr (.inr (some 43)), .inl (59 : Int32)]) (rest := []) (la := [oR 43, oI (59 : Int32)]) hm161 ⟨⟨_, _, rfl⟩, rfl⟩ rfl rfl rfl rfl hm160 rfl rfl (fun _ => ⟨_, _, rfl, rfl⟩) rfl (Wp.mono h ?_)
    rintro _ m1 ⟨r1, rfl, h⟩
    change Wp _ _ 67 _ [.inl r1] _ _
    refine w_pop (q := 68) hm161 ⟨⟨_, _, rfl⟩, rfl⟩ rfl ?_
    exact Wp.wk [false, false, false, false, false] h
theorem v_X2_checkRow_43_68 {d : Nat} {m : dM} {Q : dM → Prop} (h : Q m) : j_X2_checkRow_43_68 (d + 1) m Q := by
  exact w_retv hm161 ⟨⟨_, _, rfl⟩, rfl⟩ rfl h
end
