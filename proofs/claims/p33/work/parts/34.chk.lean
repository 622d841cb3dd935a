/-! THE CHECK OF THE TABLES, 2: calls, methods, classes -/
theorem g_obj1 : Cond.instanceMethod Lib.objectInit ∈ lw_g := kIs_ok (c := 1028) (by decide +kernel)
theorem g_obj2 : Cond.code Lib.objectInit ⟨#[0xb1]⟩ 1 none ∈ lw_g := kIs_ok (c := 1029) (by decide +kernel)
theorem g_min1 : Cond.static Lib.Math.min.name ∈ lw_g := kIs_ok (c := 3088) (by decide +kernel)
theorem g_min2 : Cond.code Lib.Math.min.name Lib.Math.min.code 2 (some .int) ∈ lw_g := kIs_ok (c := 3089) (by decide +kernel)
theorem g_math : Cond.initialized "java/lang/Math" ∈ lw_g := kIs_ok (c := 1020) (by decide +kernel)
theorem g_max1 : Cond.static Lib.Math.max.name ∈ lw_g := kIs_ok (c := 4124) (by decide +kernel)
theorem g_max2 : Cond.code Lib.Math.max.name Lib.Math.max.code 2 (some .int) ∈ lw_g := kIs_ok (c := 4125) (by decide +kernel)
theorem g_ac1 : Cond.native arraycopyName ∈ lw_g := kIs_ok (c := 3023) (by decide +kernel)
theorem g_ac2 : Cond.static arraycopyName ∈ lw_g := kIs_ok (c := 3022) (by decide +kernel)
theorem g_sys : Cond.initialized "java/lang/System" ∈ lw_g := kIs_ok (c := 1017) (by decide +kernel)
theorem g_aint : Cond.arrayClass .int ∈ lw_g := kIs_ok (c := 1064) (by decide +kernel)
def kLb (own : String) (idx a c : Nat) : Bool := match a with
  | 6 => kIs c (.methodLink own idx Lib.objectInit)
  | 7 => kIs c (.methodLink own idx Lib.Math.min.name)
  | 8 => kIs c (.methodLink own idx Lib.Math.max.name)
  | 9 => kIs c (.methodLink own idx arraycopyName)
  | _ => false
theorem kLb_ok {own : String} {idx a c : Nat} (h : kLb own idx a c = true) : eLb lw_g own idx a := by
  unfold kLb at h
  split at h
  · exact ⟨kIs_ok h, g_obj1, g_obj2⟩
  · exact ⟨kIs_ok h, g_min1, g_math, g_min2⟩
  · exact ⟨kIs_ok h, g_max1, g_math, g_max2⟩
  · exact ⟨kIs_ok h, g_ac1, g_ac2, g_sys⟩
  · cases h
/-- a call's own words: of the class 'own', at 'idx' -/
def kCl (own : String) (idx b c d st : Nat) : Bool := match tMs[b]?, tYs[b]?, tWs[b]? with
  | some _, some Y, some q => match st with
    | 0 => kIs c (.methodLink own idx Y.1) && kIs q.2.2.1 (.instanceMethod Y.1) && kIs q.2.2.2 (.selects Y.1.cls Y.1 Y.1) && (match tCl[d]? with
      | some k => decide (k.1 = Y.1.cls)
      | none => false)
    | 1 => kIs c (.methodLink own idx Y.1) && kIs q.2.2.1 (.static Y.1)
    | 4 => (match tNs[c]? with
      | some n => decide (n = (own, idx, Y.1, n.2.2.2))
      | none => false) && kIs q.2.2.1 (.static Y.1)
    | 2 => kIs c (.methodLink own idx Y.1) && kIs q.2.2.1 (.instanceMethod Y.1) && decide (Y.1.name = "<init>") && decide (Y.2.2 = none)
    | 5 => (match tNs[c]? with
      | some n => decide (n = (own, idx, Y.1, n.2.2.2))
      | none => false) && kIs q.2.2.1 (.instanceMethod Y.1) && decide (Y.1.name = "<init>") && decide (Y.2.2 = none)
    | _ => false
  | _, _, _ => false
def kLi (own : String) (en : eN) : Bool := match en.2.1 with
  | .invokevirtual idx => Nat.beq en.2.2.2.1 0 && kCl own idx en.2.2.2.2.1 en.2.2.2.2.2.1 en.2.2.2.2.2.2 0
  | .invokestatic idx => (Nat.blt 6 en.2.2.2.1 && kLb own idx en.2.2.2.1 en.2.2.2.2.2.1) || (Nat.beq en.2.2.2.1 1 && kCl own idx en.2.2.2.2.1 en.2.2.2.2.2.1 en.2.2.2.2.2.2 1) || (Nat.beq en.2.2.2.1 4 && kCl own idx en.2.2.2.2.1 en.2.2.2.2.2.1 en.2.2.2.2.2.2 4)
  | .invokespecial idx => (Nat.beq en.2.2.2.1 6 && kLb own idx en.2.2.2.1 en.2.2.2.2.2.1) || (Nat.beq en.2.2.2.1 2 && kCl own idx en.2.2.2.2.1 en.2.2.2.2.2.1 en.2.2.2.2.2.2 2) || (Nat.beq en.2.2.2.1 5 && kCl own idx en.2.2.2.2.1 en.2.2.2.2.2.1 en.2.2.2.2.2.2 5)
  | .multianewarray idx dim => Nat.beq dim 2 && kIs en.2.2.2.2.2.1 (.classLink own idx ("[" ++ (FieldType.array .int).toString))
  | _ => true
theorem kLi_ok {own : String} {en : eN} (h : kLi own en = true) : eLi tCl lw_g tNs tMs tYs own en.2.1 en.2.2.2.1 en.2.2.2.2.1 en.2.2.2.2.2.2 := by
  obtain ⟨pc, i, len, a, b, cc, d⟩ := en
  unfold kLi at h
  simp only at h
  split at h
  · rename_i idx
    rw [Bool.and_eq_true] at h
    refine ⟨Nat.eq_of_beq_eq_true h.1, ?_⟩
    have h := h.2
    unfold kCl at h
    split at h
    · rename_i M Y q h1 h2 h3
      simp only [Bool.and_eq_true] at h
      obtain ⟨⟨⟨w1, w2⟩, w3⟩, w4⟩ := h
      split at w4
      · rename_i k hk
        have w4 := of_decide_eq_true w4
        refine ⟨M, Y, h1, h2, kIs_ok w1, kIs_ok w2, kIs_ok w3, k.2.1, k.2.2, ?_⟩
        show tCl[d]? = _
        rw [hk, ← w4]
      · cases w4
    · cases h
  · rename_i idx
    simp only [Bool.or_eq_true, Bool.and_eq_true] at h
    rcases h with (⟨h1, h2⟩ | ⟨h1, h2⟩) | ⟨h1, h2⟩
    · exact Or.inl ⟨Nat.le_of_ble_eq_true h1, kLb_ok h2⟩
    · have e := Nat.eq_of_beq_eq_true h1
      subst e
      unfold kCl at h2
      split at h2
      · rename_i M Y q g1 g2 g3
        simp only [Bool.and_eq_true] at h2
        exact Or.inr ⟨by show 1 < 6; omega, M, Y, g1, g2, kIs_ok h2.2, Or.inl ⟨rfl, kIs_ok h2.1⟩⟩
      · cases h2
    · have e := Nat.eq_of_beq_eq_true h1
      subst e
      unfold kCl at h2
      split at h2
      · rename_i M Y q g1 g2 g3
        simp only [Bool.and_eq_true] at h2
        obtain ⟨w1, w2⟩ := h2
        split at w1
        · rename_i n hn
          have w1 := of_decide_eq_true w1
          exact Or.inr ⟨by show 4 < 6; omega, M, Y, g1, g2, kIs_ok w2, Or.inr ⟨rfl, n.2.2.2, w1 ▸ List.mem_of_getElem? hn⟩⟩
        · cases w1
      · cases h2
  · rename_i idx
    simp only [Bool.or_eq_true, Bool.and_eq_true] at h
    rcases h with (⟨h1, h2⟩ | ⟨h1, h2⟩) | ⟨h1, h2⟩
    · exact Or.inl ⟨Nat.eq_of_beq_eq_true h1, kLb_ok h2⟩
    · have e := Nat.eq_of_beq_eq_true h1
      subst e
      unfold kCl at h2
      split at h2
      · rename_i M Y q g1 g2 g3
        simp only [Bool.and_eq_true] at h2
        obtain ⟨⟨⟨w1, w2⟩, w3⟩, w4⟩ := h2
        exact Or.inr ⟨by show 2 < 6; omega, M, Y, g1, g2, of_decide_eq_true w3, of_decide_eq_true w4, kIs_ok w2, Or.inl ⟨rfl, kIs_ok w1⟩⟩
      · cases h2
    · have e := Nat.eq_of_beq_eq_true h1
      subst e
      unfold kCl at h2
      split at h2
      · rename_i M Y q g1 g2 g3
        simp only [Bool.and_eq_true] at h2
        obtain ⟨⟨⟨w1, w2⟩, w3⟩, w4⟩ := h2
        split at w1
        · rename_i n hn
          have w1 := of_decide_eq_true w1
          exact Or.inr ⟨by show 5 < 6; omega, M, Y, g1, g2, of_decide_eq_true w3, of_decide_eq_true w4, kIs_ok w2, Or.inr ⟨rfl, n.2.2.2, w1 ▸ List.mem_of_getElem? hn⟩⟩
        · cases w1
      · cases h2
  · rename_i idx dim
    rw [Bool.and_eq_true] at h
    exact ⟨Nat.eq_of_beq_eq_true h.1, kIs_ok h.2, g_aint⟩
  · unfold eLi
    split
    all_goals first | trivial | (exfalso; simp_all; done)
def kEn (y : MethodName) (cc : ByteArray) (en : eN) : Bool := decide (decode cc en.1 = .ok (en.2.1, en.2.2.1)) && (Nat.beq (eLen en.2.1) 0 || Nat.beq (eLen en.2.1) en.2.2.1) && kLk y en && kLi y.cls en
def kRt (r : Nat) (ret : Option FieldType) : Bool := match r with
  | 0 => decide (ret = none)
  | 1 => decide (ret = some .int)
  | 2 => decide (ret = some .boolean)
  | 3 => decide (ret = some .long)
  | _ => match ret with
    | some (.object _) => true
    | some (.array _) => true
    | _ => false
theorem kRt_ok {r : Nat} {ret : Option FieldType} (h : kRt r ret = true) : eRtk r ret := by
  unfold kRt at h
  split at h
  · have h := of_decide_eq_true h
    exact h
  · have h := of_decide_eq_true h
    exact h
  · have h := of_decide_eq_true h
    exact h
  · have h := of_decide_eq_true h
    exact h
  · rename_i n0 n1 n2 n3
    unfold eRtk
    split
    · exact absurd rfl n0
    · exact absurd rfl n1
    · exact absurd rfl n2
    · exact absurd rfl n3
    · split at h
      · exact ⟨_, rfl, Or.inl ⟨_, rfl⟩⟩
      · exact ⟨_, rfl, Or.inr ⟨_, rfl⟩⟩
      · cases h
def kM (M : eM) (Y : eY) (q : Nat × Nat × Nat × Nat) : Bool := kIs q.2.1 (.initialized Y.1.cls) && plainName Y.1.cls && decide (Y.1.cls ≠ "java/lang/invoke/MethodHandle" ∧ Y.1.cls ≠ "java/lang/invoke/VarHandle" ∧ (parseMethodDescriptor Y.1.desc).map (fun d => d.parameters.length) = some M.2.2.2.2.2) && Nat.ble M.2.1 100 && kRt M.2.2.2.2.1 Y.2.2
theorem kM_ok {M : eM} {Y : eY} {q : Nat × Nat × Nat × Nat} (h1 : ∀ ch ∈ M.1, ch.all (kEn Y.1 Y.2.1) = true) (hw : kW q.1 = some (.code Y.1 Y.2.1 M.2.1 Y.2.2)) (h : kM M Y q = true) : eMok tCl lw_g tNs tMs tYs M Y := by
  unfold kM at h
  simp only [Bool.and_eq_true] at h
  obtain ⟨⟨⟨⟨h3, h4⟩, h5⟩, h6⟩, h7⟩ := h
  refine ⟨fun en hen => ?_, List.mem_filter.mpr ⟨kW_ok hw, rfl⟩, kIs_ok h3, h4, of_decide_eq_true h5, Nat.le_of_ble_eq_true h6, kRt_ok h7⟩
  obtain ⟨ch, hc1, hc2⟩ := List.mem_flatten.mp hen
  have g := List.all_eq_true.mp (h1 ch hc1) en hc2
  unfold kEn at g
  simp only [Bool.and_eq_true] at g
  obtain ⟨⟨⟨g1, g2⟩, g3⟩, g4⟩ := g
  have g1 := of_decide_eq_true g1
  refine ⟨fun hne => ?_, ⟨_, g1⟩, kLk_ok g3, kLi_ok g4⟩
  rw [Bool.or_eq_true] at g2
  rcases g2 with g2 | g2
  · exact absurd (Nat.eq_of_beq_eq_true g2) hne
  · rw [Nat.eq_of_beq_eq_true g2]
    exact g1
def kAll (ws : List Cond) (ps : List Nat) : Bool := match ws, ps with
  | [], [] => true
  | w :: ws, c :: ps => kIs c w && kAll ws ps
  | _, _ => false
theorem kAll_ok : ∀ {ws : List Cond} {ps : List Nat}, kAll ws ps = true → ∀ w ∈ ws, w ∈ lw_g
  | [], _, _, w, hw => absurd hw List.not_mem_nil
  | a :: ws, [], h, w, hw => by cases h
  | a :: ws, c :: ps, h, w, hw => by
    unfold kAll at h
    rw [Bool.and_eq_true] at h
    rcases List.mem_cons.mp hw with rfl | hw
    · exact kIs_ok h.1
    · exact kAll_ok h.2 w hw
def kDv (fs : List eV) : List Value := fs.map (fun v => match v with
  | .inl _ => .int 0
  | .inr (.inl _) => .null
  | .inr (.inr _) => .long 0)
def kDf (fs : List eV) : Bool := fs.all (fun v => decide (v = .inl (0, 0, 0)) || decide (v = .inr (.inl none)))
theorem kDf_ok : ∀ {fs : List eV}, kDf fs = true → ∀ (ad : List Nat) (σ : Nat → Int), σ 0 = 0 → eAll (eOk ad σ) fs (kDv fs)
  | [], _, ad, σ, h0 => trivial
  | v :: fs, h, ad, σ, h0 => by
    unfold kDf at h
    rw [List.all_cons, Bool.and_eq_true, Bool.or_eq_true] at h
    refine ⟨?_, kDf_ok (fs := fs) h.2 ad σ h0⟩
    rcases h.1 with h1 | h1
    · have h1 := of_decide_eq_true h1
      subst h1
      exact ⟨0, rfl, eIn_mk (by rw [h0]; decide) (by rw [h0]; decide)⟩
    · have h1 := of_decide_eq_true h1
      subst h1
      rfl
