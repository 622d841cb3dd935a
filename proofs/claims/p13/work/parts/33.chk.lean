section
/-! THE CHECK OF THE TABLES -/
def lw_g : List Cond := lw_tbl.filter goodWord
def kW (c : Nat) : Option Cond := match c / 1000 with
  | 0 => (k2_sels lw_privs)[c % 1000]?
  | 1 => tables_1_1[c % 1000]?
  | 2 => tables_1_2[c % 1000]?
  | 3 => tables_1_3[c % 1000]?
  | 4 => tables_1_4[c % 1000]?
  | 5 => tables_1_5[c % 1000]?
  | 6 => tables_1_6[c % 1000]?
  | 7 => tables_1_7[c % 1000]?
  | 8 => tables_1_8[c % 1000]?
  | _ => none
theorem kW_ok {c : Nat} {w : Cond} (h : kW c = some w) : w ∈ lw_tbl := by
  unfold kW at h
  unfold lw_tbl tables_1
  simp only [List.mem_append]
  split at h
  all_goals first | (have := List.mem_of_getElem? h; simp only [this, true_or, or_true]; done) | cases h
def kIs (c : Nat) (w : Cond) : Bool := decide (kW c = some w) && goodWord w
theorem kIs_ok {c : Nat} {w : Cond} (h : kIs c w = true) : w ∈ lw_g := by
  unfold kIs at h
  rw [Bool.and_eq_true, decide_eq_true_eq] at h
  exact List.mem_filter.mpr ⟨kW_ok h.1, h.2⟩
theorem lw_g_good : ∀ w ∈ lw_g, (w.onTables && w.keeps) = true ∨ ∃ ty, w = .arrayClass ty := fun w hw => good_of_word (List.mem_filter.mp hw).2
def kLk (y : MethodName) (en : eN) : Bool := match en.2.1 with
  | .getfield idx => match tCl[en.2.2.2.1]? with
    | some q => Nat.blt en.2.2.2.2.1 q.2.2 && kIs en.2.2.2.2.2.1 (.fieldLink y.cls idx (q.2.1 en.2.2.2.2.1).1 (q.2.1 en.2.2.2.2.1).2.1 (q.2.1 en.2.2.2.2.1).2.2.1)
    | none => false
  | .putfield idx => match tCl[en.2.2.2.1]? with
    | some q => Nat.blt en.2.2.2.2.1 q.2.2 && kIs en.2.2.2.2.2.1 (.fieldLink y.cls idx (q.2.1 en.2.2.2.2.1).1 (q.2.1 en.2.2.2.2.1).2.1 (q.2.1 en.2.2.2.2.1).2.2.1) && (!(q.2.1 en.2.2.2.2.1).2.2.2 || (y.name == "<init>" && decide ((q.2.1 en.2.2.2.2.1).1 = y.cls))) && (match en.2.2.2.2.2.2 with
      | 0 => decide (parseFieldDescriptor (q.2.1 en.2.2.2.2.1).2.2.1 = some .int)
      | 2 => decide (parseFieldDescriptor (q.2.1 en.2.2.2.2.1).2.2.1 = some .boolean)
      | 5 => match parseFieldDescriptor (q.2.1 en.2.2.2.2.1).2.2.1 with
        | some (.object _) => true
        | some (.array _) => true
        | _ => false
      | _ => false)
    | none => false
  | .ldc idx => kIs en.2.2.2.2.2.1 (.constant y.cls idx (Int32.ofNat en.2.2.2.1))
  | .ldc_w idx => kIs en.2.2.2.2.2.1 (.constant y.cls idx (Int32.ofNat en.2.2.2.1))
  | .ldc2_w idx => kIs en.2.2.2.2.2.1 (.constantLong y.cls idx (Int64.ofNat en.2.2.2.1))
  | .newarray t => kIs en.2.2.2.2.2.1 (.arrayClass (newarray.typeOf t)) && decide (newarray.typeOf t = eTy en.2.2.2.1)
  | .new idx => match tCl[en.2.2.2.1]? with
    | some q => kIs en.2.2.2.2.1 (.classLink y.cls idx q.1) && kIs en.2.2.2.2.2.1 (.instantiable q.1 q.2.2) && kIs en.2.2.2.2.2.2 (.initialized q.1)
    | none => false
  | .goto off => decide ((en.1 : Int) + off = (en.2.2.2.1 : Int))
  | .ifCond _ off => decide ((en.1 : Int) + off = (en.2.2.2.1 : Int))
  | .if_icmp _ off => decide ((en.1 : Int) + off = (en.2.2.2.1 : Int))
  | .ifnull off => decide ((en.1 : Int) + off = (en.2.2.2.1 : Int))
  | .ifnonnull off => decide ((en.1 : Int) + off = (en.2.2.2.1 : Int))
  | _ => true
theorem kLk_ok {y : MethodName} {en : eN} (h : kLk y en = true) : eLk tCl lw_g y.cls (y.name == "<init>") en.2.1 en.1 en.2.2.2.1 en.2.2.2.2.1 en.2.2.2.2.2.2 := by
  obtain ⟨pc, i, len, a, b, cc, d⟩ := en
  unfold kLk at h
  simp only at h
  split at h
  · split at h
    · rename_i q hq
      rw [Bool.and_eq_true] at h
      exact ⟨q.1, q.2.1, q.2.2, hq, Nat.le_of_ble_eq_true h.1, kIs_ok h.2⟩
    · cases h
  · split at h
    · rename_i q hq
      simp only [Bool.and_eq_true] at h
      obtain ⟨⟨⟨h1, h2⟩, h3⟩, h4⟩ := h
      refine ⟨q.1, q.2.1, q.2.2, hq, Nat.le_of_ble_eq_true h1, kIs_ok h2, ?_, ?_⟩
      · rw [Bool.or_eq_true] at h3
        rcases h3 with h3 | h3
        · left
          simpa using h3
        · right
          rw [Bool.and_eq_true, decide_eq_true_eq] at h3
          exact h3
      · split at h4
        · exact ⟨fun _ => of_decide_eq_true h4, fun z => absurd (show (0 : Nat) = 2 from z) (by decide), fun z => absurd (show (0 : Nat) = 5 from z) (by decide)⟩
        · exact ⟨fun z => absurd (show (2 : Nat) = 0 from z) (by decide), fun _ => of_decide_eq_true h4, fun z => absurd (show (2 : Nat) = 5 from z) (by decide)⟩
        · refine ⟨fun z => absurd (show (5 : Nat) = 0 from z) (by decide), fun z => absurd (show (5 : Nat) = 2 from z) (by decide), fun _ => ?_⟩
          split at h4
          · rename_i n hn
            exact ⟨_, hn, Or.inl ⟨_, rfl⟩⟩
          · rename_i n hn
            exact ⟨_, hn, Or.inr ⟨_, rfl⟩⟩
          · cases h4
        · cases h4
    · cases h
  · exact kIs_ok h
  · exact kIs_ok h
  · exact kIs_ok h
  · rw [Bool.and_eq_true, decide_eq_true_eq] at h
    exact ⟨kIs_ok h.1, h.2⟩
  · split at h
    · rename_i q hq
      simp only [Bool.and_eq_true] at h
      exact ⟨q.1, q.2.1, q.2.2, hq, kIs_ok h.1.1, kIs_ok h.1.2, kIs_ok h.2⟩
    · cases h
  · have h := of_decide_eq_true h
    exact h
  · have h := of_decide_eq_true h
    exact h
  · have h := of_decide_eq_true h
    exact h
  · have h := of_decide_eq_true h
    exact h
  · have h := of_decide_eq_true h
    exact h
  · unfold eLk
    split
    all_goals first | trivial | (exfalso; simp_all; done)
end
section
/-! THE CHECK OF THE TABLES, 2: calls, methods, classes -/
theorem g_obj1 : Cond.instanceMethod Lib.objectInit ∈ lw_g := kIs_ok (c := 1028) (by decide +kernel)
theorem g_obj2 : Cond.code Lib.objectInit ⟨#[0xb1]⟩ 1 none ∈ lw_g := kIs_ok (c := 1029) (by decide +kernel)
theorem g_min1 : Cond.static Lib.Math.min.name ∈ lw_g := kIs_ok (c := 3088) (by decide +kernel)
theorem g_min2 : Cond.code Lib.Math.min.name Lib.Math.min.code 2 (some .int) ∈ lw_g := kIs_ok (c := 3089) (by decide +kernel)
theorem g_math : Cond.initialized "java/lang/Math" ∈ lw_g := kIs_ok (c := 1020) (by decide +kernel)
theorem g_max1 : Cond.static Lib.Math.max.name ∈ lw_g := kIs_ok (c := 4124) (by decide +kernel)
theorem g_max2 : Cond.code Lib.Math.max.name Lib.Math.max.code 2 (some .int) ∈ lw_g := kIs_ok (c := 4125) (by decide +kernel)
theorem g_ac1 : Cond.native arraycopyName ∈ lw_g := kIs_ok (c := 3023) (by decide +kernel)
theorem g_ac2 : Cond.static arraycopyName ∈ lw_g := kIs_ok (c := 3022) (by decide +kernel)
theorem g_sys : Cond.initialized "java/lang/System" ∈ lw_g := kIs_ok (c := 1017) (by decide +kernel)
theorem g_aint : Cond.arrayClass .int ∈ lw_g := kIs_ok (c := 1064) (by decide +kernel)
def kLb (own : String) (idx a c : Nat) : Bool := match a with
  | 6 => kIs c (.methodLink own idx Lib.objectInit)
  | 7 => kIs c (.methodLink own idx Lib.Math.min.name)
  | 8 => kIs c (.methodLink own idx Lib.Math.max.name)
  | 9 => kIs c (.methodLink own idx arraycopyName)
  | _ => false
theorem kLb_ok {own : String} {idx a c : Nat} (h : kLb own idx a c = true) : eLb lw_g own idx a := by
  unfold kLb at h
  split at h
  · exact ⟨kIs_ok h, g_obj1, g_obj2⟩
  · exact ⟨kIs_ok h, g_min1, g_math, g_min2⟩
  · exact ⟨kIs_ok h, g_max1, g_math, g_max2⟩
  · exact ⟨kIs_ok h, g_ac1, g_ac2, g_sys⟩
  · cases h
/-- a call's own words: of the class 'own', at 'idx' -/
def kCl (own : String) (idx b c d st : Nat) : Bool := match tMs[b]?, tYs[b]?, tWs[b]? with
  | some _, some Y, some q => match st with
    | 0 => kIs c (.methodLink own idx Y.1) && kIs q.2.2.1 (.instanceMethod Y.1) && kIs q.2.2.2 (.selects Y.1.cls Y.1 Y.1) && (match tCl[d]? with
      | some k => decide (k.1 = Y.1.cls)
      | none => false)
    | 1 => kIs c (.methodLink own idx Y.1) && kIs q.2.2.1 (.static Y.1)
    | 4 => (match tNs[c]? with
      | some n => decide (n = (own, idx, Y.1, n.2.2.2))
      | none => false) && kIs q.2.2.1 (.static Y.1)
    | 2 => kIs c (.methodLink own idx Y.1) && kIs q.2.2.1 (.instanceMethod Y.1) && decide (Y.1.name = "<init>") && decide (Y.2.2 = none)
    | 5 => (match tNs[c]? with
      | some n => decide (n = (own, idx, Y.1, n.2.2.2))
      | none => false) && kIs q.2.2.1 (.instanceMethod Y.1) && decide (Y.1.name = "<init>") && decide (Y.2.2 = none)
    | _ => false
  | _, _, _ => false
def kLi (own : String) (en : eN) : Bool := match en.2.1 with
  | .invokevirtual idx => Nat.beq en.2.2.2.1 0 && kCl own idx en.2.2.2.2.1 en.2.2.2.2.2.1 en.2.2.2.2.2.2 0
  | .invokestatic idx => (Nat.blt 6 en.2.2.2.1 && kLb own idx en.2.2.2.1 en.2.2.2.2.2.1) || (Nat.beq en.2.2.2.1 1 && kCl own idx en.2.2.2.2.1 en.2.2.2.2.2.1 en.2.2.2.2.2.2 1) || (Nat.beq en.2.2.2.1 4 && kCl own idx en.2.2.2.2.1 en.2.2.2.2.2.1 en.2.2.2.2.2.2 4)
  | .invokespecial idx => (Nat.beq en.2.2.2.1 6 && kLb own idx en.2.2.2.1 en.2.2.2.2.2.1) || (Nat.beq en.2.2.2.1 2 && kCl own idx en.2.2.2.2.1 en.2.2.2.2.2.1 en.2.2.2.2.2.2 2) || (Nat.beq en.2.2.2.1 5 && kCl own idx en.2.2.2.2.1 en.2.2.2.2.2.1 en.2.2.2.2.2.2 5)
  | .multianewarray idx dim => Nat.beq dim 2 && kIs en.2.2.2.2.2.1 (.classLink own idx ("[" ++ (FieldType.array .int).toString))
  | _ => true
theorem kLi_ok {own : String} {en : eN} (h : kLi own en = true) : eLi tCl lw_g tNs tMs tYs own en.2.1 en.2.2.2.1 en.2.2.2.2.1 en.2.2.2.2.2.2 := by
  obtain ⟨pc, i, len, a, b, cc, d⟩ := en
  unfold kLi at h
  simp only at h
  split at h
  · rename_i idx
    rw [Bool.and_eq_true] at h
    refine ⟨Nat.eq_of_beq_eq_true h.1, ?_⟩
    have h := h.2
    unfold kCl at h
    split at h
    · rename_i M Y q h1 h2 h3
      simp only [Bool.and_eq_true] at h
      obtain ⟨⟨⟨w1, w2⟩, w3⟩, w4⟩ := h
      split at w4
      · rename_i k hk
        have w4 := of_decide_eq_true w4
        refine ⟨M, Y, h1, h2, kIs_ok w1, kIs_ok w2, kIs_ok w3, k.2.1, k.2.2, ?_⟩
        show tCl[d]? = _
        rw [hk, ← w4]
      · cases w4
    · cases h
  · rename_i idx
    simp only [Bool.or_eq_true, Bool.and_eq_true] at h
    rcases h with (⟨h1, h2⟩ | ⟨h1, h2⟩) | ⟨h1, h2⟩
    · exact Or.inl ⟨Nat.le_of_ble_eq_true h1, kLb_ok h2⟩
    · have e := Nat.eq_of_beq_eq_true h1
      subst e
      unfold kCl at h2
      split at h2
      · rename_i M Y q g1 g2 g3
        simp only [Bool.and_eq_true] at h2
        exact Or.inr ⟨by show 1 < 6; omega, M, Y, g1, g2, kIs_ok h2.2, Or.inl ⟨rfl, kIs_ok h2.1⟩⟩
      · cases h2
    · have e := Nat.eq_of_beq_eq_true h1
      subst e
      unfold kCl at h2
      split at h2
      · rename_i M Y q g1 g2 g3
        simp only [Bool.and_eq_true] at h2
        obtain ⟨w1, w2⟩ := h2
        split at w1
        · rename_i n hn
          have w1 := of_decide_eq_true w1
          exact Or.inr ⟨by show 4 < 6; omega, M, Y, g1, g2, kIs_ok w2, Or.inr ⟨rfl, n.2.2.2, w1 ▸ List.mem_of_getElem? hn⟩⟩
        · cases w1
      · cases h2
  · rename_i idx
    simp only [Bool.or_eq_true, Bool.and_eq_true] at h
    rcases h with (⟨h1, h2⟩ | ⟨h1, h2⟩) | ⟨h1, h2⟩
    · exact Or.inl ⟨Nat.eq_of_beq_eq_true h1, kLb_ok h2⟩
    · have e := Nat.eq_of_beq_eq_true h1
      subst e
      unfold kCl at h2
      split at h2
      · rename_i M Y q g1 g2 g3
        simp only [Bool.and_eq_true] at h2
        obtain ⟨⟨⟨w1, w2⟩, w3⟩, w4⟩ := h2
        exact Or.inr ⟨by show 2 < 6; omega, M, Y, g1, g2, of_decide_eq_true w3, of_decide_eq_true w4, kIs_ok w2, Or.inl ⟨rfl, kIs_ok w1⟩⟩
      · cases h2
    · have e := Nat.eq_of_beq_eq_true h1
      subst e
      unfold kCl at h2
      split at h2
      · rename_i M Y q g1 g2 g3
        simp only [Bool.and_eq_true] at h2
        obtain ⟨⟨⟨w1, w2⟩, w3⟩, w4⟩ := h2
        split at w1
        · rename_i n hn
          have w1 := of_decide_eq_true w1
          exact Or.inr ⟨by show 5 < 6; omega, M, Y, g1, g2, of_decide_eq_true w3, of_decide_eq_true w4, kIs_ok w2, Or.inr ⟨rfl, n.2.2.2, w1 ▸ List.mem_of_getElem? hn⟩⟩
        · cases w1
      · cases h2
  · rename_i idx dim
    rw [Bool.and_eq_true] at h
    exact ⟨Nat.eq_of_beq_eq_true h.1, kIs_ok h.2, g_aint⟩
  · unfold eLi
    split
    all_goals first | trivial | (exfalso; simp_all; done)
def kEn (y : MethodName) (cc : ByteArray) (en : eN) : Bool := decide (decode cc en.1 = .ok (en.2.1, en.2.2.1)) && (Nat.beq (eLen en.2.1) 0 || Nat.beq (eLen en.2.1) en.2.2.1) && kLk y en && kLi y.cls en
def kRt (r : Nat) (ret : Option FieldType) : Bool := match r with
  | 0 => decide (ret = none)
  | 1 => decide (ret = some .int)
  | 2 => decide (ret = some .boolean)
  | 3 => decide (ret = some .long)
  | _ => match ret with
    | some (.object _) => true
    | some (.array _) => true
    | _ => false
theorem kRt_ok {r : Nat} {ret : Option FieldType} (h : kRt r ret = true) : eRtk r ret := by
  unfold kRt at h
  split at h
  · have h := of_decide_eq_true h
    exact h
  · have h := of_decide_eq_true h
    exact h
  · have h := of_decide_eq_true h
    exact h
  · have h := of_decide_eq_true h
    exact h
  · rename_i n0 n1 n2 n3
    unfold eRtk
    split
    · exact absurd rfl n0
    · exact absurd rfl n1
    · exact absurd rfl n2
    · exact absurd rfl n3
    · split at h
      · exact ⟨_, rfl, Or.inl ⟨_, rfl⟩⟩
      · exact ⟨_, rfl, Or.inr ⟨_, rfl⟩⟩
      · cases h
def kM (M : eM) (Y : eY) (q : Nat × Nat × Nat × Nat) : Bool := kIs q.2.1 (.initialized Y.1.cls) && plainName Y.1.cls && decide (Y.1.cls ≠ "java/lang/invoke/MethodHandle" ∧ Y.1.cls ≠ "java/lang/invoke/VarHandle" ∧ (parseMethodDescriptor Y.1.desc).map (fun d => d.parameters.length) = some M.2.2.2.2.2) && Nat.ble M.2.1 100 && kRt M.2.2.2.2.1 Y.2.2
theorem kM_ok {M : eM} {Y : eY} {q : Nat × Nat × Nat × Nat} (h1 : ∀ ch ∈ M.1, ch.all (kEn Y.1 Y.2.1) = true) (hw : kW q.1 = some (.code Y.1 Y.2.1 M.2.1 Y.2.2)) (h : kM M Y q = true) : eMok tCl lw_g tNs tMs tYs M Y := by
  unfold kM at h
  simp only [Bool.and_eq_true] at h
  obtain ⟨⟨⟨⟨h3, h4⟩, h5⟩, h6⟩, h7⟩ := h
  refine ⟨fun en hen => ?_, List.mem_filter.mpr ⟨kW_ok hw, rfl⟩, kIs_ok h3, h4, of_decide_eq_true h5, Nat.le_of_ble_eq_true h6, kRt_ok h7⟩
  obtain ⟨ch, hc1, hc2⟩ := List.mem_flatten.mp hen
  have g := List.all_eq_true.mp (h1 ch hc1) en hc2
  unfold kEn at g
  simp only [Bool.and_eq_true] at g
  obtain ⟨⟨⟨g1, g2⟩, g3⟩, g4⟩ := g
  have g1 := of_decide_eq_true g1
  refine ⟨fun hne => ?_, ⟨_, g1⟩, kLk_ok g3, kLi_ok g4⟩
  rw [Bool.or_eq_true] at g2
  rcases g2 with g2 | g2
  · exact absurd (Nat.eq_of_beq_eq_true g2) hne
  · rw [Nat.eq_of_beq_eq_true g2]
    exact g1
def kAll (ws : List Cond) (ps : List Nat) : Bool := match ws, ps with
  | [], [] => true
  | w :: ws, c :: ps => kIs c w && kAll ws ps
  | _, _ => false
theorem kAll_ok : ∀ {ws : List Cond} {ps : List Nat}, kAll ws ps = true → ∀ w ∈ ws, w ∈ lw_g
  | [], _, _, w, hw => absurd hw List.not_mem_nil
  | a :: ws, [], h, w, hw => by cases h
  | a :: ws, c :: ps, h, w, hw => by
    unfold kAll at h
    rw [Bool.and_eq_true] at h
    rcases List.mem_cons.mp hw with rfl | hw
    · exact kIs_ok h.1
    · exact kAll_ok h.2 w hw
def kDv (fs : List eV) : List Value := fs.map (fun v => match v with
  | .inl _ => .int 0
  | .inr (.inl _) => .null
  | .inr (.inr _) => .long 0)
def kDf (fs : List eV) : Bool := fs.all (fun v => decide (v = .inl (0, 0, 0)) || decide (v = .inr (.inl none)))
theorem kDf_ok : ∀ {fs : List eV}, kDf fs = true → ∀ (ad : List Nat) (σ : Nat → Int), σ 0 = 0 → eAll (eOk ad σ) fs (kDv fs)
  | [], _, ad, σ, h0 => trivial
  | v :: fs, h, ad, σ, h0 => by
    unfold kDf at h
    rw [List.all_cons, Bool.and_eq_true, Bool.or_eq_true] at h
    refine ⟨?_, kDf_ok (fs := fs) h.2 ad σ h0⟩
    rcases h.1 with h1 | h1
    · have h1 := of_decide_eq_true h1
      subst h1
      exact ⟨0, rfl, eIn_mk (by rw [h0]; decide) (by rw [h0]; decide)⟩
    · have h1 := of_decide_eq_true h1
      subst h1
      rfl
end
section
theorem kf0 : kAll (u_ws RX0 TX0 4) ((tFs[0]?).getD []) = true := by decide +kernel
theorem kd0 : kDf ((tDf[0]?).getD []) = true ∧ ((tDf[0]?).getD []).length = 4 ∧ ∀ j, j < 4 → defaultValue (tyX0 j) = vp_V (kDv ((tDf[0]?).getD [])) j := by decide +kernel
theorem kf1 : kAll (u_ws RX1 TX1 5) ((tFs[1]?).getD []) = true := by decide +kernel
theorem kd1 : kDf ((tDf[1]?).getD []) = true ∧ ((tDf[1]?).getD []).length = 5 ∧ ∀ j, j < 5 → defaultValue (tyX1 j) = vp_V (kDv ((tDf[1]?).getD [])) j := by decide +kernel
theorem kf2 : kAll (u_ws RX2 TX2 7) ((tFs[2]?).getD []) = true := by decide +kernel
theorem kd2 : kDf ((tDf[2]?).getD []) = true ∧ ((tDf[2]?).getD []).length = 7 ∧ ∀ j, j < 7 → defaultValue (tyX2 j) = vp_V (kDv ((tDf[2]?).getD [])) j := by decide +kernel
theorem kf3 : kAll (u_ws RX3 TX3 16) ((tFs[3]?).getD []) = true := by decide +kernel
theorem kd3 : kDf ((tDf[3]?).getD []) = true ∧ ((tDf[3]?).getD []).length = 16 ∧ ∀ j, j < 16 → defaultValue (tyX3 j) = vp_V (kDv ((tDf[3]?).getD [])) j := by decide +kernel
theorem kf4 : kAll (u_ws RX4 TX4 6) ((tFs[4]?).getD []) = true := by decide +kernel
theorem kd4 : kDf ((tDf[4]?).getD []) = true ∧ ((tDf[4]?).getD []).length = 6 ∧ ∀ j, j < 6 → defaultValue (tyX4 j) = vp_V (kDv ((tDf[4]?).getD [])) j := by decide +kernel
theorem kf5 : kAll (u_ws RX5 TX5 6) ((tFs[5]?).getD []) = true := by decide +kernel
theorem kd5 : kDf ((tDf[5]?).getD []) = true ∧ ((tDf[5]?).getD []).length = 6 ∧ ∀ j, j < 6 → defaultValue (tyX5 j) = vp_V (kDv ((tDf[5]?).getD [])) j := by decide +kernel
theorem kf6 : kAll (u_ws RX6 TX6 5) ((tFs[6]?).getD []) = true := by decide +kernel
theorem kd6 : kDf ((tDf[6]?).getD []) = true ∧ ((tDf[6]?).getD []).length = 5 ∧ ∀ j, j < 5 → defaultValue (tyX6 j) = vp_V (kDv ((tDf[6]?).getD [])) j := by decide +kernel
theorem kf7 : kAll (u_ws RX7 TX7 9) ((tFs[7]?).getD []) = true := by decide +kernel
theorem kd7 : kDf ((tDf[7]?).getD []) = true ∧ ((tDf[7]?).getD []).length = 9 ∧ ∀ j, j < 9 → defaultValue (tyX7 j) = vp_V (kDv ((tDf[7]?).getD [])) j := by decide +kernel
theorem kf8 : kAll (u_ws RX8 TX8 6) ((tFs[8]?).getD []) = true := by decide +kernel
theorem kd8 : kDf ((tDf[8]?).getD []) = true ∧ ((tDf[8]?).getD []).length = 6 ∧ ∀ j, j < 6 → defaultValue (tyX8 j) = vp_V (kDv ((tDf[8]?).getD [])) j := by decide +kernel
theorem kf9 : kAll (u_ws RX9 TX9 4) ((tFs[9]?).getD []) = true := by decide +kernel
theorem kd9 : kDf ((tDf[9]?).getD []) = true ∧ ((tDf[9]?).getD []).length = 4 ∧ ∀ j, j < 4 → defaultValue (tyX9 j) = vp_V (kDv ((tDf[9]?).getD [])) j := by decide +kernel
theorem kf10 : kAll (u_ws RX10 TX10 6) ((tFs[10]?).getD []) = true := by decide +kernel
theorem kd10 : kDf ((tDf[10]?).getD []) = true ∧ ((tDf[10]?).getD []).length = 6 ∧ ∀ j, j < 6 → defaultValue (tyX10 j) = vp_V (kDv ((tDf[10]?).getD [])) j := by decide +kernel
theorem kf11 : kAll (u_ws RX11 TX11 13) ((tFs[11]?).getD []) = true := by decide +kernel
theorem kd11 : kDf ((tDf[11]?).getD []) = true ∧ ((tDf[11]?).getD []).length = 13 ∧ ∀ j, j < 13 → defaultValue (tyX11 j) = vp_V (kDv ((tDf[11]?).getD [])) j := by decide +kernel
theorem kf12 : kAll (u_ws RX12 TX12 69) ((tFs[12]?).getD []) = true := by decide +kernel
theorem kd12 : kDf ((tDf[12]?).getD []) = true ∧ ((tDf[12]?).getD []).length = 69 ∧ ∀ j, j < 69 → defaultValue (tyX12 j) = vp_V (kDv ((tDf[12]?).getD [])) j := by decide +kernel
theorem tKl : eKl tCl lw_g tDf := by
  intro ci C T N h
  match ci, h with
  | 0, h => cases h; exact ⟨kAll_ok kf0, tyX0, tyX0_ok, nmX0, fun fs hfs => by cases hfs; exact ⟨kd0.2.1, _, kDf_ok kd0.1, kd0.2.2⟩⟩
  | 1, h => cases h; exact ⟨kAll_ok kf1, tyX1, tyX1_ok, nmX1, fun fs hfs => by cases hfs; exact ⟨kd1.2.1, _, kDf_ok kd1.1, kd1.2.2⟩⟩
  | 2, h => cases h; exact ⟨kAll_ok kf2, tyX2, tyX2_ok, nmX2, fun fs hfs => by cases hfs; exact ⟨kd2.2.1, _, kDf_ok kd2.1, kd2.2.2⟩⟩
  | 3, h => cases h; exact ⟨kAll_ok kf3, tyX3, tyX3_ok, nmX3, fun fs hfs => by cases hfs; exact ⟨kd3.2.1, _, kDf_ok kd3.1, kd3.2.2⟩⟩
  | 4, h => cases h; exact ⟨kAll_ok kf4, tyX4, tyX4_ok, nmX4, fun fs hfs => by cases hfs; exact ⟨kd4.2.1, _, kDf_ok kd4.1, kd4.2.2⟩⟩
  | 5, h => cases h; exact ⟨kAll_ok kf5, tyX5, tyX5_ok, nmX5, fun fs hfs => by cases hfs; exact ⟨kd5.2.1, _, kDf_ok kd5.1, kd5.2.2⟩⟩
  | 6, h => cases h; exact ⟨kAll_ok kf6, tyX6, tyX6_ok, nmX6, fun fs hfs => by cases hfs; exact ⟨kd6.2.1, _, kDf_ok kd6.1, kd6.2.2⟩⟩
  | 7, h => cases h; exact ⟨kAll_ok kf7, tyX7, tyX7_ok, nmX7, fun fs hfs => by cases hfs; exact ⟨kd7.2.1, _, kDf_ok kd7.1, kd7.2.2⟩⟩
  | 8, h => cases h; exact ⟨kAll_ok kf8, tyX8, tyX8_ok, nmX8, fun fs hfs => by cases hfs; exact ⟨kd8.2.1, _, kDf_ok kd8.1, kd8.2.2⟩⟩
  | 9, h => cases h; exact ⟨kAll_ok kf9, tyX9, tyX9_ok, nmX9, fun fs hfs => by cases hfs; exact ⟨kd9.2.1, _, kDf_ok kd9.1, kd9.2.2⟩⟩
  | 10, h => cases h; exact ⟨kAll_ok kf10, tyX10, tyX10_ok, nmX10, fun fs hfs => by cases hfs; exact ⟨kd10.2.1, _, kDf_ok kd10.1, kd10.2.2⟩⟩
  | 11, h => cases h; exact ⟨kAll_ok kf11, tyX11, tyX11_ok, nmX11, fun fs hfs => by cases hfs; exact ⟨kd11.2.1, _, kDf_ok kd11.1, kd11.2.2⟩⟩
  | 12, h => cases h; exact ⟨kAll_ok kf12, tyX12, tyX12_ok, nmX12, fun fs hfs => by cases hfs; exact ⟨kd12.2.1, _, kDf_ok kd12.1, kd12.2.2⟩⟩
  | k + 13, h => simp [tCl] at h
end
