/-! THE CHECK OF THE TABLES -/
def lw_g : List Cond := lw_tbl.filter goodWord
def kW (c : Nat) : Option Cond := match c / 1000 with
  | 0 => (k2_sels lw_privs)[c % 1000]?
  | 1 => tables_1_1[c % 1000]?
  | 2 => tables_1_2[c % 1000]?
  | 3 => tables_1_3[c % 1000]?
  | 4 => tables_1_4[c % 1000]?
  | 5 => tables_1_5[c % 1000]?
  | 6 => tables_1_6[c % 1000]?
  | 7 => tables_1_7[c % 1000]?
  | 8 => tables_1_8[c % 1000]?
  | _ => none
theorem kW_ok {c : Nat} {w : Cond} (h : kW c = some w) : w ∈ lw_tbl := by
  unfold kW at h
  unfold lw_tbl tables_1
  simp only [List.mem_append]
  split at h
  all_goals first | (have := List.mem_of_getElem? h; simp only [this, true_or, or_true]; done) | cases h
def kIs (c : Nat) (w : Cond) : Bool := decide (kW c = some w) && goodWord w
theorem kIs_ok {c : Nat} {w : Cond} (h : kIs c w = true) : w ∈ lw_g := by
  unfold kIs at h
  rw [Bool.and_eq_true, decide_eq_true_eq] at h
  exact List.mem_filter.mpr ⟨kW_ok h.1, h.2⟩
theorem lw_g_good : ∀ w ∈ lw_g, (w.onTables && w.keeps) = true ∨ ∃ ty, w = .arrayClass ty := fun w hw => good_of_word (List.mem_filter.mp hw).2
def kLk (y : MethodName) (en : eN) : Bool := match en.2.1 with
  | .getfield idx => match tCl[en.2.2.2.1]? with
    | some q => Nat.blt en.2.2.2.2.1 q.2.2 && kIs en.2.2.2.2.2.1 (.fieldLink y.cls idx (q.2.1 en.2.2.2.2.1).1 (q.2.1 en.2.2.2.2.1).2.1 (q.2.1 en.2.2.2.2.1).2.2.1)
    | none => false
  | .putfield idx => match tCl[en.2.2.2.1]? with
    | some q => Nat.blt en.2.2.2.2.1 q.2.2 && kIs en.2.2.2.2.2.1 (.fieldLink y.cls idx (q.2.1 en.2.2.2.2.1).1 (q.2.1 en.2.2.2.2.1).2.1 (q.2.1 en.2.2.2.2.1).2.2.1) && (!(q.2.1 en.2.2.2.2.1).2.2.2 || (y.name == "<init>" && decide ((q.2.1 en.2.2.2.2.1).1 = y.cls))) && (match en.2.2.2.2.2.2 with
      | 0 => decide (parseFieldDescriptor (q.2.1 en.2.2.2.2.1).2.2.1 = some .int)
      | 2 => decide (parseFieldDescriptor (q.2.1 en.2.2.2.2.1).2.2.1 = some .boolean)
      | 5 => match parseFieldDescriptor (q.2.1 en.2.2.2.2.1).2.2.1 with
        | some (.object _) => true
        | some (.array _) => true
        | _ => false
      | _ => false)
    | none => false
  | .ldc idx => kIs en.2.2.2.2.2.1 (.constant y.cls idx (Int32.ofNat en.2.2.2.1))
  | .ldc_w idx => kIs en.2.2.2.2.2.1 (.constant y.cls idx (Int32.ofNat en.2.2.2.1))
  | .ldc2_w idx => kIs en.2.2.2.2.2.1 (.constantLong y.cls idx (Int64.ofNat en.2.2.2.1))
  | .newarray t => kIs en.2.2.2.2.2.1 (.arrayClass (newarray.typeOf t)) && decide (newarray.typeOf t = eTy en.2.2.2.1)
  | .new idx => match tCl[en.2.2.2.1]? with
    | some q => kIs en.2.2.2.2.1 (.classLink y.cls idx q.1) && kIs en.2.2.2.2.2.1 (.instantiable q.1 q.2.2) && kIs en.2.2.2.2.2.2 (.initialized q.1)
    | none => false
  | .goto off => decide ((en.1 : Int) + off = (en.2.2.2.1 : Int))
  | .ifCond _ off => decide ((en.1 : Int) + off = (en.2.2.2.1 : Int))
  | .if_icmp _ off => decide ((en.1 : Int) + off = (en.2.2.2.1 : Int))
  | .ifnull off => decide ((en.1 : Int) + off = (en.2.2.2.1 : Int))
  | .ifnonnull off => decide ((en.1 : Int) + off = (en.2.2.2.1 : Int))
  | _ => true
theorem kLk_ok {y : MethodName} {en : eN} (h : kLk y en = true) : eLk tCl lw_g y.cls (y.name == "<init>") en.2.1 en.1 en.2.2.2.1 en.2.2.2.2.1 en.2.2.2.2.2.2 := by
  obtain ⟨pc, i, len, a, b, cc, d⟩ := en
  unfold kLk at h
  simp only at h
  split at h
  · split at h
    · rename_i q hq
      rw [Bool.and_eq_true] at h
      exact ⟨q.1, q.2.1, q.2.2, hq, Nat.le_of_ble_eq_true h.1, kIs_ok h.2⟩
    · cases h
  · split at h
    · rename_i q hq
      simp only [Bool.and_eq_true] at h
      obtain ⟨⟨⟨h1, h2⟩, h3⟩, h4⟩ := h
      refine ⟨q.1, q.2.1, q.2.2, hq, Nat.le_of_ble_eq_true h1, kIs_ok h2, ?_, ?_⟩
      · rw [Bool.or_eq_true] at h3
        rcases h3 with h3 | h3
        · left
          simpa using h3
        · right
          rw [Bool.and_eq_true, decide_eq_true_eq] at h3
          exact h3
      · split at h4
        · exact ⟨fun _ => of_decide_eq_true h4, fun z => absurd (show (0 : Nat) = 2 from z) (by decide), fun z => absurd (show (0 : Nat) = 5 from z) (by decide)⟩
        · exact ⟨fun z => absurd (show (2 : Nat) = 0 from z) (by decide), fun _ => of_decide_eq_true h4, fun z => absurd (show (2 : Nat) = 5 from z) (by decide)⟩
        · refine ⟨fun z => absurd (show (5 : Nat) = 0 from z) (by decide), fun z => absurd (show (5 : Nat) = 2 from z) (by decide), fun _ => ?_⟩
          split at h4
          · rename_i n hn
            exact ⟨_, hn, Or.inl ⟨_, rfl⟩⟩
          · rename_i n hn
            exact ⟨_, hn, Or.inr ⟨_, rfl⟩⟩
          · cases h4
        · cases h4
    · cases h
  · exact kIs_ok h
  · exact kIs_ok h
  · exact kIs_ok h
  · rw [Bool.and_eq_true, decide_eq_true_eq] at h
    exact ⟨kIs_ok h.1, h.2⟩
  · split at h
    · rename_i q hq
      simp only [Bool.and_eq_true] at h
      exact ⟨q.1, q.2.1, q.2.2, hq, kIs_ok h.1.1, kIs_ok h.1.2, kIs_ok h.2⟩
    · cases h
  · have h := of_decide_eq_true h
    exact h
  · have h := of_decide_eq_true h
    exact h
  · have h := of_decide_eq_true h
    exact h
  · have h := of_decide_eq_true h
    exact h
  · have h := of_decide_eq_true h
    exact h
  · unfold eLk
    split
    all_goals first | trivial | (exfalso; simp_all; done)
