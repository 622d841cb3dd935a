/-! THE TEXT OF WORDS: String.length and charAt of the one literal, by hand; they only read -/
def tTx : String := "flat wire use goes quarrel costs pays surge coins seed if then else load rating age hour day amps temper dark which "
def tLen : List Nat := [116]
def tByt : List (List Int32) := [[102, 108, 97, 116, 32, 119, 105, 114, 101, 32, 117, 115, 101, 32, 103, 111, 101, 115, 32, 113, 117, 97, 114, 114, 101, 108, 32, 99, 111, 115, 116, 115, 32, 112, 97, 121, 115, 32, 115, 117, 114, 103, 101, 32, 99, 111, 105, 110, 115, 32, 115, 101, 101, 100, 32, 105, 102, 32, 116, 104, 101, 110, 32, 101, 108, 115, 101, 32, 108, 111, 97, 100, 32, 114, 97, 116, 105, 110, 103, 32, 97, 103, 101, 32, 104, 111, 117, 114, 32, 100, 97, 121, 32, 97, 109, 112, 115, 32, 116, 101, 109, 112, 101, 114, 32, 100, 97, 114, 107, 32, 119, 104, 105, 99, 104, 32]]
abbrev jB_len : ByteArray := prog_17_method_54_code
def jY_len : MethodName := ⟨"java/lang/String", "length", "()I"⟩
theorem jC_len : Cond.code jY_len jB_len 1 (some .int) ∈ lw_g := List.mem_filter.mpr ⟨kW_ok (c := 1178) rfl, rfl⟩
theorem jD_len_0 : decode jB_len 0 = .ok (.aload_n 0, 1) := by decide +kernel
theorem jD_len_1 : decode jB_len 1 = .ok (.getfield 9, 3) := by decide +kernel
theorem jD_len_4 : decode jB_len 4 = .ok (.arraylength, 1) := by decide +kernel
theorem jD_len_5 : decode jB_len 5 = .ok (.aload_n 0, 1) := by decide +kernel
theorem jD_len_6 : decode jB_len 6 = .ok (.invokevirtual 335, 3) := by decide +kernel
theorem jD_len_9 : decode jB_len 9 = .ok (.ishr, 1) := by decide +kernel
theorem jD_len_10 : decode jB_len 10 = .ok (.ireturn, 1) := by decide +kernel
theorem jI_len : Cond.instanceMethod jY_len ∈ lw_g := kIs_ok (c := 1176) (by decide +kernel)
theorem jV_len : Cond.selects jY_len.cls jY_len jY_len ∈ lw_g := kIs_ok (c := 1177) (by decide +kernel)
theorem jN_len : Cond.initialized jY_len.cls ∈ lw_g := kIs_ok (c := 1005) (by decide +kernel)
abbrev jB_chr : ByteArray := prog_17_method_56_code
def jY_chr : MethodName := ⟨"java/lang/String", "charAt", "(I)C"⟩
theorem jC_chr : Cond.code jY_chr jB_chr 2 (some .char) ∈ lw_g := List.mem_filter.mpr ⟨kW_ok (c := 1188) rfl, rfl⟩
theorem jD_chr_0 : decode jB_chr 0 = .ok (.aload_n 0, 1) := by decide +kernel
theorem jD_chr_1 : decode jB_chr 1 = .ok (.invokevirtual 492, 3) := by decide +kernel
theorem jD_chr_4 : decode jB_chr 4 = .ok (.ifCond .eq 12, 3) := by decide +kernel
theorem jD_chr_7 : decode jB_chr 7 = .ok (.aload_n 0, 1) := by decide +kernel
theorem jD_chr_8 : decode jB_chr 8 = .ok (.getfield 9, 3) := by decide +kernel
theorem jD_chr_11 : decode jB_chr 11 = .ok (.iload_n 1, 1) := by decide +kernel
theorem jD_chr_12 : decode jB_chr 12 = .ok (.invokestatic 495, 3) := by decide +kernel
theorem jD_chr_15 : decode jB_chr 15 = .ok (.ireturn, 1) := by decide +kernel
theorem jD_chr_16 : decode jB_chr 16 = .ok (.aload_n 0, 1) := by decide +kernel
theorem jD_chr_17 : decode jB_chr 17 = .ok (.getfield 9, 3) := by decide +kernel
theorem jD_chr_20 : decode jB_chr 20 = .ok (.iload_n 1, 1) := by decide +kernel
theorem jD_chr_21 : decode jB_chr 21 = .ok (.invokestatic 498, 3) := by decide +kernel
theorem jD_chr_24 : decode jB_chr 24 = .ok (.ireturn, 1) := by decide +kernel
theorem jI_chr : Cond.instanceMethod jY_chr ∈ lw_g := kIs_ok (c := 1186) (by decide +kernel)
theorem jV_chr : Cond.selects jY_chr.cls jY_chr jY_chr ∈ lw_g := kIs_ok (c := 1187) (by decide +kernel)
theorem jN_chr : Cond.initialized jY_chr.cls ∈ lw_g := kIs_ok (c := 1005) (by decide +kernel)
abbrev jB_cod : ByteArray := prog_17_method_152_code
def jY_cod : MethodName := ⟨"java/lang/String", "coder", "()B"⟩
theorem jC_cod : Cond.code jY_cod jB_cod 1 (some .byte) ∈ lw_g := List.mem_filter.mpr ⟨kW_ok (c := 1182) rfl, rfl⟩
theorem jD_cod_0 : decode jB_cod 0 = .ok (.getstatic 38, 3) := by decide +kernel
theorem jD_cod_3 : decode jB_cod 3 = .ok (.ifCond .eq 10, 3) := by decide +kernel
theorem jD_cod_6 : decode jB_cod 6 = .ok (.aload_n 0, 1) := by decide +kernel
theorem jD_cod_7 : decode jB_cod 7 = .ok (.getfield 15, 3) := by decide +kernel
theorem jD_cod_10 : decode jB_cod 10 = .ok (.goto 4, 3) := by decide +kernel
theorem jD_cod_13 : decode jB_cod 13 = .ok (.iconst 1, 1) := by decide +kernel
theorem jD_cod_14 : decode jB_cod 14 = .ok (.ireturn, 1) := by decide +kernel
theorem jI_cod : Cond.instanceMethod jY_cod ∈ lw_g := kIs_ok (c := 1180) (by decide +kernel)
theorem jV_cod : Cond.selects jY_cod.cls jY_cod jY_cod ∈ lw_g := kIs_ok (c := 1181) (by decide +kernel)
theorem jN_cod : Cond.initialized jY_cod.cls ∈ lw_g := kIs_ok (c := 1005) (by decide +kernel)
abbrev jB_lat : ByteArray := prog_17_method_154_code
def jY_lat : MethodName := ⟨"java/lang/String", "isLatin1", "()Z"⟩
theorem jC_lat : Cond.code jY_lat jB_lat 1 (some .boolean) ∈ lw_g := List.mem_filter.mpr ⟨kW_ok (c := 1192) rfl, rfl⟩
theorem jD_lat_0 : decode jB_lat 0 = .ok (.getstatic 38, 3) := by decide +kernel
theorem jD_lat_3 : decode jB_lat 3 = .ok (.ifCond .eq 14, 3) := by decide +kernel
theorem jD_lat_6 : decode jB_lat 6 = .ok (.aload_n 0, 1) := by decide +kernel
theorem jD_lat_7 : decode jB_lat 7 = .ok (.getfield 15, 3) := by decide +kernel
theorem jD_lat_10 : decode jB_lat 10 = .ok (.ifCond .ne 7, 3) := by decide +kernel
theorem jD_lat_13 : decode jB_lat 13 = .ok (.iconst 1, 1) := by decide +kernel
theorem jD_lat_14 : decode jB_lat 14 = .ok (.goto 4, 3) := by decide +kernel
theorem jD_lat_17 : decode jB_lat 17 = .ok (.iconst 0, 1) := by decide +kernel
theorem jD_lat_18 : decode jB_lat 18 = .ok (.ireturn, 1) := by decide +kernel
theorem jI_lat : Cond.instanceMethod jY_lat ∈ lw_g := kIs_ok (c := 1190) (by decide +kernel)
theorem jV_lat : Cond.selects jY_lat.cls jY_lat jY_lat ∈ lw_g := kIs_ok (c := 1191) (by decide +kernel)
theorem jN_lat : Cond.initialized jY_lat.cls ∈ lw_g := kIs_ok (c := 1005) (by decide +kernel)
abbrev jB_chk : ByteArray := prog_17_method_155_code
def jY_chk : MethodName := ⟨"java/lang/String", "checkIndex", "(II)V"⟩
theorem jC_chk : Cond.code jY_chk jB_chk 2 none ∈ lw_g := List.mem_filter.mpr ⟨kW_ok (c := 1198) rfl, rfl⟩
theorem jD_chk_0 : decode jB_chk 0 = .ok (.iload_n 0, 1) := by decide +kernel
theorem jD_chk_1 : decode jB_chk 1 = .ok (.iload_n 1, 1) := by decide +kernel
theorem jD_chk_2 : decode jB_chk 2 = .ok (.getstatic 1053, 3) := by decide +kernel
theorem jD_chk_5 : decode jB_chk 5 = .ok (.invokestatic 1059, 3) := by decide +kernel
theorem jD_chk_8 : decode jB_chk 8 = .ok (.pop, 1) := by decide +kernel
theorem jD_chk_9 : decode jB_chk 9 = .ok (.return_, 1) := by decide +kernel
theorem jS_chk : Cond.static jY_chk ∈ lw_g := kIs_ok (c := 1197) (by decide +kernel)
theorem jN_chk : Cond.initialized jY_chk.cls ∈ lw_g := kIs_ok (c := 1005) (by decide +kernel)
abbrev jB_lch : ByteArray := prog_18_method_2_code
def jY_lch : MethodName := ⟨"java/lang/StringLatin1", "charAt", "([BI)C"⟩
theorem jC_lch : Cond.code jY_lch jB_lch 2 (some .char) ∈ lw_g := List.mem_filter.mpr ⟨kW_ok (c := 1195) rfl, rfl⟩
theorem jD_lch_0 : decode jB_lch 0 = .ok (.iload_n 1, 1) := by decide +kernel
theorem jD_lch_1 : decode jB_lch 1 = .ok (.aload_n 0, 1) := by decide +kernel
theorem jD_lch_2 : decode jB_lch 2 = .ok (.arraylength, 1) := by decide +kernel
theorem jD_lch_3 : decode jB_lch 3 = .ok (.invokestatic 9, 3) := by decide +kernel
theorem jD_lch_6 : decode jB_lch 6 = .ok (.aload_n 0, 1) := by decide +kernel
theorem jD_lch_7 : decode jB_lch 7 = .ok (.iload_n 1, 1) := by decide +kernel
theorem jD_lch_8 : decode jB_lch 8 = .ok (.baload, 1) := by decide +kernel
theorem jD_lch_9 : decode jB_lch 9 = .ok (.sipush 255, 3) := by decide +kernel
theorem jD_lch_12 : decode jB_lch 12 = .ok (.iand, 1) := by decide +kernel
theorem jD_lch_13 : decode jB_lch 13 = .ok (.i2c, 1) := by decide +kernel
theorem jD_lch_14 : decode jB_lch 14 = .ok (.ireturn, 1) := by decide +kernel
theorem jS_lch : Cond.static jY_lch ∈ lw_g := kIs_ok (c := 1194) (by decide +kernel)
theorem jN_lch : Cond.initialized jY_lch.cls ∈ lw_g := kIs_ok (c := 1006) (by decide +kernel)
abbrev jB_pre : ByteArray := prog_22_method_11_code
def jY_pre : MethodName := ⟨"jdk/internal/util/Preconditions", "checkIndex", "(IILjava/util/function/BiFunction;)I"⟩
theorem jC_pre : Cond.code jY_pre jB_pre 3 (some .int) ∈ lw_g := List.mem_filter.mpr ⟨kW_ok (c := 1203) rfl, rfl⟩
theorem jD_pre_0 : decode jB_pre 0 = .ok (.iload_n 0, 1) := by decide +kernel
theorem jD_pre_1 : decode jB_pre 1 = .ok (.ifCond .lt 8, 3) := by decide +kernel
theorem jD_pre_4 : decode jB_pre 4 = .ok (.iload_n 0, 1) := by decide +kernel
theorem jD_pre_5 : decode jB_pre 5 = .ok (.iload_n 1, 1) := by decide +kernel
theorem jD_pre_6 : decode jB_pre 6 = .ok (.if_icmp .lt 10, 3) := by decide +kernel
theorem jD_pre_9 : decode jB_pre 9 = .ok (.aload_n 2, 1) := by decide +kernel
theorem jD_pre_10 : decode jB_pre 10 = .ok (.iload_n 0, 1) := by decide +kernel
theorem jD_pre_11 : decode jB_pre 11 = .ok (.iload_n 1, 1) := by decide +kernel
theorem jD_pre_12 : decode jB_pre 12 = .ok (.invokestatic 95, 3) := by decide +kernel
theorem jD_pre_15 : decode jB_pre 15 = .ok (.athrow, 1) := by decide +kernel
theorem jD_pre_16 : decode jB_pre 16 = .ok (.iload_n 0, 1) := by decide +kernel
theorem jD_pre_17 : decode jB_pre 17 = .ok (.ireturn, 1) := by decide +kernel
theorem jS_pre : Cond.static jY_pre ∈ lw_g := kIs_ok (c := 1202) (by decide +kernel)
theorem jN_pre : Cond.initialized jY_pre.cls ∈ lw_g := kIs_ok (c := 1007) (by decide +kernel)
theorem jF_38 : Cond.fieldLink "java/lang/String" 38 "java/lang/String" "COMPACT_STRINGS" "Z" ∈ lw_g := kIs_ok (c := 1183) (by decide +kernel)
theorem jF_1053 : Cond.fieldLink "java/lang/String" 1053 "jdk/internal/util/Preconditions" "SIOOBE_FORMATTER" "Ljava/util/function/BiFunction;" ∈ lw_g := kIs_ok (c := 1199) (by decide +kernel)
theorem jF_9 : Cond.fieldLink "java/lang/String" 9 "java/lang/String" "value" "[B" ∈ lw_g := kIs_ok (c := 8183) (by decide +kernel)
theorem jF_15 : Cond.fieldLink "java/lang/String" 15 "java/lang/String" "coder" "B" ∈ lw_g := kIs_ok (c := 8184) (by decide +kernel)
theorem jM_len_31 : Cond.methodLink "FuseTreaty$Tokens" 31 jY_len ∈ lw_g := kIs_ok (c := 1175) (by decide +kernel)
theorem jM_chr_36 : Cond.methodLink "FuseTreaty$Tokens" 36 jY_chr ∈ lw_g := kIs_ok (c := 1185) (by decide +kernel)
theorem jM_cod_335 : Cond.methodLink "java/lang/String" 335 jY_cod ∈ lw_g := kIs_ok (c := 1179) (by decide +kernel)
theorem jM_lat_492 : Cond.methodLink "java/lang/String" 492 jY_lat ∈ lw_g := kIs_ok (c := 1189) (by decide +kernel)
theorem jM_lch_495 : Cond.methodLink "java/lang/String" 495 jY_lch ∈ lw_g := kIs_ok (c := 1193) (by decide +kernel)
theorem jM_chk_9 : Cond.methodLink "java/lang/StringLatin1" 9 jY_chk ∈ lw_g := kIs_ok (c := 1196) (by decide +kernel)
theorem jM_pre_1059 : Cond.methodLink "java/lang/String" 1059 jY_pre ∈ lw_g := kIs_ok (c := 1201) (by decide +kernel)
def tFz (adK adV : Nat → Nat) : (Nat → Prop) → State → Heap → Prop := fun A U H => vk_S 1 tLen tByt adK adV A U H ∧ va_Z "java/lang/String" "COMPACT_STRINGS" "Z" (.int 1) A U H ∧ va_Zq "jdk/internal/util/Preconditions" "SIOOBE_FORMATTER" "Ljava/util/function/BiFunction;" A U H ∧ vk_R "FuseTreaty$Tokens" 29 tTx (adK 0) U
theorem tFzOk (adK adV : Nat → Nat) : eFzOk (tFz adK adV) := by
  refine ⟨fun A B U U' H H' h hW hq hAB => ?_, fun A U U' H h hv => ?_⟩
  · obtain ⟨h1, h2, h3, h4⟩ := h
    exact ⟨((h1.moved hW.alike).kept hq).narrow hAB, ((h2.moved hW.alike).kept hq).narrow hAB, ((h3.moved hW.alike).kept hq).narrow hAB, h4.warm hW⟩
  · obtain ⟨h1, h2, h3, h4⟩ := h
    have hal : U.vm.Alike U'.vm := by rw [hv]; exact Vm.Alike.refl _
    exact ⟨h1.moved hal, h2.moved hal, h3.moved hal, h4.same hv.symm⟩
def jRm (d : Nat) : Room := { frames := d, cells := 0, slots := 0, locals := 128 * d }
def jP (adK adV : Nat → Nat) (U : State) : Prop := tFz adK adV (fun _ => False) U U.heap
theorem jBl (adK adV : Nat → Nat) (av : List Value) : FrameBlind (va_Pc av (jP adK adV)) := fun a U g mk q => ⟨q.1, (tFzOk adK adV).2 _ U _ _ q.2 rfl⟩
theorem jPre {adK adV : Nat → Nat} {s U : State} (h : jP adK adV s) (hU : U.heap = s.heap) (hW : s.WarmedH U.vm) : jP adK adV U := (tFzOk adK adV).1 _ _ s U _ _ h hW (fun q _ _ => by rw [hU]) (fun _ q => q)
theorem jG {y : MethodName} {b : ByteArray} {n : Nat} {r : Option FieldType} (h : Cond.code y b n r ∈ lw_g) : GoodIn lw_g (Cond.code y b n r :: lw_g) := fun w hw => by
  rcases List.mem_cons.mp hw with rfl | hw
  · exact ⟨h, lw_g_good _ h⟩
  · exact ⟨hw, lw_g_good _ hw⟩
set_option maxRecDepth 20000 in
theorem c_cod (l0 : Launch) (adK adV : Nat → Nat) : Met l0 jY_cod (Cond.code jY_cod jB_cod 1 (some .byte) :: lw_g) (jRm 1) (va_Pc [.ref (adK 0)] (jP adK adV)) (vp_Si (fun r => r = 0)) 0 0 (fun _ => False) := by
  refine Met.ofW (cc := jB_cod) (maxL := 1) (ret := (some .byte)) (by decide) rfl ?_
  intro p e s m args below meth c s₁ B hml hv
  obtain ⟨rfl, hF⟩ := hv
  have hx := B.exec
  have hb := B.bytes
  have hr := B.returns
  have hts : ∀ w ∈ lw_g, w.before _ s = true := fun w hw => atoms_spec (ws := Cond.code jY_cod jB_cod 1 (some .byte) :: lw_g) B.pre w (List.mem_cons_of_mem _ hw)
  have hown : s.vm.findClass "java/lang/String" = some m.cls := findClass_of_methodNamed B.named
  have hlocks := B.notSynchronized
  have hS : va_S (fun _ => False) s.heap s.heap [] := va_S.rf
  have hF0 := hF
  obtain ⟨hSt, hCo, hZq, hR⟩ := hF
  have hl := lv_entry [.ref (adK 0)] (n := 1) (Nat.le_of_ble_eq_true rfl)
  rw [lg_entry_eq]
  generalize (lg_sl [.ref (adK 0)] ++ List.replicate (1 - (lg_sl [.ref (adK 0)]).length) Slot.unset).toArray = ls at hl ⊢
  have hl : lv_has ls 1 [(0, .ref (adK 0))] := hl
  refine va_gets hx hb hCo hS hown (hts _ jF_38) (fun _ z => z) jD_cod_0 ?_
  refine lv_if_eq (tgt := 13) hx hb jD_cod_3 (by decide) (fun q => absurd q (by decide)) (fun _ => ?_)
  refine lv_aload_n hx hb jD_cod_6 rfl (lv_at hl 0 rfl) ?_
  refine vk_getf hx hb ((hSt.1 0 (by decide)).2.1) hS hown (hts _ jF_15) (fun _ z => z) jD_cod_7 ?_
  refine lv_goto (tgt := 14) hx hb jD_cod_10 (by decide) ?_
  exact W.zret hx hb hr (by decide) (fun t ht _ => ⟨0, rfl, rfl, ht⟩) (fun q h => by cases h) jD_cod_14
set_option maxRecDepth 20000 in
theorem c_lat (l0 : Launch) (adK adV : Nat → Nat) : Met l0 jY_lat (Cond.code jY_lat jB_lat 1 (some .boolean) :: lw_g) (jRm 1) (va_Pc [.ref (adK 0)] (jP adK adV)) (vp_Si (fun r => r = 1)) 0 0 (fun _ => False) := by
  refine Met.ofW (cc := jB_lat) (maxL := 1) (ret := (some .boolean)) (by decide) rfl ?_
  intro p e s m args below meth c s₁ B hml hv
  obtain ⟨rfl, hF⟩ := hv
  have hx := B.exec
  have hb := B.bytes
  have hr := B.returns
  have hts : ∀ w ∈ lw_g, w.before _ s = true := fun w hw => atoms_spec (ws := Cond.code jY_lat jB_lat 1 (some .boolean) :: lw_g) B.pre w (List.mem_cons_of_mem _ hw)
  have hown : s.vm.findClass "java/lang/String" = some m.cls := findClass_of_methodNamed B.named
  have hlocks := B.notSynchronized
  have hS : va_S (fun _ => False) s.heap s.heap [] := va_S.rf
  have hF0 := hF
  obtain ⟨hSt, hCo, hZq, hR⟩ := hF
  have hl := lv_entry [.ref (adK 0)] (n := 1) (Nat.le_of_ble_eq_true rfl)
  rw [lg_entry_eq]
  generalize (lg_sl [.ref (adK 0)] ++ List.replicate (1 - (lg_sl [.ref (adK 0)]).length) Slot.unset).toArray = ls at hl ⊢
  have hl : lv_has ls 1 [(0, .ref (adK 0))] := hl
  refine va_gets hx hb hCo hS hown (hts _ jF_38) (fun _ z => z) jD_lat_0 ?_
  refine lv_if_eq (tgt := 17) hx hb jD_lat_3 (by decide) (fun q => absurd q (by decide)) (fun _ => ?_)
  refine lv_aload_n hx hb jD_lat_6 rfl (lv_at hl 0 rfl) ?_
  refine vk_getf hx hb ((hSt.1 0 (by decide)).2.1) hS hown (hts _ jF_15) (fun _ z => z) jD_lat_7 ?_
  refine lv_if_ne (tgt := 17) hx hb jD_lat_10 (by decide) (fun q => absurd rfl q) (fun _ => ?_)
  refine lv_iconst (v := 1) hx hb jD_lat_13 (by decide) ?_
  refine lv_goto (tgt := 18) hx hb jD_lat_14 (by decide) ?_
  exact W.zret hx hb hr (by decide) (fun t ht _ => ⟨1, rfl, rfl, ht⟩) (fun q h => by cases h) jD_lat_18
set_option maxRecDepth 20000 in
theorem c_len (l0 : Launch) (adK adV : Nat → Nat) : Met l0 jY_len (Cond.code jY_len jB_len 1 (some .int) :: lw_g) (jRm 2) (va_Pc [.ref (adK 0)] (jP adK adV)) (vp_Si (fun r => r = 116)) 0 0 (fun _ => False) := by
  refine Met.ofW (cc := jB_len) (maxL := 1) (ret := (some .int)) (by decide) rfl ?_
  intro p e s m args below meth c s₁ B hml hv
  obtain ⟨rfl, hF⟩ := hv
  have hx := B.exec
  have hb := B.bytes
  have hr := B.returns
  have hts : ∀ w ∈ lw_g, w.before _ s = true := fun w hw => atoms_spec (ws := Cond.code jY_len jB_len 1 (some .int) :: lw_g) B.pre w (List.mem_cons_of_mem _ hw)
  have hown : s.vm.findClass "java/lang/String" = some m.cls := findClass_of_methodNamed B.named
  have hlocks := B.notSynchronized
  have hS : va_S (fun _ => False) s.heap s.heap [] := va_S.rf
  have hF0 := hF
  obtain ⟨hSt, hCo, hZq, hR⟩ := hF
  have hl := lv_entry [.ref (adK 0)] (n := 1) (Nat.le_of_ble_eq_true rfl)
  rw [lg_entry_eq]
  generalize (lg_sl [.ref (adK 0)] ++ List.replicate (1 - (lg_sl [.ref (adK 0)]).length) Slot.unset).toArray = ls at hl ⊢
  have hl : lv_has ls 1 [(0, .ref (adK 0))] := hl
  refine lv_aload_n hx hb jD_len_0 rfl (lv_at hl 0 rfl) ?_
  refine vk_getf hx hb ((hSt.1 0 (by decide)).2.2.1) hS hown (hts _ jF_9) (fun _ z => z) jD_len_1 ?_
  refine va_tlen hx hb ((hSt.1 0 (by decide)).2.2.2) hS rfl jD_len_4 ?_
  refine lv_aload_n hx hb jD_len_5 rfl (lv_at hl 0 rfl) ?_
  refine vp_callSi (W.runV (As := []) (rest := [.int (Int32.ofNat (tLen.getD 0 0))]) ⟨hx, hb, hml, hown, hts⟩ (c_cod l0 adK adV) ⟨callB_of 0 hts (jG jC_cod) rfl rfl rfl (hts _ jN_cod) (hts _ jM_cod_335) (by decide +kernel) ⟨by decide, by decide⟩, hts _ jI_cod, hts _ jV_cod⟩ ⟨jBl adK adV _, vk_recv hSt (by decide) hS, fun U hU hW => ⟨rfl, jPre hF0 hU hW⟩⟩ rfl rfl hl.1 rfl (lv_room (by decide)) jD_len_6 ⟨Nat.le_refl _, Nat.le_refl _⟩) (fun r hr0 => ?_)
  subst hr0
  refine lv_ishr hx hb jD_len_9 ?_
  exact W.iret hx hb hr (fun t ht _ => ⟨_, rfl, by decide, ht⟩) (fun q h => by cases h) jD_len_10
set_option maxRecDepth 20000 in
theorem c_pre (l0 : Launch) (adK adV : Nat → Nat) (i n : Int32) (w : Value) (h1 : ¬ i < 0) (h2 : i < n) (hw : w.category = 1) : Met l0 jY_pre (Cond.code jY_pre jB_pre 3 (some .int) :: lw_g) (jRm 1) (va_Pc [.int i, .int n, w] (jP adK adV)) (vp_Si (fun _ => True)) 0 0 (fun _ => False) := by
  refine Met.ofW (cc := jB_pre) (maxL := 3) (ret := (some .int)) (by decide) rfl ?_
  intro p e s m args below meth c s₁ B hml hv
  obtain ⟨rfl, hF⟩ := hv
  have hx := B.exec
  have hb := B.bytes
  have hr := B.returns
  have hts : ∀ w ∈ lw_g, w.before _ s = true := fun w hw => atoms_spec (ws := Cond.code jY_pre jB_pre 3 (some .int) :: lw_g) B.pre w (List.mem_cons_of_mem _ hw)
  have hown : s.vm.findClass "jdk/internal/util/Preconditions" = some m.cls := findClass_of_methodNamed B.named
  have hlocks := B.notSynchronized
  have hS : va_S (fun _ => False) s.heap s.heap [] := va_S.rf
  have hF0 := hF
  obtain ⟨hSt, hCo, hZq, hR⟩ := hF
  have hl := lv_entry [.int i, .int n, w] (n := 3) (by simp only [lg_sl, List.flatMap_cons, List.flatMap_nil, hw]; simp [Value.category])
  rw [lg_entry_eq]
  generalize (lg_sl [.int i, .int n, w] ++ List.replicate (3 - (lg_sl [.int i, .int n, w]).length) Slot.unset).toArray = ls at hl ⊢
  have hl : lv_has ls 3 [(0, .int i), (1, .int n), (2, w)] := hl
  refine lv_iload_n hx hb jD_pre_0 rfl (lv_at hl 0 rfl) ?_
  refine lv_if_lt (tgt := 9) hx hb jD_pre_1 (by decide) (fun q => absurd q h1) (fun _ => ?_)
  refine lv_iload_n hx hb jD_pre_4 rfl (lv_at hl 0 rfl) ?_
  refine lv_iload_n hx hb jD_pre_5 rfl (lv_at hl 1 rfl) ?_
  refine lv_icmp_lt (tgt := 16) hx hb jD_pre_6 (by decide) (fun _ => ?_) (fun q => absurd h2 q)
  refine lv_iload_n hx hb jD_pre_16 rfl (lv_at hl 0 rfl) ?_
  exact W.iret hx hb hr (fun t ht _ => ⟨_, rfl, trivial, ht⟩) (fun q h => by cases h) jD_pre_17
set_option maxRecDepth 20000 in
theorem c_chk (l0 : Launch) (adK adV : Nat → Nat) (i n : Int32) (h1 : ¬ i < 0) (h2 : i < n) : Met l0 jY_chk (Cond.code jY_chk jB_chk 2 none :: lw_g) (jRm 2) (va_Pc [.int i, .int n] (jP adK adV)) (va_Sv (fun _ => True)) 0 0 (fun _ => False) := by
  refine Met.ofW (cc := jB_chk) (maxL := 2) (ret := none) (by decide) rfl ?_
  intro p e s m args below meth c s₁ B hml hv
  obtain ⟨rfl, hF⟩ := hv
  have hx := B.exec
  have hb := B.bytes
  have hr := B.returns
  have hts : ∀ w ∈ lw_g, w.before _ s = true := fun w hw => atoms_spec (ws := Cond.code jY_chk jB_chk 2 none :: lw_g) B.pre w (List.mem_cons_of_mem _ hw)
  have hown : s.vm.findClass "java/lang/String" = some m.cls := findClass_of_methodNamed B.named
  have hlocks := B.notSynchronized
  have hS : va_S (fun _ => False) s.heap s.heap [] := va_S.rf
  have hF0 := hF
  obtain ⟨hSt, hCo, hZq, hR⟩ := hF
  have hl := lv_entry [.int i, .int n] (n := 2) (Nat.le_of_ble_eq_true rfl)
  rw [lg_entry_eq]
  generalize (lg_sl [.int i, .int n] ++ List.replicate (2 - (lg_sl [.int i, .int n]).length) Slot.unset).toArray = ls at hl ⊢
  have hl : lv_has ls 2 [(0, .int i), (1, .int n)] := hl
  refine lv_iload_n hx hb jD_chk_0 rfl (lv_at hl 0 rfl) ?_
  refine lv_iload_n hx hb jD_chk_1 rfl (lv_at hl 1 rfl) ?_
  rcases hZq with hZ | ⟨t, hZ⟩
  · refine va_gets hx hb hZ hS hown (hts _ jF_1053) (fun _ z => z) jD_chk_2 ?_
    refine vp_callSi (W.runS (As := [.int i, .int n, .null]) (rest := []) ⟨hx, hb, hml, hown, hts⟩ (c_pre l0 adK adV i n _ h1 h2 rfl) ⟨callB_of 3 hts (jG jC_pre) rfl rfl rfl (hts _ jN_pre) (hts _ jM_pre_1059) (by decide +kernel) ⟨by decide, by decide⟩, hts _ jS_pre⟩ ⟨jBl adK adV _, fun U hU hW => ⟨rfl, jPre hF0 hU hW⟩⟩ rfl rfl hl.1 rfl (lv_room (by decide)) jD_chk_5 ⟨Nat.le_refl _, Nat.le_refl _⟩) (fun r _ => ?_)
    refine lv_pop hx hb jD_chk_8 rfl ?_
    exact W.vret hx hb hr (fun t ht _ => ⟨rfl, trivial, ht⟩) (fun q h => by cases h) jD_chk_9
  · refine va_gets hx hb hZ hS hown (hts _ jF_1053) (fun _ z => z) jD_chk_2 ?_
    refine vp_callSi (W.runS (As := [.int i, .int n, .ref t]) (rest := []) ⟨hx, hb, hml, hown, hts⟩ (c_pre l0 adK adV i n _ h1 h2 rfl) ⟨callB_of 3 hts (jG jC_pre) rfl rfl rfl (hts _ jN_pre) (hts _ jM_pre_1059) (by decide +kernel) ⟨by decide, by decide⟩, hts _ jS_pre⟩ ⟨jBl adK adV _, fun U hU hW => ⟨rfl, jPre hF0 hU hW⟩⟩ rfl rfl hl.1 rfl (lv_room (by decide)) jD_chk_5 ⟨Nat.le_refl _, Nat.le_refl _⟩) (fun r _ => ?_)
    refine lv_pop hx hb jD_chk_8 rfl ?_
    exact W.vret hx hb hr (fun t ht _ => ⟨rfl, trivial, ht⟩) (fun q h => by cases h) jD_chk_9
def tCh (v : Nat) : Int32 := ((((tByt.getD 0 []).getD v 0) &&& 255).toUInt32 % 65536).toInt32
set_option maxRecDepth 20000 in
theorem c_lch (l0 : Launch) (adK adV : Nat → Nat) (i : Int32) (h1 : ¬ i < 0) (h2 : i < 116) : Met l0 jY_lch (Cond.code jY_lch jB_lch 2 (some .char) :: lw_g) (jRm 3) (va_Pc [.ref (adV 0), .int i] (jP adK adV)) (vp_Si (fun r => r = tCh i.toNatClampNeg ∧ narrow .char (.int r) = .int r)) 0 0 (fun _ => False) := by
  refine Met.ofW (cc := jB_lch) (maxL := 2) (ret := (some .char)) (by decide) rfl ?_
  intro p e s m args below meth c s₁ B hml hv
  obtain ⟨rfl, hF⟩ := hv
  have hx := B.exec
  have hb := B.bytes
  have hr := B.returns
  have hts : ∀ w ∈ lw_g, w.before _ s = true := fun w hw => atoms_spec (ws := Cond.code jY_lch jB_lch 2 (some .char) :: lw_g) B.pre w (List.mem_cons_of_mem _ hw)
  have hown : s.vm.findClass "java/lang/StringLatin1" = some m.cls := findClass_of_methodNamed B.named
  have hlocks := B.notSynchronized
  have hS : va_S (fun _ => False) s.heap s.heap [] := va_S.rf
  have hF0 := hF
  obtain ⟨hSt, hCo, hZq, hR⟩ := hF
  have hl := lv_entry [.ref (adV 0), .int i] (n := 2) (Nat.le_of_ble_eq_true rfl)
  rw [lg_entry_eq]
  generalize (lg_sl [.ref (adV 0), .int i] ++ List.replicate (2 - (lg_sl [.ref (adV 0), .int i]).length) Slot.unset).toArray = ls at hl ⊢
  have hl : lv_has ls 2 [(0, .ref (adV 0)), (1, .int i)] := hl
  have hin : vp_in i (tLen.getD 0 0) := vp_in_iff.mpr ⟨by have := Int32.not_lt.mp h1; simpa using Int32.le_iff_toInt_le.mp this, by have := Int32.lt_iff_toInt_lt.mp h2; exact this⟩
  refine lv_iload_n hx hb jD_lch_0 rfl (lv_at hl 1 rfl) ?_
  refine lv_aload_n hx hb jD_lch_1 rfl (lv_at hl 0 rfl) ?_
  refine va_tlen hx hb ((hSt.1 0 (by decide)).2.2.2) hS rfl jD_lch_2 ?_
  refine va_csv (W.runS (As := [.int i, .int (Int32.ofNat (tLen.getD 0 0))]) (rest := []) ⟨hx, hb, hml, hown, hts⟩ (c_chk l0 adK adV i (Int32.ofNat (tLen.getD 0 0)) h1 h2) ⟨callB_of 2 hts (jG jC_chk) rfl rfl rfl (hts _ jN_chk) (hts _ jM_chk_9) (by decide +kernel) ⟨by decide, by decide⟩, hts _ jS_chk⟩ ⟨jBl adK adV _, fun U hU hW => ⟨rfl, jPre hF0 hU hW⟩⟩ rfl rfl hl.1 rfl (lv_room (by decide)) jD_lch_3 ⟨Nat.le_refl _, Nat.le_refl _⟩) (fun _ => ?_)
  refine lv_aload_n hx hb jD_lch_6 rfl (lv_at hl 0 rfl) ?_
  refine lv_iload_n hx hb jD_lch_7 rfl (lv_at hl 1 rfl) ?_
  refine va_tb hx hb ((hSt.1 0 (by decide)).2.2.2) hS hin rfl jD_lch_8 ?_
  refine lv_sipush (v := 255) hx hb jD_lch_9 (by decide) ?_
  refine lv_iand hx hb jD_lch_12 ?_
  refine lv_i2c hx hb jD_lch_13 rfl ?_
  exact W.zret hx hb hr (pk_nc _) (fun t ht _ => ⟨_, rfl, ⟨rfl, pk_nc _⟩, ht⟩) (fun q h => by cases h) jD_lch_14
set_option maxRecDepth 20000 in
theorem c_chr (l0 : Launch) (adK adV : Nat → Nat) (i : Int32) (h1 : ¬ i < 0) (h2 : i < 116) : Met l0 jY_chr (Cond.code jY_chr jB_chr 2 (some .char) :: lw_g) (jRm 4) (va_Pc [.ref (adK 0), .int i] (jP adK adV)) (vp_Si (fun r => r = tCh i.toNatClampNeg)) 0 0 (fun _ => False) := by
  refine Met.ofW (cc := jB_chr) (maxL := 2) (ret := (some .char)) (by decide) rfl ?_
  intro p e s m args below meth c s₁ B hml hv
  obtain ⟨rfl, hF⟩ := hv
  have hx := B.exec
  have hb := B.bytes
  have hr := B.returns
  have hts : ∀ w ∈ lw_g, w.before _ s = true := fun w hw => atoms_spec (ws := Cond.code jY_chr jB_chr 2 (some .char) :: lw_g) B.pre w (List.mem_cons_of_mem _ hw)
  have hown : s.vm.findClass "java/lang/String" = some m.cls := findClass_of_methodNamed B.named
  have hlocks := B.notSynchronized
  have hS : va_S (fun _ => False) s.heap s.heap [] := va_S.rf
  have hF0 := hF
  obtain ⟨hSt, hCo, hZq, hR⟩ := hF
  have hl := lv_entry [.ref (adK 0), .int i] (n := 2) (Nat.le_of_ble_eq_true rfl)
  rw [lg_entry_eq]
  generalize (lg_sl [.ref (adK 0), .int i] ++ List.replicate (2 - (lg_sl [.ref (adK 0), .int i]).length) Slot.unset).toArray = ls at hl ⊢
  have hl : lv_has ls 2 [(0, .ref (adK 0)), (1, .int i)] := hl
  refine lv_aload_n hx hb jD_chr_0 rfl (lv_at hl 0 rfl) ?_
  refine vp_callSi (W.runV (As := []) (rest := []) ⟨hx, hb, hml, hown, hts⟩ (c_lat l0 adK adV) ⟨callB_of 0 hts (jG jC_lat) rfl rfl rfl (hts _ jN_lat) (hts _ jM_lat_492) (by decide +kernel) ⟨by decide, by decide⟩, hts _ jI_lat, hts _ jV_lat⟩ ⟨jBl adK adV _, vk_recv hSt (by decide) hS, fun U hU hW => ⟨rfl, jPre hF0 hU hW⟩⟩ rfl rfl hl.1 rfl (lv_room (by decide)) jD_chr_1 ⟨Nat.le_refl _, Nat.le_refl _⟩) (fun r hr0 => ?_)
  subst hr0
  refine lv_if_eq (tgt := 16) hx hb jD_chr_4 (by decide) (fun q => absurd q (by decide)) (fun _ => ?_)
  refine lv_aload_n hx hb jD_chr_7 rfl (lv_at hl 0 rfl) ?_
  refine vk_getf hx hb ((hSt.1 0 (by decide)).2.2.1) hS hown (hts _ jF_9) (fun _ z => z) jD_chr_8 ?_
  refine lv_iload_n hx hb jD_chr_11 rfl (lv_at hl 1 rfl) ?_
  refine vp_callSi (W.runS (As := [.ref (adV 0), .int i]) (rest := []) ⟨hx, hb, hml, hown, hts⟩ (c_lch l0 adK adV i h1 h2) ⟨callB_of 2 hts (jG jC_lch) rfl rfl rfl (hts _ jN_lch) (hts _ jM_lch_495) (by decide +kernel) ⟨by decide, by decide⟩, hts _ jS_lch⟩ ⟨jBl adK adV _, fun U hU hW => ⟨rfl, jPre hF0 hU hW⟩⟩ rfl rfl hl.1 rfl (lv_room (by decide)) jD_chr_12 ⟨Nat.le_refl _, Nat.le_refl _⟩) (fun r hq => ?_)
  exact W.zret hx hb hr hq.2 (fun t ht _ => ⟨_, rfl, hq.1, ht⟩) (fun q h => by cases h) jD_chr_15
