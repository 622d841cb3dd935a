/-! THE LAW's loop -/
section LWL
variable {p : Program} {l : Launch} {e : Env} {s : State} {m : MethodId} {below : List Frame} {meth : Method} {c : Code} {b L : Nat} {xs : Nat → Int32} {adK adV : Nat → Nat} {D : va_G}
set_option maxHeartbeats 4000000 in
theorem law_loop (C0 : lX p s m meth c b L xs adK adV) (hL : L ≤ 3072) {ax am cs sl : Nat} (hcs : cs ≤ 600000) (hsl : sl ≤ 7302250) : ∀ (n : Nat) (i : Int32) (mm : dM) (H : Heap) (locs : List Loc) (ws : va_W) (tys : List (ClassId × FieldType)) (ls : Array Slot), Ok mm → Rf mm → lWc D s mm H locs ws tys → (ws.map Prod.fst)[0]? = some ax → (ws.map Prod.fst)[70]? = some am → lv_has ls 4 [(0, .ref b), (1, .ref ax), (2, .ref am), (3, .int i)] → 0 ≤ i.toInt ∧ i.toInt ≤ L → (L : Int) - i.toInt < n → W p l e room_1 s m #[Value.ref b] below meth c H locs cs sl (lw_Z below #[Value.ref b] s) (F0 m 18 ls []) := by
  intro n
  induction n with
  | zero => intro i mm H locs ws tys ls hO hT hW hax ham hl h0 hμ; exfalso; omega
  | succ n ih =>
    intro i mm H locs ws tys ls hO hT hW hax ham hl h0 hμ
    obtain ⟨⟨hx, hb, hr, hml, hown, hts, hX, hbl, hlocks, hgv⟩, hXt, hFz⟩ := id C0
    have hbA : ¬ (fun q : Nat => s.heap.size ≤ q) b := Nat.not_le.mpr hbl
    have hS := hW.2.2.2.1
    have eL : (Int32.ofNat L).toInt = (L : Int) := Int32.toInt_ofNat_of_lt (by omega)
    have f6 := dSubE (X := (L : Int)) (Y := 6) (x := Int32.ofNat L) (y := (6 : Int32)) eL (by decide) (by omega) (by omega)
    refine lv_iload_n hx hb dl_18 rfl (lv_at hl 3 rfl) ?_
    refine lv_aload_n hx hb dl_19 rfl (lv_at hl 0 rfl) ?_
    refine va_slen hx hb hX hbl hbA hS dl_20 ?_
    refine lv_bipush (v := 6) hx hb dl_21 (by decide) ?_
    refine lv_isub hx hb dl_23 ?_
    refine lv_icmp_gt (tgt := 1197) hx hb dl_24 (by decide) (fun _ => ?_) (fun q => ?_)
    · refine lv_iconst (v := 1) hx hb dl_1197 (by decide) ?_
      refine va_forget hS.2.2 (W.widen (k := 600000) (n := 7302250) hcs hsl ?_)
      exact lw_ret hx hb hr hlocks dl_1198
    · rw [Int32.lt_iff_toInt_lt] at q
      have hi : 0 ≤ i.toInt ∧ i.toInt + 6 ≤ L ∧ L ≤ 3072 := by omega
      have fi := dAddE (X := i.toInt) (Y := 6) (x := i) (y := (6 : Int32)) rfl (by decide) (by omega) (by omega)
      have KE : ∀ (m2 : dM) (H2 : Heap) (locs2 : List Loc) (ws2 : va_W) (tys2 : List (ClassId × FieldType)), Ok m2 → Rf m2 → ws2.map Prod.fst = ws.map Prod.fst → lWc D s m2 H2 locs2 ws2 tys2 → W p l e room_1 s m #[Value.ref b] below meth c H2 locs2 cs sl (lw_Z below #[Value.ref b] s) (F0 m 1191 ls []) := by
        intro m2 H2 locs2 ws2 tys2 O2 hT2 hp2 hW2
        refine lv_iinc (v := i + 6) (lv' := [(3, .int (i + 6)), (0, .ref b), (1, .ref ax), (2, .ref am)]) hx hb dl_1191 hl (k := 3) rfl rfl (by decide) rfl (fun ls2 hl2 => ?_)
        refine lv_goto (tgt := 18) hx hb dl_1194 (by decide) ?_
        have hl3 : lv_has ls2 4 [(0, .ref b), (1, .ref ax), (2, .ref am), (3, .int (i + 6))] := lv_sub hl2 [1, 2, 3, 0] rfl
        exact ih (i + 6) m2 H2 locs2 ws2 tys2 ls2 O2 hT2 hW2 (by rw [hp2]; exact hax) (by rw [hp2]; exact ham) hl3 (by omega) (by omega)
      refine lv_aload_n hx hb dl_27 rfl (lv_at hl 0 rfl) ?_
      refine lv_iload_n hx hb dl_28 rfl (lv_at hl 3 rfl) ?_
      refine va_sld hx hb hX hbl hbA hS (vp_in_iff.mpr ⟨by omega, by omega⟩) dl_29 ?_
      refine lv_bipush (v := 63) hx hb dl_30 (by decide) ?_
      refine lv_iand hx hb dl_32 ?_
      refine lv_topi (fun x0 _ => ?_)
      rcases (show (x0.toInt < 0 ∨ 34 < x0.toInt) ∨ x0.toInt = 0 ∨ x0.toInt = 1 ∨ x0.toInt = 2 ∨ x0.toInt = 3 ∨ x0.toInt = 4 ∨ x0.toInt = 5 ∨ x0.toInt = 6 ∨ x0.toInt = 7 ∨ x0.toInt = 8 ∨ x0.toInt = 9 ∨ x0.toInt = 10 ∨ x0.toInt = 11 ∨ x0.toInt = 12 ∨ x0.toInt = 13 ∨ x0.toInt = 14 ∨ x0.toInt = 15 ∨ x0.toInt = 16 ∨ x0.toInt = 17 ∨ x0.toInt = 18 ∨ x0.toInt = 19 ∨ x0.toInt = 20 ∨ x0.toInt = 21 ∨ x0.toInt = 22 ∨ x0.toInt = 23 ∨ x0.toInt = 24 ∨ x0.toInt = 25 ∨ x0.toInt = 26 ∨ x0.toInt = 27 ∨ x0.toInt = 28 ∨ x0.toInt = 29 ∨ x0.toInt = 30 ∨ x0.toInt = 31 ∨ x0.toInt = 32 ∨ x0.toInt = 33 ∨ x0.toInt = 34 by omega) with hj | hj | hj | hj | hj | hj | hj | hj | hj | hj | hj | hj | hj | hj | hj | hj | hj | hj | hj | hj | hj | hj | hj | hj | hj | hj | hj | hj | hj | hj | hj | hj | hj | hj | hj | hj
      · exact lv_tableOut (tgt := 1191) hx hb dl_33 hj (by decide) (KE mm H locs ws tys hO hT rfl hW)
      · exact lv_tableIn (tgt := 188) hx hb dl_33 (by omega) (by omega) (off := 155) (by rw [hj]; rfl) (by decide) (law_feed C0 hO hT hW hax ham hl hi hcs hsl KE)
      · exact lv_tableIn (tgt := 251) hx hb dl_33 (by omega) (by omega) (off := 218) (by rw [hj]; rfl) (by decide) (law_back C0 hO hT hW hax ham hl hi hcs hsl KE)
      · exact lv_tableIn (tgt := 274) hx hb dl_33 (by omega) (by omega) (off := 241) (by rw [hj]; rfl) (by decide) (law_read C0 hO hT hW hax ham hl hi hcs hsl KE)
      · exact lv_tableIn (tgt := 287) hx hb dl_33 (by omega) (by omega) (off := 254) (by rw [hj]; rfl) (by decide) (law_place C0 hO hT hW hax ham hl hi hcs hsl KE)
      · exact lv_tableIn (tgt := 300) hx hb dl_33 (by omega) (by omega) (off := 267) (by rw [hj]; rfl) (by decide) (law_flat C0 hO hT hW hax ham hl hi hcs hsl KE)
      · exact lv_tableIn (tgt := 333) hx hb dl_33 (by omega) (by omega) (off := 300) (by rw [hj]; rfl) (by decide) (law_wire C0 hO hT hW hax ham hl hi hcs hsl KE)
      · exact lv_tableIn (tgt := 366) hx hb dl_33 (by omega) (by omega) (off := 333) (by rw [hj]; rfl) (by decide) (law_use C0 hO hT hW hax ham hl hi hcs hsl KE)
      · refine lv_tableIn (tgt := 399) hx hb dl_33 (by omega) (by omega) (off := 366) (by rw [hj]; rfl) (by decide) ?_
        by_cases hz : xs (i + Int32.ofInt ((2 : Nat) : Int)).toNatClampNeg = 0
        · exact law_agree0 C0 hz hO hT hW hax ham hl hi hcs hsl KE
        · exact law_agree1 C0 hz hO hT hW hax ham hl hi hcs hsl KE
      · exact lv_tableIn (tgt := 448) hx hb dl_33 (by omega) (by omega) (off := 415) (by rw [hj]; rfl) (by decide) (law_mend C0 hO hT hW hax ham hl hi hcs hsl KE)
      · exact lv_tableIn (tgt := 471) hx hb dl_33 (by omega) (by omega) (off := 438) (by rw [hj]; rfl) (by decide) (law_thicken C0 hO hT hW hax ham hl hi hcs hsl KE)
      · refine lv_tableIn (tgt := 494) hx hb dl_33 (by omega) (by omega) (off := 461) (by rw [hj]; rfl) (by decide) ?_
        by_cases hz : xs (i + Int32.ofInt ((2 : Nat) : Int)).toNatClampNeg = 0
        · exact law_pin0 C0 hz hO hT hW hax ham hl hi hcs hsl KE
        · exact law_pin1 C0 hz hO hT hW hax ham hl hi hcs hsl KE
      · exact lv_tableIn (tgt := 543) hx hb dl_33 (by omega) (by omega) (off := 510) (by rw [hj]; rfl) (by decide) (law_hours C0 hO hT hW hax ham hl hi hcs hsl KE)
      · exact lv_tableIn (tgt := 566) hx hb dl_33 (by omega) (by omega) (off := 533) (by rw [hj]; rfl) (by decide) (law_undo C0 hO hT hW hax ham hl hi hcs hsl KE)
      · exact lv_tableIn (tgt := 579) hx hb dl_33 (by omega) (by omega) (off := 546) (by rw [hj]; rfl) (by decide) (law_way C0 hO hT hW hax ham hl hi hcs hsl KE)
      · exact lv_tableIn (tgt := 612) hx hb dl_33 (by omega) (by omega) (off := 579) (by rw [hj]; rfl) (by decide) (law_peak C0 hO hT hW hax ham hl hi hcs hsl KE)
      · exact lv_tableIn (tgt := 655) hx hb dl_33 (by omega) (by omega) (off := 622) (by rw [hj]; rfl) (by decide) (law_first C0 hO hT hW hax ham hl hi hcs hsl KE)
      · exact lv_tableIn (tgt := 678) hx hb dl_33 (by omega) (by omega) (off := 645) (by rw [hj]; rfl) (by decide) (law_together C0 hO hT hW hax ham hl hi hcs hsl KE)
      · exact lv_tableIn (tgt := 701) hx hb dl_33 (by omega) (by omega) (off := 668) (by rw [hj]; rfl) (by decide) (law_when C0 hO hT hW hax ham hl hi hcs hsl KE)
      · exact lv_tableIn (tgt := 724) hx hb dl_33 (by omega) (by omega) (off := 691) (by rw [hj]; rfl) (by decide) (law_thick C0 hO hT hW hax ham hl hi hcs hsl KE)
      · exact lv_tableIn (tgt := 747) hx hb dl_33 (by omega) (by omega) (off := 714) (by rw [hj]; rfl) (by decide) (law_cut C0 hO hT hW hax ham hl hi hcs hsl KE)
      · exact lv_tableIn (tgt := 780) hx hb dl_33 (by omega) (by omega) (off := 747) (by rw [hj]; rfl) (by decide) (law_share C0 hO hT hW hax ham hl hi hcs hsl KE)
      · exact lv_tableIn (tgt := 813) hx hb dl_33 (by omega) (by omega) (off := 780) (by rw [hj]; rfl) (by decide) (law_without C0 hO hT hW hax ham hl hi hcs hsl KE)
      · exact lv_tableIn (tgt := 836) hx hb dl_33 (by omega) (by omega) (off := 803) (by rw [hj]; rfl) (by decide) (law_needed C0 hO hT hW hax ham hl hi hcs hsl KE)
      · exact lv_tableIn (tgt := 849) hx hb dl_33 (by omega) (by omega) (off := 816) (by rw [hj]; rfl) (by decide) (law_hottest C0 hO hT hW hax ham hl hi hcs hsl KE)
      · exact lv_tableIn (tgt := 872) hx hb dl_33 (by omega) (by omega) (off := 839) (by rw [hj]; rfl) (by decide) (law_clash C0 hO hT hW hax ham hl hi hcs hsl KE)
      · exact lv_tableIn (tgt := 905) hx hb dl_33 (by omega) (by omega) (off := 872) (by rw [hj]; rfl) (by decide) (law_then C0 hO hT hW hax ham hl hi hcs hsl KE)
      · exact lv_tableIn (tgt := 938) hx hb dl_33 (by omega) (by omega) (off := 905) (by rw [hj]; rfl) (by decide) (law_litIn C0 hO hT hW hax ham hl hi hcs hsl KE)
      · exact lv_tableIn (tgt := 971) hx hb dl_33 (by omega) (by omega) (off := 938) (by rw [hj]; rfl) (by decide) (law_year C0 hO hT hW hax ham hl hi hcs hsl KE)
      · refine lv_tableIn (tgt := 1004) hx hb dl_33 (by omega) (by omega) (off := 971) (by rw [hj]; rfl) (by decide) ?_
        by_cases hz : xs (i + Int32.ofInt ((2 : Nat) : Int)).toNatClampNeg = 0
        · exact law_tell0 C0 hz hO hT hW hax ham hl hi hcs hsl KE
        · exact law_tell1 C0 hz hO hT hW hax ham hl hi hcs hsl KE
      · exact lv_tableIn (tgt := 1053) hx hb dl_33 (by omega) (by omega) (off := 1020) (by rw [hj]; rfl) (by decide) (law_forget C0 hO hT hW hax ham hl hi hcs hsl KE)
      · exact lv_tableIn (tgt := 1066) hx hb dl_33 (by omega) (by omega) (off := 1033) (by rw [hj]; rfl) (by decide) (law_went C0 hO hT hW hax ham hl hi hcs hsl KE)
      · exact lv_tableIn (tgt := 1099) hx hb dl_33 (by omega) (by omega) (off := 1066) (by rw [hj]; rfl) (by decide) (law_ask C0 hO hT hW hax ham hl hi hcs hsl KE)
      · exact lv_tableIn (tgt := 1122) hx hb dl_33 (by omega) (by omega) (off := 1089) (by rw [hj]; rfl) (by decide) (law_hold C0 hO hT hW hax ham hl hi hcs hsl KE)
      · exact lv_tableIn (tgt := 1145) hx hb dl_33 (by omega) (by omega) (off := 1112) (by rw [hj]; rfl) (by decide) (law_restore C0 hO hT hW hax ham hl hi hcs hsl KE)
      · exact lv_tableIn (tgt := 1168) hx hb dl_33 (by omega) (by omega) (off := 1135) (by rw [hj]; rfl) (by decide) (law_count C0 hO hT hW hax ham hl hi hcs hsl KE)
end LWL
