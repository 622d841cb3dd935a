/-! THE LAW, a case each -/
section LWC
variable {p : Program} {l : Launch} {e : Env} {s : State} {m : MethodId} {below : List Frame} {meth : Method} {c : Code} {b : Nat} {xs : Nat → Int32} {adK adV : Nat → Nat} {D : va_G}
theorem lw_rest (w : Option Value) : ((w.toList ++ []).map fun v : Value => v.category).sum ≤ 8 := by
  cases w with
  | none => decide
  | some v =>
    have := lv_cat v
    simp
    omega
theorem lw_ad {ws ws' : va_W} {k a : Nat} (h : (ws.map Prod.fst)[k]? = some a) (hp : ∃ t, ws'.map Prod.fst = ws.map Prod.fst ++ t) : (ws'.map Prod.fst)[k]? = some a := by
  obtain ⟨t, ht⟩ := hp
  rw [ht, List.getElem?_append_left (List.getElem?_eq_some_iff.mp h).1]
  exact h
theorem law_feed {sr : List (Int × Int)} {σ : Nat → Int} (hs : eSg sr σ) {as : List eV} (hP : PairOk adK adV l sr 139 1 as) (C0 : lX p s m meth c b xs adK adV) {H : Heap} {locs : List Loc} {ws : va_W} {tys : List (ClassId × FieldType)} {ls : Array Slot} {ax am cs sl : Nat} (hW : lWd D s σ hFresh H locs ws tys) (hax : (ws.map Prod.fst)[0]? = some ax) (ham : (ws.map Prod.fst)[70]? = some am) (hl : lv_has ls 4 [(0, .ref b), (1, .ref ax), (2, .ref am), (3, .int 0)]) (hcs : cs ≤ 600000) (hsl : sl ≤ 7302250) (has : ∀ ad : List Nat, eAll (eOk ad σ) as [.int (xs 1), .int (xs 2), .int (xs 3), .int (xs 4), .int (xs 5)]) : W p l e room_1 s m #[Value.ref b] below meth c H locs cs sl (lw_Z below #[Value.ref b] s) (F0 m 188 ls []) := by
  obtain ⟨⟨hx, hb, -, -, -, -, -, -, -, -⟩, -, -⟩ := id C0
  obtain ⟨os, hc1, hc2⟩ := hP
  refine lv_aload_n hx hb dl_188 rfl (lv_at hl 1 rfl) ?_
  refine law_arg (k := 1) C0 hW.2.2.2.1 hl (by decide) dl_189 dl_190 dl_191 dl_192 dl_193 ?_
  refine law_arg (k := 2) C0 hW.2.2.2.1 hl (by decide) dl_194 dl_195 dl_196 dl_197 dl_198 ?_
  refine law_arg (k := 3) C0 hW.2.2.2.1 hl (by decide) dl_199 dl_200 dl_201 dl_202 dl_203 ?_
  refine law_arg (k := 4) C0 hW.2.2.2.1 hl (by decide) dl_204 dl_205 dl_206 dl_207 dl_208 ?_
  refine law_arg (k := 5) C0 hW.2.2.2.1 hl (by decide) dl_209 dl_210 dl_211 dl_212 dl_213 ?_
  refine law_call (N := tM139) (Y := tY139) (vs := [.int (xs 1), .int (xs 2), .int (xs 3), .int (xs 4), .int (xs 5)]) (rest := []) C0 hs hW hl.1 hc1 rfl rfl rfl rfl rfl (kIs_ok (c := 3067) (by decide +kernel)) (kIs_ok (c := 3068) (by decide +kernel)) (kIs_ok (c := 3069) (by decide +kernel)) (d0 := 11) rfl rfl hax (has _) (by decide) hcs hsl dl_214 (fun o ho w H1 locs1 ws1 tys1 hov hpre hW1 => ?_)
  obtain ⟨hr, os2, hc3, hsm⟩ := hc2 o ho
  refine lv_aload_n hx hb dl_217 rfl (lv_at hl 2 rfl) ?_
  refine law_arg (k := 1) C0 hW1.2.2.2.1 hl (by decide) dl_218 dl_219 dl_220 dl_221 dl_222 ?_
  refine law_arg (k := 2) C0 hW1.2.2.2.1 hl (by decide) dl_223 dl_224 dl_225 dl_226 dl_227 ?_
  refine law_arg (k := 3) C0 hW1.2.2.2.1 hl (by decide) dl_228 dl_229 dl_230 dl_231 dl_232 ?_
  refine law_arg (k := 4) C0 hW1.2.2.2.1 hl (by decide) dl_233 dl_234 dl_235 dl_236 dl_237 ?_
  refine law_arg (k := 5) C0 hW1.2.2.2.1 hl (by decide) dl_238 dl_239 dl_240 dl_241 dl_242 ?_
  refine law_call (N := tM1) (Y := tY1) (vs := [.int (xs 1), .int (xs 2), .int (xs 3), .int (xs 4), .int (xs 5)]) (rest := w.toList ++ []) C0 hs hW1 hl.1 hc3 rfl rfl rfl rfl rfl (kIs_ok (c := 6238) (by decide +kernel)) (kIs_ok (c := 6239) (by decide +kernel)) (kIs_ok (c := 7000) (by decide +kernel)) (d0 := 12) rfl hr (lw_ad ham hpre) (has _) (lw_rest w) hcs hsl dl_243 (fun o2 ho2 w2 H2 locs2 ws2 tys2 hov2 hpre2 hW2 => ?_)
  obtain ⟨z, rfl, rfl⟩ := eSm_ok (hsm o2 ho2) hov hov2
  exact lv_icmp_eq (tgt := 1191) hx hb dl_246 (by decide) (fun _ => law_end C0 hW2.2.2.2.1 hl hcs hsl) (fun q => absurd rfl q)
theorem law_back {sr : List (Int × Int)} {σ : Nat → Int} (hs : eSg sr σ) {as : List eV} (hP : PairOk adK adV l sr 141 3 as) (C0 : lX p s m meth c b xs adK adV) {H : Heap} {locs : List Loc} {ws : va_W} {tys : List (ClassId × FieldType)} {ls : Array Slot} {ax am cs sl : Nat} (hW : lWd D s σ hFresh H locs ws tys) (hax : (ws.map Prod.fst)[0]? = some ax) (ham : (ws.map Prod.fst)[70]? = some am) (hl : lv_has ls 4 [(0, .ref b), (1, .ref ax), (2, .ref am), (3, .int 0)]) (hcs : cs ≤ 600000) (hsl : sl ≤ 7302250) (has : ∀ ad : List Nat, eAll (eOk ad σ) as [.int (xs 1)]) : W p l e room_1 s m #[Value.ref b] below meth c H locs cs sl (lw_Z below #[Value.ref b] s) (F0 m 251 ls []) := by
  obtain ⟨⟨hx, hb, -, -, -, -, -, -, -, -⟩, -, -⟩ := id C0
  obtain ⟨os, hc1, hc2⟩ := hP
  refine lv_aload_n hx hb dl_251 rfl (lv_at hl 1 rfl) ?_
  refine law_arg (k := 1) C0 hW.2.2.2.1 hl (by decide) dl_252 dl_253 dl_254 dl_255 dl_256 ?_
  refine law_call (N := tM141) (Y := tY141) (vs := [.int (xs 1)]) (rest := []) C0 hs hW hl.1 hc1 rfl rfl rfl rfl rfl (kIs_ok (c := 3075) (by decide +kernel)) (kIs_ok (c := 3076) (by decide +kernel)) (kIs_ok (c := 3077) (by decide +kernel)) (d0 := 11) rfl rfl hax (has _) (by decide) hcs hsl dl_257 (fun o ho w H1 locs1 ws1 tys1 hov hpre hW1 => ?_)
  obtain ⟨hr, os2, hc3, hsm⟩ := hc2 o ho
  refine lv_aload_n hx hb dl_260 rfl (lv_at hl 2 rfl) ?_
  refine law_arg (k := 1) C0 hW1.2.2.2.1 hl (by decide) dl_261 dl_262 dl_263 dl_264 dl_265 ?_
  refine law_call (N := tM3) (Y := tY3) (vs := [.int (xs 1)]) (rest := w.toList ++ []) C0 hs hW1 hl.1 hc3 rfl rfl rfl rfl rfl (kIs_ok (c := 7006) (by decide +kernel)) (kIs_ok (c := 7007) (by decide +kernel)) (kIs_ok (c := 7008) (by decide +kernel)) (d0 := 12) rfl hr (lw_ad ham hpre) (has _) (lw_rest w) hcs hsl dl_266 (fun o2 ho2 w2 H2 locs2 ws2 tys2 hov2 hpre2 hW2 => ?_)
  obtain ⟨z, rfl, rfl⟩ := eSm_ok (hsm o2 ho2) hov hov2
  exact lv_icmp_eq (tgt := 1191) hx hb dl_269 (by decide) (fun _ => law_end C0 hW2.2.2.2.1 hl hcs hsl) (fun q => absurd rfl q)
theorem law_read {sr : List (Int × Int)} {σ : Nat → Int} (hs : eSg sr σ) {as : List eV} (hP : PairOk adK adV l sr 142 11 as) (C0 : lX p s m meth c b xs adK adV) {H : Heap} {locs : List Loc} {ws : va_W} {tys : List (ClassId × FieldType)} {ls : Array Slot} {ax am cs sl : Nat} (hW : lWd D s σ hFresh H locs ws tys) (hax : (ws.map Prod.fst)[0]? = some ax) (ham : (ws.map Prod.fst)[70]? = some am) (hl : lv_has ls 4 [(0, .ref b), (1, .ref ax), (2, .ref am), (3, .int 0)]) (hcs : cs ≤ 600000) (hsl : sl ≤ 7302250) (has : ∀ ad : List Nat, eAll (eOk ad σ) as []) : W p l e room_1 s m #[Value.ref b] below meth c H locs cs sl (lw_Z below #[Value.ref b] s) (F0 m 274 ls []) := by
  obtain ⟨⟨hx, hb, -, -, -, -, -, -, -, -⟩, -, -⟩ := id C0
  obtain ⟨os, hc1, hc2⟩ := hP
  refine lv_aload_n hx hb dl_274 rfl (lv_at hl 1 rfl) ?_
  refine law_call (N := tM142) (Y := tY142) (vs := []) (rest := []) C0 hs hW hl.1 hc1 rfl rfl rfl rfl rfl (kIs_ok (c := 3079) (by decide +kernel)) (kIs_ok (c := 3080) (by decide +kernel)) (kIs_ok (c := 3081) (by decide +kernel)) (d0 := 11) rfl rfl hax (has _) (by decide) hcs hsl dl_275 (fun o ho w H1 locs1 ws1 tys1 hov hpre hW1 => ?_)
  obtain ⟨hr, os2, hc3, hsm⟩ := hc2 o ho
  refine lv_aload_n hx hb dl_278 rfl (lv_at hl 2 rfl) ?_
  refine law_call (N := tM11) (Y := tY11) (vs := []) (rest := w.toList ++ []) C0 hs hW1 hl.1 hc3 rfl rfl rfl rfl rfl (kIs_ok (c := 7010) (by decide +kernel)) (kIs_ok (c := 7011) (by decide +kernel)) (kIs_ok (c := 7012) (by decide +kernel)) (d0 := 12) rfl hr (lw_ad ham hpre) (has _) (lw_rest w) hcs hsl dl_279 (fun o2 ho2 w2 H2 locs2 ws2 tys2 hov2 hpre2 hW2 => ?_)
  obtain ⟨z, rfl, rfl⟩ := eSm_ok (hsm o2 ho2) hov hov2
  exact lv_icmp_eq (tgt := 1191) hx hb dl_282 (by decide) (fun _ => law_end C0 hW2.2.2.2.1 hl hcs hsl) (fun q => absurd rfl q)
theorem law_place {sr : List (Int × Int)} {σ : Nat → Int} (hs : eSg sr σ) {as : List eV} (hP : PairOk adK adV l sr 143 12 as) (C0 : lX p s m meth c b xs adK adV) {H : Heap} {locs : List Loc} {ws : va_W} {tys : List (ClassId × FieldType)} {ls : Array Slot} {ax am cs sl : Nat} (hW : lWd D s σ hFresh H locs ws tys) (hax : (ws.map Prod.fst)[0]? = some ax) (ham : (ws.map Prod.fst)[70]? = some am) (hl : lv_has ls 4 [(0, .ref b), (1, .ref ax), (2, .ref am), (3, .int 0)]) (hcs : cs ≤ 600000) (hsl : sl ≤ 7302250) (has : ∀ ad : List Nat, eAll (eOk ad σ) as []) : W p l e room_1 s m #[Value.ref b] below meth c H locs cs sl (lw_Z below #[Value.ref b] s) (F0 m 287 ls []) := by
  obtain ⟨⟨hx, hb, -, -, -, -, -, -, -, -⟩, -, -⟩ := id C0
  obtain ⟨os, hc1, hc2⟩ := hP
  refine lv_aload_n hx hb dl_287 rfl (lv_at hl 1 rfl) ?_
  refine law_call (N := tM143) (Y := tY143) (vs := []) (rest := []) C0 hs hW hl.1 hc1 rfl rfl rfl rfl rfl (kIs_ok (c := 4061) (by decide +kernel)) (kIs_ok (c := 4062) (by decide +kernel)) (kIs_ok (c := 4063) (by decide +kernel)) (d0 := 11) rfl rfl hax (has _) (by decide) hcs hsl dl_288 (fun o ho w H1 locs1 ws1 tys1 hov hpre hW1 => ?_)
  obtain ⟨hr, os2, hc3, hsm⟩ := hc2 o ho
  refine lv_aload_n hx hb dl_291 rfl (lv_at hl 2 rfl) ?_
  refine law_call (N := tM12) (Y := tY12) (vs := []) (rest := w.toList ++ []) C0 hs hW1 hl.1 hc3 rfl rfl rfl rfl rfl (kIs_ok (c := 7116) (by decide +kernel)) (kIs_ok (c := 7117) (by decide +kernel)) (kIs_ok (c := 7118) (by decide +kernel)) (d0 := 12) rfl hr (lw_ad ham hpre) (has _) (lw_rest w) hcs hsl dl_292 (fun o2 ho2 w2 H2 locs2 ws2 tys2 hov2 hpre2 hW2 => ?_)
  obtain ⟨z, rfl, rfl⟩ := eSm_ok (hsm o2 ho2) hov hov2
  exact lv_icmp_eq (tgt := 1191) hx hb dl_295 (by decide) (fun _ => law_end C0 hW2.2.2.2.1 hl hcs hsl) (fun q => absurd rfl q)
theorem law_flat {sr : List (Int × Int)} {σ : Nat → Int} (hs : eSg sr σ) {as : List eV} (hP : PairOk adK adV l sr 147 33 as) (C0 : lX p s m meth c b xs adK adV) {H : Heap} {locs : List Loc} {ws : va_W} {tys : List (ClassId × FieldType)} {ls : Array Slot} {ax am cs sl : Nat} (hW : lWd D s σ hFresh H locs ws tys) (hax : (ws.map Prod.fst)[0]? = some ax) (ham : (ws.map Prod.fst)[70]? = some am) (hl : lv_has ls 4 [(0, .ref b), (1, .ref ax), (2, .ref am), (3, .int 0)]) (hcs : cs ≤ 600000) (hsl : sl ≤ 7302250) (has : ∀ ad : List Nat, eAll (eOk ad σ) as [.int (xs 1), .int (xs 2)]) : W p l e room_1 s m #[Value.ref b] below meth c H locs cs sl (lw_Z below #[Value.ref b] s) (F0 m 300 ls []) := by
  obtain ⟨⟨hx, hb, -, -, -, -, -, -, -, -⟩, -, -⟩ := id C0
  obtain ⟨os, hc1, hc2⟩ := hP
  refine lv_aload_n hx hb dl_300 rfl (lv_at hl 1 rfl) ?_
  refine law_arg (k := 1) C0 hW.2.2.2.1 hl (by decide) dl_301 dl_302 dl_303 dl_304 dl_305 ?_
  refine law_arg (k := 2) C0 hW.2.2.2.1 hl (by decide) dl_306 dl_307 dl_308 dl_309 dl_310 ?_
  refine law_call (N := tM147) (Y := tY147) (vs := [.int (xs 1), .int (xs 2)]) (rest := []) C0 hs hW hl.1 hc1 rfl rfl rfl rfl rfl (kIs_ok (c := 4065) (by decide +kernel)) (kIs_ok (c := 4066) (by decide +kernel)) (kIs_ok (c := 4067) (by decide +kernel)) (d0 := 11) rfl rfl hax (has _) (by decide) hcs hsl dl_311 (fun o ho w H1 locs1 ws1 tys1 hov hpre hW1 => ?_)
  obtain ⟨hr, os2, hc3, hsm⟩ := hc2 o ho
  refine lv_aload_n hx hb dl_314 rfl (lv_at hl 2 rfl) ?_
  refine law_arg (k := 1) C0 hW1.2.2.2.1 hl (by decide) dl_315 dl_316 dl_317 dl_318 dl_319 ?_
  refine law_arg (k := 2) C0 hW1.2.2.2.1 hl (by decide) dl_320 dl_321 dl_322 dl_323 dl_324 ?_
  refine law_call (N := tM33) (Y := tY33) (vs := [.int (xs 1), .int (xs 2)]) (rest := w.toList ++ []) C0 hs hW1 hl.1 hc3 rfl rfl rfl rfl rfl (kIs_ok (c := 7120) (by decide +kernel)) (kIs_ok (c := 7121) (by decide +kernel)) (kIs_ok (c := 7122) (by decide +kernel)) (d0 := 12) rfl hr (lw_ad ham hpre) (has _) (lw_rest w) hcs hsl dl_325 (fun o2 ho2 w2 H2 locs2 ws2 tys2 hov2 hpre2 hW2 => ?_)
  obtain ⟨z, rfl, rfl⟩ := eSm_ok (hsm o2 ho2) hov hov2
  exact lv_icmp_eq (tgt := 1191) hx hb dl_328 (by decide) (fun _ => law_end C0 hW2.2.2.2.1 hl hcs hsl) (fun q => absurd rfl q)
theorem law_wire {sr : List (Int × Int)} {σ : Nat → Int} (hs : eSg sr σ) {as : List eV} (hP : PairOk adK adV l sr 148 34 as) (C0 : lX p s m meth c b xs adK adV) {H : Heap} {locs : List Loc} {ws : va_W} {tys : List (ClassId × FieldType)} {ls : Array Slot} {ax am cs sl : Nat} (hW : lWd D s σ hFresh H locs ws tys) (hax : (ws.map Prod.fst)[0]? = some ax) (ham : (ws.map Prod.fst)[70]? = some am) (hl : lv_has ls 4 [(0, .ref b), (1, .ref ax), (2, .ref am), (3, .int 0)]) (hcs : cs ≤ 600000) (hsl : sl ≤ 7302250) (has : ∀ ad : List Nat, eAll (eOk ad σ) as [.int (xs 1), .int (xs 2)]) : W p l e room_1 s m #[Value.ref b] below meth c H locs cs sl (lw_Z below #[Value.ref b] s) (F0 m 333 ls []) := by
  obtain ⟨⟨hx, hb, -, -, -, -, -, -, -, -⟩, -, -⟩ := id C0
  obtain ⟨os, hc1, hc2⟩ := hP
  refine lv_aload_n hx hb dl_333 rfl (lv_at hl 1 rfl) ?_
  refine law_arg (k := 1) C0 hW.2.2.2.1 hl (by decide) dl_334 dl_335 dl_336 dl_337 dl_338 ?_
  refine law_arg (k := 2) C0 hW.2.2.2.1 hl (by decide) dl_339 dl_340 dl_341 dl_342 dl_343 ?_
  refine law_call (N := tM148) (Y := tY148) (vs := [.int (xs 1), .int (xs 2)]) (rest := []) C0 hs hW hl.1 hc1 rfl rfl rfl rfl rfl (kIs_ok (c := 4139) (by decide +kernel)) (kIs_ok (c := 4140) (by decide +kernel)) (kIs_ok (c := 4141) (by decide +kernel)) (d0 := 11) rfl rfl hax (has _) (by decide) hcs hsl dl_344 (fun o ho w H1 locs1 ws1 tys1 hov hpre hW1 => ?_)
  obtain ⟨hr, os2, hc3, hsm⟩ := hc2 o ho
  refine lv_aload_n hx hb dl_347 rfl (lv_at hl 2 rfl) ?_
  refine law_arg (k := 1) C0 hW1.2.2.2.1 hl (by decide) dl_348 dl_349 dl_350 dl_351 dl_352 ?_
  refine law_arg (k := 2) C0 hW1.2.2.2.1 hl (by decide) dl_353 dl_354 dl_355 dl_356 dl_357 ?_
  refine law_call (N := tM34) (Y := tY34) (vs := [.int (xs 1), .int (xs 2)]) (rest := w.toList ++ []) C0 hs hW1 hl.1 hc3 rfl rfl rfl rfl rfl (kIs_ok (c := 7198) (by decide +kernel)) (kIs_ok (c := 7199) (by decide +kernel)) (kIs_ok (c := 7200) (by decide +kernel)) (d0 := 12) rfl hr (lw_ad ham hpre) (has _) (lw_rest w) hcs hsl dl_358 (fun o2 ho2 w2 H2 locs2 ws2 tys2 hov2 hpre2 hW2 => ?_)
  obtain ⟨z, rfl, rfl⟩ := eSm_ok (hsm o2 ho2) hov hov2
  exact lv_icmp_eq (tgt := 1191) hx hb dl_361 (by decide) (fun _ => law_end C0 hW2.2.2.2.1 hl hcs hsl) (fun q => absurd rfl q)
theorem law_use {sr : List (Int × Int)} {σ : Nat → Int} (hs : eSg sr σ) {as : List eV} (hP : PairOk adK adV l sr 149 35 as) (C0 : lX p s m meth c b xs adK adV) {H : Heap} {locs : List Loc} {ws : va_W} {tys : List (ClassId × FieldType)} {ls : Array Slot} {ax am cs sl : Nat} (hW : lWd D s σ hFresh H locs ws tys) (hax : (ws.map Prod.fst)[0]? = some ax) (ham : (ws.map Prod.fst)[70]? = some am) (hl : lv_has ls 4 [(0, .ref b), (1, .ref ax), (2, .ref am), (3, .int 0)]) (hcs : cs ≤ 600000) (hsl : sl ≤ 7302250) (has : ∀ ad : List Nat, eAll (eOk ad σ) as [.int (xs 1), .int (xs 2)]) : W p l e room_1 s m #[Value.ref b] below meth c H locs cs sl (lw_Z below #[Value.ref b] s) (F0 m 366 ls []) := by
  obtain ⟨⟨hx, hb, -, -, -, -, -, -, -, -⟩, -, -⟩ := id C0
  obtain ⟨os, hc1, hc2⟩ := hP
  refine lv_aload_n hx hb dl_366 rfl (lv_at hl 1 rfl) ?_
  refine law_arg (k := 1) C0 hW.2.2.2.1 hl (by decide) dl_367 dl_368 dl_369 dl_370 dl_371 ?_
  refine law_arg (k := 2) C0 hW.2.2.2.1 hl (by decide) dl_372 dl_373 dl_374 dl_375 dl_376 ?_
  refine law_call (N := tM149) (Y := tY149) (vs := [.int (xs 1), .int (xs 2)]) (rest := []) C0 hs hW hl.1 hc1 rfl rfl rfl rfl rfl (kIs_ok (c := 4172) (by decide +kernel)) (kIs_ok (c := 4173) (by decide +kernel)) (kIs_ok (c := 4174) (by decide +kernel)) (d0 := 11) rfl rfl hax (has _) (by decide) hcs hsl dl_377 (fun o ho w H1 locs1 ws1 tys1 hov hpre hW1 => ?_)
  obtain ⟨hr, os2, hc3, hsm⟩ := hc2 o ho
  refine lv_aload_n hx hb dl_380 rfl (lv_at hl 2 rfl) ?_
  refine law_arg (k := 1) C0 hW1.2.2.2.1 hl (by decide) dl_381 dl_382 dl_383 dl_384 dl_385 ?_
  refine law_arg (k := 2) C0 hW1.2.2.2.1 hl (by decide) dl_386 dl_387 dl_388 dl_389 dl_390 ?_
  refine law_call (N := tM35) (Y := tY35) (vs := [.int (xs 1), .int (xs 2)]) (rest := w.toList ++ []) C0 hs hW1 hl.1 hc3 rfl rfl rfl rfl rfl (kIs_ok (c := 7214) (by decide +kernel)) (kIs_ok (c := 7215) (by decide +kernel)) (kIs_ok (c := 7216) (by decide +kernel)) (d0 := 12) rfl hr (lw_ad ham hpre) (has _) (lw_rest w) hcs hsl dl_391 (fun o2 ho2 w2 H2 locs2 ws2 tys2 hov2 hpre2 hW2 => ?_)
  obtain ⟨z, rfl, rfl⟩ := eSm_ok (hsm o2 ho2) hov hov2
  exact lv_icmp_eq (tgt := 1191) hx hb dl_394 (by decide) (fun _ => law_end C0 hW2.2.2.2.1 hl hcs hsl) (fun q => absurd rfl q)
theorem law_agree0 {sr : List (Int × Int)} {σ : Nat → Int} (hs : eSg sr σ) {as : List eV} (hP : PairOk adK adV l sr 150 37 as) (C0 : lX p s m meth c b xs adK adV) (hz : xs 2 = 0) {H : Heap} {locs : List Loc} {ws : va_W} {tys : List (ClassId × FieldType)} {ls : Array Slot} {ax am cs sl : Nat} (hW : lWd D s σ hFresh H locs ws tys) (hax : (ws.map Prod.fst)[0]? = some ax) (ham : (ws.map Prod.fst)[70]? = some am) (hl : lv_has ls 4 [(0, .ref b), (1, .ref ax), (2, .ref am), (3, .int 0)]) (hcs : cs ≤ 600000) (hsl : sl ≤ 7302250) (has : ∀ ad : List Nat, eAll (eOk ad σ) as [.int (xs 1), .int 0]) : W p l e room_1 s m #[Value.ref b] below meth c H locs cs sl (lw_Z below #[Value.ref b] s) (F0 m 399 ls []) := by
  obtain ⟨⟨hx, hb, -, -, -, -, -, -, -, -⟩, -, -⟩ := id C0
  obtain ⟨os, hc1, hc2⟩ := hP
  refine lv_aload_n hx hb dl_399 rfl (lv_at hl 1 rfl) ?_
  refine law_arg (k := 1) C0 hW.2.2.2.1 hl (by decide) dl_400 dl_401 dl_402 dl_403 dl_404 ?_
  refine law_arg (k := 2) C0 hW.2.2.2.1 hl (by decide) dl_405 dl_406 dl_407 dl_408 dl_409 ?_
  refine lv_if_eq (tgt := 417) hx hb dl_410 (by decide) (fun _ => ?_) (fun q => absurd hz q)
  refine lv_iconst (v := 0) hx hb dl_417 (by decide) ?_
  refine law_call (N := tM150) (Y := tY150) (vs := [.int (xs 1), .int 0]) (rest := []) C0 hs hW hl.1 hc1 rfl rfl rfl rfl rfl (kIs_ok (c := 4184) (by decide +kernel)) (kIs_ok (c := 4185) (by decide +kernel)) (kIs_ok (c := 4186) (by decide +kernel)) (d0 := 11) rfl rfl hax (has _) (by decide) hcs hsl dl_418 (fun o ho w H1 locs1 ws1 tys1 hov hpre hW1 => ?_)
  obtain ⟨hr, os2, hc3, hsm⟩ := hc2 o ho
  refine lv_aload_n hx hb dl_421 rfl (lv_at hl 2 rfl) ?_
  refine law_arg (k := 1) C0 hW1.2.2.2.1 hl (by decide) dl_422 dl_423 dl_424 dl_425 dl_426 ?_
  refine law_arg (k := 2) C0 hW1.2.2.2.1 hl (by decide) dl_427 dl_428 dl_429 dl_430 dl_431 ?_
  refine lv_if_eq (tgt := 439) hx hb dl_432 (by decide) (fun _ => ?_) (fun q => absurd hz q)
  refine lv_iconst (v := 0) hx hb dl_439 (by decide) ?_
  refine law_call (N := tM37) (Y := tY37) (vs := [.int (xs 1), .int 0]) (rest := w.toList ++ []) C0 hs hW1 hl.1 hc3 rfl rfl rfl rfl rfl (kIs_ok (c := 7226) (by decide +kernel)) (kIs_ok (c := 7227) (by decide +kernel)) (kIs_ok (c := 7228) (by decide +kernel)) (d0 := 12) rfl hr (lw_ad ham hpre) (has _) (lw_rest w) hcs hsl dl_440 (fun o2 ho2 w2 H2 locs2 ws2 tys2 hov2 hpre2 hW2 => ?_)
  obtain ⟨z, rfl, rfl⟩ := eSm_ok (hsm o2 ho2) hov hov2
  exact lv_icmp_eq (tgt := 1191) hx hb dl_443 (by decide) (fun _ => law_end C0 hW2.2.2.2.1 hl hcs hsl) (fun q => absurd rfl q)
theorem law_agree1 {sr : List (Int × Int)} {σ : Nat → Int} (hs : eSg sr σ) {as : List eV} (hP : PairOk adK adV l sr 150 37 as) (C0 : lX p s m meth c b xs adK adV) (hz : ¬ xs 2 = 0) {H : Heap} {locs : List Loc} {ws : va_W} {tys : List (ClassId × FieldType)} {ls : Array Slot} {ax am cs sl : Nat} (hW : lWd D s σ hFresh H locs ws tys) (hax : (ws.map Prod.fst)[0]? = some ax) (ham : (ws.map Prod.fst)[70]? = some am) (hl : lv_has ls 4 [(0, .ref b), (1, .ref ax), (2, .ref am), (3, .int 0)]) (hcs : cs ≤ 600000) (hsl : sl ≤ 7302250) (has : ∀ ad : List Nat, eAll (eOk ad σ) as [.int (xs 1), .int 1]) : W p l e room_1 s m #[Value.ref b] below meth c H locs cs sl (lw_Z below #[Value.ref b] s) (F0 m 399 ls []) := by
  obtain ⟨⟨hx, hb, -, -, -, -, -, -, -, -⟩, -, -⟩ := id C0
  obtain ⟨os, hc1, hc2⟩ := hP
  refine lv_aload_n hx hb dl_399 rfl (lv_at hl 1 rfl) ?_
  refine law_arg (k := 1) C0 hW.2.2.2.1 hl (by decide) dl_400 dl_401 dl_402 dl_403 dl_404 ?_
  refine law_arg (k := 2) C0 hW.2.2.2.1 hl (by decide) dl_405 dl_406 dl_407 dl_408 dl_409 ?_
  refine lv_if_eq (tgt := 417) hx hb dl_410 (by decide) (fun q => absurd q hz) (fun _ => ?_)
  refine lv_iconst (v := 1) hx hb dl_413 (by decide) ?_
  refine lv_goto (tgt := 418) hx hb dl_414 (by decide) ?_
  refine law_call (N := tM150) (Y := tY150) (vs := [.int (xs 1), .int 1]) (rest := []) C0 hs hW hl.1 hc1 rfl rfl rfl rfl rfl (kIs_ok (c := 4184) (by decide +kernel)) (kIs_ok (c := 4185) (by decide +kernel)) (kIs_ok (c := 4186) (by decide +kernel)) (d0 := 11) rfl rfl hax (has _) (by decide) hcs hsl dl_418 (fun o ho w H1 locs1 ws1 tys1 hov hpre hW1 => ?_)
  obtain ⟨hr, os2, hc3, hsm⟩ := hc2 o ho
  refine lv_aload_n hx hb dl_421 rfl (lv_at hl 2 rfl) ?_
  refine law_arg (k := 1) C0 hW1.2.2.2.1 hl (by decide) dl_422 dl_423 dl_424 dl_425 dl_426 ?_
  refine law_arg (k := 2) C0 hW1.2.2.2.1 hl (by decide) dl_427 dl_428 dl_429 dl_430 dl_431 ?_
  refine lv_if_eq (tgt := 439) hx hb dl_432 (by decide) (fun q => absurd q hz) (fun _ => ?_)
  refine lv_iconst (v := 1) hx hb dl_435 (by decide) ?_
  refine lv_goto (tgt := 440) hx hb dl_436 (by decide) ?_
  refine law_call (N := tM37) (Y := tY37) (vs := [.int (xs 1), .int 1]) (rest := w.toList ++ []) C0 hs hW1 hl.1 hc3 rfl rfl rfl rfl rfl (kIs_ok (c := 7226) (by decide +kernel)) (kIs_ok (c := 7227) (by decide +kernel)) (kIs_ok (c := 7228) (by decide +kernel)) (d0 := 12) rfl hr (lw_ad ham hpre) (has _) (lw_rest w) hcs hsl dl_440 (fun o2 ho2 w2 H2 locs2 ws2 tys2 hov2 hpre2 hW2 => ?_)
  obtain ⟨z, rfl, rfl⟩ := eSm_ok (hsm o2 ho2) hov hov2
  exact lv_icmp_eq (tgt := 1191) hx hb dl_443 (by decide) (fun _ => law_end C0 hW2.2.2.2.1 hl hcs hsl) (fun q => absurd rfl q)
theorem law_mend {sr : List (Int × Int)} {σ : Nat → Int} (hs : eSg sr σ) {as : List eV} (hP : PairOk adK adV l sr 151 38 as) (C0 : lX p s m meth c b xs adK adV) {H : Heap} {locs : List Loc} {ws : va_W} {tys : List (ClassId × FieldType)} {ls : Array Slot} {ax am cs sl : Nat} (hW : lWd D s σ hFresh H locs ws tys) (hax : (ws.map Prod.fst)[0]? = some ax) (ham : (ws.map Prod.fst)[70]? = some am) (hl : lv_has ls 4 [(0, .ref b), (1, .ref ax), (2, .ref am), (3, .int 0)]) (hcs : cs ≤ 600000) (hsl : sl ≤ 7302250) (has : ∀ ad : List Nat, eAll (eOk ad σ) as [.int (xs 1)]) : W p l e room_1 s m #[Value.ref b] below meth c H locs cs sl (lw_Z below #[Value.ref b] s) (F0 m 448 ls []) := by
  obtain ⟨⟨hx, hb, -, -, -, -, -, -, -, -⟩, -, -⟩ := id C0
  obtain ⟨os, hc1, hc2⟩ := hP
  refine lv_aload_n hx hb dl_448 rfl (lv_at hl 1 rfl) ?_
  refine law_arg (k := 1) C0 hW.2.2.2.1 hl (by decide) dl_449 dl_450 dl_451 dl_452 dl_453 ?_
  refine law_call (N := tM151) (Y := tY151) (vs := [.int (xs 1)]) (rest := []) C0 hs hW hl.1 hc1 rfl rfl rfl rfl rfl (kIs_ok (c := 4197) (by decide +kernel)) (kIs_ok (c := 4198) (by decide +kernel)) (kIs_ok (c := 4199) (by decide +kernel)) (d0 := 11) rfl rfl hax (has _) (by decide) hcs hsl dl_454 (fun o ho w H1 locs1 ws1 tys1 hov hpre hW1 => ?_)
  obtain ⟨hr, os2, hc3, hsm⟩ := hc2 o ho
  refine lv_aload_n hx hb dl_457 rfl (lv_at hl 2 rfl) ?_
  refine law_arg (k := 1) C0 hW1.2.2.2.1 hl (by decide) dl_458 dl_459 dl_460 dl_461 dl_462 ?_
  refine law_call (N := tM38) (Y := tY38) (vs := [.int (xs 1)]) (rest := w.toList ++ []) C0 hs hW1 hl.1 hc3 rfl rfl rfl rfl rfl (kIs_ok (c := 7234) (by decide +kernel)) (kIs_ok (c := 7235) (by decide +kernel)) (kIs_ok (c := 7236) (by decide +kernel)) (d0 := 12) rfl hr (lw_ad ham hpre) (has _) (lw_rest w) hcs hsl dl_463 (fun o2 ho2 w2 H2 locs2 ws2 tys2 hov2 hpre2 hW2 => ?_)
  obtain ⟨z, rfl, rfl⟩ := eSm_ok (hsm o2 ho2) hov hov2
  exact lv_icmp_eq (tgt := 1191) hx hb dl_466 (by decide) (fun _ => law_end C0 hW2.2.2.2.1 hl hcs hsl) (fun q => absurd rfl q)
theorem law_thicken {sr : List (Int × Int)} {σ : Nat → Int} (hs : eSg sr σ) {as : List eV} (hP : PairOk adK adV l sr 152 39 as) (C0 : lX p s m meth c b xs adK adV) {H : Heap} {locs : List Loc} {ws : va_W} {tys : List (ClassId × FieldType)} {ls : Array Slot} {ax am cs sl : Nat} (hW : lWd D s σ hFresh H locs ws tys) (hax : (ws.map Prod.fst)[0]? = some ax) (ham : (ws.map Prod.fst)[70]? = some am) (hl : lv_has ls 4 [(0, .ref b), (1, .ref ax), (2, .ref am), (3, .int 0)]) (hcs : cs ≤ 600000) (hsl : sl ≤ 7302250) (has : ∀ ad : List Nat, eAll (eOk ad σ) as [.int (xs 1)]) : W p l e room_1 s m #[Value.ref b] below meth c H locs cs sl (lw_Z below #[Value.ref b] s) (F0 m 471 ls []) := by
  obtain ⟨⟨hx, hb, -, -, -, -, -, -, -, -⟩, -, -⟩ := id C0
  obtain ⟨os, hc1, hc2⟩ := hP
  refine lv_aload_n hx hb dl_471 rfl (lv_at hl 1 rfl) ?_
  refine law_arg (k := 1) C0 hW.2.2.2.1 hl (by decide) dl_472 dl_473 dl_474 dl_475 dl_476 ?_
  refine law_call (N := tM152) (Y := tY152) (vs := [.int (xs 1)]) (rest := []) C0 hs hW hl.1 hc1 rfl rfl rfl rfl rfl (kIs_ok (c := 4201) (by decide +kernel)) (kIs_ok (c := 4202) (by decide +kernel)) (kIs_ok (c := 4203) (by decide +kernel)) (d0 := 11) rfl rfl hax (has _) (by decide) hcs hsl dl_477 (fun o ho w H1 locs1 ws1 tys1 hov hpre hW1 => ?_)
  obtain ⟨hr, os2, hc3, hsm⟩ := hc2 o ho
  refine lv_aload_n hx hb dl_480 rfl (lv_at hl 2 rfl) ?_
  refine law_arg (k := 1) C0 hW1.2.2.2.1 hl (by decide) dl_481 dl_482 dl_483 dl_484 dl_485 ?_
  refine law_call (N := tM39) (Y := tY39) (vs := [.int (xs 1)]) (rest := w.toList ++ []) C0 hs hW1 hl.1 hc3 rfl rfl rfl rfl rfl (kIs_ok (c := 7238) (by decide +kernel)) (kIs_ok (c := 7239) (by decide +kernel)) (kIs_ok (c := 8000) (by decide +kernel)) (d0 := 12) rfl hr (lw_ad ham hpre) (has _) (lw_rest w) hcs hsl dl_486 (fun o2 ho2 w2 H2 locs2 ws2 tys2 hov2 hpre2 hW2 => ?_)
  obtain ⟨z, rfl, rfl⟩ := eSm_ok (hsm o2 ho2) hov hov2
  exact lv_icmp_eq (tgt := 1191) hx hb dl_489 (by decide) (fun _ => law_end C0 hW2.2.2.2.1 hl hcs hsl) (fun q => absurd rfl q)
theorem law_pin0 {sr : List (Int × Int)} {σ : Nat → Int} (hs : eSg sr σ) {as : List eV} (hP : PairOk adK adV l sr 153 40 as) (C0 : lX p s m meth c b xs adK adV) (hz : xs 2 = 0) {H : Heap} {locs : List Loc} {ws : va_W} {tys : List (ClassId × FieldType)} {ls : Array Slot} {ax am cs sl : Nat} (hW : lWd D s σ hFresh H locs ws tys) (hax : (ws.map Prod.fst)[0]? = some ax) (ham : (ws.map Prod.fst)[70]? = some am) (hl : lv_has ls 4 [(0, .ref b), (1, .ref ax), (2, .ref am), (3, .int 0)]) (hcs : cs ≤ 600000) (hsl : sl ≤ 7302250) (has : ∀ ad : List Nat, eAll (eOk ad σ) as [.int (xs 1), .int 0]) : W p l e room_1 s m #[Value.ref b] below meth c H locs cs sl (lw_Z below #[Value.ref b] s) (F0 m 494 ls []) := by
  obtain ⟨⟨hx, hb, -, -, -, -, -, -, -, -⟩, -, -⟩ := id C0
  obtain ⟨os, hc1, hc2⟩ := hP
  refine lv_aload_n hx hb dl_494 rfl (lv_at hl 1 rfl) ?_
  refine law_arg (k := 1) C0 hW.2.2.2.1 hl (by decide) dl_495 dl_496 dl_497 dl_498 dl_499 ?_
  refine law_arg (k := 2) C0 hW.2.2.2.1 hl (by decide) dl_500 dl_501 dl_502 dl_503 dl_504 ?_
  refine lv_if_eq (tgt := 512) hx hb dl_505 (by decide) (fun _ => ?_) (fun q => absurd hz q)
  refine lv_iconst (v := 0) hx hb dl_512 (by decide) ?_
  refine law_call (N := tM153) (Y := tY153) (vs := [.int (xs 1), .int 0]) (rest := []) C0 hs hW hl.1 hc1 rfl rfl rfl rfl rfl (kIs_ok (c := 4205) (by decide +kernel)) (kIs_ok (c := 4206) (by decide +kernel)) (kIs_ok (c := 4207) (by decide +kernel)) (d0 := 11) rfl rfl hax (has _) (by decide) hcs hsl dl_513 (fun o ho w H1 locs1 ws1 tys1 hov hpre hW1 => ?_)
  obtain ⟨hr, os2, hc3, hsm⟩ := hc2 o ho
  refine lv_aload_n hx hb dl_516 rfl (lv_at hl 2 rfl) ?_
  refine law_arg (k := 1) C0 hW1.2.2.2.1 hl (by decide) dl_517 dl_518 dl_519 dl_520 dl_521 ?_
  refine law_arg (k := 2) C0 hW1.2.2.2.1 hl (by decide) dl_522 dl_523 dl_524 dl_525 dl_526 ?_
  refine lv_if_eq (tgt := 534) hx hb dl_527 (by decide) (fun _ => ?_) (fun q => absurd hz q)
  refine lv_iconst (v := 0) hx hb dl_534 (by decide) ?_
  refine law_call (N := tM40) (Y := tY40) (vs := [.int (xs 1), .int 0]) (rest := w.toList ++ []) C0 hs hW1 hl.1 hc3 rfl rfl rfl rfl rfl (kIs_ok (c := 8002) (by decide +kernel)) (kIs_ok (c := 8003) (by decide +kernel)) (kIs_ok (c := 8004) (by decide +kernel)) (d0 := 12) rfl hr (lw_ad ham hpre) (has _) (lw_rest w) hcs hsl dl_535 (fun o2 ho2 w2 H2 locs2 ws2 tys2 hov2 hpre2 hW2 => ?_)
  obtain ⟨z, rfl, rfl⟩ := eSm_ok (hsm o2 ho2) hov hov2
  exact lv_icmp_eq (tgt := 1191) hx hb dl_538 (by decide) (fun _ => law_end C0 hW2.2.2.2.1 hl hcs hsl) (fun q => absurd rfl q)
theorem law_pin1 {sr : List (Int × Int)} {σ : Nat → Int} (hs : eSg sr σ) {as : List eV} (hP : PairOk adK adV l sr 153 40 as) (C0 : lX p s m meth c b xs adK adV) (hz : ¬ xs 2 = 0) {H : Heap} {locs : List Loc} {ws : va_W} {tys : List (ClassId × FieldType)} {ls : Array Slot} {ax am cs sl : Nat} (hW : lWd D s σ hFresh H locs ws tys) (hax : (ws.map Prod.fst)[0]? = some ax) (ham : (ws.map Prod.fst)[70]? = some am) (hl : lv_has ls 4 [(0, .ref b), (1, .ref ax), (2, .ref am), (3, .int 0)]) (hcs : cs ≤ 600000) (hsl : sl ≤ 7302250) (has : ∀ ad : List Nat, eAll (eOk ad σ) as [.int (xs 1), .int 1]) : W p l e room_1 s m #[Value.ref b] below meth c H locs cs sl (lw_Z below #[Value.ref b] s) (F0 m 494 ls []) := by
  obtain ⟨⟨hx, hb, -, -, -, -, -, -, -, -⟩, -, -⟩ := id C0
  obtain ⟨os, hc1, hc2⟩ := hP
  refine lv_aload_n hx hb dl_494 rfl (lv_at hl 1 rfl) ?_
  refine law_arg (k := 1) C0 hW.2.2.2.1 hl (by decide) dl_495 dl_496 dl_497 dl_498 dl_499 ?_
  refine law_arg (k := 2) C0 hW.2.2.2.1 hl (by decide) dl_500 dl_501 dl_502 dl_503 dl_504 ?_
  refine lv_if_eq (tgt := 512) hx hb dl_505 (by decide) (fun q => absurd q hz) (fun _ => ?_)
  refine lv_iconst (v := 1) hx hb dl_508 (by decide) ?_
  refine lv_goto (tgt := 513) hx hb dl_509 (by decide) ?_
  refine law_call (N := tM153) (Y := tY153) (vs := [.int (xs 1), .int 1]) (rest := []) C0 hs hW hl.1 hc1 rfl rfl rfl rfl rfl (kIs_ok (c := 4205) (by decide +kernel)) (kIs_ok (c := 4206) (by decide +kernel)) (kIs_ok (c := 4207) (by decide +kernel)) (d0 := 11) rfl rfl hax (has _) (by decide) hcs hsl dl_513 (fun o ho w H1 locs1 ws1 tys1 hov hpre hW1 => ?_)
  obtain ⟨hr, os2, hc3, hsm⟩ := hc2 o ho
  refine lv_aload_n hx hb dl_516 rfl (lv_at hl 2 rfl) ?_
  refine law_arg (k := 1) C0 hW1.2.2.2.1 hl (by decide) dl_517 dl_518 dl_519 dl_520 dl_521 ?_
  refine law_arg (k := 2) C0 hW1.2.2.2.1 hl (by decide) dl_522 dl_523 dl_524 dl_525 dl_526 ?_
  refine lv_if_eq (tgt := 534) hx hb dl_527 (by decide) (fun q => absurd q hz) (fun _ => ?_)
  refine lv_iconst (v := 1) hx hb dl_530 (by decide) ?_
  refine lv_goto (tgt := 535) hx hb dl_531 (by decide) ?_
  refine law_call (N := tM40) (Y := tY40) (vs := [.int (xs 1), .int 1]) (rest := w.toList ++ []) C0 hs hW1 hl.1 hc3 rfl rfl rfl rfl rfl (kIs_ok (c := 8002) (by decide +kernel)) (kIs_ok (c := 8003) (by decide +kernel)) (kIs_ok (c := 8004) (by decide +kernel)) (d0 := 12) rfl hr (lw_ad ham hpre) (has _) (lw_rest w) hcs hsl dl_535 (fun o2 ho2 w2 H2 locs2 ws2 tys2 hov2 hpre2 hW2 => ?_)
  obtain ⟨z, rfl, rfl⟩ := eSm_ok (hsm o2 ho2) hov hov2
  exact lv_icmp_eq (tgt := 1191) hx hb dl_538 (by decide) (fun _ => law_end C0 hW2.2.2.2.1 hl hcs hsl) (fun q => absurd rfl q)
theorem law_hours {sr : List (Int × Int)} {σ : Nat → Int} (hs : eSg sr σ) {as : List eV} (hP : PairOk adK adV l sr 154 42 as) (C0 : lX p s m meth c b xs adK adV) {H : Heap} {locs : List Loc} {ws : va_W} {tys : List (ClassId × FieldType)} {ls : Array Slot} {ax am cs sl : Nat} (hW : lWd D s σ hFresh H locs ws tys) (hax : (ws.map Prod.fst)[0]? = some ax) (ham : (ws.map Prod.fst)[70]? = some am) (hl : lv_has ls 4 [(0, .ref b), (1, .ref ax), (2, .ref am), (3, .int 0)]) (hcs : cs ≤ 600000) (hsl : sl ≤ 7302250) (has : ∀ ad : List Nat, eAll (eOk ad σ) as [.int (xs 1)]) : W p l e room_1 s m #[Value.ref b] below meth c H locs cs sl (lw_Z below #[Value.ref b] s) (F0 m 543 ls []) := by
  obtain ⟨⟨hx, hb, -, -, -, -, -, -, -, -⟩, -, -⟩ := id C0
  obtain ⟨os, hc1, hc2⟩ := hP
  refine lv_aload_n hx hb dl_543 rfl (lv_at hl 1 rfl) ?_
  refine law_arg (k := 1) C0 hW.2.2.2.1 hl (by decide) dl_544 dl_545 dl_546 dl_547 dl_548 ?_
  refine law_call (N := tM154) (Y := tY154) (vs := [.int (xs 1)]) (rest := []) C0 hs hW hl.1 hc1 rfl rfl rfl rfl rfl (kIs_ok (c := 4209) (by decide +kernel)) (kIs_ok (c := 4210) (by decide +kernel)) (kIs_ok (c := 4211) (by decide +kernel)) (d0 := 11) rfl rfl hax (has _) (by decide) hcs hsl dl_549 (fun o ho w H1 locs1 ws1 tys1 hov hpre hW1 => ?_)
  obtain ⟨hr, os2, hc3, hsm⟩ := hc2 o ho
  refine lv_aload_n hx hb dl_552 rfl (lv_at hl 2 rfl) ?_
  refine law_arg (k := 1) C0 hW1.2.2.2.1 hl (by decide) dl_553 dl_554 dl_555 dl_556 dl_557 ?_
  refine law_call (N := tM42) (Y := tY42) (vs := [.int (xs 1)]) (rest := w.toList ++ []) C0 hs hW1 hl.1 hc3 rfl rfl rfl rfl rfl (kIs_ok (c := 8006) (by decide +kernel)) (kIs_ok (c := 8007) (by decide +kernel)) (kIs_ok (c := 8008) (by decide +kernel)) (d0 := 12) rfl hr (lw_ad ham hpre) (has _) (lw_rest w) hcs hsl dl_558 (fun o2 ho2 w2 H2 locs2 ws2 tys2 hov2 hpre2 hW2 => ?_)
  obtain ⟨z, rfl, rfl⟩ := eSm_ok (hsm o2 ho2) hov hov2
  exact lv_icmp_eq (tgt := 1191) hx hb dl_561 (by decide) (fun _ => law_end C0 hW2.2.2.2.1 hl hcs hsl) (fun q => absurd rfl q)
theorem law_undo {sr : List (Int × Int)} {σ : Nat → Int} (hs : eSg sr σ) {as : List eV} (hP : PairOk adK adV l sr 155 43 as) (C0 : lX p s m meth c b xs adK adV) {H : Heap} {locs : List Loc} {ws : va_W} {tys : List (ClassId × FieldType)} {ls : Array Slot} {ax am cs sl : Nat} (hW : lWd D s σ hFresh H locs ws tys) (hax : (ws.map Prod.fst)[0]? = some ax) (ham : (ws.map Prod.fst)[70]? = some am) (hl : lv_has ls 4 [(0, .ref b), (1, .ref ax), (2, .ref am), (3, .int 0)]) (hcs : cs ≤ 600000) (hsl : sl ≤ 7302250) (has : ∀ ad : List Nat, eAll (eOk ad σ) as []) : W p l e room_1 s m #[Value.ref b] below meth c H locs cs sl (lw_Z below #[Value.ref b] s) (F0 m 566 ls []) := by
  obtain ⟨⟨hx, hb, -, -, -, -, -, -, -, -⟩, -, -⟩ := id C0
  obtain ⟨os, hc1, hc2⟩ := hP
  refine lv_aload_n hx hb dl_566 rfl (lv_at hl 1 rfl) ?_
  refine law_call (N := tM155) (Y := tY155) (vs := []) (rest := []) C0 hs hW hl.1 hc1 rfl rfl rfl rfl rfl (kIs_ok (c := 5008) (by decide +kernel)) (kIs_ok (c := 5009) (by decide +kernel)) (kIs_ok (c := 5010) (by decide +kernel)) (d0 := 11) rfl rfl hax (has _) (by decide) hcs hsl dl_567 (fun o ho w H1 locs1 ws1 tys1 hov hpre hW1 => ?_)
  obtain ⟨hr, os2, hc3, hsm⟩ := hc2 o ho
  refine lv_aload_n hx hb dl_570 rfl (lv_at hl 2 rfl) ?_
  refine law_call (N := tM43) (Y := tY43) (vs := []) (rest := w.toList ++ []) C0 hs hW1 hl.1 hc3 rfl rfl rfl rfl rfl (kIs_ok (c := 8043) (by decide +kernel)) (kIs_ok (c := 8044) (by decide +kernel)) (kIs_ok (c := 8045) (by decide +kernel)) (d0 := 12) rfl hr (lw_ad ham hpre) (has _) (lw_rest w) hcs hsl dl_571 (fun o2 ho2 w2 H2 locs2 ws2 tys2 hov2 hpre2 hW2 => ?_)
  obtain ⟨z, rfl, rfl⟩ := eSm_ok (hsm o2 ho2) hov hov2
  exact lv_icmp_eq (tgt := 1191) hx hb dl_574 (by decide) (fun _ => law_end C0 hW2.2.2.2.1 hl hcs hsl) (fun q => absurd rfl q)
theorem law_way {sr : List (Int × Int)} {σ : Nat → Int} (hs : eSg sr σ) {as : List eV} (hP : PairOk adK adV l sr 156 44 as) (C0 : lX p s m meth c b xs adK adV) {H : Heap} {locs : List Loc} {ws : va_W} {tys : List (ClassId × FieldType)} {ls : Array Slot} {ax am cs sl : Nat} (hW : lWd D s σ hFresh H locs ws tys) (hax : (ws.map Prod.fst)[0]? = some ax) (ham : (ws.map Prod.fst)[70]? = some am) (hl : lv_has ls 4 [(0, .ref b), (1, .ref ax), (2, .ref am), (3, .int 0)]) (hcs : cs ≤ 600000) (hsl : sl ≤ 7302250) (has : ∀ ad : List Nat, eAll (eOk ad σ) as [.int (xs 1), .int (xs 2)]) : W p l e room_1 s m #[Value.ref b] below meth c H locs cs sl (lw_Z below #[Value.ref b] s) (F0 m 579 ls []) := by
  obtain ⟨⟨hx, hb, -, -, -, -, -, -, -, -⟩, -, -⟩ := id C0
  obtain ⟨os, hc1, hc2⟩ := hP
  refine lv_aload_n hx hb dl_579 rfl (lv_at hl 1 rfl) ?_
  refine law_arg (k := 1) C0 hW.2.2.2.1 hl (by decide) dl_580 dl_581 dl_582 dl_583 dl_584 ?_
  refine law_arg (k := 2) C0 hW.2.2.2.1 hl (by decide) dl_585 dl_586 dl_587 dl_588 dl_589 ?_
  refine law_call (N := tM156) (Y := tY156) (vs := [.int (xs 1), .int (xs 2)]) (rest := []) C0 hs hW hl.1 hc1 rfl rfl rfl rfl rfl (kIs_ok (c := 5020) (by decide +kernel)) (kIs_ok (c := 5021) (by decide +kernel)) (kIs_ok (c := 5022) (by decide +kernel)) (d0 := 11) rfl rfl hax (has _) (by decide) hcs hsl dl_590 (fun o ho w H1 locs1 ws1 tys1 hov hpre hW1 => ?_)
  obtain ⟨hr, os2, hc3, hsm⟩ := hc2 o ho
  refine lv_aload_n hx hb dl_593 rfl (lv_at hl 2 rfl) ?_
  refine law_arg (k := 1) C0 hW1.2.2.2.1 hl (by decide) dl_594 dl_595 dl_596 dl_597 dl_598 ?_
  refine law_arg (k := 2) C0 hW1.2.2.2.1 hl (by decide) dl_599 dl_600 dl_601 dl_602 dl_603 ?_
  refine law_call (N := tM44) (Y := tY44) (vs := [.int (xs 1), .int (xs 2)]) (rest := w.toList ++ []) C0 hs hW1 hl.1 hc3 rfl rfl rfl rfl rfl (kIs_ok (c := 8047) (by decide +kernel)) (kIs_ok (c := 8048) (by decide +kernel)) (kIs_ok (c := 8049) (by decide +kernel)) (d0 := 12) rfl hr (lw_ad ham hpre) (has _) (lw_rest w) hcs hsl dl_604 (fun o2 ho2 w2 H2 locs2 ws2 tys2 hov2 hpre2 hW2 => ?_)
  obtain ⟨z, rfl, rfl⟩ := eSm_ok (hsm o2 ho2) hov hov2
  exact lv_icmp_eq (tgt := 1191) hx hb dl_607 (by decide) (fun _ => law_end C0 hW2.2.2.2.1 hl hcs hsl) (fun q => absurd rfl q)
theorem law_peak {sr : List (Int × Int)} {σ : Nat → Int} (hs : eSg sr σ) {as : List eV} (hP : PairOk adK adV l sr 157 46 as) (C0 : lX p s m meth c b xs adK adV) {H : Heap} {locs : List Loc} {ws : va_W} {tys : List (ClassId × FieldType)} {ls : Array Slot} {ax am cs sl : Nat} (hW : lWd D s σ hFresh H locs ws tys) (hax : (ws.map Prod.fst)[0]? = some ax) (ham : (ws.map Prod.fst)[70]? = some am) (hl : lv_has ls 4 [(0, .ref b), (1, .ref ax), (2, .ref am), (3, .int 0)]) (hcs : cs ≤ 600000) (hsl : sl ≤ 7302250) (has : ∀ ad : List Nat, eAll (eOk ad σ) as [.int (xs 1), .int (xs 2), .int (xs 3)]) : W p l e room_1 s m #[Value.ref b] below meth c H locs cs sl (lw_Z below #[Value.ref b] s) (F0 m 612 ls []) := by
  obtain ⟨⟨hx, hb, -, -, -, -, -, -, -, -⟩, -, -⟩ := id C0
  obtain ⟨os, hc1, hc2⟩ := hP
  refine lv_aload_n hx hb dl_612 rfl (lv_at hl 1 rfl) ?_
  refine law_arg (k := 1) C0 hW.2.2.2.1 hl (by decide) dl_613 dl_614 dl_615 dl_616 dl_617 ?_
  refine law_arg (k := 2) C0 hW.2.2.2.1 hl (by decide) dl_618 dl_619 dl_620 dl_621 dl_622 ?_
  refine law_arg (k := 3) C0 hW.2.2.2.1 hl (by decide) dl_623 dl_624 dl_625 dl_626 dl_627 ?_
  refine law_call (N := tM157) (Y := tY157) (vs := [.int (xs 1), .int (xs 2), .int (xs 3)]) (rest := []) C0 hs hW hl.1 hc1 rfl rfl rfl rfl rfl (kIs_ok (c := 5028) (by decide +kernel)) (kIs_ok (c := 5029) (by decide +kernel)) (kIs_ok (c := 5030) (by decide +kernel)) (d0 := 11) rfl rfl hax (has _) (by decide) hcs hsl dl_628 (fun o ho w H1 locs1 ws1 tys1 hov hpre hW1 => ?_)
  obtain ⟨hr, os2, hc3, hsm⟩ := hc2 o ho
  refine lv_aload_n hx hb dl_631 rfl (lv_at hl 2 rfl) ?_
  refine law_arg (k := 1) C0 hW1.2.2.2.1 hl (by decide) dl_632 dl_633 dl_634 dl_635 dl_636 ?_
  refine law_arg (k := 2) C0 hW1.2.2.2.1 hl (by decide) dl_637 dl_638 dl_639 dl_640 dl_641 ?_
  refine law_arg (k := 3) C0 hW1.2.2.2.1 hl (by decide) dl_642 dl_643 dl_644 dl_645 dl_646 ?_
  refine law_call (N := tM46) (Y := tY46) (vs := [.int (xs 1), .int (xs 2), .int (xs 3)]) (rest := w.toList ++ []) C0 hs hW1 hl.1 hc3 rfl rfl rfl rfl rfl (kIs_ok (c := 8051) (by decide +kernel)) (kIs_ok (c := 8052) (by decide +kernel)) (kIs_ok (c := 8053) (by decide +kernel)) (d0 := 12) rfl hr (lw_ad ham hpre) (has _) (lw_rest w) hcs hsl dl_647 (fun o2 ho2 w2 H2 locs2 ws2 tys2 hov2 hpre2 hW2 => ?_)
  obtain ⟨z, rfl, rfl⟩ := eSm_ok (hsm o2 ho2) hov hov2
  exact lv_icmp_eq (tgt := 1191) hx hb dl_650 (by decide) (fun _ => law_end C0 hW2.2.2.2.1 hl hcs hsl) (fun q => absurd rfl q)
theorem law_first {sr : List (Int × Int)} {σ : Nat → Int} (hs : eSg sr σ) {as : List eV} (hP : PairOk adK adV l sr 158 48 as) (C0 : lX p s m meth c b xs adK adV) {H : Heap} {locs : List Loc} {ws : va_W} {tys : List (ClassId × FieldType)} {ls : Array Slot} {ax am cs sl : Nat} (hW : lWd D s σ hFresh H locs ws tys) (hax : (ws.map Prod.fst)[0]? = some ax) (ham : (ws.map Prod.fst)[70]? = some am) (hl : lv_has ls 4 [(0, .ref b), (1, .ref ax), (2, .ref am), (3, .int 0)]) (hcs : cs ≤ 600000) (hsl : sl ≤ 7302250) (has : ∀ ad : List Nat, eAll (eOk ad σ) as [.int (xs 1)]) : W p l e room_1 s m #[Value.ref b] below meth c H locs cs sl (lw_Z below #[Value.ref b] s) (F0 m 655 ls []) := by
  obtain ⟨⟨hx, hb, -, -, -, -, -, -, -, -⟩, -, -⟩ := id C0
  obtain ⟨os, hc1, hc2⟩ := hP
  refine lv_aload_n hx hb dl_655 rfl (lv_at hl 1 rfl) ?_
  refine law_arg (k := 1) C0 hW.2.2.2.1 hl (by decide) dl_656 dl_657 dl_658 dl_659 dl_660 ?_
  refine law_call (N := tM158) (Y := tY158) (vs := [.int (xs 1)]) (rest := []) C0 hs hW hl.1 hc1 rfl rfl rfl rfl rfl (kIs_ok (c := 5041) (by decide +kernel)) (kIs_ok (c := 5042) (by decide +kernel)) (kIs_ok (c := 5043) (by decide +kernel)) (d0 := 11) rfl rfl hax (has _) (by decide) hcs hsl dl_661 (fun o ho w H1 locs1 ws1 tys1 hov hpre hW1 => ?_)
  obtain ⟨hr, os2, hc3, hsm⟩ := hc2 o ho
  refine lv_aload_n hx hb dl_664 rfl (lv_at hl 2 rfl) ?_
  refine law_arg (k := 1) C0 hW1.2.2.2.1 hl (by decide) dl_665 dl_666 dl_667 dl_668 dl_669 ?_
  refine law_call (N := tM48) (Y := tY48) (vs := [.int (xs 1)]) (rest := w.toList ++ []) C0 hs hW1 hl.1 hc3 rfl rfl rfl rfl rfl (kIs_ok (c := 8059) (by decide +kernel)) (kIs_ok (c := 8060) (by decide +kernel)) (kIs_ok (c := 8061) (by decide +kernel)) (d0 := 12) rfl hr (lw_ad ham hpre) (has _) (lw_rest w) hcs hsl dl_670 (fun o2 ho2 w2 H2 locs2 ws2 tys2 hov2 hpre2 hW2 => ?_)
  obtain ⟨z, rfl, rfl⟩ := eSm_ok (hsm o2 ho2) hov hov2
  exact lv_icmp_eq (tgt := 1191) hx hb dl_673 (by decide) (fun _ => law_end C0 hW2.2.2.2.1 hl hcs hsl) (fun q => absurd rfl q)
theorem law_together {sr : List (Int × Int)} {σ : Nat → Int} (hs : eSg sr σ) {as : List eV} (hP : PairOk adK adV l sr 159 50 as) (C0 : lX p s m meth c b xs adK adV) {H : Heap} {locs : List Loc} {ws : va_W} {tys : List (ClassId × FieldType)} {ls : Array Slot} {ax am cs sl : Nat} (hW : lWd D s σ hFresh H locs ws tys) (hax : (ws.map Prod.fst)[0]? = some ax) (ham : (ws.map Prod.fst)[70]? = some am) (hl : lv_has ls 4 [(0, .ref b), (1, .ref ax), (2, .ref am), (3, .int 0)]) (hcs : cs ≤ 600000) (hsl : sl ≤ 7302250) (has : ∀ ad : List Nat, eAll (eOk ad σ) as [.int (xs 1)]) : W p l e room_1 s m #[Value.ref b] below meth c H locs cs sl (lw_Z below #[Value.ref b] s) (F0 m 678 ls []) := by
  obtain ⟨⟨hx, hb, -, -, -, -, -, -, -, -⟩, -, -⟩ := id C0
  obtain ⟨os, hc1, hc2⟩ := hP
  refine lv_aload_n hx hb dl_678 rfl (lv_at hl 1 rfl) ?_
  refine law_arg (k := 1) C0 hW.2.2.2.1 hl (by decide) dl_679 dl_680 dl_681 dl_682 dl_683 ?_
  refine law_call (N := tM159) (Y := tY159) (vs := [.int (xs 1)]) (rest := []) C0 hs hW hl.1 hc1 rfl rfl rfl rfl rfl (kIs_ok (c := 5060) (by decide +kernel)) (kIs_ok (c := 5061) (by decide +kernel)) (kIs_ok (c := 5062) (by decide +kernel)) (d0 := 11) rfl rfl hax (has _) (by decide) hcs hsl dl_684 (fun o ho w H1 locs1 ws1 tys1 hov hpre hW1 => ?_)
  obtain ⟨hr, os2, hc3, hsm⟩ := hc2 o ho
  refine lv_aload_n hx hb dl_687 rfl (lv_at hl 2 rfl) ?_
  refine law_arg (k := 1) C0 hW1.2.2.2.1 hl (by decide) dl_688 dl_689 dl_690 dl_691 dl_692 ?_
  refine law_call (N := tM50) (Y := tY50) (vs := [.int (xs 1)]) (rest := w.toList ++ []) C0 hs hW1 hl.1 hc3 rfl rfl rfl rfl rfl (kIs_ok (c := 8070) (by decide +kernel)) (kIs_ok (c := 8071) (by decide +kernel)) (kIs_ok (c := 8072) (by decide +kernel)) (d0 := 12) rfl hr (lw_ad ham hpre) (has _) (lw_rest w) hcs hsl dl_693 (fun o2 ho2 w2 H2 locs2 ws2 tys2 hov2 hpre2 hW2 => ?_)
  obtain ⟨z, rfl, rfl⟩ := eSm_ok (hsm o2 ho2) hov hov2
  exact lv_icmp_eq (tgt := 1191) hx hb dl_696 (by decide) (fun _ => law_end C0 hW2.2.2.2.1 hl hcs hsl) (fun q => absurd rfl q)
theorem law_when {sr : List (Int × Int)} {σ : Nat → Int} (hs : eSg sr σ) {as : List eV} (hP : PairOk adK adV l sr 160 51 as) (C0 : lX p s m meth c b xs adK adV) {H : Heap} {locs : List Loc} {ws : va_W} {tys : List (ClassId × FieldType)} {ls : Array Slot} {ax am cs sl : Nat} (hW : lWd D s σ hFresh H locs ws tys) (hax : (ws.map Prod.fst)[0]? = some ax) (ham : (ws.map Prod.fst)[70]? = some am) (hl : lv_has ls 4 [(0, .ref b), (1, .ref ax), (2, .ref am), (3, .int 0)]) (hcs : cs ≤ 600000) (hsl : sl ≤ 7302250) (has : ∀ ad : List Nat, eAll (eOk ad σ) as [.int (xs 1)]) : W p l e room_1 s m #[Value.ref b] below meth c H locs cs sl (lw_Z below #[Value.ref b] s) (F0 m 701 ls []) := by
  obtain ⟨⟨hx, hb, -, -, -, -, -, -, -, -⟩, -, -⟩ := id C0
  obtain ⟨os, hc1, hc2⟩ := hP
  refine lv_aload_n hx hb dl_701 rfl (lv_at hl 1 rfl) ?_
  refine law_arg (k := 1) C0 hW.2.2.2.1 hl (by decide) dl_702 dl_703 dl_704 dl_705 dl_706 ?_
  refine law_call (N := tM160) (Y := tY160) (vs := [.int (xs 1)]) (rest := []) C0 hs hW hl.1 hc1 rfl rfl rfl rfl rfl (kIs_ok (c := 5077) (by decide +kernel)) (kIs_ok (c := 5078) (by decide +kernel)) (kIs_ok (c := 5079) (by decide +kernel)) (d0 := 11) rfl rfl hax (has _) (by decide) hcs hsl dl_707 (fun o ho w H1 locs1 ws1 tys1 hov hpre hW1 => ?_)
  obtain ⟨hr, os2, hc3, hsm⟩ := hc2 o ho
  refine lv_aload_n hx hb dl_710 rfl (lv_at hl 2 rfl) ?_
  refine law_arg (k := 1) C0 hW1.2.2.2.1 hl (by decide) dl_711 dl_712 dl_713 dl_714 dl_715 ?_
  refine law_call (N := tM51) (Y := tY51) (vs := [.int (xs 1)]) (rest := w.toList ++ []) C0 hs hW1 hl.1 hc3 rfl rfl rfl rfl rfl (kIs_ok (c := 8078) (by decide +kernel)) (kIs_ok (c := 8079) (by decide +kernel)) (kIs_ok (c := 8080) (by decide +kernel)) (d0 := 12) rfl hr (lw_ad ham hpre) (has _) (lw_rest w) hcs hsl dl_716 (fun o2 ho2 w2 H2 locs2 ws2 tys2 hov2 hpre2 hW2 => ?_)
  obtain ⟨z, rfl, rfl⟩ := eSm_ok (hsm o2 ho2) hov hov2
  exact lv_icmp_eq (tgt := 1191) hx hb dl_719 (by decide) (fun _ => law_end C0 hW2.2.2.2.1 hl hcs hsl) (fun q => absurd rfl q)
theorem law_thick {sr : List (Int × Int)} {σ : Nat → Int} (hs : eSg sr σ) {as : List eV} (hP : PairOk adK adV l sr 161 52 as) (C0 : lX p s m meth c b xs adK adV) {H : Heap} {locs : List Loc} {ws : va_W} {tys : List (ClassId × FieldType)} {ls : Array Slot} {ax am cs sl : Nat} (hW : lWd D s σ hFresh H locs ws tys) (hax : (ws.map Prod.fst)[0]? = some ax) (ham : (ws.map Prod.fst)[70]? = some am) (hl : lv_has ls 4 [(0, .ref b), (1, .ref ax), (2, .ref am), (3, .int 0)]) (hcs : cs ≤ 600000) (hsl : sl ≤ 7302250) (has : ∀ ad : List Nat, eAll (eOk ad σ) as [.int (xs 1)]) : W p l e room_1 s m #[Value.ref b] below meth c H locs cs sl (lw_Z below #[Value.ref b] s) (F0 m 724 ls []) := by
  obtain ⟨⟨hx, hb, -, -, -, -, -, -, -, -⟩, -, -⟩ := id C0
  obtain ⟨os, hc1, hc2⟩ := hP
  refine lv_aload_n hx hb dl_724 rfl (lv_at hl 1 rfl) ?_
  refine law_arg (k := 1) C0 hW.2.2.2.1 hl (by decide) dl_725 dl_726 dl_727 dl_728 dl_729 ?_
  refine law_call (N := tM161) (Y := tY161) (vs := [.int (xs 1)]) (rest := []) C0 hs hW hl.1 hc1 rfl rfl rfl rfl rfl (kIs_ok (c := 5088) (by decide +kernel)) (kIs_ok (c := 5089) (by decide +kernel)) (kIs_ok (c := 5090) (by decide +kernel)) (d0 := 11) rfl rfl hax (has _) (by decide) hcs hsl dl_730 (fun o ho w H1 locs1 ws1 tys1 hov hpre hW1 => ?_)
  obtain ⟨hr, os2, hc3, hsm⟩ := hc2 o ho
  refine lv_aload_n hx hb dl_733 rfl (lv_at hl 2 rfl) ?_
  refine law_arg (k := 1) C0 hW1.2.2.2.1 hl (by decide) dl_734 dl_735 dl_736 dl_737 dl_738 ?_
  refine law_call (N := tM52) (Y := tY52) (vs := [.int (xs 1)]) (rest := w.toList ++ []) C0 hs hW1 hl.1 hc3 rfl rfl rfl rfl rfl (kIs_ok (c := 8086) (by decide +kernel)) (kIs_ok (c := 8087) (by decide +kernel)) (kIs_ok (c := 8088) (by decide +kernel)) (d0 := 12) rfl hr (lw_ad ham hpre) (has _) (lw_rest w) hcs hsl dl_739 (fun o2 ho2 w2 H2 locs2 ws2 tys2 hov2 hpre2 hW2 => ?_)
  obtain ⟨z, rfl, rfl⟩ := eSm_ok (hsm o2 ho2) hov hov2
  exact lv_icmp_eq (tgt := 1191) hx hb dl_742 (by decide) (fun _ => law_end C0 hW2.2.2.2.1 hl hcs hsl) (fun q => absurd rfl q)
theorem law_cut {sr : List (Int × Int)} {σ : Nat → Int} (hs : eSg sr σ) {as : List eV} (hP : PairOk adK adV l sr 162 54 as) (C0 : lX p s m meth c b xs adK adV) {H : Heap} {locs : List Loc} {ws : va_W} {tys : List (ClassId × FieldType)} {ls : Array Slot} {ax am cs sl : Nat} (hW : lWd D s σ hFresh H locs ws tys) (hax : (ws.map Prod.fst)[0]? = some ax) (ham : (ws.map Prod.fst)[70]? = some am) (hl : lv_has ls 4 [(0, .ref b), (1, .ref ax), (2, .ref am), (3, .int 0)]) (hcs : cs ≤ 600000) (hsl : sl ≤ 7302250) (has : ∀ ad : List Nat, eAll (eOk ad σ) as [.int (xs 1), .int (xs 2)]) : W p l e room_1 s m #[Value.ref b] below meth c H locs cs sl (lw_Z below #[Value.ref b] s) (F0 m 747 ls []) := by
  obtain ⟨⟨hx, hb, -, -, -, -, -, -, -, -⟩, -, -⟩ := id C0
  obtain ⟨os, hc1, hc2⟩ := hP
  refine lv_aload_n hx hb dl_747 rfl (lv_at hl 1 rfl) ?_
  refine law_arg (k := 1) C0 hW.2.2.2.1 hl (by decide) dl_748 dl_749 dl_750 dl_751 dl_752 ?_
  refine law_arg (k := 2) C0 hW.2.2.2.1 hl (by decide) dl_753 dl_754 dl_755 dl_756 dl_757 ?_
  refine law_call (N := tM162) (Y := tY162) (vs := [.int (xs 1), .int (xs 2)]) (rest := []) C0 hs hW hl.1 hc1 rfl rfl rfl rfl rfl (kIs_ok (c := 5097) (by decide +kernel)) (kIs_ok (c := 5098) (by decide +kernel)) (kIs_ok (c := 5099) (by decide +kernel)) (d0 := 11) rfl rfl hax (has _) (by decide) hcs hsl dl_758 (fun o ho w H1 locs1 ws1 tys1 hov hpre hW1 => ?_)
  obtain ⟨hr, os2, hc3, hsm⟩ := hc2 o ho
  refine lv_aload_n hx hb dl_761 rfl (lv_at hl 2 rfl) ?_
  refine law_arg (k := 1) C0 hW1.2.2.2.1 hl (by decide) dl_762 dl_763 dl_764 dl_765 dl_766 ?_
  refine law_arg (k := 2) C0 hW1.2.2.2.1 hl (by decide) dl_767 dl_768 dl_769 dl_770 dl_771 ?_
  refine law_call (N := tM54) (Y := tY54) (vs := [.int (xs 1), .int (xs 2)]) (rest := w.toList ++ []) C0 hs hW1 hl.1 hc3 rfl rfl rfl rfl rfl (kIs_ok (c := 8090) (by decide +kernel)) (kIs_ok (c := 8091) (by decide +kernel)) (kIs_ok (c := 8092) (by decide +kernel)) (d0 := 12) rfl hr (lw_ad ham hpre) (has _) (lw_rest w) hcs hsl dl_772 (fun o2 ho2 w2 H2 locs2 ws2 tys2 hov2 hpre2 hW2 => ?_)
  obtain ⟨z, rfl, rfl⟩ := eSm_ok (hsm o2 ho2) hov hov2
  exact lv_icmp_eq (tgt := 1191) hx hb dl_775 (by decide) (fun _ => law_end C0 hW2.2.2.2.1 hl hcs hsl) (fun q => absurd rfl q)
theorem law_share {sr : List (Int × Int)} {σ : Nat → Int} (hs : eSg sr σ) {as : List eV} (hP : PairOk adK adV l sr 163 55 as) (C0 : lX p s m meth c b xs adK adV) {H : Heap} {locs : List Loc} {ws : va_W} {tys : List (ClassId × FieldType)} {ls : Array Slot} {ax am cs sl : Nat} (hW : lWd D s σ hFresh H locs ws tys) (hax : (ws.map Prod.fst)[0]? = some ax) (ham : (ws.map Prod.fst)[70]? = some am) (hl : lv_has ls 4 [(0, .ref b), (1, .ref ax), (2, .ref am), (3, .int 0)]) (hcs : cs ≤ 600000) (hsl : sl ≤ 7302250) (has : ∀ ad : List Nat, eAll (eOk ad σ) as [.int (xs 1), .int (xs 2)]) : W p l e room_1 s m #[Value.ref b] below meth c H locs cs sl (lw_Z below #[Value.ref b] s) (F0 m 780 ls []) := by
  obtain ⟨⟨hx, hb, -, -, -, -, -, -, -, -⟩, -, -⟩ := id C0
  obtain ⟨os, hc1, hc2⟩ := hP
  refine lv_aload_n hx hb dl_780 rfl (lv_at hl 1 rfl) ?_
  refine law_arg (k := 1) C0 hW.2.2.2.1 hl (by decide) dl_781 dl_782 dl_783 dl_784 dl_785 ?_
  refine law_arg (k := 2) C0 hW.2.2.2.1 hl (by decide) dl_786 dl_787 dl_788 dl_789 dl_790 ?_
  refine law_call (N := tM163) (Y := tY163) (vs := [.int (xs 1), .int (xs 2)]) (rest := []) C0 hs hW hl.1 hc1 rfl rfl rfl rfl rfl (kIs_ok (c := 5120) (by decide +kernel)) (kIs_ok (c := 5121) (by decide +kernel)) (kIs_ok (c := 5122) (by decide +kernel)) (d0 := 11) rfl rfl hax (has _) (by decide) hcs hsl dl_791 (fun o ho w H1 locs1 ws1 tys1 hov hpre hW1 => ?_)
  obtain ⟨hr, os2, hc3, hsm⟩ := hc2 o ho
  refine lv_aload_n hx hb dl_794 rfl (lv_at hl 2 rfl) ?_
  refine law_arg (k := 1) C0 hW1.2.2.2.1 hl (by decide) dl_795 dl_796 dl_797 dl_798 dl_799 ?_
  refine law_arg (k := 2) C0 hW1.2.2.2.1 hl (by decide) dl_800 dl_801 dl_802 dl_803 dl_804 ?_
  refine law_call (N := tM55) (Y := tY55) (vs := [.int (xs 1), .int (xs 2)]) (rest := w.toList ++ []) C0 hs hW1 hl.1 hc3 rfl rfl rfl rfl rfl (kIs_ok (c := 8111) (by decide +kernel)) (kIs_ok (c := 8112) (by decide +kernel)) (kIs_ok (c := 8113) (by decide +kernel)) (d0 := 12) rfl hr (lw_ad ham hpre) (has _) (lw_rest w) hcs hsl dl_805 (fun o2 ho2 w2 H2 locs2 ws2 tys2 hov2 hpre2 hW2 => ?_)
  obtain ⟨z, rfl, rfl⟩ := eSm_ok (hsm o2 ho2) hov hov2
  exact lv_icmp_eq (tgt := 1191) hx hb dl_808 (by decide) (fun _ => law_end C0 hW2.2.2.2.1 hl hcs hsl) (fun q => absurd rfl q)
theorem law_without {sr : List (Int × Int)} {σ : Nat → Int} (hs : eSg sr σ) {as : List eV} (hP : PairOk adK adV l sr 164 57 as) (C0 : lX p s m meth c b xs adK adV) {H : Heap} {locs : List Loc} {ws : va_W} {tys : List (ClassId × FieldType)} {ls : Array Slot} {ax am cs sl : Nat} (hW : lWd D s σ hFresh H locs ws tys) (hax : (ws.map Prod.fst)[0]? = some ax) (ham : (ws.map Prod.fst)[70]? = some am) (hl : lv_has ls 4 [(0, .ref b), (1, .ref ax), (2, .ref am), (3, .int 0)]) (hcs : cs ≤ 600000) (hsl : sl ≤ 7302250) (has : ∀ ad : List Nat, eAll (eOk ad σ) as [.int (xs 1)]) : W p l e room_1 s m #[Value.ref b] below meth c H locs cs sl (lw_Z below #[Value.ref b] s) (F0 m 813 ls []) := by
  obtain ⟨⟨hx, hb, -, -, -, -, -, -, -, -⟩, -, -⟩ := id C0
  obtain ⟨os, hc1, hc2⟩ := hP
  refine lv_aload_n hx hb dl_813 rfl (lv_at hl 1 rfl) ?_
  refine law_arg (k := 1) C0 hW.2.2.2.1 hl (by decide) dl_814 dl_815 dl_816 dl_817 dl_818 ?_
  refine law_call (N := tM164) (Y := tY164) (vs := [.int (xs 1)]) (rest := []) C0 hs hW hl.1 hc1 rfl rfl rfl rfl rfl (kIs_ok (c := 5124) (by decide +kernel)) (kIs_ok (c := 5125) (by decide +kernel)) (kIs_ok (c := 5126) (by decide +kernel)) (d0 := 11) rfl rfl hax (has _) (by decide) hcs hsl dl_819 (fun o ho w H1 locs1 ws1 tys1 hov hpre hW1 => ?_)
  obtain ⟨hr, os2, hc3, hsm⟩ := hc2 o ho
  refine lv_aload_n hx hb dl_822 rfl (lv_at hl 2 rfl) ?_
  refine law_arg (k := 1) C0 hW1.2.2.2.1 hl (by decide) dl_823 dl_824 dl_825 dl_826 dl_827 ?_
  refine law_call (N := tM57) (Y := tY57) (vs := [.int (xs 1)]) (rest := w.toList ++ []) C0 hs hW1 hl.1 hc3 rfl rfl rfl rfl rfl (kIs_ok (c := 8115) (by decide +kernel)) (kIs_ok (c := 8116) (by decide +kernel)) (kIs_ok (c := 8117) (by decide +kernel)) (d0 := 12) rfl hr (lw_ad ham hpre) (has _) (lw_rest w) hcs hsl dl_828 (fun o2 ho2 w2 H2 locs2 ws2 tys2 hov2 hpre2 hW2 => ?_)
  obtain ⟨z, rfl, rfl⟩ := eSm_ok (hsm o2 ho2) hov hov2
  exact lv_icmp_eq (tgt := 1191) hx hb dl_831 (by decide) (fun _ => law_end C0 hW2.2.2.2.1 hl hcs hsl) (fun q => absurd rfl q)
theorem law_needed {sr : List (Int × Int)} {σ : Nat → Int} (hs : eSg sr σ) {as : List eV} (hP : PairOk adK adV l sr 165 58 as) (C0 : lX p s m meth c b xs adK adV) {H : Heap} {locs : List Loc} {ws : va_W} {tys : List (ClassId × FieldType)} {ls : Array Slot} {ax am cs sl : Nat} (hW : lWd D s σ hFresh H locs ws tys) (hax : (ws.map Prod.fst)[0]? = some ax) (ham : (ws.map Prod.fst)[70]? = some am) (hl : lv_has ls 4 [(0, .ref b), (1, .ref ax), (2, .ref am), (3, .int 0)]) (hcs : cs ≤ 600000) (hsl : sl ≤ 7302250) (has : ∀ ad : List Nat, eAll (eOk ad σ) as []) : W p l e room_1 s m #[Value.ref b] below meth c H locs cs sl (lw_Z below #[Value.ref b] s) (F0 m 836 ls []) := by
  obtain ⟨⟨hx, hb, -, -, -, -, -, -, -, -⟩, -, -⟩ := id C0
  obtain ⟨os, hc1, hc2⟩ := hP
  refine lv_aload_n hx hb dl_836 rfl (lv_at hl 1 rfl) ?_
  refine law_call (N := tM165) (Y := tY165) (vs := []) (rest := []) C0 hs hW hl.1 hc1 rfl rfl rfl rfl rfl (kIs_ok (c := 5133) (by decide +kernel)) (kIs_ok (c := 5134) (by decide +kernel)) (kIs_ok (c := 5135) (by decide +kernel)) (d0 := 11) rfl rfl hax (has _) (by decide) hcs hsl dl_837 (fun o ho w H1 locs1 ws1 tys1 hov hpre hW1 => ?_)
  obtain ⟨hr, os2, hc3, hsm⟩ := hc2 o ho
  refine lv_aload_n hx hb dl_840 rfl (lv_at hl 2 rfl) ?_
  refine law_call (N := tM58) (Y := tY58) (vs := []) (rest := w.toList ++ []) C0 hs hW1 hl.1 hc3 rfl rfl rfl rfl rfl (kIs_ok (c := 8127) (by decide +kernel)) (kIs_ok (c := 8128) (by decide +kernel)) (kIs_ok (c := 8129) (by decide +kernel)) (d0 := 12) rfl hr (lw_ad ham hpre) (has _) (lw_rest w) hcs hsl dl_841 (fun o2 ho2 w2 H2 locs2 ws2 tys2 hov2 hpre2 hW2 => ?_)
  obtain ⟨z, rfl, rfl⟩ := eSm_ok (hsm o2 ho2) hov hov2
  exact lv_icmp_eq (tgt := 1191) hx hb dl_844 (by decide) (fun _ => law_end C0 hW2.2.2.2.1 hl hcs hsl) (fun q => absurd rfl q)
theorem law_hottest {sr : List (Int × Int)} {σ : Nat → Int} (hs : eSg sr σ) {as : List eV} (hP : PairOk adK adV l sr 166 59 as) (C0 : lX p s m meth c b xs adK adV) {H : Heap} {locs : List Loc} {ws : va_W} {tys : List (ClassId × FieldType)} {ls : Array Slot} {ax am cs sl : Nat} (hW : lWd D s σ hFresh H locs ws tys) (hax : (ws.map Prod.fst)[0]? = some ax) (ham : (ws.map Prod.fst)[70]? = some am) (hl : lv_has ls 4 [(0, .ref b), (1, .ref ax), (2, .ref am), (3, .int 0)]) (hcs : cs ≤ 600000) (hsl : sl ≤ 7302250) (has : ∀ ad : List Nat, eAll (eOk ad σ) as [.int (xs 1)]) : W p l e room_1 s m #[Value.ref b] below meth c H locs cs sl (lw_Z below #[Value.ref b] s) (F0 m 849 ls []) := by
  obtain ⟨⟨hx, hb, -, -, -, -, -, -, -, -⟩, -, -⟩ := id C0
  obtain ⟨os, hc1, hc2⟩ := hP
  refine lv_aload_n hx hb dl_849 rfl (lv_at hl 1 rfl) ?_
  refine law_arg (k := 1) C0 hW.2.2.2.1 hl (by decide) dl_850 dl_851 dl_852 dl_853 dl_854 ?_
  refine law_call (N := tM166) (Y := tY166) (vs := [.int (xs 1)]) (rest := []) C0 hs hW hl.1 hc1 rfl rfl rfl rfl rfl (kIs_ok (c := 5137) (by decide +kernel)) (kIs_ok (c := 5138) (by decide +kernel)) (kIs_ok (c := 5139) (by decide +kernel)) (d0 := 11) rfl rfl hax (has _) (by decide) hcs hsl dl_855 (fun o ho w H1 locs1 ws1 tys1 hov hpre hW1 => ?_)
  obtain ⟨hr, os2, hc3, hsm⟩ := hc2 o ho
  refine lv_aload_n hx hb dl_858 rfl (lv_at hl 2 rfl) ?_
  refine law_arg (k := 1) C0 hW1.2.2.2.1 hl (by decide) dl_859 dl_860 dl_861 dl_862 dl_863 ?_
  refine law_call (N := tM59) (Y := tY59) (vs := [.int (xs 1)]) (rest := w.toList ++ []) C0 hs hW1 hl.1 hc3 rfl rfl rfl rfl rfl (kIs_ok (c := 8131) (by decide +kernel)) (kIs_ok (c := 8132) (by decide +kernel)) (kIs_ok (c := 8133) (by decide +kernel)) (d0 := 12) rfl hr (lw_ad ham hpre) (has _) (lw_rest w) hcs hsl dl_864 (fun o2 ho2 w2 H2 locs2 ws2 tys2 hov2 hpre2 hW2 => ?_)
  obtain ⟨z, rfl, rfl⟩ := eSm_ok (hsm o2 ho2) hov hov2
  exact lv_icmp_eq (tgt := 1191) hx hb dl_867 (by decide) (fun _ => law_end C0 hW2.2.2.2.1 hl hcs hsl) (fun q => absurd rfl q)
theorem law_clash {sr : List (Int × Int)} {σ : Nat → Int} (hs : eSg sr σ) {as : List eV} (hP : PairOk adK adV l sr 167 60 as) (C0 : lX p s m meth c b xs adK adV) {H : Heap} {locs : List Loc} {ws : va_W} {tys : List (ClassId × FieldType)} {ls : Array Slot} {ax am cs sl : Nat} (hW : lWd D s σ hFresh H locs ws tys) (hax : (ws.map Prod.fst)[0]? = some ax) (ham : (ws.map Prod.fst)[70]? = some am) (hl : lv_has ls 4 [(0, .ref b), (1, .ref ax), (2, .ref am), (3, .int 0)]) (hcs : cs ≤ 600000) (hsl : sl ≤ 7302250) (has : ∀ ad : List Nat, eAll (eOk ad σ) as [.int (xs 1), .int (xs 2)]) : W p l e room_1 s m #[Value.ref b] below meth c H locs cs sl (lw_Z below #[Value.ref b] s) (F0 m 872 ls []) := by
  obtain ⟨⟨hx, hb, -, -, -, -, -, -, -, -⟩, -, -⟩ := id C0
  obtain ⟨os, hc1, hc2⟩ := hP
  refine lv_aload_n hx hb dl_872 rfl (lv_at hl 1 rfl) ?_
  refine law_arg (k := 1) C0 hW.2.2.2.1 hl (by decide) dl_873 dl_874 dl_875 dl_876 dl_877 ?_
  refine law_arg (k := 2) C0 hW.2.2.2.1 hl (by decide) dl_878 dl_879 dl_880 dl_881 dl_882 ?_
  refine law_call (N := tM167) (Y := tY167) (vs := [.int (xs 1), .int (xs 2)]) (rest := []) C0 hs hW hl.1 hc1 rfl rfl rfl rfl rfl (kIs_ok (c := 5142) (by decide +kernel)) (kIs_ok (c := 5143) (by decide +kernel)) (kIs_ok (c := 5144) (by decide +kernel)) (d0 := 11) rfl rfl hax (has _) (by decide) hcs hsl dl_883 (fun o ho w H1 locs1 ws1 tys1 hov hpre hW1 => ?_)
  obtain ⟨hr, os2, hc3, hsm⟩ := hc2 o ho
  refine lv_aload_n hx hb dl_886 rfl (lv_at hl 2 rfl) ?_
  refine law_arg (k := 1) C0 hW1.2.2.2.1 hl (by decide) dl_887 dl_888 dl_889 dl_890 dl_891 ?_
  refine law_arg (k := 2) C0 hW1.2.2.2.1 hl (by decide) dl_892 dl_893 dl_894 dl_895 dl_896 ?_
  refine law_call (N := tM60) (Y := tY60) (vs := [.int (xs 1), .int (xs 2)]) (rest := w.toList ++ []) C0 hs hW1 hl.1 hc3 rfl rfl rfl rfl rfl (kIs_ok (c := 8135) (by decide +kernel)) (kIs_ok (c := 8136) (by decide +kernel)) (kIs_ok (c := 8137) (by decide +kernel)) (d0 := 12) rfl hr (lw_ad ham hpre) (has _) (lw_rest w) hcs hsl dl_897 (fun o2 ho2 w2 H2 locs2 ws2 tys2 hov2 hpre2 hW2 => ?_)
  obtain ⟨z, rfl, rfl⟩ := eSm_ok (hsm o2 ho2) hov hov2
  exact lv_icmp_eq (tgt := 1191) hx hb dl_900 (by decide) (fun _ => law_end C0 hW2.2.2.2.1 hl hcs hsl) (fun q => absurd rfl q)
theorem law_then {sr : List (Int × Int)} {σ : Nat → Int} (hs : eSg sr σ) {as : List eV} (hP : PairOk adK adV l sr 168 61 as) (C0 : lX p s m meth c b xs adK adV) {H : Heap} {locs : List Loc} {ws : va_W} {tys : List (ClassId × FieldType)} {ls : Array Slot} {ax am cs sl : Nat} (hW : lWd D s σ hFresh H locs ws tys) (hax : (ws.map Prod.fst)[0]? = some ax) (ham : (ws.map Prod.fst)[70]? = some am) (hl : lv_has ls 4 [(0, .ref b), (1, .ref ax), (2, .ref am), (3, .int 0)]) (hcs : cs ≤ 600000) (hsl : sl ≤ 7302250) (has : ∀ ad : List Nat, eAll (eOk ad σ) as [.int (xs 1), .int (xs 2)]) : W p l e room_1 s m #[Value.ref b] below meth c H locs cs sl (lw_Z below #[Value.ref b] s) (F0 m 905 ls []) := by
  obtain ⟨⟨hx, hb, -, -, -, -, -, -, -, -⟩, -, -⟩ := id C0
  obtain ⟨os, hc1, hc2⟩ := hP
  refine lv_aload_n hx hb dl_905 rfl (lv_at hl 1 rfl) ?_
  refine law_arg (k := 1) C0 hW.2.2.2.1 hl (by decide) dl_906 dl_907 dl_908 dl_909 dl_910 ?_
  refine law_arg (k := 2) C0 hW.2.2.2.1 hl (by decide) dl_911 dl_912 dl_913 dl_914 dl_915 ?_
  refine law_call (N := tM168) (Y := tY168) (vs := [.int (xs 1), .int (xs 2)]) (rest := []) C0 hs hW hl.1 hc1 rfl rfl rfl rfl rfl (kIs_ok (c := 5151) (by decide +kernel)) (kIs_ok (c := 5152) (by decide +kernel)) (kIs_ok (c := 5153) (by decide +kernel)) (d0 := 11) rfl rfl hax (has _) (by decide) hcs hsl dl_916 (fun o ho w H1 locs1 ws1 tys1 hov hpre hW1 => ?_)
  obtain ⟨hr, os2, hc3, hsm⟩ := hc2 o ho
  refine lv_aload_n hx hb dl_919 rfl (lv_at hl 2 rfl) ?_
  refine law_arg (k := 1) C0 hW1.2.2.2.1 hl (by decide) dl_920 dl_921 dl_922 dl_923 dl_924 ?_
  refine law_arg (k := 2) C0 hW1.2.2.2.1 hl (by decide) dl_925 dl_926 dl_927 dl_928 dl_929 ?_
  refine law_call (N := tM61) (Y := tY61) (vs := [.int (xs 1), .int (xs 2)]) (rest := w.toList ++ []) C0 hs hW1 hl.1 hc3 rfl rfl rfl rfl rfl (kIs_ok (c := 8139) (by decide +kernel)) (kIs_ok (c := 8140) (by decide +kernel)) (kIs_ok (c := 8141) (by decide +kernel)) (d0 := 12) rfl hr (lw_ad ham hpre) (has _) (lw_rest w) hcs hsl dl_930 (fun o2 ho2 w2 H2 locs2 ws2 tys2 hov2 hpre2 hW2 => ?_)
  obtain ⟨z, rfl, rfl⟩ := eSm_ok (hsm o2 ho2) hov hov2
  exact lv_icmp_eq (tgt := 1191) hx hb dl_933 (by decide) (fun _ => law_end C0 hW2.2.2.2.1 hl hcs hsl) (fun q => absurd rfl q)
theorem law_litIn {sr : List (Int × Int)} {σ : Nat → Int} (hs : eSg sr σ) {as : List eV} (hP : PairOk adK adV l sr 169 62 as) (C0 : lX p s m meth c b xs adK adV) {H : Heap} {locs : List Loc} {ws : va_W} {tys : List (ClassId × FieldType)} {ls : Array Slot} {ax am cs sl : Nat} (hW : lWd D s σ hFresh H locs ws tys) (hax : (ws.map Prod.fst)[0]? = some ax) (ham : (ws.map Prod.fst)[70]? = some am) (hl : lv_has ls 4 [(0, .ref b), (1, .ref ax), (2, .ref am), (3, .int 0)]) (hcs : cs ≤ 600000) (hsl : sl ≤ 7302250) (has : ∀ ad : List Nat, eAll (eOk ad σ) as [.int (xs 1), .int (xs 2)]) : W p l e room_1 s m #[Value.ref b] below meth c H locs cs sl (lw_Z below #[Value.ref b] s) (F0 m 938 ls []) := by
  obtain ⟨⟨hx, hb, -, -, -, -, -, -, -, -⟩, -, -⟩ := id C0
  obtain ⟨os, hc1, hc2⟩ := hP
  refine lv_aload_n hx hb dl_938 rfl (lv_at hl 1 rfl) ?_
  refine law_arg (k := 1) C0 hW.2.2.2.1 hl (by decide) dl_939 dl_940 dl_941 dl_942 dl_943 ?_
  refine law_arg (k := 2) C0 hW.2.2.2.1 hl (by decide) dl_944 dl_945 dl_946 dl_947 dl_948 ?_
  refine law_call (N := tM169) (Y := tY169) (vs := [.int (xs 1), .int (xs 2)]) (rest := []) C0 hs hW hl.1 hc1 rfl rfl rfl rfl rfl (kIs_ok (c := 5160) (by decide +kernel)) (kIs_ok (c := 5161) (by decide +kernel)) (kIs_ok (c := 5162) (by decide +kernel)) (d0 := 11) rfl rfl hax (has _) (by decide) hcs hsl dl_949 (fun o ho w H1 locs1 ws1 tys1 hov hpre hW1 => ?_)
  obtain ⟨hr, os2, hc3, hsm⟩ := hc2 o ho
  refine lv_aload_n hx hb dl_952 rfl (lv_at hl 2 rfl) ?_
  refine law_arg (k := 1) C0 hW1.2.2.2.1 hl (by decide) dl_953 dl_954 dl_955 dl_956 dl_957 ?_
  refine law_arg (k := 2) C0 hW1.2.2.2.1 hl (by decide) dl_958 dl_959 dl_960 dl_961 dl_962 ?_
  refine law_call (N := tM62) (Y := tY62) (vs := [.int (xs 1), .int (xs 2)]) (rest := w.toList ++ []) C0 hs hW1 hl.1 hc3 rfl rfl rfl rfl rfl (kIs_ok (c := 8143) (by decide +kernel)) (kIs_ok (c := 8144) (by decide +kernel)) (kIs_ok (c := 8145) (by decide +kernel)) (d0 := 12) rfl hr (lw_ad ham hpre) (has _) (lw_rest w) hcs hsl dl_963 (fun o2 ho2 w2 H2 locs2 ws2 tys2 hov2 hpre2 hW2 => ?_)
  obtain ⟨z, rfl, rfl⟩ := eSm_ok (hsm o2 ho2) hov hov2
  exact lv_icmp_eq (tgt := 1191) hx hb dl_966 (by decide) (fun _ => law_end C0 hW2.2.2.2.1 hl hcs hsl) (fun q => absurd rfl q)
theorem law_year {sr : List (Int × Int)} {σ : Nat → Int} (hs : eSg sr σ) {as : List eV} (hP : PairOk adK adV l sr 170 63 as) (C0 : lX p s m meth c b xs adK adV) {H : Heap} {locs : List Loc} {ws : va_W} {tys : List (ClassId × FieldType)} {ls : Array Slot} {ax am cs sl : Nat} (hW : lWd D s σ hFresh H locs ws tys) (hax : (ws.map Prod.fst)[0]? = some ax) (ham : (ws.map Prod.fst)[70]? = some am) (hl : lv_has ls 4 [(0, .ref b), (1, .ref ax), (2, .ref am), (3, .int 0)]) (hcs : cs ≤ 600000) (hsl : sl ≤ 7302250) (has : ∀ ad : List Nat, eAll (eOk ad σ) as [.int (xs 1), .int (xs 2)]) : W p l e room_1 s m #[Value.ref b] below meth c H locs cs sl (lw_Z below #[Value.ref b] s) (F0 m 971 ls []) := by
  obtain ⟨⟨hx, hb, -, -, -, -, -, -, -, -⟩, -, -⟩ := id C0
  obtain ⟨os, hc1, hc2⟩ := hP
  refine lv_aload_n hx hb dl_971 rfl (lv_at hl 1 rfl) ?_
  refine law_arg (k := 1) C0 hW.2.2.2.1 hl (by decide) dl_972 dl_973 dl_974 dl_975 dl_976 ?_
  refine law_arg (k := 2) C0 hW.2.2.2.1 hl (by decide) dl_977 dl_978 dl_979 dl_980 dl_981 ?_
  refine law_call (N := tM170) (Y := tY170) (vs := [.int (xs 1), .int (xs 2)]) (rest := []) C0 hs hW hl.1 hc1 rfl rfl rfl rfl rfl (kIs_ok (c := 5164) (by decide +kernel)) (kIs_ok (c := 5165) (by decide +kernel)) (kIs_ok (c := 5166) (by decide +kernel)) (d0 := 11) rfl rfl hax (has _) (by decide) hcs hsl dl_982 (fun o ho w H1 locs1 ws1 tys1 hov hpre hW1 => ?_)
  obtain ⟨hr, os2, hc3, hsm⟩ := hc2 o ho
  refine lv_aload_n hx hb dl_985 rfl (lv_at hl 2 rfl) ?_
  refine law_arg (k := 1) C0 hW1.2.2.2.1 hl (by decide) dl_986 dl_987 dl_988 dl_989 dl_990 ?_
  refine law_arg (k := 2) C0 hW1.2.2.2.1 hl (by decide) dl_991 dl_992 dl_993 dl_994 dl_995 ?_
  refine law_call (N := tM63) (Y := tY63) (vs := [.int (xs 1), .int (xs 2)]) (rest := w.toList ++ []) C0 hs hW1 hl.1 hc3 rfl rfl rfl rfl rfl (kIs_ok (c := 8147) (by decide +kernel)) (kIs_ok (c := 8148) (by decide +kernel)) (kIs_ok (c := 8149) (by decide +kernel)) (d0 := 12) rfl hr (lw_ad ham hpre) (has _) (lw_rest w) hcs hsl dl_996 (fun o2 ho2 w2 H2 locs2 ws2 tys2 hov2 hpre2 hW2 => ?_)
  obtain ⟨z, rfl, rfl⟩ := eSm_ok (hsm o2 ho2) hov hov2
  exact lv_icmp_eq (tgt := 1191) hx hb dl_999 (by decide) (fun _ => law_end C0 hW2.2.2.2.1 hl hcs hsl) (fun q => absurd rfl q)
theorem law_tell0 {sr : List (Int × Int)} {σ : Nat → Int} (hs : eSg sr σ) {as : List eV} (hP : PairOk adK adV l sr 171 64 as) (C0 : lX p s m meth c b xs adK adV) (hz : xs 2 = 0) {H : Heap} {locs : List Loc} {ws : va_W} {tys : List (ClassId × FieldType)} {ls : Array Slot} {ax am cs sl : Nat} (hW : lWd D s σ hFresh H locs ws tys) (hax : (ws.map Prod.fst)[0]? = some ax) (ham : (ws.map Prod.fst)[70]? = some am) (hl : lv_has ls 4 [(0, .ref b), (1, .ref ax), (2, .ref am), (3, .int 0)]) (hcs : cs ≤ 600000) (hsl : sl ≤ 7302250) (has : ∀ ad : List Nat, eAll (eOk ad σ) as [.int (xs 1), .int 0]) : W p l e room_1 s m #[Value.ref b] below meth c H locs cs sl (lw_Z below #[Value.ref b] s) (F0 m 1004 ls []) := by
  obtain ⟨⟨hx, hb, -, -, -, -, -, -, -, -⟩, -, -⟩ := id C0
  obtain ⟨os, hc1, hc2⟩ := hP
  refine lv_aload_n hx hb dl_1004 rfl (lv_at hl 1 rfl) ?_
  refine law_arg (k := 1) C0 hW.2.2.2.1 hl (by decide) dl_1005 dl_1006 dl_1007 dl_1008 dl_1009 ?_
  refine law_arg (k := 2) C0 hW.2.2.2.1 hl (by decide) dl_1010 dl_1011 dl_1012 dl_1013 dl_1014 ?_
  refine lv_if_eq (tgt := 1022) hx hb dl_1015 (by decide) (fun _ => ?_) (fun q => absurd hz q)
  refine lv_iconst (v := 0) hx hb dl_1022 (by decide) ?_
  refine law_call (N := tM171) (Y := tY171) (vs := [.int (xs 1), .int 0]) (rest := []) C0 hs hW hl.1 hc1 rfl rfl rfl rfl rfl (kIs_ok (c := 5177) (by decide +kernel)) (kIs_ok (c := 5178) (by decide +kernel)) (kIs_ok (c := 5179) (by decide +kernel)) (d0 := 11) rfl rfl hax (has _) (by decide) hcs hsl dl_1023 (fun o ho w H1 locs1 ws1 tys1 hov hpre hW1 => ?_)
  obtain ⟨hr, os2, hc3, hsm⟩ := hc2 o ho
  refine lv_aload_n hx hb dl_1026 rfl (lv_at hl 2 rfl) ?_
  refine law_arg (k := 1) C0 hW1.2.2.2.1 hl (by decide) dl_1027 dl_1028 dl_1029 dl_1030 dl_1031 ?_
  refine law_arg (k := 2) C0 hW1.2.2.2.1 hl (by decide) dl_1032 dl_1033 dl_1034 dl_1035 dl_1036 ?_
  refine lv_if_eq (tgt := 1044) hx hb dl_1037 (by decide) (fun _ => ?_) (fun q => absurd hz q)
  refine lv_iconst (v := 0) hx hb dl_1044 (by decide) ?_
  refine law_call (N := tM64) (Y := tY64) (vs := [.int (xs 1), .int 0]) (rest := w.toList ++ []) C0 hs hW1 hl.1 hc3 rfl rfl rfl rfl rfl (kIs_ok (c := 8151) (by decide +kernel)) (kIs_ok (c := 8152) (by decide +kernel)) (kIs_ok (c := 8153) (by decide +kernel)) (d0 := 12) rfl hr (lw_ad ham hpre) (has _) (lw_rest w) hcs hsl dl_1045 (fun o2 ho2 w2 H2 locs2 ws2 tys2 hov2 hpre2 hW2 => ?_)
  obtain ⟨z, rfl, rfl⟩ := eSm_ok (hsm o2 ho2) hov hov2
  exact lv_icmp_eq (tgt := 1191) hx hb dl_1048 (by decide) (fun _ => law_end C0 hW2.2.2.2.1 hl hcs hsl) (fun q => absurd rfl q)
theorem law_tell1 {sr : List (Int × Int)} {σ : Nat → Int} (hs : eSg sr σ) {as : List eV} (hP : PairOk adK adV l sr 171 64 as) (C0 : lX p s m meth c b xs adK adV) (hz : ¬ xs 2 = 0) {H : Heap} {locs : List Loc} {ws : va_W} {tys : List (ClassId × FieldType)} {ls : Array Slot} {ax am cs sl : Nat} (hW : lWd D s σ hFresh H locs ws tys) (hax : (ws.map Prod.fst)[0]? = some ax) (ham : (ws.map Prod.fst)[70]? = some am) (hl : lv_has ls 4 [(0, .ref b), (1, .ref ax), (2, .ref am), (3, .int 0)]) (hcs : cs ≤ 600000) (hsl : sl ≤ 7302250) (has : ∀ ad : List Nat, eAll (eOk ad σ) as [.int (xs 1), .int 1]) : W p l e room_1 s m #[Value.ref b] below meth c H locs cs sl (lw_Z below #[Value.ref b] s) (F0 m 1004 ls []) := by
  obtain ⟨⟨hx, hb, -, -, -, -, -, -, -, -⟩, -, -⟩ := id C0
  obtain ⟨os, hc1, hc2⟩ := hP
  refine lv_aload_n hx hb dl_1004 rfl (lv_at hl 1 rfl) ?_
  refine law_arg (k := 1) C0 hW.2.2.2.1 hl (by decide) dl_1005 dl_1006 dl_1007 dl_1008 dl_1009 ?_
  refine law_arg (k := 2) C0 hW.2.2.2.1 hl (by decide) dl_1010 dl_1011 dl_1012 dl_1013 dl_1014 ?_
  refine lv_if_eq (tgt := 1022) hx hb dl_1015 (by decide) (fun q => absurd q hz) (fun _ => ?_)
  refine lv_iconst (v := 1) hx hb dl_1018 (by decide) ?_
  refine lv_goto (tgt := 1023) hx hb dl_1019 (by decide) ?_
  refine law_call (N := tM171) (Y := tY171) (vs := [.int (xs 1), .int 1]) (rest := []) C0 hs hW hl.1 hc1 rfl rfl rfl rfl rfl (kIs_ok (c := 5177) (by decide +kernel)) (kIs_ok (c := 5178) (by decide +kernel)) (kIs_ok (c := 5179) (by decide +kernel)) (d0 := 11) rfl rfl hax (has _) (by decide) hcs hsl dl_1023 (fun o ho w H1 locs1 ws1 tys1 hov hpre hW1 => ?_)
  obtain ⟨hr, os2, hc3, hsm⟩ := hc2 o ho
  refine lv_aload_n hx hb dl_1026 rfl (lv_at hl 2 rfl) ?_
  refine law_arg (k := 1) C0 hW1.2.2.2.1 hl (by decide) dl_1027 dl_1028 dl_1029 dl_1030 dl_1031 ?_
  refine law_arg (k := 2) C0 hW1.2.2.2.1 hl (by decide) dl_1032 dl_1033 dl_1034 dl_1035 dl_1036 ?_
  refine lv_if_eq (tgt := 1044) hx hb dl_1037 (by decide) (fun q => absurd q hz) (fun _ => ?_)
  refine lv_iconst (v := 1) hx hb dl_1040 (by decide) ?_
  refine lv_goto (tgt := 1045) hx hb dl_1041 (by decide) ?_
  refine law_call (N := tM64) (Y := tY64) (vs := [.int (xs 1), .int 1]) (rest := w.toList ++ []) C0 hs hW1 hl.1 hc3 rfl rfl rfl rfl rfl (kIs_ok (c := 8151) (by decide +kernel)) (kIs_ok (c := 8152) (by decide +kernel)) (kIs_ok (c := 8153) (by decide +kernel)) (d0 := 12) rfl hr (lw_ad ham hpre) (has _) (lw_rest w) hcs hsl dl_1045 (fun o2 ho2 w2 H2 locs2 ws2 tys2 hov2 hpre2 hW2 => ?_)
  obtain ⟨z, rfl, rfl⟩ := eSm_ok (hsm o2 ho2) hov hov2
  exact lv_icmp_eq (tgt := 1191) hx hb dl_1048 (by decide) (fun _ => law_end C0 hW2.2.2.2.1 hl hcs hsl) (fun q => absurd rfl q)
theorem law_forget {sr : List (Int × Int)} {σ : Nat → Int} (hs : eSg sr σ) {as : List eV} (hP : PairOk adK adV l sr 172 65 as) (C0 : lX p s m meth c b xs adK adV) {H : Heap} {locs : List Loc} {ws : va_W} {tys : List (ClassId × FieldType)} {ls : Array Slot} {ax am cs sl : Nat} (hW : lWd D s σ hFresh H locs ws tys) (hax : (ws.map Prod.fst)[0]? = some ax) (ham : (ws.map Prod.fst)[70]? = some am) (hl : lv_has ls 4 [(0, .ref b), (1, .ref ax), (2, .ref am), (3, .int 0)]) (hcs : cs ≤ 600000) (hsl : sl ≤ 7302250) (has : ∀ ad : List Nat, eAll (eOk ad σ) as []) : W p l e room_1 s m #[Value.ref b] below meth c H locs cs sl (lw_Z below #[Value.ref b] s) (F0 m 1053 ls []) := by
  obtain ⟨⟨hx, hb, -, -, -, -, -, -, -, -⟩, -, -⟩ := id C0
  obtain ⟨os, hc1, hc2⟩ := hP
  refine lv_aload_n hx hb dl_1053 rfl (lv_at hl 1 rfl) ?_
  refine law_call (N := tM172) (Y := tY172) (vs := []) (rest := []) C0 hs hW hl.1 hc1 rfl rfl rfl rfl rfl (kIs_ok (c := 5185) (by decide +kernel)) (kIs_ok (c := 5186) (by decide +kernel)) (kIs_ok (c := 5187) (by decide +kernel)) (d0 := 11) rfl rfl hax (has _) (by decide) hcs hsl dl_1054 (fun o ho w H1 locs1 ws1 tys1 hov hpre hW1 => ?_)
  obtain ⟨hr, os2, hc3, hsm⟩ := hc2 o ho
  refine lv_aload_n hx hb dl_1057 rfl (lv_at hl 2 rfl) ?_
  refine law_call (N := tM65) (Y := tY65) (vs := []) (rest := w.toList ++ []) C0 hs hW1 hl.1 hc3 rfl rfl rfl rfl rfl (kIs_ok (c := 8155) (by decide +kernel)) (kIs_ok (c := 8156) (by decide +kernel)) (kIs_ok (c := 8157) (by decide +kernel)) (d0 := 12) rfl hr (lw_ad ham hpre) (has _) (lw_rest w) hcs hsl dl_1058 (fun o2 ho2 w2 H2 locs2 ws2 tys2 hov2 hpre2 hW2 => ?_)
  obtain ⟨z, rfl, rfl⟩ := eSm_ok (hsm o2 ho2) hov hov2
  exact lv_icmp_eq (tgt := 1191) hx hb dl_1061 (by decide) (fun _ => law_end C0 hW2.2.2.2.1 hl hcs hsl) (fun q => absurd rfl q)
theorem law_went {sr : List (Int × Int)} {σ : Nat → Int} (hs : eSg sr σ) {as : List eV} (hP : PairOk adK adV l sr 173 67 as) (C0 : lX p s m meth c b xs adK adV) {H : Heap} {locs : List Loc} {ws : va_W} {tys : List (ClassId × FieldType)} {ls : Array Slot} {ax am cs sl : Nat} (hW : lWd D s σ hFresh H locs ws tys) (hax : (ws.map Prod.fst)[0]? = some ax) (ham : (ws.map Prod.fst)[70]? = some am) (hl : lv_has ls 4 [(0, .ref b), (1, .ref ax), (2, .ref am), (3, .int 0)]) (hcs : cs ≤ 600000) (hsl : sl ≤ 7302250) (has : ∀ ad : List Nat, eAll (eOk ad σ) as [.int (xs 1), .int (xs 2)]) : W p l e room_1 s m #[Value.ref b] below meth c H locs cs sl (lw_Z below #[Value.ref b] s) (F0 m 1066 ls []) := by
  obtain ⟨⟨hx, hb, -, -, -, -, -, -, -, -⟩, -, -⟩ := id C0
  obtain ⟨os, hc1, hc2⟩ := hP
  refine lv_aload_n hx hb dl_1066 rfl (lv_at hl 1 rfl) ?_
  refine law_arg (k := 1) C0 hW.2.2.2.1 hl (by decide) dl_1067 dl_1068 dl_1069 dl_1070 dl_1071 ?_
  refine law_arg (k := 2) C0 hW.2.2.2.1 hl (by decide) dl_1072 dl_1073 dl_1074 dl_1075 dl_1076 ?_
  refine law_call (N := tM173) (Y := tY173) (vs := [.int (xs 1), .int (xs 2)]) (rest := []) C0 hs hW hl.1 hc1 rfl rfl rfl rfl rfl (kIs_ok (c := 5189) (by decide +kernel)) (kIs_ok (c := 5190) (by decide +kernel)) (kIs_ok (c := 5191) (by decide +kernel)) (d0 := 11) rfl rfl hax (has _) (by decide) hcs hsl dl_1077 (fun o ho w H1 locs1 ws1 tys1 hov hpre hW1 => ?_)
  obtain ⟨hr, os2, hc3, hsm⟩ := hc2 o ho
  refine lv_aload_n hx hb dl_1080 rfl (lv_at hl 2 rfl) ?_
  refine law_arg (k := 1) C0 hW1.2.2.2.1 hl (by decide) dl_1081 dl_1082 dl_1083 dl_1084 dl_1085 ?_
  refine law_arg (k := 2) C0 hW1.2.2.2.1 hl (by decide) dl_1086 dl_1087 dl_1088 dl_1089 dl_1090 ?_
  refine law_call (N := tM67) (Y := tY67) (vs := [.int (xs 1), .int (xs 2)]) (rest := w.toList ++ []) C0 hs hW1 hl.1 hc3 rfl rfl rfl rfl rfl (kIs_ok (c := 8159) (by decide +kernel)) (kIs_ok (c := 8160) (by decide +kernel)) (kIs_ok (c := 8161) (by decide +kernel)) (d0 := 12) rfl hr (lw_ad ham hpre) (has _) (lw_rest w) hcs hsl dl_1091 (fun o2 ho2 w2 H2 locs2 ws2 tys2 hov2 hpre2 hW2 => ?_)
  obtain ⟨z, rfl, rfl⟩ := eSm_ok (hsm o2 ho2) hov hov2
  exact lv_icmp_eq (tgt := 1191) hx hb dl_1094 (by decide) (fun _ => law_end C0 hW2.2.2.2.1 hl hcs hsl) (fun q => absurd rfl q)
theorem law_ask {sr : List (Int × Int)} {σ : Nat → Int} (hs : eSg sr σ) {as : List eV} (hP : PairOk adK adV l sr 174 68 as) (C0 : lX p s m meth c b xs adK adV) {H : Heap} {locs : List Loc} {ws : va_W} {tys : List (ClassId × FieldType)} {ls : Array Slot} {ax am cs sl : Nat} (hW : lWd D s σ hFresh H locs ws tys) (hax : (ws.map Prod.fst)[0]? = some ax) (ham : (ws.map Prod.fst)[70]? = some am) (hl : lv_has ls 4 [(0, .ref b), (1, .ref ax), (2, .ref am), (3, .int 0)]) (hcs : cs ≤ 600000) (hsl : sl ≤ 7302250) (has : ∀ ad : List Nat, eAll (eOk ad σ) as [.int (xs 1)]) : W p l e room_1 s m #[Value.ref b] below meth c H locs cs sl (lw_Z below #[Value.ref b] s) (F0 m 1099 ls []) := by
  obtain ⟨⟨hx, hb, -, -, -, -, -, -, -, -⟩, -, -⟩ := id C0
  obtain ⟨os, hc1, hc2⟩ := hP
  refine lv_aload_n hx hb dl_1099 rfl (lv_at hl 1 rfl) ?_
  refine law_arg (k := 1) C0 hW.2.2.2.1 hl (by decide) dl_1100 dl_1101 dl_1102 dl_1103 dl_1104 ?_
  refine law_call (N := tM174) (Y := tY174) (vs := [.int (xs 1)]) (rest := []) C0 hs hW hl.1 hc1 rfl rfl rfl rfl rfl (kIs_ok (c := 5203) (by decide +kernel)) (kIs_ok (c := 5204) (by decide +kernel)) (kIs_ok (c := 5205) (by decide +kernel)) (d0 := 11) rfl rfl hax (has _) (by decide) hcs hsl dl_1105 (fun o ho w H1 locs1 ws1 tys1 hov hpre hW1 => ?_)
  obtain ⟨hr, os2, hc3, hsm⟩ := hc2 o ho
  refine lv_aload_n hx hb dl_1108 rfl (lv_at hl 2 rfl) ?_
  refine law_arg (k := 1) C0 hW1.2.2.2.1 hl (by decide) dl_1109 dl_1110 dl_1111 dl_1112 dl_1113 ?_
  refine law_call (N := tM68) (Y := tY68) (vs := [.int (xs 1)]) (rest := w.toList ++ []) C0 hs hW1 hl.1 hc3 rfl rfl rfl rfl rfl (kIs_ok (c := 8167) (by decide +kernel)) (kIs_ok (c := 8168) (by decide +kernel)) (kIs_ok (c := 8169) (by decide +kernel)) (d0 := 12) rfl hr (lw_ad ham hpre) (has _) (lw_rest w) hcs hsl dl_1114 (fun o2 ho2 w2 H2 locs2 ws2 tys2 hov2 hpre2 hW2 => ?_)
  obtain ⟨z, rfl, rfl⟩ := eSm_ok (hsm o2 ho2) hov hov2
  exact lv_icmp_eq (tgt := 1191) hx hb dl_1117 (by decide) (fun _ => law_end C0 hW2.2.2.2.1 hl hcs hsl) (fun q => absurd rfl q)
theorem law_hold {sr : List (Int × Int)} {σ : Nat → Int} (hs : eSg sr σ) {as : List eV} (hP : PairOk adK adV l sr 175 69 as) (C0 : lX p s m meth c b xs adK adV) {H : Heap} {locs : List Loc} {ws : va_W} {tys : List (ClassId × FieldType)} {ls : Array Slot} {ax am cs sl : Nat} (hW : lWd D s σ hFresh H locs ws tys) (hax : (ws.map Prod.fst)[0]? = some ax) (ham : (ws.map Prod.fst)[70]? = some am) (hl : lv_has ls 4 [(0, .ref b), (1, .ref ax), (2, .ref am), (3, .int 0)]) (hcs : cs ≤ 600000) (hsl : sl ≤ 7302250) (has : ∀ ad : List Nat, eAll (eOk ad σ) as [.int (xs 1)]) : W p l e room_1 s m #[Value.ref b] below meth c H locs cs sl (lw_Z below #[Value.ref b] s) (F0 m 1122 ls []) := by
  obtain ⟨⟨hx, hb, -, -, -, -, -, -, -, -⟩, -, -⟩ := id C0
  obtain ⟨os, hc1, hc2⟩ := hP
  refine lv_aload_n hx hb dl_1122 rfl (lv_at hl 1 rfl) ?_
  refine law_arg (k := 1) C0 hW.2.2.2.1 hl (by decide) dl_1123 dl_1124 dl_1125 dl_1126 dl_1127 ?_
  refine law_call (N := tM175) (Y := tY175) (vs := [.int (xs 1)]) (rest := []) C0 hs hW hl.1 hc1 rfl rfl rfl rfl rfl (kIs_ok (c := 5219) (by decide +kernel)) (kIs_ok (c := 5220) (by decide +kernel)) (kIs_ok (c := 5221) (by decide +kernel)) (d0 := 11) rfl rfl hax (has _) (by decide) hcs hsl dl_1128 (fun o ho w H1 locs1 ws1 tys1 hov hpre hW1 => ?_)
  obtain ⟨hr, os2, hc3, hsm⟩ := hc2 o ho
  refine lv_aload_n hx hb dl_1131 rfl (lv_at hl 2 rfl) ?_
  refine law_arg (k := 1) C0 hW1.2.2.2.1 hl (by decide) dl_1132 dl_1133 dl_1134 dl_1135 dl_1136 ?_
  refine law_call (N := tM69) (Y := tY69) (vs := [.int (xs 1)]) (rest := w.toList ++ []) C0 hs hW1 hl.1 hc3 rfl rfl rfl rfl rfl (kIs_ok (c := 8171) (by decide +kernel)) (kIs_ok (c := 8172) (by decide +kernel)) (kIs_ok (c := 8173) (by decide +kernel)) (d0 := 12) rfl hr (lw_ad ham hpre) (has _) (lw_rest w) hcs hsl dl_1137 (fun o2 ho2 w2 H2 locs2 ws2 tys2 hov2 hpre2 hW2 => ?_)
  obtain ⟨z, rfl, rfl⟩ := eSm_ok (hsm o2 ho2) hov hov2
  exact lv_icmp_eq (tgt := 1191) hx hb dl_1140 (by decide) (fun _ => law_end C0 hW2.2.2.2.1 hl hcs hsl) (fun q => absurd rfl q)
theorem law_restore {sr : List (Int × Int)} {σ : Nat → Int} (hs : eSg sr σ) {as : List eV} (hP : PairOk adK adV l sr 176 70 as) (C0 : lX p s m meth c b xs adK adV) {H : Heap} {locs : List Loc} {ws : va_W} {tys : List (ClassId × FieldType)} {ls : Array Slot} {ax am cs sl : Nat} (hW : lWd D s σ hFresh H locs ws tys) (hax : (ws.map Prod.fst)[0]? = some ax) (ham : (ws.map Prod.fst)[70]? = some am) (hl : lv_has ls 4 [(0, .ref b), (1, .ref ax), (2, .ref am), (3, .int 0)]) (hcs : cs ≤ 600000) (hsl : sl ≤ 7302250) (has : ∀ ad : List Nat, eAll (eOk ad σ) as [.int (xs 1)]) : W p l e room_1 s m #[Value.ref b] below meth c H locs cs sl (lw_Z below #[Value.ref b] s) (F0 m 1145 ls []) := by
  obtain ⟨⟨hx, hb, -, -, -, -, -, -, -, -⟩, -, -⟩ := id C0
  obtain ⟨os, hc1, hc2⟩ := hP
  refine lv_aload_n hx hb dl_1145 rfl (lv_at hl 1 rfl) ?_
  refine law_arg (k := 1) C0 hW.2.2.2.1 hl (by decide) dl_1146 dl_1147 dl_1148 dl_1149 dl_1150 ?_
  refine law_call (N := tM176) (Y := tY176) (vs := [.int (xs 1)]) (rest := []) C0 hs hW hl.1 hc1 rfl rfl rfl rfl rfl (kIs_ok (c := 5227) (by decide +kernel)) (kIs_ok (c := 5228) (by decide +kernel)) (kIs_ok (c := 5229) (by decide +kernel)) (d0 := 11) rfl rfl hax (has _) (by decide) hcs hsl dl_1151 (fun o ho w H1 locs1 ws1 tys1 hov hpre hW1 => ?_)
  obtain ⟨hr, os2, hc3, hsm⟩ := hc2 o ho
  refine lv_aload_n hx hb dl_1154 rfl (lv_at hl 2 rfl) ?_
  refine law_arg (k := 1) C0 hW1.2.2.2.1 hl (by decide) dl_1155 dl_1156 dl_1157 dl_1158 dl_1159 ?_
  refine law_call (N := tM70) (Y := tY70) (vs := [.int (xs 1)]) (rest := w.toList ++ []) C0 hs hW1 hl.1 hc3 rfl rfl rfl rfl rfl (kIs_ok (c := 8175) (by decide +kernel)) (kIs_ok (c := 8176) (by decide +kernel)) (kIs_ok (c := 8177) (by decide +kernel)) (d0 := 12) rfl hr (lw_ad ham hpre) (has _) (lw_rest w) hcs hsl dl_1160 (fun o2 ho2 w2 H2 locs2 ws2 tys2 hov2 hpre2 hW2 => ?_)
  obtain ⟨z, rfl, rfl⟩ := eSm_ok (hsm o2 ho2) hov hov2
  exact lv_icmp_eq (tgt := 1191) hx hb dl_1163 (by decide) (fun _ => law_end C0 hW2.2.2.2.1 hl hcs hsl) (fun q => absurd rfl q)
theorem law_count {sr : List (Int × Int)} {σ : Nat → Int} (hs : eSg sr σ) {as : List eV} (hP : PairOk adK adV l sr 177 71 as) (C0 : lX p s m meth c b xs adK adV) {H : Heap} {locs : List Loc} {ws : va_W} {tys : List (ClassId × FieldType)} {ls : Array Slot} {ax am cs sl : Nat} (hW : lWd D s σ hFresh H locs ws tys) (hax : (ws.map Prod.fst)[0]? = some ax) (ham : (ws.map Prod.fst)[70]? = some am) (hl : lv_has ls 4 [(0, .ref b), (1, .ref ax), (2, .ref am), (3, .int 0)]) (hcs : cs ≤ 600000) (hsl : sl ≤ 7302250) (has : ∀ ad : List Nat, eAll (eOk ad σ) as [.int (xs 1)]) : W p l e room_1 s m #[Value.ref b] below meth c H locs cs sl (lw_Z below #[Value.ref b] s) (F0 m 1168 ls []) := by
  obtain ⟨⟨hx, hb, -, -, -, -, -, -, -, -⟩, -, -⟩ := id C0
  obtain ⟨os, hc1, hc2⟩ := hP
  refine lv_aload_n hx hb dl_1168 rfl (lv_at hl 1 rfl) ?_
  refine law_arg (k := 1) C0 hW.2.2.2.1 hl (by decide) dl_1169 dl_1170 dl_1171 dl_1172 dl_1173 ?_
  refine law_call (N := tM177) (Y := tY177) (vs := [.int (xs 1)]) (rest := []) C0 hs hW hl.1 hc1 rfl rfl rfl rfl rfl (kIs_ok (c := 5237) (by decide +kernel)) (kIs_ok (c := 5238) (by decide +kernel)) (kIs_ok (c := 5239) (by decide +kernel)) (d0 := 11) rfl rfl hax (has _) (by decide) hcs hsl dl_1174 (fun o ho w H1 locs1 ws1 tys1 hov hpre hW1 => ?_)
  obtain ⟨hr, os2, hc3, hsm⟩ := hc2 o ho
  refine lv_aload_n hx hb dl_1177 rfl (lv_at hl 2 rfl) ?_
  refine law_arg (k := 1) C0 hW1.2.2.2.1 hl (by decide) dl_1178 dl_1179 dl_1180 dl_1181 dl_1182 ?_
  refine law_call (N := tM71) (Y := tY71) (vs := [.int (xs 1)]) (rest := w.toList ++ []) C0 hs hW1 hl.1 hc3 rfl rfl rfl rfl rfl (kIs_ok (c := 8179) (by decide +kernel)) (kIs_ok (c := 8180) (by decide +kernel)) (kIs_ok (c := 8181) (by decide +kernel)) (d0 := 12) rfl hr (lw_ad ham hpre) (has _) (lw_rest w) hcs hsl dl_1183 (fun o2 ho2 w2 H2 locs2 ws2 tys2 hov2 hpre2 hW2 => ?_)
  obtain ⟨z, rfl, rfl⟩ := eSm_ok (hsm o2 ho2) hov hov2
  exact lv_icmp_eq (tgt := 1191) hx hb dl_1186 (by decide) (fun _ => law_end C0 hW2.2.2.2.1 hl hcs hsl) (fun q => absurd rfl q)
end LWC
