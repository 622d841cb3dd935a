/-! THE LAW, a case each -/
def Rf (m : dM) : Prop := Rq m ∧ Fr m
section LWC
variable {p : Program} {l : Launch} {e : Env} {s : State} {m : MethodId} {below : List Frame} {meth : Method} {c : Code} {b L : Nat} {xs : Nat → Int32} {adK adV : Nat → Nat} {D : va_G} {i : Int32} {Q : State → Prop}
theorem law_feed (C0 : lX p s m meth c b L xs adK adV) {mm : dM} {H : Heap} {locs : List Loc} {ws : va_W} {tys : List (ClassId × FieldType)} {ls : Array Slot} {ax am cs sl : Nat} (hO : Ok mm) (hT : Rf mm) (hW : lWc D s mm H locs ws tys) (hax : (ws.map Prod.fst)[0]? = some ax) (ham : (ws.map Prod.fst)[70]? = some am) (hl : lv_has ls 4 [(0, .ref b), (1, .ref ax), (2, .ref am), (3, .int i)]) (hi : 0 ≤ i.toInt ∧ i.toInt + 6 ≤ L ∧ L ≤ 3072) (hcs : cs ≤ 600000) (hsl : sl ≤ 7302250) (KE : ∀ (m2 : dM) (H2 : Heap) (locs2 : List Loc) (ws2 : va_W) (tys2 : List (ClassId × FieldType)), Ok m2 → Rf m2 → ws2.map Prod.fst = ws.map Prod.fst → lWc D s m2 H2 locs2 ws2 tys2 → W p l e room_1 s m #[Value.ref b] below meth c H2 locs2 cs sl Q (F0 m 1191 ls [])) : W p l e room_1 s m #[Value.ref b] below meth c H locs cs sl Q (F0 m 188 ls []) := by
  obtain ⟨⟨hx, hb, -, -, -, -, -, -, -, -⟩, -, -⟩ := id C0
  refine lv_aload_n hx hb dl_188 rfl (lv_at hl 1 rfl) ?_
  refine law_arg (k := 1) C0 hW.2.2.2.1 hl hi (by decide) dl_189 dl_190 dl_191 dl_192 dl_193 ?_
  refine law_arg (k := 2) C0 hW.2.2.2.1 hl hi (by decide) dl_194 dl_195 dl_196 dl_197 dl_198 ?_
  refine law_arg (k := 3) C0 hW.2.2.2.1 hl hi (by decide) dl_199 dl_200 dl_201 dl_202 dl_203 ?_
  refine law_arg (k := 4) C0 hW.2.2.2.1 hl hi (by decide) dl_204 dl_205 dl_206 dl_207 dl_208 ?_
  refine law_arg (k := 5) C0 hW.2.2.2.1 hl hi (by decide) dl_209 dl_210 dl_211 dl_212 dl_213 ?_
  refine law_callC (N := tM243) (Y := tY243) (mm := mm) (Qm := fun r m' => Mw (E11f (x5 (xs (i + Int32.ofInt ((1 : Nat) : Int)).toNatClampNeg) (xs (i + Int32.ofInt ((2 : Nat) : Int)).toNatClampNeg) (xs (i + Int32.ofInt ((3 : Nat) : Int)).toNatClampNeg) (xs (i + Int32.ofInt ((4 : Nat) : Int)).toNatClampNeg) (xs (i + Int32.ofInt ((5 : Nat) : Int)).toNatClampNeg)) mm) mm r m') (as := [.inl (xs (i + Int32.ofInt ((1 : Nat) : Int)).toNatClampNeg), .inl (xs (i + Int32.ofInt ((2 : Nat) : Int)).toNatClampNeg), .inl (xs (i + Int32.ofInt ((3 : Nat) : Int)).toNatClampNeg), .inl (xs (i + Int32.ofInt ((4 : Nat) : Int)).toNatClampNeg), .inl (xs (i + Int32.ofInt ((5 : Nat) : Int)).toNatClampNeg)]) (vs := [.int (xs (i + Int32.ofInt ((1 : Nat) : Int)).toNatClampNeg), .int (xs (i + Int32.ofInt ((2 : Nat) : Int)).toNatClampNeg), .int (xs (i + Int32.ofInt ((3 : Nat) : Int)).toNatClampNeg), .int (xs (i + Int32.ofInt ((4 : Nat) : Int)).toNatClampNeg), .int (xs (i + Int32.ofInt ((5 : Nat) : Int)).toNatClampNeg)]) (rest := []) C0 hW hl.1 (w1_feed ⟨hO, hT⟩) (nn := 0) rfl rfl (Nat.le_of_ble_eq_true rfl) rfl rfl rfl rfl rfl (kIs_ok (c := 3067) (by decide +kernel)) (kIs_ok (c := 3068) (by decide +kernel)) (kIs_ok (c := 3069) (by decide +kernel)) (d0 := 11) rfl ⟨_, rfl⟩ hax ⟨rfl, ⟨rfl, ⟨rfl, ⟨rfl, ⟨rfl, trivial⟩⟩⟩⟩⟩ (Nat.le_of_ble_eq_true rfl) hcs hsl dl_214 (fun r1 m1 H1 locs1 ws1 tys1 O1 hp1 hW1 => ?_)
  refine lv_pop hx hb dl_217 rfl ?_
  refine lv_aload_n hx hb dl_218 rfl (lv_at hl 2 rfl) ?_
  refine law_arg (k := 1) C0 hW1.2.2.2.1 hl hi (by decide) dl_219 dl_220 dl_221 dl_222 dl_223 ?_
  refine law_arg (k := 2) C0 hW1.2.2.2.1 hl hi (by decide) dl_224 dl_225 dl_226 dl_227 dl_228 ?_
  refine law_arg (k := 3) C0 hW1.2.2.2.1 hl hi (by decide) dl_229 dl_230 dl_231 dl_232 dl_233 ?_
  refine law_arg (k := 4) C0 hW1.2.2.2.1 hl hi (by decide) dl_234 dl_235 dl_236 dl_237 dl_238 ?_
  refine law_arg (k := 5) C0 hW1.2.2.2.1 hl hi (by decide) dl_239 dl_240 dl_241 dl_242 dl_243 ?_
  refine law_callC (N := tM1) (Y := tY1) (mm := m1) (Qm := fun r m' => Bt m' ∧ r1 = r) (as := [.inl (xs (i + Int32.ofInt ((1 : Nat) : Int)).toNatClampNeg), .inl (xs (i + Int32.ofInt ((2 : Nat) : Int)).toNatClampNeg), .inl (xs (i + Int32.ofInt ((3 : Nat) : Int)).toNatClampNeg), .inl (xs (i + Int32.ofInt ((4 : Nat) : Int)).toNatClampNeg), .inl (xs (i + Int32.ofInt ((5 : Nat) : Int)).toNatClampNeg)]) (vs := [.int (xs (i + Int32.ofInt ((1 : Nat) : Int)).toNatClampNeg), .int (xs (i + Int32.ofInt ((2 : Nat) : Int)).toNatClampNeg), .int (xs (i + Int32.ofInt ((3 : Nat) : Int)).toNatClampNeg), .int (xs (i + Int32.ofInt ((4 : Nat) : Int)).toNatClampNeg), .int (xs (i + Int32.ofInt ((5 : Nat) : Int)).toNatClampNeg)]) (rest := []) C0 hW1 hl.1 (w2_feed O1) (nn := 0) rfl rfl (Nat.le_of_ble_eq_true rfl) rfl rfl rfl rfl rfl (kIs_ok (c := 6238) (by decide +kernel)) (kIs_ok (c := 6239) (by decide +kernel)) (kIs_ok (c := 7000) (by decide +kernel)) (d0 := 12) rfl ⟨_, rfl⟩ (by rw [hp1]; exact ham) ⟨rfl, ⟨rfl, ⟨rfl, ⟨rfl, ⟨rfl, trivial⟩⟩⟩⟩⟩ (Nat.le_of_ble_eq_true rfl) hcs hsl dl_244 (fun r2 m2 H2 locs2 ws2 tys2 O2 hp2 hW2 => ?_)
  obtain ⟨B2, e12⟩ := O2
  refine lv_pop hx hb dl_247 rfl ?_
  refine lv_goto (tgt := 1191) hx hb dl_248 (by decide) ?_
  exact KE m2 H2 locs2 ws2 tys2 B2.1 B2.2 (hp2.trans hp1) hW2
theorem law_back (C0 : lX p s m meth c b L xs adK adV) {mm : dM} {H : Heap} {locs : List Loc} {ws : va_W} {tys : List (ClassId × FieldType)} {ls : Array Slot} {ax am cs sl : Nat} (hO : Ok mm) (hT : Rf mm) (hW : lWc D s mm H locs ws tys) (hax : (ws.map Prod.fst)[0]? = some ax) (ham : (ws.map Prod.fst)[70]? = some am) (hl : lv_has ls 4 [(0, .ref b), (1, .ref ax), (2, .ref am), (3, .int i)]) (hi : 0 ≤ i.toInt ∧ i.toInt + 6 ≤ L ∧ L ≤ 3072) (hcs : cs ≤ 600000) (hsl : sl ≤ 7302250) (KE : ∀ (m2 : dM) (H2 : Heap) (locs2 : List Loc) (ws2 : va_W) (tys2 : List (ClassId × FieldType)), Ok m2 → Rf m2 → ws2.map Prod.fst = ws.map Prod.fst → lWc D s m2 H2 locs2 ws2 tys2 → W p l e room_1 s m #[Value.ref b] below meth c H2 locs2 cs sl Q (F0 m 1191 ls [])) : W p l e room_1 s m #[Value.ref b] below meth c H locs cs sl Q (F0 m 251 ls []) := by
  obtain ⟨⟨hx, hb, -, -, -, -, -, -, -, -⟩, -, -⟩ := id C0
  refine lv_aload_n hx hb dl_251 rfl (lv_at hl 1 rfl) ?_
  refine law_arg (k := 1) C0 hW.2.2.2.1 hl hi (by decide) dl_252 dl_253 dl_254 dl_255 dl_256 ?_
  refine law_callC (N := tM245) (Y := tY245) (mm := mm) (Qm := fun r m' => Mw (E11b (xs (i + Int32.ofInt ((1 : Nat) : Int)).toNatClampNeg) mm) mm r m') (as := [.inl (xs (i + Int32.ofInt ((1 : Nat) : Int)).toNatClampNeg)]) (vs := [.int (xs (i + Int32.ofInt ((1 : Nat) : Int)).toNatClampNeg)]) (rest := []) C0 hW hl.1 (w1_back ⟨hO, hT⟩) (nn := 0) rfl rfl (Nat.le_of_ble_eq_true rfl) rfl rfl rfl rfl rfl (kIs_ok (c := 3075) (by decide +kernel)) (kIs_ok (c := 3076) (by decide +kernel)) (kIs_ok (c := 3077) (by decide +kernel)) (d0 := 11) rfl ⟨_, rfl⟩ hax ⟨rfl, trivial⟩ (Nat.le_of_ble_eq_true rfl) hcs hsl dl_257 (fun r1 m1 H1 locs1 ws1 tys1 O1 hp1 hW1 => ?_)
  refine lv_pop hx hb dl_260 rfl ?_
  refine lv_aload_n hx hb dl_261 rfl (lv_at hl 2 rfl) ?_
  refine law_arg (k := 1) C0 hW1.2.2.2.1 hl hi (by decide) dl_262 dl_263 dl_264 dl_265 dl_266 ?_
  refine law_callC (N := tM3) (Y := tY3) (mm := m1) (Qm := fun r m' => Bt m' ∧ r1 = r) (as := [.inl (xs (i + Int32.ofInt ((1 : Nat) : Int)).toNatClampNeg)]) (vs := [.int (xs (i + Int32.ofInt ((1 : Nat) : Int)).toNatClampNeg)]) (rest := []) C0 hW1 hl.1 (w2_back O1) (nn := 0) rfl rfl (Nat.le_of_ble_eq_true rfl) rfl rfl rfl rfl rfl (kIs_ok (c := 7006) (by decide +kernel)) (kIs_ok (c := 7007) (by decide +kernel)) (kIs_ok (c := 7008) (by decide +kernel)) (d0 := 12) rfl ⟨_, rfl⟩ (by rw [hp1]; exact ham) ⟨rfl, trivial⟩ (Nat.le_of_ble_eq_true rfl) hcs hsl dl_267 (fun r2 m2 H2 locs2 ws2 tys2 O2 hp2 hW2 => ?_)
  obtain ⟨B2, e12⟩ := O2
  refine lv_pop hx hb dl_270 rfl ?_
  refine lv_goto (tgt := 1191) hx hb dl_271 (by decide) ?_
  exact KE m2 H2 locs2 ws2 tys2 B2.1 B2.2 (hp2.trans hp1) hW2
theorem law_read (C0 : lX p s m meth c b L xs adK adV) {mm : dM} {H : Heap} {locs : List Loc} {ws : va_W} {tys : List (ClassId × FieldType)} {ls : Array Slot} {ax am cs sl : Nat} (hO : Ok mm) (hT : Rf mm) (hW : lWc D s mm H locs ws tys) (hax : (ws.map Prod.fst)[0]? = some ax) (ham : (ws.map Prod.fst)[70]? = some am) (hl : lv_has ls 4 [(0, .ref b), (1, .ref ax), (2, .ref am), (3, .int i)]) (hi : 0 ≤ i.toInt ∧ i.toInt + 6 ≤ L ∧ L ≤ 3072) (hcs : cs ≤ 600000) (hsl : sl ≤ 7302250) (KE : ∀ (m2 : dM) (H2 : Heap) (locs2 : List Loc) (ws2 : va_W) (tys2 : List (ClassId × FieldType)), Ok m2 → Rf m2 → ws2.map Prod.fst = ws.map Prod.fst → lWc D s m2 H2 locs2 ws2 tys2 → W p l e room_1 s m #[Value.ref b] below meth c H2 locs2 cs sl Q (F0 m 1191 ls [])) : W p l e room_1 s m #[Value.ref b] below meth c H locs cs sl Q (F0 m 274 ls []) := by
  obtain ⟨⟨hx, hb, -, -, -, -, -, -, -, -⟩, -, -⟩ := id C0
  refine lv_aload_n hx hb dl_274 rfl (lv_at hl 1 rfl) ?_
  refine law_callC (N := tM246) (Y := tY246) (mm := mm) (Qm := fun r m' => Mr mm r m') (as := []) (vs := []) (rest := []) C0 hW hl.1 (w1_read ⟨hO, hT⟩) (nn := 1) rfl rfl (Nat.le_of_ble_eq_true rfl) rfl rfl rfl rfl rfl (kIs_ok (c := 3079) (by decide +kernel)) (kIs_ok (c := 3080) (by decide +kernel)) (kIs_ok (c := 3081) (by decide +kernel)) (d0 := 11) rfl ⟨_, rfl⟩ hax trivial (Nat.le_of_ble_eq_true rfl) hcs hsl dl_275 (fun r1 m1 H1 locs1 ws1 tys1 O1 hp1 hW1 => ?_)
  refine lv_pop hx hb dl_278 rfl ?_
  refine lv_aload_n hx hb dl_279 rfl (lv_at hl 2 rfl) ?_
  refine law_callC (N := tM18) (Y := tY18) (mm := m1) (Qm := fun r m' => Bt m' ∧ r1 = r) (as := []) (vs := []) (rest := []) C0 hW1 hl.1 (w2_read O1) (nn := 1) rfl rfl (Nat.le_of_ble_eq_true rfl) rfl rfl rfl rfl rfl (kIs_ok (c := 7010) (by decide +kernel)) (kIs_ok (c := 7011) (by decide +kernel)) (kIs_ok (c := 7012) (by decide +kernel)) (d0 := 12) rfl ⟨_, rfl⟩ (by rw [hp1]; exact ham) trivial (Nat.le_of_ble_eq_true rfl) hcs hsl dl_280 (fun r2 m2 H2 locs2 ws2 tys2 O2 hp2 hW2 => ?_)
  obtain ⟨B2, e12⟩ := O2
  refine lv_pop hx hb dl_283 rfl ?_
  refine lv_goto (tgt := 1191) hx hb dl_284 (by decide) ?_
  exact KE m2 H2 locs2 ws2 tys2 B2.1 B2.2 (hp2.trans hp1) hW2
theorem law_place (C0 : lX p s m meth c b L xs adK adV) {mm : dM} {H : Heap} {locs : List Loc} {ws : va_W} {tys : List (ClassId × FieldType)} {ls : Array Slot} {ax am cs sl : Nat} (hO : Ok mm) (hT : Rf mm) (hW : lWc D s mm H locs ws tys) (hax : (ws.map Prod.fst)[0]? = some ax) (ham : (ws.map Prod.fst)[70]? = some am) (hl : lv_has ls 4 [(0, .ref b), (1, .ref ax), (2, .ref am), (3, .int i)]) (hi : 0 ≤ i.toInt ∧ i.toInt + 6 ≤ L ∧ L ≤ 3072) (hcs : cs ≤ 600000) (hsl : sl ≤ 7302250) (KE : ∀ (m2 : dM) (H2 : Heap) (locs2 : List Loc) (ws2 : va_W) (tys2 : List (ClassId × FieldType)), Ok m2 → Rf m2 → ws2.map Prod.fst = ws.map Prod.fst → lWc D s m2 H2 locs2 ws2 tys2 → W p l e room_1 s m #[Value.ref b] below meth c H2 locs2 cs sl Q (F0 m 1191 ls [])) : W p l e room_1 s m #[Value.ref b] below meth c H locs cs sl Q (F0 m 287 ls []) := by
  obtain ⟨⟨hx, hb, -, -, -, -, -, -, -, -⟩, -, -⟩ := id C0
  refine lv_aload_n hx hb dl_287 rfl (lv_at hl 1 rfl) ?_
  refine law_callC (N := tM247) (Y := tY247) (mm := mm) (Qm := fun r m' => Mw (E11p mm) mm r m') (as := []) (vs := []) (rest := []) C0 hW hl.1 (w1_place ⟨hO, hT⟩) (nn := 0) rfl rfl (Nat.le_of_ble_eq_true rfl) rfl rfl rfl rfl rfl (kIs_ok (c := 4061) (by decide +kernel)) (kIs_ok (c := 4062) (by decide +kernel)) (kIs_ok (c := 4063) (by decide +kernel)) (d0 := 11) rfl ⟨_, rfl⟩ hax trivial (Nat.le_of_ble_eq_true rfl) hcs hsl dl_288 (fun r1 m1 H1 locs1 ws1 tys1 O1 hp1 hW1 => ?_)
  refine lv_pop hx hb dl_291 rfl ?_
  refine lv_aload_n hx hb dl_292 rfl (lv_at hl 2 rfl) ?_
  refine law_callC (N := tM19) (Y := tY19) (mm := m1) (Qm := fun r m' => Bt m' ∧ r1 = r) (as := []) (vs := []) (rest := []) C0 hW1 hl.1 (w2_place O1) (nn := 0) rfl rfl (Nat.le_of_ble_eq_true rfl) rfl rfl rfl rfl rfl (kIs_ok (c := 7116) (by decide +kernel)) (kIs_ok (c := 7117) (by decide +kernel)) (kIs_ok (c := 7118) (by decide +kernel)) (d0 := 12) rfl ⟨_, rfl⟩ (by rw [hp1]; exact ham) trivial (Nat.le_of_ble_eq_true rfl) hcs hsl dl_293 (fun r2 m2 H2 locs2 ws2 tys2 O2 hp2 hW2 => ?_)
  obtain ⟨B2, e12⟩ := O2
  refine lv_pop hx hb dl_296 rfl ?_
  refine lv_goto (tgt := 1191) hx hb dl_297 (by decide) ?_
  exact KE m2 H2 locs2 ws2 tys2 B2.1 B2.2 (hp2.trans hp1) hW2
theorem law_flat (C0 : lX p s m meth c b L xs adK adV) {mm : dM} {H : Heap} {locs : List Loc} {ws : va_W} {tys : List (ClassId × FieldType)} {ls : Array Slot} {ax am cs sl : Nat} (hO : Ok mm) (hT : Rf mm) (hW : lWc D s mm H locs ws tys) (hax : (ws.map Prod.fst)[0]? = some ax) (ham : (ws.map Prod.fst)[70]? = some am) (hl : lv_has ls 4 [(0, .ref b), (1, .ref ax), (2, .ref am), (3, .int i)]) (hi : 0 ≤ i.toInt ∧ i.toInt + 6 ≤ L ∧ L ≤ 3072) (hcs : cs ≤ 600000) (hsl : sl ≤ 7302250) (KE : ∀ (m2 : dM) (H2 : Heap) (locs2 : List Loc) (ws2 : va_W) (tys2 : List (ClassId × FieldType)), Ok m2 → Rf m2 → ws2.map Prod.fst = ws.map Prod.fst → lWc D s m2 H2 locs2 ws2 tys2 → W p l e room_1 s m #[Value.ref b] below meth c H2 locs2 cs sl Q (F0 m 1191 ls [])) : W p l e room_1 s m #[Value.ref b] below meth c H locs cs sl Q (F0 m 300 ls []) := by
  obtain ⟨⟨hx, hb, -, -, -, -, -, -, -, -⟩, -, -⟩ := id C0
  refine lv_aload_n hx hb dl_300 rfl (lv_at hl 1 rfl) ?_
  refine law_arg (k := 1) C0 hW.2.2.2.1 hl hi (by decide) dl_301 dl_302 dl_303 dl_304 dl_305 ?_
  refine law_arg (k := 2) C0 hW.2.2.2.1 hl hi (by decide) dl_306 dl_307 dl_308 dl_309 dl_310 ?_
  refine law_callC (N := tM251) (Y := tY251) (mm := mm) (Qm := fun _ m' => Bt m') (as := [.inl (xs (i + Int32.ofInt ((1 : Nat) : Int)).toNatClampNeg), .inl (xs (i + Int32.ofInt ((2 : Nat) : Int)).toNatClampNeg)]) (vs := [.int (xs (i + Int32.ofInt ((1 : Nat) : Int)).toNatClampNeg), .int (xs (i + Int32.ofInt ((2 : Nat) : Int)).toNatClampNeg)]) (rest := []) C0 hW hl.1 (w1_flat ⟨hO, hT⟩) (nn := 1) rfl rfl (Nat.le_of_ble_eq_true rfl) rfl rfl rfl rfl rfl (kIs_ok (c := 4065) (by decide +kernel)) (kIs_ok (c := 4066) (by decide +kernel)) (kIs_ok (c := 4067) (by decide +kernel)) (d0 := 11) rfl ⟨_, rfl⟩ hax ⟨rfl, ⟨rfl, trivial⟩⟩ (Nat.le_of_ble_eq_true rfl) hcs hsl dl_311 (fun r1 m1 H1 locs1 ws1 tys1 O1 hp1 hW1 => ?_)
  refine lv_pop hx hb dl_314 rfl ?_
  refine lv_aload_n hx hb dl_315 rfl (lv_at hl 2 rfl) ?_
  refine law_arg (k := 1) C0 hW1.2.2.2.1 hl hi (by decide) dl_316 dl_317 dl_318 dl_319 dl_320 ?_
  refine law_arg (k := 2) C0 hW1.2.2.2.1 hl hi (by decide) dl_321 dl_322 dl_323 dl_324 dl_325 ?_
  refine law_callC (N := tM69) (Y := tY69) (mm := m1) (Qm := fun _ m' => Bt m') (as := [.inl (xs (i + Int32.ofInt ((1 : Nat) : Int)).toNatClampNeg), .inl (xs (i + Int32.ofInt ((2 : Nat) : Int)).toNatClampNeg)]) (vs := [.int (xs (i + Int32.ofInt ((1 : Nat) : Int)).toNatClampNeg), .int (xs (i + Int32.ofInt ((2 : Nat) : Int)).toNatClampNeg)]) (rest := []) C0 hW1 hl.1 (w2_flat O1) (nn := 0) rfl rfl (Nat.le_of_ble_eq_true rfl) rfl rfl rfl rfl rfl (kIs_ok (c := 7120) (by decide +kernel)) (kIs_ok (c := 7121) (by decide +kernel)) (kIs_ok (c := 7122) (by decide +kernel)) (d0 := 12) rfl ⟨_, rfl⟩ (by rw [hp1]; exact ham) ⟨rfl, ⟨rfl, trivial⟩⟩ (Nat.le_of_ble_eq_true rfl) hcs hsl dl_326 (fun r2 m2 H2 locs2 ws2 tys2 O2 hp2 hW2 => ?_)
  have B2 : Bt m2 := O2
  refine lv_pop hx hb dl_329 rfl ?_
  refine lv_goto (tgt := 1191) hx hb dl_330 (by decide) ?_
  exact KE m2 H2 locs2 ws2 tys2 B2.1 B2.2 (hp2.trans hp1) hW2
theorem law_wire (C0 : lX p s m meth c b L xs adK adV) {mm : dM} {H : Heap} {locs : List Loc} {ws : va_W} {tys : List (ClassId × FieldType)} {ls : Array Slot} {ax am cs sl : Nat} (hO : Ok mm) (hT : Rf mm) (hW : lWc D s mm H locs ws tys) (hax : (ws.map Prod.fst)[0]? = some ax) (ham : (ws.map Prod.fst)[70]? = some am) (hl : lv_has ls 4 [(0, .ref b), (1, .ref ax), (2, .ref am), (3, .int i)]) (hi : 0 ≤ i.toInt ∧ i.toInt + 6 ≤ L ∧ L ≤ 3072) (hcs : cs ≤ 600000) (hsl : sl ≤ 7302250) (KE : ∀ (m2 : dM) (H2 : Heap) (locs2 : List Loc) (ws2 : va_W) (tys2 : List (ClassId × FieldType)), Ok m2 → Rf m2 → ws2.map Prod.fst = ws.map Prod.fst → lWc D s m2 H2 locs2 ws2 tys2 → W p l e room_1 s m #[Value.ref b] below meth c H2 locs2 cs sl Q (F0 m 1191 ls [])) : W p l e room_1 s m #[Value.ref b] below meth c H locs cs sl Q (F0 m 333 ls []) := by
  obtain ⟨⟨hx, hb, -, -, -, -, -, -, -, -⟩, -, -⟩ := id C0
  refine lv_aload_n hx hb dl_333 rfl (lv_at hl 1 rfl) ?_
  refine law_arg (k := 1) C0 hW.2.2.2.1 hl hi (by decide) dl_334 dl_335 dl_336 dl_337 dl_338 ?_
  refine law_arg (k := 2) C0 hW.2.2.2.1 hl hi (by decide) dl_339 dl_340 dl_341 dl_342 dl_343 ?_
  refine law_callC (N := tM252) (Y := tY252) (mm := mm) (Qm := fun _ m' => Bt m') (as := [.inl (xs (i + Int32.ofInt ((1 : Nat) : Int)).toNatClampNeg), .inl (xs (i + Int32.ofInt ((2 : Nat) : Int)).toNatClampNeg)]) (vs := [.int (xs (i + Int32.ofInt ((1 : Nat) : Int)).toNatClampNeg), .int (xs (i + Int32.ofInt ((2 : Nat) : Int)).toNatClampNeg)]) (rest := []) C0 hW hl.1 (w1_wire ⟨hO, hT⟩) (nn := 0) rfl rfl (Nat.le_of_ble_eq_true rfl) rfl rfl rfl rfl rfl (kIs_ok (c := 4139) (by decide +kernel)) (kIs_ok (c := 4140) (by decide +kernel)) (kIs_ok (c := 4141) (by decide +kernel)) (d0 := 11) rfl ⟨_, rfl⟩ hax ⟨rfl, ⟨rfl, trivial⟩⟩ (Nat.le_of_ble_eq_true rfl) hcs hsl dl_344 (fun r1 m1 H1 locs1 ws1 tys1 O1 hp1 hW1 => ?_)
  refine lv_pop hx hb dl_347 rfl ?_
  refine lv_aload_n hx hb dl_348 rfl (lv_at hl 2 rfl) ?_
  refine law_arg (k := 1) C0 hW1.2.2.2.1 hl hi (by decide) dl_349 dl_350 dl_351 dl_352 dl_353 ?_
  refine law_arg (k := 2) C0 hW1.2.2.2.1 hl hi (by decide) dl_354 dl_355 dl_356 dl_357 dl_358 ?_
  refine law_callC (N := tM71) (Y := tY71) (mm := m1) (Qm := fun _ m' => Bt m') (as := [.inl (xs (i + Int32.ofInt ((1 : Nat) : Int)).toNatClampNeg), .inl (xs (i + Int32.ofInt ((2 : Nat) : Int)).toNatClampNeg)]) (vs := [.int (xs (i + Int32.ofInt ((1 : Nat) : Int)).toNatClampNeg), .int (xs (i + Int32.ofInt ((2 : Nat) : Int)).toNatClampNeg)]) (rest := []) C0 hW1 hl.1 (w2_wire O1) (nn := 0) rfl rfl (Nat.le_of_ble_eq_true rfl) rfl rfl rfl rfl rfl (kIs_ok (c := 7198) (by decide +kernel)) (kIs_ok (c := 7199) (by decide +kernel)) (kIs_ok (c := 7200) (by decide +kernel)) (d0 := 12) rfl ⟨_, rfl⟩ (by rw [hp1]; exact ham) ⟨rfl, ⟨rfl, trivial⟩⟩ (Nat.le_of_ble_eq_true rfl) hcs hsl dl_359 (fun r2 m2 H2 locs2 ws2 tys2 O2 hp2 hW2 => ?_)
  have B2 : Bt m2 := O2
  refine lv_pop hx hb dl_362 rfl ?_
  refine lv_goto (tgt := 1191) hx hb dl_363 (by decide) ?_
  exact KE m2 H2 locs2 ws2 tys2 B2.1 B2.2 (hp2.trans hp1) hW2
theorem law_use (C0 : lX p s m meth c b L xs adK adV) {mm : dM} {H : Heap} {locs : List Loc} {ws : va_W} {tys : List (ClassId × FieldType)} {ls : Array Slot} {ax am cs sl : Nat} (hO : Ok mm) (hT : Rf mm) (hW : lWc D s mm H locs ws tys) (hax : (ws.map Prod.fst)[0]? = some ax) (ham : (ws.map Prod.fst)[70]? = some am) (hl : lv_has ls 4 [(0, .ref b), (1, .ref ax), (2, .ref am), (3, .int i)]) (hi : 0 ≤ i.toInt ∧ i.toInt + 6 ≤ L ∧ L ≤ 3072) (hcs : cs ≤ 600000) (hsl : sl ≤ 7302250) (KE : ∀ (m2 : dM) (H2 : Heap) (locs2 : List Loc) (ws2 : va_W) (tys2 : List (ClassId × FieldType)), Ok m2 → Rf m2 → ws2.map Prod.fst = ws.map Prod.fst → lWc D s m2 H2 locs2 ws2 tys2 → W p l e room_1 s m #[Value.ref b] below meth c H2 locs2 cs sl Q (F0 m 1191 ls [])) : W p l e room_1 s m #[Value.ref b] below meth c H locs cs sl Q (F0 m 366 ls []) := by
  obtain ⟨⟨hx, hb, -, -, -, -, -, -, -, -⟩, -, -⟩ := id C0
  refine lv_aload_n hx hb dl_366 rfl (lv_at hl 1 rfl) ?_
  refine law_arg (k := 1) C0 hW.2.2.2.1 hl hi (by decide) dl_367 dl_368 dl_369 dl_370 dl_371 ?_
  refine law_arg (k := 2) C0 hW.2.2.2.1 hl hi (by decide) dl_372 dl_373 dl_374 dl_375 dl_376 ?_
  refine law_callC (N := tM253) (Y := tY253) (mm := mm) (Qm := fun _ m' => Bt m') (as := [.inl (xs (i + Int32.ofInt ((1 : Nat) : Int)).toNatClampNeg), .inl (xs (i + Int32.ofInt ((2 : Nat) : Int)).toNatClampNeg)]) (vs := [.int (xs (i + Int32.ofInt ((1 : Nat) : Int)).toNatClampNeg), .int (xs (i + Int32.ofInt ((2 : Nat) : Int)).toNatClampNeg)]) (rest := []) C0 hW hl.1 (w1_use ⟨hO, hT⟩) (nn := 1) rfl rfl (Nat.le_of_ble_eq_true rfl) rfl rfl rfl rfl rfl (kIs_ok (c := 4172) (by decide +kernel)) (kIs_ok (c := 4173) (by decide +kernel)) (kIs_ok (c := 4174) (by decide +kernel)) (d0 := 11) rfl ⟨_, rfl⟩ hax ⟨rfl, ⟨rfl, trivial⟩⟩ (Nat.le_of_ble_eq_true rfl) hcs hsl dl_377 (fun r1 m1 H1 locs1 ws1 tys1 O1 hp1 hW1 => ?_)
  refine lv_pop hx hb dl_380 rfl ?_
  refine lv_aload_n hx hb dl_381 rfl (lv_at hl 2 rfl) ?_
  refine law_arg (k := 1) C0 hW1.2.2.2.1 hl hi (by decide) dl_382 dl_383 dl_384 dl_385 dl_386 ?_
  refine law_arg (k := 2) C0 hW1.2.2.2.1 hl hi (by decide) dl_387 dl_388 dl_389 dl_390 dl_391 ?_
  refine law_callC (N := tM72) (Y := tY72) (mm := m1) (Qm := fun _ m' => Bt m') (as := [.inl (xs (i + Int32.ofInt ((1 : Nat) : Int)).toNatClampNeg), .inl (xs (i + Int32.ofInt ((2 : Nat) : Int)).toNatClampNeg)]) (vs := [.int (xs (i + Int32.ofInt ((1 : Nat) : Int)).toNatClampNeg), .int (xs (i + Int32.ofInt ((2 : Nat) : Int)).toNatClampNeg)]) (rest := []) C0 hW1 hl.1 (w2_use O1) (nn := 0) rfl rfl (Nat.le_of_ble_eq_true rfl) rfl rfl rfl rfl rfl (kIs_ok (c := 7214) (by decide +kernel)) (kIs_ok (c := 7215) (by decide +kernel)) (kIs_ok (c := 7216) (by decide +kernel)) (d0 := 12) rfl ⟨_, rfl⟩ (by rw [hp1]; exact ham) ⟨rfl, ⟨rfl, trivial⟩⟩ (Nat.le_of_ble_eq_true rfl) hcs hsl dl_392 (fun r2 m2 H2 locs2 ws2 tys2 O2 hp2 hW2 => ?_)
  have B2 : Bt m2 := O2
  refine lv_pop hx hb dl_395 rfl ?_
  refine lv_goto (tgt := 1191) hx hb dl_396 (by decide) ?_
  exact KE m2 H2 locs2 ws2 tys2 B2.1 B2.2 (hp2.trans hp1) hW2
theorem law_agree0 (C0 : lX p s m meth c b L xs adK adV) (hz : xs (i + Int32.ofInt ((2 : Nat) : Int)).toNatClampNeg = 0) {mm : dM} {H : Heap} {locs : List Loc} {ws : va_W} {tys : List (ClassId × FieldType)} {ls : Array Slot} {ax am cs sl : Nat} (hO : Ok mm) (hT : Rf mm) (hW : lWc D s mm H locs ws tys) (hax : (ws.map Prod.fst)[0]? = some ax) (ham : (ws.map Prod.fst)[70]? = some am) (hl : lv_has ls 4 [(0, .ref b), (1, .ref ax), (2, .ref am), (3, .int i)]) (hi : 0 ≤ i.toInt ∧ i.toInt + 6 ≤ L ∧ L ≤ 3072) (hcs : cs ≤ 600000) (hsl : sl ≤ 7302250) (KE : ∀ (m2 : dM) (H2 : Heap) (locs2 : List Loc) (ws2 : va_W) (tys2 : List (ClassId × FieldType)), Ok m2 → Rf m2 → ws2.map Prod.fst = ws.map Prod.fst → lWc D s m2 H2 locs2 ws2 tys2 → W p l e room_1 s m #[Value.ref b] below meth c H2 locs2 cs sl Q (F0 m 1191 ls [])) : W p l e room_1 s m #[Value.ref b] below meth c H locs cs sl Q (F0 m 399 ls []) := by
  obtain ⟨⟨hx, hb, -, -, -, -, -, -, -, -⟩, -, -⟩ := id C0
  refine lv_aload_n hx hb dl_399 rfl (lv_at hl 1 rfl) ?_
  refine law_arg (k := 1) C0 hW.2.2.2.1 hl hi (by decide) dl_400 dl_401 dl_402 dl_403 dl_404 ?_
  refine law_arg (k := 2) C0 hW.2.2.2.1 hl hi (by decide) dl_405 dl_406 dl_407 dl_408 dl_409 ?_
  refine lv_if_eq (tgt := 417) hx hb dl_410 (by decide) (fun _ => ?_) (fun q => absurd hz q)
  refine lv_iconst (v := 0) hx hb dl_417 (by decide) ?_
  refine law_callC (N := tM254) (Y := tY254) (mm := mm) (Qm := fun r m' => Md (fun H S P => aAgr H S P (xs (i + Int32.ofInt ((1 : Nat) : Int)).toNatClampNeg) ((0 : Int32))) r m') (as := [.inl (xs (i + Int32.ofInt ((1 : Nat) : Int)).toNatClampNeg), .inl ((0 : Int32))]) (vs := [.int (xs (i + Int32.ofInt ((1 : Nat) : Int)).toNatClampNeg), .int ((0 : Int32))]) (rest := []) C0 hW hl.1 (w1_agree ⟨hO, hT⟩ (by decide)) (nn := 0) rfl rfl (Nat.le_of_ble_eq_true rfl) rfl rfl rfl rfl rfl (kIs_ok (c := 4184) (by decide +kernel)) (kIs_ok (c := 4185) (by decide +kernel)) (kIs_ok (c := 4186) (by decide +kernel)) (d0 := 11) rfl ⟨_, rfl⟩ hax ⟨rfl, ⟨rfl, trivial⟩⟩ (Nat.le_of_ble_eq_true rfl) hcs hsl dl_418 (fun r1 m1 H1 locs1 ws1 tys1 O1 hp1 hW1 => ?_)
  refine lv_pop hx hb dl_421 rfl ?_
  refine lv_aload_n hx hb dl_422 rfl (lv_at hl 2 rfl) ?_
  refine law_arg (k := 1) C0 hW1.2.2.2.1 hl hi (by decide) dl_423 dl_424 dl_425 dl_426 dl_427 ?_
  refine law_arg (k := 2) C0 hW1.2.2.2.1 hl hi (by decide) dl_428 dl_429 dl_430 dl_431 dl_432 ?_
  refine lv_if_eq (tgt := 440) hx hb dl_433 (by decide) (fun _ => ?_) (fun q => absurd hz q)
  refine lv_iconst (v := 0) hx hb dl_440 (by decide) ?_
  refine law_callC (N := tM74) (Y := tY74) (mm := m1) (Qm := fun r m' => Bt m' ∧ r1 = r) (as := [.inl (xs (i + Int32.ofInt ((1 : Nat) : Int)).toNatClampNeg), .inl ((0 : Int32))]) (vs := [.int (xs (i + Int32.ofInt ((1 : Nat) : Int)).toNatClampNeg), .int ((0 : Int32))]) (rest := []) C0 hW1 hl.1 (w2_agree O1 (by decide)) (nn := 0) rfl rfl (Nat.le_of_ble_eq_true rfl) rfl rfl rfl rfl rfl (kIs_ok (c := 7226) (by decide +kernel)) (kIs_ok (c := 7227) (by decide +kernel)) (kIs_ok (c := 7228) (by decide +kernel)) (d0 := 12) rfl ⟨_, rfl⟩ (by rw [hp1]; exact ham) ⟨rfl, ⟨rfl, trivial⟩⟩ (Nat.le_of_ble_eq_true rfl) hcs hsl dl_441 (fun r2 m2 H2 locs2 ws2 tys2 O2 hp2 hW2 => ?_)
  obtain ⟨B2, e12⟩ := O2
  refine lv_pop hx hb dl_444 rfl ?_
  refine lv_goto (tgt := 1191) hx hb dl_445 (by decide) ?_
  exact KE m2 H2 locs2 ws2 tys2 B2.1 B2.2 (hp2.trans hp1) hW2
theorem law_agree1 (C0 : lX p s m meth c b L xs adK adV) (hz : ¬ xs (i + Int32.ofInt ((2 : Nat) : Int)).toNatClampNeg = 0) {mm : dM} {H : Heap} {locs : List Loc} {ws : va_W} {tys : List (ClassId × FieldType)} {ls : Array Slot} {ax am cs sl : Nat} (hO : Ok mm) (hT : Rf mm) (hW : lWc D s mm H locs ws tys) (hax : (ws.map Prod.fst)[0]? = some ax) (ham : (ws.map Prod.fst)[70]? = some am) (hl : lv_has ls 4 [(0, .ref b), (1, .ref ax), (2, .ref am), (3, .int i)]) (hi : 0 ≤ i.toInt ∧ i.toInt + 6 ≤ L ∧ L ≤ 3072) (hcs : cs ≤ 600000) (hsl : sl ≤ 7302250) (KE : ∀ (m2 : dM) (H2 : Heap) (locs2 : List Loc) (ws2 : va_W) (tys2 : List (ClassId × FieldType)), Ok m2 → Rf m2 → ws2.map Prod.fst = ws.map Prod.fst → lWc D s m2 H2 locs2 ws2 tys2 → W p l e room_1 s m #[Value.ref b] below meth c H2 locs2 cs sl Q (F0 m 1191 ls [])) : W p l e room_1 s m #[Value.ref b] below meth c H locs cs sl Q (F0 m 399 ls []) := by
  obtain ⟨⟨hx, hb, -, -, -, -, -, -, -, -⟩, -, -⟩ := id C0
  refine lv_aload_n hx hb dl_399 rfl (lv_at hl 1 rfl) ?_
  refine law_arg (k := 1) C0 hW.2.2.2.1 hl hi (by decide) dl_400 dl_401 dl_402 dl_403 dl_404 ?_
  refine law_arg (k := 2) C0 hW.2.2.2.1 hl hi (by decide) dl_405 dl_406 dl_407 dl_408 dl_409 ?_
  refine lv_if_eq (tgt := 417) hx hb dl_410 (by decide) (fun q => absurd q hz) (fun _ => ?_)
  refine lv_iconst (v := 1) hx hb dl_413 (by decide) ?_
  refine lv_goto (tgt := 418) hx hb dl_414 (by decide) ?_
  refine law_callC (N := tM254) (Y := tY254) (mm := mm) (Qm := fun r m' => Md (fun H S P => aAgr H S P (xs (i + Int32.ofInt ((1 : Nat) : Int)).toNatClampNeg) ((1 : Int32))) r m') (as := [.inl (xs (i + Int32.ofInt ((1 : Nat) : Int)).toNatClampNeg), .inl ((1 : Int32))]) (vs := [.int (xs (i + Int32.ofInt ((1 : Nat) : Int)).toNatClampNeg), .int ((1 : Int32))]) (rest := []) C0 hW hl.1 (w1_agree ⟨hO, hT⟩ (by decide)) (nn := 0) rfl rfl (Nat.le_of_ble_eq_true rfl) rfl rfl rfl rfl rfl (kIs_ok (c := 4184) (by decide +kernel)) (kIs_ok (c := 4185) (by decide +kernel)) (kIs_ok (c := 4186) (by decide +kernel)) (d0 := 11) rfl ⟨_, rfl⟩ hax ⟨rfl, ⟨rfl, trivial⟩⟩ (Nat.le_of_ble_eq_true rfl) hcs hsl dl_418 (fun r1 m1 H1 locs1 ws1 tys1 O1 hp1 hW1 => ?_)
  refine lv_pop hx hb dl_421 rfl ?_
  refine lv_aload_n hx hb dl_422 rfl (lv_at hl 2 rfl) ?_
  refine law_arg (k := 1) C0 hW1.2.2.2.1 hl hi (by decide) dl_423 dl_424 dl_425 dl_426 dl_427 ?_
  refine law_arg (k := 2) C0 hW1.2.2.2.1 hl hi (by decide) dl_428 dl_429 dl_430 dl_431 dl_432 ?_
  refine lv_if_eq (tgt := 440) hx hb dl_433 (by decide) (fun q => absurd q hz) (fun _ => ?_)
  refine lv_iconst (v := 1) hx hb dl_436 (by decide) ?_
  refine lv_goto (tgt := 441) hx hb dl_437 (by decide) ?_
  refine law_callC (N := tM74) (Y := tY74) (mm := m1) (Qm := fun r m' => Bt m' ∧ r1 = r) (as := [.inl (xs (i + Int32.ofInt ((1 : Nat) : Int)).toNatClampNeg), .inl ((1 : Int32))]) (vs := [.int (xs (i + Int32.ofInt ((1 : Nat) : Int)).toNatClampNeg), .int ((1 : Int32))]) (rest := []) C0 hW1 hl.1 (w2_agree O1 (by decide)) (nn := 0) rfl rfl (Nat.le_of_ble_eq_true rfl) rfl rfl rfl rfl rfl (kIs_ok (c := 7226) (by decide +kernel)) (kIs_ok (c := 7227) (by decide +kernel)) (kIs_ok (c := 7228) (by decide +kernel)) (d0 := 12) rfl ⟨_, rfl⟩ (by rw [hp1]; exact ham) ⟨rfl, ⟨rfl, trivial⟩⟩ (Nat.le_of_ble_eq_true rfl) hcs hsl dl_441 (fun r2 m2 H2 locs2 ws2 tys2 O2 hp2 hW2 => ?_)
  obtain ⟨B2, e12⟩ := O2
  refine lv_pop hx hb dl_444 rfl ?_
  refine lv_goto (tgt := 1191) hx hb dl_445 (by decide) ?_
  exact KE m2 H2 locs2 ws2 tys2 B2.1 B2.2 (hp2.trans hp1) hW2
theorem law_mend (C0 : lX p s m meth c b L xs adK adV) {mm : dM} {H : Heap} {locs : List Loc} {ws : va_W} {tys : List (ClassId × FieldType)} {ls : Array Slot} {ax am cs sl : Nat} (hO : Ok mm) (hT : Rf mm) (hW : lWc D s mm H locs ws tys) (hax : (ws.map Prod.fst)[0]? = some ax) (ham : (ws.map Prod.fst)[70]? = some am) (hl : lv_has ls 4 [(0, .ref b), (1, .ref ax), (2, .ref am), (3, .int i)]) (hi : 0 ≤ i.toInt ∧ i.toInt + 6 ≤ L ∧ L ≤ 3072) (hcs : cs ≤ 600000) (hsl : sl ≤ 7302250) (KE : ∀ (m2 : dM) (H2 : Heap) (locs2 : List Loc) (ws2 : va_W) (tys2 : List (ClassId × FieldType)), Ok m2 → Rf m2 → ws2.map Prod.fst = ws.map Prod.fst → lWc D s m2 H2 locs2 ws2 tys2 → W p l e room_1 s m #[Value.ref b] below meth c H2 locs2 cs sl Q (F0 m 1191 ls [])) : W p l e room_1 s m #[Value.ref b] below meth c H locs cs sl Q (F0 m 448 ls []) := by
  obtain ⟨⟨hx, hb, -, -, -, -, -, -, -, -⟩, -, -⟩ := id C0
  refine lv_aload_n hx hb dl_448 rfl (lv_at hl 1 rfl) ?_
  refine law_arg (k := 1) C0 hW.2.2.2.1 hl hi (by decide) dl_449 dl_450 dl_451 dl_452 dl_453 ?_
  refine law_callC (N := tM255) (Y := tY255) (mm := mm) (Qm := fun r m' => Md (fun H S P => aMnd H S P (xs (i + Int32.ofInt ((1 : Nat) : Int)).toNatClampNeg)) r m') (as := [.inl (xs (i + Int32.ofInt ((1 : Nat) : Int)).toNatClampNeg)]) (vs := [.int (xs (i + Int32.ofInt ((1 : Nat) : Int)).toNatClampNeg)]) (rest := []) C0 hW hl.1 (w1_mend ⟨hO, hT⟩) (nn := 1) rfl rfl (Nat.le_of_ble_eq_true rfl) rfl rfl rfl rfl rfl (kIs_ok (c := 4197) (by decide +kernel)) (kIs_ok (c := 4198) (by decide +kernel)) (kIs_ok (c := 4199) (by decide +kernel)) (d0 := 11) rfl ⟨_, rfl⟩ hax ⟨rfl, trivial⟩ (Nat.le_of_ble_eq_true rfl) hcs hsl dl_454 (fun r1 m1 H1 locs1 ws1 tys1 O1 hp1 hW1 => ?_)
  refine lv_aload_n hx hb dl_457 rfl (lv_at hl 2 rfl) ?_
  refine law_arg (k := 1) C0 hW1.2.2.2.1 hl hi (by decide) dl_458 dl_459 dl_460 dl_461 dl_462 ?_
  refine law_callC (N := tM75) (Y := tY75) (mm := m1) (Qm := fun r m' => Bt m' ∧ r1 = r) (as := [.inl (xs (i + Int32.ofInt ((1 : Nat) : Int)).toNatClampNeg)]) (vs := [.int (xs (i + Int32.ofInt ((1 : Nat) : Int)).toNatClampNeg)]) (rest := [.int r1]) C0 hW1 hl.1 (w2_mend O1) (nn := 0) rfl rfl (Nat.le_of_ble_eq_true rfl) rfl rfl rfl rfl rfl (kIs_ok (c := 7234) (by decide +kernel)) (kIs_ok (c := 7235) (by decide +kernel)) (kIs_ok (c := 7236) (by decide +kernel)) (d0 := 12) rfl ⟨_, rfl⟩ (by rw [hp1]; exact ham) ⟨rfl, trivial⟩ (Nat.le_of_ble_eq_true rfl) hcs hsl dl_463 (fun r2 m2 H2 locs2 ws2 tys2 O2 hp2 hW2 => ?_)
  obtain ⟨B2, e12⟩ := O2
  exact lv_icmp_eq (tgt := 1191) hx hb dl_466 (by decide) (fun _ => KE m2 H2 locs2 ws2 tys2 B2.1 B2.2 (hp2.trans hp1) hW2) (fun q => absurd e12 q)
theorem law_thicken (C0 : lX p s m meth c b L xs adK adV) {mm : dM} {H : Heap} {locs : List Loc} {ws : va_W} {tys : List (ClassId × FieldType)} {ls : Array Slot} {ax am cs sl : Nat} (hO : Ok mm) (hT : Rf mm) (hW : lWc D s mm H locs ws tys) (hax : (ws.map Prod.fst)[0]? = some ax) (ham : (ws.map Prod.fst)[70]? = some am) (hl : lv_has ls 4 [(0, .ref b), (1, .ref ax), (2, .ref am), (3, .int i)]) (hi : 0 ≤ i.toInt ∧ i.toInt + 6 ≤ L ∧ L ≤ 3072) (hcs : cs ≤ 600000) (hsl : sl ≤ 7302250) (KE : ∀ (m2 : dM) (H2 : Heap) (locs2 : List Loc) (ws2 : va_W) (tys2 : List (ClassId × FieldType)), Ok m2 → Rf m2 → ws2.map Prod.fst = ws.map Prod.fst → lWc D s m2 H2 locs2 ws2 tys2 → W p l e room_1 s m #[Value.ref b] below meth c H2 locs2 cs sl Q (F0 m 1191 ls [])) : W p l e room_1 s m #[Value.ref b] below meth c H locs cs sl Q (F0 m 471 ls []) := by
  obtain ⟨⟨hx, hb, -, -, -, -, -, -, -, -⟩, -, -⟩ := id C0
  refine lv_aload_n hx hb dl_471 rfl (lv_at hl 1 rfl) ?_
  refine law_arg (k := 1) C0 hW.2.2.2.1 hl hi (by decide) dl_472 dl_473 dl_474 dl_475 dl_476 ?_
  refine law_callC (N := tM256) (Y := tY256) (mm := mm) (Qm := fun r m' => Md (fun H S P => aThk H S P (xs (i + Int32.ofInt ((1 : Nat) : Int)).toNatClampNeg)) r m') (as := [.inl (xs (i + Int32.ofInt ((1 : Nat) : Int)).toNatClampNeg)]) (vs := [.int (xs (i + Int32.ofInt ((1 : Nat) : Int)).toNatClampNeg)]) (rest := []) C0 hW hl.1 (w1_thicken ⟨hO, hT⟩) (nn := 1) rfl rfl (Nat.le_of_ble_eq_true rfl) rfl rfl rfl rfl rfl (kIs_ok (c := 4201) (by decide +kernel)) (kIs_ok (c := 4202) (by decide +kernel)) (kIs_ok (c := 4203) (by decide +kernel)) (d0 := 11) rfl ⟨_, rfl⟩ hax ⟨rfl, trivial⟩ (Nat.le_of_ble_eq_true rfl) hcs hsl dl_477 (fun r1 m1 H1 locs1 ws1 tys1 O1 hp1 hW1 => ?_)
  refine lv_pop hx hb dl_480 rfl ?_
  refine lv_aload_n hx hb dl_481 rfl (lv_at hl 2 rfl) ?_
  refine law_arg (k := 1) C0 hW1.2.2.2.1 hl hi (by decide) dl_482 dl_483 dl_484 dl_485 dl_486 ?_
  refine law_callC (N := tM76) (Y := tY76) (mm := m1) (Qm := fun r m' => Bt m' ∧ r1 = r) (as := [.inl (xs (i + Int32.ofInt ((1 : Nat) : Int)).toNatClampNeg)]) (vs := [.int (xs (i + Int32.ofInt ((1 : Nat) : Int)).toNatClampNeg)]) (rest := []) C0 hW1 hl.1 (w2_thicken O1) (nn := 0) rfl rfl (Nat.le_of_ble_eq_true rfl) rfl rfl rfl rfl rfl (kIs_ok (c := 7238) (by decide +kernel)) (kIs_ok (c := 7239) (by decide +kernel)) (kIs_ok (c := 8000) (by decide +kernel)) (d0 := 12) rfl ⟨_, rfl⟩ (by rw [hp1]; exact ham) ⟨rfl, trivial⟩ (Nat.le_of_ble_eq_true rfl) hcs hsl dl_487 (fun r2 m2 H2 locs2 ws2 tys2 O2 hp2 hW2 => ?_)
  obtain ⟨B2, e12⟩ := O2
  refine lv_pop hx hb dl_490 rfl ?_
  refine lv_goto (tgt := 1191) hx hb dl_491 (by decide) ?_
  exact KE m2 H2 locs2 ws2 tys2 B2.1 B2.2 (hp2.trans hp1) hW2
theorem law_pin0 (C0 : lX p s m meth c b L xs adK adV) (hz : xs (i + Int32.ofInt ((2 : Nat) : Int)).toNatClampNeg = 0) {mm : dM} {H : Heap} {locs : List Loc} {ws : va_W} {tys : List (ClassId × FieldType)} {ls : Array Slot} {ax am cs sl : Nat} (hO : Ok mm) (hT : Rf mm) (hW : lWc D s mm H locs ws tys) (hax : (ws.map Prod.fst)[0]? = some ax) (ham : (ws.map Prod.fst)[70]? = some am) (hl : lv_has ls 4 [(0, .ref b), (1, .ref ax), (2, .ref am), (3, .int i)]) (hi : 0 ≤ i.toInt ∧ i.toInt + 6 ≤ L ∧ L ≤ 3072) (hcs : cs ≤ 600000) (hsl : sl ≤ 7302250) (KE : ∀ (m2 : dM) (H2 : Heap) (locs2 : List Loc) (ws2 : va_W) (tys2 : List (ClassId × FieldType)), Ok m2 → Rf m2 → ws2.map Prod.fst = ws.map Prod.fst → lWc D s m2 H2 locs2 ws2 tys2 → W p l e room_1 s m #[Value.ref b] below meth c H2 locs2 cs sl Q (F0 m 1191 ls [])) : W p l e room_1 s m #[Value.ref b] below meth c H locs cs sl Q (F0 m 494 ls []) := by
  obtain ⟨⟨hx, hb, -, -, -, -, -, -, -, -⟩, -, -⟩ := id C0
  refine lv_aload_n hx hb dl_494 rfl (lv_at hl 1 rfl) ?_
  refine law_arg (k := 1) C0 hW.2.2.2.1 hl hi (by decide) dl_495 dl_496 dl_497 dl_498 dl_499 ?_
  refine law_arg (k := 2) C0 hW.2.2.2.1 hl hi (by decide) dl_500 dl_501 dl_502 dl_503 dl_504 ?_
  refine lv_if_eq (tgt := 512) hx hb dl_505 (by decide) (fun _ => ?_) (fun q => absurd hz q)
  refine lv_iconst (v := 0) hx hb dl_512 (by decide) ?_
  refine law_callC (N := tM257) (Y := tY257) (mm := mm) (Qm := fun r m' => Md (fun H S P => aPin H S P (xs (i + Int32.ofInt ((1 : Nat) : Int)).toNatClampNeg) ((0 : Int32))) r m') (as := [.inl (xs (i + Int32.ofInt ((1 : Nat) : Int)).toNatClampNeg), .inl ((0 : Int32))]) (vs := [.int (xs (i + Int32.ofInt ((1 : Nat) : Int)).toNatClampNeg), .int ((0 : Int32))]) (rest := []) C0 hW hl.1 (w1_pin ⟨hO, hT⟩ (by decide)) (nn := 0) rfl rfl (Nat.le_of_ble_eq_true rfl) rfl rfl rfl rfl rfl (kIs_ok (c := 4205) (by decide +kernel)) (kIs_ok (c := 4206) (by decide +kernel)) (kIs_ok (c := 4207) (by decide +kernel)) (d0 := 11) rfl ⟨_, rfl⟩ hax ⟨rfl, ⟨rfl, trivial⟩⟩ (Nat.le_of_ble_eq_true rfl) hcs hsl dl_513 (fun r1 m1 H1 locs1 ws1 tys1 O1 hp1 hW1 => ?_)
  refine lv_pop hx hb dl_516 rfl ?_
  refine lv_aload_n hx hb dl_517 rfl (lv_at hl 2 rfl) ?_
  refine law_arg (k := 1) C0 hW1.2.2.2.1 hl hi (by decide) dl_518 dl_519 dl_520 dl_521 dl_522 ?_
  refine law_arg (k := 2) C0 hW1.2.2.2.1 hl hi (by decide) dl_523 dl_524 dl_525 dl_526 dl_527 ?_
  refine lv_if_eq (tgt := 535) hx hb dl_528 (by decide) (fun _ => ?_) (fun q => absurd hz q)
  refine lv_iconst (v := 0) hx hb dl_535 (by decide) ?_
  refine law_callC (N := tM77) (Y := tY77) (mm := m1) (Qm := fun r m' => Bt m' ∧ r1 = r) (as := [.inl (xs (i + Int32.ofInt ((1 : Nat) : Int)).toNatClampNeg), .inl ((0 : Int32))]) (vs := [.int (xs (i + Int32.ofInt ((1 : Nat) : Int)).toNatClampNeg), .int ((0 : Int32))]) (rest := []) C0 hW1 hl.1 (w2_pin O1 (by decide)) (nn := 0) rfl rfl (Nat.le_of_ble_eq_true rfl) rfl rfl rfl rfl rfl (kIs_ok (c := 8002) (by decide +kernel)) (kIs_ok (c := 8003) (by decide +kernel)) (kIs_ok (c := 8004) (by decide +kernel)) (d0 := 12) rfl ⟨_, rfl⟩ (by rw [hp1]; exact ham) ⟨rfl, ⟨rfl, trivial⟩⟩ (Nat.le_of_ble_eq_true rfl) hcs hsl dl_536 (fun r2 m2 H2 locs2 ws2 tys2 O2 hp2 hW2 => ?_)
  obtain ⟨B2, e12⟩ := O2
  refine lv_pop hx hb dl_539 rfl ?_
  refine lv_goto (tgt := 1191) hx hb dl_540 (by decide) ?_
  exact KE m2 H2 locs2 ws2 tys2 B2.1 B2.2 (hp2.trans hp1) hW2
theorem law_pin1 (C0 : lX p s m meth c b L xs adK adV) (hz : ¬ xs (i + Int32.ofInt ((2 : Nat) : Int)).toNatClampNeg = 0) {mm : dM} {H : Heap} {locs : List Loc} {ws : va_W} {tys : List (ClassId × FieldType)} {ls : Array Slot} {ax am cs sl : Nat} (hO : Ok mm) (hT : Rf mm) (hW : lWc D s mm H locs ws tys) (hax : (ws.map Prod.fst)[0]? = some ax) (ham : (ws.map Prod.fst)[70]? = some am) (hl : lv_has ls 4 [(0, .ref b), (1, .ref ax), (2, .ref am), (3, .int i)]) (hi : 0 ≤ i.toInt ∧ i.toInt + 6 ≤ L ∧ L ≤ 3072) (hcs : cs ≤ 600000) (hsl : sl ≤ 7302250) (KE : ∀ (m2 : dM) (H2 : Heap) (locs2 : List Loc) (ws2 : va_W) (tys2 : List (ClassId × FieldType)), Ok m2 → Rf m2 → ws2.map Prod.fst = ws.map Prod.fst → lWc D s m2 H2 locs2 ws2 tys2 → W p l e room_1 s m #[Value.ref b] below meth c H2 locs2 cs sl Q (F0 m 1191 ls [])) : W p l e room_1 s m #[Value.ref b] below meth c H locs cs sl Q (F0 m 494 ls []) := by
  obtain ⟨⟨hx, hb, -, -, -, -, -, -, -, -⟩, -, -⟩ := id C0
  refine lv_aload_n hx hb dl_494 rfl (lv_at hl 1 rfl) ?_
  refine law_arg (k := 1) C0 hW.2.2.2.1 hl hi (by decide) dl_495 dl_496 dl_497 dl_498 dl_499 ?_
  refine law_arg (k := 2) C0 hW.2.2.2.1 hl hi (by decide) dl_500 dl_501 dl_502 dl_503 dl_504 ?_
  refine lv_if_eq (tgt := 512) hx hb dl_505 (by decide) (fun q => absurd q hz) (fun _ => ?_)
  refine lv_iconst (v := 1) hx hb dl_508 (by decide) ?_
  refine lv_goto (tgt := 513) hx hb dl_509 (by decide) ?_
  refine law_callC (N := tM257) (Y := tY257) (mm := mm) (Qm := fun r m' => Md (fun H S P => aPin H S P (xs (i + Int32.ofInt ((1 : Nat) : Int)).toNatClampNeg) ((1 : Int32))) r m') (as := [.inl (xs (i + Int32.ofInt ((1 : Nat) : Int)).toNatClampNeg), .inl ((1 : Int32))]) (vs := [.int (xs (i + Int32.ofInt ((1 : Nat) : Int)).toNatClampNeg), .int ((1 : Int32))]) (rest := []) C0 hW hl.1 (w1_pin ⟨hO, hT⟩ (by decide)) (nn := 0) rfl rfl (Nat.le_of_ble_eq_true rfl) rfl rfl rfl rfl rfl (kIs_ok (c := 4205) (by decide +kernel)) (kIs_ok (c := 4206) (by decide +kernel)) (kIs_ok (c := 4207) (by decide +kernel)) (d0 := 11) rfl ⟨_, rfl⟩ hax ⟨rfl, ⟨rfl, trivial⟩⟩ (Nat.le_of_ble_eq_true rfl) hcs hsl dl_513 (fun r1 m1 H1 locs1 ws1 tys1 O1 hp1 hW1 => ?_)
  refine lv_pop hx hb dl_516 rfl ?_
  refine lv_aload_n hx hb dl_517 rfl (lv_at hl 2 rfl) ?_
  refine law_arg (k := 1) C0 hW1.2.2.2.1 hl hi (by decide) dl_518 dl_519 dl_520 dl_521 dl_522 ?_
  refine law_arg (k := 2) C0 hW1.2.2.2.1 hl hi (by decide) dl_523 dl_524 dl_525 dl_526 dl_527 ?_
  refine lv_if_eq (tgt := 535) hx hb dl_528 (by decide) (fun q => absurd q hz) (fun _ => ?_)
  refine lv_iconst (v := 1) hx hb dl_531 (by decide) ?_
  refine lv_goto (tgt := 536) hx hb dl_532 (by decide) ?_
  refine law_callC (N := tM77) (Y := tY77) (mm := m1) (Qm := fun r m' => Bt m' ∧ r1 = r) (as := [.inl (xs (i + Int32.ofInt ((1 : Nat) : Int)).toNatClampNeg), .inl ((1 : Int32))]) (vs := [.int (xs (i + Int32.ofInt ((1 : Nat) : Int)).toNatClampNeg), .int ((1 : Int32))]) (rest := []) C0 hW1 hl.1 (w2_pin O1 (by decide)) (nn := 0) rfl rfl (Nat.le_of_ble_eq_true rfl) rfl rfl rfl rfl rfl (kIs_ok (c := 8002) (by decide +kernel)) (kIs_ok (c := 8003) (by decide +kernel)) (kIs_ok (c := 8004) (by decide +kernel)) (d0 := 12) rfl ⟨_, rfl⟩ (by rw [hp1]; exact ham) ⟨rfl, ⟨rfl, trivial⟩⟩ (Nat.le_of_ble_eq_true rfl) hcs hsl dl_536 (fun r2 m2 H2 locs2 ws2 tys2 O2 hp2 hW2 => ?_)
  obtain ⟨B2, e12⟩ := O2
  refine lv_pop hx hb dl_539 rfl ?_
  refine lv_goto (tgt := 1191) hx hb dl_540 (by decide) ?_
  exact KE m2 H2 locs2 ws2 tys2 B2.1 B2.2 (hp2.trans hp1) hW2
theorem law_hours (C0 : lX p s m meth c b L xs adK adV) {mm : dM} {H : Heap} {locs : List Loc} {ws : va_W} {tys : List (ClassId × FieldType)} {ls : Array Slot} {ax am cs sl : Nat} (hO : Ok mm) (hT : Rf mm) (hW : lWc D s mm H locs ws tys) (hax : (ws.map Prod.fst)[0]? = some ax) (ham : (ws.map Prod.fst)[70]? = some am) (hl : lv_has ls 4 [(0, .ref b), (1, .ref ax), (2, .ref am), (3, .int i)]) (hi : 0 ≤ i.toInt ∧ i.toInt + 6 ≤ L ∧ L ≤ 3072) (hcs : cs ≤ 600000) (hsl : sl ≤ 7302250) (KE : ∀ (m2 : dM) (H2 : Heap) (locs2 : List Loc) (ws2 : va_W) (tys2 : List (ClassId × FieldType)), Ok m2 → Rf m2 → ws2.map Prod.fst = ws.map Prod.fst → lWc D s m2 H2 locs2 ws2 tys2 → W p l e room_1 s m #[Value.ref b] below meth c H2 locs2 cs sl Q (F0 m 1191 ls [])) : W p l e room_1 s m #[Value.ref b] below meth c H locs cs sl Q (F0 m 543 ls []) := by
  obtain ⟨⟨hx, hb, -, -, -, -, -, -, -, -⟩, -, -⟩ := id C0
  refine lv_aload_n hx hb dl_543 rfl (lv_at hl 1 rfl) ?_
  refine law_arg (k := 1) C0 hW.2.2.2.1 hl hi (by decide) dl_544 dl_545 dl_546 dl_547 dl_548 ?_
  refine law_callC (N := tM258) (Y := tY258) (mm := mm) (Qm := fun r m' => Md (fun H S P => aHrs H S P (xs (i + Int32.ofInt ((1 : Nat) : Int)).toNatClampNeg)) r m') (as := [.inl (xs (i + Int32.ofInt ((1 : Nat) : Int)).toNatClampNeg)]) (vs := [.int (xs (i + Int32.ofInt ((1 : Nat) : Int)).toNatClampNeg)]) (rest := []) C0 hW hl.1 (w1_hours ⟨hO, hT⟩) (nn := 1) rfl rfl (Nat.le_of_ble_eq_true rfl) rfl rfl rfl rfl rfl (kIs_ok (c := 4209) (by decide +kernel)) (kIs_ok (c := 4210) (by decide +kernel)) (kIs_ok (c := 4211) (by decide +kernel)) (d0 := 11) rfl ⟨_, rfl⟩ hax ⟨rfl, trivial⟩ (Nat.le_of_ble_eq_true rfl) hcs hsl dl_549 (fun r1 m1 H1 locs1 ws1 tys1 O1 hp1 hW1 => ?_)
  refine lv_pop hx hb dl_552 rfl ?_
  refine lv_aload_n hx hb dl_553 rfl (lv_at hl 2 rfl) ?_
  refine law_arg (k := 1) C0 hW1.2.2.2.1 hl hi (by decide) dl_554 dl_555 dl_556 dl_557 dl_558 ?_
  refine law_callC (N := tM79) (Y := tY79) (mm := m1) (Qm := fun r m' => Bt m' ∧ r1 = r) (as := [.inl (xs (i + Int32.ofInt ((1 : Nat) : Int)).toNatClampNeg)]) (vs := [.int (xs (i + Int32.ofInt ((1 : Nat) : Int)).toNatClampNeg)]) (rest := []) C0 hW1 hl.1 (w2_hours O1) (nn := 0) rfl rfl (Nat.le_of_ble_eq_true rfl) rfl rfl rfl rfl rfl (kIs_ok (c := 8006) (by decide +kernel)) (kIs_ok (c := 8007) (by decide +kernel)) (kIs_ok (c := 8008) (by decide +kernel)) (d0 := 12) rfl ⟨_, rfl⟩ (by rw [hp1]; exact ham) ⟨rfl, trivial⟩ (Nat.le_of_ble_eq_true rfl) hcs hsl dl_559 (fun r2 m2 H2 locs2 ws2 tys2 O2 hp2 hW2 => ?_)
  obtain ⟨B2, e12⟩ := O2
  refine lv_pop hx hb dl_562 rfl ?_
  refine lv_goto (tgt := 1191) hx hb dl_563 (by decide) ?_
  exact KE m2 H2 locs2 ws2 tys2 B2.1 B2.2 (hp2.trans hp1) hW2
theorem law_undo (C0 : lX p s m meth c b L xs adK adV) {mm : dM} {H : Heap} {locs : List Loc} {ws : va_W} {tys : List (ClassId × FieldType)} {ls : Array Slot} {ax am cs sl : Nat} (hO : Ok mm) (hT : Rf mm) (hW : lWc D s mm H locs ws tys) (hax : (ws.map Prod.fst)[0]? = some ax) (ham : (ws.map Prod.fst)[70]? = some am) (hl : lv_has ls 4 [(0, .ref b), (1, .ref ax), (2, .ref am), (3, .int i)]) (hi : 0 ≤ i.toInt ∧ i.toInt + 6 ≤ L ∧ L ≤ 3072) (hcs : cs ≤ 600000) (hsl : sl ≤ 7302250) (KE : ∀ (m2 : dM) (H2 : Heap) (locs2 : List Loc) (ws2 : va_W) (tys2 : List (ClassId × FieldType)), Ok m2 → Rf m2 → ws2.map Prod.fst = ws.map Prod.fst → lWc D s m2 H2 locs2 ws2 tys2 → W p l e room_1 s m #[Value.ref b] below meth c H2 locs2 cs sl Q (F0 m 1191 ls [])) : W p l e room_1 s m #[Value.ref b] below meth c H locs cs sl Q (F0 m 566 ls []) := by
  obtain ⟨⟨hx, hb, -, -, -, -, -, -, -, -⟩, -, -⟩ := id C0
  refine lv_aload_n hx hb dl_566 rfl (lv_at hl 1 rfl) ?_
  refine law_callC (N := tM259) (Y := tY259) (mm := mm) (Qm := fun r m' => Md (fun _ S P => aUnd S P) r m') (as := []) (vs := []) (rest := []) C0 hW hl.1 (w1_undo ⟨hO, hT⟩) (nn := 0) rfl rfl (Nat.le_of_ble_eq_true rfl) rfl rfl rfl rfl rfl (kIs_ok (c := 5008) (by decide +kernel)) (kIs_ok (c := 5009) (by decide +kernel)) (kIs_ok (c := 5010) (by decide +kernel)) (d0 := 11) rfl ⟨_, rfl⟩ hax trivial (Nat.le_of_ble_eq_true rfl) hcs hsl dl_567 (fun r1 m1 H1 locs1 ws1 tys1 O1 hp1 hW1 => ?_)
  refine lv_pop hx hb dl_570 rfl ?_
  refine lv_aload_n hx hb dl_571 rfl (lv_at hl 2 rfl) ?_
  refine law_callC (N := tM80) (Y := tY80) (mm := m1) (Qm := fun r m' => Bt m' ∧ r1 = r) (as := []) (vs := []) (rest := []) C0 hW1 hl.1 (w2_undo O1) (nn := 1) rfl rfl (Nat.le_of_ble_eq_true rfl) rfl rfl rfl rfl rfl (kIs_ok (c := 8043) (by decide +kernel)) (kIs_ok (c := 8044) (by decide +kernel)) (kIs_ok (c := 8045) (by decide +kernel)) (d0 := 12) rfl ⟨_, rfl⟩ (by rw [hp1]; exact ham) trivial (Nat.le_of_ble_eq_true rfl) hcs hsl dl_572 (fun r2 m2 H2 locs2 ws2 tys2 O2 hp2 hW2 => ?_)
  obtain ⟨B2, e12⟩ := O2
  refine lv_pop hx hb dl_575 rfl ?_
  refine lv_goto (tgt := 1191) hx hb dl_576 (by decide) ?_
  exact KE m2 H2 locs2 ws2 tys2 B2.1 B2.2 (hp2.trans hp1) hW2
theorem law_way (C0 : lX p s m meth c b L xs adK adV) {mm : dM} {H : Heap} {locs : List Loc} {ws : va_W} {tys : List (ClassId × FieldType)} {ls : Array Slot} {ax am cs sl : Nat} (hO : Ok mm) (hT : Rf mm) (hW : lWc D s mm H locs ws tys) (hax : (ws.map Prod.fst)[0]? = some ax) (ham : (ws.map Prod.fst)[70]? = some am) (hl : lv_has ls 4 [(0, .ref b), (1, .ref ax), (2, .ref am), (3, .int i)]) (hi : 0 ≤ i.toInt ∧ i.toInt + 6 ≤ L ∧ L ≤ 3072) (hcs : cs ≤ 600000) (hsl : sl ≤ 7302250) (KE : ∀ (m2 : dM) (H2 : Heap) (locs2 : List Loc) (ws2 : va_W) (tys2 : List (ClassId × FieldType)), Ok m2 → Rf m2 → ws2.map Prod.fst = ws.map Prod.fst → lWc D s m2 H2 locs2 ws2 tys2 → W p l e room_1 s m #[Value.ref b] below meth c H2 locs2 cs sl Q (F0 m 1191 ls [])) : W p l e room_1 s m #[Value.ref b] below meth c H locs cs sl Q (F0 m 579 ls []) := by
  obtain ⟨⟨hx, hb, -, -, -, -, -, -, -, -⟩, -, -⟩ := id C0
  refine lv_aload_n hx hb dl_579 rfl (lv_at hl 1 rfl) ?_
  refine law_arg (k := 1) C0 hW.2.2.2.1 hl hi (by decide) dl_580 dl_581 dl_582 dl_583 dl_584 ?_
  refine law_arg (k := 2) C0 hW.2.2.2.1 hl hi (by decide) dl_585 dl_586 dl_587 dl_588 dl_589 ?_
  refine law_callC (N := tM260) (Y := tY260) (mm := mm) (Qm := fun _ m' => Bt m') (as := [.inl (xs (i + Int32.ofInt ((1 : Nat) : Int)).toNatClampNeg), .inl (xs (i + Int32.ofInt ((2 : Nat) : Int)).toNatClampNeg)]) (vs := [.int (xs (i + Int32.ofInt ((1 : Nat) : Int)).toNatClampNeg), .int (xs (i + Int32.ofInt ((2 : Nat) : Int)).toNatClampNeg)]) (rest := []) C0 hW hl.1 (w1_way ⟨hO, hT⟩) (nn := 1) rfl rfl (Nat.le_of_ble_eq_true rfl) rfl rfl rfl rfl rfl (kIs_ok (c := 5020) (by decide +kernel)) (kIs_ok (c := 5021) (by decide +kernel)) (kIs_ok (c := 5022) (by decide +kernel)) (d0 := 11) rfl ⟨_, rfl⟩ hax ⟨rfl, ⟨rfl, trivial⟩⟩ (Nat.le_of_ble_eq_true rfl) hcs hsl dl_590 (fun r1 m1 H1 locs1 ws1 tys1 O1 hp1 hW1 => ?_)
  refine lv_pop hx hb dl_593 rfl ?_
  refine lv_aload_n hx hb dl_594 rfl (lv_at hl 2 rfl) ?_
  refine law_arg (k := 1) C0 hW1.2.2.2.1 hl hi (by decide) dl_595 dl_596 dl_597 dl_598 dl_599 ?_
  refine law_arg (k := 2) C0 hW1.2.2.2.1 hl hi (by decide) dl_600 dl_601 dl_602 dl_603 dl_604 ?_
  refine law_callC (N := tM81) (Y := tY81) (mm := m1) (Qm := fun _ m' => Bt m') (as := [.inl (xs (i + Int32.ofInt ((1 : Nat) : Int)).toNatClampNeg), .inl (xs (i + Int32.ofInt ((2 : Nat) : Int)).toNatClampNeg)]) (vs := [.int (xs (i + Int32.ofInt ((1 : Nat) : Int)).toNatClampNeg), .int (xs (i + Int32.ofInt ((2 : Nat) : Int)).toNatClampNeg)]) (rest := []) C0 hW1 hl.1 (w2_way O1) (nn := 2) rfl rfl (Nat.le_of_ble_eq_true rfl) rfl rfl rfl rfl rfl (kIs_ok (c := 8047) (by decide +kernel)) (kIs_ok (c := 8048) (by decide +kernel)) (kIs_ok (c := 8049) (by decide +kernel)) (d0 := 12) rfl ⟨_, rfl⟩ (by rw [hp1]; exact ham) ⟨rfl, ⟨rfl, trivial⟩⟩ (Nat.le_of_ble_eq_true rfl) hcs hsl dl_605 (fun r2 m2 H2 locs2 ws2 tys2 O2 hp2 hW2 => ?_)
  have B2 : Bt m2 := O2
  refine lv_pop hx hb dl_608 rfl ?_
  refine lv_goto (tgt := 1191) hx hb dl_609 (by decide) ?_
  exact KE m2 H2 locs2 ws2 tys2 B2.1 B2.2 (hp2.trans hp1) hW2
theorem law_peak (C0 : lX p s m meth c b L xs adK adV) {mm : dM} {H : Heap} {locs : List Loc} {ws : va_W} {tys : List (ClassId × FieldType)} {ls : Array Slot} {ax am cs sl : Nat} (hO : Ok mm) (hT : Rf mm) (hW : lWc D s mm H locs ws tys) (hax : (ws.map Prod.fst)[0]? = some ax) (ham : (ws.map Prod.fst)[70]? = some am) (hl : lv_has ls 4 [(0, .ref b), (1, .ref ax), (2, .ref am), (3, .int i)]) (hi : 0 ≤ i.toInt ∧ i.toInt + 6 ≤ L ∧ L ≤ 3072) (hcs : cs ≤ 600000) (hsl : sl ≤ 7302250) (KE : ∀ (m2 : dM) (H2 : Heap) (locs2 : List Loc) (ws2 : va_W) (tys2 : List (ClassId × FieldType)), Ok m2 → Rf m2 → ws2.map Prod.fst = ws.map Prod.fst → lWc D s m2 H2 locs2 ws2 tys2 → W p l e room_1 s m #[Value.ref b] below meth c H2 locs2 cs sl Q (F0 m 1191 ls [])) : W p l e room_1 s m #[Value.ref b] below meth c H locs cs sl Q (F0 m 612 ls []) := by
  obtain ⟨⟨hx, hb, -, -, -, -, -, -, -, -⟩, -, -⟩ := id C0
  refine lv_aload_n hx hb dl_612 rfl (lv_at hl 1 rfl) ?_
  refine law_arg (k := 1) C0 hW.2.2.2.1 hl hi (by decide) dl_613 dl_614 dl_615 dl_616 dl_617 ?_
  refine law_arg (k := 2) C0 hW.2.2.2.1 hl hi (by decide) dl_618 dl_619 dl_620 dl_621 dl_622 ?_
  refine law_arg (k := 3) C0 hW.2.2.2.1 hl hi (by decide) dl_623 dl_624 dl_625 dl_626 dl_627 ?_
  refine law_callC (N := tM261) (Y := tY261) (mm := mm) (Qm := fun _ m' => Bt m') (as := [.inl (xs (i + Int32.ofInt ((1 : Nat) : Int)).toNatClampNeg), .inl (xs (i + Int32.ofInt ((2 : Nat) : Int)).toNatClampNeg), .inl (xs (i + Int32.ofInt ((3 : Nat) : Int)).toNatClampNeg)]) (vs := [.int (xs (i + Int32.ofInt ((1 : Nat) : Int)).toNatClampNeg), .int (xs (i + Int32.ofInt ((2 : Nat) : Int)).toNatClampNeg), .int (xs (i + Int32.ofInt ((3 : Nat) : Int)).toNatClampNeg)]) (rest := []) C0 hW hl.1 (w1_peak ⟨hO, hT⟩) (nn := 0) rfl rfl (Nat.le_of_ble_eq_true rfl) rfl rfl rfl rfl rfl (kIs_ok (c := 5028) (by decide +kernel)) (kIs_ok (c := 5029) (by decide +kernel)) (kIs_ok (c := 5030) (by decide +kernel)) (d0 := 11) rfl ⟨_, rfl⟩ hax ⟨rfl, ⟨rfl, ⟨rfl, trivial⟩⟩⟩ (Nat.le_of_ble_eq_true rfl) hcs hsl dl_628 (fun r1 m1 H1 locs1 ws1 tys1 O1 hp1 hW1 => ?_)
  refine lv_pop hx hb dl_631 rfl ?_
  refine lv_aload_n hx hb dl_632 rfl (lv_at hl 2 rfl) ?_
  refine law_arg (k := 1) C0 hW1.2.2.2.1 hl hi (by decide) dl_633 dl_634 dl_635 dl_636 dl_637 ?_
  refine law_arg (k := 2) C0 hW1.2.2.2.1 hl hi (by decide) dl_638 dl_639 dl_640 dl_641 dl_642 ?_
  refine law_arg (k := 3) C0 hW1.2.2.2.1 hl hi (by decide) dl_643 dl_644 dl_645 dl_646 dl_647 ?_
  refine law_callC (N := tM83) (Y := tY83) (mm := m1) (Qm := fun _ m' => Bt m') (as := [.inl (xs (i + Int32.ofInt ((1 : Nat) : Int)).toNatClampNeg), .inl (xs (i + Int32.ofInt ((2 : Nat) : Int)).toNatClampNeg), .inl (xs (i + Int32.ofInt ((3 : Nat) : Int)).toNatClampNeg)]) (vs := [.int (xs (i + Int32.ofInt ((1 : Nat) : Int)).toNatClampNeg), .int (xs (i + Int32.ofInt ((2 : Nat) : Int)).toNatClampNeg), .int (xs (i + Int32.ofInt ((3 : Nat) : Int)).toNatClampNeg)]) (rest := []) C0 hW1 hl.1 (w2_peak O1) (nn := 4) rfl rfl (Nat.le_of_ble_eq_true rfl) rfl rfl rfl rfl rfl (kIs_ok (c := 8051) (by decide +kernel)) (kIs_ok (c := 8052) (by decide +kernel)) (kIs_ok (c := 8053) (by decide +kernel)) (d0 := 12) rfl ⟨_, rfl⟩ (by rw [hp1]; exact ham) ⟨rfl, ⟨rfl, ⟨rfl, trivial⟩⟩⟩ (Nat.le_of_ble_eq_true rfl) hcs hsl dl_648 (fun r2 m2 H2 locs2 ws2 tys2 O2 hp2 hW2 => ?_)
  have B2 : Bt m2 := O2
  refine lv_pop hx hb dl_651 rfl ?_
  refine lv_goto (tgt := 1191) hx hb dl_652 (by decide) ?_
  exact KE m2 H2 locs2 ws2 tys2 B2.1 B2.2 (hp2.trans hp1) hW2
theorem law_first (C0 : lX p s m meth c b L xs adK adV) {mm : dM} {H : Heap} {locs : List Loc} {ws : va_W} {tys : List (ClassId × FieldType)} {ls : Array Slot} {ax am cs sl : Nat} (hO : Ok mm) (hT : Rf mm) (hW : lWc D s mm H locs ws tys) (hax : (ws.map Prod.fst)[0]? = some ax) (ham : (ws.map Prod.fst)[70]? = some am) (hl : lv_has ls 4 [(0, .ref b), (1, .ref ax), (2, .ref am), (3, .int i)]) (hi : 0 ≤ i.toInt ∧ i.toInt + 6 ≤ L ∧ L ≤ 3072) (hcs : cs ≤ 600000) (hsl : sl ≤ 7302250) (KE : ∀ (m2 : dM) (H2 : Heap) (locs2 : List Loc) (ws2 : va_W) (tys2 : List (ClassId × FieldType)), Ok m2 → Rf m2 → ws2.map Prod.fst = ws.map Prod.fst → lWc D s m2 H2 locs2 ws2 tys2 → W p l e room_1 s m #[Value.ref b] below meth c H2 locs2 cs sl Q (F0 m 1191 ls [])) : W p l e room_1 s m #[Value.ref b] below meth c H locs cs sl Q (F0 m 655 ls []) := by
  obtain ⟨⟨hx, hb, -, -, -, -, -, -, -, -⟩, -, -⟩ := id C0
  refine lv_aload_n hx hb dl_655 rfl (lv_at hl 1 rfl) ?_
  refine law_arg (k := 1) C0 hW.2.2.2.1 hl hi (by decide) dl_656 dl_657 dl_658 dl_659 dl_660 ?_
  refine law_callC (N := tM262) (Y := tY262) (mm := mm) (Qm := fun _ m' => Bt m') (as := [.inl (xs (i + Int32.ofInt ((1 : Nat) : Int)).toNatClampNeg)]) (vs := [.int (xs (i + Int32.ofInt ((1 : Nat) : Int)).toNatClampNeg)]) (rest := []) C0 hW hl.1 (w1_first ⟨hO, hT⟩) (nn := 1) rfl rfl (Nat.le_of_ble_eq_true rfl) rfl rfl rfl rfl rfl (kIs_ok (c := 5041) (by decide +kernel)) (kIs_ok (c := 5042) (by decide +kernel)) (kIs_ok (c := 5043) (by decide +kernel)) (d0 := 11) rfl ⟨_, rfl⟩ hax ⟨rfl, trivial⟩ (Nat.le_of_ble_eq_true rfl) hcs hsl dl_661 (fun r1 m1 H1 locs1 ws1 tys1 O1 hp1 hW1 => ?_)
  refine lv_pop hx hb dl_664 rfl ?_
  refine lv_aload_n hx hb dl_665 rfl (lv_at hl 2 rfl) ?_
  refine law_arg (k := 1) C0 hW1.2.2.2.1 hl hi (by decide) dl_666 dl_667 dl_668 dl_669 dl_670 ?_
  refine law_callC (N := tM86) (Y := tY86) (mm := m1) (Qm := fun _ m' => Bt m') (as := [.inl (xs (i + Int32.ofInt ((1 : Nat) : Int)).toNatClampNeg)]) (vs := [.int (xs (i + Int32.ofInt ((1 : Nat) : Int)).toNatClampNeg)]) (rest := []) C0 hW1 hl.1 (w2_first O1) (nn := 1) rfl rfl (Nat.le_of_ble_eq_true rfl) rfl rfl rfl rfl rfl (kIs_ok (c := 8059) (by decide +kernel)) (kIs_ok (c := 8060) (by decide +kernel)) (kIs_ok (c := 8061) (by decide +kernel)) (d0 := 12) rfl ⟨_, rfl⟩ (by rw [hp1]; exact ham) ⟨rfl, trivial⟩ (Nat.le_of_ble_eq_true rfl) hcs hsl dl_671 (fun r2 m2 H2 locs2 ws2 tys2 O2 hp2 hW2 => ?_)
  have B2 : Bt m2 := O2
  refine lv_pop hx hb dl_674 rfl ?_
  refine lv_goto (tgt := 1191) hx hb dl_675 (by decide) ?_
  exact KE m2 H2 locs2 ws2 tys2 B2.1 B2.2 (hp2.trans hp1) hW2
theorem law_together (C0 : lX p s m meth c b L xs adK adV) {mm : dM} {H : Heap} {locs : List Loc} {ws : va_W} {tys : List (ClassId × FieldType)} {ls : Array Slot} {ax am cs sl : Nat} (hO : Ok mm) (hT : Rf mm) (hW : lWc D s mm H locs ws tys) (hax : (ws.map Prod.fst)[0]? = some ax) (ham : (ws.map Prod.fst)[70]? = some am) (hl : lv_has ls 4 [(0, .ref b), (1, .ref ax), (2, .ref am), (3, .int i)]) (hi : 0 ≤ i.toInt ∧ i.toInt + 6 ≤ L ∧ L ≤ 3072) (hcs : cs ≤ 600000) (hsl : sl ≤ 7302250) (KE : ∀ (m2 : dM) (H2 : Heap) (locs2 : List Loc) (ws2 : va_W) (tys2 : List (ClassId × FieldType)), Ok m2 → Rf m2 → ws2.map Prod.fst = ws.map Prod.fst → lWc D s m2 H2 locs2 ws2 tys2 → W p l e room_1 s m #[Value.ref b] below meth c H2 locs2 cs sl Q (F0 m 1191 ls [])) : W p l e room_1 s m #[Value.ref b] below meth c H locs cs sl Q (F0 m 678 ls []) := by
  obtain ⟨⟨hx, hb, -, -, -, -, -, -, -, -⟩, -, -⟩ := id C0
  refine lv_aload_n hx hb dl_678 rfl (lv_at hl 1 rfl) ?_
  refine law_arg (k := 1) C0 hW.2.2.2.1 hl hi (by decide) dl_679 dl_680 dl_681 dl_682 dl_683 ?_
  refine law_callC (N := tM263) (Y := tY263) (mm := mm) (Qm := fun _ m' => Bt m') (as := [.inl (xs (i + Int32.ofInt ((1 : Nat) : Int)).toNatClampNeg)]) (vs := [.int (xs (i + Int32.ofInt ((1 : Nat) : Int)).toNatClampNeg)]) (rest := []) C0 hW hl.1 (w1_together ⟨hO, hT⟩) (nn := 1) rfl rfl (Nat.le_of_ble_eq_true rfl) rfl rfl rfl rfl rfl (kIs_ok (c := 5060) (by decide +kernel)) (kIs_ok (c := 5061) (by decide +kernel)) (kIs_ok (c := 5062) (by decide +kernel)) (d0 := 11) rfl ⟨_, rfl⟩ hax ⟨rfl, trivial⟩ (Nat.le_of_ble_eq_true rfl) hcs hsl dl_684 (fun r1 m1 H1 locs1 ws1 tys1 O1 hp1 hW1 => ?_)
  refine lv_pop hx hb dl_687 rfl ?_
  refine lv_aload_n hx hb dl_688 rfl (lv_at hl 2 rfl) ?_
  refine law_arg (k := 1) C0 hW1.2.2.2.1 hl hi (by decide) dl_689 dl_690 dl_691 dl_692 dl_693 ?_
  refine law_callC (N := tM88) (Y := tY88) (mm := m1) (Qm := fun _ m' => Bt m') (as := [.inl (xs (i + Int32.ofInt ((1 : Nat) : Int)).toNatClampNeg)]) (vs := [.int (xs (i + Int32.ofInt ((1 : Nat) : Int)).toNatClampNeg)]) (rest := []) C0 hW1 hl.1 (w2_together O1) (nn := 5) rfl rfl (Nat.le_of_ble_eq_true rfl) rfl rfl rfl rfl rfl (kIs_ok (c := 8070) (by decide +kernel)) (kIs_ok (c := 8071) (by decide +kernel)) (kIs_ok (c := 8072) (by decide +kernel)) (d0 := 12) rfl ⟨_, rfl⟩ (by rw [hp1]; exact ham) ⟨rfl, trivial⟩ (Nat.le_of_ble_eq_true rfl) hcs hsl dl_694 (fun r2 m2 H2 locs2 ws2 tys2 O2 hp2 hW2 => ?_)
  have B2 : Bt m2 := O2
  refine lv_pop hx hb dl_697 rfl ?_
  refine lv_goto (tgt := 1191) hx hb dl_698 (by decide) ?_
  exact KE m2 H2 locs2 ws2 tys2 B2.1 B2.2 (hp2.trans hp1) hW2
theorem law_when (C0 : lX p s m meth c b L xs adK adV) {mm : dM} {H : Heap} {locs : List Loc} {ws : va_W} {tys : List (ClassId × FieldType)} {ls : Array Slot} {ax am cs sl : Nat} (hO : Ok mm) (hT : Rf mm) (hW : lWc D s mm H locs ws tys) (hax : (ws.map Prod.fst)[0]? = some ax) (ham : (ws.map Prod.fst)[70]? = some am) (hl : lv_has ls 4 [(0, .ref b), (1, .ref ax), (2, .ref am), (3, .int i)]) (hi : 0 ≤ i.toInt ∧ i.toInt + 6 ≤ L ∧ L ≤ 3072) (hcs : cs ≤ 600000) (hsl : sl ≤ 7302250) (KE : ∀ (m2 : dM) (H2 : Heap) (locs2 : List Loc) (ws2 : va_W) (tys2 : List (ClassId × FieldType)), Ok m2 → Rf m2 → ws2.map Prod.fst = ws.map Prod.fst → lWc D s m2 H2 locs2 ws2 tys2 → W p l e room_1 s m #[Value.ref b] below meth c H2 locs2 cs sl Q (F0 m 1191 ls [])) : W p l e room_1 s m #[Value.ref b] below meth c H locs cs sl Q (F0 m 701 ls []) := by
  obtain ⟨⟨hx, hb, -, -, -, -, -, -, -, -⟩, -, -⟩ := id C0
  refine lv_aload_n hx hb dl_701 rfl (lv_at hl 1 rfl) ?_
  refine law_arg (k := 1) C0 hW.2.2.2.1 hl hi (by decide) dl_702 dl_703 dl_704 dl_705 dl_706 ?_
  refine law_callC (N := tM264) (Y := tY264) (mm := mm) (Qm := fun _ m' => Bt m') (as := [.inl (xs (i + Int32.ofInt ((1 : Nat) : Int)).toNatClampNeg)]) (vs := [.int (xs (i + Int32.ofInt ((1 : Nat) : Int)).toNatClampNeg)]) (rest := []) C0 hW hl.1 (w1_when ⟨hO, hT⟩) (nn := 0) rfl rfl (Nat.le_of_ble_eq_true rfl) rfl rfl rfl rfl rfl (kIs_ok (c := 5077) (by decide +kernel)) (kIs_ok (c := 5078) (by decide +kernel)) (kIs_ok (c := 5079) (by decide +kernel)) (d0 := 11) rfl ⟨_, rfl⟩ hax ⟨rfl, trivial⟩ (Nat.le_of_ble_eq_true rfl) hcs hsl dl_707 (fun r1 m1 H1 locs1 ws1 tys1 O1 hp1 hW1 => ?_)
  refine lv_pop hx hb dl_710 rfl ?_
  refine lv_aload_n hx hb dl_711 rfl (lv_at hl 2 rfl) ?_
  refine law_arg (k := 1) C0 hW1.2.2.2.1 hl hi (by decide) dl_712 dl_713 dl_714 dl_715 dl_716 ?_
  refine law_callC (N := tM90) (Y := tY90) (mm := m1) (Qm := fun _ m' => Bt m') (as := [.inl (xs (i + Int32.ofInt ((1 : Nat) : Int)).toNatClampNeg)]) (vs := [.int (xs (i + Int32.ofInt ((1 : Nat) : Int)).toNatClampNeg)]) (rest := []) C0 hW1 hl.1 (w2_when O1) (nn := 2) rfl rfl (Nat.le_of_ble_eq_true rfl) rfl rfl rfl rfl rfl (kIs_ok (c := 8078) (by decide +kernel)) (kIs_ok (c := 8079) (by decide +kernel)) (kIs_ok (c := 8080) (by decide +kernel)) (d0 := 12) rfl ⟨_, rfl⟩ (by rw [hp1]; exact ham) ⟨rfl, trivial⟩ (Nat.le_of_ble_eq_true rfl) hcs hsl dl_717 (fun r2 m2 H2 locs2 ws2 tys2 O2 hp2 hW2 => ?_)
  have B2 : Bt m2 := O2
  refine lv_pop hx hb dl_720 rfl ?_
  refine lv_goto (tgt := 1191) hx hb dl_721 (by decide) ?_
  exact KE m2 H2 locs2 ws2 tys2 B2.1 B2.2 (hp2.trans hp1) hW2
theorem law_thick (C0 : lX p s m meth c b L xs adK adV) {mm : dM} {H : Heap} {locs : List Loc} {ws : va_W} {tys : List (ClassId × FieldType)} {ls : Array Slot} {ax am cs sl : Nat} (hO : Ok mm) (hT : Rf mm) (hW : lWc D s mm H locs ws tys) (hax : (ws.map Prod.fst)[0]? = some ax) (ham : (ws.map Prod.fst)[70]? = some am) (hl : lv_has ls 4 [(0, .ref b), (1, .ref ax), (2, .ref am), (3, .int i)]) (hi : 0 ≤ i.toInt ∧ i.toInt + 6 ≤ L ∧ L ≤ 3072) (hcs : cs ≤ 600000) (hsl : sl ≤ 7302250) (KE : ∀ (m2 : dM) (H2 : Heap) (locs2 : List Loc) (ws2 : va_W) (tys2 : List (ClassId × FieldType)), Ok m2 → Rf m2 → ws2.map Prod.fst = ws.map Prod.fst → lWc D s m2 H2 locs2 ws2 tys2 → W p l e room_1 s m #[Value.ref b] below meth c H2 locs2 cs sl Q (F0 m 1191 ls [])) : W p l e room_1 s m #[Value.ref b] below meth c H locs cs sl Q (F0 m 724 ls []) := by
  obtain ⟨⟨hx, hb, -, -, -, -, -, -, -, -⟩, -, -⟩ := id C0
  refine lv_aload_n hx hb dl_724 rfl (lv_at hl 1 rfl) ?_
  refine law_arg (k := 1) C0 hW.2.2.2.1 hl hi (by decide) dl_725 dl_726 dl_727 dl_728 dl_729 ?_
  refine law_callC (N := tM265) (Y := tY265) (mm := mm) (Qm := fun _ m' => Bt m') (as := [.inl (xs (i + Int32.ofInt ((1 : Nat) : Int)).toNatClampNeg)]) (vs := [.int (xs (i + Int32.ofInt ((1 : Nat) : Int)).toNatClampNeg)]) (rest := []) C0 hW hl.1 (w1_thick ⟨hO, hT⟩) (nn := 0) rfl rfl (Nat.le_of_ble_eq_true rfl) rfl rfl rfl rfl rfl (kIs_ok (c := 5088) (by decide +kernel)) (kIs_ok (c := 5089) (by decide +kernel)) (kIs_ok (c := 5090) (by decide +kernel)) (d0 := 11) rfl ⟨_, rfl⟩ hax ⟨rfl, trivial⟩ (Nat.le_of_ble_eq_true rfl) hcs hsl dl_730 (fun r1 m1 H1 locs1 ws1 tys1 O1 hp1 hW1 => ?_)
  refine lv_pop hx hb dl_733 rfl ?_
  refine lv_aload_n hx hb dl_734 rfl (lv_at hl 2 rfl) ?_
  refine law_arg (k := 1) C0 hW1.2.2.2.1 hl hi (by decide) dl_735 dl_736 dl_737 dl_738 dl_739 ?_
  refine law_callC (N := tM91) (Y := tY91) (mm := m1) (Qm := fun _ m' => Bt m') (as := [.inl (xs (i + Int32.ofInt ((1 : Nat) : Int)).toNatClampNeg)]) (vs := [.int (xs (i + Int32.ofInt ((1 : Nat) : Int)).toNatClampNeg)]) (rest := []) C0 hW1 hl.1 (w2_thick O1) (nn := 4) rfl rfl (Nat.le_of_ble_eq_true rfl) rfl rfl rfl rfl rfl (kIs_ok (c := 8086) (by decide +kernel)) (kIs_ok (c := 8087) (by decide +kernel)) (kIs_ok (c := 8088) (by decide +kernel)) (d0 := 12) rfl ⟨_, rfl⟩ (by rw [hp1]; exact ham) ⟨rfl, trivial⟩ (Nat.le_of_ble_eq_true rfl) hcs hsl dl_740 (fun r2 m2 H2 locs2 ws2 tys2 O2 hp2 hW2 => ?_)
  have B2 : Bt m2 := O2
  refine lv_pop hx hb dl_743 rfl ?_
  refine lv_goto (tgt := 1191) hx hb dl_744 (by decide) ?_
  exact KE m2 H2 locs2 ws2 tys2 B2.1 B2.2 (hp2.trans hp1) hW2
theorem law_cut (C0 : lX p s m meth c b L xs adK adV) {mm : dM} {H : Heap} {locs : List Loc} {ws : va_W} {tys : List (ClassId × FieldType)} {ls : Array Slot} {ax am cs sl : Nat} (hO : Ok mm) (hT : Rf mm) (hW : lWc D s mm H locs ws tys) (hax : (ws.map Prod.fst)[0]? = some ax) (ham : (ws.map Prod.fst)[70]? = some am) (hl : lv_has ls 4 [(0, .ref b), (1, .ref ax), (2, .ref am), (3, .int i)]) (hi : 0 ≤ i.toInt ∧ i.toInt + 6 ≤ L ∧ L ≤ 3072) (hcs : cs ≤ 600000) (hsl : sl ≤ 7302250) (KE : ∀ (m2 : dM) (H2 : Heap) (locs2 : List Loc) (ws2 : va_W) (tys2 : List (ClassId × FieldType)), Ok m2 → Rf m2 → ws2.map Prod.fst = ws.map Prod.fst → lWc D s m2 H2 locs2 ws2 tys2 → W p l e room_1 s m #[Value.ref b] below meth c H2 locs2 cs sl Q (F0 m 1191 ls [])) : W p l e room_1 s m #[Value.ref b] below meth c H locs cs sl Q (F0 m 747 ls []) := by
  obtain ⟨⟨hx, hb, -, -, -, -, -, -, -, -⟩, -, -⟩ := id C0
  refine lv_aload_n hx hb dl_747 rfl (lv_at hl 1 rfl) ?_
  refine law_arg (k := 1) C0 hW.2.2.2.1 hl hi (by decide) dl_748 dl_749 dl_750 dl_751 dl_752 ?_
  refine law_arg (k := 2) C0 hW.2.2.2.1 hl hi (by decide) dl_753 dl_754 dl_755 dl_756 dl_757 ?_
  refine law_callC (N := tM266) (Y := tY266) (mm := mm) (Qm := fun _ m' => Bt m') (as := [.inl (xs (i + Int32.ofInt ((1 : Nat) : Int)).toNatClampNeg), .inl (xs (i + Int32.ofInt ((2 : Nat) : Int)).toNatClampNeg)]) (vs := [.int (xs (i + Int32.ofInt ((1 : Nat) : Int)).toNatClampNeg), .int (xs (i + Int32.ofInt ((2 : Nat) : Int)).toNatClampNeg)]) (rest := []) C0 hW hl.1 (w1_cut ⟨hO, hT⟩) (nn := 1) rfl rfl (Nat.le_of_ble_eq_true rfl) rfl rfl rfl rfl rfl (kIs_ok (c := 5097) (by decide +kernel)) (kIs_ok (c := 5098) (by decide +kernel)) (kIs_ok (c := 5099) (by decide +kernel)) (d0 := 11) rfl ⟨_, rfl⟩ hax ⟨rfl, ⟨rfl, trivial⟩⟩ (Nat.le_of_ble_eq_true rfl) hcs hsl dl_758 (fun r1 m1 H1 locs1 ws1 tys1 O1 hp1 hW1 => ?_)
  refine lv_pop hx hb dl_761 rfl ?_
  refine lv_aload_n hx hb dl_762 rfl (lv_at hl 2 rfl) ?_
  refine law_arg (k := 1) C0 hW1.2.2.2.1 hl hi (by decide) dl_763 dl_764 dl_765 dl_766 dl_767 ?_
  refine law_arg (k := 2) C0 hW1.2.2.2.1 hl hi (by decide) dl_768 dl_769 dl_770 dl_771 dl_772 ?_
  refine law_callC (N := tM96) (Y := tY96) (mm := m1) (Qm := fun _ m' => Bt m') (as := [.inl (xs (i + Int32.ofInt ((1 : Nat) : Int)).toNatClampNeg), .inl (xs (i + Int32.ofInt ((2 : Nat) : Int)).toNatClampNeg)]) (vs := [.int (xs (i + Int32.ofInt ((1 : Nat) : Int)).toNatClampNeg), .int (xs (i + Int32.ofInt ((2 : Nat) : Int)).toNatClampNeg)]) (rest := []) C0 hW1 hl.1 (w2_cut O1) (nn := 3) rfl rfl (Nat.le_of_ble_eq_true rfl) rfl rfl rfl rfl rfl (kIs_ok (c := 8090) (by decide +kernel)) (kIs_ok (c := 8091) (by decide +kernel)) (kIs_ok (c := 8092) (by decide +kernel)) (d0 := 12) rfl ⟨_, rfl⟩ (by rw [hp1]; exact ham) ⟨rfl, ⟨rfl, trivial⟩⟩ (Nat.le_of_ble_eq_true rfl) hcs hsl dl_773 (fun r2 m2 H2 locs2 ws2 tys2 O2 hp2 hW2 => ?_)
  have B2 : Bt m2 := O2
  refine lv_pop hx hb dl_776 rfl ?_
  refine lv_goto (tgt := 1191) hx hb dl_777 (by decide) ?_
  exact KE m2 H2 locs2 ws2 tys2 B2.1 B2.2 (hp2.trans hp1) hW2
theorem law_share (C0 : lX p s m meth c b L xs adK adV) {mm : dM} {H : Heap} {locs : List Loc} {ws : va_W} {tys : List (ClassId × FieldType)} {ls : Array Slot} {ax am cs sl : Nat} (hO : Ok mm) (hT : Rf mm) (hW : lWc D s mm H locs ws tys) (hax : (ws.map Prod.fst)[0]? = some ax) (ham : (ws.map Prod.fst)[70]? = some am) (hl : lv_has ls 4 [(0, .ref b), (1, .ref ax), (2, .ref am), (3, .int i)]) (hi : 0 ≤ i.toInt ∧ i.toInt + 6 ≤ L ∧ L ≤ 3072) (hcs : cs ≤ 600000) (hsl : sl ≤ 7302250) (KE : ∀ (m2 : dM) (H2 : Heap) (locs2 : List Loc) (ws2 : va_W) (tys2 : List (ClassId × FieldType)), Ok m2 → Rf m2 → ws2.map Prod.fst = ws.map Prod.fst → lWc D s m2 H2 locs2 ws2 tys2 → W p l e room_1 s m #[Value.ref b] below meth c H2 locs2 cs sl Q (F0 m 1191 ls [])) : W p l e room_1 s m #[Value.ref b] below meth c H locs cs sl Q (F0 m 780 ls []) := by
  obtain ⟨⟨hx, hb, -, -, -, -, -, -, -, -⟩, -, -⟩ := id C0
  refine lv_aload_n hx hb dl_780 rfl (lv_at hl 1 rfl) ?_
  refine law_arg (k := 1) C0 hW.2.2.2.1 hl hi (by decide) dl_781 dl_782 dl_783 dl_784 dl_785 ?_
  refine law_arg (k := 2) C0 hW.2.2.2.1 hl hi (by decide) dl_786 dl_787 dl_788 dl_789 dl_790 ?_
  refine law_callC (N := tM267) (Y := tY267) (mm := mm) (Qm := fun _ m' => Bt m') (as := [.inl (xs (i + Int32.ofInt ((1 : Nat) : Int)).toNatClampNeg), .inl (xs (i + Int32.ofInt ((2 : Nat) : Int)).toNatClampNeg)]) (vs := [.int (xs (i + Int32.ofInt ((1 : Nat) : Int)).toNatClampNeg), .int (xs (i + Int32.ofInt ((2 : Nat) : Int)).toNatClampNeg)]) (rest := []) C0 hW hl.1 (w1_share ⟨hO, hT⟩) (nn := 1) rfl rfl (Nat.le_of_ble_eq_true rfl) rfl rfl rfl rfl rfl (kIs_ok (c := 5120) (by decide +kernel)) (kIs_ok (c := 5121) (by decide +kernel)) (kIs_ok (c := 5122) (by decide +kernel)) (d0 := 11) rfl ⟨_, rfl⟩ hax ⟨rfl, ⟨rfl, trivial⟩⟩ (Nat.le_of_ble_eq_true rfl) hcs hsl dl_791 (fun r1 m1 H1 locs1 ws1 tys1 O1 hp1 hW1 => ?_)
  refine lv_pop hx hb dl_794 rfl ?_
  refine lv_aload_n hx hb dl_795 rfl (lv_at hl 2 rfl) ?_
  refine law_arg (k := 1) C0 hW1.2.2.2.1 hl hi (by decide) dl_796 dl_797 dl_798 dl_799 dl_800 ?_
  refine law_arg (k := 2) C0 hW1.2.2.2.1 hl hi (by decide) dl_801 dl_802 dl_803 dl_804 dl_805 ?_
  refine law_callC (N := tM97) (Y := tY97) (mm := m1) (Qm := fun _ m' => Bt m') (as := [.inl (xs (i + Int32.ofInt ((1 : Nat) : Int)).toNatClampNeg), .inl (xs (i + Int32.ofInt ((2 : Nat) : Int)).toNatClampNeg)]) (vs := [.int (xs (i + Int32.ofInt ((1 : Nat) : Int)).toNatClampNeg), .int (xs (i + Int32.ofInt ((2 : Nat) : Int)).toNatClampNeg)]) (rest := []) C0 hW1 hl.1 (w2_share O1) (nn := 0) rfl rfl (Nat.le_of_ble_eq_true rfl) rfl rfl rfl rfl rfl (kIs_ok (c := 8111) (by decide +kernel)) (kIs_ok (c := 8112) (by decide +kernel)) (kIs_ok (c := 8113) (by decide +kernel)) (d0 := 12) rfl ⟨_, rfl⟩ (by rw [hp1]; exact ham) ⟨rfl, ⟨rfl, trivial⟩⟩ (Nat.le_of_ble_eq_true rfl) hcs hsl dl_806 (fun r2 m2 H2 locs2 ws2 tys2 O2 hp2 hW2 => ?_)
  have B2 : Bt m2 := O2
  refine lv_pop hx hb dl_809 rfl ?_
  refine lv_goto (tgt := 1191) hx hb dl_810 (by decide) ?_
  exact KE m2 H2 locs2 ws2 tys2 B2.1 B2.2 (hp2.trans hp1) hW2
theorem law_without (C0 : lX p s m meth c b L xs adK adV) {mm : dM} {H : Heap} {locs : List Loc} {ws : va_W} {tys : List (ClassId × FieldType)} {ls : Array Slot} {ax am cs sl : Nat} (hO : Ok mm) (hT : Rf mm) (hW : lWc D s mm H locs ws tys) (hax : (ws.map Prod.fst)[0]? = some ax) (ham : (ws.map Prod.fst)[70]? = some am) (hl : lv_has ls 4 [(0, .ref b), (1, .ref ax), (2, .ref am), (3, .int i)]) (hi : 0 ≤ i.toInt ∧ i.toInt + 6 ≤ L ∧ L ≤ 3072) (hcs : cs ≤ 600000) (hsl : sl ≤ 7302250) (KE : ∀ (m2 : dM) (H2 : Heap) (locs2 : List Loc) (ws2 : va_W) (tys2 : List (ClassId × FieldType)), Ok m2 → Rf m2 → ws2.map Prod.fst = ws.map Prod.fst → lWc D s m2 H2 locs2 ws2 tys2 → W p l e room_1 s m #[Value.ref b] below meth c H2 locs2 cs sl Q (F0 m 1191 ls [])) : W p l e room_1 s m #[Value.ref b] below meth c H locs cs sl Q (F0 m 813 ls []) := by
  obtain ⟨⟨hx, hb, -, -, -, -, -, -, -, -⟩, -, -⟩ := id C0
  refine lv_aload_n hx hb dl_813 rfl (lv_at hl 1 rfl) ?_
  refine law_arg (k := 1) C0 hW.2.2.2.1 hl hi (by decide) dl_814 dl_815 dl_816 dl_817 dl_818 ?_
  refine law_callC (N := tM268) (Y := tY268) (mm := mm) (Qm := fun _ m' => Bt m') (as := [.inl (xs (i + Int32.ofInt ((1 : Nat) : Int)).toNatClampNeg)]) (vs := [.int (xs (i + Int32.ofInt ((1 : Nat) : Int)).toNatClampNeg)]) (rest := []) C0 hW hl.1 (w1_without ⟨hO, hT⟩) (nn := 0) rfl rfl (Nat.le_of_ble_eq_true rfl) rfl rfl rfl rfl rfl (kIs_ok (c := 5124) (by decide +kernel)) (kIs_ok (c := 5125) (by decide +kernel)) (kIs_ok (c := 5126) (by decide +kernel)) (d0 := 11) rfl ⟨_, rfl⟩ hax ⟨rfl, trivial⟩ (Nat.le_of_ble_eq_true rfl) hcs hsl dl_819 (fun r1 m1 H1 locs1 ws1 tys1 O1 hp1 hW1 => ?_)
  refine lv_pop hx hb dl_822 rfl ?_
  refine lv_aload_n hx hb dl_823 rfl (lv_at hl 2 rfl) ?_
  refine law_arg (k := 1) C0 hW1.2.2.2.1 hl hi (by decide) dl_824 dl_825 dl_826 dl_827 dl_828 ?_
  refine law_callC (N := tM99) (Y := tY99) (mm := m1) (Qm := fun _ m' => Bt m') (as := [.inl (xs (i + Int32.ofInt ((1 : Nat) : Int)).toNatClampNeg)]) (vs := [.int (xs (i + Int32.ofInt ((1 : Nat) : Int)).toNatClampNeg)]) (rest := []) C0 hW1 hl.1 (w2_without O1) (nn := 0) rfl rfl (Nat.le_of_ble_eq_true rfl) rfl rfl rfl rfl rfl (kIs_ok (c := 8115) (by decide +kernel)) (kIs_ok (c := 8116) (by decide +kernel)) (kIs_ok (c := 8117) (by decide +kernel)) (d0 := 12) rfl ⟨_, rfl⟩ (by rw [hp1]; exact ham) ⟨rfl, trivial⟩ (Nat.le_of_ble_eq_true rfl) hcs hsl dl_829 (fun r2 m2 H2 locs2 ws2 tys2 O2 hp2 hW2 => ?_)
  have B2 : Bt m2 := O2
  refine lv_pop hx hb dl_832 rfl ?_
  refine lv_goto (tgt := 1191) hx hb dl_833 (by decide) ?_
  exact KE m2 H2 locs2 ws2 tys2 B2.1 B2.2 (hp2.trans hp1) hW2
theorem law_needed (C0 : lX p s m meth c b L xs adK adV) {mm : dM} {H : Heap} {locs : List Loc} {ws : va_W} {tys : List (ClassId × FieldType)} {ls : Array Slot} {ax am cs sl : Nat} (hO : Ok mm) (hT : Rf mm) (hW : lWc D s mm H locs ws tys) (hax : (ws.map Prod.fst)[0]? = some ax) (ham : (ws.map Prod.fst)[70]? = some am) (hl : lv_has ls 4 [(0, .ref b), (1, .ref ax), (2, .ref am), (3, .int i)]) (hi : 0 ≤ i.toInt ∧ i.toInt + 6 ≤ L ∧ L ≤ 3072) (hcs : cs ≤ 600000) (hsl : sl ≤ 7302250) (KE : ∀ (m2 : dM) (H2 : Heap) (locs2 : List Loc) (ws2 : va_W) (tys2 : List (ClassId × FieldType)), Ok m2 → Rf m2 → ws2.map Prod.fst = ws.map Prod.fst → lWc D s m2 H2 locs2 ws2 tys2 → W p l e room_1 s m #[Value.ref b] below meth c H2 locs2 cs sl Q (F0 m 1191 ls [])) : W p l e room_1 s m #[Value.ref b] below meth c H locs cs sl Q (F0 m 836 ls []) := by
  obtain ⟨⟨hx, hb, -, -, -, -, -, -, -, -⟩, -, -⟩ := id C0
  refine lv_aload_n hx hb dl_836 rfl (lv_at hl 1 rfl) ?_
  refine law_callC (N := tM269) (Y := tY269) (mm := mm) (Qm := fun _ m' => Bt m') (as := []) (vs := []) (rest := []) C0 hW hl.1 (w1_needed ⟨hO, hT⟩) (nn := 3) rfl rfl (Nat.le_of_ble_eq_true rfl) rfl rfl rfl rfl rfl (kIs_ok (c := 5133) (by decide +kernel)) (kIs_ok (c := 5134) (by decide +kernel)) (kIs_ok (c := 5135) (by decide +kernel)) (d0 := 11) rfl ⟨_, rfl⟩ hax trivial (Nat.le_of_ble_eq_true rfl) hcs hsl dl_837 (fun r1 m1 H1 locs1 ws1 tys1 O1 hp1 hW1 => ?_)
  refine lv_pop hx hb dl_840 rfl ?_
  refine lv_aload_n hx hb dl_841 rfl (lv_at hl 2 rfl) ?_
  refine law_callC (N := tM100) (Y := tY100) (mm := m1) (Qm := fun _ m' => Bt m') (as := []) (vs := []) (rest := []) C0 hW1 hl.1 (w2_needed O1) (nn := 3) rfl rfl (Nat.le_of_ble_eq_true rfl) rfl rfl rfl rfl rfl (kIs_ok (c := 8127) (by decide +kernel)) (kIs_ok (c := 8128) (by decide +kernel)) (kIs_ok (c := 8129) (by decide +kernel)) (d0 := 12) rfl ⟨_, rfl⟩ (by rw [hp1]; exact ham) trivial (Nat.le_of_ble_eq_true rfl) hcs hsl dl_842 (fun r2 m2 H2 locs2 ws2 tys2 O2 hp2 hW2 => ?_)
  have B2 : Bt m2 := O2
  refine lv_pop hx hb dl_845 rfl ?_
  refine lv_goto (tgt := 1191) hx hb dl_846 (by decide) ?_
  exact KE m2 H2 locs2 ws2 tys2 B2.1 B2.2 (hp2.trans hp1) hW2
theorem law_hottest (C0 : lX p s m meth c b L xs adK adV) {mm : dM} {H : Heap} {locs : List Loc} {ws : va_W} {tys : List (ClassId × FieldType)} {ls : Array Slot} {ax am cs sl : Nat} (hO : Ok mm) (hT : Rf mm) (hW : lWc D s mm H locs ws tys) (hax : (ws.map Prod.fst)[0]? = some ax) (ham : (ws.map Prod.fst)[70]? = some am) (hl : lv_has ls 4 [(0, .ref b), (1, .ref ax), (2, .ref am), (3, .int i)]) (hi : 0 ≤ i.toInt ∧ i.toInt + 6 ≤ L ∧ L ≤ 3072) (hcs : cs ≤ 600000) (hsl : sl ≤ 7302250) (KE : ∀ (m2 : dM) (H2 : Heap) (locs2 : List Loc) (ws2 : va_W) (tys2 : List (ClassId × FieldType)), Ok m2 → Rf m2 → ws2.map Prod.fst = ws.map Prod.fst → lWc D s m2 H2 locs2 ws2 tys2 → W p l e room_1 s m #[Value.ref b] below meth c H2 locs2 cs sl Q (F0 m 1191 ls [])) : W p l e room_1 s m #[Value.ref b] below meth c H locs cs sl Q (F0 m 849 ls []) := by
  obtain ⟨⟨hx, hb, -, -, -, -, -, -, -, -⟩, -, -⟩ := id C0
  refine lv_aload_n hx hb dl_849 rfl (lv_at hl 1 rfl) ?_
  refine law_arg (k := 1) C0 hW.2.2.2.1 hl hi (by decide) dl_850 dl_851 dl_852 dl_853 dl_854 ?_
  refine law_callC (N := tM270) (Y := tY270) (mm := mm) (Qm := fun _ m' => Bt m') (as := [.inl (xs (i + Int32.ofInt ((1 : Nat) : Int)).toNatClampNeg)]) (vs := [.int (xs (i + Int32.ofInt ((1 : Nat) : Int)).toNatClampNeg)]) (rest := []) C0 hW hl.1 (w1_hottest ⟨hO, hT⟩) (nn := 4) rfl rfl (Nat.le_of_ble_eq_true rfl) rfl rfl rfl rfl rfl (kIs_ok (c := 5137) (by decide +kernel)) (kIs_ok (c := 5138) (by decide +kernel)) (kIs_ok (c := 5139) (by decide +kernel)) (d0 := 11) rfl ⟨_, rfl⟩ hax ⟨rfl, trivial⟩ (Nat.le_of_ble_eq_true rfl) hcs hsl dl_855 (fun r1 m1 H1 locs1 ws1 tys1 O1 hp1 hW1 => ?_)
  refine lv_pop hx hb dl_858 rfl ?_
  refine lv_aload_n hx hb dl_859 rfl (lv_at hl 2 rfl) ?_
  refine law_arg (k := 1) C0 hW1.2.2.2.1 hl hi (by decide) dl_860 dl_861 dl_862 dl_863 dl_864 ?_
  refine law_callC (N := tM101) (Y := tY101) (mm := m1) (Qm := fun _ m' => Bt m') (as := [.inl (xs (i + Int32.ofInt ((1 : Nat) : Int)).toNatClampNeg)]) (vs := [.int (xs (i + Int32.ofInt ((1 : Nat) : Int)).toNatClampNeg)]) (rest := []) C0 hW1 hl.1 (w2_hottest O1) (nn := 5) rfl rfl (Nat.le_of_ble_eq_true rfl) rfl rfl rfl rfl rfl (kIs_ok (c := 8131) (by decide +kernel)) (kIs_ok (c := 8132) (by decide +kernel)) (kIs_ok (c := 8133) (by decide +kernel)) (d0 := 12) rfl ⟨_, rfl⟩ (by rw [hp1]; exact ham) ⟨rfl, trivial⟩ (Nat.le_of_ble_eq_true rfl) hcs hsl dl_865 (fun r2 m2 H2 locs2 ws2 tys2 O2 hp2 hW2 => ?_)
  have B2 : Bt m2 := O2
  refine lv_pop hx hb dl_868 rfl ?_
  refine lv_goto (tgt := 1191) hx hb dl_869 (by decide) ?_
  exact KE m2 H2 locs2 ws2 tys2 B2.1 B2.2 (hp2.trans hp1) hW2
theorem law_clash (C0 : lX p s m meth c b L xs adK adV) {mm : dM} {H : Heap} {locs : List Loc} {ws : va_W} {tys : List (ClassId × FieldType)} {ls : Array Slot} {ax am cs sl : Nat} (hO : Ok mm) (hT : Rf mm) (hW : lWc D s mm H locs ws tys) (hax : (ws.map Prod.fst)[0]? = some ax) (ham : (ws.map Prod.fst)[70]? = some am) (hl : lv_has ls 4 [(0, .ref b), (1, .ref ax), (2, .ref am), (3, .int i)]) (hi : 0 ≤ i.toInt ∧ i.toInt + 6 ≤ L ∧ L ≤ 3072) (hcs : cs ≤ 600000) (hsl : sl ≤ 7302250) (KE : ∀ (m2 : dM) (H2 : Heap) (locs2 : List Loc) (ws2 : va_W) (tys2 : List (ClassId × FieldType)), Ok m2 → Rf m2 → ws2.map Prod.fst = ws.map Prod.fst → lWc D s m2 H2 locs2 ws2 tys2 → W p l e room_1 s m #[Value.ref b] below meth c H2 locs2 cs sl Q (F0 m 1191 ls [])) : W p l e room_1 s m #[Value.ref b] below meth c H locs cs sl Q (F0 m 872 ls []) := by
  obtain ⟨⟨hx, hb, -, -, -, -, -, -, -, -⟩, -, -⟩ := id C0
  refine lv_aload_n hx hb dl_872 rfl (lv_at hl 1 rfl) ?_
  refine law_arg (k := 1) C0 hW.2.2.2.1 hl hi (by decide) dl_873 dl_874 dl_875 dl_876 dl_877 ?_
  refine law_arg (k := 2) C0 hW.2.2.2.1 hl hi (by decide) dl_878 dl_879 dl_880 dl_881 dl_882 ?_
  refine law_callC (N := tM271) (Y := tY271) (mm := mm) (Qm := fun _ m' => Bt m') (as := [.inl (xs (i + Int32.ofInt ((1 : Nat) : Int)).toNatClampNeg), .inl (xs (i + Int32.ofInt ((2 : Nat) : Int)).toNatClampNeg)]) (vs := [.int (xs (i + Int32.ofInt ((1 : Nat) : Int)).toNatClampNeg), .int (xs (i + Int32.ofInt ((2 : Nat) : Int)).toNatClampNeg)]) (rest := []) C0 hW hl.1 (w1_clash ⟨hO, hT⟩) (nn := 0) rfl rfl (Nat.le_of_ble_eq_true rfl) rfl rfl rfl rfl rfl (kIs_ok (c := 5142) (by decide +kernel)) (kIs_ok (c := 5143) (by decide +kernel)) (kIs_ok (c := 5144) (by decide +kernel)) (d0 := 11) rfl ⟨_, rfl⟩ hax ⟨rfl, ⟨rfl, trivial⟩⟩ (Nat.le_of_ble_eq_true rfl) hcs hsl dl_883 (fun r1 m1 H1 locs1 ws1 tys1 O1 hp1 hW1 => ?_)
  refine lv_pop hx hb dl_886 rfl ?_
  refine lv_aload_n hx hb dl_887 rfl (lv_at hl 2 rfl) ?_
  refine law_arg (k := 1) C0 hW1.2.2.2.1 hl hi (by decide) dl_888 dl_889 dl_890 dl_891 dl_892 ?_
  refine law_arg (k := 2) C0 hW1.2.2.2.1 hl hi (by decide) dl_893 dl_894 dl_895 dl_896 dl_897 ?_
  refine law_callC (N := tM102) (Y := tY102) (mm := m1) (Qm := fun _ m' => Bt m') (as := [.inl (xs (i + Int32.ofInt ((1 : Nat) : Int)).toNatClampNeg), .inl (xs (i + Int32.ofInt ((2 : Nat) : Int)).toNatClampNeg)]) (vs := [.int (xs (i + Int32.ofInt ((1 : Nat) : Int)).toNatClampNeg), .int (xs (i + Int32.ofInt ((2 : Nat) : Int)).toNatClampNeg)]) (rest := []) C0 hW1 hl.1 (w2_clash O1) (nn := 1) rfl rfl (Nat.le_of_ble_eq_true rfl) rfl rfl rfl rfl rfl (kIs_ok (c := 8135) (by decide +kernel)) (kIs_ok (c := 8136) (by decide +kernel)) (kIs_ok (c := 8137) (by decide +kernel)) (d0 := 12) rfl ⟨_, rfl⟩ (by rw [hp1]; exact ham) ⟨rfl, ⟨rfl, trivial⟩⟩ (Nat.le_of_ble_eq_true rfl) hcs hsl dl_898 (fun r2 m2 H2 locs2 ws2 tys2 O2 hp2 hW2 => ?_)
  have B2 : Bt m2 := O2
  refine lv_pop hx hb dl_901 rfl ?_
  refine lv_goto (tgt := 1191) hx hb dl_902 (by decide) ?_
  exact KE m2 H2 locs2 ws2 tys2 B2.1 B2.2 (hp2.trans hp1) hW2
theorem law_then (C0 : lX p s m meth c b L xs adK adV) {mm : dM} {H : Heap} {locs : List Loc} {ws : va_W} {tys : List (ClassId × FieldType)} {ls : Array Slot} {ax am cs sl : Nat} (hO : Ok mm) (hT : Rf mm) (hW : lWc D s mm H locs ws tys) (hax : (ws.map Prod.fst)[0]? = some ax) (ham : (ws.map Prod.fst)[70]? = some am) (hl : lv_has ls 4 [(0, .ref b), (1, .ref ax), (2, .ref am), (3, .int i)]) (hi : 0 ≤ i.toInt ∧ i.toInt + 6 ≤ L ∧ L ≤ 3072) (hcs : cs ≤ 600000) (hsl : sl ≤ 7302250) (KE : ∀ (m2 : dM) (H2 : Heap) (locs2 : List Loc) (ws2 : va_W) (tys2 : List (ClassId × FieldType)), Ok m2 → Rf m2 → ws2.map Prod.fst = ws.map Prod.fst → lWc D s m2 H2 locs2 ws2 tys2 → W p l e room_1 s m #[Value.ref b] below meth c H2 locs2 cs sl Q (F0 m 1191 ls [])) : W p l e room_1 s m #[Value.ref b] below meth c H locs cs sl Q (F0 m 905 ls []) := by
  obtain ⟨⟨hx, hb, -, -, -, -, -, -, -, -⟩, -, -⟩ := id C0
  refine lv_aload_n hx hb dl_905 rfl (lv_at hl 1 rfl) ?_
  refine law_arg (k := 1) C0 hW.2.2.2.1 hl hi (by decide) dl_906 dl_907 dl_908 dl_909 dl_910 ?_
  refine law_arg (k := 2) C0 hW.2.2.2.1 hl hi (by decide) dl_911 dl_912 dl_913 dl_914 dl_915 ?_
  refine law_callC (N := tM272) (Y := tY272) (mm := mm) (Qm := fun _ m' => Bt m') (as := [.inl (xs (i + Int32.ofInt ((1 : Nat) : Int)).toNatClampNeg), .inl (xs (i + Int32.ofInt ((2 : Nat) : Int)).toNatClampNeg)]) (vs := [.int (xs (i + Int32.ofInt ((1 : Nat) : Int)).toNatClampNeg), .int (xs (i + Int32.ofInt ((2 : Nat) : Int)).toNatClampNeg)]) (rest := []) C0 hW hl.1 (w1_then ⟨hO, hT⟩) (nn := 1) rfl rfl (Nat.le_of_ble_eq_true rfl) rfl rfl rfl rfl rfl (kIs_ok (c := 5151) (by decide +kernel)) (kIs_ok (c := 5152) (by decide +kernel)) (kIs_ok (c := 5153) (by decide +kernel)) (d0 := 11) rfl ⟨_, rfl⟩ hax ⟨rfl, ⟨rfl, trivial⟩⟩ (Nat.le_of_ble_eq_true rfl) hcs hsl dl_916 (fun r1 m1 H1 locs1 ws1 tys1 O1 hp1 hW1 => ?_)
  refine lv_pop hx hb dl_919 rfl ?_
  refine lv_aload_n hx hb dl_920 rfl (lv_at hl 2 rfl) ?_
  refine law_arg (k := 1) C0 hW1.2.2.2.1 hl hi (by decide) dl_921 dl_922 dl_923 dl_924 dl_925 ?_
  refine law_arg (k := 2) C0 hW1.2.2.2.1 hl hi (by decide) dl_926 dl_927 dl_928 dl_929 dl_930 ?_
  refine law_callC (N := tM103) (Y := tY103) (mm := m1) (Qm := fun _ m' => Bt m') (as := [.inl (xs (i + Int32.ofInt ((1 : Nat) : Int)).toNatClampNeg), .inl (xs (i + Int32.ofInt ((2 : Nat) : Int)).toNatClampNeg)]) (vs := [.int (xs (i + Int32.ofInt ((1 : Nat) : Int)).toNatClampNeg), .int (xs (i + Int32.ofInt ((2 : Nat) : Int)).toNatClampNeg)]) (rest := []) C0 hW1 hl.1 (w2_then O1) (nn := 2) rfl rfl (Nat.le_of_ble_eq_true rfl) rfl rfl rfl rfl rfl (kIs_ok (c := 8139) (by decide +kernel)) (kIs_ok (c := 8140) (by decide +kernel)) (kIs_ok (c := 8141) (by decide +kernel)) (d0 := 12) rfl ⟨_, rfl⟩ (by rw [hp1]; exact ham) ⟨rfl, ⟨rfl, trivial⟩⟩ (Nat.le_of_ble_eq_true rfl) hcs hsl dl_931 (fun r2 m2 H2 locs2 ws2 tys2 O2 hp2 hW2 => ?_)
  have B2 : Bt m2 := O2
  refine lv_pop hx hb dl_934 rfl ?_
  refine lv_goto (tgt := 1191) hx hb dl_935 (by decide) ?_
  exact KE m2 H2 locs2 ws2 tys2 B2.1 B2.2 (hp2.trans hp1) hW2
theorem law_litIn (C0 : lX p s m meth c b L xs adK adV) {mm : dM} {H : Heap} {locs : List Loc} {ws : va_W} {tys : List (ClassId × FieldType)} {ls : Array Slot} {ax am cs sl : Nat} (hO : Ok mm) (hT : Rf mm) (hW : lWc D s mm H locs ws tys) (hax : (ws.map Prod.fst)[0]? = some ax) (ham : (ws.map Prod.fst)[70]? = some am) (hl : lv_has ls 4 [(0, .ref b), (1, .ref ax), (2, .ref am), (3, .int i)]) (hi : 0 ≤ i.toInt ∧ i.toInt + 6 ≤ L ∧ L ≤ 3072) (hcs : cs ≤ 600000) (hsl : sl ≤ 7302250) (KE : ∀ (m2 : dM) (H2 : Heap) (locs2 : List Loc) (ws2 : va_W) (tys2 : List (ClassId × FieldType)), Ok m2 → Rf m2 → ws2.map Prod.fst = ws.map Prod.fst → lWc D s m2 H2 locs2 ws2 tys2 → W p l e room_1 s m #[Value.ref b] below meth c H2 locs2 cs sl Q (F0 m 1191 ls [])) : W p l e room_1 s m #[Value.ref b] below meth c H locs cs sl Q (F0 m 938 ls []) := by
  obtain ⟨⟨hx, hb, -, -, -, -, -, -, -, -⟩, -, -⟩ := id C0
  refine lv_aload_n hx hb dl_938 rfl (lv_at hl 1 rfl) ?_
  refine law_arg (k := 1) C0 hW.2.2.2.1 hl hi (by decide) dl_939 dl_940 dl_941 dl_942 dl_943 ?_
  refine law_arg (k := 2) C0 hW.2.2.2.1 hl hi (by decide) dl_944 dl_945 dl_946 dl_947 dl_948 ?_
  refine law_callC (N := tM273) (Y := tY273) (mm := mm) (Qm := fun _ m' => Bt m') (as := [.inl (xs (i + Int32.ofInt ((1 : Nat) : Int)).toNatClampNeg), .inl (xs (i + Int32.ofInt ((2 : Nat) : Int)).toNatClampNeg)]) (vs := [.int (xs (i + Int32.ofInt ((1 : Nat) : Int)).toNatClampNeg), .int (xs (i + Int32.ofInt ((2 : Nat) : Int)).toNatClampNeg)]) (rest := []) C0 hW hl.1 (w1_litIn ⟨hO, hT⟩) (nn := 0) rfl rfl (Nat.le_of_ble_eq_true rfl) rfl rfl rfl rfl rfl (kIs_ok (c := 5160) (by decide +kernel)) (kIs_ok (c := 5161) (by decide +kernel)) (kIs_ok (c := 5162) (by decide +kernel)) (d0 := 11) rfl ⟨_, rfl⟩ hax ⟨rfl, ⟨rfl, trivial⟩⟩ (Nat.le_of_ble_eq_true rfl) hcs hsl dl_949 (fun r1 m1 H1 locs1 ws1 tys1 O1 hp1 hW1 => ?_)
  refine lv_pop hx hb dl_952 rfl ?_
  refine lv_aload_n hx hb dl_953 rfl (lv_at hl 2 rfl) ?_
  refine law_arg (k := 1) C0 hW1.2.2.2.1 hl hi (by decide) dl_954 dl_955 dl_956 dl_957 dl_958 ?_
  refine law_arg (k := 2) C0 hW1.2.2.2.1 hl hi (by decide) dl_959 dl_960 dl_961 dl_962 dl_963 ?_
  refine law_callC (N := tM104) (Y := tY104) (mm := m1) (Qm := fun _ m' => Bt m') (as := [.inl (xs (i + Int32.ofInt ((1 : Nat) : Int)).toNatClampNeg), .inl (xs (i + Int32.ofInt ((2 : Nat) : Int)).toNatClampNeg)]) (vs := [.int (xs (i + Int32.ofInt ((1 : Nat) : Int)).toNatClampNeg), .int (xs (i + Int32.ofInt ((2 : Nat) : Int)).toNatClampNeg)]) (rest := []) C0 hW1 hl.1 (w2_litIn O1) (nn := 0) rfl rfl (Nat.le_of_ble_eq_true rfl) rfl rfl rfl rfl rfl (kIs_ok (c := 8143) (by decide +kernel)) (kIs_ok (c := 8144) (by decide +kernel)) (kIs_ok (c := 8145) (by decide +kernel)) (d0 := 12) rfl ⟨_, rfl⟩ (by rw [hp1]; exact ham) ⟨rfl, ⟨rfl, trivial⟩⟩ (Nat.le_of_ble_eq_true rfl) hcs hsl dl_964 (fun r2 m2 H2 locs2 ws2 tys2 O2 hp2 hW2 => ?_)
  have B2 : Bt m2 := O2
  refine lv_pop hx hb dl_967 rfl ?_
  refine lv_goto (tgt := 1191) hx hb dl_968 (by decide) ?_
  exact KE m2 H2 locs2 ws2 tys2 B2.1 B2.2 (hp2.trans hp1) hW2
theorem law_year (C0 : lX p s m meth c b L xs adK adV) {mm : dM} {H : Heap} {locs : List Loc} {ws : va_W} {tys : List (ClassId × FieldType)} {ls : Array Slot} {ax am cs sl : Nat} (hO : Ok mm) (hT : Rf mm) (hW : lWc D s mm H locs ws tys) (hax : (ws.map Prod.fst)[0]? = some ax) (ham : (ws.map Prod.fst)[70]? = some am) (hl : lv_has ls 4 [(0, .ref b), (1, .ref ax), (2, .ref am), (3, .int i)]) (hi : 0 ≤ i.toInt ∧ i.toInt + 6 ≤ L ∧ L ≤ 3072) (hcs : cs ≤ 600000) (hsl : sl ≤ 7302250) (KE : ∀ (m2 : dM) (H2 : Heap) (locs2 : List Loc) (ws2 : va_W) (tys2 : List (ClassId × FieldType)), Ok m2 → Rf m2 → ws2.map Prod.fst = ws.map Prod.fst → lWc D s m2 H2 locs2 ws2 tys2 → W p l e room_1 s m #[Value.ref b] below meth c H2 locs2 cs sl Q (F0 m 1191 ls [])) : W p l e room_1 s m #[Value.ref b] below meth c H locs cs sl Q (F0 m 971 ls []) := by
  obtain ⟨⟨hx, hb, -, -, -, -, -, -, -, -⟩, -, -⟩ := id C0
  refine lv_aload_n hx hb dl_971 rfl (lv_at hl 1 rfl) ?_
  refine law_arg (k := 1) C0 hW.2.2.2.1 hl hi (by decide) dl_972 dl_973 dl_974 dl_975 dl_976 ?_
  refine law_arg (k := 2) C0 hW.2.2.2.1 hl hi (by decide) dl_977 dl_978 dl_979 dl_980 dl_981 ?_
  refine law_callC (N := tM274) (Y := tY274) (mm := mm) (Qm := fun _ m' => Bt m') (as := [.inl (xs (i + Int32.ofInt ((1 : Nat) : Int)).toNatClampNeg), .inl (xs (i + Int32.ofInt ((2 : Nat) : Int)).toNatClampNeg)]) (vs := [.int (xs (i + Int32.ofInt ((1 : Nat) : Int)).toNatClampNeg), .int (xs (i + Int32.ofInt ((2 : Nat) : Int)).toNatClampNeg)]) (rest := []) C0 hW hl.1 (w1_year ⟨hO, hT⟩) (nn := 0) rfl rfl (Nat.le_of_ble_eq_true rfl) rfl rfl rfl rfl rfl (kIs_ok (c := 5164) (by decide +kernel)) (kIs_ok (c := 5165) (by decide +kernel)) (kIs_ok (c := 5166) (by decide +kernel)) (d0 := 11) rfl ⟨_, rfl⟩ hax ⟨rfl, ⟨rfl, trivial⟩⟩ (Nat.le_of_ble_eq_true rfl) hcs hsl dl_982 (fun r1 m1 H1 locs1 ws1 tys1 O1 hp1 hW1 => ?_)
  refine lv_pop hx hb dl_985 rfl ?_
  refine lv_aload_n hx hb dl_986 rfl (lv_at hl 2 rfl) ?_
  refine law_arg (k := 1) C0 hW1.2.2.2.1 hl hi (by decide) dl_987 dl_988 dl_989 dl_990 dl_991 ?_
  refine law_arg (k := 2) C0 hW1.2.2.2.1 hl hi (by decide) dl_992 dl_993 dl_994 dl_995 dl_996 ?_
  refine law_callC (N := tM105) (Y := tY105) (mm := m1) (Qm := fun _ m' => Bt m') (as := [.inl (xs (i + Int32.ofInt ((1 : Nat) : Int)).toNatClampNeg), .inl (xs (i + Int32.ofInt ((2 : Nat) : Int)).toNatClampNeg)]) (vs := [.int (xs (i + Int32.ofInt ((1 : Nat) : Int)).toNatClampNeg), .int (xs (i + Int32.ofInt ((2 : Nat) : Int)).toNatClampNeg)]) (rest := []) C0 hW1 hl.1 (w2_year O1) (nn := 4) rfl rfl (Nat.le_of_ble_eq_true rfl) rfl rfl rfl rfl rfl (kIs_ok (c := 8147) (by decide +kernel)) (kIs_ok (c := 8148) (by decide +kernel)) (kIs_ok (c := 8149) (by decide +kernel)) (d0 := 12) rfl ⟨_, rfl⟩ (by rw [hp1]; exact ham) ⟨rfl, ⟨rfl, trivial⟩⟩ (Nat.le_of_ble_eq_true rfl) hcs hsl dl_997 (fun r2 m2 H2 locs2 ws2 tys2 O2 hp2 hW2 => ?_)
  have B2 : Bt m2 := O2
  refine lv_pop hx hb dl_1000 rfl ?_
  refine lv_goto (tgt := 1191) hx hb dl_1001 (by decide) ?_
  exact KE m2 H2 locs2 ws2 tys2 B2.1 B2.2 (hp2.trans hp1) hW2
theorem law_tell0 (C0 : lX p s m meth c b L xs adK adV) (hz : xs (i + Int32.ofInt ((2 : Nat) : Int)).toNatClampNeg = 0) {mm : dM} {H : Heap} {locs : List Loc} {ws : va_W} {tys : List (ClassId × FieldType)} {ls : Array Slot} {ax am cs sl : Nat} (hO : Ok mm) (hT : Rf mm) (hW : lWc D s mm H locs ws tys) (hax : (ws.map Prod.fst)[0]? = some ax) (ham : (ws.map Prod.fst)[70]? = some am) (hl : lv_has ls 4 [(0, .ref b), (1, .ref ax), (2, .ref am), (3, .int i)]) (hi : 0 ≤ i.toInt ∧ i.toInt + 6 ≤ L ∧ L ≤ 3072) (hcs : cs ≤ 600000) (hsl : sl ≤ 7302250) (KE : ∀ (m2 : dM) (H2 : Heap) (locs2 : List Loc) (ws2 : va_W) (tys2 : List (ClassId × FieldType)), Ok m2 → Rf m2 → ws2.map Prod.fst = ws.map Prod.fst → lWc D s m2 H2 locs2 ws2 tys2 → W p l e room_1 s m #[Value.ref b] below meth c H2 locs2 cs sl Q (F0 m 1191 ls [])) : W p l e room_1 s m #[Value.ref b] below meth c H locs cs sl Q (F0 m 1004 ls []) := by
  obtain ⟨⟨hx, hb, -, -, -, -, -, -, -, -⟩, -, -⟩ := id C0
  refine lv_aload_n hx hb dl_1004 rfl (lv_at hl 1 rfl) ?_
  refine law_arg (k := 1) C0 hW.2.2.2.1 hl hi (by decide) dl_1005 dl_1006 dl_1007 dl_1008 dl_1009 ?_
  refine law_arg (k := 2) C0 hW.2.2.2.1 hl hi (by decide) dl_1010 dl_1011 dl_1012 dl_1013 dl_1014 ?_
  refine lv_if_eq (tgt := 1022) hx hb dl_1015 (by decide) (fun _ => ?_) (fun q => absurd hz q)
  refine lv_iconst (v := 0) hx hb dl_1022 (by decide) ?_
  refine law_callC (N := tM275) (Y := tY275) (mm := mm) (Qm := fun r m' => Mw (E11t (xs (i + Int32.ofInt ((1 : Nat) : Int)).toNatClampNeg) mm) mm r m') (as := [.inl (xs (i + Int32.ofInt ((1 : Nat) : Int)).toNatClampNeg), .inl ((0 : Int32))]) (vs := [.int (xs (i + Int32.ofInt ((1 : Nat) : Int)).toNatClampNeg), .int ((0 : Int32))]) (rest := []) C0 hW hl.1 (w1_tell ⟨hO, hT⟩ (by decide)) (nn := 0) rfl rfl (Nat.le_of_ble_eq_true rfl) rfl rfl rfl rfl rfl (kIs_ok (c := 5177) (by decide +kernel)) (kIs_ok (c := 5178) (by decide +kernel)) (kIs_ok (c := 5179) (by decide +kernel)) (d0 := 11) rfl ⟨_, rfl⟩ hax ⟨rfl, ⟨rfl, trivial⟩⟩ (Nat.le_of_ble_eq_true rfl) hcs hsl dl_1023 (fun r1 m1 H1 locs1 ws1 tys1 O1 hp1 hW1 => ?_)
  refine lv_pop hx hb dl_1026 rfl ?_
  refine lv_aload_n hx hb dl_1027 rfl (lv_at hl 2 rfl) ?_
  refine law_arg (k := 1) C0 hW1.2.2.2.1 hl hi (by decide) dl_1028 dl_1029 dl_1030 dl_1031 dl_1032 ?_
  refine law_arg (k := 2) C0 hW1.2.2.2.1 hl hi (by decide) dl_1033 dl_1034 dl_1035 dl_1036 dl_1037 ?_
  refine lv_if_eq (tgt := 1045) hx hb dl_1038 (by decide) (fun _ => ?_) (fun q => absurd hz q)
  refine lv_iconst (v := 0) hx hb dl_1045 (by decide) ?_
  refine law_callC (N := tM106) (Y := tY106) (mm := m1) (Qm := fun r m' => Bt m' ∧ r1 = r) (as := [.inl (xs (i + Int32.ofInt ((1 : Nat) : Int)).toNatClampNeg), .inl ((0 : Int32))]) (vs := [.int (xs (i + Int32.ofInt ((1 : Nat) : Int)).toNatClampNeg), .int ((0 : Int32))]) (rest := []) C0 hW1 hl.1 (w2_tell O1) (nn := 0) rfl rfl (Nat.le_of_ble_eq_true rfl) rfl rfl rfl rfl rfl (kIs_ok (c := 8151) (by decide +kernel)) (kIs_ok (c := 8152) (by decide +kernel)) (kIs_ok (c := 8153) (by decide +kernel)) (d0 := 12) rfl ⟨_, rfl⟩ (by rw [hp1]; exact ham) ⟨rfl, ⟨rfl, trivial⟩⟩ (Nat.le_of_ble_eq_true rfl) hcs hsl dl_1046 (fun r2 m2 H2 locs2 ws2 tys2 O2 hp2 hW2 => ?_)
  obtain ⟨B2, e12⟩ := O2
  refine lv_pop hx hb dl_1049 rfl ?_
  refine lv_goto (tgt := 1191) hx hb dl_1050 (by decide) ?_
  exact KE m2 H2 locs2 ws2 tys2 B2.1 B2.2 (hp2.trans hp1) hW2
theorem law_tell1 (C0 : lX p s m meth c b L xs adK adV) (hz : ¬ xs (i + Int32.ofInt ((2 : Nat) : Int)).toNatClampNeg = 0) {mm : dM} {H : Heap} {locs : List Loc} {ws : va_W} {tys : List (ClassId × FieldType)} {ls : Array Slot} {ax am cs sl : Nat} (hO : Ok mm) (hT : Rf mm) (hW : lWc D s mm H locs ws tys) (hax : (ws.map Prod.fst)[0]? = some ax) (ham : (ws.map Prod.fst)[70]? = some am) (hl : lv_has ls 4 [(0, .ref b), (1, .ref ax), (2, .ref am), (3, .int i)]) (hi : 0 ≤ i.toInt ∧ i.toInt + 6 ≤ L ∧ L ≤ 3072) (hcs : cs ≤ 600000) (hsl : sl ≤ 7302250) (KE : ∀ (m2 : dM) (H2 : Heap) (locs2 : List Loc) (ws2 : va_W) (tys2 : List (ClassId × FieldType)), Ok m2 → Rf m2 → ws2.map Prod.fst = ws.map Prod.fst → lWc D s m2 H2 locs2 ws2 tys2 → W p l e room_1 s m #[Value.ref b] below meth c H2 locs2 cs sl Q (F0 m 1191 ls [])) : W p l e room_1 s m #[Value.ref b] below meth c H locs cs sl Q (F0 m 1004 ls []) := by
  obtain ⟨⟨hx, hb, -, -, -, -, -, -, -, -⟩, -, -⟩ := id C0
  refine lv_aload_n hx hb dl_1004 rfl (lv_at hl 1 rfl) ?_
  refine law_arg (k := 1) C0 hW.2.2.2.1 hl hi (by decide) dl_1005 dl_1006 dl_1007 dl_1008 dl_1009 ?_
  refine law_arg (k := 2) C0 hW.2.2.2.1 hl hi (by decide) dl_1010 dl_1011 dl_1012 dl_1013 dl_1014 ?_
  refine lv_if_eq (tgt := 1022) hx hb dl_1015 (by decide) (fun q => absurd q hz) (fun _ => ?_)
  refine lv_iconst (v := 1) hx hb dl_1018 (by decide) ?_
  refine lv_goto (tgt := 1023) hx hb dl_1019 (by decide) ?_
  refine law_callC (N := tM275) (Y := tY275) (mm := mm) (Qm := fun r m' => Mw (E11t (xs (i + Int32.ofInt ((1 : Nat) : Int)).toNatClampNeg) mm) mm r m') (as := [.inl (xs (i + Int32.ofInt ((1 : Nat) : Int)).toNatClampNeg), .inl ((1 : Int32))]) (vs := [.int (xs (i + Int32.ofInt ((1 : Nat) : Int)).toNatClampNeg), .int ((1 : Int32))]) (rest := []) C0 hW hl.1 (w1_tell ⟨hO, hT⟩ (by decide)) (nn := 0) rfl rfl (Nat.le_of_ble_eq_true rfl) rfl rfl rfl rfl rfl (kIs_ok (c := 5177) (by decide +kernel)) (kIs_ok (c := 5178) (by decide +kernel)) (kIs_ok (c := 5179) (by decide +kernel)) (d0 := 11) rfl ⟨_, rfl⟩ hax ⟨rfl, ⟨rfl, trivial⟩⟩ (Nat.le_of_ble_eq_true rfl) hcs hsl dl_1023 (fun r1 m1 H1 locs1 ws1 tys1 O1 hp1 hW1 => ?_)
  refine lv_pop hx hb dl_1026 rfl ?_
  refine lv_aload_n hx hb dl_1027 rfl (lv_at hl 2 rfl) ?_
  refine law_arg (k := 1) C0 hW1.2.2.2.1 hl hi (by decide) dl_1028 dl_1029 dl_1030 dl_1031 dl_1032 ?_
  refine law_arg (k := 2) C0 hW1.2.2.2.1 hl hi (by decide) dl_1033 dl_1034 dl_1035 dl_1036 dl_1037 ?_
  refine lv_if_eq (tgt := 1045) hx hb dl_1038 (by decide) (fun q => absurd q hz) (fun _ => ?_)
  refine lv_iconst (v := 1) hx hb dl_1041 (by decide) ?_
  refine lv_goto (tgt := 1046) hx hb dl_1042 (by decide) ?_
  refine law_callC (N := tM106) (Y := tY106) (mm := m1) (Qm := fun r m' => Bt m' ∧ r1 = r) (as := [.inl (xs (i + Int32.ofInt ((1 : Nat) : Int)).toNatClampNeg), .inl ((1 : Int32))]) (vs := [.int (xs (i + Int32.ofInt ((1 : Nat) : Int)).toNatClampNeg), .int ((1 : Int32))]) (rest := []) C0 hW1 hl.1 (w2_tell O1) (nn := 0) rfl rfl (Nat.le_of_ble_eq_true rfl) rfl rfl rfl rfl rfl (kIs_ok (c := 8151) (by decide +kernel)) (kIs_ok (c := 8152) (by decide +kernel)) (kIs_ok (c := 8153) (by decide +kernel)) (d0 := 12) rfl ⟨_, rfl⟩ (by rw [hp1]; exact ham) ⟨rfl, ⟨rfl, trivial⟩⟩ (Nat.le_of_ble_eq_true rfl) hcs hsl dl_1046 (fun r2 m2 H2 locs2 ws2 tys2 O2 hp2 hW2 => ?_)
  obtain ⟨B2, e12⟩ := O2
  refine lv_pop hx hb dl_1049 rfl ?_
  refine lv_goto (tgt := 1191) hx hb dl_1050 (by decide) ?_
  exact KE m2 H2 locs2 ws2 tys2 B2.1 B2.2 (hp2.trans hp1) hW2
theorem law_forget (C0 : lX p s m meth c b L xs adK adV) {mm : dM} {H : Heap} {locs : List Loc} {ws : va_W} {tys : List (ClassId × FieldType)} {ls : Array Slot} {ax am cs sl : Nat} (hO : Ok mm) (hT : Rf mm) (hW : lWc D s mm H locs ws tys) (hax : (ws.map Prod.fst)[0]? = some ax) (ham : (ws.map Prod.fst)[70]? = some am) (hl : lv_has ls 4 [(0, .ref b), (1, .ref ax), (2, .ref am), (3, .int i)]) (hi : 0 ≤ i.toInt ∧ i.toInt + 6 ≤ L ∧ L ≤ 3072) (hcs : cs ≤ 600000) (hsl : sl ≤ 7302250) (KE : ∀ (m2 : dM) (H2 : Heap) (locs2 : List Loc) (ws2 : va_W) (tys2 : List (ClassId × FieldType)), Ok m2 → Rf m2 → ws2.map Prod.fst = ws.map Prod.fst → lWc D s m2 H2 locs2 ws2 tys2 → W p l e room_1 s m #[Value.ref b] below meth c H2 locs2 cs sl Q (F0 m 1191 ls [])) : W p l e room_1 s m #[Value.ref b] below meth c H locs cs sl Q (F0 m 1053 ls []) := by
  obtain ⟨⟨hx, hb, -, -, -, -, -, -, -, -⟩, -, -⟩ := id C0
  refine lv_aload_n hx hb dl_1053 rfl (lv_at hl 1 rfl) ?_
  refine law_callC (N := tM276) (Y := tY276) (mm := mm) (Qm := fun r m' => Mw (E11o mm) mm r m') (as := []) (vs := []) (rest := []) C0 hW hl.1 (w1_forget ⟨hO, hT⟩) (nn := 1) rfl rfl (Nat.le_of_ble_eq_true rfl) rfl rfl rfl rfl rfl (kIs_ok (c := 5185) (by decide +kernel)) (kIs_ok (c := 5186) (by decide +kernel)) (kIs_ok (c := 5187) (by decide +kernel)) (d0 := 11) rfl ⟨_, rfl⟩ hax trivial (Nat.le_of_ble_eq_true rfl) hcs hsl dl_1054 (fun r1 m1 H1 locs1 ws1 tys1 O1 hp1 hW1 => ?_)
  refine lv_pop hx hb dl_1057 rfl ?_
  refine lv_aload_n hx hb dl_1058 rfl (lv_at hl 2 rfl) ?_
  refine law_callC (N := tM107) (Y := tY107) (mm := m1) (Qm := fun r m' => Bt m' ∧ r1 = r) (as := []) (vs := []) (rest := []) C0 hW1 hl.1 (w2_forget O1) (nn := 1) rfl rfl (Nat.le_of_ble_eq_true rfl) rfl rfl rfl rfl rfl (kIs_ok (c := 8155) (by decide +kernel)) (kIs_ok (c := 8156) (by decide +kernel)) (kIs_ok (c := 8157) (by decide +kernel)) (d0 := 12) rfl ⟨_, rfl⟩ (by rw [hp1]; exact ham) trivial (Nat.le_of_ble_eq_true rfl) hcs hsl dl_1059 (fun r2 m2 H2 locs2 ws2 tys2 O2 hp2 hW2 => ?_)
  obtain ⟨B2, e12⟩ := O2
  refine lv_pop hx hb dl_1062 rfl ?_
  refine lv_goto (tgt := 1191) hx hb dl_1063 (by decide) ?_
  exact KE m2 H2 locs2 ws2 tys2 B2.1 B2.2 (hp2.trans hp1) hW2
theorem law_went (C0 : lX p s m meth c b L xs adK adV) {mm : dM} {H : Heap} {locs : List Loc} {ws : va_W} {tys : List (ClassId × FieldType)} {ls : Array Slot} {ax am cs sl : Nat} (hO : Ok mm) (hT : Rf mm) (hW : lWc D s mm H locs ws tys) (hax : (ws.map Prod.fst)[0]? = some ax) (ham : (ws.map Prod.fst)[70]? = some am) (hl : lv_has ls 4 [(0, .ref b), (1, .ref ax), (2, .ref am), (3, .int i)]) (hi : 0 ≤ i.toInt ∧ i.toInt + 6 ≤ L ∧ L ≤ 3072) (hcs : cs ≤ 600000) (hsl : sl ≤ 7302250) (KE : ∀ (m2 : dM) (H2 : Heap) (locs2 : List Loc) (ws2 : va_W) (tys2 : List (ClassId × FieldType)), Ok m2 → Rf m2 → ws2.map Prod.fst = ws.map Prod.fst → lWc D s m2 H2 locs2 ws2 tys2 → W p l e room_1 s m #[Value.ref b] below meth c H2 locs2 cs sl Q (F0 m 1191 ls [])) : W p l e room_1 s m #[Value.ref b] below meth c H locs cs sl Q (F0 m 1066 ls []) := by
  obtain ⟨⟨hx, hb, -, -, -, -, -, -, -, -⟩, -, -⟩ := id C0
  refine lv_aload_n hx hb dl_1066 rfl (lv_at hl 1 rfl) ?_
  refine law_arg (k := 1) C0 hW.2.2.2.1 hl hi (by decide) dl_1067 dl_1068 dl_1069 dl_1070 dl_1071 ?_
  refine law_arg (k := 2) C0 hW.2.2.2.1 hl hi (by decide) dl_1072 dl_1073 dl_1074 dl_1075 dl_1076 ?_
  refine law_callC (N := tM277) (Y := tY277) (mm := mm) (Qm := fun _ m' => Bt m') (as := [.inl (xs (i + Int32.ofInt ((1 : Nat) : Int)).toNatClampNeg), .inl (xs (i + Int32.ofInt ((2 : Nat) : Int)).toNatClampNeg)]) (vs := [.int (xs (i + Int32.ofInt ((1 : Nat) : Int)).toNatClampNeg), .int (xs (i + Int32.ofInt ((2 : Nat) : Int)).toNatClampNeg)]) (rest := []) C0 hW hl.1 (w1_went ⟨hO, hT⟩) (nn := 1) rfl rfl (Nat.le_of_ble_eq_true rfl) rfl rfl rfl rfl rfl (kIs_ok (c := 5189) (by decide +kernel)) (kIs_ok (c := 5190) (by decide +kernel)) (kIs_ok (c := 5191) (by decide +kernel)) (d0 := 11) rfl ⟨_, rfl⟩ hax ⟨rfl, ⟨rfl, trivial⟩⟩ (Nat.le_of_ble_eq_true rfl) hcs hsl dl_1077 (fun r1 m1 H1 locs1 ws1 tys1 O1 hp1 hW1 => ?_)
  refine lv_pop hx hb dl_1080 rfl ?_
  refine lv_aload_n hx hb dl_1081 rfl (lv_at hl 2 rfl) ?_
  refine law_arg (k := 1) C0 hW1.2.2.2.1 hl hi (by decide) dl_1082 dl_1083 dl_1084 dl_1085 dl_1086 ?_
  refine law_arg (k := 2) C0 hW1.2.2.2.1 hl hi (by decide) dl_1087 dl_1088 dl_1089 dl_1090 dl_1091 ?_
  refine law_callC (N := tM109) (Y := tY109) (mm := m1) (Qm := fun _ m' => Bt m') (as := [.inl (xs (i + Int32.ofInt ((1 : Nat) : Int)).toNatClampNeg), .inl (xs (i + Int32.ofInt ((2 : Nat) : Int)).toNatClampNeg)]) (vs := [.int (xs (i + Int32.ofInt ((1 : Nat) : Int)).toNatClampNeg), .int (xs (i + Int32.ofInt ((2 : Nat) : Int)).toNatClampNeg)]) (rest := []) C0 hW1 hl.1 (w2_went O1) (nn := 1) rfl rfl (Nat.le_of_ble_eq_true rfl) rfl rfl rfl rfl rfl (kIs_ok (c := 8159) (by decide +kernel)) (kIs_ok (c := 8160) (by decide +kernel)) (kIs_ok (c := 8161) (by decide +kernel)) (d0 := 12) rfl ⟨_, rfl⟩ (by rw [hp1]; exact ham) ⟨rfl, ⟨rfl, trivial⟩⟩ (Nat.le_of_ble_eq_true rfl) hcs hsl dl_1092 (fun r2 m2 H2 locs2 ws2 tys2 O2 hp2 hW2 => ?_)
  have B2 : Bt m2 := O2
  refine lv_pop hx hb dl_1095 rfl ?_
  refine lv_goto (tgt := 1191) hx hb dl_1096 (by decide) ?_
  exact KE m2 H2 locs2 ws2 tys2 B2.1 B2.2 (hp2.trans hp1) hW2
theorem law_ask (C0 : lX p s m meth c b L xs adK adV) {mm : dM} {H : Heap} {locs : List Loc} {ws : va_W} {tys : List (ClassId × FieldType)} {ls : Array Slot} {ax am cs sl : Nat} (hO : Ok mm) (hT : Rf mm) (hW : lWc D s mm H locs ws tys) (hax : (ws.map Prod.fst)[0]? = some ax) (ham : (ws.map Prod.fst)[70]? = some am) (hl : lv_has ls 4 [(0, .ref b), (1, .ref ax), (2, .ref am), (3, .int i)]) (hi : 0 ≤ i.toInt ∧ i.toInt + 6 ≤ L ∧ L ≤ 3072) (hcs : cs ≤ 600000) (hsl : sl ≤ 7302250) (KE : ∀ (m2 : dM) (H2 : Heap) (locs2 : List Loc) (ws2 : va_W) (tys2 : List (ClassId × FieldType)), Ok m2 → Rf m2 → ws2.map Prod.fst = ws.map Prod.fst → lWc D s m2 H2 locs2 ws2 tys2 → W p l e room_1 s m #[Value.ref b] below meth c H2 locs2 cs sl Q (F0 m 1191 ls [])) : W p l e room_1 s m #[Value.ref b] below meth c H locs cs sl Q (F0 m 1099 ls []) := by
  obtain ⟨⟨hx, hb, -, -, -, -, -, -, -, -⟩, -, -⟩ := id C0
  refine lv_aload_n hx hb dl_1099 rfl (lv_at hl 1 rfl) ?_
  refine law_arg (k := 1) C0 hW.2.2.2.1 hl hi (by decide) dl_1100 dl_1101 dl_1102 dl_1103 dl_1104 ?_
  refine law_callC (N := tM278) (Y := tY278) (mm := mm) (Qm := fun _ m' => Bt m') (as := [.inl (xs (i + Int32.ofInt ((1 : Nat) : Int)).toNatClampNeg)]) (vs := [.int (xs (i + Int32.ofInt ((1 : Nat) : Int)).toNatClampNeg)]) (rest := []) C0 hW hl.1 (w1_ask ⟨hO, hT⟩) (nn := 0) rfl rfl (Nat.le_of_ble_eq_true rfl) rfl rfl rfl rfl rfl (kIs_ok (c := 5203) (by decide +kernel)) (kIs_ok (c := 5204) (by decide +kernel)) (kIs_ok (c := 5205) (by decide +kernel)) (d0 := 11) rfl ⟨_, rfl⟩ hax ⟨rfl, trivial⟩ (Nat.le_of_ble_eq_true rfl) hcs hsl dl_1105 (fun r1 m1 H1 locs1 ws1 tys1 O1 hp1 hW1 => ?_)
  refine lv_pop hx hb dl_1108 rfl ?_
  refine lv_aload_n hx hb dl_1109 rfl (lv_at hl 2 rfl) ?_
  refine law_arg (k := 1) C0 hW1.2.2.2.1 hl hi (by decide) dl_1110 dl_1111 dl_1112 dl_1113 dl_1114 ?_
  refine law_callC (N := tM110) (Y := tY110) (mm := m1) (Qm := fun _ m' => Bt m') (as := [.inl (xs (i + Int32.ofInt ((1 : Nat) : Int)).toNatClampNeg)]) (vs := [.int (xs (i + Int32.ofInt ((1 : Nat) : Int)).toNatClampNeg)]) (rest := []) C0 hW1 hl.1 (w2_ask O1) (nn := 6) rfl rfl (Nat.le_of_ble_eq_true rfl) rfl rfl rfl rfl rfl (kIs_ok (c := 8167) (by decide +kernel)) (kIs_ok (c := 8168) (by decide +kernel)) (kIs_ok (c := 8169) (by decide +kernel)) (d0 := 12) rfl ⟨_, rfl⟩ (by rw [hp1]; exact ham) ⟨rfl, trivial⟩ (Nat.le_of_ble_eq_true rfl) hcs hsl dl_1115 (fun r2 m2 H2 locs2 ws2 tys2 O2 hp2 hW2 => ?_)
  have B2 : Bt m2 := O2
  refine lv_pop hx hb dl_1118 rfl ?_
  refine lv_goto (tgt := 1191) hx hb dl_1119 (by decide) ?_
  exact KE m2 H2 locs2 ws2 tys2 B2.1 B2.2 (hp2.trans hp1) hW2
theorem law_hold (C0 : lX p s m meth c b L xs adK adV) {mm : dM} {H : Heap} {locs : List Loc} {ws : va_W} {tys : List (ClassId × FieldType)} {ls : Array Slot} {ax am cs sl : Nat} (hO : Ok mm) (hT : Rf mm) (hW : lWc D s mm H locs ws tys) (hax : (ws.map Prod.fst)[0]? = some ax) (ham : (ws.map Prod.fst)[70]? = some am) (hl : lv_has ls 4 [(0, .ref b), (1, .ref ax), (2, .ref am), (3, .int i)]) (hi : 0 ≤ i.toInt ∧ i.toInt + 6 ≤ L ∧ L ≤ 3072) (hcs : cs ≤ 600000) (hsl : sl ≤ 7302250) (KE : ∀ (m2 : dM) (H2 : Heap) (locs2 : List Loc) (ws2 : va_W) (tys2 : List (ClassId × FieldType)), Ok m2 → Rf m2 → ws2.map Prod.fst = ws.map Prod.fst → lWc D s m2 H2 locs2 ws2 tys2 → W p l e room_1 s m #[Value.ref b] below meth c H2 locs2 cs sl Q (F0 m 1191 ls [])) : W p l e room_1 s m #[Value.ref b] below meth c H locs cs sl Q (F0 m 1122 ls []) := by
  obtain ⟨⟨hx, hb, -, -, -, -, -, -, -, -⟩, -, -⟩ := id C0
  refine lv_aload_n hx hb dl_1122 rfl (lv_at hl 1 rfl) ?_
  refine law_arg (k := 1) C0 hW.2.2.2.1 hl hi (by decide) dl_1123 dl_1124 dl_1125 dl_1126 dl_1127 ?_
  refine law_callC (N := tM279) (Y := tY279) (mm := mm) (Qm := fun r m' => Mh (xs (i + Int32.ofInt ((1 : Nat) : Int)).toNatClampNeg) mm r m') (as := [.inl (xs (i + Int32.ofInt ((1 : Nat) : Int)).toNatClampNeg)]) (vs := [.int (xs (i + Int32.ofInt ((1 : Nat) : Int)).toNatClampNeg)]) (rest := []) C0 hW hl.1 (w1_hold ⟨hO, hT⟩) (nn := 0) rfl rfl (Nat.le_of_ble_eq_true rfl) rfl rfl rfl rfl rfl (kIs_ok (c := 5219) (by decide +kernel)) (kIs_ok (c := 5220) (by decide +kernel)) (kIs_ok (c := 5221) (by decide +kernel)) (d0 := 11) rfl ⟨_, rfl⟩ hax ⟨rfl, trivial⟩ (Nat.le_of_ble_eq_true rfl) hcs hsl dl_1128 (fun r1 m1 H1 locs1 ws1 tys1 O1 hp1 hW1 => ?_)
  refine lv_pop hx hb dl_1131 rfl ?_
  refine lv_aload_n hx hb dl_1132 rfl (lv_at hl 2 rfl) ?_
  refine law_arg (k := 1) C0 hW1.2.2.2.1 hl hi (by decide) dl_1133 dl_1134 dl_1135 dl_1136 dl_1137 ?_
  refine law_callC (N := tM111) (Y := tY111) (mm := m1) (Qm := fun r m' => Bt m' ∧ r1 = r) (as := [.inl (xs (i + Int32.ofInt ((1 : Nat) : Int)).toNatClampNeg)]) (vs := [.int (xs (i + Int32.ofInt ((1 : Nat) : Int)).toNatClampNeg)]) (rest := []) C0 hW1 hl.1 (w2_hold O1) (nn := 1) rfl rfl (Nat.le_of_ble_eq_true rfl) rfl rfl rfl rfl rfl (kIs_ok (c := 8171) (by decide +kernel)) (kIs_ok (c := 8172) (by decide +kernel)) (kIs_ok (c := 8173) (by decide +kernel)) (d0 := 12) rfl ⟨_, rfl⟩ (by rw [hp1]; exact ham) ⟨rfl, trivial⟩ (Nat.le_of_ble_eq_true rfl) hcs hsl dl_1138 (fun r2 m2 H2 locs2 ws2 tys2 O2 hp2 hW2 => ?_)
  obtain ⟨B2, e12⟩ := O2
  refine lv_pop hx hb dl_1141 rfl ?_
  refine lv_goto (tgt := 1191) hx hb dl_1142 (by decide) ?_
  exact KE m2 H2 locs2 ws2 tys2 B2.1 B2.2 (hp2.trans hp1) hW2
theorem law_restore (C0 : lX p s m meth c b L xs adK adV) {mm : dM} {H : Heap} {locs : List Loc} {ws : va_W} {tys : List (ClassId × FieldType)} {ls : Array Slot} {ax am cs sl : Nat} (hO : Ok mm) (hT : Rf mm) (hW : lWc D s mm H locs ws tys) (hax : (ws.map Prod.fst)[0]? = some ax) (ham : (ws.map Prod.fst)[70]? = some am) (hl : lv_has ls 4 [(0, .ref b), (1, .ref ax), (2, .ref am), (3, .int i)]) (hi : 0 ≤ i.toInt ∧ i.toInt + 6 ≤ L ∧ L ≤ 3072) (hcs : cs ≤ 600000) (hsl : sl ≤ 7302250) (KE : ∀ (m2 : dM) (H2 : Heap) (locs2 : List Loc) (ws2 : va_W) (tys2 : List (ClassId × FieldType)), Ok m2 → Rf m2 → ws2.map Prod.fst = ws.map Prod.fst → lWc D s m2 H2 locs2 ws2 tys2 → W p l e room_1 s m #[Value.ref b] below meth c H2 locs2 cs sl Q (F0 m 1191 ls [])) : W p l e room_1 s m #[Value.ref b] below meth c H locs cs sl Q (F0 m 1145 ls []) := by
  obtain ⟨⟨hx, hb, -, -, -, -, -, -, -, -⟩, -, -⟩ := id C0
  refine lv_aload_n hx hb dl_1145 rfl (lv_at hl 1 rfl) ?_
  refine law_arg (k := 1) C0 hW.2.2.2.1 hl hi (by decide) dl_1146 dl_1147 dl_1148 dl_1149 dl_1150 ?_
  refine law_callC (N := tM280) (Y := tY280) (mm := mm) (Qm := fun r m' => Ms (xs (i + Int32.ofInt ((1 : Nat) : Int)).toNatClampNeg) mm r m') (as := [.inl (xs (i + Int32.ofInt ((1 : Nat) : Int)).toNatClampNeg)]) (vs := [.int (xs (i + Int32.ofInt ((1 : Nat) : Int)).toNatClampNeg)]) (rest := []) C0 hW hl.1 (w1_restore ⟨hO, hT⟩) (nn := 0) rfl rfl (Nat.le_of_ble_eq_true rfl) rfl rfl rfl rfl rfl (kIs_ok (c := 5227) (by decide +kernel)) (kIs_ok (c := 5228) (by decide +kernel)) (kIs_ok (c := 5229) (by decide +kernel)) (d0 := 11) rfl ⟨_, rfl⟩ hax ⟨rfl, trivial⟩ (Nat.le_of_ble_eq_true rfl) hcs hsl dl_1151 (fun r1 m1 H1 locs1 ws1 tys1 O1 hp1 hW1 => ?_)
  refine lv_pop hx hb dl_1154 rfl ?_
  refine lv_aload_n hx hb dl_1155 rfl (lv_at hl 2 rfl) ?_
  refine law_arg (k := 1) C0 hW1.2.2.2.1 hl hi (by decide) dl_1156 dl_1157 dl_1158 dl_1159 dl_1160 ?_
  refine law_callC (N := tM112) (Y := tY112) (mm := m1) (Qm := fun r m' => Bt m' ∧ r1 = r) (as := [.inl (xs (i + Int32.ofInt ((1 : Nat) : Int)).toNatClampNeg)]) (vs := [.int (xs (i + Int32.ofInt ((1 : Nat) : Int)).toNatClampNeg)]) (rest := []) C0 hW1 hl.1 (w2_restore O1) (nn := 1) rfl rfl (Nat.le_of_ble_eq_true rfl) rfl rfl rfl rfl rfl (kIs_ok (c := 8175) (by decide +kernel)) (kIs_ok (c := 8176) (by decide +kernel)) (kIs_ok (c := 8177) (by decide +kernel)) (d0 := 12) rfl ⟨_, rfl⟩ (by rw [hp1]; exact ham) ⟨rfl, trivial⟩ (Nat.le_of_ble_eq_true rfl) hcs hsl dl_1161 (fun r2 m2 H2 locs2 ws2 tys2 O2 hp2 hW2 => ?_)
  obtain ⟨B2, e12⟩ := O2
  refine lv_pop hx hb dl_1164 rfl ?_
  refine lv_goto (tgt := 1191) hx hb dl_1165 (by decide) ?_
  exact KE m2 H2 locs2 ws2 tys2 B2.1 B2.2 (hp2.trans hp1) hW2
theorem law_count (C0 : lX p s m meth c b L xs adK adV) {mm : dM} {H : Heap} {locs : List Loc} {ws : va_W} {tys : List (ClassId × FieldType)} {ls : Array Slot} {ax am cs sl : Nat} (hO : Ok mm) (hT : Rf mm) (hW : lWc D s mm H locs ws tys) (hax : (ws.map Prod.fst)[0]? = some ax) (ham : (ws.map Prod.fst)[70]? = some am) (hl : lv_has ls 4 [(0, .ref b), (1, .ref ax), (2, .ref am), (3, .int i)]) (hi : 0 ≤ i.toInt ∧ i.toInt + 6 ≤ L ∧ L ≤ 3072) (hcs : cs ≤ 600000) (hsl : sl ≤ 7302250) (KE : ∀ (m2 : dM) (H2 : Heap) (locs2 : List Loc) (ws2 : va_W) (tys2 : List (ClassId × FieldType)), Ok m2 → Rf m2 → ws2.map Prod.fst = ws.map Prod.fst → lWc D s m2 H2 locs2 ws2 tys2 → W p l e room_1 s m #[Value.ref b] below meth c H2 locs2 cs sl Q (F0 m 1191 ls [])) : W p l e room_1 s m #[Value.ref b] below meth c H locs cs sl Q (F0 m 1168 ls []) := by
  obtain ⟨⟨hx, hb, -, -, -, -, -, -, -, -⟩, -, -⟩ := id C0
  refine lv_aload_n hx hb dl_1168 rfl (lv_at hl 1 rfl) ?_
  refine law_arg (k := 1) C0 hW.2.2.2.1 hl hi (by decide) dl_1169 dl_1170 dl_1171 dl_1172 dl_1173 ?_
  refine law_callC (N := tM281) (Y := tY281) (mm := mm) (Qm := fun _ m' => Bt m') (as := [.inl (xs (i + Int32.ofInt ((1 : Nat) : Int)).toNatClampNeg)]) (vs := [.int (xs (i + Int32.ofInt ((1 : Nat) : Int)).toNatClampNeg)]) (rest := []) C0 hW hl.1 (w1_count ⟨hO, hT⟩) (nn := 0) rfl rfl (Nat.le_of_ble_eq_true rfl) rfl rfl rfl rfl rfl (kIs_ok (c := 5237) (by decide +kernel)) (kIs_ok (c := 5238) (by decide +kernel)) (kIs_ok (c := 5239) (by decide +kernel)) (d0 := 11) rfl ⟨_, rfl⟩ hax ⟨rfl, trivial⟩ (Nat.le_of_ble_eq_true rfl) hcs hsl dl_1174 (fun r1 m1 H1 locs1 ws1 tys1 O1 hp1 hW1 => ?_)
  refine lv_pop hx hb dl_1177 rfl ?_
  refine lv_aload_n hx hb dl_1178 rfl (lv_at hl 2 rfl) ?_
  refine law_arg (k := 1) C0 hW1.2.2.2.1 hl hi (by decide) dl_1179 dl_1180 dl_1181 dl_1182 dl_1183 ?_
  refine law_callC (N := tM113) (Y := tY113) (mm := m1) (Qm := fun _ m' => Bt m') (as := [.inl (xs (i + Int32.ofInt ((1 : Nat) : Int)).toNatClampNeg)]) (vs := [.int (xs (i + Int32.ofInt ((1 : Nat) : Int)).toNatClampNeg)]) (rest := []) C0 hW1 hl.1 (w2_count O1) (nn := 2) rfl rfl (Nat.le_of_ble_eq_true rfl) rfl rfl rfl rfl rfl (kIs_ok (c := 8179) (by decide +kernel)) (kIs_ok (c := 8180) (by decide +kernel)) (kIs_ok (c := 8181) (by decide +kernel)) (d0 := 12) rfl ⟨_, rfl⟩ (by rw [hp1]; exact ham) ⟨rfl, trivial⟩ (Nat.le_of_ble_eq_true rfl) hcs hsl dl_1184 (fun r2 m2 H2 locs2 ws2 tys2 O2 hp2 hW2 => ?_)
  have B2 : Bt m2 := O2
  refine lv_pop hx hb dl_1187 rfl ?_
  refine lv_goto (tgt := 1191) hx hb dl_1188 (by decide) ?_
  exact KE m2 H2 locs2 ws2 tys2 B2.1 B2.2 (hp2.trans hp1) hW2
end LWC
