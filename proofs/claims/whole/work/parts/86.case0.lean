/-! THE LAW, 2: cases 0 to 10 of its switch (printed by gen/law85.py) -/
/-- the law's locals -/
abbrev lw_lv (B b t : Nat) : List (Nat × Value) := [(4, .int (nI (6 * t))), (3, .ref (B + 68)), (2, .ref (B + 53)), (1, .ref B), (0, .ref b)]
/-- what comes behind a case -/
def lw_N (p : Program) (l : Launch) (e : Env) (s : State) (m : MethodId) (args : Array Value) (below : List Frame) (meth : Method) (c : Code) (Q : State → Prop) (D : va_G) (ca : Nat → ClassId) (b t : Nat) : Prop :=
  ∀ (M : ah_h) (z : Nat) (τ : md_T) (H : Heap) (locs : List Loc) (cells slots : Nat) (ls : Array Slot), ah_g s.heap D ca M z H → ah_L s.heap locs → wd s.heap.size M z τ → lv_has ls 8 (lw_lv s.heap.size b t) → cells ≤ 700 + 300 * (t + 1) → slots ≤ 40000 + 600 * (t + 1) → W p l e room_1 s m args below meth c H locs cells slots Q (F0 m 1363 ls [])
theorem wd_up {b z z' : Nat} {M : ah_h} {τ : md_T} (h : wd b M z τ) (hz : z ≤ z') : wd b M z' τ := by
  obtain ⟨h1, h2, h3, h4, h5⟩ := h
  exact ⟨h1, h2, h3, by omega, fun q hq => h5 q (by omega)⟩
section CASES
variable {p : Program} {l : Launch} {e : Env} {s : State} {m : MethodId} {args : Array Value} {below : List Frame} {meth : Method} {c : Code} {H : Heap} {locs : List Loc} {cells slots : Nat} {Q : State → Prop}
variable {D : va_G} {ca : Nat → ClassId} {M : ah_h} {z b L t : Nat} {xs : Nat → Int32} {ls : Array Slot} {τ : md_T}
set_option maxRecDepth 100000 in
set_option maxHeartbeats 4000000 in
theorem lc_0 (K : ah_K p s m args meth c D ca "ShipsThatMeetLaw" code 8 ret) (hX : va_X b L xs s s.heap) (hbl : b < s.heap.size) (ht : 6 * t + 6 ≤ L) (hL9 : L ≤ 384) (hG : ah_g s.heap D ca M z H) (hL : ah_L s.heap locs) (hw : wd s.heap.size M z τ) (hl : lv_has ls 8 (lw_lv s.heap.size b t)) (hc : cells ≤ 700 + 300 * t) (hs : slots ≤ 40000 + 600 * t) (kn : lw_N p l e s m args below meth c Q D ca b t) : W p l e room_1 s m args below meth c H locs cells slots Q (F0 m 184 ls []) := by
  have hl : lv_has ls 8 [(4, .int (nI (6 * t))), (3, .ref (s.heap.size + 68)), (2, .ref (s.heap.size + 53)), (1, .ref s.heap.size), (0, .ref b)] := hl
  have ht64 : t < 64 := by omega
  obtain ⟨v, M1, M2, τ', z', e1, e2, hw2, -, -⟩ := p_fleet hw (xs (6 * t + 1))
  obtain ⟨q1, eq1⟩ := ah_this e1
  obtain ⟨q2, eq2⟩ := ah_this e2
  refine lv_aload_n K.1 K.2.1 dL_law_184 rfl (lv_at hl 3 rfl) ?_
  refine lw_ld (t := t) (k := 1) K hX hbl hG hL hl (i4 := 0) (i0 := 4) rfl rfl (by decide) (by omega) hL9 dL_law_185 dL_law_186 dL_law_188 dL_law_189 dL_law_190 ?_
  refine ah_callV (n := 1) (As := [.int (xs (6 * t + 1))]) (rest := []) K hG hL hl.1 eq1 rfl (ctX10_fleet l s.heap D ca M z s.heap.size (xs (6 * t + 1)) (v, M1, z') e1) (by decide +kernel) q_206 q_207 q_50 q_209 q_208 ⟨Nat.le_of_ble_eq_true rfl, Nat.le_of_ble_eq_true rfl⟩ rfl rfl (Nat.le_of_ble_eq_true rfl) ⟨by show cells + 300 ≤ 600128; omega, by show slots + 600 ≤ 7301098; omega⟩ dL_law_191 (fun H locs hG hL => ?_)
  refine lv_aload_n K.1 K.2.1 dL_law_194 rfl (lv_at hl 2 rfl) ?_
  refine lw_ld (t := t) (k := 1) K hX hbl hG hL hl (i4 := 0) (i0 := 4) rfl rfl (by decide) (by omega) hL9 dL_law_195 dL_law_196 dL_law_198 dL_law_199 dL_law_200 ?_
  refine ah_callV (n := 1) (As := [.int (xs (6 * t + 1))]) (rest := [.int v]) K hG hL hl.1 eq2 rfl (ctX11_fleet l s.heap D ca M1 z' (s.heap.size + 53) (xs (6 * t + 1)) (v, M2) e2) (by decide +kernel) q_960 q_961 q_54 q_963 q_962 ⟨Nat.le_of_ble_eq_true rfl, Nat.le_of_ble_eq_true rfl⟩ rfl rfl (Nat.le_of_ble_eq_true rfl) ⟨by show cells + 300 + 0 ≤ 600128; omega, by show slots + 600 + 0 ≤ 7301098; omega⟩ dL_law_201 (fun H locs hG hL => ?_)
  exact lv_icmp_eq (tgt := 1363) K.1 K.2.1 dL_law_204 (by decide) (fun _ => kn M2 z' τ' _ _ _ _ _ hG hL hw2 hl (by show cells + 300 + 0 ≤ _; omega) (by show slots + 600 + 0 ≤ _; omega)) (fun h => absurd rfl h)
set_option maxRecDepth 100000 in
set_option maxHeartbeats 4000000 in
theorem lc_1 (K : ah_K p s m args meth c D ca "ShipsThatMeetLaw" code 8 ret) (hX : va_X b L xs s s.heap) (hbl : b < s.heap.size) (ht : 6 * t + 6 ≤ L) (hL9 : L ≤ 384) (hG : ah_g s.heap D ca M z H) (hL : ah_L s.heap locs) (hw : wd s.heap.size M z τ) (hl : lv_has ls 8 (lw_lv s.heap.size b t)) (hc : cells ≤ 700 + 300 * t) (hs : slots ≤ 40000 + 600 * t) (kn : lw_N p l e s m args below meth c Q D ca b t) : W p l e room_1 s m args below meth c H locs cells slots Q (F0 m 209 ls []) := by
  have hl : lv_has ls 8 [(4, .int (nI (6 * t))), (3, .ref (s.heap.size + 68)), (2, .ref (s.heap.size + 53)), (1, .ref s.heap.size), (0, .ref b)] := hl
  have ht64 : t < 64 := by omega
  obtain ⟨v, e1, e2⟩ := p_ship hw (xs (6 * t + 1)) (xs (6 * t + 2))
  obtain ⟨q1, eq1⟩ := ah_this e1
  obtain ⟨q2, eq2⟩ := ah_this e2
  refine lv_aload_n K.1 K.2.1 dL_law_209 rfl (lv_at hl 3 rfl) ?_
  refine lw_ld (t := t) (k := 1) K hX hbl hG hL hl (i4 := 0) (i0 := 4) rfl rfl (by decide) (by omega) hL9 dL_law_210 dL_law_211 dL_law_213 dL_law_214 dL_law_215 ?_
  refine lw_ld (t := t) (k := 2) K hX hbl hG hL hl (i4 := 0) (i0 := 4) rfl rfl (by decide) (by omega) hL9 dL_law_216 dL_law_217 dL_law_219 dL_law_220 dL_law_221 ?_
  refine ah_callV (n := 2) (As := [.int (xs (6 * t + 1)), .int (xs (6 * t + 2))]) (rest := []) K hG hL hl.1 eq1 rfl (ctX10_ship l s.heap D ca M z s.heap.size (xs (6 * t + 1)) (xs (6 * t + 2)) v e1) (by decide +kernel) q_424 q_425 q_50 q_427 q_426 ⟨Nat.le_of_ble_eq_true rfl, Nat.le_of_ble_eq_true rfl⟩ rfl rfl (Nat.le_of_ble_eq_true rfl) ⟨by show cells + 0 ≤ 600128; omega, by show slots + 0 ≤ 7301098; omega⟩ dL_law_222 (fun H locs hG hL => ?_)
  refine lv_aload_n K.1 K.2.1 dL_law_225 rfl (lv_at hl 2 rfl) ?_
  refine lw_ld (t := t) (k := 1) K hX hbl hG hL hl (i4 := 0) (i0 := 4) rfl rfl (by decide) (by omega) hL9 dL_law_226 dL_law_227 dL_law_229 dL_law_230 dL_law_231 ?_
  refine lw_ld (t := t) (k := 2) K hX hbl hG hL hl (i4 := 0) (i0 := 4) rfl rfl (by decide) (by omega) hL9 dL_law_232 dL_law_233 dL_law_235 dL_law_236 dL_law_237 ?_
  refine ah_callV (n := 2) (As := [.int (xs (6 * t + 1)), .int (xs (6 * t + 2))]) (rest := [.int v]) K hG hL hl.1 eq2 rfl (ctX11_ship l s.heap D ca M z (s.heap.size + 53) (xs (6 * t + 1)) (xs (6 * t + 2)) v e2) (by decide +kernel) q_1058 q_1059 q_54 q_1061 q_1060 ⟨Nat.le_of_ble_eq_true rfl, Nat.le_of_ble_eq_true rfl⟩ rfl rfl (Nat.le_of_ble_eq_true rfl) ⟨by show cells + 0 + 0 ≤ 600128; omega, by show slots + 0 + 0 ≤ 7301098; omega⟩ dL_law_238 (fun H locs hG hL => ?_)
  exact lv_icmp_eq (tgt := 1363) K.1 K.2.1 dL_law_241 (by decide) (fun _ => kn M z τ _ _ _ _ _ hG hL hw hl (by show cells + 0 + 0 ≤ _; omega) (by show slots + 0 + 0 ≤ _; omega)) (fun h => absurd rfl h)
set_option maxRecDepth 100000 in
set_option maxHeartbeats 4000000 in
theorem lc_2 (K : ah_K p s m args meth c D ca "ShipsThatMeetLaw" code 8 ret) (hX : va_X b L xs s s.heap) (hbl : b < s.heap.size) (ht : 6 * t + 6 ≤ L) (hL9 : L ≤ 384) (hG : ah_g s.heap D ca M z H) (hL : ah_L s.heap locs) (hw : wd s.heap.size M z τ) (hl : lv_has ls 8 (lw_lv s.heap.size b t)) (hc : cells ≤ 700 + 300 * t) (hs : slots ≤ 40000 + 600 * t) (kn : lw_N p l e s m args below meth c Q D ca b t) : W p l e room_1 s m args below meth c H locs cells slots Q (F0 m 246 ls []) := by
  have hl : lv_has ls 8 [(4, .int (nI (6 * t))), (3, .ref (s.heap.size + 68)), (2, .ref (s.heap.size + 53)), (1, .ref s.heap.size), (0, .ref b)] := hl
  have ht64 : t < 64 := by omega
  obtain ⟨v, e1, e2⟩ := p_man hw (xs (6 * t + 1)) (xs (6 * t + 2))
  obtain ⟨q1, eq1⟩ := ah_this e1
  obtain ⟨q2, eq2⟩ := ah_this e2
  refine lv_aload_n K.1 K.2.1 dL_law_246 rfl (lv_at hl 3 rfl) ?_
  refine lw_ld (t := t) (k := 1) K hX hbl hG hL hl (i4 := 0) (i0 := 4) rfl rfl (by decide) (by omega) hL9 dL_law_247 dL_law_248 dL_law_250 dL_law_251 dL_law_252 ?_
  refine lw_ld (t := t) (k := 2) K hX hbl hG hL hl (i4 := 0) (i0 := 4) rfl rfl (by decide) (by omega) hL9 dL_law_253 dL_law_254 dL_law_256 dL_law_257 dL_law_258 ?_
  refine ah_callV (n := 2) (As := [.int (xs (6 * t + 1)), .int (xs (6 * t + 2))]) (rest := []) K hG hL hl.1 eq1 rfl (ctX10_man l s.heap D ca M z s.heap.size (xs (6 * t + 1)) (xs (6 * t + 2)) v e1) (by decide +kernel) q_431 q_432 q_50 q_434 q_433 ⟨Nat.le_of_ble_eq_true rfl, Nat.le_of_ble_eq_true rfl⟩ rfl rfl (Nat.le_of_ble_eq_true rfl) ⟨by show cells + 0 ≤ 600128; omega, by show slots + 0 ≤ 7301098; omega⟩ dL_law_259 (fun H locs hG hL => ?_)
  refine lv_aload_n K.1 K.2.1 dL_law_262 rfl (lv_at hl 2 rfl) ?_
  refine lw_ld (t := t) (k := 1) K hX hbl hG hL hl (i4 := 0) (i0 := 4) rfl rfl (by decide) (by omega) hL9 dL_law_263 dL_law_264 dL_law_266 dL_law_267 dL_law_268 ?_
  refine lw_ld (t := t) (k := 2) K hX hbl hG hL hl (i4 := 0) (i0 := 4) rfl rfl (by decide) (by omega) hL9 dL_law_269 dL_law_270 dL_law_272 dL_law_273 dL_law_274 ?_
  refine ah_callV (n := 2) (As := [.int (xs (6 * t + 1)), .int (xs (6 * t + 2))]) (rest := [.int v]) K hG hL hl.1 eq2 rfl (ctX11_man l s.heap D ca M z (s.heap.size + 53) (xs (6 * t + 1)) (xs (6 * t + 2)) v e2) (by decide +kernel) q_1062 q_1063 q_54 q_1065 q_1064 ⟨Nat.le_of_ble_eq_true rfl, Nat.le_of_ble_eq_true rfl⟩ rfl rfl (Nat.le_of_ble_eq_true rfl) ⟨by show cells + 0 + 0 ≤ 600128; omega, by show slots + 0 + 0 ≤ 7301098; omega⟩ dL_law_275 (fun H locs hG hL => ?_)
  exact lv_icmp_eq (tgt := 1363) K.1 K.2.1 dL_law_278 (by decide) (fun _ => kn M z τ _ _ _ _ _ hG hL hw hl (by show cells + 0 + 0 ≤ _; omega) (by show slots + 0 + 0 ≤ _; omega)) (fun h => absurd rfl h)
set_option maxRecDepth 100000 in
set_option maxHeartbeats 4000000 in
theorem lc_3 (K : ah_K p s m args meth c D ca "ShipsThatMeetLaw" code 8 ret) (hX : va_X b L xs s s.heap) (hbl : b < s.heap.size) (ht : 6 * t + 6 ≤ L) (hL9 : L ≤ 384) (hG : ah_g s.heap D ca M z H) (hL : ah_L s.heap locs) (hw : wd s.heap.size M z τ) (hl : lv_has ls 8 (lw_lv s.heap.size b t)) (hc : cells ≤ 700 + 300 * t) (hs : slots ≤ 40000 + 600 * t) (kn : lw_N p l e s m args below meth c Q D ca b t) : W p l e room_1 s m args below meth c H locs cells slots Q (F0 m 283 ls []) := by
  have hl : lv_has ls 8 [(4, .int (nI (6 * t))), (3, .ref (s.heap.size + 68)), (2, .ref (s.heap.size + 53)), (1, .ref s.heap.size), (0, .ref b)] := hl
  have ht64 : t < 64 := by omega
  obtain ⟨v, M1, M2, τ', e1, e2, hw2⟩ := p_commands hw (xs (6 * t + 1)) (xs (6 * t + 2))
  obtain ⟨q1, eq1⟩ := ah_this e1
  obtain ⟨q2, eq2⟩ := ah_this e2
  refine lv_aload_n K.1 K.2.1 dL_law_283 rfl (lv_at hl 3 rfl) ?_
  refine lw_ld (t := t) (k := 1) K hX hbl hG hL hl (i4 := 0) (i0 := 4) rfl rfl (by decide) (by omega) hL9 dL_law_284 dL_law_285 dL_law_287 dL_law_288 dL_law_289 ?_
  refine lw_ld (t := t) (k := 2) K hX hbl hG hL hl (i4 := 0) (i0 := 4) rfl rfl (by decide) (by omega) hL9 dL_law_290 dL_law_291 dL_law_293 dL_law_294 dL_law_295 ?_
  refine ah_callV (n := 2) (As := [.int (xs (6 * t + 1)), .int (xs (6 * t + 2))]) (rest := []) K hG hL hl.1 eq1 rfl (ctX10_commands l s.heap D ca M z s.heap.size (xs (6 * t + 1)) (xs (6 * t + 2)) (v, M1) e1) (by decide +kernel) q_436 q_437 q_50 q_439 q_438 ⟨Nat.le_of_ble_eq_true rfl, Nat.le_of_ble_eq_true rfl⟩ rfl rfl (Nat.le_of_ble_eq_true rfl) ⟨by show cells + 0 ≤ 600128; omega, by show slots + 0 ≤ 7301098; omega⟩ dL_law_296 (fun H locs hG hL => ?_)
  refine lv_aload_n K.1 K.2.1 dL_law_299 rfl (lv_at hl 2 rfl) ?_
  refine lw_ld (t := t) (k := 1) K hX hbl hG hL hl (i4 := 0) (i0 := 4) rfl rfl (by decide) (by omega) hL9 dL_law_300 dL_law_301 dL_law_303 dL_law_304 dL_law_305 ?_
  refine lw_ld (t := t) (k := 2) K hX hbl hG hL hl (i4 := 0) (i0 := 4) rfl rfl (by decide) (by omega) hL9 dL_law_306 dL_law_307 dL_law_309 dL_law_310 dL_law_311 ?_
  refine ah_callV (n := 2) (As := [.int (xs (6 * t + 1)), .int (xs (6 * t + 2))]) (rest := [.int v]) K hG hL hl.1 eq2 rfl (ctX11_commands l s.heap D ca M1 z (s.heap.size + 53) (xs (6 * t + 1)) (xs (6 * t + 2)) (v, M2) e2) (by decide +kernel) q_1071 q_1072 q_54 q_1074 q_1073 ⟨Nat.le_of_ble_eq_true rfl, Nat.le_of_ble_eq_true rfl⟩ rfl rfl (Nat.le_of_ble_eq_true rfl) ⟨by show cells + 0 + 0 ≤ 600128; omega, by show slots + 0 + 0 ≤ 7301098; omega⟩ dL_law_312 (fun H locs hG hL => ?_)
  exact lv_icmp_eq (tgt := 1363) K.1 K.2.1 dL_law_315 (by decide) (fun _ => kn M2 z τ' _ _ _ _ _ hG hL hw2 hl (by show cells + 0 + 0 ≤ _; omega) (by show slots + 0 + 0 ≤ _; omega)) (fun h => absurd rfl h)
set_option maxRecDepth 100000 in
set_option maxHeartbeats 4000000 in
theorem lc_4 (K : ah_K p s m args meth c D ca "ShipsThatMeetLaw" code 8 ret) (hX : va_X b L xs s s.heap) (hbl : b < s.heap.size) (ht : 6 * t + 6 ≤ L) (hL9 : L ≤ 384) (hG : ah_g s.heap D ca M z H) (hL : ah_L s.heap locs) (hw : wd s.heap.size M z τ) (hl : lv_has ls 8 (lw_lv s.heap.size b t)) (hc : cells ≤ 700 + 300 * t) (hs : slots ≤ 40000 + 600 * t) (kn : lw_N p l e s m args below meth c Q D ca b t) : W p l e room_1 s m args below meth c H locs cells slots Q (F0 m 320 ls []) := by
  have hl : lv_has ls 8 [(4, .int (nI (6 * t))), (3, .ref (s.heap.size + 68)), (2, .ref (s.heap.size + 53)), (1, .ref s.heap.size), (0, .ref b)] := hl
  have ht64 : t < 64 := by omega
  obtain ⟨v, M1, M2, τ', e1, e2, hw2⟩ := p_meet hw (xs (6 * t + 1)) (xs (6 * t + 2))
  obtain ⟨q1, eq1⟩ := ah_this e1
  obtain ⟨q2, eq2⟩ := ah_this e2
  refine lv_aload_n K.1 K.2.1 dL_law_320 rfl (lv_at hl 3 rfl) ?_
  refine lw_ld (t := t) (k := 1) K hX hbl hG hL hl (i4 := 0) (i0 := 4) rfl rfl (by decide) (by omega) hL9 dL_law_321 dL_law_322 dL_law_324 dL_law_325 dL_law_326 ?_
  refine lw_ld (t := t) (k := 2) K hX hbl hG hL hl (i4 := 0) (i0 := 4) rfl rfl (by decide) (by omega) hL9 dL_law_327 dL_law_328 dL_law_330 dL_law_331 dL_law_332 ?_
  refine ah_callV (n := 2) (As := [.int (xs (6 * t + 1)), .int (xs (6 * t + 2))]) (rest := []) K hG hL hl.1 eq1 rfl (ctX10_meet l s.heap D ca M z s.heap.size (xs (6 * t + 1)) (xs (6 * t + 2)) (v, M1) e1) (by decide +kernel) q_444 q_445 q_50 q_447 q_446 ⟨Nat.le_of_ble_eq_true rfl, Nat.le_of_ble_eq_true rfl⟩ rfl rfl (Nat.le_of_ble_eq_true rfl) ⟨by show cells + 0 ≤ 600128; omega, by show slots + 0 ≤ 7301098; omega⟩ dL_law_333 (fun H locs hG hL => ?_)
  refine lv_aload_n K.1 K.2.1 dL_law_336 rfl (lv_at hl 2 rfl) ?_
  refine lw_ld (t := t) (k := 1) K hX hbl hG hL hl (i4 := 0) (i0 := 4) rfl rfl (by decide) (by omega) hL9 dL_law_337 dL_law_338 dL_law_340 dL_law_341 dL_law_342 ?_
  refine lw_ld (t := t) (k := 2) K hX hbl hG hL hl (i4 := 0) (i0 := 4) rfl rfl (by decide) (by omega) hL9 dL_law_343 dL_law_344 dL_law_346 dL_law_347 dL_law_348 ?_
  refine ah_callV (n := 2) (As := [.int (xs (6 * t + 1)), .int (xs (6 * t + 2))]) (rest := [.int v]) K hG hL hl.1 eq2 rfl (ctX11_meet l s.heap D ca M1 z (s.heap.size + 53) (xs (6 * t + 1)) (xs (6 * t + 2)) (v, M2) e2) (by decide +kernel) q_1079 q_1080 q_54 q_1082 q_1081 ⟨Nat.le_of_ble_eq_true rfl, Nat.le_of_ble_eq_true rfl⟩ rfl rfl (Nat.le_of_ble_eq_true rfl) ⟨by show cells + 0 + 0 ≤ 600128; omega, by show slots + 0 + 0 ≤ 7301098; omega⟩ dL_law_349 (fun H locs hG hL => ?_)
  exact lv_icmp_eq (tgt := 1363) K.1 K.2.1 dL_law_352 (by decide) (fun _ => kn M2 z τ' _ _ _ _ _ hG hL hw2 hl (by show cells + 0 + 0 ≤ _; omega) (by show slots + 0 + 0 ≤ _; omega)) (fun h => absurd rfl h)
set_option maxRecDepth 100000 in
set_option maxHeartbeats 4000000 in
theorem lc_5 (K : ah_K p s m args meth c D ca "ShipsThatMeetLaw" code 8 ret) (hX : va_X b L xs s s.heap) (hbl : b < s.heap.size) (ht : 6 * t + 6 ≤ L) (hL9 : L ≤ 384) (hG : ah_g s.heap D ca M z H) (hL : ah_L s.heap locs) (hw : wd s.heap.size M z τ) (hl : lv_has ls 8 (lw_lv s.heap.size b t)) (hc : cells ≤ 700 + 300 * t) (hs : slots ≤ 40000 + 600 * t) (kn : lw_N p l e s m args below meth c Q D ca b t) : W p l e room_1 s m args below meth c H locs cells slots Q (F0 m 357 ls []) := by
  have hl : lv_has ls 8 [(4, .int (nI (6 * t))), (3, .ref (s.heap.size + 68)), (2, .ref (s.heap.size + 53)), (1, .ref s.heap.size), (0, .ref b)] := hl
  have ht64 : t < 64 := by omega
  obtain ⟨v, M1, M2, τ', e1, e2, hw2⟩ := p_where hw (xs (6 * t + 1)) (xs (6 * t + 2))
  obtain ⟨q1, eq1⟩ := ah_this e1
  obtain ⟨q2, eq2⟩ := ah_this e2
  refine lv_aload_n K.1 K.2.1 dL_law_357 rfl (lv_at hl 3 rfl) ?_
  refine lw_ld (t := t) (k := 1) K hX hbl hG hL hl (i4 := 0) (i0 := 4) rfl rfl (by decide) (by omega) hL9 dL_law_358 dL_law_359 dL_law_361 dL_law_362 dL_law_363 ?_
  refine lw_ld (t := t) (k := 2) K hX hbl hG hL hl (i4 := 0) (i0 := 4) rfl rfl (by decide) (by omega) hL9 dL_law_364 dL_law_365 dL_law_367 dL_law_368 dL_law_369 ?_
  refine ah_callV (n := 2) (As := [.int (xs (6 * t + 1)), .int (xs (6 * t + 2))]) (rest := []) K hG hL hl.1 eq1 rfl (ctX10_where l s.heap D ca M z s.heap.size (xs (6 * t + 1)) (xs (6 * t + 2)) (v, M1) e1) (by decide +kernel) q_450 q_451 q_50 q_453 q_452 ⟨Nat.le_of_ble_eq_true rfl, Nat.le_of_ble_eq_true rfl⟩ rfl rfl (Nat.le_of_ble_eq_true rfl) ⟨by show cells + 0 ≤ 600128; omega, by show slots + 0 ≤ 7301098; omega⟩ dL_law_370 (fun H locs hG hL => ?_)
  refine lv_aload_n K.1 K.2.1 dL_law_373 rfl (lv_at hl 2 rfl) ?_
  refine lw_ld (t := t) (k := 1) K hX hbl hG hL hl (i4 := 0) (i0 := 4) rfl rfl (by decide) (by omega) hL9 dL_law_374 dL_law_375 dL_law_377 dL_law_378 dL_law_379 ?_
  refine lw_ld (t := t) (k := 2) K hX hbl hG hL hl (i4 := 0) (i0 := 4) rfl rfl (by decide) (by omega) hL9 dL_law_380 dL_law_381 dL_law_383 dL_law_384 dL_law_385 ?_
  refine ah_callV (n := 2) (As := [.int (xs (6 * t + 1)), .int (xs (6 * t + 2))]) (rest := [.int v]) K hG hL hl.1 eq2 rfl (ctX11_where l s.heap D ca M1 z (s.heap.size + 53) (xs (6 * t + 1)) (xs (6 * t + 2)) (v, M2) e2) (by decide +kernel) q_1083 q_1084 q_54 q_1086 q_1085 ⟨Nat.le_of_ble_eq_true rfl, Nat.le_of_ble_eq_true rfl⟩ rfl rfl (Nat.le_of_ble_eq_true rfl) ⟨by show cells + 0 + 0 ≤ 600128; omega, by show slots + 0 + 0 ≤ 7301098; omega⟩ dL_law_386 (fun H locs hG hL => ?_)
  exact lv_icmp_eq (tgt := 1363) K.1 K.2.1 dL_law_389 (by decide) (fun _ => kn M2 z τ' _ _ _ _ _ hG hL hw2 hl (by show cells + 0 + 0 ≤ _; omega) (by show slots + 0 + 0 ≤ _; omega)) (fun h => absurd rfl h)
set_option maxRecDepth 100000 in
set_option maxHeartbeats 4000000 in
theorem lc_6 (K : ah_K p s m args meth c D ca "ShipsThatMeetLaw" code 8 ret) (hX : va_X b L xs s s.heap) (hbl : b < s.heap.size) (ht : 6 * t + 6 ≤ L) (hL9 : L ≤ 384) (hG : ah_g s.heap D ca M z H) (hL : ah_L s.heap locs) (hw : wd s.heap.size M z τ) (hl : lv_has ls 8 (lw_lv s.heap.size b t)) (hc : cells ≤ 700 + 300 * t) (hs : slots ≤ 40000 + 600 * t) (kn : lw_N p l e s m args below meth c Q D ca b t) : W p l e room_1 s m args below meth c H locs cells slots Q (F0 m 394 ls []) := by
  have hl : lv_has ls 8 [(4, .int (nI (6 * t))), (3, .ref (s.heap.size + 68)), (2, .ref (s.heap.size + 53)), (1, .ref s.heap.size), (0, .ref b)] := hl
  have ht64 : t < 64 := by omega
  obtain ⟨v, e1, e2⟩ := p_can hw (xs (6 * t + 1)) (xs (6 * t + 2))
  obtain ⟨q1, eq1⟩ := ah_this e1
  obtain ⟨q2, eq2⟩ := ah_this e2
  refine lv_aload_n K.1 K.2.1 dL_law_394 rfl (lv_at hl 3 rfl) ?_
  refine lw_ld (t := t) (k := 1) K hX hbl hG hL hl (i4 := 0) (i0 := 4) rfl rfl (by decide) (by omega) hL9 dL_law_395 dL_law_396 dL_law_398 dL_law_399 dL_law_400 ?_
  refine lw_ld (t := t) (k := 2) K hX hbl hG hL hl (i4 := 0) (i0 := 4) rfl rfl (by decide) (by omega) hL9 dL_law_401 dL_law_402 dL_law_404 dL_law_405 dL_law_406 ?_
  refine ah_callV (n := 2) (As := [.int (xs (6 * t + 1)), .int (xs (6 * t + 2))]) (rest := []) K hG hL hl.1 eq1 rfl (ctX10_can l s.heap D ca M z s.heap.size (xs (6 * t + 1)) (xs (6 * t + 2)) v e1) (by decide +kernel) q_482 q_483 q_50 q_485 q_484 ⟨Nat.le_of_ble_eq_true rfl, Nat.le_of_ble_eq_true rfl⟩ rfl rfl (Nat.le_of_ble_eq_true rfl) ⟨by show cells + 0 ≤ 600128; omega, by show slots + 0 ≤ 7301098; omega⟩ dL_law_407 (fun H locs hG hL => ?_)
  refine lv_aload_n K.1 K.2.1 dL_law_410 rfl (lv_at hl 2 rfl) ?_
  refine lw_ld (t := t) (k := 1) K hX hbl hG hL hl (i4 := 0) (i0 := 4) rfl rfl (by decide) (by omega) hL9 dL_law_411 dL_law_412 dL_law_414 dL_law_415 dL_law_416 ?_
  refine lw_ld (t := t) (k := 2) K hX hbl hG hL hl (i4 := 0) (i0 := 4) rfl rfl (by decide) (by omega) hL9 dL_law_417 dL_law_418 dL_law_420 dL_law_421 dL_law_422 ?_
  refine ah_callV (n := 2) (As := [.int (xs (6 * t + 1)), .int (xs (6 * t + 2))]) (rest := [.int v]) K hG hL hl.1 eq2 rfl (ctX11_can l s.heap D ca M z (s.heap.size + 53) (xs (6 * t + 1)) (xs (6 * t + 2)) v e2) (by decide +kernel) q_1115 q_1116 q_54 q_1118 q_1117 ⟨Nat.le_of_ble_eq_true rfl, Nat.le_of_ble_eq_true rfl⟩ rfl rfl (Nat.le_of_ble_eq_true rfl) ⟨by show cells + 0 + 0 ≤ 600128; omega, by show slots + 0 + 0 ≤ 7301098; omega⟩ dL_law_423 (fun H locs hG hL => ?_)
  exact lv_icmp_eq (tgt := 1363) K.1 K.2.1 dL_law_426 (by decide) (fun _ => kn M z τ _ _ _ _ _ hG hL hw hl (by show cells + 0 + 0 ≤ _; omega) (by show slots + 0 + 0 ≤ _; omega)) (fun h => absurd rfl h)
set_option maxRecDepth 100000 in
set_option maxHeartbeats 4000000 in
theorem lc_7 (K : ah_K p s m args meth c D ca "ShipsThatMeetLaw" code 8 ret) (hX : va_X b L xs s s.heap) (hbl : b < s.heap.size) (ht : 6 * t + 6 ≤ L) (hL9 : L ≤ 384) (hG : ah_g s.heap D ca M z H) (hL : ah_L s.heap locs) (hw : wd s.heap.size M z τ) (hl : lv_has ls 8 (lw_lv s.heap.size b t)) (hc : cells ≤ 700 + 300 * t) (hs : slots ≤ 40000 + 600 * t) (kn : lw_N p l e s m args below meth c Q D ca b t) : W p l e room_1 s m args below meth c H locs cells slots Q (F0 m 431 ls []) := by
  have hl : lv_has ls 8 [(4, .int (nI (6 * t))), (3, .ref (s.heap.size + 68)), (2, .ref (s.heap.size + 53)), (1, .ref s.heap.size), (0, .ref b)] := hl
  have ht64 : t < 64 := by omega
  obtain ⟨v, e1, e2⟩ := p_soonest hw (xs (6 * t + 1)) (xs (6 * t + 2)) (xs (6 * t + 3))
  obtain ⟨q1, eq1⟩ := ah_this e1
  obtain ⟨q2, eq2⟩ := ah_this e2
  refine lv_aload_n K.1 K.2.1 dL_law_431 rfl (lv_at hl 3 rfl) ?_
  refine lw_ld (t := t) (k := 1) K hX hbl hG hL hl (i4 := 0) (i0 := 4) rfl rfl (by decide) (by omega) hL9 dL_law_432 dL_law_433 dL_law_435 dL_law_436 dL_law_437 ?_
  refine lw_ld (t := t) (k := 2) K hX hbl hG hL hl (i4 := 0) (i0 := 4) rfl rfl (by decide) (by omega) hL9 dL_law_438 dL_law_439 dL_law_441 dL_law_442 dL_law_443 ?_
  refine lw_ld (t := t) (k := 3) K hX hbl hG hL hl (i4 := 0) (i0 := 4) rfl rfl (by decide) (by omega) hL9 dL_law_444 dL_law_445 dL_law_447 dL_law_448 dL_law_449 ?_
  refine ah_callV (n := 3) (As := [.int (xs (6 * t + 1)), .int (xs (6 * t + 2)), .int (xs (6 * t + 3))]) (rest := []) K hG hL hl.1 eq1 rfl (ctX10_soonest l s.heap D ca M z s.heap.size (xs (6 * t + 1)) (xs (6 * t + 2)) (xs (6 * t + 3)) v e1) (by decide +kernel) q_496 q_497 q_50 q_499 q_498 ⟨Nat.le_of_ble_eq_true rfl, Nat.le_of_ble_eq_true rfl⟩ rfl rfl (Nat.le_of_ble_eq_true rfl) ⟨by show cells + 0 ≤ 600128; omega, by show slots + 0 ≤ 7301098; omega⟩ dL_law_450 (fun H locs hG hL => ?_)
  refine lv_aload_n K.1 K.2.1 dL_law_453 rfl (lv_at hl 2 rfl) ?_
  refine lw_ld (t := t) (k := 1) K hX hbl hG hL hl (i4 := 0) (i0 := 4) rfl rfl (by decide) (by omega) hL9 dL_law_454 dL_law_455 dL_law_457 dL_law_458 dL_law_459 ?_
  refine lw_ld (t := t) (k := 2) K hX hbl hG hL hl (i4 := 0) (i0 := 4) rfl rfl (by decide) (by omega) hL9 dL_law_460 dL_law_461 dL_law_463 dL_law_464 dL_law_465 ?_
  refine lw_ld (t := t) (k := 3) K hX hbl hG hL hl (i4 := 0) (i0 := 4) rfl rfl (by decide) (by omega) hL9 dL_law_466 dL_law_467 dL_law_469 dL_law_470 dL_law_471 ?_
  refine ah_callV (n := 3) (As := [.int (xs (6 * t + 1)), .int (xs (6 * t + 2)), .int (xs (6 * t + 3))]) (rest := [.int v]) K hG hL hl.1 eq2 rfl (ctX11_soonest l s.heap D ca M z (s.heap.size + 53) (xs (6 * t + 1)) (xs (6 * t + 2)) (xs (6 * t + 3)) v e2) (by decide +kernel) q_1123 q_1124 q_54 q_1126 q_1125 ⟨Nat.le_of_ble_eq_true rfl, Nat.le_of_ble_eq_true rfl⟩ rfl rfl (Nat.le_of_ble_eq_true rfl) ⟨by show cells + 0 + 0 ≤ 600128; omega, by show slots + 0 + 0 ≤ 7301098; omega⟩ dL_law_472 (fun H locs hG hL => ?_)
  exact lv_icmp_eq (tgt := 1363) K.1 K.2.1 dL_law_475 (by decide) (fun _ => kn M z τ _ _ _ _ _ hG hL hw hl (by show cells + 0 + 0 ≤ _; omega) (by show slots + 0 + 0 ≤ _; omega)) (fun h => absurd rfl h)
set_option maxRecDepth 100000 in
set_option maxHeartbeats 4000000 in
theorem lc_8 (K : ah_K p s m args meth c D ca "ShipsThatMeetLaw" code 8 ret) (hX : va_X b L xs s s.heap) (hbl : b < s.heap.size) (ht : 6 * t + 6 ≤ L) (hL9 : L ≤ 384) (hG : ah_g s.heap D ca M z H) (hL : ah_L s.heap locs) (hw : wd s.heap.size M z τ) (hl : lv_has ls 8 (lw_lv s.heap.size b t)) (hc : cells ≤ 700 + 300 * t) (hs : slots ≤ 40000 + 600 * t) (kn : lw_N p l e s m args below meth c Q D ca b t) : W p l e room_1 s m args below meth c H locs cells slots Q (F0 m 480 ls []) := by
  have hl : lv_has ls 8 [(4, .int (nI (6 * t))), (3, .ref (s.heap.size + 68)), (2, .ref (s.heap.size + 53)), (1, .ref s.heap.size), (0, .ref b)] := hl
  have ht64 : t < 64 := by omega
  obtain ⟨v, M1, M2, τ', e1, e2, hw2⟩ := p_likely hw (xs (6 * t + 1)) (xs (6 * t + 2)) (xs (6 * t + 3)) (xs (6 * t + 4))
  obtain ⟨q1, eq1⟩ := ah_this e1
  obtain ⟨q2, eq2⟩ := ah_this e2
  refine lv_aload_n K.1 K.2.1 dL_law_480 rfl (lv_at hl 3 rfl) ?_
  refine lw_ld (t := t) (k := 1) K hX hbl hG hL hl (i4 := 0) (i0 := 4) rfl rfl (by decide) (by omega) hL9 dL_law_481 dL_law_482 dL_law_484 dL_law_485 dL_law_486 ?_
  refine lw_ld (t := t) (k := 2) K hX hbl hG hL hl (i4 := 0) (i0 := 4) rfl rfl (by decide) (by omega) hL9 dL_law_487 dL_law_488 dL_law_490 dL_law_491 dL_law_492 ?_
  refine lw_ld (t := t) (k := 3) K hX hbl hG hL hl (i4 := 0) (i0 := 4) rfl rfl (by decide) (by omega) hL9 dL_law_493 dL_law_494 dL_law_496 dL_law_497 dL_law_498 ?_
  refine lw_ld (t := t) (k := 4) K hX hbl hG hL hl (i4 := 0) (i0 := 4) rfl rfl (by decide) (by omega) hL9 dL_law_499 dL_law_500 dL_law_502 dL_law_503 dL_law_504 ?_
  refine ah_callV (n := 4) (As := [.int (xs (6 * t + 1)), .int (xs (6 * t + 2)), .int (xs (6 * t + 3)), .int (xs (6 * t + 4))]) (rest := []) K hG hL hl.1 eq1 rfl (ctX10_likely l s.heap D ca M z s.heap.size (xs (6 * t + 1)) (xs (6 * t + 2)) (xs (6 * t + 3)) (xs (6 * t + 4)) (v, M1) e1) (by decide +kernel) q_500 q_501 q_50 q_503 q_502 ⟨Nat.le_of_ble_eq_true rfl, Nat.le_of_ble_eq_true rfl⟩ rfl rfl (Nat.le_of_ble_eq_true rfl) ⟨by show cells + 0 ≤ 600128; omega, by show slots + 0 ≤ 7301098; omega⟩ dL_law_505 (fun H locs hG hL => ?_)
  refine lv_aload_n K.1 K.2.1 dL_law_508 rfl (lv_at hl 2 rfl) ?_
  refine lw_ld (t := t) (k := 1) K hX hbl hG hL hl (i4 := 0) (i0 := 4) rfl rfl (by decide) (by omega) hL9 dL_law_509 dL_law_510 dL_law_512 dL_law_513 dL_law_514 ?_
  refine lw_ld (t := t) (k := 2) K hX hbl hG hL hl (i4 := 0) (i0 := 4) rfl rfl (by decide) (by omega) hL9 dL_law_515 dL_law_516 dL_law_518 dL_law_519 dL_law_520 ?_
  refine lw_ld (t := t) (k := 3) K hX hbl hG hL hl (i4 := 0) (i0 := 4) rfl rfl (by decide) (by omega) hL9 dL_law_521 dL_law_522 dL_law_524 dL_law_525 dL_law_526 ?_
  refine lw_ld (t := t) (k := 4) K hX hbl hG hL hl (i4 := 0) (i0 := 4) rfl rfl (by decide) (by omega) hL9 dL_law_527 dL_law_528 dL_law_530 dL_law_531 dL_law_532 ?_
  refine ah_callV (n := 4) (As := [.int (xs (6 * t + 1)), .int (xs (6 * t + 2)), .int (xs (6 * t + 3)), .int (xs (6 * t + 4))]) (rest := [.long v]) K hG hL hl.1 eq2 rfl (ctX11_likely l s.heap D ca M1 z (s.heap.size + 53) (xs (6 * t + 1)) (xs (6 * t + 2)) (xs (6 * t + 3)) (xs (6 * t + 4)) (v, M2) e2) (by decide +kernel) q_1127 q_1128 q_54 q_1130 q_1129 ⟨Nat.le_of_ble_eq_true rfl, Nat.le_of_ble_eq_true rfl⟩ rfl rfl (Nat.le_of_ble_eq_true rfl) ⟨by show cells + 0 + 0 ≤ 600128; omega, by show slots + 0 + 0 ≤ 7301098; omega⟩ dL_law_533 (fun H locs hG hL => ?_)
  refine W.lcmp K.1 K.2.1 dL_law_536 ?_
  rw [lw_cmp]
  exact lv_if_eq (tgt := 1363) K.1 K.2.1 dL_law_537 (by decide) (fun _ => kn M2 z τ' _ _ _ _ _ hG hL hw2 hl (by show cells + 0 + 0 ≤ _; omega) (by show slots + 0 + 0 ≤ _; omega)) (fun h => absurd rfl h)
set_option maxRecDepth 100000 in
set_option maxHeartbeats 4000000 in
theorem lc_9 (K : ah_K p s m args meth c D ca "ShipsThatMeetLaw" code 8 ret) (hX : va_X b L xs s s.heap) (hbl : b < s.heap.size) (ht : 6 * t + 6 ≤ L) (hL9 : L ≤ 384) (hG : ah_g s.heap D ca M z H) (hL : ah_L s.heap locs) (hw : wd s.heap.size M z τ) (hl : lv_has ls 8 (lw_lv s.heap.size b t)) (hc : cells ≤ 700 + 300 * t) (hs : slots ≤ 40000 + 600 * t) (kn : lw_N p l e s m args below meth c Q D ca b t) : W p l e room_1 s m args below meth c H locs cells slots Q (F0 m 542 ls []) := by
  have hl : lv_has ls 8 [(4, .int (nI (6 * t))), (3, .ref (s.heap.size + 68)), (2, .ref (s.heap.size + 53)), (1, .ref s.heap.size), (0, .ref b)] := hl
  have ht64 : t < 64 := by omega
  obtain ⟨v, M1, M2, τ', e1, e2, hw2⟩ := p_fewest hw (xs (6 * t + 1)) (xs (6 * t + 2)) (xs (6 * t + 3))
  obtain ⟨q1, eq1⟩ := ah_this e1
  obtain ⟨q2, eq2⟩ := ah_this e2
  refine lv_aload_n K.1 K.2.1 dL_law_542 rfl (lv_at hl 3 rfl) ?_
  refine lw_ld (t := t) (k := 1) K hX hbl hG hL hl (i4 := 0) (i0 := 4) rfl rfl (by decide) (by omega) hL9 dL_law_543 dL_law_544 dL_law_546 dL_law_547 dL_law_548 ?_
  refine lw_ld (t := t) (k := 2) K hX hbl hG hL hl (i4 := 0) (i0 := 4) rfl rfl (by decide) (by omega) hL9 dL_law_549 dL_law_550 dL_law_552 dL_law_553 dL_law_554 ?_
  refine lw_ld (t := t) (k := 3) K hX hbl hG hL hl (i4 := 0) (i0 := 4) rfl rfl (by decide) (by omega) hL9 dL_law_555 dL_law_556 dL_law_558 dL_law_559 dL_law_560 ?_
  refine ah_callV (n := 3) (As := [.int (xs (6 * t + 1)), .int (xs (6 * t + 2)), .int (xs (6 * t + 3))]) (rest := []) K hG hL hl.1 eq1 rfl (ctX10_fewest l s.heap D ca M z s.heap.size (xs (6 * t + 1)) (xs (6 * t + 2)) (xs (6 * t + 3)) (v, M1) e1) (by decide +kernel) q_517 q_518 q_50 q_520 q_519 ⟨Nat.le_of_ble_eq_true rfl, Nat.le_of_ble_eq_true rfl⟩ rfl rfl (Nat.le_of_ble_eq_true rfl) ⟨by show cells + 0 ≤ 600128; omega, by show slots + 0 ≤ 7301098; omega⟩ dL_law_561 (fun H locs hG hL => ?_)
  refine lv_aload_n K.1 K.2.1 dL_law_564 rfl (lv_at hl 2 rfl) ?_
  refine lw_ld (t := t) (k := 1) K hX hbl hG hL hl (i4 := 0) (i0 := 4) rfl rfl (by decide) (by omega) hL9 dL_law_565 dL_law_566 dL_law_568 dL_law_569 dL_law_570 ?_
  refine lw_ld (t := t) (k := 2) K hX hbl hG hL hl (i4 := 0) (i0 := 4) rfl rfl (by decide) (by omega) hL9 dL_law_571 dL_law_572 dL_law_574 dL_law_575 dL_law_576 ?_
  refine lw_ld (t := t) (k := 3) K hX hbl hG hL hl (i4 := 0) (i0 := 4) rfl rfl (by decide) (by omega) hL9 dL_law_577 dL_law_578 dL_law_580 dL_law_581 dL_law_582 ?_
  refine ah_callV (n := 3) (As := [.int (xs (6 * t + 1)), .int (xs (6 * t + 2)), .int (xs (6 * t + 3))]) (rest := [.int v]) K hG hL hl.1 eq2 rfl (ctX11_fewest l s.heap D ca M1 z (s.heap.size + 53) (xs (6 * t + 1)) (xs (6 * t + 2)) (xs (6 * t + 3)) (v, M2) e2) (by decide +kernel) q_1135 q_1136 q_54 q_1138 q_1137 ⟨Nat.le_of_ble_eq_true rfl, Nat.le_of_ble_eq_true rfl⟩ rfl rfl (Nat.le_of_ble_eq_true rfl) ⟨by show cells + 0 + 0 ≤ 600128; omega, by show slots + 0 + 0 ≤ 7301098; omega⟩ dL_law_583 (fun H locs hG hL => ?_)
  exact lv_icmp_eq (tgt := 1363) K.1 K.2.1 dL_law_586 (by decide) (fun _ => kn M2 z τ' _ _ _ _ _ hG hL hw2 hl (by show cells + 0 + 0 ≤ _; omega) (by show slots + 0 + 0 ≤ _; omega)) (fun h => absurd rfl h)
set_option maxRecDepth 100000 in
set_option maxHeartbeats 4000000 in
theorem lc_10 (K : ah_K p s m args meth c D ca "ShipsThatMeetLaw" code 8 ret) (hX : va_X b L xs s s.heap) (hbl : b < s.heap.size) (ht : 6 * t + 6 ≤ L) (hL9 : L ≤ 384) (hG : ah_g s.heap D ca M z H) (hL : ah_L s.heap locs) (hw : wd s.heap.size M z τ) (hl : lv_has ls 8 (lw_lv s.heap.size b t)) (hc : cells ≤ 700 + 300 * t) (hs : slots ≤ 40000 + 600 * t) (kn : lw_N p l e s m args below meth c Q D ca b t) : W p l e room_1 s m args below meth c H locs cells slots Q (F0 m 591 ls []) := by
  have hl : lv_has ls 8 [(4, .int (nI (6 * t))), (3, .ref (s.heap.size + 68)), (2, .ref (s.heap.size + 53)), (1, .ref s.heap.size), (0, .ref b)] := hl
  have ht64 : t < 64 := by omega
  obtain ⟨v, M1, M2, τ', e1, e2, hw2⟩ := p_crews hw (xs (6 * t + 1))
  obtain ⟨q1, eq1⟩ := ah_this e1
  obtain ⟨q2, eq2⟩ := ah_this e2
  refine lv_aload_n K.1 K.2.1 dL_law_591 rfl (lv_at hl 3 rfl) ?_
  refine lw_ld (t := t) (k := 1) K hX hbl hG hL hl (i4 := 0) (i0 := 4) rfl rfl (by decide) (by omega) hL9 dL_law_592 dL_law_593 dL_law_595 dL_law_596 dL_law_597 ?_
  refine ah_callV (n := 1) (As := [.int (xs (6 * t + 1))]) (rest := []) K hG hL hl.1 eq1 rfl (ctX10_crews l s.heap D ca M z s.heap.size (xs (6 * t + 1)) (v, M1) e1) (by decide +kernel) q_565 q_566 q_50 q_568 q_567 ⟨Nat.le_of_ble_eq_true rfl, Nat.le_of_ble_eq_true rfl⟩ rfl rfl (Nat.le_of_ble_eq_true rfl) ⟨by show cells + 0 ≤ 600128; omega, by show slots + 0 ≤ 7301098; omega⟩ dL_law_598 (fun H locs hG hL => ?_)
  refine lv_aload_n K.1 K.2.1 dL_law_601 rfl (lv_at hl 2 rfl) ?_
  refine lw_ld (t := t) (k := 1) K hX hbl hG hL hl (i4 := 0) (i0 := 4) rfl rfl (by decide) (by omega) hL9 dL_law_602 dL_law_603 dL_law_605 dL_law_606 dL_law_607 ?_
  refine ah_callV (n := 1) (As := [.int (xs (6 * t + 1))]) (rest := [.int v]) K hG hL hl.1 eq2 rfl (ctX11_crews l s.heap D ca M1 z (s.heap.size + 53) (xs (6 * t + 1)) (v, M2) e2) (by decide +kernel) q_1159 q_1160 q_54 q_1162 q_1161 ⟨Nat.le_of_ble_eq_true rfl, Nat.le_of_ble_eq_true rfl⟩ rfl rfl (Nat.le_of_ble_eq_true rfl) ⟨by show cells + 0 + 0 ≤ 600128; omega, by show slots + 0 + 0 ≤ 7301098; omega⟩ dL_law_608 (fun H locs hG hL => ?_)
  exact lv_icmp_eq (tgt := 1363) K.1 K.2.1 dL_law_611 (by decide) (fun _ => kn M2 z τ' _ _ _ _ _ hG hL hw2 hl (by show cells + 0 + 0 ≤ _; omega) (by show slots + 0 + 0 ≤ _; omega)) (fun h => absurd rfl h)
end CASES
