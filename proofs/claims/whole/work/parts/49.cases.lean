/-! the cases of the law, one by one -/
section LC
variable {p : Program} {l : Launch} {e : Env} {s : State} {m : MethodId} {below : List Frame} {meth : Method} {c : Code} {H : Heap} {locs : List Loc} {cells slots : Nat} {Q : State → Prop}
variable {b L : Nat} {xs : Nat → Int32} {D : va_G} {cI cZ cR cJ : ClassId} {aC aM : Nat → Nat} {ao s1 s2 : Nat} {i : Nat} {la : Array Slot} {σ τ : Sg} {g : Nat → Int64}
/-- behind a case: the loop goes on -/
def ll_N (p : Program) (l : Launch) (e : Env) (s : State) (m : MethodId) (below : List Frame) (meth : Method) (c : Code) (Q : State → Prop) (b : Nat) (D : va_G) (cI cZ cR cJ : ClassId) (aC aM : Nat → Nat) (ao i n cells slots : Nat) : Prop :=
  ∀ (σ' τ' : Sg) (g' : Nat → Int64) (H1 : Heap) (locs1 : List Loc) (la1 : Array Slot), RR (n + 1) σ' τ' → ll_H D cI cZ cR cJ aC aM ao s H1 locs1 σ' τ' g' → ll_L b i aC aM ao la1 → W p l e room_1 s m #[.ref b] below meth c H1 locs1 (cells + 1) (slots + 6) Q (F0 m 958 la1 [])
theorem ll_context (C : ll_Cx p l s m meth c b L xs D cI cZ cR cJ aC aM ao s1 s2) (hH : ll_H D cI cZ cR cJ aC aM ao s H locs σ τ g) {n : Nat} (hR : RR n σ τ) (hn : n ≤ 600) (hl : ll_L b i aC aM ao la) (hi : i + 3 < L) (hcs : cells + 1 ≤ 601024 ∧ slots + 6 ≤ 7293034) (nx : ll_N p l e s m below meth c Q b D cI cZ cR cJ aC aM ao i n cells slots) :
    W p l e room_1 s m #[.ref b] below meth c H locs cells slots Q (F0 m 160 la []) := by
  obtain ⟨⟨hx, hb, hr, hml, hown, hlocks, hlt⟩, -⟩ := id C
  refine lv_aload_n hx hb dL_law_160 rfl (lv_at hl 1 rfl) ?_
  refine kl_ld C hH.2.2.2 hl (k := 1) (j := 1) rfl (by omega) dL_law_161 dL_law_162 dL_law_164 dL_law_165 dL_law_166 ?_
  refine kl_C C hH (As := [.int (xs (i + 1))]) (rest := []) c_X9_context lk_L_19 (by decide) rfl rfl ⟨_, rfl, hR.1⟩ (show 0 ≤ 8 by decide) hl.1 dL_law_167 ⟨by omega, by omega⟩ (fun r σ' H1 locs1 hp hH => ?_)
  refine lv_aload_n hx hb dL_law_170 rfl (lv_at hl 2 rfl) ?_
  refine kl_ld C hH.2.2.2 hl (k := 1) (j := 1) rfl (by omega) dL_law_171 dL_law_172 dL_law_174 dL_law_175 dL_law_176 ?_
  refine kl_M C hH (As := [.int (xs (i + 1))]) (rest := [.int r]) c_X10_context lk_L_23 (by decide) rfl rfl ⟨_, rfl, hR.2.1⟩ (show 1 ≤ 8 by decide) hl.1 dL_law_177 ⟨by omega, by omega⟩ (fun r' τ' H2 locs2 hq hH => ?_)
  have hE := pp_context hR hp hq
  refine lv_icmp_eq (tgt := 958) hx hb dL_law_180 rfl (fun _ => ?_) (fun hne => absurd hE.2 hne)
  exact W.widen (k := cells + 1) (n := slots + 6) (by omega) (by omega) (nx _ _ _ _ _ _ (RR_le hE.1 (by omega)) hH hl)
theorem ll_bind (C : ll_Cx p l s m meth c b L xs D cI cZ cR cJ aC aM ao s1 s2) (hH : ll_H D cI cZ cR cJ aC aM ao s H locs σ τ g) {n : Nat} (hR : RR n σ τ) (hn : n ≤ 600) (hl : ll_L b i aC aM ao la) (hi : i + 3 < L) (hcs : cells + 1 ≤ 601024 ∧ slots + 6 ≤ 7293034) (nx : ll_N p l e s m below meth c Q b D cI cZ cR cJ aC aM ao i n cells slots) :
    W p l e room_1 s m #[.ref b] below meth c H locs cells slots Q (F0 m 185 la []) := by
  obtain ⟨⟨hx, hb, hr, hml, hown, hlocks, hlt⟩, -⟩ := id C
  refine lv_aload_n hx hb dL_law_185 rfl (lv_at hl 1 rfl) ?_
  refine kl_ld C hH.2.2.2 hl (k := 1) (j := 1) rfl (by omega) dL_law_186 dL_law_187 dL_law_189 dL_law_190 dL_law_191 ?_
  refine kl_ld C hH.2.2.2 hl (k := 2) (j := 2) rfl (by omega) dL_law_192 dL_law_193 dL_law_195 dL_law_196 dL_law_197 ?_
  refine kl_ld C hH.2.2.2 hl (k := 3) (j := 3) rfl (by omega) dL_law_198 dL_law_199 dL_law_201 dL_law_202 dL_law_203 ?_
  refine kl_C C hH (As := [.int (xs (i + 1)), .int (xs (i + 2)), .int (xs (i + 3))]) (rest := []) c_X9_bind lk_L_24 (by decide) rfl rfl ⟨_, _, _, rfl, hR.1⟩ (show 0 ≤ 8 by decide) hl.1 dL_law_204 ⟨by omega, by omega⟩ (fun r σ' H1 locs1 hp hH => ?_)
  refine lv_aload_n hx hb dL_law_207 rfl (lv_at hl 2 rfl) ?_
  refine kl_ld C hH.2.2.2 hl (k := 1) (j := 1) rfl (by omega) dL_law_208 dL_law_209 dL_law_211 dL_law_212 dL_law_213 ?_
  refine kl_ld C hH.2.2.2 hl (k := 2) (j := 2) rfl (by omega) dL_law_214 dL_law_215 dL_law_217 dL_law_218 dL_law_219 ?_
  refine kl_ld C hH.2.2.2 hl (k := 3) (j := 3) rfl (by omega) dL_law_220 dL_law_221 dL_law_223 dL_law_224 dL_law_225 ?_
  refine kl_M C hH (As := [.int (xs (i + 1)), .int (xs (i + 2)), .int (xs (i + 3))]) (rest := [.int r]) c_X10_bind lk_L_28 (by decide) rfl rfl ⟨_, _, _, rfl, hR.2.1⟩ (show 1 ≤ 8 by decide) hl.1 dL_law_226 ⟨by omega, by omega⟩ (fun r' τ' H2 locs2 hq hH => ?_)
  have hE := pp_bind hR hp hq
  refine lv_icmp_eq (tgt := 958) hx hb dL_law_229 rfl (fun _ => ?_) (fun hne => absurd hE.2 hne)
  exact W.widen (k := cells + 1) (n := slots + 6) (by omega) (by omega) (nx _ _ _ _ _ _ (RR_le hE.1 (by omega)) hH hl)
theorem ll_has (C : ll_Cx p l s m meth c b L xs D cI cZ cR cJ aC aM ao s1 s2) (hH : ll_H D cI cZ cR cJ aC aM ao s H locs σ τ g) {n : Nat} (hR : RR n σ τ) (hn : n ≤ 600) (hl : ll_L b i aC aM ao la) (hi : i + 3 < L) (hcs : cells + 1 ≤ 601024 ∧ slots + 6 ≤ 7293034) (nx : ll_N p l e s m below meth c Q b D cI cZ cR cJ aC aM ao i n cells slots) :
    W p l e room_1 s m #[.ref b] below meth c H locs cells slots Q (F0 m 234 la []) := by
  obtain ⟨⟨hx, hb, hr, hml, hown, hlocks, hlt⟩, -⟩ := id C
  refine lv_aload_n hx hb dL_law_234 rfl (lv_at hl 1 rfl) ?_
  refine kl_ld C hH.2.2.2 hl (k := 1) (j := 1) rfl (by omega) dL_law_235 dL_law_236 dL_law_238 dL_law_239 dL_law_240 ?_
  refine kl_ld C hH.2.2.2 hl (k := 2) (j := 2) rfl (by omega) dL_law_241 dL_law_242 dL_law_244 dL_law_245 dL_law_246 ?_
  refine kl_C C hH (As := [.int (xs (i + 1)), .int (xs (i + 2))]) (rest := []) c_X9_has lk_L_29 (by decide) rfl rfl ⟨_, _, rfl, hR.1⟩ (show 0 ≤ 8 by decide) hl.1 dL_law_247 ⟨by omega, by omega⟩ (fun r σ' H1 locs1 hp hH => ?_)
  refine lv_aload_n hx hb dL_law_250 rfl (lv_at hl 2 rfl) ?_
  refine kl_ld C hH.2.2.2 hl (k := 1) (j := 1) rfl (by omega) dL_law_251 dL_law_252 dL_law_254 dL_law_255 dL_law_256 ?_
  refine kl_ld C hH.2.2.2 hl (k := 2) (j := 2) rfl (by omega) dL_law_257 dL_law_258 dL_law_260 dL_law_261 dL_law_262 ?_
  refine kl_M C hH (As := [.int (xs (i + 1)), .int (xs (i + 2))]) (rest := [.int r]) c_X10_has lk_L_32 (by decide) rfl rfl ⟨_, _, rfl, hR.2.1⟩ (show 1 ≤ 8 by decide) hl.1 dL_law_263 ⟨by omega, by omega⟩ (fun r' τ' H2 locs2 hq hH => ?_)
  have hE := pp_has hR hp hq
  refine lv_icmp_eq (tgt := 958) hx hb dL_law_266 rfl (fun _ => ?_) (fun hne => absurd hE.2 hne)
  exact W.widen (k := cells + 1) (n := slots + 6) (by omega) (by omega) (nx _ _ _ _ _ _ (RR_le hE.1 (by omega)) hH hl)
theorem ll_means (C : ll_Cx p l s m meth c b L xs D cI cZ cR cJ aC aM ao s1 s2) (hH : ll_H D cI cZ cR cJ aC aM ao s H locs σ τ g) {n : Nat} (hR : RR n σ τ) (hn : n ≤ 600) (hl : ll_L b i aC aM ao la) (hi : i + 3 < L) (hcs : cells + 1 ≤ 601024 ∧ slots + 6 ≤ 7293034) (nx : ll_N p l e s m below meth c Q b D cI cZ cR cJ aC aM ao i n cells slots) :
    W p l e room_1 s m #[.ref b] below meth c H locs cells slots Q (F0 m 271 la []) := by
  obtain ⟨⟨hx, hb, hr, hml, hown, hlocks, hlt⟩, -⟩ := id C
  refine lv_aload_n hx hb dL_law_271 rfl (lv_at hl 1 rfl) ?_
  refine kl_ld C hH.2.2.2 hl (k := 1) (j := 1) rfl (by omega) dL_law_272 dL_law_273 dL_law_275 dL_law_276 dL_law_277 ?_
  refine kl_ld C hH.2.2.2 hl (k := 2) (j := 2) rfl (by omega) dL_law_278 dL_law_279 dL_law_281 dL_law_282 dL_law_283 ?_
  refine kl_C C hH (As := [.int (xs (i + 1)), .int (xs (i + 2))]) (rest := []) c_X9_means lk_L_33 (by decide) rfl rfl ⟨_, _, rfl, hR.1⟩ (show 0 ≤ 8 by decide) hl.1 dL_law_284 ⟨by omega, by omega⟩ (fun r σ' H1 locs1 hp hH => ?_)
  refine lv_aload_n hx hb dL_law_287 rfl (lv_at hl 2 rfl) ?_
  refine kl_ld C hH.2.2.2 hl (k := 1) (j := 1) rfl (by omega) dL_law_288 dL_law_289 dL_law_291 dL_law_292 dL_law_293 ?_
  refine kl_ld C hH.2.2.2 hl (k := 2) (j := 2) rfl (by omega) dL_law_294 dL_law_295 dL_law_297 dL_law_298 dL_law_299 ?_
  refine kl_M C hH (As := [.int (xs (i + 1)), .int (xs (i + 2))]) (rest := [.int r]) c_X10_means lk_L_36 (by decide) rfl rfl ⟨_, _, rfl, hR.2.1⟩ (show 1 ≤ 8 by decide) hl.1 dL_law_300 ⟨by omega, by omega⟩ (fun r' τ' H2 locs2 hq hH => ?_)
  have hE := pp_means hR hp hq
  refine lv_icmp_eq (tgt := 958) hx hb dL_law_303 rfl (fun _ => ?_) (fun hne => absurd hE.2 hne)
  exact W.widen (k := cells + 1) (n := slots + 6) (by omega) (by omega) (nx _ _ _ _ _ _ (RR_le hE.1 (by omega)) hH hl)
theorem ll_fight (C : ll_Cx p l s m meth c b L xs D cI cZ cR cJ aC aM ao s1 s2) (hH : ll_H D cI cZ cR cJ aC aM ao s H locs σ τ g) {n : Nat} (hR : RR n σ τ) (hn : n ≤ 600) (hl : ll_L b i aC aM ao la) (hi : i + 3 < L) (hcs : cells + 1 ≤ 601024 ∧ slots + 6 ≤ 7293034) (nx : ll_N p l e s m below meth c Q b D cI cZ cR cJ aC aM ao i n cells slots) :
    W p l e room_1 s m #[.ref b] below meth c H locs cells slots Q (F0 m 308 la []) := by
  obtain ⟨⟨hx, hb, hr, hml, hown, hlocks, hlt⟩, -⟩ := id C
  refine lv_aload_n hx hb dL_law_308 rfl (lv_at hl 1 rfl) ?_
  refine kl_ld C hH.2.2.2 hl (k := 1) (j := 1) rfl (by omega) dL_law_309 dL_law_310 dL_law_312 dL_law_313 dL_law_314 ?_
  refine kl_ld C hH.2.2.2 hl (k := 2) (j := 2) rfl (by omega) dL_law_315 dL_law_316 dL_law_318 dL_law_319 dL_law_320 ?_
  refine kl_ld C hH.2.2.2 hl (k := 3) (j := 3) rfl (by omega) dL_law_321 dL_law_322 dL_law_324 dL_law_325 dL_law_326 ?_
  refine kl_C C hH (As := [.int (xs (i + 1)), .int (xs (i + 2)), .int (xs (i + 3))]) (rest := []) c_X9_fight lk_L_37 (by decide) rfl rfl ⟨_, _, _, rfl, hR.1⟩ (show 0 ≤ 8 by decide) hl.1 dL_law_327 ⟨by omega, by omega⟩ (fun r σ' H1 locs1 hp hH => ?_)
  refine lv_aload_n hx hb dL_law_330 rfl (lv_at hl 2 rfl) ?_
  refine kl_ld C hH.2.2.2 hl (k := 1) (j := 1) rfl (by omega) dL_law_331 dL_law_332 dL_law_334 dL_law_335 dL_law_336 ?_
  refine kl_ld C hH.2.2.2 hl (k := 2) (j := 2) rfl (by omega) dL_law_337 dL_law_338 dL_law_340 dL_law_341 dL_law_342 ?_
  refine kl_ld C hH.2.2.2 hl (k := 3) (j := 3) rfl (by omega) dL_law_343 dL_law_344 dL_law_346 dL_law_347 dL_law_348 ?_
  refine kl_M C hH (As := [.int (xs (i + 1)), .int (xs (i + 2)), .int (xs (i + 3))]) (rest := [.int r]) c_X10_fight lk_L_40 (by decide) rfl rfl ⟨_, _, _, rfl, hR.2.1⟩ (show 1 ≤ 8 by decide) hl.1 dL_law_349 ⟨by omega, by omega⟩ (fun r' τ' H2 locs2 hq hH => ?_)
  have hE := pp_fight hR hp hq
  refine lv_icmp_eq (tgt := 958) hx hb dL_law_352 rfl (fun _ => ?_) (fun hne => absurd hE.2 hne)
  exact W.widen (k := cells + 1) (n := slots + 6) (by omega) (by omega) (nx _ _ _ _ _ _ (RR_le hE.1 (by omega)) hH hl)
theorem ll_fights (C : ll_Cx p l s m meth c b L xs D cI cZ cR cJ aC aM ao s1 s2) (hH : ll_H D cI cZ cR cJ aC aM ao s H locs σ τ g) {n : Nat} (hR : RR n σ τ) (hn : n ≤ 600) (hl : ll_L b i aC aM ao la) (hi : i + 3 < L) (hcs : cells + 1 ≤ 601024 ∧ slots + 6 ≤ 7293034) (nx : ll_N p l e s m below meth c Q b D cI cZ cR cJ aC aM ao i n cells slots) :
    W p l e room_1 s m #[.ref b] below meth c H locs cells slots Q (F0 m 357 la []) := by
  obtain ⟨⟨hx, hb, hr, hml, hown, hlocks, hlt⟩, -⟩ := id C
  refine lv_aload_n hx hb dL_law_357 rfl (lv_at hl 1 rfl) ?_
  refine kl_ld C hH.2.2.2 hl (k := 1) (j := 1) rfl (by omega) dL_law_358 dL_law_359 dL_law_361 dL_law_362 dL_law_363 ?_
  refine kl_C C hH (As := [.int (xs (i + 1))]) (rest := []) c_X9_fights lk_L_41 (by decide) rfl rfl ⟨_, rfl, hR.1⟩ (show 0 ≤ 8 by decide) hl.1 dL_law_364 ⟨by omega, by omega⟩ (fun r σ' H1 locs1 hp hH => ?_)
  refine lv_aload_n hx hb dL_law_367 rfl (lv_at hl 2 rfl) ?_
  refine kl_ld C hH.2.2.2 hl (k := 1) (j := 1) rfl (by omega) dL_law_368 dL_law_369 dL_law_371 dL_law_372 dL_law_373 ?_
  refine kl_M C hH (As := [.int (xs (i + 1))]) (rest := [.int r]) c_X10_fights lk_L_44 (by decide) rfl rfl ⟨_, rfl, hR.2.1⟩ (show 1 ≤ 8 by decide) hl.1 dL_law_374 ⟨by omega, by omega⟩ (fun r' τ' H2 locs2 hq hH => ?_)
  have hE := pp_fights hR hp hq
  refine lv_icmp_eq (tgt := 958) hx hb dL_law_377 rfl (fun _ => ?_) (fun hne => absurd hE.2 hne)
  exact W.widen (k := cells + 1) (n := slots + 6) (by omega) (by omega) (nx _ _ _ _ _ _ (RR_le hE.1 (by omega)) hH hl)
theorem ll_patience (C : ll_Cx p l s m meth c b L xs D cI cZ cR cJ aC aM ao s1 s2) (hH : ll_H D cI cZ cR cJ aC aM ao s H locs σ τ g) {n : Nat} (hR : RR n σ τ) (hn : n ≤ 600) (hl : ll_L b i aC aM ao la) (hi : i + 3 < L) (hcs : cells + 1 ≤ 601024 ∧ slots + 6 ≤ 7293034) (nx : ll_N p l e s m below meth c Q b D cI cZ cR cJ aC aM ao i n cells slots) :
    W p l e room_1 s m #[.ref b] below meth c H locs cells slots Q (F0 m 382 la []) := by
  obtain ⟨⟨hx, hb, hr, hml, hown, hlocks, hlt⟩, -⟩ := id C
  refine lv_aload_n hx hb dL_law_382 rfl (lv_at hl 1 rfl) ?_
  refine kl_ld C hH.2.2.2 hl (k := 1) (j := 1) rfl (by omega) dL_law_383 dL_law_384 dL_law_386 dL_law_387 dL_law_388 ?_
  refine kl_C C hH (As := [.int (xs (i + 1))]) (rest := []) c_X9_patience lk_L_45 (by decide) rfl rfl ⟨_, rfl, hR.1⟩ (show 0 ≤ 8 by decide) hl.1 dL_law_389 ⟨by omega, by omega⟩ (fun r σ' H1 locs1 hp hH => ?_)
  refine lv_aload_n hx hb dL_law_392 rfl (lv_at hl 2 rfl) ?_
  refine kl_ld C hH.2.2.2 hl (k := 1) (j := 1) rfl (by omega) dL_law_393 dL_law_394 dL_law_396 dL_law_397 dL_law_398 ?_
  refine kl_M C hH (As := [.int (xs (i + 1))]) (rest := [.int r]) c_X10_patience lk_L_49 (by decide) rfl rfl ⟨_, rfl, hR.2.1⟩ (show 1 ≤ 8 by decide) hl.1 dL_law_399 ⟨by omega, by omega⟩ (fun r' τ' H2 locs2 hq hH => ?_)
  have hE := pp_patience hR hp hq
  refine lv_icmp_eq (tgt := 958) hx hb dL_law_402 rfl (fun _ => ?_) (fun hne => absurd hE.2 hne)
  exact W.widen (k := cells + 1) (n := slots + 6) (by omega) (by omega) (nx _ _ _ _ _ _ (RR_le hE.1 (by omega)) hH hl)
theorem ll_go (C : ll_Cx p l s m meth c b L xs D cI cZ cR cJ aC aM ao s1 s2) (hH : ll_H D cI cZ cR cJ aC aM ao s H locs σ τ g) {n : Nat} (hR : RR n σ τ) (hn : n ≤ 600) (hl : ll_L b i aC aM ao la) (hi : i + 3 < L) (hcs : cells + 1 ≤ 601024 ∧ slots + 6 ≤ 7293034) (nx : ll_N p l e s m below meth c Q b D cI cZ cR cJ aC aM ao i n cells slots) :
    W p l e room_1 s m #[.ref b] below meth c H locs cells slots Q (F0 m 407 la []) := by
  obtain ⟨⟨hx, hb, hr, hml, hown, hlocks, hlt⟩, -⟩ := id C
  refine lv_aload_n hx hb dL_law_407 rfl (lv_at hl 1 rfl) ?_
  refine kl_ld C hH.2.2.2 hl (k := 1) (j := 1) rfl (by omega) dL_law_408 dL_law_409 dL_law_411 dL_law_412 dL_law_413 ?_
  refine kl_C C hH (As := [.int (xs (i + 1))]) (rest := []) c_X9_go lk_L_50 (by decide) rfl rfl ⟨_, rfl, ⟨hR.1, Nat.le_trans hR.2.2.1 (by omega)⟩⟩ (show 0 ≤ 8 by decide) hl.1 dL_law_414 ⟨by omega, by omega⟩ (fun r σ' H1 locs1 hp hH => ?_)
  refine lv_aload_n hx hb dL_law_417 rfl (lv_at hl 2 rfl) ?_
  refine kl_ld C hH.2.2.2 hl (k := 1) (j := 1) rfl (by omega) dL_law_418 dL_law_419 dL_law_421 dL_law_422 dL_law_423 ?_
  refine kl_M C hH (As := [.int (xs (i + 1))]) (rest := [.int r]) c_X10_go lk_L_53 (by decide) rfl rfl ⟨_, rfl, ⟨hR.2.1, by rw [← hR.2.2.2.2.2.1.1]; exact Nat.le_trans hR.2.2.1 (by omega)⟩⟩ (show 1 ≤ 8 by decide) hl.1 dL_law_424 ⟨by omega, by omega⟩ (fun r' τ' H2 locs2 hq hH => ?_)
  have hE := pp_go hR hp hq
  refine lv_icmp_eq (tgt := 958) hx hb dL_law_427 rfl (fun _ => ?_) (fun hne => absurd hE.2 hne)
  exact W.widen (k := cells + 1) (n := slots + 6) (by omega) (by omega) (nx _ _ _ _ _ _ (RR_le hE.1 (by omega)) hH hl)
theorem ll_type (C : ll_Cx p l s m meth c b L xs D cI cZ cR cJ aC aM ao s1 s2) (hH : ll_H D cI cZ cR cJ aC aM ao s H locs σ τ g) {n : Nat} (hR : RR n σ τ) (hn : n ≤ 600) (hl : ll_L b i aC aM ao la) (hi : i + 3 < L) (hcs : cells + 1 ≤ 601024 ∧ slots + 6 ≤ 7293034) (nx : ll_N p l e s m below meth c Q b D cI cZ cR cJ aC aM ao i n cells slots) :
    W p l e room_1 s m #[.ref b] below meth c H locs cells slots Q (F0 m 432 la []) := by
  obtain ⟨⟨hx, hb, hr, hml, hown, hlocks, hlt⟩, -⟩ := id C
  refine lv_aload_n hx hb dL_law_432 rfl (lv_at hl 1 rfl) ?_
  refine kl_ld C hH.2.2.2 hl (k := 1) (j := 1) rfl (by omega) dL_law_433 dL_law_434 dL_law_436 dL_law_437 dL_law_438 ?_
  refine kl_ld C hH.2.2.2 hl (k := 2) (j := 2) rfl (by omega) dL_law_439 dL_law_440 dL_law_442 dL_law_443 dL_law_444 ?_
  refine kl_C C hH (As := [.int (xs (i + 1)), .int (xs (i + 2))]) (rest := []) c_X9_type lk_L_54 (by decide) rfl rfl ⟨_, _, rfl, ⟨hR.1, Nat.le_trans hR.2.2.1 (by omega)⟩⟩ (show 0 ≤ 8 by decide) hl.1 dL_law_445 ⟨by omega, by omega⟩ (fun r σ' H1 locs1 hp hH => ?_)
  refine lv_aload_n hx hb dL_law_448 rfl (lv_at hl 2 rfl) ?_
  refine kl_ld C hH.2.2.2 hl (k := 1) (j := 1) rfl (by omega) dL_law_449 dL_law_450 dL_law_452 dL_law_453 dL_law_454 ?_
  refine kl_ld C hH.2.2.2 hl (k := 2) (j := 2) rfl (by omega) dL_law_455 dL_law_456 dL_law_458 dL_law_459 dL_law_460 ?_
  refine kl_M C hH (As := [.int (xs (i + 1)), .int (xs (i + 2))]) (rest := [.int r]) c_X10_type lk_L_57 (by decide) rfl rfl ⟨_, _, rfl, ⟨hR.2.1, by rw [← hR.2.2.2.2.2.1.1]; exact Nat.le_trans hR.2.2.1 (by omega)⟩⟩ (show 1 ≤ 8 by decide) hl.1 dL_law_461 ⟨by omega, by omega⟩ (fun r' τ' H2 locs2 hq hH => ?_)
  have hE := pp_type hR hp hq
  refine lv_icmp_eq (tgt := 958) hx hb dL_law_464 rfl (fun _ => ?_) (fun hne => absurd hE.2 hne)
  exact W.widen (k := cells + 1) (n := slots + 6) (by omega) (by omega) (nx _ _ _ _ _ _ (RR_le hE.1 (by omega)) hH hl)
theorem ll_settle (C : ll_Cx p l s m meth c b L xs D cI cZ cR cJ aC aM ao s1 s2) (hH : ll_H D cI cZ cR cJ aC aM ao s H locs σ τ g) {n : Nat} (hR : RR n σ τ) (hn : n ≤ 600) (hl : ll_L b i aC aM ao la) (hi : i + 3 < L) (hcs : cells + 1 ≤ 601024 ∧ slots + 6 ≤ 7293034) (nx : ll_N p l e s m below meth c Q b D cI cZ cR cJ aC aM ao i n cells slots) :
    W p l e room_1 s m #[.ref b] below meth c H locs cells slots Q (F0 m 469 la []) := by
  obtain ⟨⟨hx, hb, hr, hml, hown, hlocks, hlt⟩, -⟩ := id C
  refine lv_aload_n hx hb dL_law_469 rfl (lv_at hl 1 rfl) ?_
  refine kl_ld C hH.2.2.2 hl (k := 1) (j := 1) rfl (by omega) dL_law_470 dL_law_471 dL_law_473 dL_law_474 dL_law_475 ?_
  refine kl_C C hH (As := [.int (xs (i + 1))]) (rest := []) c_X9_settle lk_L_58 (by decide) rfl rfl ⟨_, rfl, ⟨hR.1, Nat.le_trans hR.2.2.1 (by omega)⟩⟩ (show 0 ≤ 8 by decide) hl.1 dL_law_476 ⟨by omega, by omega⟩ (fun r σ' H1 locs1 hp hH => ?_)
  refine lv_aload_n hx hb dL_law_479 rfl (lv_at hl 2 rfl) ?_
  refine kl_ld C hH.2.2.2 hl (k := 1) (j := 1) rfl (by omega) dL_law_480 dL_law_481 dL_law_483 dL_law_484 dL_law_485 ?_
  refine kl_M C hH (As := [.int (xs (i + 1))]) (rest := [.int r]) c_X10_settle lk_L_61 (by decide) rfl rfl ⟨_, rfl, ⟨hR.2.1, by rw [← hR.2.2.2.2.2.1.1]; exact Nat.le_trans hR.2.2.1 (by omega)⟩⟩ (show 1 ≤ 8 by decide) hl.1 dL_law_486 ⟨by omega, by omega⟩ (fun r' τ' H2 locs2 hq hH => ?_)
  have hE := pp_settle hR hp hq
  refine lv_icmp_eq (tgt := 958) hx hb dL_law_489 rfl (fun _ => ?_) (fun hne => absurd hE.2 hne)
  exact W.widen (k := cells + 1) (n := slots + 6) (by omega) (by omega) (nx _ _ _ _ _ _ (RR_le hE.1 (by omega)) hH hl)
theorem ll_stretch (C : ll_Cx p l s m meth c b L xs D cI cZ cR cJ aC aM ao s1 s2) (hH : ll_H D cI cZ cR cJ aC aM ao s H locs σ τ g) {n : Nat} (hR : RR n σ τ) (hn : n ≤ 600) (hl : ll_L b i aC aM ao la) (hi : i + 3 < L) (hcs : cells + 1 ≤ 601024 ∧ slots + 6 ≤ 7293034) (nx : ll_N p l e s m below meth c Q b D cI cZ cR cJ aC aM ao i n cells slots) :
    W p l e room_1 s m #[.ref b] below meth c H locs cells slots Q (F0 m 562 la []) := by
  obtain ⟨⟨hx, hb, hr, hml, hown, hlocks, hlt⟩, -⟩ := id C
  refine lv_aload_n hx hb dL_law_562 rfl (lv_at hl 1 rfl) ?_
  refine kl_ld C hH.2.2.2 hl (k := 1) (j := 1) rfl (by omega) dL_law_563 dL_law_564 dL_law_566 dL_law_567 dL_law_568 ?_
  refine kl_ld C hH.2.2.2 hl (k := 2) (j := 2) rfl (by omega) dL_law_569 dL_law_570 dL_law_572 dL_law_573 dL_law_574 ?_
  refine kl_C C hH (As := [.int (xs (i + 1)), .int (xs (i + 2))]) (rest := []) c_X9_stretch lk_L_72 (by decide) rfl rfl ⟨_, _, rfl, hR.1⟩ (show 0 ≤ 8 by decide) hl.1 dL_law_575 ⟨by omega, by omega⟩ (fun r σ' H1 locs1 hp hH => ?_)
  refine lv_aload_n hx hb dL_law_578 rfl (lv_at hl 2 rfl) ?_
  refine kl_ld C hH.2.2.2 hl (k := 1) (j := 1) rfl (by omega) dL_law_579 dL_law_580 dL_law_582 dL_law_583 dL_law_584 ?_
  refine kl_ld C hH.2.2.2 hl (k := 2) (j := 2) rfl (by omega) dL_law_585 dL_law_586 dL_law_588 dL_law_589 dL_law_590 ?_
  refine kl_M C hH (As := [.int (xs (i + 1)), .int (xs (i + 2))]) (rest := [.int r]) c_X10_stretch lk_L_76 (by decide) rfl rfl ⟨_, _, rfl, hR.2.1⟩ (show 1 ≤ 8 by decide) hl.1 dL_law_591 ⟨by omega, by omega⟩ (fun r' τ' H2 locs2 hq hH => ?_)
  have hE := pp_stretch hR hp hq
  refine lv_icmp_eq (tgt := 958) hx hb dL_law_594 rfl (fun _ => ?_) (fun hne => absurd hE.2 hne)
  exact W.widen (k := cells + 1) (n := slots + 6) (by omega) (by omega) (nx _ _ _ _ _ _ (RR_le hE.1 (by omega)) hH hl)
theorem ll_uses (C : ll_Cx p l s m meth c b L xs D cI cZ cR cJ aC aM ao s1 s2) (hH : ll_H D cI cZ cR cJ aC aM ao s H locs σ τ g) {n : Nat} (hR : RR n σ τ) (hn : n ≤ 600) (hl : ll_L b i aC aM ao la) (hi : i + 3 < L) (hcs : cells + 1 ≤ 601024 ∧ slots + 6 ≤ 7293034) (nx : ll_N p l e s m below meth c Q b D cI cZ cR cJ aC aM ao i n cells slots) :
    W p l e room_1 s m #[.ref b] below meth c H locs cells slots Q (F0 m 599 la []) := by
  obtain ⟨⟨hx, hb, hr, hml, hown, hlocks, hlt⟩, -⟩ := id C
  refine lv_aload_n hx hb dL_law_599 rfl (lv_at hl 1 rfl) ?_
  refine kl_ld C hH.2.2.2 hl (k := 1) (j := 1) rfl (by omega) dL_law_600 dL_law_601 dL_law_603 dL_law_604 dL_law_605 ?_
  refine kl_ld C hH.2.2.2 hl (k := 2) (j := 2) rfl (by omega) dL_law_606 dL_law_607 dL_law_609 dL_law_610 dL_law_611 ?_
  refine kl_C C hH (As := [.int (xs (i + 1)), .int (xs (i + 2))]) (rest := []) c_X9_uses lk_L_77 (by decide) rfl rfl ⟨_, _, rfl, hR.1⟩ (show 0 ≤ 8 by decide) hl.1 dL_law_612 ⟨by omega, by omega⟩ (fun r σ' H1 locs1 hp hH => ?_)
  refine lv_aload_n hx hb dL_law_615 rfl (lv_at hl 2 rfl) ?_
  refine kl_ld C hH.2.2.2 hl (k := 1) (j := 1) rfl (by omega) dL_law_616 dL_law_617 dL_law_619 dL_law_620 dL_law_621 ?_
  refine kl_ld C hH.2.2.2 hl (k := 2) (j := 2) rfl (by omega) dL_law_622 dL_law_623 dL_law_625 dL_law_626 dL_law_627 ?_
  refine kl_M C hH (As := [.int (xs (i + 1)), .int (xs (i + 2))]) (rest := [.int r]) c_X10_uses lk_L_80 (by decide) rfl rfl ⟨_, _, rfl, hR.2.1⟩ (show 1 ≤ 8 by decide) hl.1 dL_law_628 ⟨by omega, by omega⟩ (fun r' τ' H2 locs2 hq hH => ?_)
  have hE := pp_uses hR hp hq
  refine lv_icmp_eq (tgt := 958) hx hb dL_law_631 rfl (fun _ => ?_) (fun hne => absurd hE.2 hne)
  exact W.widen (k := cells + 1) (n := slots + 6) (by omega) (by omega) (nx _ _ _ _ _ _ (RR_le hE.1 (by omega)) hH hl)
theorem ll_habit (C : ll_Cx p l s m meth c b L xs D cI cZ cR cJ aC aM ao s1 s2) (hH : ll_H D cI cZ cR cJ aC aM ao s H locs σ τ g) {n : Nat} (hR : RR n σ τ) (hn : n ≤ 600) (hl : ll_L b i aC aM ao la) (hi : i + 3 < L) (hcs : cells + 1 ≤ 601024 ∧ slots + 6 ≤ 7293034) (nx : ll_N p l e s m below meth c Q b D cI cZ cR cJ aC aM ao i n cells slots) :
    W p l e room_1 s m #[.ref b] below meth c H locs cells slots Q (F0 m 636 la []) := by
  obtain ⟨⟨hx, hb, hr, hml, hown, hlocks, hlt⟩, -⟩ := id C
  refine lv_aload_n hx hb dL_law_636 rfl (lv_at hl 1 rfl) ?_
  refine kl_ld C hH.2.2.2 hl (k := 1) (j := 1) rfl (by omega) dL_law_637 dL_law_638 dL_law_640 dL_law_641 dL_law_642 ?_
  refine kl_ld C hH.2.2.2 hl (k := 2) (j := 2) rfl (by omega) dL_law_643 dL_law_644 dL_law_646 dL_law_647 dL_law_648 ?_
  refine kl_ld C hH.2.2.2 hl (k := 3) (j := 3) rfl (by omega) dL_law_649 dL_law_650 dL_law_652 dL_law_653 dL_law_654 ?_
  refine kl_C C hH (As := [.int (xs (i + 1)), .int (xs (i + 2)), .int (xs (i + 3))]) (rest := []) c_X9_habit lk_L_81 (by decide) rfl rfl ⟨_, _, _, rfl, hR.1⟩ (show 0 ≤ 8 by decide) hl.1 dL_law_655 ⟨by omega, by omega⟩ (fun r σ' H1 locs1 hp hH => ?_)
  refine lv_aload_n hx hb dL_law_658 rfl (lv_at hl 2 rfl) ?_
  refine kl_ld C hH.2.2.2 hl (k := 1) (j := 1) rfl (by omega) dL_law_659 dL_law_660 dL_law_662 dL_law_663 dL_law_664 ?_
  refine kl_ld C hH.2.2.2 hl (k := 2) (j := 2) rfl (by omega) dL_law_665 dL_law_666 dL_law_668 dL_law_669 dL_law_670 ?_
  refine kl_ld C hH.2.2.2 hl (k := 3) (j := 3) rfl (by omega) dL_law_671 dL_law_672 dL_law_674 dL_law_675 dL_law_676 ?_
  refine kl_M C hH (As := [.int (xs (i + 1)), .int (xs (i + 2)), .int (xs (i + 3))]) (rest := [.int r]) c_X10_habit lk_L_85 (by decide) rfl rfl ⟨_, _, _, rfl, hR.2.1⟩ (show 1 ≤ 8 by decide) hl.1 dL_law_677 ⟨by omega, by omega⟩ (fun r' τ' H2 locs2 hq hH => ?_)
  have hE := pp_habit hR hp hq
  refine lv_icmp_eq (tgt := 958) hx hb dL_law_680 rfl (fun _ => ?_) (fun hne => absurd hE.2 hne)
  exact W.widen (k := cells + 1) (n := slots + 6) (by omega) (by omega) (nx _ _ _ _ _ _ (RR_le hE.1 (by omega)) hH hl)
theorem ll_want (C : ll_Cx p l s m meth c b L xs D cI cZ cR cJ aC aM ao s1 s2) (hH : ll_H D cI cZ cR cJ aC aM ao s H locs σ τ g) {n : Nat} (hR : RR n σ τ) (hn : n ≤ 600) (hl : ll_L b i aC aM ao la) (hi : i + 3 < L) (hcs : cells + 1 ≤ 601024 ∧ slots + 6 ≤ 7293034) (nx : ll_N p l e s m below meth c Q b D cI cZ cR cJ aC aM ao i n cells slots) :
    W p l e room_1 s m #[.ref b] below meth c H locs cells slots Q (F0 m 685 la []) := by
  obtain ⟨⟨hx, hb, hr, hml, hown, hlocks, hlt⟩, -⟩ := id C
  refine lv_aload_n hx hb dL_law_685 rfl (lv_at hl 1 rfl) ?_
  refine kl_ld C hH.2.2.2 hl (k := 1) (j := 1) rfl (by omega) dL_law_686 dL_law_687 dL_law_689 dL_law_690 dL_law_691 ?_
  refine kl_ld C hH.2.2.2 hl (k := 2) (j := 2) rfl (by omega) dL_law_692 dL_law_693 dL_law_695 dL_law_696 dL_law_697 ?_
  refine kl_C C hH (As := [.int (xs (i + 1)), .int (xs (i + 2))]) (rest := []) c_X9_want lk_L_86 (by decide) rfl rfl ⟨_, _, rfl, hR.1⟩ (show 0 ≤ 8 by decide) hl.1 dL_law_698 ⟨by omega, by omega⟩ (fun r σ' H1 locs1 hp hH => ?_)
  refine lv_aload_n hx hb dL_law_701 rfl (lv_at hl 2 rfl) ?_
  refine kl_ld C hH.2.2.2 hl (k := 1) (j := 1) rfl (by omega) dL_law_702 dL_law_703 dL_law_705 dL_law_706 dL_law_707 ?_
  refine kl_ld C hH.2.2.2 hl (k := 2) (j := 2) rfl (by omega) dL_law_708 dL_law_709 dL_law_711 dL_law_712 dL_law_713 ?_
  refine kl_M C hH (As := [.int (xs (i + 1)), .int (xs (i + 2))]) (rest := [.int r]) c_X10_want lk_L_89 (by decide) rfl rfl ⟨_, _, rfl, hR.2.1⟩ (show 1 ≤ 8 by decide) hl.1 dL_law_714 ⟨by omega, by omega⟩ (fun r' τ' H2 locs2 hq hH => ?_)
  have hE := pp_want hR hp hq
  refine lv_icmp_eq (tgt := 958) hx hb dL_law_717 rfl (fun _ => ?_) (fun hne => absurd hE.2 hne)
  exact W.widen (k := cells + 1) (n := slots + 6) (by omega) (by omega) (nx _ _ _ _ _ _ (RR_le hE.1 (by omega)) hH hl)
theorem ll_offer (C : ll_Cx p l s m meth c b L xs D cI cZ cR cJ aC aM ao s1 s2) (hH : ll_H D cI cZ cR cJ aC aM ao s H locs σ τ g) {n : Nat} (hR : RR n σ τ) (hn : n ≤ 600) (hl : ll_L b i aC aM ao la) (hi : i + 3 < L) (hcs : cells + 1 ≤ 601024 ∧ slots + 6 ≤ 7293034) (nx : ll_N p l e s m below meth c Q b D cI cZ cR cJ aC aM ao i n cells slots) :
    W p l e room_1 s m #[.ref b] below meth c H locs cells slots Q (F0 m 722 la []) := by
  obtain ⟨⟨hx, hb, hr, hml, hown, hlocks, hlt⟩, -⟩ := id C
  refine lv_aload_n hx hb dL_law_722 rfl (lv_at hl 1 rfl) ?_
  refine kl_ld C hH.2.2.2 hl (k := 1) (j := 1) rfl (by omega) dL_law_723 dL_law_724 dL_law_726 dL_law_727 dL_law_728 ?_
  refine kl_C C hH (As := [.int (xs (i + 1))]) (rest := []) c_X9_offer lk_L_90 (by decide) rfl rfl ⟨_, rfl, hR.1⟩ (show 0 ≤ 8 by decide) hl.1 dL_law_729 ⟨by omega, by omega⟩ (fun r σ' H1 locs1 hp hH => ?_)
  refine lv_aload_n hx hb dL_law_732 rfl (lv_at hl 2 rfl) ?_
  refine kl_ld C hH.2.2.2 hl (k := 1) (j := 1) rfl (by omega) dL_law_733 dL_law_734 dL_law_736 dL_law_737 dL_law_738 ?_
  refine kl_M C hH (As := [.int (xs (i + 1))]) (rest := [.int r]) c_X10_offer lk_L_93 (by decide) rfl rfl ⟨_, rfl, hR.2.1⟩ (show 1 ≤ 8 by decide) hl.1 dL_law_739 ⟨by omega, by omega⟩ (fun r' τ' H2 locs2 hq hH => ?_)
  have hE := pp_offer hR hp hq
  refine lv_icmp_eq (tgt := 958) hx hb dL_law_742 rfl (fun _ => ?_) (fun hne => absurd hE.2 hne)
  exact W.widen (k := cells + 1) (n := slots + 6) (by omega) (by omega) (nx _ _ _ _ _ _ (RR_le hE.1 (by omega)) hH hl)
theorem ll_clear (C : ll_Cx p l s m meth c b L xs D cI cZ cR cJ aC aM ao s1 s2) (hH : ll_H D cI cZ cR cJ aC aM ao s H locs σ τ g) {n : Nat} (hR : RR n σ τ) (hn : n ≤ 600) (hl : ll_L b i aC aM ao la) (hi : i + 3 < L) (hcs : cells + 1 ≤ 601024 ∧ slots + 6 ≤ 7293034) (nx : ll_N p l e s m below meth c Q b D cI cZ cR cJ aC aM ao i n cells slots) :
    W p l e room_1 s m #[.ref b] below meth c H locs cells slots Q (F0 m 747 la []) := by
  obtain ⟨⟨hx, hb, hr, hml, hown, hlocks, hlt⟩, -⟩ := id C
  refine lv_aload_n hx hb dL_law_747 rfl (lv_at hl 1 rfl) ?_
  refine kl_C C hH (As := []) (rest := []) c_X9_clear lk_L_94 (by decide) rfl rfl ⟨rfl, hR.1⟩ (show 0 ≤ 8 by decide) hl.1 dL_law_748 ⟨by omega, by omega⟩ (fun r σ' H1 locs1 hp hH => ?_)
  refine lv_aload_n hx hb dL_law_751 rfl (lv_at hl 2 rfl) ?_
  refine kl_M C hH (As := []) (rest := []) c_X10_clear lk_L_97 (by decide) rfl rfl ⟨rfl, hR.2.1⟩ (show 0 ≤ 8 by decide) hl.1 dL_law_752 ⟨by omega, by omega⟩ (fun r' τ' H2 locs2 hq hH => ?_)
  have hE := pp_clear hR hp hq
  refine lv_goto (tgt := 958) hx hb dL_law_755 rfl ?_
  exact W.widen (k := cells + 1) (n := slots + 6) (by omega) (by omega) (nx _ _ _ _ _ _ (RR_le hE (by omega)) hH hl)
theorem ll_cheapest (C : ll_Cx p l s m meth c b L xs D cI cZ cR cJ aC aM ao s1 s2) (hH : ll_H D cI cZ cR cJ aC aM ao s H locs σ τ g) {n : Nat} (hR : RR n σ τ) (hn : n ≤ 600) (hl : ll_L b i aC aM ao la) (hi : i + 3 < L) (hcs : cells + 1 ≤ 601024 ∧ slots + 6 ≤ 7293034) (nx : ll_N p l e s m below meth c Q b D cI cZ cR cJ aC aM ao i n cells slots) :
    W p l e room_1 s m #[.ref b] below meth c H locs cells slots Q (F0 m 758 la []) := by
  obtain ⟨⟨hx, hb, hr, hml, hown, hlocks, hlt⟩, -⟩ := id C
  refine lv_aload_n hx hb dL_law_758 rfl (lv_at hl 1 rfl) ?_
  refine kl_C C hH (As := []) (rest := []) c_X9_cheapest lk_L_98 (by decide) rfl rfl ⟨rfl, hR.1⟩ (show 0 ≤ 8 by decide) hl.1 dL_law_759 ⟨by omega, by omega⟩ (fun r σ' H1 locs1 hp hH => ?_)
  refine lv_aload_n hx hb dL_law_762 rfl (lv_at hl 2 rfl) ?_
  refine kl_M C hH (As := []) (rest := [.int r]) c_X10_cheapest lk_L_101 (by decide) rfl rfl ⟨rfl, hR.2.1⟩ (show 1 ≤ 8 by decide) hl.1 dL_law_763 ⟨by omega, by omega⟩ (fun r' τ' H2 locs2 hq hH => ?_)
  have hE := pp_cheapest hR hp hq
  refine lv_icmp_eq (tgt := 958) hx hb dL_law_766 rfl (fun _ => ?_) (fun hne => absurd hE.2 hne)
  exact W.widen (k := cells + 1) (n := slots + 6) (by omega) (by omega) (nx _ _ _ _ _ _ (RR_le hE.1 (by omega)) hH hl)
theorem ll_assigned (C : ll_Cx p l s m meth c b L xs D cI cZ cR cJ aC aM ao s1 s2) (hH : ll_H D cI cZ cR cJ aC aM ao s H locs σ τ g) {n : Nat} (hR : RR n σ τ) (hn : n ≤ 600) (hl : ll_L b i aC aM ao la) (hi : i + 3 < L) (hcs : cells + 1 ≤ 601024 ∧ slots + 6 ≤ 7293034) (nx : ll_N p l e s m below meth c Q b D cI cZ cR cJ aC aM ao i n cells slots) :
    W p l e room_1 s m #[.ref b] below meth c H locs cells slots Q (F0 m 771 la []) := by
  obtain ⟨⟨hx, hb, hr, hml, hown, hlocks, hlt⟩, -⟩ := id C
  refine lv_aload_n hx hb dL_law_771 rfl (lv_at hl 1 rfl) ?_
  refine kl_ld C hH.2.2.2 hl (k := 1) (j := 1) rfl (by omega) dL_law_772 dL_law_773 dL_law_775 dL_law_776 dL_law_777 ?_
  refine kl_C C hH (As := [.int (xs (i + 1))]) (rest := []) c_X9_assigned lk_L_102 (by decide) rfl rfl ⟨_, rfl, hR.1⟩ (show 0 ≤ 8 by decide) hl.1 dL_law_778 ⟨by omega, by omega⟩ (fun r σ' H1 locs1 hp hH => ?_)
  refine lv_aload_n hx hb dL_law_781 rfl (lv_at hl 2 rfl) ?_
  refine kl_ld C hH.2.2.2 hl (k := 1) (j := 1) rfl (by omega) dL_law_782 dL_law_783 dL_law_785 dL_law_786 dL_law_787 ?_
  refine kl_M C hH (As := [.int (xs (i + 1))]) (rest := [.int r]) c_X10_assigned lk_L_105 (by decide) rfl rfl ⟨_, rfl, hR.2.1⟩ (show 1 ≤ 8 by decide) hl.1 dL_law_788 ⟨by omega, by omega⟩ (fun r' τ' H2 locs2 hq hH => ?_)
  have hE := pp_assigned hR hp hq
  refine lv_icmp_eq (tgt := 958) hx hb dL_law_791 rfl (fun _ => ?_) (fun hne => absurd hE.2 hne)
  exact W.widen (k := cells + 1) (n := slots + 6) (by omega) (by omega) (nx _ _ _ _ _ _ (RR_le hE.1 (by omega)) hH hl)
theorem ll_broken (C : ll_Cx p l s m meth c b L xs D cI cZ cR cJ aC aM ao s1 s2) (hH : ll_H D cI cZ cR cJ aC aM ao s H locs σ τ g) {n : Nat} (hR : RR n σ τ) (hn : n ≤ 600) (hl : ll_L b i aC aM ao la) (hi : i + 3 < L) (hcs : cells + 1 ≤ 601024 ∧ slots + 6 ≤ 7293034) (nx : ll_N p l e s m below meth c Q b D cI cZ cR cJ aC aM ao i n cells slots) :
    W p l e room_1 s m #[.ref b] below meth c H locs cells slots Q (F0 m 796 la []) := by
  obtain ⟨⟨hx, hb, hr, hml, hown, hlocks, hlt⟩, -⟩ := id C
  refine lv_aload_n hx hb dL_law_796 rfl (lv_at hl 1 rfl) ?_
  refine kl_C C hH (As := []) (rest := []) c_X9_broken lk_L_106 (by decide) rfl rfl ⟨rfl, hR.1⟩ (show 0 ≤ 8 by decide) hl.1 dL_law_797 ⟨by omega, by omega⟩ (fun r σ' H1 locs1 hp hH => ?_)
  refine lv_aload_n hx hb dL_law_800 rfl (lv_at hl 2 rfl) ?_
  refine kl_M C hH (As := []) (rest := [.int r]) c_X10_broken lk_L_109 (by decide) rfl rfl ⟨rfl, hR.2.1⟩ (show 1 ≤ 8 by decide) hl.1 dL_law_801 ⟨by omega, by omega⟩ (fun r' τ' H2 locs2 hq hH => ?_)
  have hE := pp_broken hR hp hq
  refine lv_icmp_eq (tgt := 958) hx hb dL_law_804 rfl (fun _ => ?_) (fun hne => absurd hE.2 hne)
  exact W.widen (k := cells + 1) (n := slots + 6) (by omega) (by omega) (nx _ _ _ _ _ _ (RR_le hE.1 (by omega)) hH hl)
theorem ll_apply (C : ll_Cx p l s m meth c b L xs D cI cZ cR cJ aC aM ao s1 s2) (hH : ll_H D cI cZ cR cJ aC aM ao s H locs σ τ g) {n : Nat} (hR : RR n σ τ) (hn : n ≤ 600) (hl : ll_L b i aC aM ao la) (hi : i + 3 < L) (hcs : cells + 1 ≤ 601024 ∧ slots + 6 ≤ 7293034) (nx : ll_N p l e s m below meth c Q b D cI cZ cR cJ aC aM ao i n cells slots) :
    W p l e room_1 s m #[.ref b] below meth c H locs cells slots Q (F0 m 809 la []) := by
  obtain ⟨⟨hx, hb, hr, hml, hown, hlocks, hlt⟩, -⟩ := id C
  refine lv_aload_n hx hb dL_law_809 rfl (lv_at hl 1 rfl) ?_
  refine kl_C C hH (As := []) (rest := []) c_X9_apply lk_L_110 (by decide) rfl rfl ⟨rfl, hR.1⟩ (show 0 ≤ 8 by decide) hl.1 dL_law_810 ⟨by omega, by omega⟩ (fun r σ' H1 locs1 hp hH => ?_)
  refine lv_aload_n hx hb dL_law_813 rfl (lv_at hl 2 rfl) ?_
  refine kl_M C hH (As := []) (rest := [.int r]) c_X10_apply lk_L_113 (by decide) rfl rfl ⟨rfl, hR.2.1⟩ (show 1 ≤ 8 by decide) hl.1 dL_law_814 ⟨by omega, by omega⟩ (fun r' τ' H2 locs2 hq hH => ?_)
  have hE := pp_apply hR hp hq
  refine lv_icmp_eq (tgt := 958) hx hb dL_law_817 rfl (fun _ => ?_) (fun hne => absurd hE.2 hne)
  exact W.widen (k := cells + 1) (n := slots + 6) (by omega) (by omega) (nx _ _ _ _ _ _ (RR_le hE.1 (by omega)) hH hl)
theorem ll_keep (C : ll_Cx p l s m meth c b L xs D cI cZ cR cJ aC aM ao s1 s2) (hH : ll_H D cI cZ cR cJ aC aM ao s H locs σ τ g) {n : Nat} (hR : RR n σ τ) (hn : n ≤ 600) (hl : ll_L b i aC aM ao la) (hi : i + 3 < L) (hcs : cells + 1 ≤ 601024 ∧ slots + 6 ≤ 7293034) (nx : ll_N p l e s m below meth c Q b D cI cZ cR cJ aC aM ao i n cells slots) :
    W p l e room_1 s m #[.ref b] below meth c H locs cells slots Q (F0 m 822 la []) := by
  obtain ⟨⟨hx, hb, hr, hml, hown, hlocks, hlt⟩, -⟩ := id C
  refine lv_aload_n hx hb dL_law_822 rfl (lv_at hl 1 rfl) ?_
  refine kl_C C hH (As := []) (rest := []) c_X9_keep lk_L_114 (by decide) rfl rfl ⟨rfl, hR.1⟩ (show 0 ≤ 8 by decide) hl.1 dL_law_823 ⟨by omega, by omega⟩ (fun r σ' H1 locs1 hp hH => ?_)
  refine lv_aload_n hx hb dL_law_826 rfl (lv_at hl 2 rfl) ?_
  refine kl_M C hH (As := []) (rest := []) c_X10_keep lk_L_117 (by decide) rfl rfl ⟨rfl, hR.2.1⟩ (show 0 ≤ 8 by decide) hl.1 dL_law_827 ⟨by omega, by omega⟩ (fun r' τ' H2 locs2 hq hH => ?_)
  have hE := pp_keep hR hp hq
  refine lv_goto (tgt := 958) hx hb dL_law_830 rfl ?_
  exact W.widen (k := cells + 1) (n := slots + 6) (by omega) (by omega) (nx _ _ _ _ _ _ (RR_le hE (by omega)) hH hl)
theorem ll_change (C : ll_Cx p l s m meth c b L xs D cI cZ cR cJ aC aM ao s1 s2) (hH : ll_H D cI cZ cR cJ aC aM ao s H locs σ τ g) {n : Nat} (hR : RR n σ τ) (hn : n ≤ 600) (hl : ll_L b i aC aM ao la) (hi : i + 3 < L) (hcs : cells + 1 ≤ 601024 ∧ slots + 6 ≤ 7293034) (nx : ll_N p l e s m below meth c Q b D cI cZ cR cJ aC aM ao i n cells slots) :
    W p l e room_1 s m #[.ref b] below meth c H locs cells slots Q (F0 m 833 la []) := by
  obtain ⟨⟨hx, hb, hr, hml, hown, hlocks, hlt⟩, -⟩ := id C
  refine lv_aload_n hx hb dL_law_833 rfl (lv_at hl 1 rfl) ?_
  refine kl_ld C hH.2.2.2 hl (k := 1) (j := 1) rfl (by omega) dL_law_834 dL_law_835 dL_law_837 dL_law_838 dL_law_839 ?_
  refine kl_ld C hH.2.2.2 hl (k := 2) (j := 2) rfl (by omega) dL_law_840 dL_law_841 dL_law_843 dL_law_844 dL_law_845 ?_
  refine kl_C C hH (As := [.int (xs (i + 1)), .int (xs (i + 2))]) (rest := []) c_X9_change lk_L_118 (by decide) rfl rfl ⟨_, _, rfl, hR.1⟩ (show 0 ≤ 8 by decide) hl.1 dL_law_846 ⟨by omega, by omega⟩ (fun r σ' H1 locs1 hp hH => ?_)
  refine lv_aload_n hx hb dL_law_849 rfl (lv_at hl 2 rfl) ?_
  refine kl_ld C hH.2.2.2 hl (k := 1) (j := 1) rfl (by omega) dL_law_850 dL_law_851 dL_law_853 dL_law_854 dL_law_855 ?_
  refine kl_ld C hH.2.2.2 hl (k := 2) (j := 2) rfl (by omega) dL_law_856 dL_law_857 dL_law_859 dL_law_860 dL_law_861 ?_
  refine kl_M C hH (As := [.int (xs (i + 1)), .int (xs (i + 2))]) (rest := [.int r]) c_X10_change lk_L_121 (by decide) rfl rfl ⟨_, _, rfl, hR.2.1⟩ (show 1 ≤ 8 by decide) hl.1 dL_law_862 ⟨by omega, by omega⟩ (fun r' τ' H2 locs2 hq hH => ?_)
  have hE := pp_change hR hp hq
  refine lv_icmp_eq (tgt := 958) hx hb dL_law_865 rfl (fun _ => ?_) (fun hne => absurd hE.2 hne)
  exact W.widen (k := cells + 1) (n := slots + 6) (by omega) (by omega) (nx _ _ _ _ _ _ (RR_le hE.1 (by omega)) hH hl)
theorem ll_back (C : ll_Cx p l s m meth c b L xs D cI cZ cR cJ aC aM ao s1 s2) (hH : ll_H D cI cZ cR cJ aC aM ao s H locs σ τ g) {n : Nat} (hR : RR n σ τ) (hn : n ≤ 600) (hl : ll_L b i aC aM ao la) (hi : i + 3 < L) (hcs : cells + 1 ≤ 601024 ∧ slots + 6 ≤ 7293034) (nx : ll_N p l e s m below meth c Q b D cI cZ cR cJ aC aM ao i n cells slots) :
    W p l e room_1 s m #[.ref b] below meth c H locs cells slots Q (F0 m 870 la []) := by
  obtain ⟨⟨hx, hb, hr, hml, hown, hlocks, hlt⟩, -⟩ := id C
  refine lv_aload_n hx hb dL_law_870 rfl (lv_at hl 1 rfl) ?_
  refine kl_C C hH (As := []) (rest := []) c_X9_back lk_L_122 (by decide) rfl rfl ⟨rfl, hR.1⟩ (show 0 ≤ 8 by decide) hl.1 dL_law_871 ⟨by omega, by omega⟩ (fun r σ' H1 locs1 hp hH => ?_)
  refine lv_aload_n hx hb dL_law_874 rfl (lv_at hl 2 rfl) ?_
  refine kl_M C hH (As := []) (rest := [.int r]) c_X10_back lk_L_125 (by decide) rfl rfl ⟨rfl, hR.2.1⟩ (show 1 ≤ 8 by decide) hl.1 dL_law_875 ⟨by omega, by omega⟩ (fun r' τ' H2 locs2 hq hH => ?_)
  have hE := pp_back hR hp hq
  refine lv_icmp_eq (tgt := 958) hx hb dL_law_878 rfl (fun _ => ?_) (fun hne => absurd hE.2 hne)
  exact W.widen (k := cells + 1) (n := slots + 6) (by omega) (by omega) (nx _ _ _ _ _ _ (RR_le hE.1 (by omega)) hH hl)
theorem ll_learn (C : ll_Cx p l s m meth c b L xs D cI cZ cR cJ aC aM ao s1 s2) (hH : ll_H D cI cZ cR cJ aC aM ao s H locs σ τ g) {n : Nat} (hR : RR n σ τ) (hn : n ≤ 600) (hl : ll_L b i aC aM ao la) (hi : i + 3 < L) (hcs : cells + 1 ≤ 601024 ∧ slots + 6 ≤ 7293034) (nx : ll_N p l e s m below meth c Q b D cI cZ cR cJ aC aM ao i n cells slots) :
    W p l e room_1 s m #[.ref b] below meth c H locs cells slots Q (F0 m 883 la []) := by
  obtain ⟨⟨hx, hb, hr, hml, hown, hlocks, hlt⟩, -⟩ := id C
  refine lv_aload_n hx hb dL_law_883 rfl (lv_at hl 1 rfl) ?_
  refine kl_ld C hH.2.2.2 hl (k := 1) (j := 1) rfl (by omega) dL_law_884 dL_law_885 dL_law_887 dL_law_888 dL_law_889 ?_
  refine kl_C C hH (As := [.int (xs (i + 1))]) (rest := []) c_X9_learn lk_L_126 (by decide) rfl rfl ⟨_, rfl, hR.1⟩ (show 0 ≤ 8 by decide) hl.1 dL_law_890 ⟨by omega, by omega⟩ (fun r σ' H1 locs1 hp hH => ?_)
  refine lv_aload_n hx hb dL_law_893 rfl (lv_at hl 2 rfl) ?_
  refine kl_ld C hH.2.2.2 hl (k := 1) (j := 1) rfl (by omega) dL_law_894 dL_law_895 dL_law_897 dL_law_898 dL_law_899 ?_
  refine kl_M C hH (As := [.int (xs (i + 1))]) (rest := [.int r]) c_X10_learn lk_L_129 (by decide) rfl rfl ⟨_, rfl, hR.2.1⟩ (show 1 ≤ 8 by decide) hl.1 dL_law_900 ⟨by omega, by omega⟩ (fun r' τ' H2 locs2 hq hH => ?_)
  have hE := pp_learn hR hp hq
  refine lv_icmp_eq (tgt := 958) hx hb dL_law_903 rfl (fun _ => ?_) (fun hne => absurd hE.2 hne)
  exact W.widen (k := cells + 1) (n := slots + 6) (by omega) (by omega) (nx _ _ _ _ _ _ (RR_le hE.1 (by omega)) hH hl)
theorem ll_saves (C : ll_Cx p l s m meth c b L xs D cI cZ cR cJ aC aM ao s1 s2) (hH : ll_H D cI cZ cR cJ aC aM ao s H locs σ τ g) {n : Nat} (hR : RR n σ τ) (hn : n ≤ 600) (hl : ll_L b i aC aM ao la) (hi : i + 3 < L) (hcs : cells + 1 ≤ 601024 ∧ slots + 6 ≤ 7293034) (nx : ll_N p l e s m below meth c Q b D cI cZ cR cJ aC aM ao i n cells slots) :
    W p l e room_1 s m #[.ref b] below meth c H locs cells slots Q (F0 m 908 la []) := by
  obtain ⟨⟨hx, hb, hr, hml, hown, hlocks, hlt⟩, -⟩ := id C
  refine lv_aload_n hx hb dL_law_908 rfl (lv_at hl 1 rfl) ?_
  refine kl_ld C hH.2.2.2 hl (k := 1) (j := 1) rfl (by omega) dL_law_909 dL_law_910 dL_law_912 dL_law_913 dL_law_914 ?_
  refine kl_C C hH (As := [.int (xs (i + 1))]) (rest := []) c_X9_saves lk_L_130 (by decide) rfl rfl ⟨_, rfl, hR.1⟩ (show 0 ≤ 8 by decide) hl.1 dL_law_915 ⟨by omega, by omega⟩ (fun r σ' H1 locs1 hp hH => ?_)
  refine lv_aload_n hx hb dL_law_918 rfl (lv_at hl 2 rfl) ?_
  refine kl_ld C hH.2.2.2 hl (k := 1) (j := 1) rfl (by omega) dL_law_919 dL_law_920 dL_law_922 dL_law_923 dL_law_924 ?_
  refine kl_M C hH (As := [.int (xs (i + 1))]) (rest := [.int r]) c_X10_saves lk_L_133 (by decide) rfl rfl ⟨_, rfl, hR.2.1⟩ (show 1 ≤ 8 by decide) hl.1 dL_law_925 ⟨by omega, by omega⟩ (fun r' τ' H2 locs2 hq hH => ?_)
  have hE := pp_saves hR hp hq
  refine lv_icmp_eq (tgt := 958) hx hb dL_law_928 rfl (fun _ => ?_) (fun hne => absurd hE.2 hne)
  exact W.widen (k := cells + 1) (n := slots + 6) (by omega) (by omega) (nx _ _ _ _ _ _ (RR_le hE.1 (by omega)) hH hl)
theorem ll_count (C : ll_Cx p l s m meth c b L xs D cI cZ cR cJ aC aM ao s1 s2) (hH : ll_H D cI cZ cR cJ aC aM ao s H locs σ τ g) {n : Nat} (hR : RR n σ τ) (hn : n ≤ 600) (hl : ll_L b i aC aM ao la) (hi : i + 3 < L) (hcs : cells + 1 ≤ 601024 ∧ slots + 6 ≤ 7293034) (nx : ll_N p l e s m below meth c Q b D cI cZ cR cJ aC aM ao i n cells slots) :
    W p l e room_1 s m #[.ref b] below meth c H locs cells slots Q (F0 m 933 la []) := by
  obtain ⟨⟨hx, hb, hr, hml, hown, hlocks, hlt⟩, -⟩ := id C
  refine lv_aload_n hx hb dL_law_933 rfl (lv_at hl 1 rfl) ?_
  refine kl_ld C hH.2.2.2 hl (k := 1) (j := 1) rfl (by omega) dL_law_934 dL_law_935 dL_law_937 dL_law_938 dL_law_939 ?_
  refine kl_C C hH (As := [.int (xs (i + 1))]) (rest := []) c_X9_count lk_L_134 (by decide) rfl rfl ⟨_, rfl, hR.1⟩ (show 0 ≤ 8 by decide) hl.1 dL_law_940 ⟨by omega, by omega⟩ (fun r σ' H1 locs1 hp hH => ?_)
  refine lv_aload_n hx hb dL_law_943 rfl (lv_at hl 2 rfl) ?_
  refine kl_ld C hH.2.2.2 hl (k := 1) (j := 1) rfl (by omega) dL_law_944 dL_law_945 dL_law_947 dL_law_948 dL_law_949 ?_
  refine kl_M C hH (As := [.int (xs (i + 1))]) (rest := [.int r]) c_X10_count lk_L_137 (by decide) rfl rfl ⟨_, rfl, hR.2.1⟩ (show 1 ≤ 8 by decide) hl.1 dL_law_950 ⟨by omega, by omega⟩ (fun r' τ' H2 locs2 hq hH => ?_)
  have hE := pp_count hR hp hq
  refine lv_icmp_eq (tgt := 958) hx hb dL_law_953 rfl (fun _ => ?_) (fun hne => absurd hE.2 hne)
  exact W.widen (k := cells + 1) (n := slots + 6) (by omega) (by omega) (nx _ _ _ _ _ _ (RR_le hE.1 (by omega)) hH hl)
end LC
