/-! the walk of the law's body -/
def m_L_law : am_Mi := (RL, yL_law, cL_law, 4, some .boolean)
/-- what is the same all along the law's run -/
def lw_F (F : gv_F) (b L : Nat) (xs : Nat → Int32) : Prop := F.2.2.1 = room_1 ∧ F.2.2.2.2.2.2.2.2.2.2 = (fun q => F.2.2.2.1.heap.size ≤ q) ∧ am_Fw F.2.2.2.1 ∧ va_T .int b L (fun j => .int (xs j)) F.2.2.2.2.2.2.2.2.2.2 F.2.2.2.1 F.2.2.2.1.heap
theorem gv_wide {F : gv_F} {K : am_K} {mi : am_Mi} {cells slots c1 s1 pc : Nat} {ls : List (Nat × am_V)} {st : List am_V} {M : am_M} (h : cells ≤ c1) (h' : slots ≤ s1) (k : gv F mi K c1 s1 pc ls st M) : gv F mi K cells slots pc ls st M := by
  intro H locs la hK hI hP hS hA hl hlk hsk
  exact W.widen h h' (k H locs la hK hI hP hS hA hl hlk hsk)
theorem lw_old {F : gv_F} {b L : Nat} {xs : Nat → Int32} (hF : lw_F F b L xs) (K : am_K) : gv_old F K := gv_old_of (fun a h1 h2 => by rw [hF.2.1] at h2; have h3 : F.2.2.2.1.heap.size ≤ a := h2; omega)
theorem lw_A0 {F : gv_F} {b L : Nat} {xs : Nat → Int32} (hF : lw_F F b L xs) : ∀ q, F.2.2.2.1.heap.size ≤ q → F.2.2.2.2.2.2.2.2.2.2 q := fun q h => by rw [hF.2.1]; exact h
theorem lw_A1 {F : gv_F} {b L : Nat} {xs : Nat → Int32} (hF : lw_F F b L xs) (K : am_K) : ∀ a, F.2.2.2.2.2.2.2.2.2.2 a → am_A K a ∨ F.2.2.2.1.heap.size ≤ a := fun a h => Or.inr (by rw [hF.2.1] at h; exact h)

set_option maxHeartbeats 4000000 in
theorem lw_c_row {G : Bool → Bool → am_M → Prop} {F : gv_F} {K : am_K} {M : am_M} {tr kp : Bool} {b L cells slots : Nat} {xs : Nat → Int32} {i : Int32} (hG : ok_row G) (hF : lw_F F b L xs) (hb : am_ad K (9200, 0, 0) = b) (hc : cells + 187 ≤ 600000) (hs : slots + 4694 ≤ 7302250) (hst : am_Kst K tr kp) (hg : G tr kp M) (hi : vp_in (i + 1) L ∧ vp_in (i + 2) L ∧ vp_in (i + 3) L ∧ vp_in (i + 4) L ∧ vp_in (i + 5) L) (KX : ∀ K1 M1 tr1 kp1, am_Ex K K1 → am_Kst K1 tr1 kp1 → G tr1 kp1 M1 → gv F m_L_law K1 (cells + 187) (slots + 4694) 1496 [(0, .inr (.inr (9200, 0, 0))), (1, .inr (.inr (4, 0, 0))), (2, .inr (.inr (5, 0, 0))), (3, .inl i)] [] M1) : gv F m_L_law K cells slots 244 [(0, .inr (.inr (9200, 0, 0))), (1, .inr (.inr (4, 0, 0))), (2, .inr (.inr (5, 0, 0))), (3, .inl i)] [] M := by
  have hR := hF.1
  have hT : va_T .int (am_ad K (9200, 0, 0)) L (fun j => .int (xs j)) F.2.2.2.2.2.2.2.2.2.2 F.2.2.2.1 F.2.2.2.1.heap := by rw [hb]; exact hF.2.2.2
  refine gv_aload_n dL_law_244 rfl ?_
  refine gv_aload_n dL_law_245 rfl ?_
  refine gv_iload_n dL_law_246 rfl ?_
  refine gv_iconst dL_law_247 ic_1 ?_
  refine gv_iadd dL_law_248 ?_
  refine gv_tabI dL_law_249 hT hi.1 ?_
  refine gv_aload_n dL_law_250 rfl ?_
  refine gv_iload_n dL_law_251 rfl ?_
  refine gv_iconst dL_law_252 ic_2 ?_
  refine gv_iadd dL_law_253 ?_
  refine gv_tabI dL_law_254 hT hi.2.1 ?_
  refine gv_aload_n dL_law_255 rfl ?_
  refine gv_iload_n dL_law_256 rfl ?_
  refine gv_iconst dL_law_257 ic_3 ?_
  refine gv_iadd dL_law_258 ?_
  refine gv_tabI dL_law_259 hT hi.2.2.1 ?_
  obtain ⟨y, z, h1, h2, h3, h4⟩ := hG tr kp M (xs (i + 1).toNatClampNeg) (xs (i + 2).toNatClampNeg) (xs (i + 3).toNatClampNeg) hg
  refine gv_callVi 2 (as := [.inl (xs (i + 1).toNatClampNeg), .inl (xs (i + 2).toNatClampNeg), .inl (xs (i + 3).toNatClampNeg)]) (lw_old hF K) (by rw [hR]; exact ⟨by decide, by decide, (by show cells ≤ 600000; omega), (by show slots ≤ 7302250; omega)⟩) dL_law_260 cv_RL_13 cb_X4_row sh_4 rfl hk_4 rfl rfl (Nat.le_of_ble_eq_true rfl) (c_X4_row (d := 0) h1) ?_
  refine gv_aload_n dL_law_263 rfl ?_
  refine gv_aload_n dL_law_264 rfl ?_
  refine gv_iload_n dL_law_265 rfl ?_
  refine gv_iconst dL_law_266 ic_1 ?_
  refine gv_iadd dL_law_267 ?_
  refine gv_tabI dL_law_268 hT hi.1 ?_
  refine gv_aload_n dL_law_269 rfl ?_
  refine gv_iload_n dL_law_270 rfl ?_
  refine gv_iconst dL_law_271 ic_2 ?_
  refine gv_iadd dL_law_272 ?_
  refine gv_tabI dL_law_273 hT hi.2.1 ?_
  refine gv_aload_n dL_law_274 rfl ?_
  refine gv_iload_n dL_law_275 rfl ?_
  refine gv_iconst dL_law_276 ic_3 ?_
  refine gv_iadd dL_law_277 ?_
  refine gv_tabI dL_law_278 hT hi.2.2.1 ?_
  refine gv_callVi 1 (as := [.inl (xs (i + 1).toNatClampNeg), .inl (xs (i + 2).toNatClampNeg), .inl (xs (i + 3).toNatClampNeg)]) (lw_old hF K) (by rw [hR]; exact ⟨by decide, by decide, (by show cells ≤ 600000; omega), (by show slots ≤ 7302250; omega)⟩) dL_law_279 cv_RL_17 cb_X5_row sh_5 rfl hk_5 rfl rfl (Nat.le_of_ble_eq_true rfl) (c_X5_row (d := 0) h2) ?_
  refine gv_icmp_eq 1496 dL_law_282 rfl (fun _ => ?_) (fun b1 => absurd h3 b1)
  exact gv_wide (by omega) (by omega) (KX _ _ tr kp (am_Ex.rf K) hst h4)
set_option maxHeartbeats 4000000 in
theorem lw_c_set {G : Bool → Bool → am_M → Prop} {F : gv_F} {K : am_K} {M : am_M} {tr kp : Bool} {b L cells slots : Nat} {xs : Nat → Int32} {i : Int32} (hG : ok_set G) (hF : lw_F F b L xs) (hb : am_ad K (9200, 0, 0) = b) (hc : cells + 187 ≤ 600000) (hs : slots + 4694 ≤ 7302250) (hst : am_Kst K tr kp) (hg : G tr kp M) (hi : vp_in (i + 1) L ∧ vp_in (i + 2) L ∧ vp_in (i + 3) L ∧ vp_in (i + 4) L ∧ vp_in (i + 5) L) (KX : ∀ K1 M1 tr1 kp1, am_Ex K K1 → am_Kst K1 tr1 kp1 → G tr1 kp1 M1 → gv F m_L_law K1 (cells + 187) (slots + 4694) 1496 [(0, .inr (.inr (9200, 0, 0))), (1, .inr (.inr (4, 0, 0))), (2, .inr (.inr (5, 0, 0))), (3, .inl i)] [] M1) : gv F m_L_law K cells slots 287 [(0, .inr (.inr (9200, 0, 0))), (1, .inr (.inr (4, 0, 0))), (2, .inr (.inr (5, 0, 0))), (3, .inl i)] [] M := by
  have hR := hF.1
  have hT : va_T .int (am_ad K (9200, 0, 0)) L (fun j => .int (xs j)) F.2.2.2.2.2.2.2.2.2.2 F.2.2.2.1 F.2.2.2.1.heap := by rw [hb]; exact hF.2.2.2
  refine gv_aload_n dL_law_287 rfl ?_
  refine gv_aload_n dL_law_288 rfl ?_
  refine gv_iload_n dL_law_289 rfl ?_
  refine gv_iconst dL_law_290 ic_1 ?_
  refine gv_iadd dL_law_291 ?_
  refine gv_tabI dL_law_292 hT hi.1 ?_
  refine gv_aload_n dL_law_293 rfl ?_
  refine gv_iload_n dL_law_294 rfl ?_
  refine gv_iconst dL_law_295 ic_2 ?_
  refine gv_iadd dL_law_296 ?_
  refine gv_tabI dL_law_297 hT hi.2.1 ?_
  refine gv_aload_n dL_law_298 rfl ?_
  refine gv_iload_n dL_law_299 rfl ?_
  refine gv_iconst dL_law_300 ic_3 ?_
  refine gv_iadd dL_law_301 ?_
  refine gv_tabI dL_law_302 hT hi.2.2.1 ?_
  refine gv_i2l dL_law_303 ?_
  refine gv_bipush dL_law_304 bp_32 ?_
  refine gv_lshl dL_law_306 ?_
  refine gv_aload_n dL_law_307 rfl ?_
  refine gv_iload_n dL_law_308 rfl ?_
  refine gv_iconst dL_law_309 ic_4 ?_
  refine gv_iadd dL_law_310 ?_
  refine gv_tabI dL_law_311 hT hi.2.2.2.1 ?_
  refine gv_i2l dL_law_312 ?_
  refine gv_ldc2 dL_law_313 kc_RL_18 ?_
  refine gv_land dL_law_316 ?_
  refine gv_lor dL_law_317 ?_
  obtain ⟨y, z, h1, h2, h3, h4⟩ := hG tr kp M (xs (i + 1).toNatClampNeg) (xs (i + 2).toNatClampNeg) ((((xs (i + 3).toNatClampNeg).toInt64) <<< ((32 : Int32).toInt64 &&& 63)) ||| (((xs (i + 4).toNatClampNeg).toInt64) &&& (4294967295 : Int64))) hg
  refine gv_callVi 3 (as := [.inl (xs (i + 1).toNatClampNeg), .inl (xs (i + 2).toNatClampNeg), .inr (.inl ((((xs (i + 3).toNatClampNeg).toInt64) <<< ((32 : Int32).toInt64 &&& 63)) ||| (((xs (i + 4).toNatClampNeg).toInt64) &&& (4294967295 : Int64))))]) (lw_old hF K) (by rw [hR]; exact ⟨by decide, by decide, (by show cells ≤ 600000; omega), (by show slots ≤ 7302250; omega)⟩) dL_law_318 cv_RL_20 cb_X4_set sh_4 rfl hk_4 rfl rfl (Nat.le_of_ble_eq_true rfl) (c_X4_set (d := 0) h1) ?_
  refine gv_aload_n dL_law_321 rfl ?_
  refine gv_aload_n dL_law_322 rfl ?_
  refine gv_iload_n dL_law_323 rfl ?_
  refine gv_iconst dL_law_324 ic_1 ?_
  refine gv_iadd dL_law_325 ?_
  refine gv_tabI dL_law_326 hT hi.1 ?_
  refine gv_aload_n dL_law_327 rfl ?_
  refine gv_iload_n dL_law_328 rfl ?_
  refine gv_iconst dL_law_329 ic_2 ?_
  refine gv_iadd dL_law_330 ?_
  refine gv_tabI dL_law_331 hT hi.2.1 ?_
  refine gv_aload_n dL_law_332 rfl ?_
  refine gv_iload_n dL_law_333 rfl ?_
  refine gv_iconst dL_law_334 ic_3 ?_
  refine gv_iadd dL_law_335 ?_
  refine gv_tabI dL_law_336 hT hi.2.2.1 ?_
  refine gv_i2l dL_law_337 ?_
  refine gv_bipush dL_law_338 bp_32 ?_
  refine gv_lshl dL_law_340 ?_
  refine gv_aload_n dL_law_341 rfl ?_
  refine gv_iload_n dL_law_342 rfl ?_
  refine gv_iconst dL_law_343 ic_4 ?_
  refine gv_iadd dL_law_344 ?_
  refine gv_tabI dL_law_345 hT hi.2.2.2.1 ?_
  refine gv_i2l dL_law_346 ?_
  refine gv_ldc2 dL_law_347 kc_RL_18 ?_
  refine gv_land dL_law_350 ?_
  refine gv_lor dL_law_351 ?_
  refine gv_callVi 2 (as := [.inl (xs (i + 1).toNatClampNeg), .inl (xs (i + 2).toNatClampNeg), .inr (.inl ((((xs (i + 3).toNatClampNeg).toInt64) <<< ((32 : Int32).toInt64 &&& 63)) ||| (((xs (i + 4).toNatClampNeg).toInt64) &&& (4294967295 : Int64))))]) (lw_old hF K) (by rw [hR]; exact ⟨by decide, by decide, (by show cells ≤ 600000; omega), (by show slots ≤ 7302250; omega)⟩) dL_law_352 cv_RL_24 cb_X5_set sh_5 rfl hk_5 rfl rfl (Nat.le_of_ble_eq_true rfl) (c_X5_set (d := 0) h2) ?_
  refine gv_icmp_eq 1496 dL_law_355 rfl (fun _ => ?_) (fun b1 => absurd h3 b1)
  exact gv_wide (by omega) (by omega) (KX _ _ tr kp (am_Ex.rf K) hst h4)
set_option maxHeartbeats 4000000 in
theorem lw_c_copy {G : Bool → Bool → am_M → Prop} {F : gv_F} {K : am_K} {M : am_M} {tr kp : Bool} {b L cells slots : Nat} {xs : Nat → Int32} {i : Int32} (hG : ok_copy G) (hF : lw_F F b L xs) (hb : am_ad K (9200, 0, 0) = b) (hc : cells + 187 ≤ 600000) (hs : slots + 4694 ≤ 7302250) (hst : am_Kst K tr kp) (hg : G tr kp M) (hi : vp_in (i + 1) L ∧ vp_in (i + 2) L ∧ vp_in (i + 3) L ∧ vp_in (i + 4) L ∧ vp_in (i + 5) L) (KX : ∀ K1 M1 tr1 kp1, am_Ex K K1 → am_Kst K1 tr1 kp1 → G tr1 kp1 M1 → gv F m_L_law K1 (cells + 187) (slots + 4694) 1496 [(0, .inr (.inr (9200, 0, 0))), (1, .inr (.inr (4, 0, 0))), (2, .inr (.inr (5, 0, 0))), (3, .inl i)] [] M1) : gv F m_L_law K cells slots 360 [(0, .inr (.inr (9200, 0, 0))), (1, .inr (.inr (4, 0, 0))), (2, .inr (.inr (5, 0, 0))), (3, .inl i)] [] M := by
  have hR := hF.1
  have hT : va_T .int (am_ad K (9200, 0, 0)) L (fun j => .int (xs j)) F.2.2.2.2.2.2.2.2.2.2 F.2.2.2.1 F.2.2.2.1.heap := by rw [hb]; exact hF.2.2.2
  refine gv_aload_n dL_law_360 rfl ?_
  refine gv_aload_n dL_law_361 rfl ?_
  refine gv_iload_n dL_law_362 rfl ?_
  refine gv_iconst dL_law_363 ic_1 ?_
  refine gv_iadd dL_law_364 ?_
  refine gv_tabI dL_law_365 hT hi.1 ?_
  refine gv_aload_n dL_law_366 rfl ?_
  refine gv_iload_n dL_law_367 rfl ?_
  refine gv_iconst dL_law_368 ic_2 ?_
  refine gv_iadd dL_law_369 ?_
  refine gv_tabI dL_law_370 hT hi.2.1 ?_
  refine gv_aload_n dL_law_371 rfl ?_
  refine gv_iload_n dL_law_372 rfl ?_
  refine gv_iconst dL_law_373 ic_3 ?_
  refine gv_iadd dL_law_374 ?_
  refine gv_tabI dL_law_375 hT hi.2.2.1 ?_
  refine gv_aload_n dL_law_376 rfl ?_
  refine gv_iload_n dL_law_377 rfl ?_
  refine gv_iconst dL_law_378 ic_4 ?_
  refine gv_iadd dL_law_379 ?_
  refine gv_tabI dL_law_380 hT hi.2.2.2.1 ?_
  refine gv_aload_n dL_law_381 rfl ?_
  refine gv_iload_n dL_law_382 rfl ?_
  refine gv_iconst dL_law_383 ic_5 ?_
  refine gv_iadd dL_law_384 ?_
  refine gv_tabI dL_law_385 hT hi.2.2.2.2 ?_
  obtain ⟨y, z, h1, h2, h3, h4⟩ := hG tr kp M (xs (i + 1).toNatClampNeg) (xs (i + 2).toNatClampNeg) (xs (i + 3).toNatClampNeg) (xs (i + 4).toNatClampNeg) (xs (i + 5).toNatClampNeg) hg
  refine gv_callVi 3 (as := [.inl (xs (i + 1).toNatClampNeg), .inl (xs (i + 2).toNatClampNeg), .inl (xs (i + 3).toNatClampNeg), .inl (xs (i + 4).toNatClampNeg), .inl (xs (i + 5).toNatClampNeg)]) (lw_old hF K) (by rw [hR]; exact ⟨by decide, by decide, (by show cells ≤ 600000; omega), (by show slots ≤ 7302250; omega)⟩) dL_law_386 cv_RL_25 cb_X4_copy sh_4 rfl hk_4 rfl rfl (Nat.le_of_ble_eq_true rfl) (c_X4_copy (d := 0) h1) ?_
  refine gv_aload_n dL_law_389 rfl ?_
  refine gv_aload_n dL_law_390 rfl ?_
  refine gv_iload_n dL_law_391 rfl ?_
  refine gv_iconst dL_law_392 ic_1 ?_
  refine gv_iadd dL_law_393 ?_
  refine gv_tabI dL_law_394 hT hi.1 ?_
  refine gv_aload_n dL_law_395 rfl ?_
  refine gv_iload_n dL_law_396 rfl ?_
  refine gv_iconst dL_law_397 ic_2 ?_
  refine gv_iadd dL_law_398 ?_
  refine gv_tabI dL_law_399 hT hi.2.1 ?_
  refine gv_aload_n dL_law_400 rfl ?_
  refine gv_iload_n dL_law_401 rfl ?_
  refine gv_iconst dL_law_402 ic_3 ?_
  refine gv_iadd dL_law_403 ?_
  refine gv_tabI dL_law_404 hT hi.2.2.1 ?_
  refine gv_aload_n dL_law_405 rfl ?_
  refine gv_iload_n dL_law_406 rfl ?_
  refine gv_iconst dL_law_407 ic_4 ?_
  refine gv_iadd dL_law_408 ?_
  refine gv_tabI dL_law_409 hT hi.2.2.2.1 ?_
  refine gv_aload_n dL_law_410 rfl ?_
  refine gv_iload_n dL_law_411 rfl ?_
  refine gv_iconst dL_law_412 ic_5 ?_
  refine gv_iadd dL_law_413 ?_
  refine gv_tabI dL_law_414 hT hi.2.2.2.2 ?_
  refine gv_callVi 2 (as := [.inl (xs (i + 1).toNatClampNeg), .inl (xs (i + 2).toNatClampNeg), .inl (xs (i + 3).toNatClampNeg), .inl (xs (i + 4).toNatClampNeg), .inl (xs (i + 5).toNatClampNeg)]) (lw_old hF K) (by rw [hR]; exact ⟨by decide, by decide, (by show cells ≤ 600000; omega), (by show slots ≤ 7302250; omega)⟩) dL_law_415 cv_RL_29 cb_X5_copy sh_5 rfl hk_5 rfl rfl (Nat.le_of_ble_eq_true rfl) (c_X5_copy (d := 0) h2) ?_
  refine gv_icmp_eq 1496 dL_law_418 rfl (fun _ => ?_) (fun b1 => absurd h3 b1)
  exact gv_wide (by omega) (by omega) (KX _ _ tr kp (am_Ex.rf K) hst h4)
set_option maxHeartbeats 4000000 in
theorem lw_c_element {G : Bool → Bool → am_M → Prop} {F : gv_F} {K : am_K} {M : am_M} {tr kp : Bool} {b L cells slots : Nat} {xs : Nat → Int32} {i : Int32} (hG : ok_element G) (hF : lw_F F b L xs) (hb : am_ad K (9200, 0, 0) = b) (hc : cells + 187 ≤ 600000) (hs : slots + 4694 ≤ 7302250) (hst : am_Kst K tr kp) (hg : G tr kp M) (hi : vp_in (i + 1) L ∧ vp_in (i + 2) L ∧ vp_in (i + 3) L ∧ vp_in (i + 4) L ∧ vp_in (i + 5) L) (KX : ∀ K1 M1 tr1 kp1, am_Ex K K1 → am_Kst K1 tr1 kp1 → G tr1 kp1 M1 → gv F m_L_law K1 (cells + 187) (slots + 4694) 1496 [(0, .inr (.inr (9200, 0, 0))), (1, .inr (.inr (4, 0, 0))), (2, .inr (.inr (5, 0, 0))), (3, .inl i)] [] M1) : gv F m_L_law K cells slots 423 [(0, .inr (.inr (9200, 0, 0))), (1, .inr (.inr (4, 0, 0))), (2, .inr (.inr (5, 0, 0))), (3, .inl i)] [] M := by
  have hR := hF.1
  have hT : va_T .int (am_ad K (9200, 0, 0)) L (fun j => .int (xs j)) F.2.2.2.2.2.2.2.2.2.2 F.2.2.2.1 F.2.2.2.1.heap := by rw [hb]; exact hF.2.2.2
  refine gv_aload_n dL_law_423 rfl ?_
  refine gv_aload_n dL_law_424 rfl ?_
  refine gv_iload_n dL_law_425 rfl ?_
  refine gv_iconst dL_law_426 ic_1 ?_
  refine gv_iadd dL_law_427 ?_
  refine gv_tabI dL_law_428 hT hi.1 ?_
  refine gv_aload_n dL_law_429 rfl ?_
  refine gv_iload_n dL_law_430 rfl ?_
  refine gv_iconst dL_law_431 ic_2 ?_
  refine gv_iadd dL_law_432 ?_
  refine gv_tabI dL_law_433 hT hi.2.1 ?_
  obtain ⟨y, z, h1, h2, h3⟩ := hG tr kp M (xs (i + 1).toNatClampNeg) (xs (i + 2).toNatClampNeg) hg
  refine gv_callVl 2 (as := [.inl (xs (i + 1).toNatClampNeg), .inl (xs (i + 2).toNatClampNeg)]) (lw_old hF K) (by rw [hR]; exact ⟨by decide, by decide, (by show cells ≤ 600000; omega), (by show slots ≤ 7302250; omega)⟩) dL_law_434 cv_RL_30 cb_X4_element sh_4 rfl hk_4 rfl rfl (Nat.le_of_ble_eq_true rfl) (c_X4_element (d := 0) h1) ?_
  refine gv_aload_n dL_law_437 rfl ?_
  refine gv_aload_n dL_law_438 rfl ?_
  refine gv_iload_n dL_law_439 rfl ?_
  refine gv_iconst dL_law_440 ic_1 ?_
  refine gv_iadd dL_law_441 ?_
  refine gv_tabI dL_law_442 hT hi.1 ?_
  refine gv_aload_n dL_law_443 rfl ?_
  refine gv_iload_n dL_law_444 rfl ?_
  refine gv_iconst dL_law_445 ic_2 ?_
  refine gv_iadd dL_law_446 ?_
  refine gv_tabI dL_law_447 hT hi.2.1 ?_
  refine gv_callVl 1 (as := [.inl (xs (i + 1).toNatClampNeg), .inl (xs (i + 2).toNatClampNeg)]) (lw_old hF K) (by rw [hR]; exact ⟨by decide, by decide, (by show cells ≤ 600000; omega), (by show slots ≤ 7302250; omega)⟩) dL_law_448 cv_RL_34 cb_X5_element sh_5 rfl hk_5 rfl rfl (Nat.le_of_ble_eq_true rfl) (c_X5_element (d := 0) h2) ?_
  refine gv_lcmp dL_law_451 ?_
  have hq : lg_cmp y z = 0 := by rw [h3]; unfold lg_cmp; simp
  refine gv_if_eq 1496 dL_law_452 rfl (fun _ => ?_) (fun b1 => absurd hq b1)
  exact gv_wide (by omega) (by omega) (KX _ _ tr kp (am_Ex.rf K) hst hg)
set_option maxHeartbeats 4000000 in
theorem lw_c_holds {G : Bool → Bool → am_M → Prop} {F : gv_F} {K : am_K} {M : am_M} {tr kp : Bool} {b L cells slots : Nat} {xs : Nat → Int32} {i : Int32} (hG : ok_holds G) (hF : lw_F F b L xs) (hb : am_ad K (9200, 0, 0) = b) (hc : cells + 187 ≤ 600000) (hs : slots + 4694 ≤ 7302250) (hst : am_Kst K tr kp) (hg : G tr kp M) (hi : vp_in (i + 1) L ∧ vp_in (i + 2) L ∧ vp_in (i + 3) L ∧ vp_in (i + 4) L ∧ vp_in (i + 5) L) (KX : ∀ K1 M1 tr1 kp1, am_Ex K K1 → am_Kst K1 tr1 kp1 → G tr1 kp1 M1 → gv F m_L_law K1 (cells + 187) (slots + 4694) 1496 [(0, .inr (.inr (9200, 0, 0))), (1, .inr (.inr (4, 0, 0))), (2, .inr (.inr (5, 0, 0))), (3, .inl i)] [] M1) : gv F m_L_law K cells slots 457 [(0, .inr (.inr (9200, 0, 0))), (1, .inr (.inr (4, 0, 0))), (2, .inr (.inr (5, 0, 0))), (3, .inl i)] [] M := by
  have hR := hF.1
  have hT : va_T .int (am_ad K (9200, 0, 0)) L (fun j => .int (xs j)) F.2.2.2.2.2.2.2.2.2.2 F.2.2.2.1 F.2.2.2.1.heap := by rw [hb]; exact hF.2.2.2
  refine gv_aload_n dL_law_457 rfl ?_
  refine gv_aload_n dL_law_458 rfl ?_
  refine gv_iload_n dL_law_459 rfl ?_
  refine gv_iconst dL_law_460 ic_1 ?_
  refine gv_iadd dL_law_461 ?_
  refine gv_tabI dL_law_462 hT hi.1 ?_
  obtain ⟨y, z, h1, h2, h3⟩ := hG tr kp M (xs (i + 1).toNatClampNeg) hg
  refine gv_callVi 2 (as := [.inl (xs (i + 1).toNatClampNeg)]) (lw_old hF K) (by rw [hR]; exact ⟨by decide, by decide, (by show cells ≤ 600000; omega), (by show slots ≤ 7302250; omega)⟩) dL_law_463 cv_RL_35 cb_X4_holds sh_4 rfl hk_4 rfl rfl (Nat.le_of_ble_eq_true rfl) (c_X4_holds (d := 0) h1) ?_
  refine gv_aload_n dL_law_466 rfl ?_
  refine gv_aload_n dL_law_467 rfl ?_
  refine gv_iload_n dL_law_468 rfl ?_
  refine gv_iconst dL_law_469 ic_1 ?_
  refine gv_iadd dL_law_470 ?_
  refine gv_tabI dL_law_471 hT hi.1 ?_
  refine gv_callVi 1 (as := [.inl (xs (i + 1).toNatClampNeg)]) (lw_old hF K) (by rw [hR]; exact ⟨by decide, by decide, (by show cells ≤ 600000; omega), (by show slots ≤ 7302250; omega)⟩) dL_law_472 cv_RL_39 cb_X5_holds sh_5 rfl hk_5 rfl rfl (Nat.le_of_ble_eq_true rfl) (c_X5_holds (d := 0) h2) ?_
  refine gv_icmp_eq 1496 dL_law_475 rfl (fun _ => ?_) (fun b1 => absurd h3 b1)
  exact gv_wide (by omega) (by omega) (KX _ _ tr kp (am_Ex.rf K) hst hg)
set_option maxHeartbeats 4000000 in
theorem lw_c_drawing {G : Bool → Bool → am_M → Prop} {F : gv_F} {K : am_K} {M : am_M} {tr kp : Bool} {b L cells slots : Nat} {xs : Nat → Int32} {i : Int32} (hG : ok_drawing G) (hF : lw_F F b L xs) (hb : am_ad K (9200, 0, 0) = b) (hc : cells + 187 ≤ 600000) (hs : slots + 4694 ≤ 7302250) (hst : am_Kst K tr kp) (hg : G tr kp M) (hi : vp_in (i + 1) L ∧ vp_in (i + 2) L ∧ vp_in (i + 3) L ∧ vp_in (i + 4) L ∧ vp_in (i + 5) L) (KX : ∀ K1 M1 tr1 kp1, am_Ex K K1 → am_Kst K1 tr1 kp1 → G tr1 kp1 M1 → gv F m_L_law K1 (cells + 187) (slots + 4694) 1496 [(0, .inr (.inr (9200, 0, 0))), (1, .inr (.inr (4, 0, 0))), (2, .inr (.inr (5, 0, 0))), (3, .inl i)] [] M1) : gv F m_L_law K cells slots 480 [(0, .inr (.inr (9200, 0, 0))), (1, .inr (.inr (4, 0, 0))), (2, .inr (.inr (5, 0, 0))), (3, .inl i)] [] M := by
  have hR := hF.1
  have hT : va_T .int (am_ad K (9200, 0, 0)) L (fun j => .int (xs j)) F.2.2.2.2.2.2.2.2.2.2 F.2.2.2.1 F.2.2.2.1.heap := by rw [hb]; exact hF.2.2.2
  refine gv_aload_n dL_law_480 rfl ?_
  refine gv_aload_n dL_law_481 rfl ?_
  refine gv_iload_n dL_law_482 rfl ?_
  refine gv_iconst dL_law_483 ic_1 ?_
  refine gv_iadd dL_law_484 ?_
  refine gv_tabI dL_law_485 hT hi.1 ?_
  refine gv_aload_n dL_law_486 rfl ?_
  refine gv_iload_n dL_law_487 rfl ?_
  refine gv_iconst dL_law_488 ic_2 ?_
  refine gv_iadd dL_law_489 ?_
  refine gv_tabI dL_law_490 hT hi.2.1 ?_
  refine gv_aload_n dL_law_491 rfl ?_
  refine gv_iload_n dL_law_492 rfl ?_
  refine gv_iconst dL_law_493 ic_3 ?_
  refine gv_iadd dL_law_494 ?_
  refine gv_tabI dL_law_495 hT hi.2.2.1 ?_
  obtain ⟨y, z, h1, h2, h3, h4⟩ := hG tr kp M (xs (i + 1).toNatClampNeg) (xs (i + 2).toNatClampNeg) (xs (i + 3).toNatClampNeg) hg
  refine gv_callVi 2 (as := [.inl (xs (i + 1).toNatClampNeg), .inl (xs (i + 2).toNatClampNeg), .inl (xs (i + 3).toNatClampNeg)]) (lw_old hF K) (by rw [hR]; exact ⟨by decide, by decide, (by show cells ≤ 600000; omega), (by show slots ≤ 7302250; omega)⟩) dL_law_496 cv_RL_40 cb_X4_drawing sh_4 rfl hk_4 rfl rfl (Nat.le_of_ble_eq_true rfl) (c_X4_drawing (d := 0) h1) ?_
  refine gv_aload_n dL_law_499 rfl ?_
  refine gv_aload_n dL_law_500 rfl ?_
  refine gv_iload_n dL_law_501 rfl ?_
  refine gv_iconst dL_law_502 ic_1 ?_
  refine gv_iadd dL_law_503 ?_
  refine gv_tabI dL_law_504 hT hi.1 ?_
  refine gv_aload_n dL_law_505 rfl ?_
  refine gv_iload_n dL_law_506 rfl ?_
  refine gv_iconst dL_law_507 ic_2 ?_
  refine gv_iadd dL_law_508 ?_
  refine gv_tabI dL_law_509 hT hi.2.1 ?_
  refine gv_aload_n dL_law_510 rfl ?_
  refine gv_iload_n dL_law_511 rfl ?_
  refine gv_iconst dL_law_512 ic_3 ?_
  refine gv_iadd dL_law_513 ?_
  refine gv_tabI dL_law_514 hT hi.2.2.1 ?_
  refine gv_callVi 1 (as := [.inl (xs (i + 1).toNatClampNeg), .inl (xs (i + 2).toNatClampNeg), .inl (xs (i + 3).toNatClampNeg)]) (lw_old hF K) (by rw [hR]; exact ⟨by decide, by decide, (by show cells ≤ 600000; omega), (by show slots ≤ 7302250; omega)⟩) dL_law_515 cv_RL_43 cb_X5_drawing sh_5 rfl hk_5 rfl rfl (Nat.le_of_ble_eq_true rfl) (c_X5_drawing (d := 0) h2) ?_
  refine gv_icmp_eq 1496 dL_law_518 rfl (fun _ => ?_) (fun b1 => absurd h3 b1)
  exact gv_wide (by omega) (by omega) (KX _ _ tr kp (am_Ex.rf K) hst h4)
set_option maxHeartbeats 4000000 in
theorem lw_c_says {G : Bool → Bool → am_M → Prop} {F : gv_F} {K : am_K} {M : am_M} {tr kp : Bool} {b L cells slots : Nat} {xs : Nat → Int32} {i : Int32} (hG : ok_says G) (hF : lw_F F b L xs) (hb : am_ad K (9200, 0, 0) = b) (hc : cells + 187 ≤ 600000) (hs : slots + 4694 ≤ 7302250) (hst : am_Kst K tr kp) (hg : G tr kp M) (hi : vp_in (i + 1) L ∧ vp_in (i + 2) L ∧ vp_in (i + 3) L ∧ vp_in (i + 4) L ∧ vp_in (i + 5) L) (KX : ∀ K1 M1 tr1 kp1, am_Ex K K1 → am_Kst K1 tr1 kp1 → G tr1 kp1 M1 → gv F m_L_law K1 (cells + 187) (slots + 4694) 1496 [(0, .inr (.inr (9200, 0, 0))), (1, .inr (.inr (4, 0, 0))), (2, .inr (.inr (5, 0, 0))), (3, .inl i)] [] M1) : gv F m_L_law K cells slots 523 [(0, .inr (.inr (9200, 0, 0))), (1, .inr (.inr (4, 0, 0))), (2, .inr (.inr (5, 0, 0))), (3, .inl i)] [] M := by
  have hR := hF.1
  have hT : va_T .int (am_ad K (9200, 0, 0)) L (fun j => .int (xs j)) F.2.2.2.2.2.2.2.2.2.2 F.2.2.2.1 F.2.2.2.1.heap := by rw [hb]; exact hF.2.2.2
  refine gv_aload_n dL_law_523 rfl ?_
  refine gv_aload_n dL_law_524 rfl ?_
  refine gv_iload_n dL_law_525 rfl ?_
  refine gv_iconst dL_law_526 ic_1 ?_
  refine gv_iadd dL_law_527 ?_
  refine gv_tabI dL_law_528 hT hi.1 ?_
  refine gv_aload_n dL_law_529 rfl ?_
  refine gv_iload_n dL_law_530 rfl ?_
  refine gv_iconst dL_law_531 ic_2 ?_
  refine gv_iadd dL_law_532 ?_
  refine gv_tabI dL_law_533 hT hi.2.1 ?_
  obtain ⟨y, z, h1, h2, h3, h4⟩ := hG tr kp M (xs (i + 1).toNatClampNeg) (xs (i + 2).toNatClampNeg) hg
  refine gv_callVi 5 (as := [.inl (xs (i + 1).toNatClampNeg), .inl (xs (i + 2).toNatClampNeg)]) (lw_old hF K) (by rw [hR]; exact ⟨by decide, by decide, (by show cells ≤ 600000; omega), (by show slots ≤ 7302250; omega)⟩) dL_law_534 cv_RL_44 cb_X4_says sh_4 rfl hk_4 rfl rfl (Nat.le_of_ble_eq_true rfl) (c_X4_says (d := 0) h1) ?_
  refine gv_aload_n dL_law_537 rfl ?_
  refine gv_aload_n dL_law_538 rfl ?_
  refine gv_iload_n dL_law_539 rfl ?_
  refine gv_iconst dL_law_540 ic_1 ?_
  refine gv_iadd dL_law_541 ?_
  refine gv_tabI dL_law_542 hT hi.1 ?_
  refine gv_aload_n dL_law_543 rfl ?_
  refine gv_iload_n dL_law_544 rfl ?_
  refine gv_iconst dL_law_545 ic_2 ?_
  refine gv_iadd dL_law_546 ?_
  refine gv_tabI dL_law_547 hT hi.2.1 ?_
  refine gv_callVi 5 (as := [.inl (xs (i + 1).toNatClampNeg), .inl (xs (i + 2).toNatClampNeg)]) (lw_old hF K) (by rw [hR]; exact ⟨by decide, by decide, (by show cells ≤ 600000; omega), (by show slots ≤ 7302250; omega)⟩) dL_law_548 cv_RL_48 cb_X5_says sh_5 rfl hk_5 rfl rfl (Nat.le_of_ble_eq_true rfl) (c_X5_says (d := 0) h2) ?_
  refine gv_icmp_eq 1496 dL_law_551 rfl (fun _ => ?_) (fun b1 => absurd h3 b1)
  exact gv_wide (by omega) (by omega) (KX _ _ tr kp (am_Ex.rf K) hst h4)
set_option maxHeartbeats 4000000 in
theorem lw_c_heap {G : Bool → Bool → am_M → Prop} {F : gv_F} {K : am_K} {M : am_M} {tr kp : Bool} {b L cells slots : Nat} {xs : Nat → Int32} {i : Int32} (hG : ok_heap G) (hF : lw_F F b L xs) (hb : am_ad K (9200, 0, 0) = b) (hc : cells + 187 ≤ 600000) (hs : slots + 4694 ≤ 7302250) (hst : am_Kst K tr kp) (hg : G tr kp M) (hi : vp_in (i + 1) L ∧ vp_in (i + 2) L ∧ vp_in (i + 3) L ∧ vp_in (i + 4) L ∧ vp_in (i + 5) L) (KX : ∀ K1 M1 tr1 kp1, am_Ex K K1 → am_Kst K1 tr1 kp1 → G tr1 kp1 M1 → gv F m_L_law K1 (cells + 187) (slots + 4694) 1496 [(0, .inr (.inr (9200, 0, 0))), (1, .inr (.inr (4, 0, 0))), (2, .inr (.inr (5, 0, 0))), (3, .inl i)] [] M1) : gv F m_L_law K cells slots 556 [(0, .inr (.inr (9200, 0, 0))), (1, .inr (.inr (4, 0, 0))), (2, .inr (.inr (5, 0, 0))), (3, .inl i)] [] M := by
  have hR := hF.1
  have hT : va_T .int (am_ad K (9200, 0, 0)) L (fun j => .int (xs j)) F.2.2.2.2.2.2.2.2.2.2 F.2.2.2.1 F.2.2.2.1.heap := by rw [hb]; exact hF.2.2.2
  refine gv_aload_n dL_law_556 rfl ?_
  refine gv_aload_n dL_law_557 rfl ?_
  refine gv_iload_n dL_law_558 rfl ?_
  refine gv_iconst dL_law_559 ic_1 ?_
  refine gv_iadd dL_law_560 ?_
  refine gv_tabI dL_law_561 hT hi.1 ?_
  refine gv_aload_n dL_law_562 rfl ?_
  refine gv_iload_n dL_law_563 rfl ?_
  refine gv_iconst dL_law_564 ic_2 ?_
  refine gv_iadd dL_law_565 ?_
  refine gv_tabI dL_law_566 hT hi.2.1 ?_
  obtain ⟨y, z, h1, h2, h3, h4⟩ := hG tr kp M (xs (i + 1).toNatClampNeg) (xs (i + 2).toNatClampNeg) hg
  refine gv_callVi 2 (as := [.inl (xs (i + 1).toNatClampNeg), .inl (xs (i + 2).toNatClampNeg)]) (lw_old hF K) (by rw [hR]; exact ⟨by decide, by decide, (by show cells ≤ 600000; omega), (by show slots ≤ 7302250; omega)⟩) dL_law_567 cv_RL_49 cb_X4_heap sh_4 rfl hk_4 rfl rfl (Nat.le_of_ble_eq_true rfl) (c_X4_heap (d := 0) h1) ?_
  refine gv_aload_n dL_law_570 rfl ?_
  refine gv_aload_n dL_law_571 rfl ?_
  refine gv_iload_n dL_law_572 rfl ?_
  refine gv_iconst dL_law_573 ic_1 ?_
  refine gv_iadd dL_law_574 ?_
  refine gv_tabI dL_law_575 hT hi.1 ?_
  refine gv_aload_n dL_law_576 rfl ?_
  refine gv_iload_n dL_law_577 rfl ?_
  refine gv_iconst dL_law_578 ic_2 ?_
  refine gv_iadd dL_law_579 ?_
  refine gv_tabI dL_law_580 hT hi.2.1 ?_
  refine gv_callVi 2 (as := [.inl (xs (i + 1).toNatClampNeg), .inl (xs (i + 2).toNatClampNeg)]) (lw_old hF K) (by rw [hR]; exact ⟨by decide, by decide, (by show cells ≤ 600000; omega), (by show slots ≤ 7302250; omega)⟩) dL_law_581 cv_RL_52 cb_X5_heap sh_5 rfl hk_5 rfl rfl (Nat.le_of_ble_eq_true rfl) (c_X5_heap (d := 0) h2) ?_
  refine gv_icmp_eq 1496 dL_law_584 rfl (fun _ => ?_) (fun b1 => absurd h3 b1)
  exact gv_wide (by omega) (by omega) (KX _ _ tr kp (am_Ex.rf K) hst h4)
set_option maxHeartbeats 4000000 in
theorem lw_c_fact {G : Bool → Bool → am_M → Prop} {F : gv_F} {K : am_K} {M : am_M} {tr kp : Bool} {b L cells slots : Nat} {xs : Nat → Int32} {i : Int32} (hG : ok_fact G) (hF : lw_F F b L xs) (hb : am_ad K (9200, 0, 0) = b) (hc : cells + 187 ≤ 600000) (hs : slots + 4694 ≤ 7302250) (hst : am_Kst K tr kp) (hg : G tr kp M) (hi : vp_in (i + 1) L ∧ vp_in (i + 2) L ∧ vp_in (i + 3) L ∧ vp_in (i + 4) L ∧ vp_in (i + 5) L) (KX : ∀ K1 M1 tr1 kp1, am_Ex K K1 → am_Kst K1 tr1 kp1 → G tr1 kp1 M1 → gv F m_L_law K1 (cells + 187) (slots + 4694) 1496 [(0, .inr (.inr (9200, 0, 0))), (1, .inr (.inr (4, 0, 0))), (2, .inr (.inr (5, 0, 0))), (3, .inl i)] [] M1) : gv F m_L_law K cells slots 589 [(0, .inr (.inr (9200, 0, 0))), (1, .inr (.inr (4, 0, 0))), (2, .inr (.inr (5, 0, 0))), (3, .inl i)] [] M := by
  have hR := hF.1
  have hT : va_T .int (am_ad K (9200, 0, 0)) L (fun j => .int (xs j)) F.2.2.2.2.2.2.2.2.2.2 F.2.2.2.1 F.2.2.2.1.heap := by rw [hb]; exact hF.2.2.2
  refine gv_aload_n dL_law_589 rfl ?_
  refine gv_aload_n dL_law_590 rfl ?_
  refine gv_iload_n dL_law_591 rfl ?_
  refine gv_iconst dL_law_592 ic_1 ?_
  refine gv_iadd dL_law_593 ?_
  refine gv_tabI dL_law_594 hT hi.1 ?_
  refine gv_aload_n dL_law_595 rfl ?_
  refine gv_iload_n dL_law_596 rfl ?_
  refine gv_iconst dL_law_597 ic_2 ?_
  refine gv_iadd dL_law_598 ?_
  refine gv_tabI dL_law_599 hT hi.2.1 ?_
  refine gv_aload_n dL_law_600 rfl ?_
  refine gv_iload_n dL_law_601 rfl ?_
  refine gv_iconst dL_law_602 ic_3 ?_
  refine gv_iadd dL_law_603 ?_
  refine gv_tabI dL_law_604 hT hi.2.2.1 ?_
  obtain ⟨y, z, h1, h2, h3, h4⟩ := hG tr kp M (xs (i + 1).toNatClampNeg) (xs (i + 2).toNatClampNeg) (xs (i + 3).toNatClampNeg) hg
  refine gv_callVi 2 (as := [.inl (xs (i + 1).toNatClampNeg), .inl (xs (i + 2).toNatClampNeg), .inl (xs (i + 3).toNatClampNeg)]) (lw_old hF K) (by rw [hR]; exact ⟨by decide, by decide, (by show cells ≤ 600000; omega), (by show slots ≤ 7302250; omega)⟩) dL_law_605 cv_RL_53 cb_X4_fact sh_4 rfl hk_4 rfl rfl (Nat.le_of_ble_eq_true rfl) (c_X4_fact (d := 0) h1) ?_
  refine gv_aload_n dL_law_608 rfl ?_
  refine gv_aload_n dL_law_609 rfl ?_
  refine gv_iload_n dL_law_610 rfl ?_
  refine gv_iconst dL_law_611 ic_1 ?_
  refine gv_iadd dL_law_612 ?_
  refine gv_tabI dL_law_613 hT hi.1 ?_
  refine gv_aload_n dL_law_614 rfl ?_
  refine gv_iload_n dL_law_615 rfl ?_
  refine gv_iconst dL_law_616 ic_2 ?_
  refine gv_iadd dL_law_617 ?_
  refine gv_tabI dL_law_618 hT hi.2.1 ?_
  refine gv_aload_n dL_law_619 rfl ?_
  refine gv_iload_n dL_law_620 rfl ?_
  refine gv_iconst dL_law_621 ic_3 ?_
  refine gv_iadd dL_law_622 ?_
  refine gv_tabI dL_law_623 hT hi.2.2.1 ?_
  refine gv_callVi 1 (as := [.inl (xs (i + 1).toNatClampNeg), .inl (xs (i + 2).toNatClampNeg), .inl (xs (i + 3).toNatClampNeg)]) (lw_old hF K) (by rw [hR]; exact ⟨by decide, by decide, (by show cells ≤ 600000; omega), (by show slots ≤ 7302250; omega)⟩) dL_law_624 cv_RL_56 cb_X5_fact sh_5 rfl hk_5 rfl rfl (Nat.le_of_ble_eq_true rfl) (c_X5_fact (d := 0) h2) ?_
  refine gv_icmp_eq 1496 dL_law_627 rfl (fun _ => ?_) (fun b1 => absurd h3 b1)
  exact gv_wide (by omega) (by omega) (KX _ _ tr kp (am_Ex.rf K) hst h4)
set_option maxHeartbeats 4000000 in
theorem lw_c_forget {G : Bool → Bool → am_M → Prop} {F : gv_F} {K : am_K} {M : am_M} {tr kp : Bool} {b L cells slots : Nat} {xs : Nat → Int32} {i : Int32} (hG : ok_forget G) (hF : lw_F F b L xs) (hb : am_ad K (9200, 0, 0) = b) (hc : cells + 187 ≤ 600000) (hs : slots + 4694 ≤ 7302250) (hst : am_Kst K tr kp) (hg : G tr kp M) (hi : vp_in (i + 1) L ∧ vp_in (i + 2) L ∧ vp_in (i + 3) L ∧ vp_in (i + 4) L ∧ vp_in (i + 5) L) (KX : ∀ K1 M1 tr1 kp1, am_Ex K K1 → am_Kst K1 tr1 kp1 → G tr1 kp1 M1 → gv F m_L_law K1 (cells + 187) (slots + 4694) 1496 [(0, .inr (.inr (9200, 0, 0))), (1, .inr (.inr (4, 0, 0))), (2, .inr (.inr (5, 0, 0))), (3, .inl i)] [] M1) : gv F m_L_law K cells slots 632 [(0, .inr (.inr (9200, 0, 0))), (1, .inr (.inr (4, 0, 0))), (2, .inr (.inr (5, 0, 0))), (3, .inl i)] [] M := by
  have hR := hF.1
  have hT : va_T .int (am_ad K (9200, 0, 0)) L (fun j => .int (xs j)) F.2.2.2.2.2.2.2.2.2.2 F.2.2.2.1 F.2.2.2.1.heap := by rw [hb]; exact hF.2.2.2
  refine gv_aload_n dL_law_632 rfl ?_
  refine gv_aload_n dL_law_633 rfl ?_
  refine gv_iload_n dL_law_634 rfl ?_
  refine gv_iconst dL_law_635 ic_1 ?_
  refine gv_iadd dL_law_636 ?_
  refine gv_tabI dL_law_637 hT hi.1 ?_
  obtain ⟨y, z, h1, h2, h3, h4⟩ := hG tr kp M (xs (i + 1).toNatClampNeg) hg
  refine gv_callVi 2 (as := [.inl (xs (i + 1).toNatClampNeg)]) (lw_old hF K) (by rw [hR]; exact ⟨by decide, by decide, (by show cells ≤ 600000; omega), (by show slots ≤ 7302250; omega)⟩) dL_law_638 cv_RL_57 cb_X4_forget sh_4 rfl hk_4 rfl rfl (Nat.le_of_ble_eq_true rfl) (c_X4_forget (d := 0) h1) ?_
  refine gv_aload_n dL_law_641 rfl ?_
  refine gv_aload_n dL_law_642 rfl ?_
  refine gv_iload_n dL_law_643 rfl ?_
  refine gv_iconst dL_law_644 ic_1 ?_
  refine gv_iadd dL_law_645 ?_
  refine gv_tabI dL_law_646 hT hi.1 ?_
  refine gv_callVi 1 (as := [.inl (xs (i + 1).toNatClampNeg)]) (lw_old hF K) (by rw [hR]; exact ⟨by decide, by decide, (by show cells ≤ 600000; omega), (by show slots ≤ 7302250; omega)⟩) dL_law_647 cv_RL_60 cb_X5_forget sh_5 rfl hk_5 rfl rfl (Nat.le_of_ble_eq_true rfl) (c_X5_forget (d := 0) h2) ?_
  refine gv_icmp_eq 1496 dL_law_650 rfl (fun _ => ?_) (fun b1 => absurd h3 b1)
  exact gv_wide (by omega) (by omega) (KX _ _ tr kp (am_Ex.rf K) hst h4)
set_option maxHeartbeats 4000000 in
theorem lw_c_swap {G : Bool → Bool → am_M → Prop} {F : gv_F} {K : am_K} {M : am_M} {tr kp : Bool} {b L cells slots : Nat} {xs : Nat → Int32} {i : Int32} (hG : ok_swap G) (hF : lw_F F b L xs) (hb : am_ad K (9200, 0, 0) = b) (hc : cells + 187 ≤ 600000) (hs : slots + 4694 ≤ 7302250) (hst : am_Kst K tr kp) (hg : G tr kp M) (hi : vp_in (i + 1) L ∧ vp_in (i + 2) L ∧ vp_in (i + 3) L ∧ vp_in (i + 4) L ∧ vp_in (i + 5) L) (KX : ∀ K1 M1 tr1 kp1, am_Ex K K1 → am_Kst K1 tr1 kp1 → G tr1 kp1 M1 → gv F m_L_law K1 (cells + 187) (slots + 4694) 1496 [(0, .inr (.inr (9200, 0, 0))), (1, .inr (.inr (4, 0, 0))), (2, .inr (.inr (5, 0, 0))), (3, .inl i)] [] M1) : gv F m_L_law K cells slots 655 [(0, .inr (.inr (9200, 0, 0))), (1, .inr (.inr (4, 0, 0))), (2, .inr (.inr (5, 0, 0))), (3, .inl i)] [] M := by
  have hR := hF.1
  have hT : va_T .int (am_ad K (9200, 0, 0)) L (fun j => .int (xs j)) F.2.2.2.2.2.2.2.2.2.2 F.2.2.2.1 F.2.2.2.1.heap := by rw [hb]; exact hF.2.2.2
  refine gv_aload_n dL_law_655 rfl ?_
  refine gv_aload_n dL_law_656 rfl ?_
  refine gv_iload_n dL_law_657 rfl ?_
  refine gv_iconst dL_law_658 ic_1 ?_
  refine gv_iadd dL_law_659 ?_
  refine gv_tabI dL_law_660 hT hi.1 ?_
  refine gv_aload_n dL_law_661 rfl ?_
  refine gv_iload_n dL_law_662 rfl ?_
  refine gv_iconst dL_law_663 ic_2 ?_
  refine gv_iadd dL_law_664 ?_
  refine gv_tabI dL_law_665 hT hi.2.1 ?_
  obtain ⟨y, z, h1, h2, h3, h4⟩ := hG tr kp M (xs (i + 1).toNatClampNeg) (xs (i + 2).toNatClampNeg) hg
  refine gv_callVi 2 (as := [.inl (xs (i + 1).toNatClampNeg), .inl (xs (i + 2).toNatClampNeg)]) (lw_old hF K) (by rw [hR]; exact ⟨by decide, by decide, (by show cells ≤ 600000; omega), (by show slots ≤ 7302250; omega)⟩) dL_law_666 cv_RL_61 cb_X4_swap sh_4 rfl hk_4 rfl rfl (Nat.le_of_ble_eq_true rfl) (c_X4_swap (d := 0) h1) ?_
  refine gv_aload_n dL_law_669 rfl ?_
  refine gv_aload_n dL_law_670 rfl ?_
  refine gv_iload_n dL_law_671 rfl ?_
  refine gv_iconst dL_law_672 ic_1 ?_
  refine gv_iadd dL_law_673 ?_
  refine gv_tabI dL_law_674 hT hi.1 ?_
  refine gv_aload_n dL_law_675 rfl ?_
  refine gv_iload_n dL_law_676 rfl ?_
  refine gv_iconst dL_law_677 ic_2 ?_
  refine gv_iadd dL_law_678 ?_
  refine gv_tabI dL_law_679 hT hi.2.1 ?_
  refine gv_callVi 1 (as := [.inl (xs (i + 1).toNatClampNeg), .inl (xs (i + 2).toNatClampNeg)]) (lw_old hF K) (by rw [hR]; exact ⟨by decide, by decide, (by show cells ≤ 600000; omega), (by show slots ≤ 7302250; omega)⟩) dL_law_680 cv_RL_64 cb_X5_swap sh_5 rfl hk_5 rfl rfl (Nat.le_of_ble_eq_true rfl) (c_X5_swap (d := 0) h2) ?_
  refine gv_icmp_eq 1496 dL_law_683 rfl (fun _ => ?_) (fun b1 => absurd h3 b1)
  exact gv_wide (by omega) (by omega) (KX _ _ tr kp (am_Ex.rf K) hst h4)
set_option maxHeartbeats 4000000 in
theorem lw_c_feed {G : Bool → Bool → am_M → Prop} {F : gv_F} {K : am_K} {M : am_M} {tr kp : Bool} {b L cells slots : Nat} {xs : Nat → Int32} {i : Int32} (hG : ok_feed G) (hF : lw_F F b L xs) (hb : am_ad K (9200, 0, 0) = b) (hc : cells + 187 ≤ 600000) (hs : slots + 4694 ≤ 7302250) (hst : am_Kst K tr kp) (hg : G tr kp M) (hi : vp_in (i + 1) L ∧ vp_in (i + 2) L ∧ vp_in (i + 3) L ∧ vp_in (i + 4) L ∧ vp_in (i + 5) L) (KX : ∀ K1 M1 tr1 kp1, am_Ex K K1 → am_Kst K1 tr1 kp1 → G tr1 kp1 M1 → gv F m_L_law K1 (cells + 187) (slots + 4694) 1496 [(0, .inr (.inr (9200, 0, 0))), (1, .inr (.inr (4, 0, 0))), (2, .inr (.inr (5, 0, 0))), (3, .inl i)] [] M1) : gv F m_L_law K cells slots 688 [(0, .inr (.inr (9200, 0, 0))), (1, .inr (.inr (4, 0, 0))), (2, .inr (.inr (5, 0, 0))), (3, .inl i)] [] M := by
  have hR := hF.1
  have hT : va_T .int (am_ad K (9200, 0, 0)) L (fun j => .int (xs j)) F.2.2.2.2.2.2.2.2.2.2 F.2.2.2.1 F.2.2.2.1.heap := by rw [hb]; exact hF.2.2.2
  refine gv_aload_n dL_law_688 rfl ?_
  refine gv_aload_n dL_law_689 rfl ?_
  refine gv_iload_n dL_law_690 rfl ?_
  refine gv_iconst dL_law_691 ic_1 ?_
  refine gv_iadd dL_law_692 ?_
  refine gv_tabI dL_law_693 hT hi.1 ?_
  obtain ⟨y, z, h1, h2, h3, h4⟩ := hG tr kp M (xs (i + 1).toNatClampNeg) hg
  refine gv_callVi 2 (as := [.inl (xs (i + 1).toNatClampNeg)]) (lw_old hF K) (by rw [hR]; exact ⟨by decide, by decide, (by show cells ≤ 600000; omega), (by show slots ≤ 7302250; omega)⟩) dL_law_694 cv_RL_65 cb_X4_feed sh_4 rfl hk_4 rfl rfl (Nat.le_of_ble_eq_true rfl) (c_X4_feed (d := 0) h1) ?_
  refine gv_aload_n dL_law_697 rfl ?_
  refine gv_aload_n dL_law_698 rfl ?_
  refine gv_iload_n dL_law_699 rfl ?_
  refine gv_iconst dL_law_700 ic_1 ?_
  refine gv_iadd dL_law_701 ?_
  refine gv_tabI dL_law_702 hT hi.1 ?_
  refine gv_callVi 1 (as := [.inl (xs (i + 1).toNatClampNeg)]) (lw_old hF K) (by rw [hR]; exact ⟨by decide, by decide, (by show cells ≤ 600000; omega), (by show slots ≤ 7302250; omega)⟩) dL_law_703 cv_RL_68 cb_X5_feed sh_5 rfl hk_5 rfl rfl (Nat.le_of_ble_eq_true rfl) (c_X5_feed (d := 0) h2) ?_
  refine gv_icmp_eq 1496 dL_law_706 rfl (fun _ => ?_) (fun b1 => absurd h3 b1)
  exact gv_wide (by omega) (by omega) (KX _ _ tr kp (am_Ex.rf K) hst h4)
set_option maxHeartbeats 4000000 in
theorem lw_c_wipe {G : Bool → Bool → am_M → Prop} {F : gv_F} {K : am_K} {M : am_M} {tr kp : Bool} {b L cells slots : Nat} {xs : Nat → Int32} {i : Int32} (hG : ok_wipe G) (hF : lw_F F b L xs) (hb : am_ad K (9200, 0, 0) = b) (hc : cells + 187 ≤ 600000) (hs : slots + 4694 ≤ 7302250) (hst : am_Kst K tr kp) (hg : G tr kp M) (hi : vp_in (i + 1) L ∧ vp_in (i + 2) L ∧ vp_in (i + 3) L ∧ vp_in (i + 4) L ∧ vp_in (i + 5) L) (KX : ∀ K1 M1 tr1 kp1, am_Ex K K1 → am_Kst K1 tr1 kp1 → G tr1 kp1 M1 → gv F m_L_law K1 (cells + 187) (slots + 4694) 1496 [(0, .inr (.inr (9200, 0, 0))), (1, .inr (.inr (4, 0, 0))), (2, .inr (.inr (5, 0, 0))), (3, .inl i)] [] M1) : gv F m_L_law K cells slots 711 [(0, .inr (.inr (9200, 0, 0))), (1, .inr (.inr (4, 0, 0))), (2, .inr (.inr (5, 0, 0))), (3, .inl i)] [] M := by
  have hR := hF.1
  have hT : va_T .int (am_ad K (9200, 0, 0)) L (fun j => .int (xs j)) F.2.2.2.2.2.2.2.2.2.2 F.2.2.2.1 F.2.2.2.1.heap := by rw [hb]; exact hF.2.2.2
  refine gv_aload_n dL_law_711 rfl ?_
  obtain ⟨y, z, h1, h2, h3, h4⟩ := hG tr kp M  hg
  refine gv_callVi 0 (as := []) (lw_old hF K) (by rw [hR]; exact ⟨by decide, by decide, (by show cells ≤ 600000; omega), (by show slots ≤ 7302250; omega)⟩) dL_law_712 cv_RL_69 cb_X4_wipe sh_4 rfl hk_4 rfl rfl (Nat.le_of_ble_eq_true rfl) (c_X4_wipe (d := 0) h1) ?_
  refine gv_aload_n dL_law_715 rfl ?_
  refine gv_callVi 0 (as := []) (lw_old hF K) (by rw [hR]; exact ⟨by decide, by decide, (by show cells ≤ 600000; omega), (by show slots ≤ 7302250; omega)⟩) dL_law_716 cv_RL_73 cb_X5_wipe sh_5 rfl hk_5 rfl rfl (Nat.le_of_ble_eq_true rfl) (c_X5_wipe (d := 0) h2) ?_
  refine gv_icmp_eq 1496 dL_law_719 rfl (fun _ => ?_) (fun b1 => absurd h3 b1)
  exact gv_wide (by omega) (by omega) (KX _ _ tr kp (am_Ex.rf K) hst h4)
set_option maxHeartbeats 4000000 in
theorem lw_c_drum {G : Bool → Bool → am_M → Prop} {F : gv_F} {K : am_K} {M : am_M} {tr kp : Bool} {b L cells slots : Nat} {xs : Nat → Int32} {i : Int32} (hG : ok_drum G) (hF : lw_F F b L xs) (hb : am_ad K (9200, 0, 0) = b) (hc : cells + 187 ≤ 600000) (hs : slots + 4694 ≤ 7302250) (hst : am_Kst K tr kp) (hg : G tr kp M) (hi : vp_in (i + 1) L ∧ vp_in (i + 2) L ∧ vp_in (i + 3) L ∧ vp_in (i + 4) L ∧ vp_in (i + 5) L) (KX : ∀ K1 M1 tr1 kp1, am_Ex K K1 → am_Kst K1 tr1 kp1 → G tr1 kp1 M1 → gv F m_L_law K1 (cells + 187) (slots + 4694) 1496 [(0, .inr (.inr (9200, 0, 0))), (1, .inr (.inr (4, 0, 0))), (2, .inr (.inr (5, 0, 0))), (3, .inl i)] [] M1) : gv F m_L_law K cells slots 724 [(0, .inr (.inr (9200, 0, 0))), (1, .inr (.inr (4, 0, 0))), (2, .inr (.inr (5, 0, 0))), (3, .inl i)] [] M := by
  have hR := hF.1
  have hT : va_T .int (am_ad K (9200, 0, 0)) L (fun j => .int (xs j)) F.2.2.2.2.2.2.2.2.2.2 F.2.2.2.1 F.2.2.2.1.heap := by rw [hb]; exact hF.2.2.2
  refine gv_aload_n dL_law_724 rfl ?_
  obtain ⟨y, z, h1, h2, h3, h4⟩ := hG tr kp M hg
  refine gv_callVi 8 (as := []) (lw_old hF K) (by rw [hR]; exact ⟨by decide, by decide, (by show cells ≤ 600000; omega), (by show slots ≤ 7302250; omega)⟩) dL_law_725 cv_RL_74 cb_X4_drum sh_4 rfl hk_4 rfl rfl (Nat.le_of_ble_eq_true rfl) (c_X4_drum (d := 0) h1) ?_
  refine gv_aload_n dL_law_728 rfl ?_
  refine gv_callM (as := []) (lw_old hF K) hF.2.2.1 (by rw [hR]; exact ⟨rfl, rfl, by decide, by decide⟩) (by rw [hR]; exact ⟨hc, hs⟩) (lw_A0 hF) (lw_A1 hF K) dL_law_729 cv_RL_77 cb_X5_drum sh_5 rfl hk_5 rfl rfl (Nat.le_of_ble_eq_true rfl) (c_X5_drum hst h2) (fun K1 q N hE hq => ?_)
  obtain ⟨rfl, rfl, hst1⟩ := hq
  show gv F m_L_law K1 (cells + 187) (slots + 4694) 732 [(0, .inr (.inr (9200, 0, 0))), (1, .inr (.inr (4, 0, 0))), (2, .inr (.inr (5, 0, 0))), (3, .inl i)] [.inl z.1, .inl y.1] z.2
  refine gv_icmp_eq 1496 dL_law_732 rfl (fun _ => ?_) (fun b1 => absurd h3 b1)
  exact KX _ _ true kp hE hst1 h4
set_option maxHeartbeats 4000000 in
theorem lw_c_heapOf {G : Bool → Bool → am_M → Prop} {F : gv_F} {K : am_K} {M : am_M} {tr kp : Bool} {b L cells slots : Nat} {xs : Nat → Int32} {i : Int32} (hG : ok_heapOf G) (hF : lw_F F b L xs) (hb : am_ad K (9200, 0, 0) = b) (hc : cells + 187 ≤ 600000) (hs : slots + 4694 ≤ 7302250) (hst : am_Kst K tr kp) (hg : G tr kp M) (hi : vp_in (i + 1) L ∧ vp_in (i + 2) L ∧ vp_in (i + 3) L ∧ vp_in (i + 4) L ∧ vp_in (i + 5) L) (KX : ∀ K1 M1 tr1 kp1, am_Ex K K1 → am_Kst K1 tr1 kp1 → G tr1 kp1 M1 → gv F m_L_law K1 (cells + 187) (slots + 4694) 1496 [(0, .inr (.inr (9200, 0, 0))), (1, .inr (.inr (4, 0, 0))), (2, .inr (.inr (5, 0, 0))), (3, .inl i)] [] M1) : gv F m_L_law K cells slots 737 [(0, .inr (.inr (9200, 0, 0))), (1, .inr (.inr (4, 0, 0))), (2, .inr (.inr (5, 0, 0))), (3, .inl i)] [] M := by
  have hR := hF.1
  have hT : va_T .int (am_ad K (9200, 0, 0)) L (fun j => .int (xs j)) F.2.2.2.2.2.2.2.2.2.2 F.2.2.2.1 F.2.2.2.1.heap := by rw [hb]; exact hF.2.2.2
  refine gv_aload_n dL_law_737 rfl ?_
  refine gv_aload_n dL_law_738 rfl ?_
  refine gv_iload_n dL_law_739 rfl ?_
  refine gv_iconst dL_law_740 ic_1 ?_
  refine gv_iadd dL_law_741 ?_
  refine gv_tabI dL_law_742 hT hi.1 ?_
  refine gv_aload_n dL_law_743 rfl ?_
  refine gv_iload_n dL_law_744 rfl ?_
  refine gv_iconst dL_law_745 ic_2 ?_
  refine gv_iadd dL_law_746 ?_
  refine gv_tabI dL_law_747 hT hi.2.1 ?_
  obtain ⟨y, z, h1, h2, h3, h4⟩ := hG tr kp M (xs (i + 1).toNatClampNeg) (xs (i + 2).toNatClampNeg) hg
  refine gv_callVi 2 (as := [.inl (xs (i + 1).toNatClampNeg), .inl (xs (i + 2).toNatClampNeg)]) (lw_old hF K) (by rw [hR]; exact ⟨by decide, by decide, (by show cells ≤ 600000; omega), (by show slots ≤ 7302250; omega)⟩) dL_law_748 cv_RL_78 cb_X4_heapOf sh_4 rfl hk_4 rfl rfl (Nat.le_of_ble_eq_true rfl) (c_X4_heapOf (d := 0) h1) ?_
  refine gv_aload_n dL_law_751 rfl ?_
  refine gv_aload_n dL_law_752 rfl ?_
  refine gv_iload_n dL_law_753 rfl ?_
  refine gv_iconst dL_law_754 ic_1 ?_
  refine gv_iadd dL_law_755 ?_
  refine gv_tabI dL_law_756 hT hi.1 ?_
  refine gv_aload_n dL_law_757 rfl ?_
  refine gv_iload_n dL_law_758 rfl ?_
  refine gv_iconst dL_law_759 ic_2 ?_
  refine gv_iadd dL_law_760 ?_
  refine gv_tabI dL_law_761 hT hi.2.1 ?_
  refine gv_callVi 1 (as := [.inl (xs (i + 1).toNatClampNeg), .inl (xs (i + 2).toNatClampNeg)]) (lw_old hF K) (by rw [hR]; exact ⟨by decide, by decide, (by show cells ≤ 600000; omega), (by show slots ≤ 7302250; omega)⟩) dL_law_762 cv_RL_81 cb_X5_heapOf sh_5 rfl hk_5 rfl rfl (Nat.le_of_ble_eq_true rfl) (c_X5_heapOf (d := 0) h2) ?_
  refine gv_icmp_eq 1496 dL_law_765 rfl (fun _ => ?_) (fun b1 => absurd h3 b1)
  exact gv_wide (by omega) (by omega) (KX _ _ tr kp (am_Ex.rf K) hst h4)
set_option maxHeartbeats 4000000 in
theorem lw_c_factOf {G : Bool → Bool → am_M → Prop} {F : gv_F} {K : am_K} {M : am_M} {tr kp : Bool} {b L cells slots : Nat} {xs : Nat → Int32} {i : Int32} (hG : ok_factOf G) (hF : lw_F F b L xs) (hb : am_ad K (9200, 0, 0) = b) (hc : cells + 187 ≤ 600000) (hs : slots + 4694 ≤ 7302250) (hst : am_Kst K tr kp) (hg : G tr kp M) (hi : vp_in (i + 1) L ∧ vp_in (i + 2) L ∧ vp_in (i + 3) L ∧ vp_in (i + 4) L ∧ vp_in (i + 5) L) (KX : ∀ K1 M1 tr1 kp1, am_Ex K K1 → am_Kst K1 tr1 kp1 → G tr1 kp1 M1 → gv F m_L_law K1 (cells + 187) (slots + 4694) 1496 [(0, .inr (.inr (9200, 0, 0))), (1, .inr (.inr (4, 0, 0))), (2, .inr (.inr (5, 0, 0))), (3, .inl i)] [] M1) : gv F m_L_law K cells slots 770 [(0, .inr (.inr (9200, 0, 0))), (1, .inr (.inr (4, 0, 0))), (2, .inr (.inr (5, 0, 0))), (3, .inl i)] [] M := by
  have hR := hF.1
  have hT : va_T .int (am_ad K (9200, 0, 0)) L (fun j => .int (xs j)) F.2.2.2.2.2.2.2.2.2.2 F.2.2.2.1 F.2.2.2.1.heap := by rw [hb]; exact hF.2.2.2
  refine gv_aload_n dL_law_770 rfl ?_
  refine gv_aload_n dL_law_771 rfl ?_
  refine gv_iload_n dL_law_772 rfl ?_
  refine gv_iconst dL_law_773 ic_1 ?_
  refine gv_iadd dL_law_774 ?_
  refine gv_tabI dL_law_775 hT hi.1 ?_
  refine gv_aload_n dL_law_776 rfl ?_
  refine gv_iload_n dL_law_777 rfl ?_
  refine gv_iconst dL_law_778 ic_2 ?_
  refine gv_iadd dL_law_779 ?_
  refine gv_tabI dL_law_780 hT hi.2.1 ?_
  obtain ⟨y, z, h1, h2, h3, h4⟩ := hG tr kp M (xs (i + 1).toNatClampNeg) (xs (i + 2).toNatClampNeg) hg
  refine gv_callVi 2 (as := [.inl (xs (i + 1).toNatClampNeg), .inl (xs (i + 2).toNatClampNeg)]) (lw_old hF K) (by rw [hR]; exact ⟨by decide, by decide, (by show cells ≤ 600000; omega), (by show slots ≤ 7302250; omega)⟩) dL_law_781 cv_RL_82 cb_X4_factOf sh_4 rfl hk_4 rfl rfl (Nat.le_of_ble_eq_true rfl) (c_X4_factOf (d := 0) h1) ?_
  refine gv_aload_n dL_law_784 rfl ?_
  refine gv_aload_n dL_law_785 rfl ?_
  refine gv_iload_n dL_law_786 rfl ?_
  refine gv_iconst dL_law_787 ic_1 ?_
  refine gv_iadd dL_law_788 ?_
  refine gv_tabI dL_law_789 hT hi.1 ?_
  refine gv_aload_n dL_law_790 rfl ?_
  refine gv_iload_n dL_law_791 rfl ?_
  refine gv_iconst dL_law_792 ic_2 ?_
  refine gv_iadd dL_law_793 ?_
  refine gv_tabI dL_law_794 hT hi.2.1 ?_
  refine gv_callVi 1 (as := [.inl (xs (i + 1).toNatClampNeg), .inl (xs (i + 2).toNatClampNeg)]) (lw_old hF K) (by rw [hR]; exact ⟨by decide, by decide, (by show cells ≤ 600000; omega), (by show slots ≤ 7302250; omega)⟩) dL_law_795 cv_RL_85 cb_X5_factOf sh_5 rfl hk_5 rfl rfl (Nat.le_of_ble_eq_true rfl) (c_X5_factOf (d := 0) h2) ?_
  refine gv_icmp_eq 1496 dL_law_798 rfl (fun _ => ?_) (fun b1 => absurd h3 b1)
  exact gv_wide (by omega) (by omega) (KX _ _ tr kp (am_Ex.rf K) hst h4)
set_option maxHeartbeats 4000000 in
theorem lw_c_rows {G : Bool → Bool → am_M → Prop} {F : gv_F} {K : am_K} {M : am_M} {tr kp : Bool} {b L cells slots : Nat} {xs : Nat → Int32} {i : Int32} (hG : ok_rows G) (hF : lw_F F b L xs) (hb : am_ad K (9200, 0, 0) = b) (hc : cells + 187 ≤ 600000) (hs : slots + 4694 ≤ 7302250) (hst : am_Kst K tr kp) (hg : G tr kp M) (hi : vp_in (i + 1) L ∧ vp_in (i + 2) L ∧ vp_in (i + 3) L ∧ vp_in (i + 4) L ∧ vp_in (i + 5) L) (KX : ∀ K1 M1 tr1 kp1, am_Ex K K1 → am_Kst K1 tr1 kp1 → G tr1 kp1 M1 → gv F m_L_law K1 (cells + 187) (slots + 4694) 1496 [(0, .inr (.inr (9200, 0, 0))), (1, .inr (.inr (4, 0, 0))), (2, .inr (.inr (5, 0, 0))), (3, .inl i)] [] M1) : gv F m_L_law K cells slots 803 [(0, .inr (.inr (9200, 0, 0))), (1, .inr (.inr (4, 0, 0))), (2, .inr (.inr (5, 0, 0))), (3, .inl i)] [] M := by
  have hR := hF.1
  have hT : va_T .int (am_ad K (9200, 0, 0)) L (fun j => .int (xs j)) F.2.2.2.2.2.2.2.2.2.2 F.2.2.2.1 F.2.2.2.1.heap := by rw [hb]; exact hF.2.2.2
  refine gv_aload_n dL_law_803 rfl ?_
  obtain ⟨y, z, h1, h2, h3, h4⟩ := hG tr kp M  hg
  refine gv_callVi 3 (as := []) (lw_old hF K) (by rw [hR]; exact ⟨by decide, by decide, (by show cells ≤ 600000; omega), (by show slots ≤ 7302250; omega)⟩) dL_law_804 cv_RL_86 cb_X4_rows sh_4 rfl hk_4 rfl rfl (Nat.le_of_ble_eq_true rfl) (c_X4_rows (d := 0) h1) ?_
  refine gv_aload_n dL_law_807 rfl ?_
  refine gv_callVi 3 (as := []) (lw_old hF K) (by rw [hR]; exact ⟨by decide, by decide, (by show cells ≤ 600000; omega), (by show slots ≤ 7302250; omega)⟩) dL_law_808 cv_RL_89 cb_X5_rows sh_5 rfl hk_5 rfl rfl (Nat.le_of_ble_eq_true rfl) (c_X5_rows (d := 0) h2) ?_
  refine gv_icmp_eq 1496 dL_law_811 rfl (fun _ => ?_) (fun b1 => absurd h3 b1)
  exact gv_wide (by omega) (by omega) (KX _ _ tr kp (am_Ex.rf K) hst h4)
set_option maxHeartbeats 4000000 in
theorem lw_c_ways {G : Bool → Bool → am_M → Prop} {F : gv_F} {K : am_K} {M : am_M} {tr kp : Bool} {b L cells slots : Nat} {xs : Nat → Int32} {i : Int32} (hG : ok_ways G) (hF : lw_F F b L xs) (hb : am_ad K (9200, 0, 0) = b) (hc : cells + 187 ≤ 600000) (hs : slots + 4694 ≤ 7302250) (hst : am_Kst K tr kp) (hg : G tr kp M) (hi : vp_in (i + 1) L ∧ vp_in (i + 2) L ∧ vp_in (i + 3) L ∧ vp_in (i + 4) L ∧ vp_in (i + 5) L) (KX : ∀ K1 M1 tr1 kp1, am_Ex K K1 → am_Kst K1 tr1 kp1 → G tr1 kp1 M1 → gv F m_L_law K1 (cells + 187) (slots + 4694) 1496 [(0, .inr (.inr (9200, 0, 0))), (1, .inr (.inr (4, 0, 0))), (2, .inr (.inr (5, 0, 0))), (3, .inl i)] [] M1) : gv F m_L_law K cells slots 816 [(0, .inr (.inr (9200, 0, 0))), (1, .inr (.inr (4, 0, 0))), (2, .inr (.inr (5, 0, 0))), (3, .inl i)] [] M := by
  have hR := hF.1
  have hT : va_T .int (am_ad K (9200, 0, 0)) L (fun j => .int (xs j)) F.2.2.2.2.2.2.2.2.2.2 F.2.2.2.1 F.2.2.2.1.heap := by rw [hb]; exact hF.2.2.2
  refine gv_aload_n dL_law_816 rfl ?_
  obtain ⟨y, z, h1, h2, h3, h4⟩ := hG tr kp M  hg
  refine gv_callVi 5 (as := []) (lw_old hF K) (by rw [hR]; exact ⟨by decide, by decide, (by show cells ≤ 600000; omega), (by show slots ≤ 7302250; omega)⟩) dL_law_817 cv_RL_90 cb_X4_ways sh_4 rfl hk_4 rfl rfl (Nat.le_of_ble_eq_true rfl) (c_X4_ways (d := 0) h1) ?_
  refine gv_aload_n dL_law_820 rfl ?_
  refine gv_callVi 5 (as := []) (lw_old hF K) (by rw [hR]; exact ⟨by decide, by decide, (by show cells ≤ 600000; omega), (by show slots ≤ 7302250; omega)⟩) dL_law_821 cv_RL_93 cb_X5_ways sh_5 rfl hk_5 rfl rfl (Nat.le_of_ble_eq_true rfl) (c_X5_ways (d := 0) h2) ?_
  refine gv_icmp_eq 1496 dL_law_824 rfl (fun _ => ?_) (fun b1 => absurd h3 b1)
  exact gv_wide (by omega) (by omega) (KX _ _ tr kp (am_Ex.rf K) hst h4)
set_option maxHeartbeats 4000000 in
theorem lw_c_read {G : Bool → Bool → am_M → Prop} {F : gv_F} {K : am_K} {M : am_M} {tr kp : Bool} {b L cells slots : Nat} {xs : Nat → Int32} {i : Int32} (hG : ok_read G) (hF : lw_F F b L xs) (hb : am_ad K (9200, 0, 0) = b) (hc : cells + 187 ≤ 600000) (hs : slots + 4694 ≤ 7302250) (hst : am_Kst K tr kp) (hg : G tr kp M) (hi : vp_in (i + 1) L ∧ vp_in (i + 2) L ∧ vp_in (i + 3) L ∧ vp_in (i + 4) L ∧ vp_in (i + 5) L) (KX : ∀ K1 M1 tr1 kp1, am_Ex K K1 → am_Kst K1 tr1 kp1 → G tr1 kp1 M1 → gv F m_L_law K1 (cells + 187) (slots + 4694) 1496 [(0, .inr (.inr (9200, 0, 0))), (1, .inr (.inr (4, 0, 0))), (2, .inr (.inr (5, 0, 0))), (3, .inl i)] [] M1) : gv F m_L_law K cells slots 829 [(0, .inr (.inr (9200, 0, 0))), (1, .inr (.inr (4, 0, 0))), (2, .inr (.inr (5, 0, 0))), (3, .inl i)] [] M := by
  have hR := hF.1
  have hT : va_T .int (am_ad K (9200, 0, 0)) L (fun j => .int (xs j)) F.2.2.2.2.2.2.2.2.2.2 F.2.2.2.1 F.2.2.2.1.heap := by rw [hb]; exact hF.2.2.2
  refine gv_aload_n dL_law_829 rfl ?_
  refine gv_aload_n dL_law_830 rfl ?_
  refine gv_iload_n dL_law_831 rfl ?_
  refine gv_iconst dL_law_832 ic_1 ?_
  refine gv_iadd dL_law_833 ?_
  refine gv_tabI dL_law_834 hT hi.1 ?_
  refine gv_if_eq 842 dL_law_835 rfl (fun b0 => ?_) (fun b0 => ?_)
  ·
    refine gv_iconst dL_law_842 ic_0 ?_
    obtain ⟨y, z, h1, h2, h3, h4⟩ := hG tr kp M (0 : Int32) (Or.inl rfl) hg
    refine gv_callVi 3 (as := [.inl (0 : Int32)]) (lw_old hF K) (by rw [hR]; exact ⟨by decide, by decide, (by show cells ≤ 600000; omega), (by show slots ≤ 7302250; omega)⟩) dL_law_843 cv_RL_94 cb_X4_read sh_4 rfl hk_4 rfl rfl (Nat.le_of_ble_eq_true rfl) (c_X4_read (d := 0) h1) ?_
    refine gv_aload_n dL_law_846 rfl ?_
    refine gv_aload_n dL_law_847 rfl ?_
    refine gv_iload_n dL_law_848 rfl ?_
    refine gv_iconst dL_law_849 ic_1 ?_
    refine gv_iadd dL_law_850 ?_
    refine gv_tabI dL_law_851 hT hi.1 ?_
    refine gv_if_eq 859 dL_law_852 rfl (fun _ => ?_) (fun b1 => absurd b0 b1)
    refine gv_iconst dL_law_859 ic_0 ?_
    refine gv_callVi 3 (as := [.inl (0 : Int32)]) (lw_old hF K) (by rw [hR]; exact ⟨by decide, by decide, (by show cells ≤ 600000; omega), (by show slots ≤ 7302250; omega)⟩) dL_law_860 cv_RL_98 cb_X5_read sh_5 rfl hk_5 rfl rfl (Nat.le_of_ble_eq_true rfl) (c_X5_read (d := 0) h2) ?_
    refine gv_icmp_eq 1496 dL_law_863 rfl (fun _ => ?_) (fun b1 => absurd h3 b1)
    exact gv_wide (by omega) (by omega) (KX _ _ tr kp (am_Ex.rf K) hst h4)
  ·
    refine gv_iconst dL_law_838 ic_1 ?_
    refine gv_goto 843 dL_law_839 rfl ?_
    obtain ⟨y, z, h1, h2, h3, h4⟩ := hG tr kp M (1 : Int32) (Or.inr rfl) hg
    refine gv_callVi 3 (as := [.inl (1 : Int32)]) (lw_old hF K) (by rw [hR]; exact ⟨by decide, by decide, (by show cells ≤ 600000; omega), (by show slots ≤ 7302250; omega)⟩) dL_law_843 cv_RL_94 cb_X4_read sh_4 rfl hk_4 rfl rfl (Nat.le_of_ble_eq_true rfl) (c_X4_read (d := 0) h1) ?_
    refine gv_aload_n dL_law_846 rfl ?_
    refine gv_aload_n dL_law_847 rfl ?_
    refine gv_iload_n dL_law_848 rfl ?_
    refine gv_iconst dL_law_849 ic_1 ?_
    refine gv_iadd dL_law_850 ?_
    refine gv_tabI dL_law_851 hT hi.1 ?_
    refine gv_if_eq 859 dL_law_852 rfl (fun b1 => absurd b1 b0) (fun _ => ?_)
    refine gv_iconst dL_law_855 ic_1 ?_
    refine gv_goto 860 dL_law_856 rfl ?_
    refine gv_callVi 3 (as := [.inl (1 : Int32)]) (lw_old hF K) (by rw [hR]; exact ⟨by decide, by decide, (by show cells ≤ 600000; omega), (by show slots ≤ 7302250; omega)⟩) dL_law_860 cv_RL_98 cb_X5_read sh_5 rfl hk_5 rfl rfl (Nat.le_of_ble_eq_true rfl) (c_X5_read (d := 0) h2) ?_
    refine gv_icmp_eq 1496 dL_law_863 rfl (fun _ => ?_) (fun b1 => absurd h3 b1)
    exact gv_wide (by omega) (by omega) (KX _ _ tr kp (am_Ex.rf K) hst h4)
set_option maxHeartbeats 4000000 in
theorem lw_c_slip {G : Bool → Bool → am_M → Prop} {F : gv_F} {K : am_K} {M : am_M} {tr kp : Bool} {b L cells slots : Nat} {xs : Nat → Int32} {i : Int32} (hG : ok_slip G) (hF : lw_F F b L xs) (hb : am_ad K (9200, 0, 0) = b) (hc : cells + 187 ≤ 600000) (hs : slots + 4694 ≤ 7302250) (hst : am_Kst K tr kp) (hg : G tr kp M) (hi : vp_in (i + 1) L ∧ vp_in (i + 2) L ∧ vp_in (i + 3) L ∧ vp_in (i + 4) L ∧ vp_in (i + 5) L) (KX : ∀ K1 M1 tr1 kp1, am_Ex K K1 → am_Kst K1 tr1 kp1 → G tr1 kp1 M1 → gv F m_L_law K1 (cells + 187) (slots + 4694) 1496 [(0, .inr (.inr (9200, 0, 0))), (1, .inr (.inr (4, 0, 0))), (2, .inr (.inr (5, 0, 0))), (3, .inl i)] [] M1) : gv F m_L_law K cells slots 868 [(0, .inr (.inr (9200, 0, 0))), (1, .inr (.inr (4, 0, 0))), (2, .inr (.inr (5, 0, 0))), (3, .inl i)] [] M := by
  have hR := hF.1
  have hT : va_T .int (am_ad K (9200, 0, 0)) L (fun j => .int (xs j)) F.2.2.2.2.2.2.2.2.2.2 F.2.2.2.1 F.2.2.2.1.heap := by rw [hb]; exact hF.2.2.2
  refine gv_aload_n dL_law_868 rfl ?_
  refine gv_aload_n dL_law_869 rfl ?_
  refine gv_iload_n dL_law_870 rfl ?_
  refine gv_iconst dL_law_871 ic_1 ?_
  refine gv_iadd dL_law_872 ?_
  refine gv_tabI dL_law_873 hT hi.1 ?_
  obtain ⟨y, z, h1, h2, h3, h4⟩ := hG tr kp M (xs (i + 1).toNatClampNeg) hg
  refine gv_callVi 2 (as := [.inl (xs (i + 1).toNatClampNeg)]) (lw_old hF K) (by rw [hR]; exact ⟨by decide, by decide, (by show cells ≤ 600000; omega), (by show slots ≤ 7302250; omega)⟩) dL_law_874 cv_RL_99 cb_X4_slip sh_4 rfl hk_4 rfl rfl (Nat.le_of_ble_eq_true rfl) (c_X4_slip (d := 0) h1) ?_
  refine gv_aload_n dL_law_877 rfl ?_
  refine gv_aload_n dL_law_878 rfl ?_
  refine gv_iload_n dL_law_879 rfl ?_
  refine gv_iconst dL_law_880 ic_1 ?_
  refine gv_iadd dL_law_881 ?_
  refine gv_tabI dL_law_882 hT hi.1 ?_
  refine gv_callVi 1 (as := [.inl (xs (i + 1).toNatClampNeg)]) (lw_old hF K) (by rw [hR]; exact ⟨by decide, by decide, (by show cells ≤ 600000; omega), (by show slots ≤ 7302250; omega)⟩) dL_law_883 cv_RL_102 cb_X5_slip sh_5 rfl hk_5 rfl rfl (Nat.le_of_ble_eq_true rfl) (c_X5_slip (d := 0) h2) ?_
  refine gv_icmp_eq 1496 dL_law_886 rfl (fun _ => ?_) (fun b1 => absurd h3 b1)
  exact gv_wide (by omega) (by omega) (KX _ _ tr kp (am_Ex.rf K) hst h4)
set_option maxHeartbeats 4000000 in
theorem lw_c_again {G : Bool → Bool → am_M → Prop} {F : gv_F} {K : am_K} {M : am_M} {tr kp : Bool} {b L cells slots : Nat} {xs : Nat → Int32} {i : Int32} (hG : ok_again G) (hF : lw_F F b L xs) (hb : am_ad K (9200, 0, 0) = b) (hc : cells + 187 ≤ 600000) (hs : slots + 4694 ≤ 7302250) (hst : am_Kst K tr kp) (hg : G tr kp M) (hi : vp_in (i + 1) L ∧ vp_in (i + 2) L ∧ vp_in (i + 3) L ∧ vp_in (i + 4) L ∧ vp_in (i + 5) L) (KX : ∀ K1 M1 tr1 kp1, am_Ex K K1 → am_Kst K1 tr1 kp1 → G tr1 kp1 M1 → gv F m_L_law K1 (cells + 187) (slots + 4694) 1496 [(0, .inr (.inr (9200, 0, 0))), (1, .inr (.inr (4, 0, 0))), (2, .inr (.inr (5, 0, 0))), (3, .inl i)] [] M1) : gv F m_L_law K cells slots 891 [(0, .inr (.inr (9200, 0, 0))), (1, .inr (.inr (4, 0, 0))), (2, .inr (.inr (5, 0, 0))), (3, .inl i)] [] M := by
  have hR := hF.1
  have hT : va_T .int (am_ad K (9200, 0, 0)) L (fun j => .int (xs j)) F.2.2.2.2.2.2.2.2.2.2 F.2.2.2.1 F.2.2.2.1.heap := by rw [hb]; exact hF.2.2.2
  refine gv_aload_n dL_law_891 rfl ?_
  obtain ⟨y, z, h1, h2, h3, h4⟩ := hG tr kp M  hg
  refine gv_callVi 1 (as := []) (lw_old hF K) (by rw [hR]; exact ⟨by decide, by decide, (by show cells ≤ 600000; omega), (by show slots ≤ 7302250; omega)⟩) dL_law_892 cv_RL_103 cb_X4_again sh_4 rfl hk_4 rfl rfl (Nat.le_of_ble_eq_true rfl) (c_X4_again (d := 0) h1) ?_
  refine gv_aload_n dL_law_895 rfl ?_
  refine gv_callVi 0 (as := []) (lw_old hF K) (by rw [hR]; exact ⟨by decide, by decide, (by show cells ≤ 600000; omega), (by show slots ≤ 7302250; omega)⟩) dL_law_896 cv_RL_106 cb_X5_again sh_5 rfl hk_5 rfl rfl (Nat.le_of_ble_eq_true rfl) (c_X5_again (d := 0) h2) ?_
  refine gv_icmp_eq 1496 dL_law_899 rfl (fun _ => ?_) (fun b1 => absurd h3 b1)
  exact gv_wide (by omega) (by omega) (KX _ _ tr kp (am_Ex.rf K) hst h4)
set_option maxHeartbeats 4000000 in
theorem lw_c_lead {G : Bool → Bool → am_M → Prop} {F : gv_F} {K : am_K} {M : am_M} {tr kp : Bool} {b L cells slots : Nat} {xs : Nat → Int32} {i : Int32} (hG : ok_lead G) (hF : lw_F F b L xs) (hb : am_ad K (9200, 0, 0) = b) (hc : cells + 187 ≤ 600000) (hs : slots + 4694 ≤ 7302250) (hst : am_Kst K tr kp) (hg : G tr kp M) (hi : vp_in (i + 1) L ∧ vp_in (i + 2) L ∧ vp_in (i + 3) L ∧ vp_in (i + 4) L ∧ vp_in (i + 5) L) (KX : ∀ K1 M1 tr1 kp1, am_Ex K K1 → am_Kst K1 tr1 kp1 → G tr1 kp1 M1 → gv F m_L_law K1 (cells + 187) (slots + 4694) 1496 [(0, .inr (.inr (9200, 0, 0))), (1, .inr (.inr (4, 0, 0))), (2, .inr (.inr (5, 0, 0))), (3, .inl i)] [] M1) : gv F m_L_law K cells slots 904 [(0, .inr (.inr (9200, 0, 0))), (1, .inr (.inr (4, 0, 0))), (2, .inr (.inr (5, 0, 0))), (3, .inl i)] [] M := by
  have hR := hF.1
  have hT : va_T .int (am_ad K (9200, 0, 0)) L (fun j => .int (xs j)) F.2.2.2.2.2.2.2.2.2.2 F.2.2.2.1 F.2.2.2.1.heap := by rw [hb]; exact hF.2.2.2
  refine gv_aload_n dL_law_904 rfl ?_
  obtain ⟨y, z, h1, h2, h3⟩ := hG tr kp M  hg
  refine gv_callVi 0 (as := []) (lw_old hF K) (by rw [hR]; exact ⟨by decide, by decide, (by show cells ≤ 600000; omega), (by show slots ≤ 7302250; omega)⟩) dL_law_905 cv_RL_107 cb_X4_lead sh_4 rfl hk_4 rfl rfl (Nat.le_of_ble_eq_true rfl) (c_X4_lead (d := 0) h1) ?_
  refine gv_aload_n dL_law_908 rfl ?_
  refine gv_callVi 1 (as := []) (lw_old hF K) (by rw [hR]; exact ⟨by decide, by decide, (by show cells ≤ 600000; omega), (by show slots ≤ 7302250; omega)⟩) dL_law_909 cv_RL_110 cb_X5_lead sh_5 rfl hk_5 rfl rfl (Nat.le_of_ble_eq_true rfl) (c_X5_lead (d := 0) h2) ?_
  refine gv_icmp_eq 1496 dL_law_912 rfl (fun _ => ?_) (fun b1 => absurd h3 b1)
  exact gv_wide (by omega) (by omega) (KX _ _ tr kp (am_Ex.rf K) hst hg)
set_option maxHeartbeats 4000000 in
theorem lw_c_ahead {G : Bool → Bool → am_M → Prop} {F : gv_F} {K : am_K} {M : am_M} {tr kp : Bool} {b L cells slots : Nat} {xs : Nat → Int32} {i : Int32} (hG : ok_ahead G) (hF : lw_F F b L xs) (hb : am_ad K (9200, 0, 0) = b) (hc : cells + 187 ≤ 600000) (hs : slots + 4694 ≤ 7302250) (hst : am_Kst K tr kp) (hg : G tr kp M) (hi : vp_in (i + 1) L ∧ vp_in (i + 2) L ∧ vp_in (i + 3) L ∧ vp_in (i + 4) L ∧ vp_in (i + 5) L) (KX : ∀ K1 M1 tr1 kp1, am_Ex K K1 → am_Kst K1 tr1 kp1 → G tr1 kp1 M1 → gv F m_L_law K1 (cells + 187) (slots + 4694) 1496 [(0, .inr (.inr (9200, 0, 0))), (1, .inr (.inr (4, 0, 0))), (2, .inr (.inr (5, 0, 0))), (3, .inl i)] [] M1) : gv F m_L_law K cells slots 917 [(0, .inr (.inr (9200, 0, 0))), (1, .inr (.inr (4, 0, 0))), (2, .inr (.inr (5, 0, 0))), (3, .inl i)] [] M := by
  have hR := hF.1
  have hT : va_T .int (am_ad K (9200, 0, 0)) L (fun j => .int (xs j)) F.2.2.2.2.2.2.2.2.2.2 F.2.2.2.1 F.2.2.2.1.heap := by rw [hb]; exact hF.2.2.2
  refine gv_aload_n dL_law_917 rfl ?_
  refine gv_aload_n dL_law_918 rfl ?_
  refine gv_iload_n dL_law_919 rfl ?_
  refine gv_iconst dL_law_920 ic_1 ?_
  refine gv_iadd dL_law_921 ?_
  refine gv_tabI dL_law_922 hT hi.1 ?_
  obtain ⟨y, z, h1, h2, h3, h4⟩ := hG tr kp M (xs (i + 1).toNatClampNeg) hg
  refine gv_callVi 6 (as := [.inl (xs (i + 1).toNatClampNeg)]) (lw_old hF K) (by rw [hR]; exact ⟨by decide, by decide, (by show cells ≤ 600000; omega), (by show slots ≤ 7302250; omega)⟩) dL_law_923 cv_RL_111 cb_X4_ahead sh_4 rfl hk_4 rfl rfl (Nat.le_of_ble_eq_true rfl) (c_X4_ahead (d := 0) h1) ?_
  refine gv_aload_n dL_law_926 rfl ?_
  refine gv_aload_n dL_law_927 rfl ?_
  refine gv_iload_n dL_law_928 rfl ?_
  refine gv_iconst dL_law_929 ic_1 ?_
  refine gv_iadd dL_law_930 ?_
  refine gv_tabI dL_law_931 hT hi.1 ?_
  refine gv_callVi 5 (as := [.inl (xs (i + 1).toNatClampNeg)]) (lw_old hF K) (by rw [hR]; exact ⟨by decide, by decide, (by show cells ≤ 600000; omega), (by show slots ≤ 7302250; omega)⟩) dL_law_932 cv_RL_114 cb_X5_ahead sh_5 rfl hk_5 rfl rfl (Nat.le_of_ble_eq_true rfl) (c_X5_ahead (d := 0) h2) ?_
  refine gv_icmp_eq 1496 dL_law_935 rfl (fun _ => ?_) (fun b1 => absurd h3 b1)
  exact gv_wide (by omega) (by omega) (KX _ _ tr kp (am_Ex.rf K) hst h4)
set_option maxHeartbeats 4000000 in
theorem lw_c_never {G : Bool → Bool → am_M → Prop} {F : gv_F} {K : am_K} {M : am_M} {tr kp : Bool} {b L cells slots : Nat} {xs : Nat → Int32} {i : Int32} (hG : ok_never G) (hF : lw_F F b L xs) (hb : am_ad K (9200, 0, 0) = b) (hc : cells + 187 ≤ 600000) (hs : slots + 4694 ≤ 7302250) (hst : am_Kst K tr kp) (hg : G tr kp M) (hi : vp_in (i + 1) L ∧ vp_in (i + 2) L ∧ vp_in (i + 3) L ∧ vp_in (i + 4) L ∧ vp_in (i + 5) L) (KX : ∀ K1 M1 tr1 kp1, am_Ex K K1 → am_Kst K1 tr1 kp1 → G tr1 kp1 M1 → gv F m_L_law K1 (cells + 187) (slots + 4694) 1496 [(0, .inr (.inr (9200, 0, 0))), (1, .inr (.inr (4, 0, 0))), (2, .inr (.inr (5, 0, 0))), (3, .inl i)] [] M1) : gv F m_L_law K cells slots 940 [(0, .inr (.inr (9200, 0, 0))), (1, .inr (.inr (4, 0, 0))), (2, .inr (.inr (5, 0, 0))), (3, .inl i)] [] M := by
  have hR := hF.1
  have hT : va_T .int (am_ad K (9200, 0, 0)) L (fun j => .int (xs j)) F.2.2.2.2.2.2.2.2.2.2 F.2.2.2.1 F.2.2.2.1.heap := by rw [hb]; exact hF.2.2.2
  refine gv_aload_n dL_law_940 rfl ?_
  obtain ⟨y, z, h1, h2, h3, h4⟩ := hG tr kp M  hg
  refine gv_callVi 5 (as := []) (lw_old hF K) (by rw [hR]; exact ⟨by decide, by decide, (by show cells ≤ 600000; omega), (by show slots ≤ 7302250; omega)⟩) dL_law_941 cv_RL_115 cb_X4_never sh_4 rfl hk_4 rfl rfl (Nat.le_of_ble_eq_true rfl) (c_X4_never (d := 0) h1) ?_
  refine gv_aload_n dL_law_944 rfl ?_
  refine gv_callVi 5 (as := []) (lw_old hF K) (by rw [hR]; exact ⟨by decide, by decide, (by show cells ≤ 600000; omega), (by show slots ≤ 7302250; omega)⟩) dL_law_945 cv_RL_118 cb_X5_never sh_5 rfl hk_5 rfl rfl (Nat.le_of_ble_eq_true rfl) (c_X5_never (d := 0) h2) ?_
  refine gv_icmp_eq 1496 dL_law_948 rfl (fun _ => ?_) (fun b1 => absurd h3 b1)
  exact gv_wide (by omega) (by omega) (KX _ _ tr kp (am_Ex.rf K) hst h4)
set_option maxHeartbeats 4000000 in
theorem lw_c_level {G : Bool → Bool → am_M → Prop} {F : gv_F} {K : am_K} {M : am_M} {tr kp : Bool} {b L cells slots : Nat} {xs : Nat → Int32} {i : Int32} (hG : ok_level G) (hF : lw_F F b L xs) (hb : am_ad K (9200, 0, 0) = b) (hc : cells + 187 ≤ 600000) (hs : slots + 4694 ≤ 7302250) (hst : am_Kst K tr kp) (hg : G tr kp M) (hi : vp_in (i + 1) L ∧ vp_in (i + 2) L ∧ vp_in (i + 3) L ∧ vp_in (i + 4) L ∧ vp_in (i + 5) L) (KX : ∀ K1 M1 tr1 kp1, am_Ex K K1 → am_Kst K1 tr1 kp1 → G tr1 kp1 M1 → gv F m_L_law K1 (cells + 187) (slots + 4694) 1496 [(0, .inr (.inr (9200, 0, 0))), (1, .inr (.inr (4, 0, 0))), (2, .inr (.inr (5, 0, 0))), (3, .inl i)] [] M1) : gv F m_L_law K cells slots 953 [(0, .inr (.inr (9200, 0, 0))), (1, .inr (.inr (4, 0, 0))), (2, .inr (.inr (5, 0, 0))), (3, .inl i)] [] M := by
  have hR := hF.1
  have hT : va_T .int (am_ad K (9200, 0, 0)) L (fun j => .int (xs j)) F.2.2.2.2.2.2.2.2.2.2 F.2.2.2.1 F.2.2.2.1.heap := by rw [hb]; exact hF.2.2.2
  refine gv_aload_n dL_law_953 rfl ?_
  refine gv_aload_n dL_law_954 rfl ?_
  refine gv_iload_n dL_law_955 rfl ?_
  refine gv_iconst dL_law_956 ic_1 ?_
  refine gv_iadd dL_law_957 ?_
  refine gv_tabI dL_law_958 hT hi.1 ?_
  obtain ⟨y, z, h1, h2, h3, h4⟩ := hG tr kp M (xs (i + 1).toNatClampNeg) hg
  refine gv_callVi 6 (as := [.inl (xs (i + 1).toNatClampNeg)]) (lw_old hF K) (by rw [hR]; exact ⟨by decide, by decide, (by show cells ≤ 600000; omega), (by show slots ≤ 7302250; omega)⟩) dL_law_959 cv_RL_119 cb_X4_level sh_4 rfl hk_4 rfl rfl (Nat.le_of_ble_eq_true rfl) (c_X4_level (d := 0) h1) ?_
  refine gv_aload_n dL_law_962 rfl ?_
  refine gv_aload_n dL_law_963 rfl ?_
  refine gv_iload_n dL_law_964 rfl ?_
  refine gv_iconst dL_law_965 ic_1 ?_
  refine gv_iadd dL_law_966 ?_
  refine gv_tabI dL_law_967 hT hi.1 ?_
  refine gv_callVi 4 (as := [.inl (xs (i + 1).toNatClampNeg)]) (lw_old hF K) (by rw [hR]; exact ⟨by decide, by decide, (by show cells ≤ 600000; omega), (by show slots ≤ 7302250; omega)⟩) dL_law_968 cv_RL_122 cb_X5_level sh_5 rfl hk_5 rfl rfl (Nat.le_of_ble_eq_true rfl) (c_X5_level (d := 0) h2) ?_
  refine gv_icmp_eq 1496 dL_law_971 rfl (fun _ => ?_) (fun b1 => absurd h3 b1)
  exact gv_wide (by omega) (by omega) (KX _ _ tr kp (am_Ex.rf K) hst h4)
set_option maxHeartbeats 4000000 in
theorem lw_c_last {G : Bool → Bool → am_M → Prop} {F : gv_F} {K : am_K} {M : am_M} {tr kp : Bool} {b L cells slots : Nat} {xs : Nat → Int32} {i : Int32} (hG : ok_last G) (hF : lw_F F b L xs) (hb : am_ad K (9200, 0, 0) = b) (hc : cells + 187 ≤ 600000) (hs : slots + 4694 ≤ 7302250) (hst : am_Kst K tr kp) (hg : G tr kp M) (hi : vp_in (i + 1) L ∧ vp_in (i + 2) L ∧ vp_in (i + 3) L ∧ vp_in (i + 4) L ∧ vp_in (i + 5) L) (KX : ∀ K1 M1 tr1 kp1, am_Ex K K1 → am_Kst K1 tr1 kp1 → G tr1 kp1 M1 → gv F m_L_law K1 (cells + 187) (slots + 4694) 1496 [(0, .inr (.inr (9200, 0, 0))), (1, .inr (.inr (4, 0, 0))), (2, .inr (.inr (5, 0, 0))), (3, .inl i)] [] M1) : gv F m_L_law K cells slots 976 [(0, .inr (.inr (9200, 0, 0))), (1, .inr (.inr (4, 0, 0))), (2, .inr (.inr (5, 0, 0))), (3, .inl i)] [] M := by
  have hR := hF.1
  have hT : va_T .int (am_ad K (9200, 0, 0)) L (fun j => .int (xs j)) F.2.2.2.2.2.2.2.2.2.2 F.2.2.2.1 F.2.2.2.1.heap := by rw [hb]; exact hF.2.2.2
  refine gv_aload_n dL_law_976 rfl ?_
  refine gv_aload_n dL_law_977 rfl ?_
  refine gv_iload_n dL_law_978 rfl ?_
  refine gv_iconst dL_law_979 ic_1 ?_
  refine gv_iadd dL_law_980 ?_
  refine gv_tabI dL_law_981 hT hi.1 ?_
  obtain ⟨y, z, h1, h2, h3, h4⟩ := hG tr kp M (xs (i + 1).toNatClampNeg) hg
  refine gv_callVi 5 (as := [.inl (xs (i + 1).toNatClampNeg)]) (lw_old hF K) (by rw [hR]; exact ⟨by decide, by decide, (by show cells ≤ 600000; omega), (by show slots ≤ 7302250; omega)⟩) dL_law_982 cv_RL_123 cb_X4_last sh_4 rfl hk_4 rfl rfl (Nat.le_of_ble_eq_true rfl) (c_X4_last (d := 0) h1) ?_
  refine gv_aload_n dL_law_985 rfl ?_
  refine gv_aload_n dL_law_986 rfl ?_
  refine gv_iload_n dL_law_987 rfl ?_
  refine gv_iconst dL_law_988 ic_1 ?_
  refine gv_iadd dL_law_989 ?_
  refine gv_tabI dL_law_990 hT hi.1 ?_
  refine gv_callVi 4 (as := [.inl (xs (i + 1).toNatClampNeg)]) (lw_old hF K) (by rw [hR]; exact ⟨by decide, by decide, (by show cells ≤ 600000; omega), (by show slots ≤ 7302250; omega)⟩) dL_law_991 cv_RL_126 cb_X5_last sh_5 rfl hk_5 rfl rfl (Nat.le_of_ble_eq_true rfl) (c_X5_last (d := 0) h2) ?_
  refine gv_icmp_eq 1496 dL_law_994 rfl (fun _ => ?_) (fun b1 => absurd h3 b1)
  exact gv_wide (by omega) (by omega) (KX _ _ tr kp (am_Ex.rf K) hst h4)
set_option maxHeartbeats 4000000 in
theorem lw_c_greatest {G : Bool → Bool → am_M → Prop} {F : gv_F} {K : am_K} {M : am_M} {tr kp : Bool} {b L cells slots : Nat} {xs : Nat → Int32} {i : Int32} (hG : ok_greatest G) (hF : lw_F F b L xs) (hb : am_ad K (9200, 0, 0) = b) (hc : cells + 187 ≤ 600000) (hs : slots + 4694 ≤ 7302250) (hst : am_Kst K tr kp) (hg : G tr kp M) (hi : vp_in (i + 1) L ∧ vp_in (i + 2) L ∧ vp_in (i + 3) L ∧ vp_in (i + 4) L ∧ vp_in (i + 5) L) (KX : ∀ K1 M1 tr1 kp1, am_Ex K K1 → am_Kst K1 tr1 kp1 → G tr1 kp1 M1 → gv F m_L_law K1 (cells + 187) (slots + 4694) 1496 [(0, .inr (.inr (9200, 0, 0))), (1, .inr (.inr (4, 0, 0))), (2, .inr (.inr (5, 0, 0))), (3, .inl i)] [] M1) : gv F m_L_law K cells slots 999 [(0, .inr (.inr (9200, 0, 0))), (1, .inr (.inr (4, 0, 0))), (2, .inr (.inr (5, 0, 0))), (3, .inl i)] [] M := by
  have hR := hF.1
  have hT : va_T .int (am_ad K (9200, 0, 0)) L (fun j => .int (xs j)) F.2.2.2.2.2.2.2.2.2.2 F.2.2.2.1 F.2.2.2.1.heap := by rw [hb]; exact hF.2.2.2
  refine gv_aload_n dL_law_999 rfl ?_
  refine gv_aload_n dL_law_1000 rfl ?_
  refine gv_iload_n dL_law_1001 rfl ?_
  refine gv_iconst dL_law_1002 ic_1 ?_
  refine gv_iadd dL_law_1003 ?_
  refine gv_tabI dL_law_1004 hT hi.1 ?_
  obtain ⟨y, z, h1, h2, h3, h4⟩ := hG tr kp M (xs (i + 1).toNatClampNeg) hg
  refine gv_callVi 6 (as := [.inl (xs (i + 1).toNatClampNeg)]) (lw_old hF K) (by rw [hR]; exact ⟨by decide, by decide, (by show cells ≤ 600000; omega), (by show slots ≤ 7302250; omega)⟩) dL_law_1005 cv_RL_127 cb_X4_greatest sh_4 rfl hk_4 rfl rfl (Nat.le_of_ble_eq_true rfl) (c_X4_greatest (d := 0) h1) ?_
  refine gv_aload_n dL_law_1008 rfl ?_
  refine gv_aload_n dL_law_1009 rfl ?_
  refine gv_iload_n dL_law_1010 rfl ?_
  refine gv_iconst dL_law_1011 ic_1 ?_
  refine gv_iadd dL_law_1012 ?_
  refine gv_tabI dL_law_1013 hT hi.1 ?_
  refine gv_callVi 5 (as := [.inl (xs (i + 1).toNatClampNeg)]) (lw_old hF K) (by rw [hR]; exact ⟨by decide, by decide, (by show cells ≤ 600000; omega), (by show slots ≤ 7302250; omega)⟩) dL_law_1014 cv_RL_130 cb_X5_greatest sh_5 rfl hk_5 rfl rfl (Nat.le_of_ble_eq_true rfl) (c_X5_greatest (d := 0) h2) ?_
  refine gv_icmp_eq 1496 dL_law_1017 rfl (fun _ => ?_) (fun b1 => absurd h3 b1)
  exact gv_wide (by omega) (by omega) (KX _ _ tr kp (am_Ex.rf K) hst h4)
set_option maxHeartbeats 4000000 in
theorem lw_c_sure {G : Bool → Bool → am_M → Prop} {F : gv_F} {K : am_K} {M : am_M} {tr kp : Bool} {b L cells slots : Nat} {xs : Nat → Int32} {i : Int32} (hG : ok_sure G) (hF : lw_F F b L xs) (hb : am_ad K (9200, 0, 0) = b) (hc : cells + 187 ≤ 600000) (hs : slots + 4694 ≤ 7302250) (hst : am_Kst K tr kp) (hg : G tr kp M) (hi : vp_in (i + 1) L ∧ vp_in (i + 2) L ∧ vp_in (i + 3) L ∧ vp_in (i + 4) L ∧ vp_in (i + 5) L) (KX : ∀ K1 M1 tr1 kp1, am_Ex K K1 → am_Kst K1 tr1 kp1 → G tr1 kp1 M1 → gv F m_L_law K1 (cells + 187) (slots + 4694) 1496 [(0, .inr (.inr (9200, 0, 0))), (1, .inr (.inr (4, 0, 0))), (2, .inr (.inr (5, 0, 0))), (3, .inl i)] [] M1) : gv F m_L_law K cells slots 1022 [(0, .inr (.inr (9200, 0, 0))), (1, .inr (.inr (4, 0, 0))), (2, .inr (.inr (5, 0, 0))), (3, .inl i)] [] M := by
  have hR := hF.1
  have hT : va_T .int (am_ad K (9200, 0, 0)) L (fun j => .int (xs j)) F.2.2.2.2.2.2.2.2.2.2 F.2.2.2.1 F.2.2.2.1.heap := by rw [hb]; exact hF.2.2.2
  refine gv_aload_n dL_law_1022 rfl ?_
  refine gv_aload_n dL_law_1023 rfl ?_
  refine gv_iload_n dL_law_1024 rfl ?_
  refine gv_iconst dL_law_1025 ic_1 ?_
  refine gv_iadd dL_law_1026 ?_
  refine gv_tabI dL_law_1027 hT hi.1 ?_
  obtain ⟨y, z, h1, h2, h3, h4⟩ := hG tr kp M (xs (i + 1).toNatClampNeg) hg
  refine gv_callVi 6 (as := [.inl (xs (i + 1).toNatClampNeg)]) (lw_old hF K) (by rw [hR]; exact ⟨by decide, by decide, (by show cells ≤ 600000; omega), (by show slots ≤ 7302250; omega)⟩) dL_law_1028 cv_RL_131 cb_X4_sure sh_4 rfl hk_4 rfl rfl (Nat.le_of_ble_eq_true rfl) (c_X4_sure (d := 0) h1) ?_
  refine gv_aload_n dL_law_1031 rfl ?_
  refine gv_aload_n dL_law_1032 rfl ?_
  refine gv_iload_n dL_law_1033 rfl ?_
  refine gv_iconst dL_law_1034 ic_1 ?_
  refine gv_iadd dL_law_1035 ?_
  refine gv_tabI dL_law_1036 hT hi.1 ?_
  refine gv_callVi 4 (as := [.inl (xs (i + 1).toNatClampNeg)]) (lw_old hF K) (by rw [hR]; exact ⟨by decide, by decide, (by show cells ≤ 600000; omega), (by show slots ≤ 7302250; omega)⟩) dL_law_1037 cv_RL_134 cb_X5_sure sh_5 rfl hk_5 rfl rfl (Nat.le_of_ble_eq_true rfl) (c_X5_sure (d := 0) h2) ?_
  refine gv_icmp_eq 1496 dL_law_1040 rfl (fun _ => ?_) (fun b1 => absurd h3 b1)
  exact gv_wide (by omega) (by omega) (KX _ _ tr kp (am_Ex.rf K) hst h4)
set_option maxHeartbeats 4000000 in
theorem lw_c_soFar {G : Bool → Bool → am_M → Prop} {F : gv_F} {K : am_K} {M : am_M} {tr kp : Bool} {b L cells slots : Nat} {xs : Nat → Int32} {i : Int32} (hG : ok_soFar G) (hF : lw_F F b L xs) (hb : am_ad K (9200, 0, 0) = b) (hc : cells + 187 ≤ 600000) (hs : slots + 4694 ≤ 7302250) (hst : am_Kst K tr kp) (hg : G tr kp M) (hi : vp_in (i + 1) L ∧ vp_in (i + 2) L ∧ vp_in (i + 3) L ∧ vp_in (i + 4) L ∧ vp_in (i + 5) L) (KX : ∀ K1 M1 tr1 kp1, am_Ex K K1 → am_Kst K1 tr1 kp1 → G tr1 kp1 M1 → gv F m_L_law K1 (cells + 187) (slots + 4694) 1496 [(0, .inr (.inr (9200, 0, 0))), (1, .inr (.inr (4, 0, 0))), (2, .inr (.inr (5, 0, 0))), (3, .inl i)] [] M1) : gv F m_L_law K cells slots 1045 [(0, .inr (.inr (9200, 0, 0))), (1, .inr (.inr (4, 0, 0))), (2, .inr (.inr (5, 0, 0))), (3, .inl i)] [] M := by
  have hR := hF.1
  have hT : va_T .int (am_ad K (9200, 0, 0)) L (fun j => .int (xs j)) F.2.2.2.2.2.2.2.2.2.2 F.2.2.2.1 F.2.2.2.1.heap := by rw [hb]; exact hF.2.2.2
  refine gv_aload_n dL_law_1045 rfl ?_
  refine gv_aload_n dL_law_1046 rfl ?_
  refine gv_iload_n dL_law_1047 rfl ?_
  refine gv_iconst dL_law_1048 ic_1 ?_
  refine gv_iadd dL_law_1049 ?_
  refine gv_tabI dL_law_1050 hT hi.1 ?_
  refine gv_aload_n dL_law_1051 rfl ?_
  refine gv_iload_n dL_law_1052 rfl ?_
  refine gv_iconst dL_law_1053 ic_2 ?_
  refine gv_iadd dL_law_1054 ?_
  refine gv_tabI dL_law_1055 hT hi.2.1 ?_
  obtain ⟨y, z, h1, h2, h3, h4⟩ := hG tr kp M (xs (i + 1).toNatClampNeg) (xs (i + 2).toNatClampNeg) hg
  refine gv_callVi 5 (as := [.inl (xs (i + 1).toNatClampNeg), .inl (xs (i + 2).toNatClampNeg)]) (lw_old hF K) (by rw [hR]; exact ⟨by decide, by decide, (by show cells ≤ 600000; omega), (by show slots ≤ 7302250; omega)⟩) dL_law_1056 cv_RL_135 cb_X4_soFar sh_4 rfl hk_4 rfl rfl (Nat.le_of_ble_eq_true rfl) (c_X4_soFar (d := 0) h1) ?_
  refine gv_aload_n dL_law_1059 rfl ?_
  refine gv_aload_n dL_law_1060 rfl ?_
  refine gv_iload_n dL_law_1061 rfl ?_
  refine gv_iconst dL_law_1062 ic_1 ?_
  refine gv_iadd dL_law_1063 ?_
  refine gv_tabI dL_law_1064 hT hi.1 ?_
  refine gv_aload_n dL_law_1065 rfl ?_
  refine gv_iload_n dL_law_1066 rfl ?_
  refine gv_iconst dL_law_1067 ic_2 ?_
  refine gv_iadd dL_law_1068 ?_
  refine gv_tabI dL_law_1069 hT hi.2.1 ?_
  refine gv_callVi 4 (as := [.inl (xs (i + 1).toNatClampNeg), .inl (xs (i + 2).toNatClampNeg)]) (lw_old hF K) (by rw [hR]; exact ⟨by decide, by decide, (by show cells ≤ 600000; omega), (by show slots ≤ 7302250; omega)⟩) dL_law_1070 cv_RL_138 cb_X5_soFar sh_5 rfl hk_5 rfl rfl (Nat.le_of_ble_eq_true rfl) (c_X5_soFar (d := 0) h2) ?_
  refine gv_icmp_eq 1496 dL_law_1073 rfl (fun _ => ?_) (fun b1 => absurd h3 b1)
  exact gv_wide (by omega) (by omega) (KX _ _ tr kp (am_Ex.rf K) hst h4)
set_option maxHeartbeats 4000000 in
theorem lw_c_spent {G : Bool → Bool → am_M → Prop} {F : gv_F} {K : am_K} {M : am_M} {tr kp : Bool} {b L cells slots : Nat} {xs : Nat → Int32} {i : Int32} (hG : ok_spent G) (hF : lw_F F b L xs) (hb : am_ad K (9200, 0, 0) = b) (hc : cells + 187 ≤ 600000) (hs : slots + 4694 ≤ 7302250) (hst : am_Kst K tr kp) (hg : G tr kp M) (hi : vp_in (i + 1) L ∧ vp_in (i + 2) L ∧ vp_in (i + 3) L ∧ vp_in (i + 4) L ∧ vp_in (i + 5) L) (KX : ∀ K1 M1 tr1 kp1, am_Ex K K1 → am_Kst K1 tr1 kp1 → G tr1 kp1 M1 → gv F m_L_law K1 (cells + 187) (slots + 4694) 1496 [(0, .inr (.inr (9200, 0, 0))), (1, .inr (.inr (4, 0, 0))), (2, .inr (.inr (5, 0, 0))), (3, .inl i)] [] M1) : gv F m_L_law K cells slots 1078 [(0, .inr (.inr (9200, 0, 0))), (1, .inr (.inr (4, 0, 0))), (2, .inr (.inr (5, 0, 0))), (3, .inl i)] [] M := by
  have hR := hF.1
  have hT : va_T .int (am_ad K (9200, 0, 0)) L (fun j => .int (xs j)) F.2.2.2.2.2.2.2.2.2.2 F.2.2.2.1 F.2.2.2.1.heap := by rw [hb]; exact hF.2.2.2
  refine gv_aload_n dL_law_1078 rfl ?_
  obtain ⟨y, z, h1, h2, h3, h4⟩ := hG tr kp M  hg
  refine gv_callVl 5 (as := []) (lw_old hF K) (by rw [hR]; exact ⟨by decide, by decide, (by show cells ≤ 600000; omega), (by show slots ≤ 7302250; omega)⟩) dL_law_1079 cv_RL_139 cb_X4_spent sh_4 rfl hk_4 rfl rfl (Nat.le_of_ble_eq_true rfl) (c_X4_spent (d := 0) h1) ?_
  refine gv_aload_n dL_law_1082 rfl ?_
  refine gv_callVl 4 (as := []) (lw_old hF K) (by rw [hR]; exact ⟨by decide, by decide, (by show cells ≤ 600000; omega), (by show slots ≤ 7302250; omega)⟩) dL_law_1083 cv_RL_143 cb_X5_spent sh_5 rfl hk_5 rfl rfl (Nat.le_of_ble_eq_true rfl) (c_X5_spent (d := 0) h2) ?_
  refine gv_lcmp dL_law_1086 ?_
  have hq : lg_cmp y.1 z.1 = 0 := by rw [h3]; unfold lg_cmp; simp
  refine gv_if_eq 1496 dL_law_1087 rfl (fun _ => ?_) (fun b1 => absurd hq b1)
  exact gv_wide (by omega) (by omega) (KX _ _ tr kp (am_Ex.rf K) hst h4)
set_option maxHeartbeats 4000000 in
theorem lw_c_mean {G : Bool → Bool → am_M → Prop} {F : gv_F} {K : am_K} {M : am_M} {tr kp : Bool} {b L cells slots : Nat} {xs : Nat → Int32} {i : Int32} (hG : ok_mean G) (hF : lw_F F b L xs) (hb : am_ad K (9200, 0, 0) = b) (hc : cells + 187 ≤ 600000) (hs : slots + 4694 ≤ 7302250) (hst : am_Kst K tr kp) (hg : G tr kp M) (hi : vp_in (i + 1) L ∧ vp_in (i + 2) L ∧ vp_in (i + 3) L ∧ vp_in (i + 4) L ∧ vp_in (i + 5) L) (KX : ∀ K1 M1 tr1 kp1, am_Ex K K1 → am_Kst K1 tr1 kp1 → G tr1 kp1 M1 → gv F m_L_law K1 (cells + 187) (slots + 4694) 1496 [(0, .inr (.inr (9200, 0, 0))), (1, .inr (.inr (4, 0, 0))), (2, .inr (.inr (5, 0, 0))), (3, .inl i)] [] M1) : gv F m_L_law K cells slots 1092 [(0, .inr (.inr (9200, 0, 0))), (1, .inr (.inr (4, 0, 0))), (2, .inr (.inr (5, 0, 0))), (3, .inl i)] [] M := by
  have hR := hF.1
  have hT : va_T .int (am_ad K (9200, 0, 0)) L (fun j => .int (xs j)) F.2.2.2.2.2.2.2.2.2.2 F.2.2.2.1 F.2.2.2.1.heap := by rw [hb]; exact hF.2.2.2
  refine gv_aload_n dL_law_1092 rfl ?_
  obtain ⟨y, z, h1, h2, h3, h4⟩ := hG tr kp M  hg
  refine gv_callVl 5 (as := []) (lw_old hF K) (by rw [hR]; exact ⟨by decide, by decide, (by show cells ≤ 600000; omega), (by show slots ≤ 7302250; omega)⟩) dL_law_1093 cv_RL_144 cb_X4_mean sh_4 rfl hk_4 rfl rfl (Nat.le_of_ble_eq_true rfl) (c_X4_mean (d := 0) h1) ?_
  refine gv_aload_n dL_law_1096 rfl ?_
  refine gv_callVl 4 (as := []) (lw_old hF K) (by rw [hR]; exact ⟨by decide, by decide, (by show cells ≤ 600000; omega), (by show slots ≤ 7302250; omega)⟩) dL_law_1097 cv_RL_147 cb_X5_mean sh_5 rfl hk_5 rfl rfl (Nat.le_of_ble_eq_true rfl) (c_X5_mean (d := 0) h2) ?_
  refine gv_lcmp dL_law_1100 ?_
  have hq : lg_cmp y.1 z.1 = 0 := by rw [h3]; unfold lg_cmp; simp
  refine gv_if_eq 1496 dL_law_1101 rfl (fun _ => ?_) (fun b1 => absurd hq b1)
  exact gv_wide (by omega) (by omega) (KX _ _ tr kp (am_Ex.rf K) hst h4)
set_option maxHeartbeats 4000000 in
theorem lw_c_price {G : Bool → Bool → am_M → Prop} {F : gv_F} {K : am_K} {M : am_M} {tr kp : Bool} {b L cells slots : Nat} {xs : Nat → Int32} {i : Int32} (hG : ok_price G) (hF : lw_F F b L xs) (hb : am_ad K (9200, 0, 0) = b) (hc : cells + 187 ≤ 600000) (hs : slots + 4694 ≤ 7302250) (hst : am_Kst K tr kp) (hg : G tr kp M) (hi : vp_in (i + 1) L ∧ vp_in (i + 2) L ∧ vp_in (i + 3) L ∧ vp_in (i + 4) L ∧ vp_in (i + 5) L) (KX : ∀ K1 M1 tr1 kp1, am_Ex K K1 → am_Kst K1 tr1 kp1 → G tr1 kp1 M1 → gv F m_L_law K1 (cells + 187) (slots + 4694) 1496 [(0, .inr (.inr (9200, 0, 0))), (1, .inr (.inr (4, 0, 0))), (2, .inr (.inr (5, 0, 0))), (3, .inl i)] [] M1) : gv F m_L_law K cells slots 1106 [(0, .inr (.inr (9200, 0, 0))), (1, .inr (.inr (4, 0, 0))), (2, .inr (.inr (5, 0, 0))), (3, .inl i)] [] M := by
  have hR := hF.1
  have hT : va_T .int (am_ad K (9200, 0, 0)) L (fun j => .int (xs j)) F.2.2.2.2.2.2.2.2.2.2 F.2.2.2.1 F.2.2.2.1.heap := by rw [hb]; exact hF.2.2.2
  refine gv_aload_n dL_law_1106 rfl ?_
  refine gv_aload_n dL_law_1107 rfl ?_
  refine gv_iload_n dL_law_1108 rfl ?_
  refine gv_iconst dL_law_1109 ic_1 ?_
  refine gv_iadd dL_law_1110 ?_
  refine gv_tabI dL_law_1111 hT hi.1 ?_
  obtain ⟨y, z, h1, h2, h3, h4⟩ := hG tr kp M (xs (i + 1).toNatClampNeg) hg
  refine gv_callVi 6 (as := [.inl (xs (i + 1).toNatClampNeg)]) (lw_old hF K) (by rw [hR]; exact ⟨by decide, by decide, (by show cells ≤ 600000; omega), (by show slots ≤ 7302250; omega)⟩) dL_law_1112 cv_RL_148 cb_X4_price sh_4 rfl hk_4 rfl rfl (Nat.le_of_ble_eq_true rfl) (c_X4_price (d := 0) h1) ?_
  refine gv_aload_n dL_law_1115 rfl ?_
  refine gv_aload_n dL_law_1116 rfl ?_
  refine gv_iload_n dL_law_1117 rfl ?_
  refine gv_iconst dL_law_1118 ic_1 ?_
  refine gv_iadd dL_law_1119 ?_
  refine gv_tabI dL_law_1120 hT hi.1 ?_
  refine gv_callVi 5 (as := [.inl (xs (i + 1).toNatClampNeg)]) (lw_old hF K) (by rw [hR]; exact ⟨by decide, by decide, (by show cells ≤ 600000; omega), (by show slots ≤ 7302250; omega)⟩) dL_law_1121 cv_RL_151 cb_X5_price sh_5 rfl hk_5 rfl rfl (Nat.le_of_ble_eq_true rfl) (c_X5_price (d := 0) h2) ?_
  refine gv_icmp_eq 1496 dL_law_1124 rfl (fun _ => ?_) (fun b1 => absurd h3 b1)
  exact gv_wide (by omega) (by omega) (KX _ _ tr kp (am_Ex.rf K) hst h4)
set_option maxHeartbeats 4000000 in
theorem lw_c_often {G : Bool → Bool → am_M → Prop} {F : gv_F} {K : am_K} {M : am_M} {tr kp : Bool} {b L cells slots : Nat} {xs : Nat → Int32} {i : Int32} (hG : ok_often G) (hF : lw_F F b L xs) (hb : am_ad K (9200, 0, 0) = b) (hc : cells + 187 ≤ 600000) (hs : slots + 4694 ≤ 7302250) (hst : am_Kst K tr kp) (hg : G tr kp M) (hi : vp_in (i + 1) L ∧ vp_in (i + 2) L ∧ vp_in (i + 3) L ∧ vp_in (i + 4) L ∧ vp_in (i + 5) L) (KX : ∀ K1 M1 tr1 kp1, am_Ex K K1 → am_Kst K1 tr1 kp1 → G tr1 kp1 M1 → gv F m_L_law K1 (cells + 187) (slots + 4694) 1496 [(0, .inr (.inr (9200, 0, 0))), (1, .inr (.inr (4, 0, 0))), (2, .inr (.inr (5, 0, 0))), (3, .inl i)] [] M1) : gv F m_L_law K cells slots 1129 [(0, .inr (.inr (9200, 0, 0))), (1, .inr (.inr (4, 0, 0))), (2, .inr (.inr (5, 0, 0))), (3, .inl i)] [] M := by
  have hR := hF.1
  have hT : va_T .int (am_ad K (9200, 0, 0)) L (fun j => .int (xs j)) F.2.2.2.2.2.2.2.2.2.2 F.2.2.2.1 F.2.2.2.1.heap := by rw [hb]; exact hF.2.2.2
  refine gv_aload_n dL_law_1129 rfl ?_
  obtain ⟨y, z, h1, h2, h3, h4⟩ := hG tr kp M  hg
  refine gv_callVi 6 (as := []) (lw_old hF K) (by rw [hR]; exact ⟨by decide, by decide, (by show cells ≤ 600000; omega), (by show slots ≤ 7302250; omega)⟩) dL_law_1130 cv_RL_152 cb_X4_often sh_4 rfl hk_4 rfl rfl (Nat.le_of_ble_eq_true rfl) (c_X4_often (d := 0) h1) ?_
  refine gv_aload_n dL_law_1133 rfl ?_
  refine gv_callVi 4 (as := []) (lw_old hF K) (by rw [hR]; exact ⟨by decide, by decide, (by show cells ≤ 600000; omega), (by show slots ≤ 7302250; omega)⟩) dL_law_1134 cv_RL_155 cb_X5_often sh_5 rfl hk_5 rfl rfl (Nat.le_of_ble_eq_true rfl) (c_X5_often (d := 0) h2) ?_
  refine gv_icmp_eq 1496 dL_law_1137 rfl (fun _ => ?_) (fun b1 => absurd h3 b1)
  exact gv_wide (by omega) (by omega) (KX _ _ tr kp (am_Ex.rf K) hst h4)
set_option maxHeartbeats 4000000 in
theorem lw_c_half {G : Bool → Bool → am_M → Prop} {F : gv_F} {K : am_K} {M : am_M} {tr kp : Bool} {b L cells slots : Nat} {xs : Nat → Int32} {i : Int32} (hG : ok_half G) (hF : lw_F F b L xs) (hb : am_ad K (9200, 0, 0) = b) (hc : cells + 187 ≤ 600000) (hs : slots + 4694 ≤ 7302250) (hst : am_Kst K tr kp) (hg : G tr kp M) (hi : vp_in (i + 1) L ∧ vp_in (i + 2) L ∧ vp_in (i + 3) L ∧ vp_in (i + 4) L ∧ vp_in (i + 5) L) (KX : ∀ K1 M1 tr1 kp1, am_Ex K K1 → am_Kst K1 tr1 kp1 → G tr1 kp1 M1 → gv F m_L_law K1 (cells + 187) (slots + 4694) 1496 [(0, .inr (.inr (9200, 0, 0))), (1, .inr (.inr (4, 0, 0))), (2, .inr (.inr (5, 0, 0))), (3, .inl i)] [] M1) : gv F m_L_law K cells slots 1142 [(0, .inr (.inr (9200, 0, 0))), (1, .inr (.inr (4, 0, 0))), (2, .inr (.inr (5, 0, 0))), (3, .inl i)] [] M := by
  have hR := hF.1
  have hT : va_T .int (am_ad K (9200, 0, 0)) L (fun j => .int (xs j)) F.2.2.2.2.2.2.2.2.2.2 F.2.2.2.1 F.2.2.2.1.heap := by rw [hb]; exact hF.2.2.2
  refine gv_aload_n dL_law_1142 rfl ?_
  obtain ⟨y, z, h1, h2, h3, h4⟩ := hG tr kp M  hg
  refine gv_callVi 6 (as := []) (lw_old hF K) (by rw [hR]; exact ⟨by decide, by decide, (by show cells ≤ 600000; omega), (by show slots ≤ 7302250; omega)⟩) dL_law_1143 cv_RL_156 cb_X4_half sh_4 rfl hk_4 rfl rfl (Nat.le_of_ble_eq_true rfl) (c_X4_half (d := 0) h1) ?_
  refine gv_aload_n dL_law_1146 rfl ?_
  refine gv_callVi 5 (as := []) (lw_old hF K) (by rw [hR]; exact ⟨by decide, by decide, (by show cells ≤ 600000; omega), (by show slots ≤ 7302250; omega)⟩) dL_law_1147 cv_RL_159 cb_X5_half sh_5 rfl hk_5 rfl rfl (Nat.le_of_ble_eq_true rfl) (c_X5_half (d := 0) h2) ?_
  refine gv_icmp_eq 1496 dL_law_1150 rfl (fun _ => ?_) (fun b1 => absurd h3 b1)
  exact gv_wide (by omega) (by omega) (KX _ _ tr kp (am_Ex.rf K) hst h4)
set_option maxHeartbeats 4000000 in
theorem lw_c_isSure {G : Bool → Bool → am_M → Prop} {F : gv_F} {K : am_K} {M : am_M} {tr kp : Bool} {b L cells slots : Nat} {xs : Nat → Int32} {i : Int32} (hG : ok_isSure G) (hF : lw_F F b L xs) (hb : am_ad K (9200, 0, 0) = b) (hc : cells + 187 ≤ 600000) (hs : slots + 4694 ≤ 7302250) (hst : am_Kst K tr kp) (hg : G tr kp M) (hi : vp_in (i + 1) L ∧ vp_in (i + 2) L ∧ vp_in (i + 3) L ∧ vp_in (i + 4) L ∧ vp_in (i + 5) L) (KX : ∀ K1 M1 tr1 kp1, am_Ex K K1 → am_Kst K1 tr1 kp1 → G tr1 kp1 M1 → gv F m_L_law K1 (cells + 187) (slots + 4694) 1496 [(0, .inr (.inr (9200, 0, 0))), (1, .inr (.inr (4, 0, 0))), (2, .inr (.inr (5, 0, 0))), (3, .inl i)] [] M1) : gv F m_L_law K cells slots 1155 [(0, .inr (.inr (9200, 0, 0))), (1, .inr (.inr (4, 0, 0))), (2, .inr (.inr (5, 0, 0))), (3, .inl i)] [] M := by
  have hR := hF.1
  have hT : va_T .int (am_ad K (9200, 0, 0)) L (fun j => .int (xs j)) F.2.2.2.2.2.2.2.2.2.2 F.2.2.2.1 F.2.2.2.1.heap := by rw [hb]; exact hF.2.2.2
  refine gv_aload_n dL_law_1155 rfl ?_
  obtain ⟨y, z, h1, h2, h3, h4⟩ := hG tr kp M  hg
  refine gv_callVi 3 (as := []) (lw_old hF K) (by rw [hR]; exact ⟨by decide, by decide, (by show cells ≤ 600000; omega), (by show slots ≤ 7302250; omega)⟩) dL_law_1156 cv_RL_160 cb_X4_isSure sh_4 rfl hk_4 rfl rfl (Nat.le_of_ble_eq_true rfl) (c_X4_isSure (d := 0) h1) ?_
  refine gv_aload_n dL_law_1159 rfl ?_
  refine gv_callVi 2 (as := []) (lw_old hF K) (by rw [hR]; exact ⟨by decide, by decide, (by show cells ≤ 600000; omega), (by show slots ≤ 7302250; omega)⟩) dL_law_1160 cv_RL_163 cb_X5_isSure sh_5 rfl hk_5 rfl rfl (Nat.le_of_ble_eq_true rfl) (c_X5_isSure (d := 0) h2) ?_
  refine gv_icmp_eq 1496 dL_law_1163 rfl (fun _ => ?_) (fun b1 => absurd h3 b1)
  exact gv_wide (by omega) (by omega) (KX _ _ tr kp (am_Ex.rf K) hst h4)
set_option maxHeartbeats 4000000 in
theorem lw_c_head {G : Bool → Bool → am_M → Prop} {F : gv_F} {K : am_K} {M : am_M} {tr kp : Bool} {b L cells slots : Nat} {xs : Nat → Int32} {i : Int32} (hG : ok_head G) (hF : lw_F F b L xs) (hb : am_ad K (9200, 0, 0) = b) (hc : cells + 187 ≤ 600000) (hs : slots + 4694 ≤ 7302250) (hst : am_Kst K tr kp) (hg : G tr kp M) (hi : vp_in (i + 1) L ∧ vp_in (i + 2) L ∧ vp_in (i + 3) L ∧ vp_in (i + 4) L ∧ vp_in (i + 5) L) (KX : ∀ K1 M1 tr1 kp1, am_Ex K K1 → am_Kst K1 tr1 kp1 → G tr1 kp1 M1 → gv F m_L_law K1 (cells + 187) (slots + 4694) 1496 [(0, .inr (.inr (9200, 0, 0))), (1, .inr (.inr (4, 0, 0))), (2, .inr (.inr (5, 0, 0))), (3, .inl i)] [] M1) : gv F m_L_law K cells slots 1168 [(0, .inr (.inr (9200, 0, 0))), (1, .inr (.inr (4, 0, 0))), (2, .inr (.inr (5, 0, 0))), (3, .inl i)] [] M := by
  have hR := hF.1
  have hT : va_T .int (am_ad K (9200, 0, 0)) L (fun j => .int (xs j)) F.2.2.2.2.2.2.2.2.2.2 F.2.2.2.1 F.2.2.2.1.heap := by rw [hb]; exact hF.2.2.2
  refine gv_aload_n dL_law_1168 rfl ?_
  obtain ⟨y, z, h1, h2, h3, h4⟩ := hG tr kp M  hg
  refine gv_callVi 5 (as := []) (lw_old hF K) (by rw [hR]; exact ⟨by decide, by decide, (by show cells ≤ 600000; omega), (by show slots ≤ 7302250; omega)⟩) dL_law_1169 cv_RL_164 cb_X4_head sh_4 rfl hk_4 rfl rfl (Nat.le_of_ble_eq_true rfl) (c_X4_head (d := 0) h1) ?_
  refine gv_aload_n dL_law_1172 rfl ?_
  refine gv_callVi 5 (as := []) (lw_old hF K) (by rw [hR]; exact ⟨by decide, by decide, (by show cells ≤ 600000; omega), (by show slots ≤ 7302250; omega)⟩) dL_law_1173 cv_RL_167 cb_X5_head sh_5 rfl hk_5 rfl rfl (Nat.le_of_ble_eq_true rfl) (c_X5_head (d := 0) h2) ?_
  refine gv_icmp_eq 1496 dL_law_1176 rfl (fun _ => ?_) (fun b1 => absurd h3 b1)
  exact gv_wide (by omega) (by omega) (KX _ _ tr kp (am_Ex.rf K) hst h4)
set_option maxHeartbeats 4000000 in
theorem lw_c_judge {G : Bool → Bool → am_M → Prop} {F : gv_F} {K : am_K} {M : am_M} {tr kp : Bool} {b L cells slots : Nat} {xs : Nat → Int32} {i : Int32} (hG : ok_judge G) (hF : lw_F F b L xs) (hb : am_ad K (9200, 0, 0) = b) (hc : cells + 187 ≤ 600000) (hs : slots + 4694 ≤ 7302250) (hst : am_Kst K tr kp) (hg : G tr kp M) (hi : vp_in (i + 1) L ∧ vp_in (i + 2) L ∧ vp_in (i + 3) L ∧ vp_in (i + 4) L ∧ vp_in (i + 5) L) (KX : ∀ K1 M1 tr1 kp1, am_Ex K K1 → am_Kst K1 tr1 kp1 → G tr1 kp1 M1 → gv F m_L_law K1 (cells + 187) (slots + 4694) 1496 [(0, .inr (.inr (9200, 0, 0))), (1, .inr (.inr (4, 0, 0))), (2, .inr (.inr (5, 0, 0))), (3, .inl i)] [] M1) : gv F m_L_law K cells slots 1181 [(0, .inr (.inr (9200, 0, 0))), (1, .inr (.inr (4, 0, 0))), (2, .inr (.inr (5, 0, 0))), (3, .inl i)] [] M := by
  have hR := hF.1
  have hT : va_T .int (am_ad K (9200, 0, 0)) L (fun j => .int (xs j)) F.2.2.2.2.2.2.2.2.2.2 F.2.2.2.1 F.2.2.2.1.heap := by rw [hb]; exact hF.2.2.2
  refine gv_aload_n dL_law_1181 rfl ?_
  refine gv_aload_n dL_law_1182 rfl ?_
  refine gv_iload_n dL_law_1183 rfl ?_
  refine gv_iconst dL_law_1184 ic_1 ?_
  refine gv_iadd dL_law_1185 ?_
  refine gv_tabI dL_law_1186 hT hi.1 ?_
  obtain ⟨y, z, h1, h2, h3, h4⟩ := hG tr kp M (xs (i + 1).toNatClampNeg) hg
  refine gv_callVi 5 (as := [.inl (xs (i + 1).toNatClampNeg)]) (lw_old hF K) (by rw [hR]; exact ⟨by decide, by decide, (by show cells ≤ 600000; omega), (by show slots ≤ 7302250; omega)⟩) dL_law_1187 cv_RL_168 cb_X4_judge sh_4 rfl hk_4 rfl rfl (Nat.le_of_ble_eq_true rfl) (c_X4_judge (d := 0) h1) ?_
  refine gv_aload_n dL_law_1190 rfl ?_
  refine gv_aload_n dL_law_1191 rfl ?_
  refine gv_iload_n dL_law_1192 rfl ?_
  refine gv_iconst dL_law_1193 ic_1 ?_
  refine gv_iadd dL_law_1194 ?_
  refine gv_tabI dL_law_1195 hT hi.1 ?_
  refine gv_callVi 5 (as := [.inl (xs (i + 1).toNatClampNeg)]) (lw_old hF K) (by rw [hR]; exact ⟨by decide, by decide, (by show cells ≤ 600000; omega), (by show slots ≤ 7302250; omega)⟩) dL_law_1196 cv_RL_171 cb_X5_judge sh_5 rfl hk_5 rfl rfl (Nat.le_of_ble_eq_true rfl) (c_X5_judge (d := 0) h2) ?_
  refine gv_icmp_eq 1496 dL_law_1199 rfl (fun _ => ?_) (fun b1 => absurd h3 b1)
  exact gv_wide (by omega) (by omega) (KX _ _ tr kp (am_Ex.rf K) hst h4)
set_option maxHeartbeats 4000000 in
theorem lw_c_told {G : Bool → Bool → am_M → Prop} {F : gv_F} {K : am_K} {M : am_M} {tr kp : Bool} {b L cells slots : Nat} {xs : Nat → Int32} {i : Int32} (hG : ok_told G) (hF : lw_F F b L xs) (hb : am_ad K (9200, 0, 0) = b) (hc : cells + 187 ≤ 600000) (hs : slots + 4694 ≤ 7302250) (hst : am_Kst K tr kp) (hg : G tr kp M) (hi : vp_in (i + 1) L ∧ vp_in (i + 2) L ∧ vp_in (i + 3) L ∧ vp_in (i + 4) L ∧ vp_in (i + 5) L) (KX : ∀ K1 M1 tr1 kp1, am_Ex K K1 → am_Kst K1 tr1 kp1 → G tr1 kp1 M1 → gv F m_L_law K1 (cells + 187) (slots + 4694) 1496 [(0, .inr (.inr (9200, 0, 0))), (1, .inr (.inr (4, 0, 0))), (2, .inr (.inr (5, 0, 0))), (3, .inl i)] [] M1) : gv F m_L_law K cells slots 1204 [(0, .inr (.inr (9200, 0, 0))), (1, .inr (.inr (4, 0, 0))), (2, .inr (.inr (5, 0, 0))), (3, .inl i)] [] M := by
  have hR := hF.1
  have hT : va_T .int (am_ad K (9200, 0, 0)) L (fun j => .int (xs j)) F.2.2.2.2.2.2.2.2.2.2 F.2.2.2.1 F.2.2.2.1.heap := by rw [hb]; exact hF.2.2.2
  refine gv_aload_n dL_law_1204 rfl ?_
  refine gv_aload_n dL_law_1205 rfl ?_
  refine gv_iload_n dL_law_1206 rfl ?_
  refine gv_iconst dL_law_1207 ic_1 ?_
  refine gv_iadd dL_law_1208 ?_
  refine gv_tabI dL_law_1209 hT hi.1 ?_
  refine gv_aload_n dL_law_1210 rfl ?_
  refine gv_iload_n dL_law_1211 rfl ?_
  refine gv_iconst dL_law_1212 ic_2 ?_
  refine gv_iadd dL_law_1213 ?_
  refine gv_tabI dL_law_1214 hT hi.2.1 ?_
  obtain ⟨y, z, h1, h2, h3, h4⟩ := hG tr kp M (xs (i + 1).toNatClampNeg) (xs (i + 2).toNatClampNeg) hg
  refine gv_callVi 6 (as := [.inl (xs (i + 1).toNatClampNeg), .inl (xs (i + 2).toNatClampNeg)]) (lw_old hF K) (by rw [hR]; exact ⟨by decide, by decide, (by show cells ≤ 600000; omega), (by show slots ≤ 7302250; omega)⟩) dL_law_1215 cv_RL_172 cb_X4_told sh_4 rfl hk_4 rfl rfl (Nat.le_of_ble_eq_true rfl) (c_X4_told (d := 0) h1) ?_
  refine gv_aload_n dL_law_1218 rfl ?_
  refine gv_aload_n dL_law_1219 rfl ?_
  refine gv_iload_n dL_law_1220 rfl ?_
  refine gv_iconst dL_law_1221 ic_1 ?_
  refine gv_iadd dL_law_1222 ?_
  refine gv_tabI dL_law_1223 hT hi.1 ?_
  refine gv_aload_n dL_law_1224 rfl ?_
  refine gv_iload_n dL_law_1225 rfl ?_
  refine gv_iconst dL_law_1226 ic_2 ?_
  refine gv_iadd dL_law_1227 ?_
  refine gv_tabI dL_law_1228 hT hi.2.1 ?_
  refine gv_callVi 6 (as := [.inl (xs (i + 1).toNatClampNeg), .inl (xs (i + 2).toNatClampNeg)]) (lw_old hF K) (by rw [hR]; exact ⟨by decide, by decide, (by show cells ≤ 600000; omega), (by show slots ≤ 7302250; omega)⟩) dL_law_1229 cv_RL_175 cb_X5_told sh_5 rfl hk_5 rfl rfl (Nat.le_of_ble_eq_true rfl) (c_X5_told (d := 0) h2) ?_
  refine gv_icmp_eq 1496 dL_law_1232 rfl (fun _ => ?_) (fun b1 => absurd h3 b1)
  exact gv_wide (by omega) (by omega) (KX _ _ tr kp (am_Ex.rf K) hst h4)
set_option maxHeartbeats 4000000 in
theorem lw_c_luck {G : Bool → Bool → am_M → Prop} {F : gv_F} {K : am_K} {M : am_M} {tr kp : Bool} {b L cells slots : Nat} {xs : Nat → Int32} {i : Int32} (hG : ok_luck G) (hF : lw_F F b L xs) (hb : am_ad K (9200, 0, 0) = b) (hc : cells + 187 ≤ 600000) (hs : slots + 4694 ≤ 7302250) (hst : am_Kst K tr kp) (hg : G tr kp M) (hi : vp_in (i + 1) L ∧ vp_in (i + 2) L ∧ vp_in (i + 3) L ∧ vp_in (i + 4) L ∧ vp_in (i + 5) L) (KX : ∀ K1 M1 tr1 kp1, am_Ex K K1 → am_Kst K1 tr1 kp1 → G tr1 kp1 M1 → gv F m_L_law K1 (cells + 187) (slots + 4694) 1496 [(0, .inr (.inr (9200, 0, 0))), (1, .inr (.inr (4, 0, 0))), (2, .inr (.inr (5, 0, 0))), (3, .inl i)] [] M1) : gv F m_L_law K cells slots 1237 [(0, .inr (.inr (9200, 0, 0))), (1, .inr (.inr (4, 0, 0))), (2, .inr (.inr (5, 0, 0))), (3, .inl i)] [] M := by
  have hR := hF.1
  have hT : va_T .int (am_ad K (9200, 0, 0)) L (fun j => .int (xs j)) F.2.2.2.2.2.2.2.2.2.2 F.2.2.2.1 F.2.2.2.1.heap := by rw [hb]; exact hF.2.2.2
  refine gv_aload_n dL_law_1237 rfl ?_
  refine gv_aload_n dL_law_1238 rfl ?_
  refine gv_iload_n dL_law_1239 rfl ?_
  refine gv_iconst dL_law_1240 ic_1 ?_
  refine gv_iadd dL_law_1241 ?_
  refine gv_tabI dL_law_1242 hT hi.1 ?_
  obtain ⟨y, z, h1, h2, h3, h4⟩ := hG tr kp M (xs (i + 1).toNatClampNeg) hg
  refine gv_callVi 6 (as := [.inl (xs (i + 1).toNatClampNeg)]) (lw_old hF K) (by rw [hR]; exact ⟨by decide, by decide, (by show cells ≤ 600000; omega), (by show slots ≤ 7302250; omega)⟩) dL_law_1243 cv_RL_176 cb_X4_luck sh_4 rfl hk_4 rfl rfl (Nat.le_of_ble_eq_true rfl) (c_X4_luck (d := 0) h1) ?_
  refine gv_aload_n dL_law_1246 rfl ?_
  refine gv_aload_n dL_law_1247 rfl ?_
  refine gv_iload_n dL_law_1248 rfl ?_
  refine gv_iconst dL_law_1249 ic_1 ?_
  refine gv_iadd dL_law_1250 ?_
  refine gv_tabI dL_law_1251 hT hi.1 ?_
  refine gv_callVi 6 (as := [.inl (xs (i + 1).toNatClampNeg)]) (lw_old hF K) (by rw [hR]; exact ⟨by decide, by decide, (by show cells ≤ 600000; omega), (by show slots ≤ 7302250; omega)⟩) dL_law_1252 cv_RL_179 cb_X5_luck sh_5 rfl hk_5 rfl rfl (Nat.le_of_ble_eq_true rfl) (c_X5_luck (d := 0) h2) ?_
  refine gv_icmp_eq 1496 dL_law_1255 rfl (fun _ => ?_) (fun b1 => absurd h3 b1)
  exact gv_wide (by omega) (by omega) (KX _ _ tr kp (am_Ex.rf K) hst h4)
set_option maxHeartbeats 4000000 in
theorem lw_c_order {G : Bool → Bool → am_M → Prop} {F : gv_F} {K : am_K} {M : am_M} {tr kp : Bool} {b L cells slots : Nat} {xs : Nat → Int32} {i : Int32} (hG : ok_order G) (hF : lw_F F b L xs) (hb : am_ad K (9200, 0, 0) = b) (hc : cells + 187 ≤ 600000) (hs : slots + 4694 ≤ 7302250) (hst : am_Kst K tr kp) (hg : G tr kp M) (hi : vp_in (i + 1) L ∧ vp_in (i + 2) L ∧ vp_in (i + 3) L ∧ vp_in (i + 4) L ∧ vp_in (i + 5) L) (KX : ∀ K1 M1 tr1 kp1, am_Ex K K1 → am_Kst K1 tr1 kp1 → G tr1 kp1 M1 → gv F m_L_law K1 (cells + 187) (slots + 4694) 1496 [(0, .inr (.inr (9200, 0, 0))), (1, .inr (.inr (4, 0, 0))), (2, .inr (.inr (5, 0, 0))), (3, .inl i)] [] M1) : gv F m_L_law K cells slots 1260 [(0, .inr (.inr (9200, 0, 0))), (1, .inr (.inr (4, 0, 0))), (2, .inr (.inr (5, 0, 0))), (3, .inl i)] [] M := by
  have hR := hF.1
  have hT : va_T .int (am_ad K (9200, 0, 0)) L (fun j => .int (xs j)) F.2.2.2.2.2.2.2.2.2.2 F.2.2.2.1 F.2.2.2.1.heap := by rw [hb]; exact hF.2.2.2
  refine gv_aload_n dL_law_1260 rfl ?_
  refine gv_aload_n dL_law_1261 rfl ?_
  refine gv_iload_n dL_law_1262 rfl ?_
  refine gv_iconst dL_law_1263 ic_1 ?_
  refine gv_iadd dL_law_1264 ?_
  refine gv_tabI dL_law_1265 hT hi.1 ?_
  refine gv_if_eq 1273 dL_law_1266 rfl (fun b0 => ?_) (fun b0 => ?_)
  ·
    refine gv_iconst dL_law_1273 ic_0 ?_
    refine gv_aload_n dL_law_1274 rfl ?_
    refine gv_iload_n dL_law_1275 rfl ?_
    refine gv_iconst dL_law_1276 ic_2 ?_
    refine gv_iadd dL_law_1277 ?_
    refine gv_tabI dL_law_1278 hT hi.2.1 ?_
    obtain ⟨y, z, h1, h2, h3, h4⟩ := hG tr kp M (0 : Int32) (xs (i + 2).toNatClampNeg) (Or.inl rfl) hg
    refine gv_callVi 4 (as := [.inl (0 : Int32), .inl (xs (i + 2).toNatClampNeg)]) (lw_old hF K) (by rw [hR]; exact ⟨by decide, by decide, (by show cells ≤ 600000; omega), (by show slots ≤ 7302250; omega)⟩) dL_law_1279 cv_RL_180 cb_X4_order sh_4 rfl hk_4 rfl rfl (Nat.le_of_ble_eq_true rfl) (c_X4_order (d := 0) h1) ?_
    refine gv_aload_n dL_law_1282 rfl ?_
    refine gv_aload_n dL_law_1283 rfl ?_
    refine gv_iload_n dL_law_1284 rfl ?_
    refine gv_iconst dL_law_1285 ic_1 ?_
    refine gv_iadd dL_law_1286 ?_
    refine gv_tabI dL_law_1287 hT hi.1 ?_
    refine gv_if_eq 1295 dL_law_1288 rfl (fun _ => ?_) (fun b1 => absurd b0 b1)
    refine gv_iconst dL_law_1295 ic_0 ?_
    refine gv_aload_n dL_law_1296 rfl ?_
    refine gv_iload_n dL_law_1297 rfl ?_
    refine gv_iconst dL_law_1298 ic_2 ?_
    refine gv_iadd dL_law_1299 ?_
    refine gv_tabI dL_law_1300 hT hi.2.1 ?_
    refine gv_callM (as := [.inl (0 : Int32), .inl (xs (i + 2).toNatClampNeg)]) (lw_old hF K) hF.2.2.1 (by rw [hR]; exact ⟨rfl, rfl, by decide, by decide⟩) (by rw [hR]; exact ⟨hc, hs⟩) (lw_A0 hF) (lw_A1 hF K) dL_law_1301 cv_RL_184 cb_X5_order sh_5 rfl hk_5 rfl rfl (Nat.le_of_ble_eq_true rfl) (c_X5_order hst h2) (fun K1 q N hE hq => ?_)
    obtain ⟨rfl, rfl, hst1⟩ := hq
    show gv F m_L_law K1 (cells + 187) (slots + 4694) 1304 [(0, .inr (.inr (9200, 0, 0))), (1, .inr (.inr (4, 0, 0))), (2, .inr (.inr (5, 0, 0))), (3, .inl i)] [.inl z.2.1, .inl y.1] z.2.2
    refine gv_icmp_eq 1496 dL_law_1304 rfl (fun _ => ?_) (fun b1 => absurd h3 b1)
    exact KX _ _ _ kp hE hst1 h4
  ·
    refine gv_iconst dL_law_1269 ic_1 ?_
    refine gv_goto 1274 dL_law_1270 rfl ?_
    refine gv_aload_n dL_law_1274 rfl ?_
    refine gv_iload_n dL_law_1275 rfl ?_
    refine gv_iconst dL_law_1276 ic_2 ?_
    refine gv_iadd dL_law_1277 ?_
    refine gv_tabI dL_law_1278 hT hi.2.1 ?_
    obtain ⟨y, z, h1, h2, h3, h4⟩ := hG tr kp M (1 : Int32) (xs (i + 2).toNatClampNeg) (Or.inr rfl) hg
    refine gv_callVi 4 (as := [.inl (1 : Int32), .inl (xs (i + 2).toNatClampNeg)]) (lw_old hF K) (by rw [hR]; exact ⟨by decide, by decide, (by show cells ≤ 600000; omega), (by show slots ≤ 7302250; omega)⟩) dL_law_1279 cv_RL_180 cb_X4_order sh_4 rfl hk_4 rfl rfl (Nat.le_of_ble_eq_true rfl) (c_X4_order (d := 0) h1) ?_
    refine gv_aload_n dL_law_1282 rfl ?_
    refine gv_aload_n dL_law_1283 rfl ?_
    refine gv_iload_n dL_law_1284 rfl ?_
    refine gv_iconst dL_law_1285 ic_1 ?_
    refine gv_iadd dL_law_1286 ?_
    refine gv_tabI dL_law_1287 hT hi.1 ?_
    refine gv_if_eq 1295 dL_law_1288 rfl (fun b1 => absurd b1 b0) (fun _ => ?_)
    refine gv_iconst dL_law_1291 ic_1 ?_
    refine gv_goto 1296 dL_law_1292 rfl ?_
    refine gv_aload_n dL_law_1296 rfl ?_
    refine gv_iload_n dL_law_1297 rfl ?_
    refine gv_iconst dL_law_1298 ic_2 ?_
    refine gv_iadd dL_law_1299 ?_
    refine gv_tabI dL_law_1300 hT hi.2.1 ?_
    refine gv_callM (as := [.inl (1 : Int32), .inl (xs (i + 2).toNatClampNeg)]) (lw_old hF K) hF.2.2.1 (by rw [hR]; exact ⟨rfl, rfl, by decide, by decide⟩) (by rw [hR]; exact ⟨hc, hs⟩) (lw_A0 hF) (lw_A1 hF K) dL_law_1301 cv_RL_184 cb_X5_order sh_5 rfl hk_5 rfl rfl (Nat.le_of_ble_eq_true rfl) (c_X5_order hst h2) (fun K1 q N hE hq => ?_)
    obtain ⟨rfl, rfl, hst1⟩ := hq
    show gv F m_L_law K1 (cells + 187) (slots + 4694) 1304 [(0, .inr (.inr (9200, 0, 0))), (1, .inr (.inr (4, 0, 0))), (2, .inr (.inr (5, 0, 0))), (3, .inl i)] [.inl z.2.1, .inl y.1] z.2.2
    refine gv_icmp_eq 1496 dL_law_1304 rfl (fun _ => ?_) (fun b1 => absurd h3 b1)
    exact KX _ _ _ kp hE hst1 h4
set_option maxHeartbeats 4000000 in
theorem lw_c_lost {G : Bool → Bool → am_M → Prop} {F : gv_F} {K : am_K} {M : am_M} {tr kp : Bool} {b L cells slots : Nat} {xs : Nat → Int32} {i : Int32} (hG : ok_lost G) (hF : lw_F F b L xs) (hb : am_ad K (9200, 0, 0) = b) (hc : cells + 187 ≤ 600000) (hs : slots + 4694 ≤ 7302250) (hst : am_Kst K tr kp) (hg : G tr kp M) (hi : vp_in (i + 1) L ∧ vp_in (i + 2) L ∧ vp_in (i + 3) L ∧ vp_in (i + 4) L ∧ vp_in (i + 5) L) (KX : ∀ K1 M1 tr1 kp1, am_Ex K K1 → am_Kst K1 tr1 kp1 → G tr1 kp1 M1 → gv F m_L_law K1 (cells + 187) (slots + 4694) 1496 [(0, .inr (.inr (9200, 0, 0))), (1, .inr (.inr (4, 0, 0))), (2, .inr (.inr (5, 0, 0))), (3, .inl i)] [] M1) : gv F m_L_law K cells slots 1309 [(0, .inr (.inr (9200, 0, 0))), (1, .inr (.inr (4, 0, 0))), (2, .inr (.inr (5, 0, 0))), (3, .inl i)] [] M := by
  have hR := hF.1
  have hT : va_T .int (am_ad K (9200, 0, 0)) L (fun j => .int (xs j)) F.2.2.2.2.2.2.2.2.2.2 F.2.2.2.1 F.2.2.2.1.heap := by rw [hb]; exact hF.2.2.2
  refine gv_aload_n dL_law_1309 rfl ?_
  refine gv_aload_n dL_law_1310 rfl ?_
  refine gv_iload_n dL_law_1311 rfl ?_
  refine gv_iconst dL_law_1312 ic_1 ?_
  refine gv_iadd dL_law_1313 ?_
  refine gv_tabI dL_law_1314 hT hi.1 ?_
  obtain ⟨y, z, h1, h2, h3, h4⟩ := hG tr kp M (xs (i + 1).toNatClampNeg) hg
  refine gv_callVi 2 (as := [.inl (xs (i + 1).toNatClampNeg)]) (lw_old hF K) (by rw [hR]; exact ⟨by decide, by decide, (by show cells ≤ 600000; omega), (by show slots ≤ 7302250; omega)⟩) dL_law_1315 cv_RL_185 cb_X4_lost sh_4 rfl hk_4 rfl rfl (Nat.le_of_ble_eq_true rfl) (c_X4_lost (d := 0) h1) ?_
  refine gv_aload_n dL_law_1318 rfl ?_
  refine gv_aload_n dL_law_1319 rfl ?_
  refine gv_iload_n dL_law_1320 rfl ?_
  refine gv_iconst dL_law_1321 ic_1 ?_
  refine gv_iadd dL_law_1322 ?_
  refine gv_tabI dL_law_1323 hT hi.1 ?_
  refine gv_callVi 2 (as := [.inl (xs (i + 1).toNatClampNeg)]) (lw_old hF K) (by rw [hR]; exact ⟨by decide, by decide, (by show cells ≤ 600000; omega), (by show slots ≤ 7302250; omega)⟩) dL_law_1324 cv_RL_188 cb_X5_lost sh_5 rfl hk_5 rfl rfl (Nat.le_of_ble_eq_true rfl) (c_X5_lost (d := 0) h2) ?_
  refine gv_icmp_eq 1496 dL_law_1327 rfl (fun _ => ?_) (fun b1 => absurd h3 b1)
  exact gv_wide (by omega) (by omega) (KX _ _ tr kp (am_Ex.rf K) hst h4)
set_option maxHeartbeats 4000000 in
theorem lw_c_books {G : Bool → Bool → am_M → Prop} {F : gv_F} {K : am_K} {M : am_M} {tr kp : Bool} {b L cells slots : Nat} {xs : Nat → Int32} {i : Int32} (hG : ok_books G) (hF : lw_F F b L xs) (hb : am_ad K (9200, 0, 0) = b) (hc : cells + 187 ≤ 600000) (hs : slots + 4694 ≤ 7302250) (hst : am_Kst K tr kp) (hg : G tr kp M) (hi : vp_in (i + 1) L ∧ vp_in (i + 2) L ∧ vp_in (i + 3) L ∧ vp_in (i + 4) L ∧ vp_in (i + 5) L) (KX : ∀ K1 M1 tr1 kp1, am_Ex K K1 → am_Kst K1 tr1 kp1 → G tr1 kp1 M1 → gv F m_L_law K1 (cells + 187) (slots + 4694) 1496 [(0, .inr (.inr (9200, 0, 0))), (1, .inr (.inr (4, 0, 0))), (2, .inr (.inr (5, 0, 0))), (3, .inl i)] [] M1) : gv F m_L_law K cells slots 1332 [(0, .inr (.inr (9200, 0, 0))), (1, .inr (.inr (4, 0, 0))), (2, .inr (.inr (5, 0, 0))), (3, .inl i)] [] M := by
  have hR := hF.1
  have hT : va_T .int (am_ad K (9200, 0, 0)) L (fun j => .int (xs j)) F.2.2.2.2.2.2.2.2.2.2 F.2.2.2.1 F.2.2.2.1.heap := by rw [hb]; exact hF.2.2.2
  refine gv_aload_n dL_law_1332 rfl ?_
  refine gv_aload_n dL_law_1333 rfl ?_
  refine gv_iload_n dL_law_1334 rfl ?_
  refine gv_iconst dL_law_1335 ic_1 ?_
  refine gv_iadd dL_law_1336 ?_
  refine gv_tabI dL_law_1337 hT hi.1 ?_
  refine gv_aload_n dL_law_1338 rfl ?_
  refine gv_iload_n dL_law_1339 rfl ?_
  refine gv_iconst dL_law_1340 ic_2 ?_
  refine gv_iadd dL_law_1341 ?_
  refine gv_tabI dL_law_1342 hT hi.2.1 ?_
  obtain ⟨y, z, h1, h2, h3, h4⟩ := hG tr kp M (xs (i + 1).toNatClampNeg) (xs (i + 2).toNatClampNeg) hg
  refine gv_callVi 4 (as := [.inl (xs (i + 1).toNatClampNeg), .inl (xs (i + 2).toNatClampNeg)]) (lw_old hF K) (by rw [hR]; exact ⟨by decide, by decide, (by show cells ≤ 600000; omega), (by show slots ≤ 7302250; omega)⟩) dL_law_1343 cv_RL_189 cb_X4_books sh_4 rfl hk_4 rfl rfl (Nat.le_of_ble_eq_true rfl) (c_X4_books (d := 0) h1) ?_
  refine gv_aload_n dL_law_1346 rfl ?_
  refine gv_aload_n dL_law_1347 rfl ?_
  refine gv_iload_n dL_law_1348 rfl ?_
  refine gv_iconst dL_law_1349 ic_1 ?_
  refine gv_iadd dL_law_1350 ?_
  refine gv_tabI dL_law_1351 hT hi.1 ?_
  refine gv_aload_n dL_law_1352 rfl ?_
  refine gv_iload_n dL_law_1353 rfl ?_
  refine gv_iconst dL_law_1354 ic_2 ?_
  refine gv_iadd dL_law_1355 ?_
  refine gv_tabI dL_law_1356 hT hi.2.1 ?_
  refine gv_callVi 3 (as := [.inl (xs (i + 1).toNatClampNeg), .inl (xs (i + 2).toNatClampNeg)]) (lw_old hF K) (by rw [hR]; exact ⟨by decide, by decide, (by show cells ≤ 600000; omega), (by show slots ≤ 7302250; omega)⟩) dL_law_1357 cv_RL_192 cb_X5_books sh_5 rfl hk_5 rfl rfl (Nat.le_of_ble_eq_true rfl) (c_X5_books (d := 0) h2) ?_
  refine gv_icmp_eq 1496 dL_law_1360 rfl (fun _ => ?_) (fun b1 => absurd h3 b1)
  exact gv_wide (by omega) (by omega) (KX _ _ tr kp (am_Ex.rf K) hst h4)
set_option maxHeartbeats 4000000 in
theorem lw_c_unlike {G : Bool → Bool → am_M → Prop} {F : gv_F} {K : am_K} {M : am_M} {tr kp : Bool} {b L cells slots : Nat} {xs : Nat → Int32} {i : Int32} (hG : ok_unlike G) (hF : lw_F F b L xs) (hb : am_ad K (9200, 0, 0) = b) (hc : cells + 187 ≤ 600000) (hs : slots + 4694 ≤ 7302250) (hst : am_Kst K tr kp) (hg : G tr kp M) (hi : vp_in (i + 1) L ∧ vp_in (i + 2) L ∧ vp_in (i + 3) L ∧ vp_in (i + 4) L ∧ vp_in (i + 5) L) (KX : ∀ K1 M1 tr1 kp1, am_Ex K K1 → am_Kst K1 tr1 kp1 → G tr1 kp1 M1 → gv F m_L_law K1 (cells + 187) (slots + 4694) 1496 [(0, .inr (.inr (9200, 0, 0))), (1, .inr (.inr (4, 0, 0))), (2, .inr (.inr (5, 0, 0))), (3, .inl i)] [] M1) : gv F m_L_law K cells slots 1365 [(0, .inr (.inr (9200, 0, 0))), (1, .inr (.inr (4, 0, 0))), (2, .inr (.inr (5, 0, 0))), (3, .inl i)] [] M := by
  have hR := hF.1
  have hT : va_T .int (am_ad K (9200, 0, 0)) L (fun j => .int (xs j)) F.2.2.2.2.2.2.2.2.2.2 F.2.2.2.1 F.2.2.2.1.heap := by rw [hb]; exact hF.2.2.2
  refine gv_aload_n dL_law_1365 rfl ?_
  refine gv_aload_n dL_law_1366 rfl ?_
  refine gv_iload_n dL_law_1367 rfl ?_
  refine gv_iconst dL_law_1368 ic_1 ?_
  refine gv_iadd dL_law_1369 ?_
  refine gv_tabI dL_law_1370 hT hi.1 ?_
  refine gv_aload_n dL_law_1371 rfl ?_
  refine gv_iload_n dL_law_1372 rfl ?_
  refine gv_iconst dL_law_1373 ic_2 ?_
  refine gv_iadd dL_law_1374 ?_
  refine gv_tabI dL_law_1375 hT hi.2.1 ?_
  obtain ⟨y, z, h1, h2, h3, h4⟩ := hG tr kp M (xs (i + 1).toNatClampNeg) (xs (i + 2).toNatClampNeg) hg
  refine gv_callVi 4 (as := [.inl (xs (i + 1).toNatClampNeg), .inl (xs (i + 2).toNatClampNeg)]) (lw_old hF K) (by rw [hR]; exact ⟨by decide, by decide, (by show cells ≤ 600000; omega), (by show slots ≤ 7302250; omega)⟩) dL_law_1376 cv_RL_193 cb_X4_unlike sh_4 rfl hk_4 rfl rfl (Nat.le_of_ble_eq_true rfl) (c_X4_unlike (d := 0) h1) ?_
  refine gv_aload_n dL_law_1379 rfl ?_
  refine gv_aload_n dL_law_1380 rfl ?_
  refine gv_iload_n dL_law_1381 rfl ?_
  refine gv_iconst dL_law_1382 ic_1 ?_
  refine gv_iadd dL_law_1383 ?_
  refine gv_tabI dL_law_1384 hT hi.1 ?_
  refine gv_aload_n dL_law_1385 rfl ?_
  refine gv_iload_n dL_law_1386 rfl ?_
  refine gv_iconst dL_law_1387 ic_2 ?_
  refine gv_iadd dL_law_1388 ?_
  refine gv_tabI dL_law_1389 hT hi.2.1 ?_
  refine gv_callVi 3 (as := [.inl (xs (i + 1).toNatClampNeg), .inl (xs (i + 2).toNatClampNeg)]) (lw_old hF K) (by rw [hR]; exact ⟨by decide, by decide, (by show cells ≤ 600000; omega), (by show slots ≤ 7302250; omega)⟩) dL_law_1390 cv_RL_196 cb_X5_unlike sh_5 rfl hk_5 rfl rfl (Nat.le_of_ble_eq_true rfl) (c_X5_unlike (d := 0) h2) ?_
  refine gv_icmp_eq 1496 dL_law_1393 rfl (fun _ => ?_) (fun b1 => absurd h3 b1)
  exact gv_wide (by omega) (by omega) (KX _ _ tr kp (am_Ex.rf K) hst h4)
set_option maxHeartbeats 4000000 in
theorem lw_c_draw {G : Bool → Bool → am_M → Prop} {F : gv_F} {K : am_K} {M : am_M} {tr kp : Bool} {b L cells slots : Nat} {xs : Nat → Int32} {i : Int32} (hG : ok_draw G) (hF : lw_F F b L xs) (hb : am_ad K (9200, 0, 0) = b) (hc : cells + 187 ≤ 600000) (hs : slots + 4694 ≤ 7302250) (hst : am_Kst K tr kp) (hg : G tr kp M) (hi : vp_in (i + 1) L ∧ vp_in (i + 2) L ∧ vp_in (i + 3) L ∧ vp_in (i + 4) L ∧ vp_in (i + 5) L) (KX : ∀ K1 M1 tr1 kp1, am_Ex K K1 → am_Kst K1 tr1 kp1 → G tr1 kp1 M1 → gv F m_L_law K1 (cells + 187) (slots + 4694) 1496 [(0, .inr (.inr (9200, 0, 0))), (1, .inr (.inr (4, 0, 0))), (2, .inr (.inr (5, 0, 0))), (3, .inl i)] [] M1) : gv F m_L_law K cells slots 1398 [(0, .inr (.inr (9200, 0, 0))), (1, .inr (.inr (4, 0, 0))), (2, .inr (.inr (5, 0, 0))), (3, .inl i)] [] M := by
  have hR := hF.1
  have hT : va_T .int (am_ad K (9200, 0, 0)) L (fun j => .int (xs j)) F.2.2.2.2.2.2.2.2.2.2 F.2.2.2.1 F.2.2.2.1.heap := by rw [hb]; exact hF.2.2.2
  refine gv_aload_n dL_law_1398 rfl ?_
  obtain ⟨y, z, h1, h2, h3, h4⟩ := hG tr kp M  hg
  refine gv_callVi 4 (as := []) (lw_old hF K) (by rw [hR]; exact ⟨by decide, by decide, (by show cells ≤ 600000; omega), (by show slots ≤ 7302250; omega)⟩) dL_law_1399 cv_RL_197 cb_X4_draw sh_4 rfl hk_4 rfl rfl (Nat.le_of_ble_eq_true rfl) (c_X4_draw (d := 0) h1) ?_
  refine gv_aload_n dL_law_1402 rfl ?_
  refine gv_callVi 3 (as := []) (lw_old hF K) (by rw [hR]; exact ⟨by decide, by decide, (by show cells ≤ 600000; omega), (by show slots ≤ 7302250; omega)⟩) dL_law_1403 cv_RL_200 cb_X5_draw sh_5 rfl hk_5 rfl rfl (Nat.le_of_ble_eq_true rfl) (c_X5_draw (d := 0) h2) ?_
  refine gv_icmp_eq 1496 dL_law_1406 rfl (fun _ => ?_) (fun b1 => absurd h3 b1)
  exact gv_wide (by omega) (by omega) (KX _ _ tr kp (am_Ex.rf K) hst h4)
set_option maxHeartbeats 4000000 in
theorem lw_c_evening {G : Bool → Bool → am_M → Prop} {F : gv_F} {K : am_K} {M : am_M} {tr kp : Bool} {b L cells slots : Nat} {xs : Nat → Int32} {i : Int32} (hG : ok_evening G) (hF : lw_F F b L xs) (hb : am_ad K (9200, 0, 0) = b) (hc : cells + 187 ≤ 600000) (hs : slots + 4694 ≤ 7302250) (hst : am_Kst K tr kp) (hg : G tr kp M) (hi : vp_in (i + 1) L ∧ vp_in (i + 2) L ∧ vp_in (i + 3) L ∧ vp_in (i + 4) L ∧ vp_in (i + 5) L) (KX : ∀ K1 M1 tr1 kp1, am_Ex K K1 → am_Kst K1 tr1 kp1 → G tr1 kp1 M1 → gv F m_L_law K1 (cells + 187) (slots + 4694) 1496 [(0, .inr (.inr (9200, 0, 0))), (1, .inr (.inr (4, 0, 0))), (2, .inr (.inr (5, 0, 0))), (3, .inl i)] [] M1) : gv F m_L_law K cells slots 1411 [(0, .inr (.inr (9200, 0, 0))), (1, .inr (.inr (4, 0, 0))), (2, .inr (.inr (5, 0, 0))), (3, .inl i)] [] M := by
  have hR := hF.1
  have hT : va_T .int (am_ad K (9200, 0, 0)) L (fun j => .int (xs j)) F.2.2.2.2.2.2.2.2.2.2 F.2.2.2.1 F.2.2.2.1.heap := by rw [hb]; exact hF.2.2.2
  refine gv_aload_n dL_law_1411 rfl ?_
  obtain ⟨y, z, h1, h2, h3, h4⟩ := hG tr kp M  hg
  refine gv_callVi 4 (as := []) (lw_old hF K) (by rw [hR]; exact ⟨by decide, by decide, (by show cells ≤ 600000; omega), (by show slots ≤ 7302250; omega)⟩) dL_law_1412 cv_RL_201 cb_X4_evening sh_4 rfl hk_4 rfl rfl (Nat.le_of_ble_eq_true rfl) (c_X4_evening (d := 0) h1) ?_
  refine gv_aload_n dL_law_1415 rfl ?_
  refine gv_callVi 3 (as := []) (lw_old hF K) (by rw [hR]; exact ⟨by decide, by decide, (by show cells ≤ 600000; omega), (by show slots ≤ 7302250; omega)⟩) dL_law_1416 cv_RL_204 cb_X5_evening sh_5 rfl hk_5 rfl rfl (Nat.le_of_ble_eq_true rfl) (c_X5_evening (d := 0) h2) ?_
  refine gv_icmp_eq 1496 dL_law_1419 rfl (fun _ => ?_) (fun b1 => absurd h3 b1)
  exact gv_wide (by omega) (by omega) (KX _ _ tr kp (am_Ex.rf K) hst h4)
set_option maxHeartbeats 4000000 in
theorem lw_c_seed {G : Bool → Bool → am_M → Prop} {F : gv_F} {K : am_K} {M : am_M} {tr kp : Bool} {b L cells slots : Nat} {xs : Nat → Int32} {i : Int32} (hG : ok_seed G) (hF : lw_F F b L xs) (hb : am_ad K (9200, 0, 0) = b) (hc : cells + 187 ≤ 600000) (hs : slots + 4694 ≤ 7302250) (hst : am_Kst K tr kp) (hg : G tr kp M) (hi : vp_in (i + 1) L ∧ vp_in (i + 2) L ∧ vp_in (i + 3) L ∧ vp_in (i + 4) L ∧ vp_in (i + 5) L) (KX : ∀ K1 M1 tr1 kp1, am_Ex K K1 → am_Kst K1 tr1 kp1 → G tr1 kp1 M1 → gv F m_L_law K1 (cells + 187) (slots + 4694) 1496 [(0, .inr (.inr (9200, 0, 0))), (1, .inr (.inr (4, 0, 0))), (2, .inr (.inr (5, 0, 0))), (3, .inl i)] [] M1) : gv F m_L_law K cells slots 1424 [(0, .inr (.inr (9200, 0, 0))), (1, .inr (.inr (4, 0, 0))), (2, .inr (.inr (5, 0, 0))), (3, .inl i)] [] M := by
  have hR := hF.1
  have hT : va_T .int (am_ad K (9200, 0, 0)) L (fun j => .int (xs j)) F.2.2.2.2.2.2.2.2.2.2 F.2.2.2.1 F.2.2.2.1.heap := by rw [hb]; exact hF.2.2.2
  refine gv_aload_n dL_law_1424 rfl ?_
  refine gv_aload_n dL_law_1425 rfl ?_
  refine gv_iload_n dL_law_1426 rfl ?_
  refine gv_iconst dL_law_1427 ic_1 ?_
  refine gv_iadd dL_law_1428 ?_
  refine gv_tabI dL_law_1429 hT hi.1 ?_
  obtain ⟨y, z, h1, h2, h3, h4⟩ := hG tr kp M (xs (i + 1).toNatClampNeg) hg
  refine gv_callVi 0 (as := [.inl (xs (i + 1).toNatClampNeg)]) (lw_old hF K) (by rw [hR]; exact ⟨by decide, by decide, (by show cells ≤ 600000; omega), (by show slots ≤ 7302250; omega)⟩) dL_law_1430 cv_RL_205 cb_X4_seed sh_4 rfl hk_4 rfl rfl (Nat.le_of_ble_eq_true rfl) (c_X4_seed (d := 0) h1) ?_
  refine gv_aload_n dL_law_1433 rfl ?_
  refine gv_aload_n dL_law_1434 rfl ?_
  refine gv_iload_n dL_law_1435 rfl ?_
  refine gv_iconst dL_law_1436 ic_1 ?_
  refine gv_iadd dL_law_1437 ?_
  refine gv_tabI dL_law_1438 hT hi.1 ?_
  refine gv_callVi 0 (as := [.inl (xs (i + 1).toNatClampNeg)]) (lw_old hF K) (by rw [hR]; exact ⟨by decide, by decide, (by show cells ≤ 600000; omega), (by show slots ≤ 7302250; omega)⟩) dL_law_1439 cv_RL_208 cb_X5_seed sh_5 rfl hk_5 rfl rfl (Nat.le_of_ble_eq_true rfl) (c_X5_seed (d := 0) h2) ?_
  refine gv_icmp_eq 1496 dL_law_1442 rfl (fun _ => ?_) (fun b1 => absurd h3 b1)
  exact gv_wide (by omega) (by omega) (KX _ _ tr kp (am_Ex.rf K) hst h4)
set_option maxHeartbeats 4000000 in
theorem lw_c_image {G : Bool → Bool → am_M → Prop} {F : gv_F} {K : am_K} {M : am_M} {tr kp : Bool} {b L cells slots : Nat} {xs : Nat → Int32} {i : Int32} (hG : ok_image G) (hF : lw_F F b L xs) (hb : am_ad K (9200, 0, 0) = b) (hc : cells + 187 ≤ 600000) (hs : slots + 4694 ≤ 7302250) (hst : am_Kst K tr kp) (hg : G tr kp M) (hi : vp_in (i + 1) L ∧ vp_in (i + 2) L ∧ vp_in (i + 3) L ∧ vp_in (i + 4) L ∧ vp_in (i + 5) L) (KX : ∀ K1 M1 tr1 kp1, am_Ex K K1 → am_Kst K1 tr1 kp1 → G tr1 kp1 M1 → gv F m_L_law K1 (cells + 187) (slots + 4694) 1496 [(0, .inr (.inr (9200, 0, 0))), (1, .inr (.inr (4, 0, 0))), (2, .inr (.inr (5, 0, 0))), (3, .inl i)] [] M1) : gv F m_L_law K cells slots 1447 [(0, .inr (.inr (9200, 0, 0))), (1, .inr (.inr (4, 0, 0))), (2, .inr (.inr (5, 0, 0))), (3, .inl i)] [] M := by
  have hR := hF.1
  have hT : va_T .int (am_ad K (9200, 0, 0)) L (fun j => .int (xs j)) F.2.2.2.2.2.2.2.2.2.2 F.2.2.2.1 F.2.2.2.1.heap := by rw [hb]; exact hF.2.2.2
  refine gv_aload_n dL_law_1447 rfl ?_
  obtain ⟨y, z, h1, h2, h3, h4⟩ := hG tr kp M  hg
  refine gv_callVi 2 (as := []) (lw_old hF K) (by rw [hR]; exact ⟨by decide, by decide, (by show cells ≤ 600000; omega), (by show slots ≤ 7302250; omega)⟩) dL_law_1448 cv_RL_209 cb_X4_image sh_4 rfl hk_4 rfl rfl (Nat.le_of_ble_eq_true rfl) (c_X4_image (d := 0) h1) ?_
  refine gv_aload_n dL_law_1451 rfl ?_
  refine gv_callM (as := []) (lw_old hF K) hF.2.2.1 (by rw [hR]; exact ⟨rfl, rfl, by decide, by decide⟩) (by rw [hR]; exact ⟨hc, hs⟩) (lw_A0 hF) (lw_A1 hF K) dL_law_1452 cv_RL_212 cb_X5_image sh_5 rfl hk_5 rfl rfl (Nat.le_of_ble_eq_true rfl) (c_X5_image hst h2) (fun K1 q N hE hq => ?_)
  obtain ⟨rfl, rfl, hst1⟩ := hq
  show gv F m_L_law K1 (cells + 187) (slots + 4694) 1455 [(0, .inr (.inr (9200, 0, 0))), (1, .inr (.inr (4, 0, 0))), (2, .inr (.inr (5, 0, 0))), (3, .inl i)] [(.inl (1 : Int32)), .inl y.1] N
  refine gv_icmp_eq 1496 dL_law_1455 rfl (fun _ => ?_) (fun b1 => absurd h3 b1)
  exact KX _ _ tr true hE hst1 h4
set_option maxHeartbeats 4000000 in
theorem lw_c_back {G : Bool → Bool → am_M → Prop} {F : gv_F} {K : am_K} {M : am_M} {tr kp : Bool} {b L cells slots : Nat} {xs : Nat → Int32} {i : Int32} (hG : ok_back G) (hF : lw_F F b L xs) (hb : am_ad K (9200, 0, 0) = b) (hc : cells + 187 ≤ 600000) (hs : slots + 4694 ≤ 7302250) (hst : am_Kst K tr kp) (hg : G tr kp M) (hi : vp_in (i + 1) L ∧ vp_in (i + 2) L ∧ vp_in (i + 3) L ∧ vp_in (i + 4) L ∧ vp_in (i + 5) L) (KX : ∀ K1 M1 tr1 kp1, am_Ex K K1 → am_Kst K1 tr1 kp1 → G tr1 kp1 M1 → gv F m_L_law K1 (cells + 187) (slots + 4694) 1496 [(0, .inr (.inr (9200, 0, 0))), (1, .inr (.inr (4, 0, 0))), (2, .inr (.inr (5, 0, 0))), (3, .inl i)] [] M1) : gv F m_L_law K cells slots 1460 [(0, .inr (.inr (9200, 0, 0))), (1, .inr (.inr (4, 0, 0))), (2, .inr (.inr (5, 0, 0))), (3, .inl i)] [] M := by
  have hR := hF.1
  have hT : va_T .int (am_ad K (9200, 0, 0)) L (fun j => .int (xs j)) F.2.2.2.2.2.2.2.2.2.2 F.2.2.2.1 F.2.2.2.1.heap := by rw [hb]; exact hF.2.2.2
  refine gv_aload_n dL_law_1460 rfl ?_
  obtain ⟨y, z, h1, h2, h3, h4⟩ := hG tr kp M  hg
  refine gv_callVi 2 (as := []) (lw_old hF K) (by rw [hR]; exact ⟨by decide, by decide, (by show cells ≤ 600000; omega), (by show slots ≤ 7302250; omega)⟩) dL_law_1461 cv_RL_213 cb_X4_back sh_4 rfl hk_4 rfl rfl (Nat.le_of_ble_eq_true rfl) (c_X4_back (d := 0) h1) ?_
  refine gv_aload_n dL_law_1464 rfl ?_
  refine gv_callM (as := []) (lw_old hF K) hF.2.2.1 (by rw [hR]; exact ⟨rfl, rfl, by decide, by decide⟩) (by rw [hR]; exact ⟨hc, hs⟩) (lw_A0 hF) (lw_A1 hF K) dL_law_1465 cv_RL_216 cb_X5_back sh_5 rfl hk_5 rfl rfl (Nat.le_of_ble_eq_true rfl) (c_X5_back hst h2) (fun K1 q N hE hq => ?_)
  obtain ⟨rfl, rfl, hst1⟩ := hq
  show gv F m_L_law K1 (cells + 187) (slots + 4694) 1468 [(0, .inr (.inr (9200, 0, 0))), (1, .inr (.inr (4, 0, 0))), (2, .inr (.inr (5, 0, 0))), (3, .inl i)] [.inl z.1, .inl y.1] z.2
  refine gv_icmp_eq 1496 dL_law_1468 rfl (fun _ => ?_) (fun b1 => absurd h3 b1)
  exact KX _ _ tr kp hE hst1 h4
set_option maxHeartbeats 4000000 in
theorem lw_c_status {G : Bool → Bool → am_M → Prop} {F : gv_F} {K : am_K} {M : am_M} {tr kp : Bool} {b L cells slots : Nat} {xs : Nat → Int32} {i : Int32} (hG : ok_status G) (hF : lw_F F b L xs) (hb : am_ad K (9200, 0, 0) = b) (hc : cells + 187 ≤ 600000) (hs : slots + 4694 ≤ 7302250) (hst : am_Kst K tr kp) (hg : G tr kp M) (hi : vp_in (i + 1) L ∧ vp_in (i + 2) L ∧ vp_in (i + 3) L ∧ vp_in (i + 4) L ∧ vp_in (i + 5) L) (KX : ∀ K1 M1 tr1 kp1, am_Ex K K1 → am_Kst K1 tr1 kp1 → G tr1 kp1 M1 → gv F m_L_law K1 (cells + 187) (slots + 4694) 1496 [(0, .inr (.inr (9200, 0, 0))), (1, .inr (.inr (4, 0, 0))), (2, .inr (.inr (5, 0, 0))), (3, .inl i)] [] M1) : gv F m_L_law K cells slots 1473 [(0, .inr (.inr (9200, 0, 0))), (1, .inr (.inr (4, 0, 0))), (2, .inr (.inr (5, 0, 0))), (3, .inl i)] [] M := by
  have hR := hF.1
  have hT : va_T .int (am_ad K (9200, 0, 0)) L (fun j => .int (xs j)) F.2.2.2.2.2.2.2.2.2.2 F.2.2.2.1 F.2.2.2.1.heap := by rw [hb]; exact hF.2.2.2
  refine gv_aload_n dL_law_1473 rfl ?_
  refine gv_aload_n dL_law_1474 rfl ?_
  refine gv_iload_n dL_law_1475 rfl ?_
  refine gv_iconst dL_law_1476 ic_1 ?_
  refine gv_iadd dL_law_1477 ?_
  refine gv_tabI dL_law_1478 hT hi.1 ?_
  obtain ⟨y, z, h1, h2, h3⟩ := hG tr kp M (xs (i + 1).toNatClampNeg) hg
  refine gv_callVi 2 (as := [.inl (xs (i + 1).toNatClampNeg)]) (lw_old hF K) (by rw [hR]; exact ⟨by decide, by decide, (by show cells ≤ 600000; omega), (by show slots ≤ 7302250; omega)⟩) dL_law_1479 cv_RL_217 cb_X4_status sh_4 rfl hk_4 rfl rfl (Nat.le_of_ble_eq_true rfl) (c_X4_status (d := 0) h1) ?_
  refine gv_aload_n dL_law_1482 rfl ?_
  refine gv_aload_n dL_law_1483 rfl ?_
  refine gv_iload_n dL_law_1484 rfl ?_
  refine gv_iconst dL_law_1485 ic_1 ?_
  refine gv_iadd dL_law_1486 ?_
  refine gv_tabI dL_law_1487 hT hi.1 ?_
  refine gv_callVi 2 (as := [.inl (xs (i + 1).toNatClampNeg)]) (lw_old hF K) (by rw [hR]; exact ⟨by decide, by decide, (by show cells ≤ 600000; omega), (by show slots ≤ 7302250; omega)⟩) dL_law_1488 cv_RL_220 cb_X5_status sh_5 rfl hk_5 rfl rfl (Nat.le_of_ble_eq_true rfl) (c_X5_status (d := 0) h2) ?_
  refine gv_icmp_eq 1496 dL_law_1491 rfl (fun _ => ?_) (fun b1 => absurd h3 b1)
  exact gv_wide (by omega) (by omega) (KX _ _ tr kp (am_Ex.rf K) hst hg)
