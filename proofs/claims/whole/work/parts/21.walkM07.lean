theorem cw_X5_digest_X5_reads_100 {E : eu_E} (C : eu_C E ({ frames := 7, cells := 0, slots := 0, locals := 168 } : Room) 25 12 5 cX5_digest RX5 (Cond.code yX5_digest cX5_digest 5 (some .long) :: eu_TB) (some .long)) : CallW (eu_R E) (eu_s E) (eu_a E) RX5 RX5 100 yX5_reads cX5_reads 2 (some .int) (Cond.code yX5_reads cX5_reads 2 (some .int) :: eu_TB) ({ frames := 2, cells := 0, slots := 0, locals := 48 } : Room) 0 0 0 := eu_cwV C tw_131 tw_132 tw_133 tw_5 tw_134 rfl rfl (by decide +kernel) (by decide)
theorem cw_X5_digest_X5_judged_242 {E : eu_E} (C : eu_C E ({ frames := 7, cells := 0, slots := 0, locals := 168 } : Room) 25 12 5 cX5_digest RX5 (Cond.code yX5_digest cX5_digest 5 (some .long) :: eu_TB) (some .long)) : CallW (eu_R E) (eu_s E) (eu_a E) RX5 RX5 242 yX5_judged cX5_judged 1 (some .int) (Cond.code yX5_judged cX5_judged 1 (some .int) :: eu_TB) ({ frames := 4, cells := 0, slots := 0, locals := 89 } : Room) 0 0 0 := eu_cwV C tw_677 tw_240 tw_241 tw_5 tw_242 rfl rfl (by decide +kernel) (by decide)
theorem cw_X5_digest_X5_count_239 {E : eu_E} (C : eu_C E ({ frames := 7, cells := 0, slots := 0, locals := 168 } : Room) 25 12 5 cX5_digest RX5 (Cond.code yX5_digest cX5_digest 5 (some .long) :: eu_TB) (some .long)) : CallW (eu_R E) (eu_s E) (eu_a E) RX5 RX5 239 yX5_count cX5_count 4 (some .int) (Cond.code yX5_count cX5_count 4 (some .int) :: eu_TB) ({ frames := 4, cells := 0, slots := 0, locals := 92 } : Room) 0 0 1 := eu_cwV C tw_676 tw_636 tw_637 tw_5 tw_638 rfl rfl (by decide +kernel) (by decide)
theorem cw_X5_digest_X5_holds_245 {E : eu_E} (C : eu_C E ({ frames := 7, cells := 0, slots := 0, locals := 168 } : Room) 25 12 5 cX5_digest RX5 (Cond.code yX5_digest cX5_digest 5 (some .long) :: eu_TB) (some .long)) : CallW (eu_R E) (eu_s E) (eu_a E) RX5 RX5 245 yX5_holds cX5_holds 2 (some .int) (Cond.code yX5_holds cX5_holds 2 (some .int) :: eu_TB) ({ frames := 4, cells := 0, slots := 0, locals := 89 } : Room) 0 0 1 := eu_cwV C tw_678 tw_269 tw_270 tw_5 tw_271 rfl rfl (by decide +kernel) (by decide)
theorem cw_X5_digest_X5_byOf_165 {E : eu_E} (C : eu_C E ({ frames := 7, cells := 0, slots := 0, locals := 168 } : Room) 25 12 5 cX5_digest RX5 (Cond.code yX5_digest cX5_digest 5 (some .long) :: eu_TB) (some .long)) : CallW (eu_R E) (eu_s E) (eu_a E) RX5 RX5 165 yX5_byOf cX5_byOf 2 (some .int) (Cond.code yX5_byOf cX5_byOf 2 (some .int) :: eu_TB) ({ frames := 5, cells := 0, slots := 0, locals := 114 } : Room) 0 0 1 := eu_cwV C tw_350 tw_351 tw_352 tw_5 tw_353 rfl rfl (by decide +kernel) (by decide)
theorem cw_X5_digest_X5_withoutOf_171 {E : eu_E} (C : eu_C E ({ frames := 7, cells := 0, slots := 0, locals := 168 } : Room) 25 12 5 cX5_digest RX5 (Cond.code yX5_digest cX5_digest 5 (some .long) :: eu_TB) (some .long)) : CallW (eu_R E) (eu_s E) (eu_a E) RX5 RX5 171 yX5_withoutOf cX5_withoutOf 5 (some .int) (Cond.code yX5_withoutOf cX5_withoutOf 5 (some .int) :: eu_TB) ({ frames := 5, cells := 0, slots := 0, locals := 114 } : Room) 0 0 2 := eu_cwV C tw_365 tw_366 tw_367 tw_5 tw_368 rfl rfl (by decide +kernel) (by decide)
theorem cw_X5_digest_X5_rootOf_162 {E : eu_E} (C : eu_C E ({ frames := 7, cells := 0, slots := 0, locals := 168 } : Room) 25 12 5 cX5_digest RX5 (Cond.code yX5_digest cX5_digest 5 (some .long) :: eu_TB) (some .long)) : CallW (eu_R E) (eu_s E) (eu_a E) RX5 RX5 162 yX5_rootOf cX5_rootOf 6 (some .int) (Cond.code yX5_rootOf cX5_rootOf 6 (some .int) :: eu_TB) ({ frames := 3, cells := 0, slots := 0, locals := 69 } : Room) 0 0 1 := eu_cwV C tw_338 tw_339 tw_340 tw_5 tw_341 rfl rfl (by decide +kernel) (by decide)
theorem cw_X5_digest_X5_fewestOf_186 {E : eu_E} (C : eu_C E ({ frames := 7, cells := 0, slots := 0, locals := 168 } : Room) 25 12 5 cX5_digest RX5 (Cond.code yX5_digest cX5_digest 5 (some .long) :: eu_TB) (some .long)) : CallW (eu_R E) (eu_s E) (eu_a E) RX5 RX5 186 yX5_fewestOf cX5_fewestOf 7 (some .int) (Cond.code yX5_fewestOf cX5_fewestOf 7 (some .int) :: eu_TB) ({ frames := 6, cells := 0, slots := 0, locals := 142 } : Room) 0 0 4 := eu_cwV C tw_405 tw_406 tw_407 tw_5 tw_408 rfl rfl (by decide +kernel) (by decide)
theorem cw_X5_digest_X5_stateOf_159 {E : eu_E} (C : eu_C E ({ frames := 7, cells := 0, slots := 0, locals := 168 } : Room) 25 12 5 cX5_digest RX5 (Cond.code yX5_digest cX5_digest 5 (some .long) :: eu_TB) (some .long)) : CallW (eu_R E) (eu_s E) (eu_a E) RX5 RX5 159 yX5_stateOf cX5_stateOf 3 (some .int) (Cond.code yX5_stateOf cX5_stateOf 3 (some .int) :: eu_TB) ({ frames := 4, cells := 0, slots := 0, locals := 92 } : Room) 0 0 2 := eu_cwV C tw_315 tw_316 tw_317 tw_5 tw_318 rfl rfl (by decide +kernel) (by decide)
theorem cw_X5_digest_X5_safeOf_193 {E : eu_E} (C : eu_C E ({ frames := 7, cells := 0, slots := 0, locals := 168 } : Room) 25 12 5 cX5_digest RX5 (Cond.code yX5_digest cX5_digest 5 (some .long) :: eu_TB) (some .long)) : CallW (eu_R E) (eu_s E) (eu_a E) RX5 RX5 193 yX5_safeOf cX5_safeOf 4 (some .int) (Cond.code yX5_safeOf cX5_safeOf 4 (some .int) :: eu_TB) ({ frames := 5, cells := 0, slots := 0, locals := 116 } : Room) 0 0 1 := eu_cwV C tw_432 tw_433 tw_434 tw_5 tw_435 rfl rfl (by decide +kernel) (by decide)
theorem cw_X5_digest_X5_oftenNow_214 {E : eu_E} (C : eu_C E ({ frames := 7, cells := 0, slots := 0, locals := 168 } : Room) 25 12 5 cX5_digest RX5 (Cond.code yX5_digest cX5_digest 5 (some .long) :: eu_TB) (some .long)) : CallW (eu_R E) (eu_s E) (eu_a E) RX5 RX5 214 yX5_oftenNow cX5_oftenNow 6 (some .int) (Cond.code yX5_oftenNow cX5_oftenNow 6 (some .int) :: eu_TB) ({ frames := 5, cells := 0, slots := 0, locals := 114 } : Room) 0 0 0 := eu_cwV C tw_505 tw_506 tw_507 tw_5 tw_508 rfl rfl (by decide +kernel) (by decide)
theorem cw_X5_digest_X5_lastOf_208 {E : eu_E} (C : eu_C E ({ frames := 7, cells := 0, slots := 0, locals := 168 } : Room) 25 12 5 cX5_digest RX5 (Cond.code yX5_digest cX5_digest 5 (some .long) :: eu_TB) (some .long)) : CallW (eu_R E) (eu_s E) (eu_a E) RX5 RX5 208 yX5_lastOf cX5_lastOf 8 (some .int) (Cond.code yX5_lastOf cX5_lastOf 8 (some .int) :: eu_TB) ({ frames := 5, cells := 0, slots := 0, locals := 116 } : Room) 0 0 3 := eu_cwV C tw_463 tw_464 tw_465 tw_5 tw_466 rfl rfl (by decide +kernel) (by decide)
theorem cw_X5_digest_X5_drawnOf_232 {E : eu_E} (C : eu_C E ({ frames := 7, cells := 0, slots := 0, locals := 168 } : Room) 25 12 5 cX5_digest RX5 (Cond.code yX5_digest cX5_digest 5 (some .long) :: eu_TB) (some .long)) : CallW (eu_R E) (eu_s E) (eu_a E) RX5 RX5 232 yX5_drawnOf cX5_drawnOf 9 (some .int) (Cond.code yX5_drawnOf cX5_drawnOf 9 (some .int) :: eu_TB) ({ frames := 4, cells := 0, slots := 0, locals := 92 } : Room) 0 0 3 := eu_cwV C tw_537 tw_538 tw_539 tw_5 tw_540 rfl rfl (by decide +kernel) (by decide)
set_option maxHeartbeats 4000000 in
set_option maxRecDepth 100000 in
theorem wX5_digest_L332 {E : eu_E} (C : eu_C E ({ frames := 7, cells := 0, slots := 0, locals := 168 } : Room) 25 12 5 cX5_digest RX5 (Cond.code yX5_digest cX5_digest 5 (some .long) :: eu_TB) (some .long)) {r : Int64} {σ' : eu_T}   : ∀ (n : Nat) (σ : eu_T) (v1 : Int64) (v3 : Int32), fX5_digest_L332 n σ v1 v3 = some (r, σ') → eu_G E 25 12 5 (eu_QL E 25 12 σ' r) σ 332 [(0, .ref (eu_ad E 25)), (1, .long v1), (3, .int v3)] [] := by
  intro n
  induction n with
  | zero =>
    intro σ v1 v3  h
    rw [fX5_digest_L332_z] at h
    cases h
  | succ n ih =>
    intro σ v1 v3  h
    rw [fX5_digest_L332_s] at h
    refine eg_iload_n C 2 dX5_digest_332 rfl ?_
    refine eg_iconst C (2 : Int32) dX5_digest_333 (by decide) ?_
    refine eg_icmp_ge C 359 dX5_digest_334 (by decide) (fun c => ?_) (fun c => ?_)
    · rw [if_pos c] at h
      refine eg_lload_n C 1 dX5_digest_359 rfl ?_
      obtain ⟨rfl, rfl⟩ := eu_inj2 h
      exact eg_lret C rfl dX5_digest_360
    · rw [if_neg c] at h
      refine eg_ldc2 C (31 : Int64) dX5_digest_337 (List.mem_cons_of_mem _ tw_675) ?_
      refine eg_lload_n C 1 dX5_digest_340 rfl ?_
      refine eg_lmul C dX5_digest_341 ?_
      refine eg_aload_n C 0 dX5_digest_342 rfl ?_
      refine eg_bipush C (7 : Int32) dX5_digest_343 (by decide) ?_
      refine eg_iconst C (3 : Int32) dX5_digest_345 (by decide) ?_
      refine eg_iload_n C 2 dX5_digest_346 rfl ?_
      obtain ⟨r38, σ39, hr38, h⟩ := eu_b2_some h
      refine eg_callI C (cw_X5_digest_X5_drawnOf_232 C) (av := [.int (7 : Int32), .int (3 : Int32), .int v3]) 25 (by decide) (kX5_drawnOf hr38) rfl rfl rfl rfl (st := [.long ((31 : Int64) * v1)]) rfl (Nat.le_of_ble_eq_true rfl) dX5_digest_347 ?_
      refine eg_i2l C dX5_digest_350 ?_
      refine eg_ladd C dX5_digest_351 ?_
      refine eg_lstore_n C [(1, .long (((31 : Int64) * v1) + r38.toInt64)), (0, .ref (eu_ad E 25)), (3, .int v3)] dX5_digest_352 rfl (by decide) rfl ?_
      refine eg_iinc C 2 (v3 + (1 : Int32)) [(3, .int (v3 + (1 : Int32))), (1, .long (((31 : Int64) * v1) + r38.toInt64)), (0, .ref (eu_ad E 25))] dX5_digest_353 rfl rfl (by decide) rfl ?_
      refine eg_goto C 332 dX5_digest_356 (by decide) ?_
      refine eg_sub C [2, 1, 0] rfl ?_
      exact ih _ _ _ h
set_option maxHeartbeats 4000000 in
set_option maxRecDepth 100000 in
theorem wX5_digest_L292 {E : eu_E} (C : eu_C E ({ frames := 7, cells := 0, slots := 0, locals := 168 } : Room) 25 12 5 cX5_digest RX5 (Cond.code yX5_digest cX5_digest 5 (some .long) :: eu_TB) (some .long)) {r : Int64} {σ' : eu_T}   : ∀ (n : Nat) (σ : eu_T) (v1 : Int64) (v3 : Int32), fX5_digest_L292 n σ v1 v3 = some (r, σ') → eu_G E 25 12 5 (eu_QL E 25 12 σ' r) σ 292 [(0, .ref (eu_ad E 25)), (1, .long v1), (3, .int v3)] [] := by
  intro n
  induction n with
  | zero =>
    intro σ v1 v3  h
    rw [fX5_digest_L292_z] at h
    cases h
  | succ n ih =>
    intro σ v1 v3  h
    rw [fX5_digest_L292_s] at h
    refine eg_iload_n C 2 dX5_digest_292 rfl ?_
    refine eg_iconst C (4 : Int32) dX5_digest_293 (by decide) ?_
    refine eg_icmp_ge C 318 dX5_digest_294 (by decide) (fun c => ?_) (fun c => ?_)
    · rw [if_pos c] at h
      refine eg_ldc2 C (31 : Int64) dX5_digest_318 (List.mem_cons_of_mem _ tw_675) ?_
      refine eg_lload_n C 1 dX5_digest_321 rfl ?_
      refine eg_lmul C dX5_digest_322 ?_
      refine eg_aload_n C 0 dX5_digest_323 rfl ?_
      obtain ⟨r34, σ35, hr34, h⟩ := eu_b2_some h
      refine eg_callI C (cw_X5_digest_X5_oftenNow_214 C) (av := []) 25 (by decide) (kX5_oftenNow hr34) rfl rfl rfl rfl (st := [.long ((31 : Int64) * v1)]) rfl (Nat.le_of_ble_eq_true rfl) dX5_digest_324 ?_
      refine eg_i2l C dX5_digest_327 ?_
      refine eg_ladd C dX5_digest_328 ?_
      refine eg_lstore_n C [(1, .long (((31 : Int64) * v1) + r34.toInt64)), (0, .ref (eu_ad E 25)), (3, .int v3)] dX5_digest_329 rfl (by decide) rfl ?_
      refine eg_iconst C (0 : Int32) dX5_digest_330 (by decide) ?_
      refine eg_istore_n C [(3, .int (0 : Int32)), (1, .long (((31 : Int64) * v1) + r34.toInt64)), (0, .ref (eu_ad E 25))] dX5_digest_331 rfl (by decide) rfl ?_
      refine eg_sub C [2, 1, 0] rfl ?_
      exact wX5_digest_L332 C 200 _ _ _ h
    · rw [if_neg c] at h
      refine eg_ldc2 C (31 : Int64) dX5_digest_297 (List.mem_cons_of_mem _ tw_675) ?_
      refine eg_lload_n C 1 dX5_digest_300 rfl ?_
      refine eg_lmul C dX5_digest_301 ?_
      refine eg_aload_n C 0 dX5_digest_302 rfl ?_
      refine eg_iconst C (0 : Int32) dX5_digest_303 (by decide) ?_
      refine eg_iconst C (1 : Int32) dX5_digest_304 (by decide) ?_
      refine eg_iload_n C 2 dX5_digest_305 rfl ?_
      obtain ⟨r36, σ37, hr36, h⟩ := eu_b2_some h
      refine eg_callI C (cw_X5_digest_X5_lastOf_208 C) (av := [.int (0 : Int32), .int (1 : Int32), .int v3]) 25 (by decide) (kX5_lastOf hr36) rfl rfl rfl rfl (st := [.long ((31 : Int64) * v1)]) rfl (Nat.le_of_ble_eq_true rfl) dX5_digest_306 ?_
      refine eg_i2l C dX5_digest_309 ?_
      refine eg_ladd C dX5_digest_310 ?_
      refine eg_lstore_n C [(1, .long (((31 : Int64) * v1) + r36.toInt64)), (0, .ref (eu_ad E 25)), (3, .int v3)] dX5_digest_311 rfl (by decide) rfl ?_
      refine eg_iinc C 2 (v3 + (1 : Int32)) [(3, .int (v3 + (1 : Int32))), (1, .long (((31 : Int64) * v1) + r36.toInt64)), (0, .ref (eu_ad E 25))] dX5_digest_312 rfl rfl (by decide) rfl ?_
      refine eg_goto C 292 dX5_digest_315 (by decide) ?_
      refine eg_sub C [2, 1, 0] rfl ?_
      exact ih _ _ _ h
set_option maxHeartbeats 4000000 in
set_option maxRecDepth 100000 in
theorem wX5_digest_L266 {E : eu_E} (C : eu_C E ({ frames := 7, cells := 0, slots := 0, locals := 168 } : Room) 25 12 5 cX5_digest RX5 (Cond.code yX5_digest cX5_digest 5 (some .long) :: eu_TB) (some .long)) {r : Int64} {σ' : eu_T}   : ∀ (n : Nat) (σ : eu_T) (v1 : Int64) (v3 : Int32), fX5_digest_L266 n σ v1 v3 = some (r, σ') → eu_G E 25 12 5 (eu_QL E 25 12 σ' r) σ 266 [(0, .ref (eu_ad E 25)), (1, .long v1), (3, .int v3)] [] := by
  intro n
  induction n with
  | zero =>
    intro σ v1 v3  h
    rw [fX5_digest_L266_z] at h
    cases h
  | succ n ih =>
    intro σ v1 v3  h
    rw [fX5_digest_L266_s] at h
    refine eg_iload_n C 2 dX5_digest_266 rfl ?_
    refine eg_iconst C (3 : Int32) dX5_digest_267 (by decide) ?_
    refine eg_icmp_ge C 290 dX5_digest_268 (by decide) (fun c => ?_) (fun c => ?_)
    · rw [if_pos c] at h
      refine eg_iconst C (0 : Int32) dX5_digest_290 (by decide) ?_
      refine eg_istore_n C [(3, .int (0 : Int32)), (0, .ref (eu_ad E 25)), (1, .long v1)] dX5_digest_291 rfl (by decide) rfl ?_
      refine eg_sub C [1, 2, 0] rfl ?_
      exact wX5_digest_L292 C 200 _ _ _ h
    · rw [if_neg c] at h
      refine eg_ldc2 C (31 : Int64) dX5_digest_271 (List.mem_cons_of_mem _ tw_675) ?_
      refine eg_lload_n C 1 dX5_digest_274 rfl ?_
      refine eg_lmul C dX5_digest_275 ?_
      refine eg_aload_n C 0 dX5_digest_276 rfl ?_
      refine eg_iload_n C 2 dX5_digest_277 rfl ?_
      obtain ⟨r32, σ33, hr32, h⟩ := eu_b2_some h
      refine eg_callI C (cw_X5_digest_X5_safeOf_193 C) (av := [.int v3]) 25 (by decide) (kX5_safeOf hr32) rfl rfl rfl rfl (st := [.long ((31 : Int64) * v1)]) rfl (Nat.le_of_ble_eq_true rfl) dX5_digest_278 ?_
      refine eg_i2l C dX5_digest_281 ?_
      refine eg_ladd C dX5_digest_282 ?_
      refine eg_lstore_n C [(1, .long (((31 : Int64) * v1) + r32.toInt64)), (0, .ref (eu_ad E 25)), (3, .int v3)] dX5_digest_283 rfl (by decide) rfl ?_
      refine eg_iinc C 2 (v3 + (1 : Int32)) [(3, .int (v3 + (1 : Int32))), (1, .long (((31 : Int64) * v1) + r32.toInt64)), (0, .ref (eu_ad E 25))] dX5_digest_284 rfl rfl (by decide) rfl ?_
      refine eg_goto C 266 dX5_digest_287 (by decide) ?_
      refine eg_sub C [2, 1, 0] rfl ?_
      exact ih _ _ _ h
set_option maxHeartbeats 4000000 in
set_option maxRecDepth 100000 in
theorem wX5_digest_L190 {E : eu_E} (C : eu_C E ({ frames := 7, cells := 0, slots := 0, locals := 168 } : Room) 25 12 5 cX5_digest RX5 (Cond.code yX5_digest cX5_digest 5 (some .long) :: eu_TB) (some .long)) {r : Int64} {σ' : eu_T}   : ∀ (n : Nat) (σ : eu_T) (v1 : Int64) (v3 : Int32), fX5_digest_L190 n σ v1 v3 = some (r, σ') → eu_G E 25 12 5 (eu_QL E 25 12 σ' r) σ 190 [(0, .ref (eu_ad E 25)), (1, .long v1), (3, .int v3)] [] := by
  intro n
  induction n with
  | zero =>
    intro σ v1 v3  h
    rw [fX5_digest_L190_z] at h
    cases h
  | succ n ih =>
    intro σ v1 v3  h
    rw [fX5_digest_L190_s] at h
    refine eg_iload_n C 2 dX5_digest_190 rfl ?_
    refine eg_aload_n C 0 dX5_digest_191 rfl ?_
    refine gf_X5_108 C (by decide) dX5_digest_192 ?_
    refine eg_icmp_gt C 232 dX5_digest_195 (by decide) (fun c => ?_) (fun c => ?_)
    · rw [if_pos c] at h
      refine eg_ldc2 C (31 : Int64) dX5_digest_232 (List.mem_cons_of_mem _ tw_675) ?_
      refine eg_lload_n C 1 dX5_digest_235 rfl ?_
      refine eg_lmul C dX5_digest_236 ?_
      refine eg_aload_n C 0 dX5_digest_237 rfl ?_
      refine eg_iconst C (1 : Int32) dX5_digest_238 (by decide) ?_
      refine eg_iconst C (2 : Int32) dX5_digest_239 (by decide) ?_
      refine eg_iconst C (2 : Int32) dX5_digest_240 (by decide) ?_
      refine eg_iconst C (0 : Int32) dX5_digest_241 (by decide) ?_
      obtain ⟨r22, σ23, hr22, h⟩ := eu_b2_some h
      refine eg_callI C (cw_X5_digest_X5_fewestOf_186 C) (av := [.int (1 : Int32), .int (2 : Int32), .int (2 : Int32), .int (0 : Int32)]) 25 (by decide) (kX5_fewestOf hr22) rfl rfl rfl rfl (st := [.long ((31 : Int64) * v1)]) rfl (Nat.le_of_ble_eq_true rfl) dX5_digest_242 ?_
      refine eg_i2l C dX5_digest_245 ?_
      refine eg_ladd C dX5_digest_246 ?_
      refine eg_lstore_n C [(1, .long (((31 : Int64) * v1) + r22.toInt64)), (0, .ref (eu_ad E 25)), (3, .int v3)] dX5_digest_247 rfl (by decide) rfl ?_
      refine eg_ldc2 C (31 : Int64) dX5_digest_248 (List.mem_cons_of_mem _ tw_675) ?_
      refine eg_lload_n C 0 dX5_digest_251 rfl ?_
      refine eg_lmul C dX5_digest_252 ?_
      refine eg_aload_n C 1 dX5_digest_253 rfl ?_
      refine eg_iconst C (1 : Int32) dX5_digest_254 (by decide) ?_
      refine eg_iconst C (2 : Int32) dX5_digest_255 (by decide) ?_
      refine eg_iconst C (2 : Int32) dX5_digest_256 (by decide) ?_
      refine eg_iconst C (1 : Int32) dX5_digest_257 (by decide) ?_
      obtain ⟨r24, σ25, hr24, h⟩ := eu_b2_some h
      refine eg_callI C (cw_X5_digest_X5_fewestOf_186 C) (av := [.int (1 : Int32), .int (2 : Int32), .int (2 : Int32), .int (1 : Int32)]) 25 (by decide) (kX5_fewestOf hr24) rfl rfl rfl rfl (st := [.long ((31 : Int64) * (((31 : Int64) * v1) + r22.toInt64))]) rfl (Nat.le_of_ble_eq_true rfl) dX5_digest_258 ?_
      refine eg_i2l C dX5_digest_261 ?_
      refine eg_ladd C dX5_digest_262 ?_
      obtain ⟨x26, ex26, h⟩ := eu_lt_x h
      rw [← ex26]
      refine eg_lstore_n C [(1, .long x26), (0, .ref (eu_ad E 25)), (3, .int v3)] dX5_digest_263 rfl (by decide) rfl ?_
      refine eg_iconst C (0 : Int32) dX5_digest_264 (by decide) ?_
      refine eg_istore_n C [(3, .int (0 : Int32)), (1, .long x26), (0, .ref (eu_ad E 25))] dX5_digest_265 rfl (by decide) rfl ?_
      refine eg_sub C [2, 1, 0] rfl ?_
      exact wX5_digest_L266 C 200 _ _ _ h
    · rw [if_neg c] at h
      refine eg_ldc2 C (31 : Int64) dX5_digest_198 (List.mem_cons_of_mem _ tw_675) ?_
      refine eg_lload_n C 1 dX5_digest_201 rfl ?_
      refine eg_lmul C dX5_digest_202 ?_
      refine eg_aload_n C 0 dX5_digest_203 rfl ?_
      refine eg_iload_n C 2 dX5_digest_204 rfl ?_
      refine eg_iconst C (0 : Int32) dX5_digest_205 (by decide) ?_
      obtain ⟨r27, σ28, hr27, h⟩ := eu_b2_some h
      refine eg_callI C (cw_X5_digest_X5_stateOf_159 C) (av := [.int v3, .int (0 : Int32)]) 25 (by decide) (kX5_stateOf hr27) rfl rfl rfl rfl (st := [.long ((31 : Int64) * v1)]) rfl (Nat.le_of_ble_eq_true rfl) dX5_digest_206 ?_
      refine eg_i2l C dX5_digest_209 ?_
      refine eg_ladd C dX5_digest_210 ?_
      refine eg_lstore_n C [(1, .long (((31 : Int64) * v1) + r27.toInt64)), (0, .ref (eu_ad E 25)), (3, .int v3)] dX5_digest_211 rfl (by decide) rfl ?_
      refine eg_ldc2 C (31 : Int64) dX5_digest_212 (List.mem_cons_of_mem _ tw_675) ?_
      refine eg_lload_n C 0 dX5_digest_215 rfl ?_
      refine eg_lmul C dX5_digest_216 ?_
      refine eg_aload_n C 1 dX5_digest_217 rfl ?_
      refine eg_iload_n C 2 dX5_digest_218 rfl ?_
      refine eg_iconst C (1 : Int32) dX5_digest_219 (by decide) ?_
      obtain ⟨r29, σ30, hr29, h⟩ := eu_b2_some h
      refine eg_callI C (cw_X5_digest_X5_stateOf_159 C) (av := [.int v3, .int (1 : Int32)]) 25 (by decide) (kX5_stateOf hr29) rfl rfl rfl rfl (st := [.long ((31 : Int64) * (((31 : Int64) * v1) + r27.toInt64))]) rfl (Nat.le_of_ble_eq_true rfl) dX5_digest_220 ?_
      refine eg_i2l C dX5_digest_223 ?_
      refine eg_ladd C dX5_digest_224 ?_
      obtain ⟨x31, ex31, h⟩ := eu_lt_x h
      rw [← ex31]
      refine eg_lstore_n C [(1, .long x31), (0, .ref (eu_ad E 25)), (3, .int v3)] dX5_digest_225 rfl (by decide) rfl ?_
      refine eg_iinc C 2 (v3 + (1 : Int32)) [(3, .int (v3 + (1 : Int32))), (1, .long x31), (0, .ref (eu_ad E 25))] dX5_digest_226 rfl rfl (by decide) rfl ?_
      refine eg_goto C 190 dX5_digest_229 (by decide) ?_
      refine eg_sub C [2, 1, 0] rfl ?_
      exact ih _ _ _ h
set_option maxHeartbeats 4000000 in
set_option maxRecDepth 100000 in
theorem wX5_digest_L120 {E : eu_E} (C : eu_C E ({ frames := 7, cells := 0, slots := 0, locals := 168 } : Room) 25 12 5 cX5_digest RX5 (Cond.code yX5_digest cX5_digest 5 (some .long) :: eu_TB) (some .long)) {r : Int64} {σ' : eu_T}   : ∀ (n : Nat) (σ : eu_T) (v1 : Int64) (v3 : Int32), fX5_digest_L120 n σ v1 v3 = some (r, σ') → eu_G E 25 12 5 (eu_QL E 25 12 σ' r) σ 120 [(0, .ref (eu_ad E 25)), (1, .long v1), (3, .int v3)] [] := by
  intro n
  induction n with
  | zero =>
    intro σ v1 v3  h
    rw [fX5_digest_L120_z] at h
    cases h
  | succ n ih =>
    intro σ v1 v3  h
    rw [fX5_digest_L120_s] at h
    refine eg_iload_n C 2 dX5_digest_120 rfl ?_
    refine eg_aload_n C 0 dX5_digest_121 rfl ?_
    refine gf_X5_108 C (by decide) dX5_digest_122 ?_
    refine eg_icmp_ge C 188 dX5_digest_125 (by decide) (fun c => ?_) (fun c => ?_)
    · rw [if_pos c] at h
      refine eg_iconst C (0 : Int32) dX5_digest_188 (by decide) ?_
      refine eg_istore_n C [(3, .int (0 : Int32)), (0, .ref (eu_ad E 25)), (1, .long v1)] dX5_digest_189 rfl (by decide) rfl ?_
      refine eg_sub C [1, 2, 0] rfl ?_
      exact wX5_digest_L190 C 200 _ _ _ h
    · rw [if_neg c] at h
      refine eg_ldc2 C (31 : Int64) dX5_digest_128 (List.mem_cons_of_mem _ tw_675) ?_
      refine eg_lload_n C 1 dX5_digest_131 rfl ?_
      refine eg_lmul C dX5_digest_132 ?_
      refine eg_aload_n C 0 dX5_digest_133 rfl ?_
      refine eg_iload_n C 2 dX5_digest_134 rfl ?_
      obtain ⟨r8, σ9, hr8, h⟩ := eu_b2_some h
      refine eg_callI C (cw_X5_digest_X5_holds_245 C) (av := [.int v3]) 25 (by decide) (kX5_holds hr8) rfl rfl rfl rfl (st := [.long ((31 : Int64) * v1)]) rfl (Nat.le_of_ble_eq_true rfl) dX5_digest_135 ?_
      refine eg_i2l C dX5_digest_138 ?_
      refine eg_ladd C dX5_digest_139 ?_
      refine eg_lstore_n C [(1, .long (((31 : Int64) * v1) + r8.toInt64)), (0, .ref (eu_ad E 25)), (3, .int v3)] dX5_digest_140 rfl (by decide) rfl ?_
      refine eg_ldc2 C (31 : Int64) dX5_digest_141 (List.mem_cons_of_mem _ tw_675) ?_
      refine eg_lload_n C 0 dX5_digest_144 rfl ?_
      refine eg_lmul C dX5_digest_145 ?_
      refine eg_aload_n C 1 dX5_digest_146 rfl ?_
      refine eg_iload_n C 2 dX5_digest_147 rfl ?_
      obtain ⟨r10, σ11, hr10, h⟩ := eu_b2_some h
      refine eg_callI C (cw_X5_digest_X5_byOf_165 C) (av := [.int v3]) 25 (by decide) (kX5_byOf hr10) rfl rfl rfl rfl (st := [.long ((31 : Int64) * (((31 : Int64) * v1) + r8.toInt64))]) rfl (Nat.le_of_ble_eq_true rfl) dX5_digest_148 ?_
      refine eg_i2l C dX5_digest_151 ?_
      refine eg_ladd C dX5_digest_152 ?_
      obtain ⟨x12, ex12, h⟩ := eu_lt_x h
      rw [← ex12]
      refine eg_lstore_n C [(1, .long x12), (0, .ref (eu_ad E 25)), (3, .int v3)] dX5_digest_153 rfl (by decide) rfl ?_
      refine eg_ldc2 C (31 : Int64) dX5_digest_154 (List.mem_cons_of_mem _ tw_675) ?_
      refine eg_lload_n C 0 dX5_digest_157 rfl ?_
      refine eg_lmul C dX5_digest_158 ?_
      refine eg_aload_n C 1 dX5_digest_159 rfl ?_
      refine eg_iload_n C 2 dX5_digest_160 rfl ?_
      refine eg_iconst C (0 : Int32) dX5_digest_161 (by decide) ?_
      obtain ⟨r13, σ14, hr13, h⟩ := eu_b2_some h
      refine eg_callI C (cw_X5_digest_X5_withoutOf_171 C) (av := [.int v3, .int (0 : Int32)]) 25 (by decide) (kX5_withoutOf hr13) rfl rfl rfl rfl (st := [.long ((31 : Int64) * x12)]) rfl (Nat.le_of_ble_eq_true rfl) dX5_digest_162 ?_
      refine eg_i2l C dX5_digest_165 ?_
      refine eg_ladd C dX5_digest_166 ?_
      refine eg_lstore_n C [(1, .long (((31 : Int64) * x12) + r13.toInt64)), (0, .ref (eu_ad E 25)), (3, .int v3)] dX5_digest_167 rfl (by decide) rfl ?_
      refine eg_ldc2 C (31 : Int64) dX5_digest_168 (List.mem_cons_of_mem _ tw_675) ?_
      refine eg_lload_n C 0 dX5_digest_171 rfl ?_
      refine eg_lmul C dX5_digest_172 ?_
      refine eg_aload_n C 1 dX5_digest_173 rfl ?_
      refine eg_iload_n C 2 dX5_digest_174 rfl ?_
      refine eg_iconst C (1 : Int32) dX5_digest_175 (by decide) ?_
      obtain ⟨r15, σ16, hr15, h⟩ := eu_b2_some h
      refine eg_callI C (cw_X5_digest_X5_withoutOf_171 C) (av := [.int v3, .int (1 : Int32)]) 25 (by decide) (kX5_withoutOf hr15) rfl rfl rfl rfl (st := [.long ((31 : Int64) * (((31 : Int64) * x12) + r13.toInt64))]) rfl (Nat.le_of_ble_eq_true rfl) dX5_digest_176 ?_
      refine eg_i2l C dX5_digest_179 ?_
      refine eg_ladd C dX5_digest_180 ?_
      obtain ⟨x17, ex17, h⟩ := eu_lt_x h
      rw [← ex17]
      refine eg_lstore_n C [(1, .long x17), (0, .ref (eu_ad E 25)), (3, .int v3)] dX5_digest_181 rfl (by decide) rfl ?_
      refine eg_iinc C 2 (v3 + (1 : Int32)) [(3, .int (v3 + (1 : Int32))), (1, .long x17), (0, .ref (eu_ad E 25))] dX5_digest_182 rfl rfl (by decide) rfl ?_
      refine eg_goto C 120 dX5_digest_185 (by decide) ?_
      refine eg_sub C [2, 1, 0] rfl ?_
      exact ih _ _ _ h
set_option maxHeartbeats 4000000 in
set_option maxRecDepth 100000 in
theorem wX5_digest_L68 {E : eu_E} (C : eu_C E ({ frames := 7, cells := 0, slots := 0, locals := 168 } : Room) 25 12 5 cX5_digest RX5 (Cond.code yX5_digest cX5_digest 5 (some .long) :: eu_TB) (some .long)) {r : Int64} {σ' : eu_T} {k57 : eu_T → Int64 → Int32 → Option (Int64 × eu_T)} (hk_57 : ∀ (σ : eu_T) (v1 : Int64) (v3 : Int32), k57 σ v1 v3 = some (r, σ') → eu_G E 25 12 5 (eu_QL E 25 12 σ' r) σ 57 [(0, .ref (eu_ad E 25)), (1, .long v1), (3, .int v3)] []) : ∀ (n : Nat) (σ : eu_T) (v1 : Int64) (v3 : Int32) (v4 : Int32), fX5_digest_L68 k57 n σ v1 v3 v4 = some (r, σ') → eu_G E 25 12 5 (eu_QL E 25 12 σ' r) σ 68 [(0, .ref (eu_ad E 25)), (1, .long v1), (3, .int v3), (4, .int v4)] [] := by
  intro n
  induction n with
  | zero =>
    intro σ v1 v3 v4  h
    rw [fX5_digest_L68_z] at h
    cases h
  | succ n ih =>
    intro σ v1 v3 v4  h
    rw [fX5_digest_L68_s] at h
    refine eg_iload C 3 dX5_digest_68 rfl ?_
    refine eg_iconst C (3 : Int32) dX5_digest_70 (by decide) ?_
    refine eg_icmp_ge C 99 dX5_digest_71 (by decide) (fun c => ?_) (fun c => ?_)
    · rw [if_pos c] at h
      refine eg_ldc2 C (31 : Int64) dX5_digest_99 (List.mem_cons_of_mem _ tw_675) ?_
      refine eg_lload_n C 1 dX5_digest_102 rfl ?_
      refine eg_lmul C dX5_digest_103 ?_
      refine eg_aload_n C 0 dX5_digest_104 rfl ?_
      refine eg_iload_n C 2 dX5_digest_105 rfl ?_
      obtain ⟨r18, σ19, hr18, h⟩ := eu_b2_some h
      refine eg_callI C (cw_X5_digest_X5_rootOf_162 C) (av := [.int v3]) 25 (by decide) (kX5_rootOf hr18) rfl rfl rfl rfl (st := [.long ((31 : Int64) * v1)]) rfl (Nat.le_of_ble_eq_true rfl) dX5_digest_106 ?_
      refine eg_i2l C dX5_digest_109 ?_
      refine eg_ladd C dX5_digest_110 ?_
      refine eg_lstore_n C [(1, .long (((31 : Int64) * v1) + r18.toInt64)), (0, .ref (eu_ad E 25)), (3, .int v3), (4, .int v4)] dX5_digest_111 rfl (by decide) rfl ?_
      refine eg_iinc C 2 (v3 + (1 : Int32)) [(3, .int (v3 + (1 : Int32))), (1, .long (((31 : Int64) * v1) + r18.toInt64)), (0, .ref (eu_ad E 25)), (4, .int v4)] dX5_digest_112 rfl rfl (by decide) rfl ?_
      refine eg_goto C 57 dX5_digest_115 (by decide) ?_
      refine eg_sub C [2, 1, 0] rfl ?_
      exact hk_57 _ _ _ h
    · rw [if_neg c] at h
      refine eg_ldc2 C (31 : Int64) dX5_digest_74 (List.mem_cons_of_mem _ tw_675) ?_
      refine eg_lload_n C 1 dX5_digest_77 rfl ?_
      refine eg_lmul C dX5_digest_78 ?_
      refine eg_aload_n C 0 dX5_digest_79 rfl ?_
      refine gf_X5_25 C (by decide) dX5_digest_80 ?_
      refine eg_iconst C (3 : Int32) dX5_digest_83 (by decide) ?_
      refine eg_iload_n C 2 dX5_digest_84 rfl ?_
      refine eg_imul C dX5_digest_85 ?_
      refine eg_iload C 3 dX5_digest_86 rfl ?_
      refine eg_iadd C dX5_digest_88 ?_
      obtain ⟨g20, h⟩ := eu_gd_some h
      refine eg_iald C 31 (by decide) (z := 36) (fun _ => rfl) (eu_in_vp g20) dX5_digest_89 ?_
      refine eg_i2l C dX5_digest_90 ?_
      refine eg_ladd C dX5_digest_91 ?_
      obtain ⟨x21, ex21, h⟩ := eu_lt_x h
      rw [← ex21]
      refine eg_lstore_n C [(1, .long x21), (0, .ref (eu_ad E 25)), (3, .int v3), (4, .int v4)] dX5_digest_92 rfl (by decide) rfl ?_
      refine eg_iinc C 3 (v4 + (1 : Int32)) [(4, .int (v4 + (1 : Int32))), (1, .long x21), (0, .ref (eu_ad E 25)), (3, .int v3)] dX5_digest_93 rfl rfl (by decide) rfl ?_
      refine eg_goto C 68 dX5_digest_96 (by decide) ?_
      refine eg_sub C [2, 1, 3, 0] rfl ?_
      exact ih _ _ _ _ h
set_option maxHeartbeats 4000000 in
set_option maxRecDepth 100000 in
theorem wX5_digest_L57 {E : eu_E} (C : eu_C E ({ frames := 7, cells := 0, slots := 0, locals := 168 } : Room) 25 12 5 cX5_digest RX5 (Cond.code yX5_digest cX5_digest 5 (some .long) :: eu_TB) (some .long)) {r : Int64} {σ' : eu_T}   : ∀ (n : Nat) (σ : eu_T) (v1 : Int64) (v3 : Int32), fX5_digest_L57 n σ v1 v3 = some (r, σ') → eu_G E 25 12 5 (eu_QL E 25 12 σ' r) σ 57 [(0, .ref (eu_ad E 25)), (1, .long v1), (3, .int v3)] [] := by
  intro n
  induction n with
  | zero =>
    intro σ v1 v3  h
    rw [fX5_digest_L57_z] at h
    cases h
  | succ n ih =>
    intro σ v1 v3  h
    rw [fX5_digest_L57_s] at h
    refine eg_iload_n C 2 dX5_digest_57 rfl ?_
    refine eg_aload_n C 0 dX5_digest_58 rfl ?_
    refine gf_X5_81 C (by decide) dX5_digest_59 ?_
    refine eg_icmp_ge C 118 dX5_digest_62 (by decide) (fun c => ?_) (fun c => ?_)
    · rw [if_pos c] at h
      refine eg_iconst C (0 : Int32) dX5_digest_118 (by decide) ?_
      refine eg_istore_n C [(3, .int (0 : Int32)), (0, .ref (eu_ad E 25)), (1, .long v1)] dX5_digest_119 rfl (by decide) rfl ?_
      refine eg_sub C [1, 2, 0] rfl ?_
      exact wX5_digest_L120 C 200 _ _ _ h
    · rw [if_neg c] at h
      refine eg_iconst C (0 : Int32) dX5_digest_65 (by decide) ?_
      refine eg_istore C [(4, .int (0 : Int32)), (0, .ref (eu_ad E 25)), (1, .long v1), (3, .int v3)] dX5_digest_66 (by decide) rfl ?_
      refine eg_sub C [1, 2, 3, 0] rfl ?_
      exact wX5_digest_L68 C ih 200 _ _ _ _ h
set_option maxHeartbeats 4000000 in
set_option maxRecDepth 100000 in
theorem wX5_digest_L6 {E : eu_E} (C : eu_C E ({ frames := 7, cells := 0, slots := 0, locals := 168 } : Room) 25 12 5 cX5_digest RX5 (Cond.code yX5_digest cX5_digest 5 (some .long) :: eu_TB) (some .long)) {r : Int64} {σ' : eu_T}   : ∀ (n : Nat) (σ : eu_T) (v1 : Int64) (v3 : Int32), fX5_digest_L6 n σ v1 v3 = some (r, σ') → eu_G E 25 12 5 (eu_QL E 25 12 σ' r) σ 6 [(0, .ref (eu_ad E 25)), (1, .long v1), (3, .int v3)] [] := by
  intro n
  induction n with
  | zero =>
    intro σ v1 v3  h
    rw [fX5_digest_L6_z] at h
    cases h
  | succ n ih =>
    intro σ v1 v3  h
    rw [fX5_digest_L6_s] at h
    refine eg_iload_n C 2 dX5_digest_6 rfl ?_
    refine eg_bipush C (8 : Int32) dX5_digest_7 (by decide) ?_
    refine eg_icmp_ge C 31 dX5_digest_9 (by decide) (fun c => ?_) (fun c => ?_)
    · rw [if_pos c] at h
      refine eg_ldc2 C (31 : Int64) dX5_digest_31 (List.mem_cons_of_mem _ tw_675) ?_
      refine eg_lload_n C 1 dX5_digest_34 rfl ?_
      refine eg_lmul C dX5_digest_35 ?_
      refine eg_aload_n C 0 dX5_digest_36 rfl ?_
      obtain ⟨r1, σ2, hr1, h⟩ := eu_b2_some h
      refine eg_callI C (cw_X5_digest_X5_reads_100 C) (av := []) 25 (by decide) (kX5_reads hr1) rfl rfl rfl rfl (st := [.long ((31 : Int64) * v1)]) rfl (Nat.le_of_ble_eq_true rfl) dX5_digest_37 ?_
      refine eg_i2l C dX5_digest_40 ?_
      refine eg_ladd C dX5_digest_41 ?_
      refine eg_lstore_n C [(1, .long (((31 : Int64) * v1) + r1.toInt64)), (0, .ref (eu_ad E 25)), (3, .int v3)] dX5_digest_42 rfl (by decide) rfl ?_
      refine eg_ldc2 C (31 : Int64) dX5_digest_43 (List.mem_cons_of_mem _ tw_675) ?_
      refine eg_lload_n C 0 dX5_digest_46 rfl ?_
      refine eg_lmul C dX5_digest_47 ?_
      refine eg_aload_n C 1 dX5_digest_48 rfl ?_
      obtain ⟨r3, σ4, hr3, h⟩ := eu_b2_some h
      refine eg_callI C (cw_X5_digest_X5_judged_242 C) (av := []) 25 (by decide) (kX5_judged hr3) rfl rfl rfl rfl (st := [.long ((31 : Int64) * (((31 : Int64) * v1) + r1.toInt64))]) rfl (Nat.le_of_ble_eq_true rfl) dX5_digest_49 ?_
      refine eg_i2l C dX5_digest_52 ?_
      refine eg_ladd C dX5_digest_53 ?_
      obtain ⟨x5, ex5, h⟩ := eu_lt_x h
      rw [← ex5]
      refine eg_lstore_n C [(1, .long x5), (0, .ref (eu_ad E 25)), (3, .int v3)] dX5_digest_54 rfl (by decide) rfl ?_
      refine eg_iconst C (0 : Int32) dX5_digest_55 (by decide) ?_
      refine eg_istore_n C [(3, .int (0 : Int32)), (1, .long x5), (0, .ref (eu_ad E 25))] dX5_digest_56 rfl (by decide) rfl ?_
      refine eg_sub C [2, 1, 0] rfl ?_
      exact wX5_digest_L57 C 200 _ _ _ h
    · rw [if_neg c] at h
      refine eg_ldc2 C (31 : Int64) dX5_digest_12 (List.mem_cons_of_mem _ tw_675) ?_
      refine eg_lload_n C 1 dX5_digest_15 rfl ?_
      refine eg_lmul C dX5_digest_16 ?_
      refine eg_aload_n C 0 dX5_digest_17 rfl ?_
      refine eg_iload_n C 2 dX5_digest_18 rfl ?_
      obtain ⟨r6, σ7, hr6, h⟩ := eu_b2_some h
      refine eg_callI C (cw_X5_digest_X5_count_239 C) (av := [.int v3]) 25 (by decide) (kX5_count hr6) rfl rfl rfl rfl (st := [.long ((31 : Int64) * v1)]) rfl (Nat.le_of_ble_eq_true rfl) dX5_digest_19 ?_
      refine eg_i2l C dX5_digest_22 ?_
      refine eg_ladd C dX5_digest_23 ?_
      refine eg_lstore_n C [(1, .long (((31 : Int64) * v1) + r6.toInt64)), (0, .ref (eu_ad E 25)), (3, .int v3)] dX5_digest_24 rfl (by decide) rfl ?_
      refine eg_iinc C 2 (v3 + (1 : Int32)) [(3, .int (v3 + (1 : Int32))), (1, .long (((31 : Int64) * v1) + r6.toInt64)), (0, .ref (eu_ad E 25))] dX5_digest_25 rfl rfl (by decide) rfl ?_
      refine eg_goto C 6 dX5_digest_28 (by decide) ?_
      refine eg_sub C [2, 1, 0] rfl ?_
      exact ih _ _ _ h
set_option maxHeartbeats 4000000 in
set_option maxRecDepth 100000 in
theorem wX5_digest {E : eu_E} (C : eu_C E ({ frames := 7, cells := 0, slots := 0, locals := 168 } : Room) 25 12 5 cX5_digest RX5 (Cond.code yX5_digest cX5_digest 5 (some .long) :: eu_TB) (some .long)) {σ : eu_T} {r : Int64} {σ' : eu_T}   (h : fX5_digest σ = some (r, σ')) : eu_G E 25 12 5 (eu_QL E 25 12 σ' r) σ 0 [(0, .ref (eu_ad E 25))] [] := by
  unfold fX5_digest at h
  refine eg_ldc2 C (17 : Int64) dX5_digest_0 (List.mem_cons_of_mem _ tw_674) ?_
  refine eg_lstore_n C [(1, .long (17 : Int64)), (0, .ref (eu_ad E 25))] dX5_digest_3 rfl (by decide) rfl ?_
  refine eg_iconst C (0 : Int32) dX5_digest_4 (by decide) ?_
  refine eg_istore_n C [(3, .int (0 : Int32)), (1, .long (17 : Int64)), (0, .ref (eu_ad E 25))] dX5_digest_5 rfl (by decide) rfl ?_
  refine eg_sub C [2, 1, 0] rfl ?_
  exact wX5_digest_L6 C 200 _ _ _ h
theorem kX5_digest {l : Launch} {σ : eu_T} {r : Int64} {σ' : eu_T}   (h : fX5_digest σ = some (r, σ')) : eu_KL l yX5_digest (Cond.code yX5_digest cX5_digest 5 (some .long) :: eu_TB) ({ frames := 7, cells := 0, slots := 0, locals := 168 } : Room) 25 12 (fun ad => [.ref (ad 25)]) σ σ' r :=
  eu_KL_of (by decide) (by decide) rfl (fun _ => Nat.le_of_ble_eq_true rfl) (fun E C => wX5_digest C h)
