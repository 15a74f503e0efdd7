theorem cwl_X4_type {E : eu_E} {A : Nat → Prop} (C : eu_M E room_1 4 cL_law RL eu_TB ret A) : CallW (eu_R E) (eu_s E) (eu_a E) RL RX4 13 yX4_type cX4_type 2 (some .int) (Cond.code yX4_type cX4_type 2 (some .int) :: eu_TB) ({ frames := 4, cells := 0, slots := 0, locals := 89 } : Room) 0 0 1 := el_cwV C tw_71 tw_72 tw_73 tw_2 tw_74 rfl rfl (by decide +kernel) (by decide)
theorem cwl_X5_type {E : eu_E} {A : Nat → Prop} (C : eu_M E room_1 4 cL_law RL eu_TB ret A) : CallW (eu_R E) (eu_s E) (eu_a E) RL RX5 17 yX5_type cX5_type 2 (some .int) (Cond.code yX5_type cX5_type 2 (some .int) :: eu_TB) ({ frames := 1, cells := 0, slots := 0, locals := 25 } : Room) 0 0 1 := el_cwV C tw_103 tw_104 tw_105 tw_5 tw_106 rfl rfl (by decide +kernel) (by decide)
theorem cwl_X4_wipe {E : eu_E} {A : Nat → Prop} (C : eu_M E room_1 4 cL_law RL eu_TB ret A) : CallW (eu_R E) (eu_s E) (eu_a E) RL RX4 18 yX4_wipe cX4_wipe 1 (some .int) (Cond.code yX4_wipe cX4_wipe 1 (some .int) :: eu_TB) ({ frames := 4, cells := 0, slots := 0, locals := 89 } : Room) 0 0 0 := el_cwV C tw_112 tw_113 tw_114 tw_2 tw_115 rfl rfl (by decide +kernel) (by decide)
theorem cwl_X5_wipe {E : eu_E} {A : Nat → Prop} (C : eu_M E room_1 4 cL_law RL eu_TB ret A) : CallW (eu_R E) (eu_s E) (eu_a E) RL RX5 22 yX5_wipe cX5_wipe 2 (some .int) (Cond.code yX5_wipe cX5_wipe 2 (some .int) :: eu_TB) ({ frames := 0, cells := 0, slots := 0, locals := 0 } : Room) 0 0 0 := el_cwV C tw_119 tw_120 tw_121 tw_5 tw_122 rfl rfl (by decide +kernel) (by decide)
theorem cwl_X4_fault {E : eu_E} {A : Nat → Prop} (C : eu_M E room_1 4 cL_law RL eu_TB ret A) : CallW (eu_R E) (eu_s E) (eu_a E) RL RX4 23 yX4_fault cX4_fault 1 (some .int) (Cond.code yX4_fault cX4_fault 1 (some .int) :: eu_TB) ({ frames := 0, cells := 0, slots := 0, locals := 0 } : Room) 0 0 0 := el_cwV C tw_123 tw_124 tw_125 tw_2 tw_126 rfl rfl (by decide +kernel) (by decide)
theorem cwl_X5_fault {E : eu_E} {A : Nat → Prop} (C : eu_M E room_1 4 cL_law RL eu_TB ret A) : CallW (eu_R E) (eu_s E) (eu_a E) RL RX5 26 yX5_fault cX5_fault 1 (some .int) (Cond.code yX5_fault cX5_fault 1 (some .int) :: eu_TB) ({ frames := 3, cells := 0, slots := 0, locals := 69 } : Room) 0 0 0 := el_cwV C tw_127 tw_128 tw_129 tw_5 tw_130 rfl rfl (by decide +kernel) (by decide)
theorem cwl_X4_deed {E : eu_E} {A : Nat → Prop} (C : eu_M E room_1 4 cL_law RL eu_TB ret A) : CallW (eu_R E) (eu_s E) (eu_a E) RL RX4 27 yX4_deed cX4_deed 3 (some .int) (Cond.code yX4_deed cX4_deed 3 (some .int) :: eu_TB) ({ frames := 1, cells := 0, slots := 0, locals := 21 } : Room) 0 0 2 := el_cwV C tw_153 tw_154 tw_155 tw_2 tw_156 rfl rfl (by decide +kernel) (by decide)
theorem cwl_X5_deed {E : eu_E} {A : Nat → Prop} (C : eu_M E room_1 4 cL_law RL eu_TB ret A) : CallW (eu_R E) (eu_s E) (eu_a E) RL RX5 31 yX5_deed cX5_deed 3 (some .int) (Cond.code yX5_deed cX5_deed 3 (some .int) :: eu_TB) ({ frames := 4, cells := 0, slots := 0, locals := 90 } : Room) 0 0 2 := el_cwV C tw_160 tw_161 tw_162 tw_5 tw_163 rfl rfl (by decide +kernel) (by decide)
theorem cwl_X4_undoes {E : eu_E} {A : Nat → Prop} (C : eu_M E room_1 4 cL_law RL eu_TB ret A) : CallW (eu_R E) (eu_s E) (eu_a E) RL RX4 32 yX4_undoes cX4_undoes 3 (some .int) (Cond.code yX4_undoes cX4_undoes 3 (some .int) :: eu_TB) ({ frames := 1, cells := 0, slots := 0, locals := 22 } : Room) 0 0 2 := el_cwV C tw_169 tw_170 tw_171 tw_2 tw_172 rfl rfl (by decide +kernel) (by decide)
theorem cwl_X5_undoes {E : eu_E} {A : Nat → Prop} (C : eu_M E room_1 4 cL_law RL eu_TB ret A) : CallW (eu_R E) (eu_s E) (eu_a E) RL RX5 35 yX5_undoes cX5_undoes 3 (some .int) (Cond.code yX5_undoes cX5_undoes 3 (some .int) :: eu_TB) ({ frames := 1, cells := 0, slots := 0, locals := 25 } : Room) 0 0 2 := el_cwV C tw_177 tw_178 tw_179 tw_5 tw_180 rfl rfl (by decide +kernel) (by decide)
theorem cwl_X4_read {E : eu_E} {A : Nat → Prop} (C : eu_M E room_1 4 cL_law RL eu_TB ret A) : CallW (eu_R E) (eu_s E) (eu_a E) RL RX4 36 yX4_read cX4_read 6 (some .int) (Cond.code yX4_read cX4_read 6 (some .int) :: eu_TB) ({ frames := 1, cells := 0, slots := 0, locals := 22 } : Room) 0 0 1 := el_cwV C tw_187 tw_188 tw_189 tw_2 tw_190 rfl rfl (by decide +kernel) (by decide)
theorem cwl_X5_read {E : eu_E} {A : Nat → Prop} (C : eu_M E room_1 4 cL_law RL eu_TB ret A) : CallW (eu_R E) (eu_s E) (eu_a E) RL RX5 39 yX5_read cX5_read 4 (some .int) (Cond.code yX5_read cX5_read 4 (some .int) :: eu_TB) ({ frames := 2, cells := 0, slots := 0, locals := 47 } : Room) 0 0 1 := el_cwV C tw_195 tw_196 tw_197 tw_5 tw_198 rfl rfl (by decide +kernel) (by decide)
theorem cwl_X4_undo {E : eu_E} {A : Nat → Prop} (C : eu_M E room_1 4 cL_law RL eu_TB ret A) : CallW (eu_R E) (eu_s E) (eu_a E) RL RX4 40 yX4_undo cX4_undo 1 (some .int) (Cond.code yX4_undo cX4_undo 1 (some .int) :: eu_TB) ({ frames := 0, cells := 0, slots := 0, locals := 0 } : Room) 0 0 0 := el_cwV C tw_209 tw_210 tw_211 tw_2 tw_212 rfl rfl (by decide +kernel) (by decide)
theorem cwl_X5_undo {E : eu_E} {A : Nat → Prop} (C : eu_M E room_1 4 cL_law RL eu_TB ret A) : CallW (eu_R E) (eu_s E) (eu_a E) RL RX5 43 yX5_undo cX5_undo 1 (some .int) (Cond.code yX5_undo cX5_undo 1 (some .int) :: eu_TB) ({ frames := 0, cells := 0, slots := 0, locals := 0 } : Room) 0 0 0 := el_cwV C tw_213 tw_214 tw_215 tw_5 tw_216 rfl rfl (by decide +kernel) (by decide)
theorem cwl_X4_worth {E : eu_E} {A : Nat → Prop} (C : eu_M E room_1 4 cL_law RL eu_TB ret A) : CallW (eu_R E) (eu_s E) (eu_a E) RL RX4 44 yX4_worth cX4_worth 5 (some .int) (Cond.code yX4_worth cX4_worth 5 (some .int) :: eu_TB) ({ frames := 1, cells := 0, slots := 0, locals := 21 } : Room) 0 0 3 := el_cwV C tw_217 tw_218 tw_219 tw_2 tw_220 rfl rfl (by decide +kernel) (by decide)
theorem cwl_X5_worth {E : eu_E} {A : Nat → Prop} (C : eu_M E room_1 4 cL_law RL eu_TB ret A) : CallW (eu_R E) (eu_s E) (eu_a E) RL RX5 48 yX5_worth cX5_worth 5 (some .int) (Cond.code yX5_worth cX5_worth 5 (some .int) :: eu_TB) ({ frames := 1, cells := 0, slots := 0, locals := 25 } : Room) 0 0 3 := el_cwV C tw_221 tw_222 tw_223 tw_5 tw_224 rfl rfl (by decide +kernel) (by decide)
theorem cwl_X4_judged {E : eu_E} {A : Nat → Prop} (C : eu_M E room_1 4 cL_law RL eu_TB ret A) : CallW (eu_R E) (eu_s E) (eu_a E) RL RX4 49 yX4_judged cX4_judged 3 (some .int) (Cond.code yX4_judged cX4_judged 3 (some .int) :: eu_TB) ({ frames := 2, cells := 0, slots := 0, locals := 50 } : Room) 0 0 0 := el_cwV C tw_228 tw_229 tw_230 tw_2 tw_231 rfl rfl (by decide +kernel) (by decide)
theorem cwl_X5_judged {E : eu_E} {A : Nat → Prop} (C : eu_M E room_1 4 cL_law RL eu_TB ret A) : CallW (eu_R E) (eu_s E) (eu_a E) RL RX5 52 yX5_judged cX5_judged 1 (some .int) (Cond.code yX5_judged cX5_judged 1 (some .int) :: eu_TB) ({ frames := 4, cells := 0, slots := 0, locals := 89 } : Room) 0 0 0 := el_cwV C tw_239 tw_240 tw_241 tw_5 tw_242 rfl rfl (by decide +kernel) (by decide)
theorem cwl_X4_holds {E : eu_E} {A : Nat → Prop} (C : eu_M E room_1 4 cL_law RL eu_TB ret A) : CallW (eu_R E) (eu_s E) (eu_a E) RL RX4 53 yX4_holds cX4_holds 2 (some .int) (Cond.code yX4_holds cX4_holds 2 (some .int) :: eu_TB) ({ frames := 2, cells := 0, slots := 0, locals := 50 } : Room) 0 0 1 := el_cwV C tw_261 tw_262 tw_263 tw_2 tw_264 rfl rfl (by decide +kernel) (by decide)
theorem cwl_X5_holds {E : eu_E} {A : Nat → Prop} (C : eu_M E room_1 4 cL_law RL eu_TB ret A) : CallW (eu_R E) (eu_s E) (eu_a E) RL RX5 56 yX5_holds cX5_holds 2 (some .int) (Cond.code yX5_holds cX5_holds 2 (some .int) :: eu_TB) ({ frames := 4, cells := 0, slots := 0, locals := 89 } : Room) 0 0 1 := el_cwV C tw_268 tw_269 tw_270 tw_5 tw_271 rfl rfl (by decide +kernel) (by decide)
theorem cwl_X4_state {E : eu_E} {A : Nat → Prop} (C : eu_M E room_1 4 cL_law RL eu_TB ret A) : CallW (eu_R E) (eu_s E) (eu_a E) RL RX4 57 yX4_state cX4_state 3 (some .int) (Cond.code yX4_state cX4_state 3 (some .int) :: eu_TB) ({ frames := 4, cells := 0, slots := 0, locals := 92 } : Room) 0 0 2 := el_cwV C tw_276 tw_277 tw_278 tw_2 tw_279 rfl rfl (by decide +kernel) (by decide)
theorem cwl_X5_state {E : eu_E} {A : Nat → Prop} (C : eu_M E room_1 4 cL_law RL eu_TB ret A) : CallW (eu_R E) (eu_s E) (eu_a E) RL RX5 60 yX5_state cX5_state 3 (some .int) (Cond.code yX5_state cX5_state 3 (some .int) :: eu_TB) ({ frames := 5, cells := 0, slots := 0, locals := 114 } : Room) 0 0 2 := el_cwV C tw_308 tw_309 tw_310 tw_5 tw_311 rfl rfl (by decide +kernel) (by decide)
theorem cwl_X4_root {E : eu_E} {A : Nat → Prop} (C : eu_M E room_1 4 cL_law RL eu_TB ret A) : CallW (eu_R E) (eu_s E) (eu_a E) RL RX4 61 yX4_root cX4_root 2 (some .int) (Cond.code yX4_root cX4_root 2 (some .int) :: eu_TB) ({ frames := 2, cells := 0, slots := 0, locals := 50 } : Room) 0 0 1 := el_cwV C tw_327 tw_328 tw_329 tw_2 tw_330 rfl rfl (by decide +kernel) (by decide)
theorem cwl_X5_root {E : eu_E} {A : Nat → Prop} (C : eu_M E room_1 4 cL_law RL eu_TB ret A) : CallW (eu_R E) (eu_s E) (eu_a E) RL RX5 64 yX5_root cX5_root 2 (some .int) (Cond.code yX5_root cX5_root 2 (some .int) :: eu_TB) ({ frames := 4, cells := 0, slots := 0, locals := 94 } : Room) 0 0 1 := el_cwV C tw_334 tw_335 tw_336 tw_5 tw_337 rfl rfl (by decide +kernel) (by decide)
theorem cwl_X4_by {E : eu_E} {A : Nat → Prop} (C : eu_M E room_1 4 cL_law RL eu_TB ret A) : CallW (eu_R E) (eu_s E) (eu_a E) RL RX4 65 yX4_by cX4_by 2 (some .int) (Cond.code yX4_by cX4_by 2 (some .int) :: eu_TB) ({ frames := 4, cells := 0, slots := 0, locals := 92 } : Room) 0 0 1 := el_cwV C tw_342 tw_343 tw_344 tw_2 tw_345 rfl rfl (by decide +kernel) (by decide)
theorem cwl_X5_by {E : eu_E} {A : Nat → Prop} (C : eu_M E room_1 4 cL_law RL eu_TB ret A) : CallW (eu_R E) (eu_s E) (eu_a E) RL RX5 68 yX5_by cX5_by 2 (some .int) (Cond.code yX5_by cX5_by 2 (some .int) :: eu_TB) ({ frames := 6, cells := 0, slots := 0, locals := 135 } : Room) 0 0 1 := el_cwV C tw_346 tw_347 tw_348 tw_5 tw_349 rfl rfl (by decide +kernel) (by decide)
theorem cwl_X4_without {E : eu_E} {A : Nat → Prop} (C : eu_M E room_1 4 cL_law RL eu_TB ret A) : CallW (eu_R E) (eu_s E) (eu_a E) RL RX4 69 yX4_without cX4_without 4 (some .int) (Cond.code yX4_without cX4_without 4 (some .int) :: eu_TB) ({ frames := 4, cells := 0, slots := 0, locals := 92 } : Room) 0 0 2 := el_cwV C tw_354 tw_355 tw_356 tw_2 tw_357 rfl rfl (by decide +kernel) (by decide)
theorem cwl_X5_without {E : eu_E} {A : Nat → Prop} (C : eu_M E room_1 4 cL_law RL eu_TB ret A) : CallW (eu_R E) (eu_s E) (eu_a E) RL RX5 72 yX5_without cX5_without 3 (some .int) (Cond.code yX5_without cX5_without 3 (some .int) :: eu_TB) ({ frames := 6, cells := 0, slots := 0, locals := 138 } : Room) 0 0 2 := el_cwV C tw_361 tw_362 tw_363 tw_5 tw_364 rfl rfl (by decide +kernel) (by decide)
theorem cwl_X4_fewest {E : eu_E} {A : Nat → Prop} (C : eu_M E room_1 4 cL_law RL eu_TB ret A) : CallW (eu_R E) (eu_s E) (eu_a E) RL RX4 73 yX4_fewest cX4_fewest 7 (some .int) (Cond.code yX4_fewest cX4_fewest 7 (some .int) :: eu_TB) ({ frames := 4, cells := 0, slots := 0, locals := 103 } : Room) 0 0 4 := el_cwV C tw_372 tw_373 tw_374 tw_2 tw_375 rfl rfl (by decide +kernel) (by decide)
theorem cwl_X5_fewest {E : eu_E} {A : Nat → Prop} (C : eu_M E room_1 4 cL_law RL eu_TB ret A) : CallW (eu_R E) (eu_s E) (eu_a E) RL RX5 77 yX5_fewest cX5_fewest 6 (some .int) (Cond.code yX5_fewest cX5_fewest 6 (some .int) :: eu_TB) ({ frames := 7, cells := 0, slots := 0, locals := 168 } : Room) 0 0 4 := el_cwV C tw_400 tw_401 tw_402 tw_5 tw_403 rfl rfl (by decide +kernel) (by decide)
theorem cwl_X4_safe {E : eu_E} {A : Nat → Prop} (C : eu_M E room_1 4 cL_law RL eu_TB ret A) : CallW (eu_R E) (eu_s E) (eu_a E) RL RX4 78 yX4_safe cX4_safe 2 (some .int) (Cond.code yX4_safe cX4_safe 2 (some .int) :: eu_TB) ({ frames := 4, cells := 0, slots := 0, locals := 98 } : Room) 0 0 1 := el_cwV C tw_421 tw_422 tw_423 tw_2 tw_424 rfl rfl (by decide +kernel) (by decide)
theorem cwl_X5_safe {E : eu_E} {A : Nat → Prop} (C : eu_M E room_1 4 cL_law RL eu_TB ret A) : CallW (eu_R E) (eu_s E) (eu_a E) RL RX5 81 yX5_safe cX5_safe 2 (some .int) (Cond.code yX5_safe cX5_safe 2 (some .int) :: eu_TB) ({ frames := 6, cells := 0, slots := 0, locals := 139 } : Room) 0 0 1 := el_cwV C tw_428 tw_429 tw_430 tw_5 tw_431 rfl rfl (by decide +kernel) (by decide)
theorem cwl_X4_last {E : eu_E} {A : Nat → Prop} (C : eu_M E room_1 4 cL_law RL eu_TB ret A) : CallW (eu_R E) (eu_s E) (eu_a E) RL RX4 82 yX4_last cX4_last 6 (some .int) (Cond.code yX4_last cX4_last 6 (some .int) :: eu_TB) ({ frames := 5, cells := 0, slots := 0, locals := 124 } : Room) 0 0 3 := el_cwV C tw_440 tw_441 tw_442 tw_2 tw_443 rfl rfl (by decide +kernel) (by decide)
theorem cwl_X5_last {E : eu_E} {A : Nat → Prop} (C : eu_M E room_1 4 cL_law RL eu_TB ret A) : CallW (eu_R E) (eu_s E) (eu_a E) RL RX5 85 yX5_last cX5_last 4 (some .int) (Cond.code yX5_last cX5_last 4 (some .int) :: eu_TB) ({ frames := 6, cells := 0, slots := 0, locals := 143 } : Room) 0 0 3 := el_cwV C tw_459 tw_460 tw_461 tw_5 tw_462 rfl rfl (by decide +kernel) (by decide)
theorem cwl_X4_seen {E : eu_E} {A : Nat → Prop} (C : eu_M E room_1 4 cL_law RL eu_TB ret A) : CallW (eu_R E) (eu_s E) (eu_a E) RL RX4 86 yX4_seen cX4_seen 3 (some .int) (Cond.code yX4_seen cX4_seen 3 (some .int) :: eu_TB) ({ frames := 1, cells := 0, slots := 0, locals := 21 } : Room) 0 0 2 := el_cwV C tw_477 tw_478 tw_479 tw_2 tw_480 rfl rfl (by decide +kernel) (by decide)
theorem cwl_X5_seen {E : eu_E} {A : Nat → Prop} (C : eu_M E room_1 4 cL_law RL eu_TB ret A) : CallW (eu_R E) (eu_s E) (eu_a E) RL RX5 89 yX5_seen cX5_seen 3 (some .int) (Cond.code yX5_seen cX5_seen 3 (some .int) :: eu_TB) ({ frames := 2, cells := 0, slots := 0, locals := 45 } : Room) 0 0 2 := el_cwV C tw_484 tw_485 tw_486 tw_5 tw_487 rfl rfl (by decide +kernel) (by decide)
theorem cwl_X4_forget {E : eu_E} {A : Nat → Prop} (C : eu_M E room_1 4 cL_law RL eu_TB ret A) : CallW (eu_R E) (eu_s E) (eu_a E) RL RX4 90 yX4_forget cX4_forget 2 (some .int) (Cond.code yX4_forget cX4_forget 2 (some .int) :: eu_TB) ({ frames := 0, cells := 0, slots := 0, locals := 0 } : Room) 0 0 0 := el_cwV C tw_489 tw_490 tw_491 tw_2 tw_492 rfl rfl (by decide +kernel) (by decide)
theorem cwl_X5_forget {E : eu_E} {A : Nat → Prop} (C : eu_M E room_1 4 cL_law RL eu_TB ret A) : CallW (eu_R E) (eu_s E) (eu_a E) RL RX5 93 yX5_forget cX5_forget 2 (some .int) (Cond.code yX5_forget cX5_forget 2 (some .int) :: eu_TB) ({ frames := 0, cells := 0, slots := 0, locals := 0 } : Room) 0 0 0 := el_cwV C tw_493 tw_494 tw_495 tw_5 tw_496 rfl rfl (by decide +kernel) (by decide)
theorem cwl_X4_often {E : eu_E} {A : Nat → Prop} (C : eu_M E room_1 4 cL_law RL eu_TB ret A) : CallW (eu_R E) (eu_s E) (eu_a E) RL RX4 94 yX4_often cX4_often 4 (some .int) (Cond.code yX4_often cX4_often 4 (some .int) :: eu_TB) ({ frames := 4, cells := 0, slots := 0, locals := 92 } : Room) 0 0 0 := el_cwV C tw_497 tw_498 tw_499 tw_2 tw_500 rfl rfl (by decide +kernel) (by decide)
theorem cwl_X5_often {E : eu_E} {A : Nat → Prop} (C : eu_M E room_1 4 cL_law RL eu_TB ret A) : CallW (eu_R E) (eu_s E) (eu_a E) RL RX5 97 yX5_often cX5_often 1 (some .int) (Cond.code yX5_often cX5_often 1 (some .int) :: eu_TB) ({ frames := 6, cells := 0, slots := 0, locals := 139 } : Room) 0 0 0 := el_cwV C tw_501 tw_502 tw_503 tw_5 tw_504 rfl rfl (by decide +kernel) (by decide)
theorem cwl_X4_drawn {E : eu_E} {A : Nat → Prop} (C : eu_M E room_1 4 cL_law RL eu_TB ret A) : CallW (eu_R E) (eu_s E) (eu_a E) RL RX4 98 yX4_drawn cX4_drawn 4 (some .int) (Cond.code yX4_drawn cX4_drawn 4 (some .int) :: eu_TB) ({ frames := 3, cells := 0, slots := 0, locals := 74 } : Room) 0 0 3 := el_cwV C tw_509 tw_510 tw_511 tw_2 tw_512 rfl rfl (by decide +kernel) (by decide)
theorem cwl_X5_drawn {E : eu_E} {A : Nat → Prop} (C : eu_M E room_1 4 cL_law RL eu_TB ret A) : CallW (eu_R E) (eu_s E) (eu_a E) RL RX5 101 yX5_drawn cX5_drawn 4 (some .int) (Cond.code yX5_drawn cX5_drawn 4 (some .int) :: eu_TB) ({ frames := 5, cells := 0, slots := 0, locals := 120 } : Room) 0 0 3 := el_cwV C tw_532 tw_533 tw_534 tw_5 tw_535 rfl rfl (by decide +kernel) (by decide)
theorem cwl_X4_sheet {E : eu_E} {A : Nat → Prop} (C : eu_M E room_1 4 cL_law RL eu_TB ret A) : CallW (eu_R E) (eu_s E) (eu_a E) RL RX4 102 yX4_sheet cX4_sheet 4 (some .int) (Cond.code yX4_sheet cX4_sheet 4 (some .int) :: eu_TB) ({ frames := 1, cells := 0, slots := 0, locals := 23 } : Room) 0 0 3 := el_cwV C tw_554 tw_555 tw_556 tw_2 tw_557 rfl rfl (by decide +kernel) (by decide)
theorem cwl_X5_sheet {E : eu_E} {A : Nat → Prop} (C : eu_M E room_1 4 cL_law RL eu_TB ret A) : CallW (eu_R E) (eu_s E) (eu_a E) RL RX5 105 yX5_sheet cX5_sheet 5 (some .int) (Cond.code yX5_sheet cX5_sheet 5 (some .int) :: eu_TB) ({ frames := 2, cells := 0, slots := 0, locals := 45 } : Room) 0 0 3 := el_cwV C tw_563 tw_564 tw_565 tw_5 tw_566 rfl rfl (by decide +kernel) (by decide)
theorem cwl_X4_lose {E : eu_E} {A : Nat → Prop} (C : eu_M E room_1 4 cL_law RL eu_TB ret A) : CallW (eu_R E) (eu_s E) (eu_a E) RL RX4 106 yX4_lose cX4_lose 3 (some .int) (Cond.code yX4_lose cX4_lose 3 (some .int) :: eu_TB) ({ frames := 1, cells := 0, slots := 0, locals := 21 } : Room) 0 0 1 := el_cwV C tw_567 tw_568 tw_569 tw_2 tw_570 rfl rfl (by decide +kernel) (by decide)
theorem cwl_X5_lose {E : eu_E} {A : Nat → Prop} (C : eu_M E room_1 4 cL_law RL eu_TB ret A) : CallW (eu_R E) (eu_s E) (eu_a E) RL RX5 109 yX5_lose cX5_lose 2 (some .int) (Cond.code yX5_lose cX5_lose 2 (some .int) :: eu_TB) ({ frames := 2, cells := 0, slots := 0, locals := 45 } : Room) 0 0 1 := el_cwV C tw_571 tw_572 tw_573 tw_5 tw_574 rfl rfl (by decide +kernel) (by decide)
theorem cwl_X4_lay {E : eu_E} {A : Nat → Prop} (C : eu_M E room_1 4 cL_law RL eu_TB ret A) : CallW (eu_R E) (eu_s E) (eu_a E) RL RX4 110 yX4_lay cX4_lay 6 (some .int) (Cond.code yX4_lay cX4_lay 6 (some .int) :: eu_TB) ({ frames := 2, cells := 0, slots := 0, locals := 43 } : Room) 0 0 4 := el_cwV C tw_575 tw_576 tw_577 tw_2 tw_578 rfl rfl (by decide +kernel) (by decide)
theorem cwl_X5_lay {E : eu_E} {A : Nat → Prop} (C : eu_M E room_1 4 cL_law RL eu_TB ret A) : CallW (eu_R E) (eu_s E) (eu_a E) RL RX5 113 yX5_lay cX5_lay 6 (some .int) (Cond.code yX5_lay cX5_lay 6 (some .int) :: eu_TB) ({ frames := 2, cells := 0, slots := 0, locals := 48 } : Room) 0 0 4 := el_cwV C tw_585 tw_586 tw_587 tw_5 tw_588 rfl rfl (by decide +kernel) (by decide)
theorem cwl_X4_get {E : eu_E} {A : Nat → Prop} (C : eu_M E room_1 4 cL_law RL eu_TB ret A) : CallW (eu_R E) (eu_s E) (eu_a E) RL RX4 114 yX4_get cX4_get 5 (some .int) (Cond.code yX4_get cX4_get 5 (some .int) :: eu_TB) ({ frames := 2, cells := 0, slots := 0, locals := 43 } : Room) 0 0 3 := el_cwV C tw_596 tw_597 tw_598 tw_2 tw_599 rfl rfl (by decide +kernel) (by decide)
theorem cwl_X5_get {E : eu_E} {A : Nat → Prop} (C : eu_M E room_1 4 cL_law RL eu_TB ret A) : CallW (eu_R E) (eu_s E) (eu_a E) RL RX5 117 yX5_get cX5_get 4 (some .int) (Cond.code yX5_get cX5_get 4 (some .int) :: eu_TB) ({ frames := 2, cells := 0, slots := 0, locals := 48 } : Room) 0 0 3 := el_cwV C tw_601 tw_602 tw_603 tw_5 tw_604 rfl rfl (by decide +kernel) (by decide)
theorem cwl_X4_copy {E : eu_E} {A : Nat → Prop} (C : eu_M E room_1 4 cL_law RL eu_TB ret A) : CallW (eu_R E) (eu_s E) (eu_a E) RL RX4 118 yX4_copy cX4_copy 8 (some .int) (Cond.code yX4_copy cX4_copy 8 (some .int) :: eu_TB) ({ frames := 1, cells := 0, slots := 0, locals := 40 } : Room) 0 0 5 := el_cwV C tw_606 tw_607 tw_608 tw_2 tw_609 rfl rfl (by decide +kernel) (by decide)
theorem cwl_X5_copy {E : eu_E} {A : Nat → Prop} (C : eu_M E room_1 4 cL_law RL eu_TB ret A) : CallW (eu_R E) (eu_s E) (eu_a E) RL RX5 122 yX5_copy cX5_copy 7 (some .int) (Cond.code yX5_copy cX5_copy 7 (some .int) :: eu_TB) ({ frames := 2, cells := 0, slots := 0, locals := 45 } : Room) 0 0 5 := el_cwV C tw_617 tw_618 tw_619 tw_5 tw_620 rfl rfl (by decide +kernel) (by decide)
theorem cwl_X4_write {E : eu_E} {A : Nat → Prop} (C : eu_M E room_1 4 cL_law RL eu_TB ret A) : CallW (eu_R E) (eu_s E) (eu_a E) RL RX4 123 yX4_write cX4_write 6 (some .int) (Cond.code yX4_write cX4_write 6 (some .int) :: eu_TB) ({ frames := 2, cells := 0, slots := 0, locals := 50 } : Room) 0 0 1 := el_cwV C tw_621 tw_622 tw_623 tw_2 tw_624 rfl rfl (by decide +kernel) (by decide)
theorem cwl_X5_write {E : eu_E} {A : Nat → Prop} (C : eu_M E room_1 4 cL_law RL eu_TB ret A) : CallW (eu_R E) (eu_s E) (eu_a E) RL RX5 126 yX5_write cX5_write 4 (some .int) (Cond.code yX5_write cX5_write 4 (some .int) :: eu_TB) ({ frames := 4, cells := 0, slots := 0, locals := 94 } : Room) 0 0 1 := el_cwV C tw_626 tw_627 tw_628 tw_5 tw_629 rfl rfl (by decide +kernel) (by decide)
theorem cwl_X4_count {E : eu_E} {A : Nat → Prop} (C : eu_M E room_1 4 cL_law RL eu_TB ret A) : CallW (eu_R E) (eu_s E) (eu_a E) RL RX4 127 yX4_count cX4_count 3 (some .int) (Cond.code yX4_count cX4_count 3 (some .int) :: eu_TB) ({ frames := 3, cells := 0, slots := 0, locals := 69 } : Room) 0 0 1 := el_cwV C tw_630 tw_631 tw_632 tw_2 tw_633 rfl rfl (by decide +kernel) (by decide)
theorem cwl_X5_count {E : eu_E} {A : Nat → Prop} (C : eu_M E room_1 4 cL_law RL eu_TB ret A) : CallW (eu_R E) (eu_s E) (eu_a E) RL RX5 130 yX5_count cX5_count 4 (some .int) (Cond.code yX5_count cX5_count 4 (some .int) :: eu_TB) ({ frames := 4, cells := 0, slots := 0, locals := 92 } : Room) 0 0 1 := el_cwV C tw_635 tw_636 tw_637 tw_5 tw_638 rfl rfl (by decide +kernel) (by decide)
theorem cwl_X4_digest {E : eu_E} {A : Nat → Prop} (C : eu_M E room_1 4 cL_law RL eu_TB ret A) : CallW (eu_R E) (eu_s E) (eu_a E) RL RX4 131 yX4_digest cX4_digest 4 (some .long) (Cond.code yX4_digest cX4_digest 4 (some .long) :: eu_TB) ({ frames := 6, cells := 0, slots := 0, locals := 149 } : Room) 0 0 0 := el_cwV C tw_639 tw_640 tw_641 tw_2 tw_642 rfl rfl (by decide +kernel) (by decide)
theorem cwl_X5_digest {E : eu_E} {A : Nat → Prop} (C : eu_M E room_1 4 cL_law RL eu_TB ret A) : CallW (eu_R E) (eu_s E) (eu_a E) RL RX5 135 yX5_digest cX5_digest 5 (some .long) (Cond.code yX5_digest cX5_digest 5 (some .long) :: eu_TB) ({ frames := 7, cells := 0, slots := 0, locals := 168 } : Room) 0 0 0 := el_cwV C tw_670 tw_671 tw_672 tw_5 tw_673 rfl rfl (by decide +kernel) (by decide)
set_option maxHeartbeats 4000000 in
set_option maxRecDepth 100000 in
theorem law_loop_open {Rel : eu_T → eu_T → Prop} (h_type : ∀ (σ τ : eu_T) (a1 : Int32), Rel σ τ → ∃ (r : Int32) (σ' τ' : eu_T), fX4_type σ a1 = some (r, σ') ∧ fX5_type τ a1 = some (r, τ') ∧ Rel σ' τ') (h_wipe : ∀ (σ τ : eu_T), Rel σ τ → ∃ (r : Int32) (σ' τ' : eu_T), fX4_wipe σ = some (r, σ') ∧ fX5_wipe τ = some (r, τ') ∧ Rel σ' τ') (h_fault : ∀ (σ τ : eu_T), Rel σ τ → ∃ (τ' : eu_T), fX5_fault τ = some (fX4_fault σ, τ') ∧ Rel σ τ') (h_deed : ∀ (σ τ : eu_T) (a1 a2 : Int32), Rel σ τ → ∃ (r : Int32) (τ' : eu_T), fX4_deed σ a1 a2 = some r ∧ fX5_deed τ a1 a2 = some (r, τ') ∧ Rel σ τ') (h_undoes : ∀ (σ τ : eu_T) (a1 a2 : Int32), Rel σ τ → ∃ (r : Int32) (σ' τ' : eu_T), fX4_undoes σ a1 a2 = some (r, σ') ∧ fX5_undoes τ a1 a2 = some (r, τ') ∧ Rel σ' τ') (h_read : ∀ (σ τ : eu_T) (a1 : Int32), Rel σ τ → ∃ (r : Int32) (σ' τ' : eu_T), fX4_read σ a1 = some (r, σ') ∧ fX5_read τ a1 = some (r, τ') ∧ Rel σ' τ') (h_undo : ∀ (σ τ : eu_T), Rel σ τ → ∃ (r : Int32) (σ' τ' : eu_T), fX4_undo σ = some (r, σ') ∧ fX5_undo τ = some (r, τ') ∧ Rel σ' τ') (h_worth : ∀ (σ τ : eu_T) (a1 a2 a3 : Int32), Rel σ τ → ∃ (r : Int32) (σ' τ' : eu_T), fX4_worth σ a1 a2 a3 = some (r, σ') ∧ fX5_worth τ a1 a2 a3 = some (r, τ') ∧ Rel σ' τ') (h_judged : ∀ (σ τ : eu_T), Rel σ τ → ∃ (r : Int32) (τ' : eu_T), fX4_judged σ = some r ∧ fX5_judged τ = some (r, τ') ∧ Rel σ τ') (h_holds : ∀ (σ τ : eu_T) (a1 : Int32), Rel σ τ → ∃ (r : Int32) (τ' : eu_T), fX4_holds σ a1 = some r ∧ fX5_holds τ a1 = some (r, τ') ∧ Rel σ τ') (h_state : ∀ (σ τ : eu_T) (a1 a2 : Int32), Rel σ τ → ∃ (r : Int32) (τ' : eu_T), fX4_state σ a1 a2 = some r ∧ fX5_state τ a1 a2 = some (r, τ') ∧ Rel σ τ') (h_root : ∀ (σ τ : eu_T) (a1 : Int32), Rel σ τ → ∃ (r : Int32) (τ' : eu_T), fX4_root σ a1 = some r ∧ fX5_root τ a1 = some (r, τ') ∧ Rel σ τ') (h_by : ∀ (σ τ : eu_T) (a1 : Int32), Rel σ τ → ∃ (r : Int32) (τ' : eu_T), fX4_by σ a1 = some r ∧ fX5_by τ a1 = some (r, τ') ∧ Rel σ τ') (h_without : ∀ (σ τ : eu_T) (a1 a2 : Int32), Rel σ τ → ∃ (r : Int32) (τ' : eu_T), fX4_without σ a1 a2 = some r ∧ fX5_without τ a1 a2 = some (r, τ') ∧ Rel σ τ') (h_fewest : ∀ (σ τ : eu_T) (a1 a2 a3 a4 : Int32), Rel σ τ → ∃ (r : Int32) (σ' τ' : eu_T), fX4_fewest σ a1 a2 a3 a4 = some (r, σ') ∧ fX5_fewest τ a1 a2 a3 a4 = some (r, τ') ∧ Rel σ' τ') (h_safe : ∀ (σ τ : eu_T) (a1 : Int32), Rel σ τ → ∃ (r : Int32) (σ' τ' : eu_T), fX4_safe σ a1 = some (r, σ') ∧ fX5_safe τ a1 = some (r, τ') ∧ Rel σ' τ') (h_last : ∀ (σ τ : eu_T) (a1 a2 a3 : Int32), Rel σ τ → ∃ (r : Int32) (σ' τ' : eu_T), fX4_last σ a1 a2 a3 = some (r, σ') ∧ fX5_last τ a1 a2 a3 = some (r, τ') ∧ Rel σ' τ') (h_seen : ∀ (σ τ : eu_T) (a1 a2 : Int32), Rel σ τ → ∃ (r : Int32) (σ' τ' : eu_T), fX4_seen σ a1 a2 = some (r, σ') ∧ fX5_seen τ a1 a2 = some (r, τ') ∧ Rel σ' τ') (h_forget : ∀ (σ τ : eu_T), Rel σ τ → ∃ (r : Int32) (σ' τ' : eu_T), fX4_forget σ = some (r, σ') ∧ fX5_forget τ = some (r, τ') ∧ Rel σ' τ') (h_often : ∀ (σ τ : eu_T), Rel σ τ → ∃ (r : Int32) (τ' : eu_T), fX4_often σ = some r ∧ fX5_often τ = some (r, τ') ∧ Rel σ τ') (h_drawn : ∀ (σ τ : eu_T) (a1 a2 a3 : Int32), Rel σ τ → ∃ (r : Int32) (σ' τ' : eu_T), fX4_drawn σ a1 a2 a3 = some (r, σ') ∧ fX5_drawn τ a1 a2 a3 = some (r, τ') ∧ Rel σ' τ') (h_sheet : ∀ (σ τ : eu_T) (a1 a2 a3 : Int32), Rel σ τ → ∃ (r : Int32) (σ' τ' : eu_T), fX4_sheet σ a1 a2 a3 = some (r, σ') ∧ fX5_sheet τ a1 a2 a3 = some (r, τ') ∧ Rel σ' τ') (h_lose : ∀ (σ τ : eu_T) (a1 : Int32), Rel σ τ → ∃ (r : Int32) (σ' τ' : eu_T), fX4_lose σ a1 = some (r, σ') ∧ fX5_lose τ a1 = some (r, τ') ∧ Rel σ' τ') (h_lay : ∀ (σ τ : eu_T) (a1 a2 a3 a4 : Int32), Rel σ τ → ∃ (r : Int32) (σ' τ' : eu_T), fX4_lay σ a1 a2 a3 a4 = some (r, σ') ∧ fX5_lay τ a1 a2 a3 a4 = some (r, τ') ∧ Rel σ' τ') (h_get : ∀ (σ τ : eu_T) (a1 a2 a3 : Int32), Rel σ τ → ∃ (r : Int32) (σ' τ' : eu_T), fX4_get σ a1 a2 a3 = some (r, σ') ∧ fX5_get τ a1 a2 a3 = some (r, τ') ∧ Rel σ' τ') (h_copy : ∀ (σ τ : eu_T) (a1 a2 a3 a4 a5 : Int32), Rel σ τ → ∃ (r : Int32) (σ' τ' : eu_T), fX4_copy σ a1 a2 a3 a4 a5 = some (r, σ') ∧ fX5_copy τ a1 a2 a3 a4 a5 = some (r, τ') ∧ Rel σ' τ') (h_write : ∀ (σ τ : eu_T) (a1 : Int32), Rel σ τ → ∃ (r : Int32) (σ' τ' : eu_T), fX4_write σ a1 = some (r, σ') ∧ fX5_write τ a1 = some (r, τ') ∧ Rel σ' τ') (h_count : ∀ (σ τ : eu_T) (a1 : Int32), Rel σ τ → ∃ (r : Int32) (τ' : eu_T), fX4_count σ a1 = some r ∧ fX5_count τ a1 = some (r, τ') ∧ Rel σ τ') (h_digest : ∀ (σ τ : eu_T), Rel σ τ → ∃ (r : Int64) (σ' τ' : eu_T), fX4_digest σ = some (r, σ') ∧ fX5_digest τ = some (r, τ') ∧ Rel σ' τ') {E : eu_E} {A : Nat → Prop} (C : eu_M E room_1 4 cL_law RL eu_TB ret A) {Q : State → Prop} {ce sl : Nat} (hce : ce = 37) (hsl : sl = 1045) {b L : Nat} {xs : Nat → Int32} (hL : L ≤ 384) (hX : va_X b L xs (eu_s E) (eu_s E).heap) (hbl : b < (eu_s E).heap.size) (hbA : ¬ A b) {ad1 ad2 : Nat → Nat} (hend : ∀ (w : va_W) (lv : List (Nat × Value)), eu_H E 4 A Q w ce sl 1019 lv [.int 1]) : ∀ (n i : Nat) (σ τ : eu_T) (x3 : Int32), i ≤ 390 → 400 ≤ i + 6 * n → x3 = nI i → Rel σ τ → eu_H E 4 A Q (eu_wd 0 25 (eu_cy E) ad1 σ ++ eu_wd 25 12 (eu_cy E) ad2 τ) ce sl 18 [(0, .ref b), (1, .ref (ad1 0)), (2, .ref (ad2 25)), (3, .int x3)] [] := by
  subst hce
  subst hsl
  intro n
  induction n with
  | zero => intro i σ τ x3 hi hn; omega
  | succ n ih =>
    intro i σ τ x3 hi hn ex hR
    have hinc : ∀ (σ' τ' : eu_T), Rel σ' τ' → i + 5 < L → eu_H E 4 A Q (eu_wd 0 25 (eu_cy E) ad1 σ' ++ eu_wd 25 12 (eu_cy E) ad2 τ') 37 1045 1012 [(0, .ref b), (1, .ref (ad1 0)), (2, .ref (ad2 25)), (3, .int x3)] [] := by
      intro σ' τ' hR' hlt
      refine eh_iinc C 3 (x3 + 6) [(3, .int (x3 + 6)), (0, .ref b), (1, .ref (ad1 0)), (2, .ref (ad2 25))] dL_law_1012 rfl rfl (by decide) rfl ?_
      refine eh_goto C 18 dL_law_1015 (by decide) ?_
      refine eh_sub C [1, 2, 3, 0] rfl ?_
      exact ih (i + 6) σ' τ' (x3 + 6) (by omega) (by omega) (by rw [ex]; exact nI_add i 6) hR'
    refine eh_iload_n C 3 dL_law_18 rfl ?_
    refine eh_aload_n C 0 dL_law_19 rfl ?_
    refine el_slen C hX hbl hbA dL_law_20 ?_
    refine eh_bipush C 6 dL_law_21 (by decide) ?_
    refine eh_isub C dL_law_23 ?_
    refine eh_icmp_gt C 1018 dL_law_24 (by decide) (fun c => ?_) (fun c => ?_)
    · refine eh_iconst C 1 dL_law_1018 (by decide) ?_
      exact hend _ _
    · have hlt : i + 5 < L := eu_xle hi hL (by rw [← ex]; exact c)
      have hinc := fun σ' τ' h => hinc σ' τ' h hlt
      have hi0 : vp_in x3 L := by rw [ex]; exact vp_in_nI (by omega) (by omega)
      have hi1 : vp_in (x3 + 1) L := eu_xin (i := i) (k := 1) (by rw [ex]; rfl) (by omega) hL
      have hi2 : vp_in (x3 + 2) L := eu_xin (i := i) (k := 2) (by rw [ex]; rfl) (by omega) hL
      have hi3 : vp_in (x3 + 3) L := eu_xin (i := i) (k := 3) (by rw [ex]; rfl) (by omega) hL
      have hi4 : vp_in (x3 + 4) L := eu_xin (i := i) (k := 4) (by rw [ex]; rfl) (by omega) hL
      have hi5 : vp_in (x3 + 5) L := eu_xin (i := i) (k := 5) (by rw [ex]; rfl) (by omega) hL
      refine eh_aload_n C 0 dL_law_27 rfl ?_
      refine eh_iload_n C 3 dL_law_28 rfl ?_
      refine el_sld C hX hbl hbA hi0 dL_law_29 ?_
      refine eh_bipush C 31 dL_law_30 (by decide) ?_
      refine eh_iand C dL_law_32 ?_
      by_cases c0 : xs x3.toNatClampNeg &&& 31 = 0
      · refine eh_tin C 0 164 dL_law_33 c0 (by decide) (by decide) rfl (by decide) ?_
        refine eh_aload_n C 1 dL_law_164 rfl ?_
        refine eh_aload_n C 0 dL_law_165 rfl ?_
        refine eh_iload_n C 3 dL_law_166 rfl ?_
        refine eh_iconst C 1 dL_law_167 (by decide) ?_
        refine eh_iadd C dL_law_168 ?_
        refine el_sld C hX hbl hbA hi1 dL_law_169 ?_
        obtain ⟨r, σ2, τ2, hf, hg, hR2⟩ := h_type σ τ (xs ((x3 + 1)).toNatClampNeg) hR
        refine el_callLI C (cwl_X4_type C) (av := [.int (xs ((x3 + 1)).toNatClampNeg)]) (kX4_type hf) rfl rfl rfl rfl (st := []) rfl (Nat.le_of_ble_eq_true rfl) (by decide) dL_law_170 ?_
        refine eh_aload_n C 2 dL_law_173 rfl ?_
        refine eh_aload_n C 0 dL_law_174 rfl ?_
        refine eh_iload_n C 3 dL_law_175 rfl ?_
        refine eh_iconst C 1 dL_law_176 (by decide) ?_
        refine eh_iadd C dL_law_177 ?_
        refine el_sld C hX hbl hbA hi1 dL_law_178 ?_
        refine el_callRI C (cwl_X5_type C) (av := [.int (xs ((x3 + 1)).toNatClampNeg)]) (kX5_type hg) rfl rfl rfl rfl (st := [.int r]) rfl (Nat.le_of_ble_eq_true rfl) (by decide) dL_law_179 ?_
        refine eh_icmp_eq C 1012 dL_law_182 (by decide) (fun _ => ?_) (fun c => absurd rfl c)
        exact hinc σ2 τ2 hR2
      by_cases c1 : xs x3.toNatClampNeg &&& 31 = 1
      · refine eh_tin C 1 187 dL_law_33 c1 (by decide) (by decide) rfl (by decide) ?_
        refine eh_aload_n C 1 dL_law_187 rfl ?_
        obtain ⟨r, σ2, τ2, hf, hg, hR2⟩ := h_wipe σ τ  hR
        refine el_callLI C (cwl_X4_wipe C) (av := []) (kX4_wipe hf) rfl rfl rfl rfl (st := []) rfl (Nat.le_of_ble_eq_true rfl) (by decide) dL_law_188 ?_
        refine eh_aload_n C 2 dL_law_191 rfl ?_
        refine el_callRI C (cwl_X5_wipe C) (av := []) (kX5_wipe hg) rfl rfl rfl rfl (st := [.int r]) rfl (Nat.le_of_ble_eq_true rfl) (by decide) dL_law_192 ?_
        refine eh_icmp_eq C 1012 dL_law_195 (by decide) (fun _ => ?_) (fun c => absurd rfl c)
        exact hinc σ2 τ2 hR2
      by_cases c2 : xs x3.toNatClampNeg &&& 31 = 2
      · refine eh_tin C 2 200 dL_law_33 c2 (by decide) (by decide) rfl (by decide) ?_
        refine eh_aload_n C 1 dL_law_200 rfl ?_
        obtain ⟨τ2, hg, hR2⟩ := h_fault σ τ  hR
        refine el_callLI C (cwl_X4_fault C) (av := []) (kX4_fault rfl) rfl rfl rfl rfl (st := []) rfl (Nat.le_of_ble_eq_true rfl) (by decide) dL_law_201 ?_
        refine eh_aload_n C 2 dL_law_204 rfl ?_
        refine el_callRI C (cwl_X5_fault C) (av := []) (kX5_fault hg) rfl rfl rfl rfl (st := [.int (fX4_fault σ)]) rfl (Nat.le_of_ble_eq_true rfl) (by decide) dL_law_205 ?_
        refine eh_icmp_eq C 1012 dL_law_208 (by decide) (fun _ => ?_) (fun c => absurd rfl c)
        exact hinc σ τ2 hR2
      by_cases c3 : xs x3.toNatClampNeg &&& 31 = 3
      · refine eh_tin C 3 213 dL_law_33 c3 (by decide) (by decide) rfl (by decide) ?_
        refine eh_aload_n C 1 dL_law_213 rfl ?_
        refine eh_aload_n C 0 dL_law_214 rfl ?_
        refine eh_iload_n C 3 dL_law_215 rfl ?_
        refine eh_iconst C 1 dL_law_216 (by decide) ?_
        refine eh_iadd C dL_law_217 ?_
        refine el_sld C hX hbl hbA hi1 dL_law_218 ?_
        refine eh_aload_n C 0 dL_law_219 rfl ?_
        refine eh_iload_n C 3 dL_law_220 rfl ?_
        refine eh_iconst C 2 dL_law_221 (by decide) ?_
        refine eh_iadd C dL_law_222 ?_
        refine el_sld C hX hbl hbA hi2 dL_law_223 ?_
        obtain ⟨r, τ2, hf, hg, hR2⟩ := h_deed σ τ (xs ((x3 + 1)).toNatClampNeg) (xs ((x3 + 2)).toNatClampNeg) hR
        refine el_callLI C (cwl_X4_deed C) (av := [.int (xs ((x3 + 1)).toNatClampNeg), .int (xs ((x3 + 2)).toNatClampNeg)]) (kX4_deed hf) rfl rfl rfl rfl (st := []) rfl (Nat.le_of_ble_eq_true rfl) (by decide) dL_law_224 ?_
        refine eh_aload_n C 2 dL_law_227 rfl ?_
        refine eh_aload_n C 0 dL_law_228 rfl ?_
        refine eh_iload_n C 3 dL_law_229 rfl ?_
        refine eh_iconst C 1 dL_law_230 (by decide) ?_
        refine eh_iadd C dL_law_231 ?_
        refine el_sld C hX hbl hbA hi1 dL_law_232 ?_
        refine eh_aload_n C 0 dL_law_233 rfl ?_
        refine eh_iload_n C 3 dL_law_234 rfl ?_
        refine eh_iconst C 2 dL_law_235 (by decide) ?_
        refine eh_iadd C dL_law_236 ?_
        refine el_sld C hX hbl hbA hi2 dL_law_237 ?_
        refine el_callRI C (cwl_X5_deed C) (av := [.int (xs ((x3 + 1)).toNatClampNeg), .int (xs ((x3 + 2)).toNatClampNeg)]) (kX5_deed hg) rfl rfl rfl rfl (st := [.int r]) rfl (Nat.le_of_ble_eq_true rfl) (by decide) dL_law_238 ?_
        refine eh_icmp_eq C 1012 dL_law_241 (by decide) (fun _ => ?_) (fun c => absurd rfl c)
        exact hinc σ τ2 hR2
      by_cases c4 : xs x3.toNatClampNeg &&& 31 = 4
      · refine eh_tin C 4 246 dL_law_33 c4 (by decide) (by decide) rfl (by decide) ?_
        refine eh_aload_n C 1 dL_law_246 rfl ?_
        refine eh_aload_n C 0 dL_law_247 rfl ?_
        refine eh_iload_n C 3 dL_law_248 rfl ?_
        refine eh_iconst C 1 dL_law_249 (by decide) ?_
        refine eh_iadd C dL_law_250 ?_
        refine el_sld C hX hbl hbA hi1 dL_law_251 ?_
        refine eh_aload_n C 0 dL_law_252 rfl ?_
        refine eh_iload_n C 3 dL_law_253 rfl ?_
        refine eh_iconst C 2 dL_law_254 (by decide) ?_
        refine eh_iadd C dL_law_255 ?_
        refine el_sld C hX hbl hbA hi2 dL_law_256 ?_
        obtain ⟨r, σ2, τ2, hf, hg, hR2⟩ := h_undoes σ τ (xs ((x3 + 1)).toNatClampNeg) (xs ((x3 + 2)).toNatClampNeg) hR
        refine el_callLI C (cwl_X4_undoes C) (av := [.int (xs ((x3 + 1)).toNatClampNeg), .int (xs ((x3 + 2)).toNatClampNeg)]) (kX4_undoes hf) rfl rfl rfl rfl (st := []) rfl (Nat.le_of_ble_eq_true rfl) (by decide) dL_law_257 ?_
        refine eh_aload_n C 2 dL_law_260 rfl ?_
        refine eh_aload_n C 0 dL_law_261 rfl ?_
        refine eh_iload_n C 3 dL_law_262 rfl ?_
        refine eh_iconst C 1 dL_law_263 (by decide) ?_
        refine eh_iadd C dL_law_264 ?_
        refine el_sld C hX hbl hbA hi1 dL_law_265 ?_
        refine eh_aload_n C 0 dL_law_266 rfl ?_
        refine eh_iload_n C 3 dL_law_267 rfl ?_
        refine eh_iconst C 2 dL_law_268 (by decide) ?_
        refine eh_iadd C dL_law_269 ?_
        refine el_sld C hX hbl hbA hi2 dL_law_270 ?_
        refine el_callRI C (cwl_X5_undoes C) (av := [.int (xs ((x3 + 1)).toNatClampNeg), .int (xs ((x3 + 2)).toNatClampNeg)]) (kX5_undoes hg) rfl rfl rfl rfl (st := [.int r]) rfl (Nat.le_of_ble_eq_true rfl) (by decide) dL_law_271 ?_
        refine eh_icmp_eq C 1012 dL_law_274 (by decide) (fun _ => ?_) (fun c => absurd rfl c)
        exact hinc σ2 τ2 hR2
      by_cases c5 : xs x3.toNatClampNeg &&& 31 = 5
      · refine eh_tin C 5 279 dL_law_33 c5 (by decide) (by decide) rfl (by decide) ?_
        refine eh_aload_n C 1 dL_law_279 rfl ?_
        refine eh_aload_n C 0 dL_law_280 rfl ?_
        refine eh_iload_n C 3 dL_law_281 rfl ?_
        refine eh_iconst C 1 dL_law_282 (by decide) ?_
        refine eh_iadd C dL_law_283 ?_
        refine el_sld C hX hbl hbA hi1 dL_law_284 ?_
        obtain ⟨r, σ2, τ2, hf, hg, hR2⟩ := h_read σ τ (xs ((x3 + 1)).toNatClampNeg) hR
        refine el_callLI C (cwl_X4_read C) (av := [.int (xs ((x3 + 1)).toNatClampNeg)]) (kX4_read hf) rfl rfl rfl rfl (st := []) rfl (Nat.le_of_ble_eq_true rfl) (by decide) dL_law_285 ?_
        refine eh_aload_n C 2 dL_law_288 rfl ?_
        refine eh_aload_n C 0 dL_law_289 rfl ?_
        refine eh_iload_n C 3 dL_law_290 rfl ?_
        refine eh_iconst C 1 dL_law_291 (by decide) ?_
        refine eh_iadd C dL_law_292 ?_
        refine el_sld C hX hbl hbA hi1 dL_law_293 ?_
        refine el_callRI C (cwl_X5_read C) (av := [.int (xs ((x3 + 1)).toNatClampNeg)]) (kX5_read hg) rfl rfl rfl rfl (st := [.int r]) rfl (Nat.le_of_ble_eq_true rfl) (by decide) dL_law_294 ?_
        refine eh_icmp_eq C 1012 dL_law_297 (by decide) (fun _ => ?_) (fun c => absurd rfl c)
        exact hinc σ2 τ2 hR2
      by_cases c6 : xs x3.toNatClampNeg &&& 31 = 6
      · refine eh_tin C 6 302 dL_law_33 c6 (by decide) (by decide) rfl (by decide) ?_
        refine eh_aload_n C 1 dL_law_302 rfl ?_
        obtain ⟨r, σ2, τ2, hf, hg, hR2⟩ := h_undo σ τ  hR
        refine el_callLI C (cwl_X4_undo C) (av := []) (kX4_undo hf) rfl rfl rfl rfl (st := []) rfl (Nat.le_of_ble_eq_true rfl) (by decide) dL_law_303 ?_
        refine eh_aload_n C 2 dL_law_306 rfl ?_
        refine el_callRI C (cwl_X5_undo C) (av := []) (kX5_undo hg) rfl rfl rfl rfl (st := [.int r]) rfl (Nat.le_of_ble_eq_true rfl) (by decide) dL_law_307 ?_
        refine eh_icmp_eq C 1012 dL_law_310 (by decide) (fun _ => ?_) (fun c => absurd rfl c)
        exact hinc σ2 τ2 hR2
      by_cases c7 : xs x3.toNatClampNeg &&& 31 = 7
      · refine eh_tin C 7 315 dL_law_33 c7 (by decide) (by decide) rfl (by decide) ?_
        refine eh_aload_n C 1 dL_law_315 rfl ?_
        refine eh_aload_n C 0 dL_law_316 rfl ?_
        refine eh_iload_n C 3 dL_law_317 rfl ?_
        refine eh_iconst C 1 dL_law_318 (by decide) ?_
        refine eh_iadd C dL_law_319 ?_
        refine el_sld C hX hbl hbA hi1 dL_law_320 ?_
        refine eh_aload_n C 0 dL_law_321 rfl ?_
        refine eh_iload_n C 3 dL_law_322 rfl ?_
        refine eh_iconst C 2 dL_law_323 (by decide) ?_
        refine eh_iadd C dL_law_324 ?_
        refine el_sld C hX hbl hbA hi2 dL_law_325 ?_
        refine eh_aload_n C 0 dL_law_326 rfl ?_
        refine eh_iload_n C 3 dL_law_327 rfl ?_
        refine eh_iconst C 3 dL_law_328 (by decide) ?_
        refine eh_iadd C dL_law_329 ?_
        refine el_sld C hX hbl hbA hi3 dL_law_330 ?_
        obtain ⟨r, σ2, τ2, hf, hg, hR2⟩ := h_worth σ τ (xs ((x3 + 1)).toNatClampNeg) (xs ((x3 + 2)).toNatClampNeg) (xs ((x3 + 3)).toNatClampNeg) hR
        refine el_callLI C (cwl_X4_worth C) (av := [.int (xs ((x3 + 1)).toNatClampNeg), .int (xs ((x3 + 2)).toNatClampNeg), .int (xs ((x3 + 3)).toNatClampNeg)]) (kX4_worth hf) rfl rfl rfl rfl (st := []) rfl (Nat.le_of_ble_eq_true rfl) (by decide) dL_law_331 ?_
        refine eh_aload_n C 2 dL_law_334 rfl ?_
        refine eh_aload_n C 0 dL_law_335 rfl ?_
        refine eh_iload_n C 3 dL_law_336 rfl ?_
        refine eh_iconst C 1 dL_law_337 (by decide) ?_
        refine eh_iadd C dL_law_338 ?_
        refine el_sld C hX hbl hbA hi1 dL_law_339 ?_
        refine eh_aload_n C 0 dL_law_340 rfl ?_
        refine eh_iload_n C 3 dL_law_341 rfl ?_
        refine eh_iconst C 2 dL_law_342 (by decide) ?_
        refine eh_iadd C dL_law_343 ?_
        refine el_sld C hX hbl hbA hi2 dL_law_344 ?_
        refine eh_aload_n C 0 dL_law_345 rfl ?_
        refine eh_iload_n C 3 dL_law_346 rfl ?_
        refine eh_iconst C 3 dL_law_347 (by decide) ?_
        refine eh_iadd C dL_law_348 ?_
        refine el_sld C hX hbl hbA hi3 dL_law_349 ?_
        refine el_callRI C (cwl_X5_worth C) (av := [.int (xs ((x3 + 1)).toNatClampNeg), .int (xs ((x3 + 2)).toNatClampNeg), .int (xs ((x3 + 3)).toNatClampNeg)]) (kX5_worth hg) rfl rfl rfl rfl (st := [.int r]) rfl (Nat.le_of_ble_eq_true rfl) (by decide) dL_law_350 ?_
        refine eh_icmp_eq C 1012 dL_law_353 (by decide) (fun _ => ?_) (fun c => absurd rfl c)
        exact hinc σ2 τ2 hR2
      by_cases c8 : xs x3.toNatClampNeg &&& 31 = 8
      · refine eh_tin C 8 358 dL_law_33 c8 (by decide) (by decide) rfl (by decide) ?_
        refine eh_aload_n C 1 dL_law_358 rfl ?_
        obtain ⟨r, τ2, hf, hg, hR2⟩ := h_judged σ τ  hR
        refine el_callLI C (cwl_X4_judged C) (av := []) (kX4_judged hf) rfl rfl rfl rfl (st := []) rfl (Nat.le_of_ble_eq_true rfl) (by decide) dL_law_359 ?_
        refine eh_aload_n C 2 dL_law_362 rfl ?_
        refine el_callRI C (cwl_X5_judged C) (av := []) (kX5_judged hg) rfl rfl rfl rfl (st := [.int r]) rfl (Nat.le_of_ble_eq_true rfl) (by decide) dL_law_363 ?_
        refine eh_icmp_eq C 1012 dL_law_366 (by decide) (fun _ => ?_) (fun c => absurd rfl c)
        exact hinc σ τ2 hR2
      by_cases c9 : xs x3.toNatClampNeg &&& 31 = 9
      · refine eh_tin C 9 371 dL_law_33 c9 (by decide) (by decide) rfl (by decide) ?_
        refine eh_aload_n C 1 dL_law_371 rfl ?_
        refine eh_aload_n C 0 dL_law_372 rfl ?_
        refine eh_iload_n C 3 dL_law_373 rfl ?_
        refine eh_iconst C 1 dL_law_374 (by decide) ?_
        refine eh_iadd C dL_law_375 ?_
        refine el_sld C hX hbl hbA hi1 dL_law_376 ?_
        obtain ⟨r, τ2, hf, hg, hR2⟩ := h_holds σ τ (xs ((x3 + 1)).toNatClampNeg) hR
        refine el_callLI C (cwl_X4_holds C) (av := [.int (xs ((x3 + 1)).toNatClampNeg)]) (kX4_holds hf) rfl rfl rfl rfl (st := []) rfl (Nat.le_of_ble_eq_true rfl) (by decide) dL_law_377 ?_
        refine eh_aload_n C 2 dL_law_380 rfl ?_
        refine eh_aload_n C 0 dL_law_381 rfl ?_
        refine eh_iload_n C 3 dL_law_382 rfl ?_
        refine eh_iconst C 1 dL_law_383 (by decide) ?_
        refine eh_iadd C dL_law_384 ?_
        refine el_sld C hX hbl hbA hi1 dL_law_385 ?_
        refine el_callRI C (cwl_X5_holds C) (av := [.int (xs ((x3 + 1)).toNatClampNeg)]) (kX5_holds hg) rfl rfl rfl rfl (st := [.int r]) rfl (Nat.le_of_ble_eq_true rfl) (by decide) dL_law_386 ?_
        refine eh_icmp_eq C 1012 dL_law_389 (by decide) (fun _ => ?_) (fun c => absurd rfl c)
        exact hinc σ τ2 hR2
      by_cases c10 : xs x3.toNatClampNeg &&& 31 = 10
      · refine eh_tin C 10 394 dL_law_33 c10 (by decide) (by decide) rfl (by decide) ?_
        refine eh_aload_n C 1 dL_law_394 rfl ?_
        refine eh_aload_n C 0 dL_law_395 rfl ?_
        refine eh_iload_n C 3 dL_law_396 rfl ?_
        refine eh_iconst C 1 dL_law_397 (by decide) ?_
        refine eh_iadd C dL_law_398 ?_
        refine el_sld C hX hbl hbA hi1 dL_law_399 ?_
        refine eh_aload_n C 0 dL_law_400 rfl ?_
        refine eh_iload_n C 3 dL_law_401 rfl ?_
        refine eh_iconst C 2 dL_law_402 (by decide) ?_
        refine eh_iadd C dL_law_403 ?_
        refine el_sld C hX hbl hbA hi2 dL_law_404 ?_
        obtain ⟨r, τ2, hf, hg, hR2⟩ := h_state σ τ (xs ((x3 + 1)).toNatClampNeg) (xs ((x3 + 2)).toNatClampNeg) hR
        refine el_callLI C (cwl_X4_state C) (av := [.int (xs ((x3 + 1)).toNatClampNeg), .int (xs ((x3 + 2)).toNatClampNeg)]) (kX4_state hf) rfl rfl rfl rfl (st := []) rfl (Nat.le_of_ble_eq_true rfl) (by decide) dL_law_405 ?_
        refine eh_aload_n C 2 dL_law_408 rfl ?_
        refine eh_aload_n C 0 dL_law_409 rfl ?_
        refine eh_iload_n C 3 dL_law_410 rfl ?_
        refine eh_iconst C 1 dL_law_411 (by decide) ?_
        refine eh_iadd C dL_law_412 ?_
        refine el_sld C hX hbl hbA hi1 dL_law_413 ?_
        refine eh_aload_n C 0 dL_law_414 rfl ?_
        refine eh_iload_n C 3 dL_law_415 rfl ?_
        refine eh_iconst C 2 dL_law_416 (by decide) ?_
        refine eh_iadd C dL_law_417 ?_
        refine el_sld C hX hbl hbA hi2 dL_law_418 ?_
        refine el_callRI C (cwl_X5_state C) (av := [.int (xs ((x3 + 1)).toNatClampNeg), .int (xs ((x3 + 2)).toNatClampNeg)]) (kX5_state hg) rfl rfl rfl rfl (st := [.int r]) rfl (Nat.le_of_ble_eq_true rfl) (by decide) dL_law_419 ?_
        refine eh_icmp_eq C 1012 dL_law_422 (by decide) (fun _ => ?_) (fun c => absurd rfl c)
        exact hinc σ τ2 hR2
      by_cases c11 : xs x3.toNatClampNeg &&& 31 = 11
      · refine eh_tin C 11 427 dL_law_33 c11 (by decide) (by decide) rfl (by decide) ?_
        refine eh_aload_n C 1 dL_law_427 rfl ?_
        refine eh_aload_n C 0 dL_law_428 rfl ?_
        refine eh_iload_n C 3 dL_law_429 rfl ?_
        refine eh_iconst C 1 dL_law_430 (by decide) ?_
        refine eh_iadd C dL_law_431 ?_
        refine el_sld C hX hbl hbA hi1 dL_law_432 ?_
        obtain ⟨r, τ2, hf, hg, hR2⟩ := h_root σ τ (xs ((x3 + 1)).toNatClampNeg) hR
        refine el_callLI C (cwl_X4_root C) (av := [.int (xs ((x3 + 1)).toNatClampNeg)]) (kX4_root hf) rfl rfl rfl rfl (st := []) rfl (Nat.le_of_ble_eq_true rfl) (by decide) dL_law_433 ?_
        refine eh_aload_n C 2 dL_law_436 rfl ?_
        refine eh_aload_n C 0 dL_law_437 rfl ?_
        refine eh_iload_n C 3 dL_law_438 rfl ?_
        refine eh_iconst C 1 dL_law_439 (by decide) ?_
        refine eh_iadd C dL_law_440 ?_
        refine el_sld C hX hbl hbA hi1 dL_law_441 ?_
        refine el_callRI C (cwl_X5_root C) (av := [.int (xs ((x3 + 1)).toNatClampNeg)]) (kX5_root hg) rfl rfl rfl rfl (st := [.int r]) rfl (Nat.le_of_ble_eq_true rfl) (by decide) dL_law_442 ?_
        refine eh_icmp_eq C 1012 dL_law_445 (by decide) (fun _ => ?_) (fun c => absurd rfl c)
        exact hinc σ τ2 hR2
      by_cases c12 : xs x3.toNatClampNeg &&& 31 = 12
      · refine eh_tin C 12 450 dL_law_33 c12 (by decide) (by decide) rfl (by decide) ?_
        refine eh_aload_n C 1 dL_law_450 rfl ?_
        refine eh_aload_n C 0 dL_law_451 rfl ?_
        refine eh_iload_n C 3 dL_law_452 rfl ?_
        refine eh_iconst C 1 dL_law_453 (by decide) ?_
        refine eh_iadd C dL_law_454 ?_
        refine el_sld C hX hbl hbA hi1 dL_law_455 ?_
        obtain ⟨r, τ2, hf, hg, hR2⟩ := h_by σ τ (xs ((x3 + 1)).toNatClampNeg) hR
        refine el_callLI C (cwl_X4_by C) (av := [.int (xs ((x3 + 1)).toNatClampNeg)]) (kX4_by hf) rfl rfl rfl rfl (st := []) rfl (Nat.le_of_ble_eq_true rfl) (by decide) dL_law_456 ?_
        refine eh_aload_n C 2 dL_law_459 rfl ?_
        refine eh_aload_n C 0 dL_law_460 rfl ?_
        refine eh_iload_n C 3 dL_law_461 rfl ?_
        refine eh_iconst C 1 dL_law_462 (by decide) ?_
        refine eh_iadd C dL_law_463 ?_
        refine el_sld C hX hbl hbA hi1 dL_law_464 ?_
        refine el_callRI C (cwl_X5_by C) (av := [.int (xs ((x3 + 1)).toNatClampNeg)]) (kX5_by hg) rfl rfl rfl rfl (st := [.int r]) rfl (Nat.le_of_ble_eq_true rfl) (by decide) dL_law_465 ?_
        refine eh_icmp_eq C 1012 dL_law_468 (by decide) (fun _ => ?_) (fun c => absurd rfl c)
        exact hinc σ τ2 hR2
      by_cases c13 : xs x3.toNatClampNeg &&& 31 = 13
      · refine eh_tin C 13 473 dL_law_33 c13 (by decide) (by decide) rfl (by decide) ?_
        refine eh_aload_n C 1 dL_law_473 rfl ?_
        refine eh_aload_n C 0 dL_law_474 rfl ?_
        refine eh_iload_n C 3 dL_law_475 rfl ?_
        refine eh_iconst C 1 dL_law_476 (by decide) ?_
        refine eh_iadd C dL_law_477 ?_
        refine el_sld C hX hbl hbA hi1 dL_law_478 ?_
        refine eh_aload_n C 0 dL_law_479 rfl ?_
        refine eh_iload_n C 3 dL_law_480 rfl ?_
        refine eh_iconst C 2 dL_law_481 (by decide) ?_
        refine eh_iadd C dL_law_482 ?_
        refine el_sld C hX hbl hbA hi2 dL_law_483 ?_
        obtain ⟨r, τ2, hf, hg, hR2⟩ := h_without σ τ (xs ((x3 + 1)).toNatClampNeg) (xs ((x3 + 2)).toNatClampNeg) hR
        refine el_callLI C (cwl_X4_without C) (av := [.int (xs ((x3 + 1)).toNatClampNeg), .int (xs ((x3 + 2)).toNatClampNeg)]) (kX4_without hf) rfl rfl rfl rfl (st := []) rfl (Nat.le_of_ble_eq_true rfl) (by decide) dL_law_484 ?_
        refine eh_aload_n C 2 dL_law_487 rfl ?_
        refine eh_aload_n C 0 dL_law_488 rfl ?_
        refine eh_iload_n C 3 dL_law_489 rfl ?_
        refine eh_iconst C 1 dL_law_490 (by decide) ?_
        refine eh_iadd C dL_law_491 ?_
        refine el_sld C hX hbl hbA hi1 dL_law_492 ?_
        refine eh_aload_n C 0 dL_law_493 rfl ?_
        refine eh_iload_n C 3 dL_law_494 rfl ?_
        refine eh_iconst C 2 dL_law_495 (by decide) ?_
        refine eh_iadd C dL_law_496 ?_
        refine el_sld C hX hbl hbA hi2 dL_law_497 ?_
        refine el_callRI C (cwl_X5_without C) (av := [.int (xs ((x3 + 1)).toNatClampNeg), .int (xs ((x3 + 2)).toNatClampNeg)]) (kX5_without hg) rfl rfl rfl rfl (st := [.int r]) rfl (Nat.le_of_ble_eq_true rfl) (by decide) dL_law_498 ?_
        refine eh_icmp_eq C 1012 dL_law_501 (by decide) (fun _ => ?_) (fun c => absurd rfl c)
        exact hinc σ τ2 hR2
      by_cases c14 : xs x3.toNatClampNeg &&& 31 = 14
      · refine eh_tin C 14 506 dL_law_33 c14 (by decide) (by decide) rfl (by decide) ?_
        refine eh_aload_n C 1 dL_law_506 rfl ?_
        refine eh_aload_n C 0 dL_law_507 rfl ?_
        refine eh_iload_n C 3 dL_law_508 rfl ?_
        refine eh_iconst C 1 dL_law_509 (by decide) ?_
        refine eh_iadd C dL_law_510 ?_
        refine el_sld C hX hbl hbA hi1 dL_law_511 ?_
        refine eh_aload_n C 0 dL_law_512 rfl ?_
        refine eh_iload_n C 3 dL_law_513 rfl ?_
        refine eh_iconst C 2 dL_law_514 (by decide) ?_
        refine eh_iadd C dL_law_515 ?_
        refine el_sld C hX hbl hbA hi2 dL_law_516 ?_
        refine eh_aload_n C 0 dL_law_517 rfl ?_
        refine eh_iload_n C 3 dL_law_518 rfl ?_
        refine eh_iconst C 3 dL_law_519 (by decide) ?_
        refine eh_iadd C dL_law_520 ?_
        refine el_sld C hX hbl hbA hi3 dL_law_521 ?_
        refine eh_aload_n C 0 dL_law_522 rfl ?_
        refine eh_iload_n C 3 dL_law_523 rfl ?_
        refine eh_iconst C 4 dL_law_524 (by decide) ?_
        refine eh_iadd C dL_law_525 ?_
        refine el_sld C hX hbl hbA hi4 dL_law_526 ?_
        obtain ⟨r, σ2, τ2, hf, hg, hR2⟩ := h_fewest σ τ (xs ((x3 + 1)).toNatClampNeg) (xs ((x3 + 2)).toNatClampNeg) (xs ((x3 + 3)).toNatClampNeg) (xs ((x3 + 4)).toNatClampNeg) hR
        refine el_callLI C (cwl_X4_fewest C) (av := [.int (xs ((x3 + 1)).toNatClampNeg), .int (xs ((x3 + 2)).toNatClampNeg), .int (xs ((x3 + 3)).toNatClampNeg), .int (xs ((x3 + 4)).toNatClampNeg)]) (kX4_fewest hf) rfl rfl rfl rfl (st := []) rfl (Nat.le_of_ble_eq_true rfl) (by decide) dL_law_527 ?_
        refine eh_aload_n C 2 dL_law_530 rfl ?_
        refine eh_aload_n C 0 dL_law_531 rfl ?_
        refine eh_iload_n C 3 dL_law_532 rfl ?_
        refine eh_iconst C 1 dL_law_533 (by decide) ?_
        refine eh_iadd C dL_law_534 ?_
        refine el_sld C hX hbl hbA hi1 dL_law_535 ?_
        refine eh_aload_n C 0 dL_law_536 rfl ?_
        refine eh_iload_n C 3 dL_law_537 rfl ?_
        refine eh_iconst C 2 dL_law_538 (by decide) ?_
        refine eh_iadd C dL_law_539 ?_
        refine el_sld C hX hbl hbA hi2 dL_law_540 ?_
        refine eh_aload_n C 0 dL_law_541 rfl ?_
        refine eh_iload_n C 3 dL_law_542 rfl ?_
        refine eh_iconst C 3 dL_law_543 (by decide) ?_
        refine eh_iadd C dL_law_544 ?_
        refine el_sld C hX hbl hbA hi3 dL_law_545 ?_
        refine eh_aload_n C 0 dL_law_546 rfl ?_
        refine eh_iload_n C 3 dL_law_547 rfl ?_
        refine eh_iconst C 4 dL_law_548 (by decide) ?_
        refine eh_iadd C dL_law_549 ?_
        refine el_sld C hX hbl hbA hi4 dL_law_550 ?_
        refine el_callRI C (cwl_X5_fewest C) (av := [.int (xs ((x3 + 1)).toNatClampNeg), .int (xs ((x3 + 2)).toNatClampNeg), .int (xs ((x3 + 3)).toNatClampNeg), .int (xs ((x3 + 4)).toNatClampNeg)]) (kX5_fewest hg) rfl rfl rfl rfl (st := [.int r]) rfl (Nat.le_of_ble_eq_true rfl) (by decide) dL_law_551 ?_
        refine eh_icmp_eq C 1012 dL_law_554 (by decide) (fun _ => ?_) (fun c => absurd rfl c)
        exact hinc σ2 τ2 hR2
      by_cases c15 : xs x3.toNatClampNeg &&& 31 = 15
      · refine eh_tin C 15 559 dL_law_33 c15 (by decide) (by decide) rfl (by decide) ?_
        refine eh_aload_n C 1 dL_law_559 rfl ?_
        refine eh_aload_n C 0 dL_law_560 rfl ?_
        refine eh_iload_n C 3 dL_law_561 rfl ?_
        refine eh_iconst C 1 dL_law_562 (by decide) ?_
        refine eh_iadd C dL_law_563 ?_
        refine el_sld C hX hbl hbA hi1 dL_law_564 ?_
        obtain ⟨r, σ2, τ2, hf, hg, hR2⟩ := h_safe σ τ (xs ((x3 + 1)).toNatClampNeg) hR
        refine el_callLI C (cwl_X4_safe C) (av := [.int (xs ((x3 + 1)).toNatClampNeg)]) (kX4_safe hf) rfl rfl rfl rfl (st := []) rfl (Nat.le_of_ble_eq_true rfl) (by decide) dL_law_565 ?_
        refine eh_aload_n C 2 dL_law_568 rfl ?_
        refine eh_aload_n C 0 dL_law_569 rfl ?_
        refine eh_iload_n C 3 dL_law_570 rfl ?_
        refine eh_iconst C 1 dL_law_571 (by decide) ?_
        refine eh_iadd C dL_law_572 ?_
        refine el_sld C hX hbl hbA hi1 dL_law_573 ?_
        refine el_callRI C (cwl_X5_safe C) (av := [.int (xs ((x3 + 1)).toNatClampNeg)]) (kX5_safe hg) rfl rfl rfl rfl (st := [.int r]) rfl (Nat.le_of_ble_eq_true rfl) (by decide) dL_law_574 ?_
        refine eh_icmp_eq C 1012 dL_law_577 (by decide) (fun _ => ?_) (fun c => absurd rfl c)
        exact hinc σ2 τ2 hR2
      by_cases c16 : xs x3.toNatClampNeg &&& 31 = 16
      · refine eh_tin C 16 582 dL_law_33 c16 (by decide) (by decide) rfl (by decide) ?_
        refine eh_aload_n C 1 dL_law_582 rfl ?_
        refine eh_aload_n C 0 dL_law_583 rfl ?_
        refine eh_iload_n C 3 dL_law_584 rfl ?_
        refine eh_iconst C 1 dL_law_585 (by decide) ?_
        refine eh_iadd C dL_law_586 ?_
        refine el_sld C hX hbl hbA hi1 dL_law_587 ?_
        refine eh_aload_n C 0 dL_law_588 rfl ?_
        refine eh_iload_n C 3 dL_law_589 rfl ?_
        refine eh_iconst C 2 dL_law_590 (by decide) ?_
        refine eh_iadd C dL_law_591 ?_
        refine el_sld C hX hbl hbA hi2 dL_law_592 ?_
        refine eh_aload_n C 0 dL_law_593 rfl ?_
        refine eh_iload_n C 3 dL_law_594 rfl ?_
        refine eh_iconst C 3 dL_law_595 (by decide) ?_
        refine eh_iadd C dL_law_596 ?_
        refine el_sld C hX hbl hbA hi3 dL_law_597 ?_
        obtain ⟨r, σ2, τ2, hf, hg, hR2⟩ := h_last σ τ (xs ((x3 + 1)).toNatClampNeg) (xs ((x3 + 2)).toNatClampNeg) (xs ((x3 + 3)).toNatClampNeg) hR
        refine el_callLI C (cwl_X4_last C) (av := [.int (xs ((x3 + 1)).toNatClampNeg), .int (xs ((x3 + 2)).toNatClampNeg), .int (xs ((x3 + 3)).toNatClampNeg)]) (kX4_last hf) rfl rfl rfl rfl (st := []) rfl (Nat.le_of_ble_eq_true rfl) (by decide) dL_law_598 ?_
        refine eh_aload_n C 2 dL_law_601 rfl ?_
        refine eh_aload_n C 0 dL_law_602 rfl ?_
        refine eh_iload_n C 3 dL_law_603 rfl ?_
        refine eh_iconst C 1 dL_law_604 (by decide) ?_
        refine eh_iadd C dL_law_605 ?_
        refine el_sld C hX hbl hbA hi1 dL_law_606 ?_
        refine eh_aload_n C 0 dL_law_607 rfl ?_
        refine eh_iload_n C 3 dL_law_608 rfl ?_
        refine eh_iconst C 2 dL_law_609 (by decide) ?_
        refine eh_iadd C dL_law_610 ?_
        refine el_sld C hX hbl hbA hi2 dL_law_611 ?_
        refine eh_aload_n C 0 dL_law_612 rfl ?_
        refine eh_iload_n C 3 dL_law_613 rfl ?_
        refine eh_iconst C 3 dL_law_614 (by decide) ?_
        refine eh_iadd C dL_law_615 ?_
        refine el_sld C hX hbl hbA hi3 dL_law_616 ?_
        refine el_callRI C (cwl_X5_last C) (av := [.int (xs ((x3 + 1)).toNatClampNeg), .int (xs ((x3 + 2)).toNatClampNeg), .int (xs ((x3 + 3)).toNatClampNeg)]) (kX5_last hg) rfl rfl rfl rfl (st := [.int r]) rfl (Nat.le_of_ble_eq_true rfl) (by decide) dL_law_617 ?_
        refine eh_icmp_eq C 1012 dL_law_620 (by decide) (fun _ => ?_) (fun c => absurd rfl c)
        exact hinc σ2 τ2 hR2
      by_cases c17 : xs x3.toNatClampNeg &&& 31 = 17
      · refine eh_tin C 17 625 dL_law_33 c17 (by decide) (by decide) rfl (by decide) ?_
        refine eh_aload_n C 1 dL_law_625 rfl ?_
        refine eh_aload_n C 0 dL_law_626 rfl ?_
        refine eh_iload_n C 3 dL_law_627 rfl ?_
        refine eh_iconst C 1 dL_law_628 (by decide) ?_
        refine eh_iadd C dL_law_629 ?_
        refine el_sld C hX hbl hbA hi1 dL_law_630 ?_
        refine eh_aload_n C 0 dL_law_631 rfl ?_
        refine eh_iload_n C 3 dL_law_632 rfl ?_
        refine eh_iconst C 2 dL_law_633 (by decide) ?_
        refine eh_iadd C dL_law_634 ?_
        refine el_sld C hX hbl hbA hi2 dL_law_635 ?_
        obtain ⟨r, σ2, τ2, hf, hg, hR2⟩ := h_seen σ τ (xs ((x3 + 1)).toNatClampNeg) (xs ((x3 + 2)).toNatClampNeg) hR
        refine el_callLI C (cwl_X4_seen C) (av := [.int (xs ((x3 + 1)).toNatClampNeg), .int (xs ((x3 + 2)).toNatClampNeg)]) (kX4_seen hf) rfl rfl rfl rfl (st := []) rfl (Nat.le_of_ble_eq_true rfl) (by decide) dL_law_636 ?_
        refine eh_aload_n C 2 dL_law_639 rfl ?_
        refine eh_aload_n C 0 dL_law_640 rfl ?_
        refine eh_iload_n C 3 dL_law_641 rfl ?_
        refine eh_iconst C 1 dL_law_642 (by decide) ?_
        refine eh_iadd C dL_law_643 ?_
        refine el_sld C hX hbl hbA hi1 dL_law_644 ?_
        refine eh_aload_n C 0 dL_law_645 rfl ?_
        refine eh_iload_n C 3 dL_law_646 rfl ?_
        refine eh_iconst C 2 dL_law_647 (by decide) ?_
        refine eh_iadd C dL_law_648 ?_
        refine el_sld C hX hbl hbA hi2 dL_law_649 ?_
        refine el_callRI C (cwl_X5_seen C) (av := [.int (xs ((x3 + 1)).toNatClampNeg), .int (xs ((x3 + 2)).toNatClampNeg)]) (kX5_seen hg) rfl rfl rfl rfl (st := [.int r]) rfl (Nat.le_of_ble_eq_true rfl) (by decide) dL_law_650 ?_
        refine eh_icmp_eq C 1012 dL_law_653 (by decide) (fun _ => ?_) (fun c => absurd rfl c)
        exact hinc σ2 τ2 hR2
      by_cases c18 : xs x3.toNatClampNeg &&& 31 = 18
      · refine eh_tin C 18 658 dL_law_33 c18 (by decide) (by decide) rfl (by decide) ?_
        refine eh_aload_n C 1 dL_law_658 rfl ?_
        obtain ⟨r, σ2, τ2, hf, hg, hR2⟩ := h_forget σ τ  hR
        refine el_callLI C (cwl_X4_forget C) (av := []) (kX4_forget hf) rfl rfl rfl rfl (st := []) rfl (Nat.le_of_ble_eq_true rfl) (by decide) dL_law_659 ?_
        refine eh_aload_n C 2 dL_law_662 rfl ?_
        refine el_callRI C (cwl_X5_forget C) (av := []) (kX5_forget hg) rfl rfl rfl rfl (st := [.int r]) rfl (Nat.le_of_ble_eq_true rfl) (by decide) dL_law_663 ?_
        refine eh_icmp_eq C 1012 dL_law_666 (by decide) (fun _ => ?_) (fun c => absurd rfl c)
        exact hinc σ2 τ2 hR2
      by_cases c19 : xs x3.toNatClampNeg &&& 31 = 19
      · refine eh_tin C 19 671 dL_law_33 c19 (by decide) (by decide) rfl (by decide) ?_
        refine eh_aload_n C 1 dL_law_671 rfl ?_
        obtain ⟨r, τ2, hf, hg, hR2⟩ := h_often σ τ  hR
        refine el_callLI C (cwl_X4_often C) (av := []) (kX4_often hf) rfl rfl rfl rfl (st := []) rfl (Nat.le_of_ble_eq_true rfl) (by decide) dL_law_672 ?_
        refine eh_aload_n C 2 dL_law_675 rfl ?_
        refine el_callRI C (cwl_X5_often C) (av := []) (kX5_often hg) rfl rfl rfl rfl (st := [.int r]) rfl (Nat.le_of_ble_eq_true rfl) (by decide) dL_law_676 ?_
        refine eh_icmp_eq C 1012 dL_law_679 (by decide) (fun _ => ?_) (fun c => absurd rfl c)
        exact hinc σ τ2 hR2
      by_cases c20 : xs x3.toNatClampNeg &&& 31 = 20
      · refine eh_tin C 20 684 dL_law_33 c20 (by decide) (by decide) rfl (by decide) ?_
        refine eh_aload_n C 1 dL_law_684 rfl ?_
        refine eh_aload_n C 0 dL_law_685 rfl ?_
        refine eh_iload_n C 3 dL_law_686 rfl ?_
        refine eh_iconst C 1 dL_law_687 (by decide) ?_
        refine eh_iadd C dL_law_688 ?_
        refine el_sld C hX hbl hbA hi1 dL_law_689 ?_
        refine eh_aload_n C 0 dL_law_690 rfl ?_
        refine eh_iload_n C 3 dL_law_691 rfl ?_
        refine eh_iconst C 2 dL_law_692 (by decide) ?_
        refine eh_iadd C dL_law_693 ?_
        refine el_sld C hX hbl hbA hi2 dL_law_694 ?_
        refine eh_aload_n C 0 dL_law_695 rfl ?_
        refine eh_iload_n C 3 dL_law_696 rfl ?_
        refine eh_iconst C 3 dL_law_697 (by decide) ?_
        refine eh_iadd C dL_law_698 ?_
        refine el_sld C hX hbl hbA hi3 dL_law_699 ?_
        obtain ⟨r, σ2, τ2, hf, hg, hR2⟩ := h_drawn σ τ (xs ((x3 + 1)).toNatClampNeg) (xs ((x3 + 2)).toNatClampNeg) (xs ((x3 + 3)).toNatClampNeg) hR
        refine el_callLI C (cwl_X4_drawn C) (av := [.int (xs ((x3 + 1)).toNatClampNeg), .int (xs ((x3 + 2)).toNatClampNeg), .int (xs ((x3 + 3)).toNatClampNeg)]) (kX4_drawn hf) rfl rfl rfl rfl (st := []) rfl (Nat.le_of_ble_eq_true rfl) (by decide) dL_law_700 ?_
        refine eh_aload_n C 2 dL_law_703 rfl ?_
        refine eh_aload_n C 0 dL_law_704 rfl ?_
        refine eh_iload_n C 3 dL_law_705 rfl ?_
        refine eh_iconst C 1 dL_law_706 (by decide) ?_
        refine eh_iadd C dL_law_707 ?_
        refine el_sld C hX hbl hbA hi1 dL_law_708 ?_
        refine eh_aload_n C 0 dL_law_709 rfl ?_
        refine eh_iload_n C 3 dL_law_710 rfl ?_
        refine eh_iconst C 2 dL_law_711 (by decide) ?_
        refine eh_iadd C dL_law_712 ?_
        refine el_sld C hX hbl hbA hi2 dL_law_713 ?_
        refine eh_aload_n C 0 dL_law_714 rfl ?_
        refine eh_iload_n C 3 dL_law_715 rfl ?_
        refine eh_iconst C 3 dL_law_716 (by decide) ?_
        refine eh_iadd C dL_law_717 ?_
        refine el_sld C hX hbl hbA hi3 dL_law_718 ?_
        refine el_callRI C (cwl_X5_drawn C) (av := [.int (xs ((x3 + 1)).toNatClampNeg), .int (xs ((x3 + 2)).toNatClampNeg), .int (xs ((x3 + 3)).toNatClampNeg)]) (kX5_drawn hg) rfl rfl rfl rfl (st := [.int r]) rfl (Nat.le_of_ble_eq_true rfl) (by decide) dL_law_719 ?_
        refine eh_icmp_eq C 1012 dL_law_722 (by decide) (fun _ => ?_) (fun c => absurd rfl c)
        exact hinc σ2 τ2 hR2
      by_cases c21 : xs x3.toNatClampNeg &&& 31 = 21
      · refine eh_tin C 21 727 dL_law_33 c21 (by decide) (by decide) rfl (by decide) ?_
        refine eh_aload_n C 1 dL_law_727 rfl ?_
        refine eh_aload_n C 0 dL_law_728 rfl ?_
        refine eh_iload_n C 3 dL_law_729 rfl ?_
        refine eh_iconst C 1 dL_law_730 (by decide) ?_
        refine eh_iadd C dL_law_731 ?_
        refine el_sld C hX hbl hbA hi1 dL_law_732 ?_
        refine eh_aload_n C 0 dL_law_733 rfl ?_
        refine eh_iload_n C 3 dL_law_734 rfl ?_
        refine eh_iconst C 2 dL_law_735 (by decide) ?_
        refine eh_iadd C dL_law_736 ?_
        refine el_sld C hX hbl hbA hi2 dL_law_737 ?_
        refine eh_aload_n C 0 dL_law_738 rfl ?_
        refine eh_iload_n C 3 dL_law_739 rfl ?_
        refine eh_iconst C 3 dL_law_740 (by decide) ?_
        refine eh_iadd C dL_law_741 ?_
        refine el_sld C hX hbl hbA hi3 dL_law_742 ?_
        obtain ⟨r, σ2, τ2, hf, hg, hR2⟩ := h_sheet σ τ (xs ((x3 + 1)).toNatClampNeg) (xs ((x3 + 2)).toNatClampNeg) (xs ((x3 + 3)).toNatClampNeg) hR
        refine el_callLI C (cwl_X4_sheet C) (av := [.int (xs ((x3 + 1)).toNatClampNeg), .int (xs ((x3 + 2)).toNatClampNeg), .int (xs ((x3 + 3)).toNatClampNeg)]) (kX4_sheet hf) rfl rfl rfl rfl (st := []) rfl (Nat.le_of_ble_eq_true rfl) (by decide) dL_law_743 ?_
        refine eh_aload_n C 2 dL_law_746 rfl ?_
        refine eh_aload_n C 0 dL_law_747 rfl ?_
        refine eh_iload_n C 3 dL_law_748 rfl ?_
        refine eh_iconst C 1 dL_law_749 (by decide) ?_
        refine eh_iadd C dL_law_750 ?_
        refine el_sld C hX hbl hbA hi1 dL_law_751 ?_
        refine eh_aload_n C 0 dL_law_752 rfl ?_
        refine eh_iload_n C 3 dL_law_753 rfl ?_
        refine eh_iconst C 2 dL_law_754 (by decide) ?_
        refine eh_iadd C dL_law_755 ?_
        refine el_sld C hX hbl hbA hi2 dL_law_756 ?_
        refine eh_aload_n C 0 dL_law_757 rfl ?_
        refine eh_iload_n C 3 dL_law_758 rfl ?_
        refine eh_iconst C 3 dL_law_759 (by decide) ?_
        refine eh_iadd C dL_law_760 ?_
        refine el_sld C hX hbl hbA hi3 dL_law_761 ?_
        refine el_callRI C (cwl_X5_sheet C) (av := [.int (xs ((x3 + 1)).toNatClampNeg), .int (xs ((x3 + 2)).toNatClampNeg), .int (xs ((x3 + 3)).toNatClampNeg)]) (kX5_sheet hg) rfl rfl rfl rfl (st := [.int r]) rfl (Nat.le_of_ble_eq_true rfl) (by decide) dL_law_762 ?_
        refine eh_icmp_eq C 1012 dL_law_765 (by decide) (fun _ => ?_) (fun c => absurd rfl c)
        exact hinc σ2 τ2 hR2
      by_cases c22 : xs x3.toNatClampNeg &&& 31 = 22
      · refine eh_tin C 22 770 dL_law_33 c22 (by decide) (by decide) rfl (by decide) ?_
        refine eh_aload_n C 1 dL_law_770 rfl ?_
        refine eh_aload_n C 0 dL_law_771 rfl ?_
        refine eh_iload_n C 3 dL_law_772 rfl ?_
        refine eh_iconst C 1 dL_law_773 (by decide) ?_
        refine eh_iadd C dL_law_774 ?_
        refine el_sld C hX hbl hbA hi1 dL_law_775 ?_
        obtain ⟨r, σ2, τ2, hf, hg, hR2⟩ := h_lose σ τ (xs ((x3 + 1)).toNatClampNeg) hR
        refine el_callLI C (cwl_X4_lose C) (av := [.int (xs ((x3 + 1)).toNatClampNeg)]) (kX4_lose hf) rfl rfl rfl rfl (st := []) rfl (Nat.le_of_ble_eq_true rfl) (by decide) dL_law_776 ?_
        refine eh_aload_n C 2 dL_law_779 rfl ?_
        refine eh_aload_n C 0 dL_law_780 rfl ?_
        refine eh_iload_n C 3 dL_law_781 rfl ?_
        refine eh_iconst C 1 dL_law_782 (by decide) ?_
        refine eh_iadd C dL_law_783 ?_
        refine el_sld C hX hbl hbA hi1 dL_law_784 ?_
        refine el_callRI C (cwl_X5_lose C) (av := [.int (xs ((x3 + 1)).toNatClampNeg)]) (kX5_lose hg) rfl rfl rfl rfl (st := [.int r]) rfl (Nat.le_of_ble_eq_true rfl) (by decide) dL_law_785 ?_
        refine eh_icmp_eq C 1012 dL_law_788 (by decide) (fun _ => ?_) (fun c => absurd rfl c)
        exact hinc σ2 τ2 hR2
      by_cases c23 : xs x3.toNatClampNeg &&& 31 = 23
      · refine eh_tin C 23 793 dL_law_33 c23 (by decide) (by decide) rfl (by decide) ?_
        refine eh_aload_n C 1 dL_law_793 rfl ?_
        refine eh_aload_n C 0 dL_law_794 rfl ?_
        refine eh_iload_n C 3 dL_law_795 rfl ?_
        refine eh_iconst C 1 dL_law_796 (by decide) ?_
        refine eh_iadd C dL_law_797 ?_
        refine el_sld C hX hbl hbA hi1 dL_law_798 ?_
        refine eh_aload_n C 0 dL_law_799 rfl ?_
        refine eh_iload_n C 3 dL_law_800 rfl ?_
        refine eh_iconst C 2 dL_law_801 (by decide) ?_
        refine eh_iadd C dL_law_802 ?_
        refine el_sld C hX hbl hbA hi2 dL_law_803 ?_
        refine eh_aload_n C 0 dL_law_804 rfl ?_
        refine eh_iload_n C 3 dL_law_805 rfl ?_
        refine eh_iconst C 3 dL_law_806 (by decide) ?_
        refine eh_iadd C dL_law_807 ?_
        refine el_sld C hX hbl hbA hi3 dL_law_808 ?_
        refine eh_aload_n C 0 dL_law_809 rfl ?_
        refine eh_iload_n C 3 dL_law_810 rfl ?_
        refine eh_iconst C 4 dL_law_811 (by decide) ?_
        refine eh_iadd C dL_law_812 ?_
        refine el_sld C hX hbl hbA hi4 dL_law_813 ?_
        obtain ⟨r, σ2, τ2, hf, hg, hR2⟩ := h_lay σ τ (xs ((x3 + 1)).toNatClampNeg) (xs ((x3 + 2)).toNatClampNeg) (xs ((x3 + 3)).toNatClampNeg) (xs ((x3 + 4)).toNatClampNeg) hR
        refine el_callLI C (cwl_X4_lay C) (av := [.int (xs ((x3 + 1)).toNatClampNeg), .int (xs ((x3 + 2)).toNatClampNeg), .int (xs ((x3 + 3)).toNatClampNeg), .int (xs ((x3 + 4)).toNatClampNeg)]) (kX4_lay hf) rfl rfl rfl rfl (st := []) rfl (Nat.le_of_ble_eq_true rfl) (by decide) dL_law_814 ?_
        refine eh_aload_n C 2 dL_law_817 rfl ?_
        refine eh_aload_n C 0 dL_law_818 rfl ?_
        refine eh_iload_n C 3 dL_law_819 rfl ?_
        refine eh_iconst C 1 dL_law_820 (by decide) ?_
        refine eh_iadd C dL_law_821 ?_
        refine el_sld C hX hbl hbA hi1 dL_law_822 ?_
        refine eh_aload_n C 0 dL_law_823 rfl ?_
        refine eh_iload_n C 3 dL_law_824 rfl ?_
        refine eh_iconst C 2 dL_law_825 (by decide) ?_
        refine eh_iadd C dL_law_826 ?_
        refine el_sld C hX hbl hbA hi2 dL_law_827 ?_
        refine eh_aload_n C 0 dL_law_828 rfl ?_
        refine eh_iload_n C 3 dL_law_829 rfl ?_
        refine eh_iconst C 3 dL_law_830 (by decide) ?_
        refine eh_iadd C dL_law_831 ?_
        refine el_sld C hX hbl hbA hi3 dL_law_832 ?_
        refine eh_aload_n C 0 dL_law_833 rfl ?_
        refine eh_iload_n C 3 dL_law_834 rfl ?_
        refine eh_iconst C 4 dL_law_835 (by decide) ?_
        refine eh_iadd C dL_law_836 ?_
        refine el_sld C hX hbl hbA hi4 dL_law_837 ?_
        refine el_callRI C (cwl_X5_lay C) (av := [.int (xs ((x3 + 1)).toNatClampNeg), .int (xs ((x3 + 2)).toNatClampNeg), .int (xs ((x3 + 3)).toNatClampNeg), .int (xs ((x3 + 4)).toNatClampNeg)]) (kX5_lay hg) rfl rfl rfl rfl (st := [.int r]) rfl (Nat.le_of_ble_eq_true rfl) (by decide) dL_law_838 ?_
        refine eh_icmp_eq C 1012 dL_law_841 (by decide) (fun _ => ?_) (fun c => absurd rfl c)
        exact hinc σ2 τ2 hR2
      by_cases c24 : xs x3.toNatClampNeg &&& 31 = 24
      · refine eh_tin C 24 846 dL_law_33 c24 (by decide) (by decide) rfl (by decide) ?_
        refine eh_aload_n C 1 dL_law_846 rfl ?_
        refine eh_aload_n C 0 dL_law_847 rfl ?_
        refine eh_iload_n C 3 dL_law_848 rfl ?_
        refine eh_iconst C 1 dL_law_849 (by decide) ?_
        refine eh_iadd C dL_law_850 ?_
        refine el_sld C hX hbl hbA hi1 dL_law_851 ?_
        refine eh_aload_n C 0 dL_law_852 rfl ?_
        refine eh_iload_n C 3 dL_law_853 rfl ?_
        refine eh_iconst C 2 dL_law_854 (by decide) ?_
        refine eh_iadd C dL_law_855 ?_
        refine el_sld C hX hbl hbA hi2 dL_law_856 ?_
        refine eh_aload_n C 0 dL_law_857 rfl ?_
        refine eh_iload_n C 3 dL_law_858 rfl ?_
        refine eh_iconst C 3 dL_law_859 (by decide) ?_
        refine eh_iadd C dL_law_860 ?_
        refine el_sld C hX hbl hbA hi3 dL_law_861 ?_
        obtain ⟨r, σ2, τ2, hf, hg, hR2⟩ := h_get σ τ (xs ((x3 + 1)).toNatClampNeg) (xs ((x3 + 2)).toNatClampNeg) (xs ((x3 + 3)).toNatClampNeg) hR
        refine el_callLI C (cwl_X4_get C) (av := [.int (xs ((x3 + 1)).toNatClampNeg), .int (xs ((x3 + 2)).toNatClampNeg), .int (xs ((x3 + 3)).toNatClampNeg)]) (kX4_get hf) rfl rfl rfl rfl (st := []) rfl (Nat.le_of_ble_eq_true rfl) (by decide) dL_law_862 ?_
        refine eh_aload_n C 2 dL_law_865 rfl ?_
        refine eh_aload_n C 0 dL_law_866 rfl ?_
        refine eh_iload_n C 3 dL_law_867 rfl ?_
        refine eh_iconst C 1 dL_law_868 (by decide) ?_
        refine eh_iadd C dL_law_869 ?_
        refine el_sld C hX hbl hbA hi1 dL_law_870 ?_
        refine eh_aload_n C 0 dL_law_871 rfl ?_
        refine eh_iload_n C 3 dL_law_872 rfl ?_
        refine eh_iconst C 2 dL_law_873 (by decide) ?_
        refine eh_iadd C dL_law_874 ?_
        refine el_sld C hX hbl hbA hi2 dL_law_875 ?_
        refine eh_aload_n C 0 dL_law_876 rfl ?_
        refine eh_iload_n C 3 dL_law_877 rfl ?_
        refine eh_iconst C 3 dL_law_878 (by decide) ?_
        refine eh_iadd C dL_law_879 ?_
        refine el_sld C hX hbl hbA hi3 dL_law_880 ?_
        refine el_callRI C (cwl_X5_get C) (av := [.int (xs ((x3 + 1)).toNatClampNeg), .int (xs ((x3 + 2)).toNatClampNeg), .int (xs ((x3 + 3)).toNatClampNeg)]) (kX5_get hg) rfl rfl rfl rfl (st := [.int r]) rfl (Nat.le_of_ble_eq_true rfl) (by decide) dL_law_881 ?_
        refine eh_icmp_eq C 1012 dL_law_884 (by decide) (fun _ => ?_) (fun c => absurd rfl c)
        exact hinc σ2 τ2 hR2
      by_cases c25 : xs x3.toNatClampNeg &&& 31 = 25
      · refine eh_tin C 25 889 dL_law_33 c25 (by decide) (by decide) rfl (by decide) ?_
        refine eh_aload_n C 1 dL_law_889 rfl ?_
        refine eh_aload_n C 0 dL_law_890 rfl ?_
        refine eh_iload_n C 3 dL_law_891 rfl ?_
        refine eh_iconst C 1 dL_law_892 (by decide) ?_
        refine eh_iadd C dL_law_893 ?_
        refine el_sld C hX hbl hbA hi1 dL_law_894 ?_
        refine eh_aload_n C 0 dL_law_895 rfl ?_
        refine eh_iload_n C 3 dL_law_896 rfl ?_
        refine eh_iconst C 2 dL_law_897 (by decide) ?_
        refine eh_iadd C dL_law_898 ?_
        refine el_sld C hX hbl hbA hi2 dL_law_899 ?_
        refine eh_aload_n C 0 dL_law_900 rfl ?_
        refine eh_iload_n C 3 dL_law_901 rfl ?_
        refine eh_iconst C 3 dL_law_902 (by decide) ?_
        refine eh_iadd C dL_law_903 ?_
        refine el_sld C hX hbl hbA hi3 dL_law_904 ?_
        refine eh_aload_n C 0 dL_law_905 rfl ?_
        refine eh_iload_n C 3 dL_law_906 rfl ?_
        refine eh_iconst C 4 dL_law_907 (by decide) ?_
        refine eh_iadd C dL_law_908 ?_
        refine el_sld C hX hbl hbA hi4 dL_law_909 ?_
        refine eh_aload_n C 0 dL_law_910 rfl ?_
        refine eh_iload_n C 3 dL_law_911 rfl ?_
        refine eh_iconst C 5 dL_law_912 (by decide) ?_
        refine eh_iadd C dL_law_913 ?_
        refine el_sld C hX hbl hbA hi5 dL_law_914 ?_
        obtain ⟨r, σ2, τ2, hf, hg, hR2⟩ := h_copy σ τ (xs ((x3 + 1)).toNatClampNeg) (xs ((x3 + 2)).toNatClampNeg) (xs ((x3 + 3)).toNatClampNeg) (xs ((x3 + 4)).toNatClampNeg) (xs ((x3 + 5)).toNatClampNeg) hR
        refine el_callLI C (cwl_X4_copy C) (av := [.int (xs ((x3 + 1)).toNatClampNeg), .int (xs ((x3 + 2)).toNatClampNeg), .int (xs ((x3 + 3)).toNatClampNeg), .int (xs ((x3 + 4)).toNatClampNeg), .int (xs ((x3 + 5)).toNatClampNeg)]) (kX4_copy hf) rfl rfl rfl rfl (st := []) rfl (Nat.le_of_ble_eq_true rfl) (by decide) dL_law_915 ?_
        refine eh_aload_n C 2 dL_law_918 rfl ?_
        refine eh_aload_n C 0 dL_law_919 rfl ?_
        refine eh_iload_n C 3 dL_law_920 rfl ?_
        refine eh_iconst C 1 dL_law_921 (by decide) ?_
        refine eh_iadd C dL_law_922 ?_
        refine el_sld C hX hbl hbA hi1 dL_law_923 ?_
        refine eh_aload_n C 0 dL_law_924 rfl ?_
        refine eh_iload_n C 3 dL_law_925 rfl ?_
        refine eh_iconst C 2 dL_law_926 (by decide) ?_
        refine eh_iadd C dL_law_927 ?_
        refine el_sld C hX hbl hbA hi2 dL_law_928 ?_
        refine eh_aload_n C 0 dL_law_929 rfl ?_
        refine eh_iload_n C 3 dL_law_930 rfl ?_
        refine eh_iconst C 3 dL_law_931 (by decide) ?_
        refine eh_iadd C dL_law_932 ?_
        refine el_sld C hX hbl hbA hi3 dL_law_933 ?_
        refine eh_aload_n C 0 dL_law_934 rfl ?_
        refine eh_iload_n C 3 dL_law_935 rfl ?_
        refine eh_iconst C 4 dL_law_936 (by decide) ?_
        refine eh_iadd C dL_law_937 ?_
        refine el_sld C hX hbl hbA hi4 dL_law_938 ?_
        refine eh_aload_n C 0 dL_law_939 rfl ?_
        refine eh_iload_n C 3 dL_law_940 rfl ?_
        refine eh_iconst C 5 dL_law_941 (by decide) ?_
        refine eh_iadd C dL_law_942 ?_
        refine el_sld C hX hbl hbA hi5 dL_law_943 ?_
        refine el_callRI C (cwl_X5_copy C) (av := [.int (xs ((x3 + 1)).toNatClampNeg), .int (xs ((x3 + 2)).toNatClampNeg), .int (xs ((x3 + 3)).toNatClampNeg), .int (xs ((x3 + 4)).toNatClampNeg), .int (xs ((x3 + 5)).toNatClampNeg)]) (kX5_copy hg) rfl rfl rfl rfl (st := [.int r]) rfl (Nat.le_of_ble_eq_true rfl) (by decide) dL_law_944 ?_
        refine eh_icmp_eq C 1012 dL_law_947 (by decide) (fun _ => ?_) (fun c => absurd rfl c)
        exact hinc σ2 τ2 hR2
      by_cases c26 : xs x3.toNatClampNeg &&& 31 = 26
      · refine eh_tin C 26 952 dL_law_33 c26 (by decide) (by decide) rfl (by decide) ?_
        refine eh_aload_n C 1 dL_law_952 rfl ?_
        refine eh_aload_n C 0 dL_law_953 rfl ?_
        refine eh_iload_n C 3 dL_law_954 rfl ?_
        refine eh_iconst C 1 dL_law_955 (by decide) ?_
        refine eh_iadd C dL_law_956 ?_
        refine el_sld C hX hbl hbA hi1 dL_law_957 ?_
        obtain ⟨r, σ2, τ2, hf, hg, hR2⟩ := h_write σ τ (xs ((x3 + 1)).toNatClampNeg) hR
        refine el_callLI C (cwl_X4_write C) (av := [.int (xs ((x3 + 1)).toNatClampNeg)]) (kX4_write hf) rfl rfl rfl rfl (st := []) rfl (Nat.le_of_ble_eq_true rfl) (by decide) dL_law_958 ?_
        refine eh_aload_n C 2 dL_law_961 rfl ?_
        refine eh_aload_n C 0 dL_law_962 rfl ?_
        refine eh_iload_n C 3 dL_law_963 rfl ?_
        refine eh_iconst C 1 dL_law_964 (by decide) ?_
        refine eh_iadd C dL_law_965 ?_
        refine el_sld C hX hbl hbA hi1 dL_law_966 ?_
        refine el_callRI C (cwl_X5_write C) (av := [.int (xs ((x3 + 1)).toNatClampNeg)]) (kX5_write hg) rfl rfl rfl rfl (st := [.int r]) rfl (Nat.le_of_ble_eq_true rfl) (by decide) dL_law_967 ?_
        refine eh_icmp_eq C 1012 dL_law_970 (by decide) (fun _ => ?_) (fun c => absurd rfl c)
        exact hinc σ2 τ2 hR2
      by_cases c27 : xs x3.toNatClampNeg &&& 31 = 27
      · refine eh_tin C 27 975 dL_law_33 c27 (by decide) (by decide) rfl (by decide) ?_
        refine eh_aload_n C 1 dL_law_975 rfl ?_
        refine eh_aload_n C 0 dL_law_976 rfl ?_
        refine eh_iload_n C 3 dL_law_977 rfl ?_
        refine eh_iconst C 1 dL_law_978 (by decide) ?_
        refine eh_iadd C dL_law_979 ?_
        refine el_sld C hX hbl hbA hi1 dL_law_980 ?_
        obtain ⟨r, τ2, hf, hg, hR2⟩ := h_count σ τ (xs ((x3 + 1)).toNatClampNeg) hR
        refine el_callLI C (cwl_X4_count C) (av := [.int (xs ((x3 + 1)).toNatClampNeg)]) (kX4_count hf) rfl rfl rfl rfl (st := []) rfl (Nat.le_of_ble_eq_true rfl) (by decide) dL_law_981 ?_
        refine eh_aload_n C 2 dL_law_984 rfl ?_
        refine eh_aload_n C 0 dL_law_985 rfl ?_
        refine eh_iload_n C 3 dL_law_986 rfl ?_
        refine eh_iconst C 1 dL_law_987 (by decide) ?_
        refine eh_iadd C dL_law_988 ?_
        refine el_sld C hX hbl hbA hi1 dL_law_989 ?_
        refine el_callRI C (cwl_X5_count C) (av := [.int (xs ((x3 + 1)).toNatClampNeg)]) (kX5_count hg) rfl rfl rfl rfl (st := [.int r]) rfl (Nat.le_of_ble_eq_true rfl) (by decide) dL_law_990 ?_
        refine eh_icmp_eq C 1012 dL_law_993 (by decide) (fun _ => ?_) (fun c => absurd rfl c)
        exact hinc σ τ2 hR2
      by_cases c28 : xs x3.toNatClampNeg &&& 31 = 28
      · refine eh_tin C 28 998 dL_law_33 c28 (by decide) (by decide) rfl (by decide) ?_
        refine eh_aload_n C 1 dL_law_998 rfl ?_
        obtain ⟨r, σ2, τ2, hf, hg, hR2⟩ := h_digest σ τ  hR
        refine el_callLL C (cwl_X4_digest C) (av := []) (kX4_digest hf) rfl rfl rfl rfl (st := []) rfl (Nat.le_of_ble_eq_true rfl) (by decide) dL_law_999 ?_
        refine eh_aload_n C 2 dL_law_1002 rfl ?_
        refine el_callRL C (cwl_X5_digest C) (av := []) (kX5_digest hg) rfl rfl rfl rfl (st := [.long r]) rfl (Nat.le_of_ble_eq_true rfl) (by decide) dL_law_1003 ?_
        refine eh_lcmp C dL_law_1006 ?_
        refine eh_if_eq C 1012 dL_law_1007 (by decide) (fun _ => ?_) (fun c => absurd (el_cmp _) c)
        exact hinc σ2 τ2 hR2
      have n0 := eu_nsw c0 (a := 0) rfl
      have n1 := eu_nsw c1 (a := 1) rfl
      have n2 := eu_nsw c2 (a := 2) rfl
      have n3 := eu_nsw c3 (a := 3) rfl
      have n4 := eu_nsw c4 (a := 4) rfl
      have n5 := eu_nsw c5 (a := 5) rfl
      have n6 := eu_nsw c6 (a := 6) rfl
      have n7 := eu_nsw c7 (a := 7) rfl
      have n8 := eu_nsw c8 (a := 8) rfl
      have n9 := eu_nsw c9 (a := 9) rfl
      have n10 := eu_nsw c10 (a := 10) rfl
      have n11 := eu_nsw c11 (a := 11) rfl
      have n12 := eu_nsw c12 (a := 12) rfl
      have n13 := eu_nsw c13 (a := 13) rfl
      have n14 := eu_nsw c14 (a := 14) rfl
      have n15 := eu_nsw c15 (a := 15) rfl
      have n16 := eu_nsw c16 (a := 16) rfl
      have n17 := eu_nsw c17 (a := 17) rfl
      have n18 := eu_nsw c18 (a := 18) rfl
      have n19 := eu_nsw c19 (a := 19) rfl
      have n20 := eu_nsw c20 (a := 20) rfl
      have n21 := eu_nsw c21 (a := 21) rfl
      have n22 := eu_nsw c22 (a := 22) rfl
      have n23 := eu_nsw c23 (a := 23) rfl
      have n24 := eu_nsw c24 (a := 24) rfl
      have n25 := eu_nsw c25 (a := 25) rfl
      have n26 := eu_nsw c26 (a := 26) rfl
      have n27 := eu_nsw c27 (a := 27) rfl
      have n28 := eu_nsw c28 (a := 28) rfl
      refine eh_tout C 1012 dL_law_33 (by omega) (by decide) ?_
      exact hinc σ τ hR
