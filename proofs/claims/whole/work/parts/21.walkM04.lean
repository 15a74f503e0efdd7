theorem cw_X5_withoutOf_X5_stateOf_159 {E : eu_E} (C : eu_C E ({ frames := 5, cells := 0, slots := 0, locals := 114 } : Room) 25 12 5 cX5_withoutOf RX5 (Cond.code yX5_withoutOf cX5_withoutOf 5 (some .int) :: eu_TB) (some .int)) : CallW (eu_R E) (eu_s E) (eu_a E) RX5 RX5 159 yX5_stateOf cX5_stateOf 3 (some .int) (Cond.code yX5_stateOf cX5_stateOf 3 (some .int) :: eu_TB) ({ frames := 4, cells := 0, slots := 0, locals := 92 } : Room) 0 0 2 := eu_cwV C tw_315 tw_316 tw_317 tw_5 tw_318 rfl rfl (by decide +kernel) (by decide)
theorem cw_X5_withoutOf_X5_judges_140 {E : eu_E} (C : eu_C E ({ frames := 5, cells := 0, slots := 0, locals := 114 } : Room) 25 12 5 cX5_withoutOf RX5 (Cond.code yX5_withoutOf cX5_withoutOf 5 (some .int) :: eu_TB) (some .int)) : CallW (eu_R E) (eu_s E) (eu_a E) RX5 RX5 140 yX5_judges cX5_judges 4 none (Cond.code yX5_judges cX5_judges 4 none :: eu_TB) ({ frames := 2, cells := 0, slots := 0, locals := 45 } : Room) 0 0 2 := eu_cwV C tw_248 tw_249 tw_250 tw_5 tw_251 rfl rfl (by decide +kernel) (by decide)
theorem cw_X5_withoutOf_X5_standing_153 {E : eu_E} (C : eu_C E ({ frames := 5, cells := 0, slots := 0, locals := 114 } : Room) 25 12 5 cX5_withoutOf RX5 (Cond.code yX5_withoutOf cX5_withoutOf 5 (some .int) :: eu_TB) (some .int)) : CallW (eu_R E) (eu_s E) (eu_a E) RX5 RX5 153 yX5_standing cX5_standing 4 (some .int) (Cond.code yX5_standing cX5_standing 4 (some .int) :: eu_TB) ({ frames := 3, cells := 0, slots := 0, locals := 69 } : Room) 0 0 1 := eu_cwV C tw_319 tw_320 tw_321 tw_5 tw_322 rfl rfl (by decide +kernel) (by decide)
theorem cw_X5_withoutOf_X5_least_168 {E : eu_E} (C : eu_C E ({ frames := 5, cells := 0, slots := 0, locals := 114 } : Room) 25 12 5 cX5_withoutOf RX5 (Cond.code yX5_withoutOf cX5_withoutOf 5 (some .int) :: eu_TB) (some .int)) : CallB (eu_R E) (eu_s E) (eu_a E) RX5 168 yX5_least cX5_least 2 (some .int) (Cond.code yX5_least cX5_least 2 (some .int) :: eu_TB) ({ frames := 1, cells := 0, slots := 0, locals := 21 } : Room) 0 0 1 ∧ (Cond.static yX5_least).before (eu_a E) (eu_s E) = true := eu_cwS C tw_369 tw_370 tw_5 tw_371 rfl rfl (by decide +kernel) (by decide)
set_option maxHeartbeats 4000000 in
set_option maxRecDepth 100000 in
theorem wX5_withoutOf {E : eu_E} (C : eu_C E ({ frames := 5, cells := 0, slots := 0, locals := 114 } : Room) 25 12 5 cX5_withoutOf RX5 (Cond.code yX5_withoutOf cX5_withoutOf 5 (some .int) :: eu_TB) (some .int)) {σ : eu_T} {r : Int32} {σ' : eu_T} {a1 : Int32} {a2 : Int32}  (h : fX5_withoutOf σ a1 a2 = some (r, σ')) : eu_G E 25 12 5 (eu_QI E 25 12 σ' r) σ 0 [(0, .ref (eu_ad E 25)), (1, .int a1), (2, .int a2)] [] := by
  unfold fX5_withoutOf at h
  refine eg_aload_n C 0 dX5_withoutOf_0 rfl ?_
  refine eg_aload_n C 0 dX5_withoutOf_1 rfl ?_
  refine gf_X5_108 C (by decide) dX5_withoutOf_2 ?_
  refine eg_iconst C (0 : Int32) dX5_withoutOf_5 (by decide) ?_
  obtain ⟨r1, σ2, hr1, h⟩ := eu_b2_some h
  refine eg_callI C (cw_X5_withoutOf_X5_stateOf_159 C) (av := [.int (σ 25 10), .int (0 : Int32)]) 25 (by decide) (kX5_stateOf hr1) rfl rfl rfl rfl (st := []) rfl (Nat.le_of_ble_eq_true rfl) dX5_withoutOf_6 ?_
  refine eg_istore_n C [(3, .int r1), (0, .ref (eu_ad E 25)), (1, .int a1), (2, .int a2)] dX5_withoutOf_9 rfl (by decide) rfl ?_
  refine eg_aload_n C 1 dX5_withoutOf_10 rfl ?_
  refine eg_aload_n C 1 dX5_withoutOf_11 rfl ?_
  refine gf_X5_108 C (by decide) dX5_withoutOf_12 ?_
  refine eg_iload_n C 2 dX5_withoutOf_15 rfl ?_
  obtain ⟨r3, σ4, hr3, h⟩ := eu_b2_some h
  refine eg_callV C (cw_X5_withoutOf_X5_judges_140 C) (av := [.int (σ2 25 10), .int a1]) 25 (by decide) (kX5_judges hr3) rfl rfl rfl rfl (st := []) rfl (Nat.le_of_ble_eq_true rfl) dX5_withoutOf_16 ?_
  refine eg_aload_n C 1 dX5_withoutOf_19 rfl ?_
  refine eg_aload_n C 1 dX5_withoutOf_20 rfl ?_
  refine gf_X5_108 C (by decide) dX5_withoutOf_21 ?_
  obtain ⟨r5, hr5, h⟩ := eu_bd_some h
  refine eg_callI C (cw_X5_withoutOf_X5_standing_153 C) (av := [.int (σ4 25 10)]) 25 (by decide) (kX5_standing hr5) rfl rfl rfl rfl (st := []) rfl (Nat.le_of_ble_eq_true rfl) dX5_withoutOf_24 ?_
  refine eg_istore C [(4, .int r5), (3, .int r1), (0, .ref (eu_ad E 25)), (1, .int a1), (2, .int a2)] dX5_withoutOf_27 (by decide) rfl ?_
  refine eg_iload_n C 4 dX5_withoutOf_29 rfl ?_
  refine eg_if_ne C 38 dX5_withoutOf_30 (by decide) (fun c => ?_) (fun c => ?_)
  · rw [if_neg c] at h
    refine eg_iload_n C 1 dX5_withoutOf_38 rfl ?_
    refine eg_iload C 0 dX5_withoutOf_39 rfl ?_
    refine eg_ixor C dX5_withoutOf_41 ?_
    obtain ⟨r6, hr6, h⟩ := eu_bd_some h
    refine eg_scallI C (cw_X5_withoutOf_X5_least_168 C) (av := [.int (r1 ^^^ r5)]) (kX5_least hr6) rfl (st := []) rfl (Nat.le_of_ble_eq_true rfl) dX5_withoutOf_42 ?_
    obtain ⟨rfl, rfl⟩ := eu_inj2 h
    exact eg_iret C rfl dX5_withoutOf_45
  · rw [if_pos c] at h
    refine eg_iload C 0 dX5_withoutOf_33 rfl ?_
    refine eg_goto C 45 dX5_withoutOf_35 (by decide) ?_
    obtain ⟨rfl, rfl⟩ := eu_inj2 h
    exact eg_iret C rfl dX5_withoutOf_45
theorem kX5_withoutOf {l : Launch} {σ : eu_T} {r : Int32} {σ' : eu_T} {a1 : Int32} {a2 : Int32}  (h : fX5_withoutOf σ a1 a2 = some (r, σ')) : eu_KI l yX5_withoutOf (Cond.code yX5_withoutOf cX5_withoutOf 5 (some .int) :: eu_TB) ({ frames := 5, cells := 0, slots := 0, locals := 114 } : Room) 25 12 (fun ad => [.ref (ad 25), .int a1, .int a2]) σ σ' r :=
  eu_KI_of (by decide) (by decide) rfl (fun _ => Nat.le_of_ble_eq_true rfl) (fun E C => wX5_withoutOf C h)
theorem cw_X5_without_X5_reads_100 {E : eu_E} (C : eu_C E ({ frames := 6, cells := 0, slots := 0, locals := 138 } : Room) 25 12 3 cX5_without RX5 (Cond.code yX5_without cX5_without 3 (some .int) :: eu_TB) (some .int)) : CallW (eu_R E) (eu_s E) (eu_a E) RX5 RX5 100 yX5_reads cX5_reads 2 (some .int) (Cond.code yX5_reads cX5_reads 2 (some .int) :: eu_TB) ({ frames := 2, cells := 0, slots := 0, locals := 48 } : Room) 0 0 0 := eu_cwV C tw_131 tw_132 tw_133 tw_5 tw_134 rfl rfl (by decide +kernel) (by decide)
theorem cw_X5_without_X5_in_44 {E : eu_E} (C : eu_C E ({ frames := 6, cells := 0, slots := 0, locals := 138 } : Room) 25 12 3 cX5_without RX5 (Cond.code yX5_without cX5_without 3 (some .int) :: eu_TB) (some .int)) : CallB (eu_R E) (eu_s E) (eu_a E) RX5 44 yX5_in cX5_in 6 (some .boolean) (Cond.code yX5_in cX5_in 6 (some .boolean) :: eu_TB) ({ frames := 0, cells := 0, slots := 0, locals := 0 } : Room) 0 0 3 ∧ (Cond.static yX5_in).before (eu_a E) (eu_s E) = true := eu_cwS C tw_109 tw_110 tw_5 tw_111 rfl rfl (by decide +kernel) (by decide)
theorem cw_X5_without_X5_isTwo_156 {E : eu_E} (C : eu_C E ({ frames := 6, cells := 0, slots := 0, locals := 138 } : Room) 25 12 3 cX5_without RX5 (Cond.code yX5_without cX5_without 3 (some .int) :: eu_TB) (some .int)) : CallB (eu_R E) (eu_s E) (eu_a E) RX5 156 yX5_isTwo cX5_isTwo 1 (some .boolean) (Cond.code yX5_isTwo cX5_isTwo 1 (some .boolean) :: eu_TB) ({ frames := 1, cells := 0, slots := 0, locals := 25 } : Room) 0 0 1 ∧ (Cond.static yX5_isTwo).before (eu_a E) (eu_s E) = true := eu_cwS C tw_312 tw_313 tw_5 tw_314 rfl rfl (by decide +kernel) (by decide)
theorem cw_X5_without_X5_withoutOf_171 {E : eu_E} (C : eu_C E ({ frames := 6, cells := 0, slots := 0, locals := 138 } : Room) 25 12 3 cX5_without RX5 (Cond.code yX5_without cX5_without 3 (some .int) :: eu_TB) (some .int)) : CallW (eu_R E) (eu_s E) (eu_a E) RX5 RX5 171 yX5_withoutOf cX5_withoutOf 5 (some .int) (Cond.code yX5_withoutOf cX5_withoutOf 5 (some .int) :: eu_TB) ({ frames := 5, cells := 0, slots := 0, locals := 114 } : Room) 0 0 2 := eu_cwV C tw_365 tw_366 tw_367 tw_5 tw_368 rfl rfl (by decide +kernel) (by decide)
set_option maxHeartbeats 4000000 in
set_option maxRecDepth 100000 in
theorem wX5_without_J37 {E : eu_E} (C : eu_C E ({ frames := 6, cells := 0, slots := 0, locals := 138 } : Room) 25 12 3 cX5_without RX5 (Cond.code yX5_without cX5_without 3 (some .int) :: eu_TB) (some .int)) {r : Int32} {σ' : eu_T}   (σ : eu_T)  (h : fX5_without_J37  σ = some (r, σ')) : eu_G E 25 12 3 (eu_QI E 25 12 σ' r) σ 37 [] [] := by
  unfold fX5_without_J37 at h
  refine eg_bipush C (-2 : Int32) dX5_without_37 (by decide) ?_
  obtain ⟨rfl, rfl⟩ := eu_inj2 h
  exact eg_iret C rfl dX5_without_39
set_option maxHeartbeats 4000000 in
set_option maxRecDepth 100000 in
theorem wX5_without {E : eu_E} (C : eu_C E ({ frames := 6, cells := 0, slots := 0, locals := 138 } : Room) 25 12 3 cX5_without RX5 (Cond.code yX5_without cX5_without 3 (some .int) :: eu_TB) (some .int)) {σ : eu_T} {r : Int32} {σ' : eu_T} {a1 : Int32} {a2 : Int32}  (h : fX5_without σ a1 a2 = some (r, σ')) : eu_G E 25 12 3 (eu_QI E 25 12 σ' r) σ 0 [(0, .ref (eu_ad E 25)), (1, .int a1), (2, .int a2)] [] := by
  unfold fX5_without at h
  refine eg_aload_n C 0 dX5_without_0 rfl ?_
  obtain ⟨r1, σ2, hr1, h⟩ := eu_b2_some h
  refine eg_callI C (cw_X5_without_X5_reads_100 C) (av := []) 25 (by decide) (kX5_reads hr1) rfl rfl rfl rfl (st := []) rfl (Nat.le_of_ble_eq_true rfl) dX5_without_1 ?_
  refine eg_pop C dX5_without_4 rfl ?_
  refine eg_iload_n C 1 dX5_without_5 rfl ?_
  refine eg_i2l C dX5_without_6 ?_
  refine eg_lconst C (0 : Int64) dX5_without_7 (by decide) ?_
  refine eg_aload_n C 0 dX5_without_8 rfl ?_
  refine gf_X5_108 C (by decide) dX5_without_9 ?_
  refine eg_iconst C (1 : Int32) dX5_without_12 (by decide) ?_
  refine eg_isub C dX5_without_13 ?_
  refine eg_i2l C dX5_without_14 ?_
  refine eg_scallI C (cw_X5_without_X5_in_44 C) (av := [.long a1.toInt64, .long (0 : Int64), .long (((σ2 25 10) - (1 : Int32)).toInt64)]) (kX5_in rfl) rfl (st := []) rfl (Nat.le_of_ble_eq_true rfl) dX5_without_15 ?_
  refine eg_if_eq C 37 dX5_without_18 (by decide) (fun c => ?_) (fun c => ?_)
  · rw [if_pos c] at h
    refine eg_sub C [] rfl ?_
    exact wX5_without_J37 C _ h
  · rw [if_neg c] at h
    refine eg_iload_n C 2 dX5_without_21 rfl ?_
    refine eg_scallI C (cw_X5_without_X5_isTwo_156 C) (av := [.int a2]) (kX5_isTwo rfl) rfl (st := []) rfl (Nat.le_of_ble_eq_true rfl) dX5_without_22 ?_
    refine eg_if_eq C 37 dX5_without_25 (by decide) (fun c => ?_) (fun c => ?_)
    · rw [if_pos c] at h
      refine eg_sub C [] rfl ?_
      exact wX5_without_J37 C _ h
    · rw [if_neg c] at h
      refine eg_aload_n C 0 dX5_without_28 rfl ?_
      refine eg_iload_n C 1 dX5_without_29 rfl ?_
      refine eg_iload_n C 2 dX5_without_30 rfl ?_
      obtain ⟨r3, σ4, hr3, h⟩ := eu_b2_some h
      refine eg_callI C (cw_X5_without_X5_withoutOf_171 C) (av := [.int a1, .int a2]) 25 (by decide) (kX5_withoutOf hr3) rfl rfl rfl rfl (st := []) rfl (Nat.le_of_ble_eq_true rfl) dX5_without_31 ?_
      refine eg_goto C 39 dX5_without_34 (by decide) ?_
      obtain ⟨rfl, rfl⟩ := eu_inj2 h
      exact eg_iret C rfl dX5_without_39
theorem kX5_without {l : Launch} {σ : eu_T} {r : Int32} {σ' : eu_T} {a1 : Int32} {a2 : Int32}  (h : fX5_without σ a1 a2 = some (r, σ')) : eu_KI l yX5_without (Cond.code yX5_without cX5_without 3 (some .int) :: eu_TB) ({ frames := 6, cells := 0, slots := 0, locals := 138 } : Room) 25 12 (fun ad => [.ref (ad 25), .int a1, .int a2]) σ σ' r :=
  eu_KI_of (by decide) (by decide) rfl (fun _ => Nat.le_of_ble_eq_true rfl) (fun E C => wX5_without C h)
theorem cw_X5_adds_X5_tells_111 {E : eu_E} (C : eu_C E ({ frames := 3, cells := 0, slots := 0, locals := 68 } : Room) 25 12 3 cX5_adds RX5 (Cond.code yX5_adds cX5_adds 3 (some .boolean) :: eu_TB) (some .boolean)) : CallW (eu_R E) (eu_s E) (eu_a E) RX5 RX5 111 yX5_tells cX5_tells 4 none (Cond.code yX5_tells cX5_tells 4 none :: eu_TB) ({ frames := 0, cells := 0, slots := 0, locals := 0 } : Room) 0 0 3 := eu_cwV C tw_183 tw_184 tw_185 tw_5 tw_186 rfl rfl (by decide +kernel) (by decide)
theorem cw_X5_adds_X5_judges_140 {E : eu_E} (C : eu_C E ({ frames := 3, cells := 0, slots := 0, locals := 68 } : Room) 25 12 3 cX5_adds RX5 (Cond.code yX5_adds cX5_adds 3 (some .boolean) :: eu_TB) (some .boolean)) : CallW (eu_R E) (eu_s E) (eu_a E) RX5 RX5 140 yX5_judges cX5_judges 4 none (Cond.code yX5_judges cX5_judges 4 none :: eu_TB) ({ frames := 2, cells := 0, slots := 0, locals := 45 } : Room) 0 0 2 := eu_cwV C tw_248 tw_249 tw_250 tw_5 tw_251 rfl rfl (by decide +kernel) (by decide)
theorem cw_X5_adds_X5_isLawful_137 {E : eu_E} (C : eu_C E ({ frames := 3, cells := 0, slots := 0, locals := 68 } : Room) 25 12 3 cX5_adds RX5 (Cond.code yX5_adds cX5_adds 3 (some .boolean) :: eu_TB) (some .boolean)) : CallW (eu_R E) (eu_s E) (eu_a E) RX5 RX5 137 yX5_isLawful cX5_isLawful 5 (some .boolean) (Cond.code yX5_isLawful cX5_isLawful 5 (some .boolean) :: eu_TB) ({ frames := 1, cells := 0, slots := 0, locals := 21 } : Room) 0 0 1 := eu_cwV C tw_254 tw_255 tw_256 tw_5 tw_257 rfl rfl (by decide +kernel) (by decide)
set_option maxHeartbeats 4000000 in
set_option maxRecDepth 100000 in
theorem wX5_adds {E : eu_E} (C : eu_C E ({ frames := 3, cells := 0, slots := 0, locals := 68 } : Room) 25 12 3 cX5_adds RX5 (Cond.code yX5_adds cX5_adds 3 (some .boolean) :: eu_TB) (some .boolean)) {σ : eu_T} {r : Int32} {σ' : eu_T} {a1 : Int32} {a2 : Int32}  (h : fX5_adds σ a1 a2 = some (r, σ')) : eu_G E 25 12 3 (eu_QI E 25 12 σ' r) σ 0 [(0, .ref (eu_ad E 25)), (1, .int a1), (2, .int a2)] [] := by
  unfold fX5_adds at h
  refine eg_iload_n C 1 dX5_adds_0 rfl ?_
  refine eg_bipush C (12 : Int32) dX5_adds_1 (by decide) ?_
  refine eg_icmp_lt C 8 dX5_adds_3 (by decide) (fun c => ?_) (fun c => ?_)
  · rw [if_pos c] at h
    refine eg_aload_n C 0 dX5_adds_8 rfl ?_
    refine eg_iload_n C 1 dX5_adds_9 rfl ?_
    refine eg_iload_n C 2 dX5_adds_10 rfl ?_
    refine eg_bipush C (24 : Int32) dX5_adds_11 (by decide) ?_
    refine eg_idiv C dX5_adds_13 (by decide) ?_
    refine eg_iload_n C 2 dX5_adds_14 rfl ?_
    refine eg_bipush C (24 : Int32) dX5_adds_15 (by decide) ?_
    refine eg_irem C dX5_adds_17 (by decide) ?_
    obtain ⟨r1, σ2, hr1, h⟩ := eu_b2_some h
    refine eg_callV C (cw_X5_adds_X5_tells_111 C) (av := [.int a1, .int (a2 / (24 : Int32)), .int (a2 - a2 / (24 : Int32) * (24 : Int32))]) 25 (by decide) (kX5_tells hr1) rfl rfl rfl rfl (st := []) rfl (Nat.le_of_ble_eq_true rfl) dX5_adds_18 ?_
    refine eg_aload_n C 0 dX5_adds_21 rfl ?_
    refine eg_iload_n C 1 dX5_adds_22 rfl ?_
    refine eg_iconst C (-1 : Int32) dX5_adds_23 (by decide) ?_
    obtain ⟨r3, σ4, hr3, h⟩ := eu_b2_some h
    refine eg_callV C (cw_X5_adds_X5_judges_140 C) (av := [.int a1, .int (-1 : Int32)]) 25 (by decide) (kX5_judges hr3) rfl rfl rfl rfl (st := []) rfl (Nat.le_of_ble_eq_true rfl) dX5_adds_24 ?_
    refine eg_aload_n C 0 dX5_adds_27 rfl ?_
    refine gf_X5_34 C (by decide) dX5_adds_28 ?_
    refine eg_iload_n C 1 dX5_adds_31 rfl ?_
    refine eg_aload_n C 0 dX5_adds_32 rfl ?_
    refine eg_iload_n C 1 dX5_adds_33 rfl ?_
    obtain ⟨r5, hr5, h⟩ := eu_bd_some h
    refine eg_callI C (cw_X5_adds_X5_isLawful_137 C) (av := [.int a1]) 25 (by decide) (kX5_isLawful hr5) rfl rfl rfl rfl (st := [.int a1, .ref (eu_ad E 34)]) rfl (Nat.le_of_ble_eq_true rfl) dX5_adds_34 ?_
    obtain ⟨g6, h⟩ := eu_gd_some h
    refine eg_zast C 34 (by decide) (z := 15) (fun _ => rfl) g6.2 (eu_in_vp g6.1) dX5_adds_37 ?_
    obtain ⟨σ7, eσ7, h⟩ := eu_lt_x h
    rw [← eσ7]
    refine eg_aload_n C 0 dX5_adds_38 rfl ?_
    refine gf_X5_34 C (by decide) dX5_adds_39 ?_
    refine eg_iload_n C 1 dX5_adds_42 rfl ?_
    obtain ⟨g8, h⟩ := eu_gd_some h
    refine eg_zald C 34 (by decide) (z := 15) (fun _ => rfl) (eu_in_vp g8) dX5_adds_43 ?_
    obtain ⟨g9, h⟩ := eu_gd_some h
    obtain ⟨rfl, rfl⟩ := eu_inj2 h
    exact eg_zret C rfl g9 dX5_adds_44
  · rw [if_neg c] at h
    refine eg_iconst C (0 : Int32) dX5_adds_6 (by decide) ?_
    obtain ⟨rfl, rfl⟩ := eu_inj2 h
    exact eg_zret C rfl (by decide) dX5_adds_7
theorem kX5_adds {l : Launch} {σ : eu_T} {r : Int32} {σ' : eu_T} {a1 : Int32} {a2 : Int32}  (h : fX5_adds σ a1 a2 = some (r, σ')) : eu_KI l yX5_adds (Cond.code yX5_adds cX5_adds 3 (some .boolean) :: eu_TB) ({ frames := 3, cells := 0, slots := 0, locals := 68 } : Room) 25 12 (fun ad => [.ref (ad 25), .int a1, .int a2]) σ σ' r :=
  eu_KI_of (by decide) (by decide) rfl (fun _ => Nat.le_of_ble_eq_true rfl) (fun E C => wX5_adds C h)
theorem cw_X5_isSo_X5_standing_153 {E : eu_E} (C : eu_C E ({ frames := 4, cells := 0, slots := 0, locals := 92 } : Room) 25 12 6 cX5_isSo RX5 (Cond.code yX5_isSo cX5_isSo 6 (some .boolean) :: eu_TB) (some .boolean)) : CallW (eu_R E) (eu_s E) (eu_a E) RX5 RX5 153 yX5_standing cX5_standing 4 (some .int) (Cond.code yX5_standing cX5_standing 4 (some .int) :: eu_TB) ({ frames := 3, cells := 0, slots := 0, locals := 69 } : Room) 0 0 1 := eu_cwV C tw_319 tw_320 tw_321 tw_5 tw_322 rfl rfl (by decide +kernel) (by decide)
set_option maxHeartbeats 4000000 in
set_option maxRecDepth 100000 in
theorem wX5_isSo_J40 {E : eu_E} (C : eu_C E ({ frames := 4, cells := 0, slots := 0, locals := 92 } : Room) 25 12 6 cX5_isSo RX5 (Cond.code yX5_isSo cX5_isSo 6 (some .boolean) :: eu_TB) (some .boolean)) {σ : eu_T} {r : Int32}     (h : fX5_isSo_J40 σ = some r) : eu_G E 25 12 6 (eu_QI E 25 12 σ r) σ 40 [] [] := by
  unfold fX5_isSo_J40 at h
  refine eg_iconst C (0 : Int32) dX5_isSo_40 (by decide) ?_
  obtain rfl := Option.some.inj h
  exact eg_zret C rfl (by decide) dX5_isSo_41
set_option maxHeartbeats 4000000 in
set_option maxRecDepth 100000 in
theorem wX5_isSo {E : eu_E} (C : eu_C E ({ frames := 4, cells := 0, slots := 0, locals := 92 } : Room) 25 12 6 cX5_isSo RX5 (Cond.code yX5_isSo cX5_isSo 6 (some .boolean) :: eu_TB) (some .boolean)) {σ : eu_T} {r : Int32} {a1 : Int32} {a2 : Int32} {a3 : Int32}  (h : fX5_isSo σ a1 a2 a3 = some r) : eu_G E 25 12 6 (eu_QI E 25 12 σ r) σ 0 [(0, .ref (eu_ad E 25)), (1, .int a1), (2, .int a2), (3, .int a3)] [] := by
  unfold fX5_isSo at h
  refine eg_aload_n C 0 dX5_isSo_0 rfl ?_
  refine eg_iload_n C 1 dX5_isSo_1 rfl ?_
  obtain ⟨r1, hr1, h⟩ := eu_bd_some h
  refine eg_callI C (cw_X5_isSo_X5_standing_153 C) (av := [.int a1]) 25 (by decide) (kX5_standing hr1) rfl rfl rfl rfl (st := []) rfl (Nat.le_of_ble_eq_true rfl) dX5_isSo_2 ?_
  refine eg_istore C [(4, .int r1), (0, .ref (eu_ad E 25)), (1, .int a1), (2, .int a2), (3, .int a3)] dX5_isSo_5 (by decide) rfl ?_
  refine eg_iconst C (1 : Int32) dX5_isSo_7 (by decide) ?_
  refine eg_aload_n C 1 dX5_isSo_8 rfl ?_
  refine gf_X5_81 C (by decide) dX5_isSo_9 ?_
  refine eg_ishl C dX5_isSo_12 ?_
  refine eg_iconst C (1 : Int32) dX5_isSo_13 (by decide) ?_
  refine eg_isub C dX5_isSo_14 ?_
  refine eg_istore C [(5, .int (((1 : Int32) <<< ((σ 25 8) &&& 31)) - (1 : Int32))), (4, .int r1), (0, .ref (eu_ad E 25)), (1, .int a1), (2, .int a2), (3, .int a3)] dX5_isSo_15 (by decide) rfl ?_
  refine eg_iload_n C 4 dX5_isSo_17 rfl ?_
  refine eg_iload C 0 dX5_isSo_18 rfl ?_
  refine eg_iand C dX5_isSo_20 ?_
  refine eg_iload C 1 dX5_isSo_21 rfl ?_
  refine eg_iconst C (-1 : Int32) dX5_isSo_23 (by decide) ?_
  refine eg_ixor C dX5_isSo_24 ?_
  refine eg_iand C dX5_isSo_25 ?_
  refine eg_if_ne C 40 dX5_isSo_26 (by decide) (fun c => ?_) (fun c => ?_)
  · rw [if_neg c] at h
    refine eg_sub C [] rfl ?_
    exact wX5_isSo_J40 C h
  · rw [if_pos c] at h
    refine eg_iload_n C 5 dX5_isSo_29 rfl ?_
    refine eg_iload C 1 dX5_isSo_30 rfl ?_
    refine eg_iand C dX5_isSo_32 ?_
    refine eg_if_ne C 40 dX5_isSo_33 (by decide) (fun c => ?_) (fun c => ?_)
    · rw [if_neg c] at h
      refine eg_sub C [] rfl ?_
      exact wX5_isSo_J40 C h
    · rw [if_pos c] at h
      refine eg_iconst C (1 : Int32) dX5_isSo_36 (by decide) ?_
      refine eg_goto C 41 dX5_isSo_37 (by decide) ?_
      obtain rfl := Option.some.inj h
      exact eg_zret C rfl (by decide) dX5_isSo_41
theorem kX5_isSo {l : Launch} {σ : eu_T} {r : Int32} {a1 : Int32} {a2 : Int32} {a3 : Int32}  (h : fX5_isSo σ a1 a2 a3 = some r) : eu_KI l yX5_isSo (Cond.code yX5_isSo cX5_isSo 6 (some .boolean) :: eu_TB) ({ frames := 4, cells := 0, slots := 0, locals := 92 } : Room) 25 12 (fun ad => [.ref (ad 25), .int a1, .int a2, .int a3]) σ σ r :=
  eu_KI_of (by decide) (by decide) rfl (fun _ => Nat.le_of_ble_eq_true rfl) (fun E C => wX5_isSo C h)
theorem cw_X5_canBe_X5_adds_174 {E : eu_E} (C : eu_C E ({ frames := 5, cells := 0, slots := 0, locals := 117 } : Room) 25 12 6 cX5_canBe RX5 (Cond.code yX5_canBe cX5_canBe 6 (some .boolean) :: eu_TB) (some .boolean)) : CallW (eu_R E) (eu_s E) (eu_a E) RX5 RX5 174 yX5_adds cX5_adds 3 (some .boolean) (Cond.code yX5_adds cX5_adds 3 (some .boolean) :: eu_TB) ({ frames := 3, cells := 0, slots := 0, locals := 68 } : Room) 0 0 2 := eu_cwV C tw_413 tw_414 tw_415 tw_5 tw_416 rfl rfl (by decide +kernel) (by decide)
theorem cw_X5_canBe_X5_isSo_177 {E : eu_E} (C : eu_C E ({ frames := 5, cells := 0, slots := 0, locals := 117 } : Room) 25 12 6 cX5_canBe RX5 (Cond.code yX5_canBe cX5_canBe 6 (some .boolean) :: eu_TB) (some .boolean)) : CallW (eu_R E) (eu_s E) (eu_a E) RX5 RX5 177 yX5_isSo cX5_isSo 6 (some .boolean) (Cond.code yX5_isSo cX5_isSo 6 (some .boolean) :: eu_TB) ({ frames := 4, cells := 0, slots := 0, locals := 92 } : Room) 0 0 3 := eu_cwV C tw_409 tw_410 tw_411 tw_5 tw_412 rfl rfl (by decide +kernel) (by decide)
set_option maxHeartbeats 4000000 in
set_option maxRecDepth 100000 in
theorem wX5_canBe_J45 {E : eu_E} (C : eu_C E ({ frames := 5, cells := 0, slots := 0, locals := 117 } : Room) 25 12 6 cX5_canBe RX5 (Cond.code yX5_canBe cX5_canBe 6 (some .boolean) :: eu_TB) (some .boolean)) {r : Int32} {σ' : eu_T} {k6 : eu_T → Int32 → Int32 → Int32 → Int32 → Int32 → Option (Int32 × eu_T)} (hk_6 : ∀ (σ : eu_T) (v1 : Int32) (v2 : Int32) (v3 : Int32) (v4 : Int32) (v5 : Int32), k6 σ v1 v2 v3 v4 v5 = some (r, σ') → eu_G E 25 12 6 (eu_QI E 25 12 σ' r) σ 6 [(0, .ref (eu_ad E 25)), (1, .int v1), (2, .int v2), (3, .int v3), (4, .int v4), (5, .int v5)] []) (σ : eu_T) (v1 : Int32) (v2 : Int32) (v3 : Int32) (v5 : Int32)  (h : fX5_canBe_J45 k6 σ v1 v2 v3 v5 = some (r, σ')) : eu_G E 25 12 6 (eu_QI E 25 12 σ' r) σ 45 [(0, .ref (eu_ad E 25)), (1, .int v1), (2, .int v2), (3, .int v3), (5, .int v5)] [] := by
  unfold fX5_canBe_J45 at h
  refine eg_iconst C (0 : Int32) dX5_canBe_45 (by decide) ?_
  refine eg_istore C [(4, .int (0 : Int32)), (0, .ref (eu_ad E 25)), (1, .int v1), (2, .int v2), (3, .int v3), (5, .int v5)] dX5_canBe_46 (by decide) rfl ?_
  refine eg_iinc C 5 (v5 + (1 : Int32)) [(5, .int (v5 + (1 : Int32))), (4, .int (0 : Int32)), (0, .ref (eu_ad E 25)), (1, .int v1), (2, .int v2), (3, .int v3)] dX5_canBe_48 rfl rfl (by decide) rfl ?_
  refine eg_goto C 6 dX5_canBe_51 (by decide) ?_
  refine eg_sub C [2, 3, 4, 5, 1, 0] rfl ?_
  exact hk_6 _ _ _ _ _ _ h
set_option maxHeartbeats 4000000 in
set_option maxRecDepth 100000 in
theorem wX5_canBe_L6 {E : eu_E} (C : eu_C E ({ frames := 5, cells := 0, slots := 0, locals := 117 } : Room) 25 12 6 cX5_canBe RX5 (Cond.code yX5_canBe cX5_canBe 6 (some .boolean) :: eu_TB) (some .boolean)) {r : Int32} {σ' : eu_T}   : ∀ (n : Nat) (σ : eu_T) (v1 : Int32) (v2 : Int32) (v3 : Int32) (v4 : Int32) (v5 : Int32), fX5_canBe_L6 n σ v1 v2 v3 v4 v5 = some (r, σ') → eu_G E 25 12 6 (eu_QI E 25 12 σ' r) σ 6 [(0, .ref (eu_ad E 25)), (1, .int v1), (2, .int v2), (3, .int v3), (4, .int v4), (5, .int v5)] [] := by
  intro n
  induction n with
  | zero =>
    intro σ v1 v2 v3 v4 v5  h
    rw [fX5_canBe_L6_z] at h
    cases h
  | succ n ih =>
    intro σ v1 v2 v3 v4 v5  h
    rw [fX5_canBe_L6_s] at h
    refine eg_iload C 5 dX5_canBe_6 rfl ?_
    refine eg_sipush C (144 : Int32) dX5_canBe_8 (by decide) ?_
    refine eg_icmp_ge C 54 dX5_canBe_11 (by decide) (fun c => ?_) (fun c => ?_)
    · rw [if_pos c] at h
      refine eg_iload C 4 dX5_canBe_54 rfl ?_
      obtain ⟨g1, h⟩ := eu_gd_some h
      obtain ⟨rfl, rfl⟩ := eu_inj2 h
      exact eg_zret C rfl g1 dX5_canBe_56
    · rw [if_neg c] at h
      refine eg_iload C 4 dX5_canBe_14 rfl ?_
      refine eg_if_ne C 54 dX5_canBe_16 (by decide) (fun c => ?_) (fun c => ?_)
      · rw [if_neg c] at h
        refine eg_iload C 4 dX5_canBe_54 rfl ?_
        obtain ⟨g2, h⟩ := eu_gd_some h
        obtain ⟨rfl, rfl⟩ := eu_inj2 h
        exact eg_zret C rfl g2 dX5_canBe_56
      · rw [if_pos c] at h
        refine eg_aload_n C 0 dX5_canBe_19 rfl ?_
        refine eg_iload_n C 1 dX5_canBe_20 rfl ?_
        refine eg_iload C 5 dX5_canBe_21 rfl ?_
        obtain ⟨r3, σ4, hr3, h⟩ := eu_b2_some h
        refine eg_callI C (cw_X5_canBe_X5_adds_174 C) (av := [.int v1, .int v5]) 25 (by decide) (kX5_adds hr3) rfl rfl rfl rfl (st := []) rfl (Nat.le_of_ble_eq_true rfl) dX5_canBe_23 ?_
        refine eg_if_eq C 45 dX5_canBe_26 (by decide) (fun c => ?_) (fun c => ?_)
        · rw [if_pos c] at h
          refine eg_sub C [0, 1, 2, 3, 5] rfl ?_
          exact wX5_canBe_J45 C ih _ _ _ _ _ h
        · rw [if_neg c] at h
          refine eg_aload_n C 0 dX5_canBe_29 rfl ?_
          refine eg_iload_n C 1 dX5_canBe_30 rfl ?_
          refine eg_iconst C (1 : Int32) dX5_canBe_31 (by decide) ?_
          refine eg_iadd C dX5_canBe_32 ?_
          refine eg_iload_n C 2 dX5_canBe_33 rfl ?_
          refine eg_iload_n C 3 dX5_canBe_34 rfl ?_
          obtain ⟨r5, hr5, h⟩ := eu_bd_some h
          refine eg_callI C (cw_X5_canBe_X5_isSo_177 C) (av := [.int (v1 + (1 : Int32)), .int v2, .int v3]) 25 (by decide) (kX5_isSo hr5) rfl rfl rfl rfl (st := []) rfl (Nat.le_of_ble_eq_true rfl) dX5_canBe_35 ?_
          refine eg_if_eq C 45 dX5_canBe_38 (by decide) (fun c => ?_) (fun c => ?_)
          · rw [if_pos c] at h
            refine eg_sub C [0, 1, 2, 3, 5] rfl ?_
            exact wX5_canBe_J45 C ih _ _ _ _ _ h
          · rw [if_neg c] at h
            refine eg_iconst C (1 : Int32) dX5_canBe_41 (by decide) ?_
            refine eg_goto C 46 dX5_canBe_42 (by decide) ?_
            refine eg_istore C [(4, .int (1 : Int32)), (0, .ref (eu_ad E 25)), (1, .int v1), (2, .int v2), (3, .int v3), (5, .int v5)] dX5_canBe_46 (by decide) rfl ?_
            refine eg_iinc C 5 (v5 + (1 : Int32)) [(5, .int (v5 + (1 : Int32))), (4, .int (1 : Int32)), (0, .ref (eu_ad E 25)), (1, .int v1), (2, .int v2), (3, .int v3)] dX5_canBe_48 rfl rfl (by decide) rfl ?_
            refine eg_goto C 6 dX5_canBe_51 (by decide) ?_
            refine eg_sub C [2, 3, 4, 5, 1, 0] rfl ?_
            exact ih _ _ _ _ _ _ h
set_option maxHeartbeats 4000000 in
set_option maxRecDepth 100000 in
theorem wX5_canBe {E : eu_E} (C : eu_C E ({ frames := 5, cells := 0, slots := 0, locals := 117 } : Room) 25 12 6 cX5_canBe RX5 (Cond.code yX5_canBe cX5_canBe 6 (some .boolean) :: eu_TB) (some .boolean)) {σ : eu_T} {r : Int32} {σ' : eu_T} {a1 : Int32} {a2 : Int32} {a3 : Int32}  (h : fX5_canBe σ a1 a2 a3 = some (r, σ')) : eu_G E 25 12 6 (eu_QI E 25 12 σ' r) σ 0 [(0, .ref (eu_ad E 25)), (1, .int a1), (2, .int a2), (3, .int a3)] [] := by
  unfold fX5_canBe at h
  refine eg_iconst C (0 : Int32) dX5_canBe_0 (by decide) ?_
  refine eg_istore C [(4, .int (0 : Int32)), (0, .ref (eu_ad E 25)), (1, .int a1), (2, .int a2), (3, .int a3)] dX5_canBe_1 (by decide) rfl ?_
  refine eg_iconst C (0 : Int32) dX5_canBe_3 (by decide) ?_
  refine eg_istore C [(5, .int (0 : Int32)), (4, .int (0 : Int32)), (0, .ref (eu_ad E 25)), (1, .int a1), (2, .int a2), (3, .int a3)] dX5_canBe_4 (by decide) rfl ?_
  refine eg_sub C [2, 3, 4, 5, 1, 0] rfl ?_
  exact wX5_canBe_L6 C 200 _ _ _ _ _ _ h
theorem kX5_canBe {l : Launch} {σ : eu_T} {r : Int32} {σ' : eu_T} {a1 : Int32} {a2 : Int32} {a3 : Int32}  (h : fX5_canBe σ a1 a2 a3 = some (r, σ')) : eu_KI l yX5_canBe (Cond.code yX5_canBe cX5_canBe 6 (some .boolean) :: eu_TB) ({ frames := 5, cells := 0, slots := 0, locals := 117 } : Room) 25 12 (fun ad => [.ref (ad 25), .int a1, .int a2, .int a3]) σ σ' r :=
  eu_KI_of (by decide) (by decide) rfl (fun _ => Nat.le_of_ble_eq_true rfl) (fun E C => wX5_canBe C h)
theorem cw_X5_fewestOf_X5_judges_140 {E : eu_E} (C : eu_C E ({ frames := 6, cells := 0, slots := 0, locals := 142 } : Room) 25 12 7 cX5_fewestOf RX5 (Cond.code yX5_fewestOf cX5_fewestOf 7 (some .int) :: eu_TB) (some .int)) : CallW (eu_R E) (eu_s E) (eu_a E) RX5 RX5 140 yX5_judges cX5_judges 4 none (Cond.code yX5_judges cX5_judges 4 none :: eu_TB) ({ frames := 2, cells := 0, slots := 0, locals := 45 } : Room) 0 0 2 := eu_cwV C tw_248 tw_249 tw_250 tw_5 tw_251 rfl rfl (by decide +kernel) (by decide)
theorem cw_X5_fewestOf_X5_isSo_177 {E : eu_E} (C : eu_C E ({ frames := 6, cells := 0, slots := 0, locals := 142 } : Room) 25 12 7 cX5_fewestOf RX5 (Cond.code yX5_fewestOf cX5_fewestOf 7 (some .int) :: eu_TB) (some .int)) : CallW (eu_R E) (eu_s E) (eu_a E) RX5 RX5 177 yX5_isSo cX5_isSo 6 (some .boolean) (Cond.code yX5_isSo cX5_isSo 6 (some .boolean) :: eu_TB) ({ frames := 4, cells := 0, slots := 0, locals := 92 } : Room) 0 0 3 := eu_cwV C tw_409 tw_410 tw_411 tw_5 tw_412 rfl rfl (by decide +kernel) (by decide)
theorem cw_X5_fewestOf_X5_adds_174 {E : eu_E} (C : eu_C E ({ frames := 6, cells := 0, slots := 0, locals := 142 } : Room) 25 12 7 cX5_fewestOf RX5 (Cond.code yX5_fewestOf cX5_fewestOf 7 (some .int) :: eu_TB) (some .int)) : CallW (eu_R E) (eu_s E) (eu_a E) RX5 RX5 174 yX5_adds cX5_adds 3 (some .boolean) (Cond.code yX5_adds cX5_adds 3 (some .boolean) :: eu_TB) ({ frames := 3, cells := 0, slots := 0, locals := 68 } : Room) 0 0 2 := eu_cwV C tw_413 tw_414 tw_415 tw_5 tw_416 rfl rfl (by decide +kernel) (by decide)
theorem cw_X5_fewestOf_X5_canBe_181 {E : eu_E} (C : eu_C E ({ frames := 6, cells := 0, slots := 0, locals := 142 } : Room) 25 12 7 cX5_fewestOf RX5 (Cond.code yX5_fewestOf cX5_fewestOf 7 (some .int) :: eu_TB) (some .int)) : CallW (eu_R E) (eu_s E) (eu_a E) RX5 RX5 181 yX5_canBe cX5_canBe 6 (some .boolean) (Cond.code yX5_canBe cX5_canBe 6 (some .boolean) :: eu_TB) ({ frames := 5, cells := 0, slots := 0, locals := 117 } : Room) 0 0 3 := eu_cwV C tw_417 tw_418 tw_419 tw_5 tw_420 rfl rfl (by decide +kernel) (by decide)
set_option maxHeartbeats 4000000 in
set_option maxRecDepth 100000 in
theorem wX5_fewestOf_J105 {E : eu_E} (C : eu_C E ({ frames := 6, cells := 0, slots := 0, locals := 142 } : Room) 25 12 7 cX5_fewestOf RX5 (Cond.code yX5_fewestOf cX5_fewestOf 7 (some .int) :: eu_TB) (some .int)) {r : Int32} {σ' : eu_T}   (σ : eu_T) (v4 : Int32) (v5 : Int32) (v6 : Int32)  (h : fX5_fewestOf_J105  σ v4 v5 v6 = some (r, σ')) : eu_G E 25 12 7 (eu_QI E 25 12 σ' r) σ 105 [(4, .int v4), (5, .int v5), (6, .int v6)] [] := by
  unfold fX5_fewestOf_J105 at h
  refine eg_iload C 0 dX5_fewestOf_105 rfl ?_
  refine eg_if_ne C 115 dX5_fewestOf_107 (by decide) (fun c => ?_) (fun c => ?_)
  · rw [if_neg c] at h
    refine eg_iload C 2 dX5_fewestOf_115 rfl ?_
    obtain ⟨rfl, rfl⟩ := eu_inj2 h
    exact eg_iret C rfl dX5_fewestOf_117
  · rw [if_pos c] at h
    refine eg_iload C 1 dX5_fewestOf_110 rfl ?_
    refine eg_goto C 117 dX5_fewestOf_112 (by decide) ?_
    obtain ⟨rfl, rfl⟩ := eu_inj2 h
    exact eg_iret C rfl dX5_fewestOf_117
set_option maxHeartbeats 4000000 in
set_option maxRecDepth 100000 in
theorem wX5_fewestOf_L45 {E : eu_E} (C : eu_C E ({ frames := 6, cells := 0, slots := 0, locals := 142 } : Room) 25 12 7 cX5_fewestOf RX5 (Cond.code yX5_fewestOf cX5_fewestOf 7 (some .int) :: eu_TB) (some .int)) {r : Int32} {σ' : eu_T} {k36 : eu_T → Int32 → Int32 → Int32 → Int32 → Int32 → Option (Int32 × eu_T)} (hk_36 : ∀ (σ : eu_T) (v1 : Int32) (v2 : Int32) (v3 : Int32) (v4 : Int32) (v5 : Int32), k36 σ v1 v2 v3 v4 v5 = some (r, σ') → eu_G E 25 12 7 (eu_QI E 25 12 σ' r) σ 36 [(0, .ref (eu_ad E 25)), (1, .int v1), (2, .int v2), (3, .int v3), (4, .int v4), (5, .int v5)] []) : ∀ (n : Nat) (σ : eu_T) (v1 : Int32) (v2 : Int32) (v3 : Int32) (v4 : Int32) (v5 : Int32) (v6 : Int32), fX5_fewestOf_L45 k36 n σ v1 v2 v3 v4 v5 v6 = some (r, σ') → eu_G E 25 12 7 (eu_QI E 25 12 σ' r) σ 45 [(0, .ref (eu_ad E 25)), (1, .int v1), (2, .int v2), (3, .int v3), (4, .int v4), (5, .int v5), (6, .int v6)] [] := by
  intro n
  induction n with
  | zero =>
    intro σ v1 v2 v3 v4 v5 v6  h
    rw [fX5_fewestOf_L45_z] at h
    cases h
  | succ n ih =>
    intro σ v1 v2 v3 v4 v5 v6  h
    rw [fX5_fewestOf_L45_s] at h
    refine eg_iload C 6 dX5_fewestOf_45 rfl ?_
    refine eg_sipush C (144 : Int32) dX5_fewestOf_47 (by decide) ?_
    refine eg_icmp_ge C 124 dX5_fewestOf_50 (by decide) (fun c => ?_) (fun c => ?_)
    · rw [if_pos c] at h
      refine eg_iinc C 5 (v5 + (1 : Int32)) [(5, .int (v5 + (1 : Int32))), (0, .ref (eu_ad E 25)), (1, .int v1), (2, .int v2), (3, .int v3), (4, .int v4), (6, .int v6)] dX5_fewestOf_124 rfl rfl (by decide) rfl ?_
      refine eg_goto C 36 dX5_fewestOf_127 (by decide) ?_
      refine eg_sub C [1, 2, 3, 4, 5, 0] rfl ?_
      exact hk_36 _ _ _ _ _ _ h
    · rw [if_neg c] at h
      refine eg_aload_n C 0 dX5_fewestOf_53 rfl ?_
      refine eg_aload_n C 0 dX5_fewestOf_54 rfl ?_
      refine gf_X5_108 C (by decide) dX5_fewestOf_55 ?_
      refine eg_iload C 6 dX5_fewestOf_58 rfl ?_
      obtain ⟨r4, σ5, hr4, h⟩ := eu_b2_some h
      refine eg_callI C (cw_X5_fewestOf_X5_adds_174 C) (av := [.int (σ 25 10), .int v6]) 25 (by decide) (kX5_adds hr4) rfl rfl rfl rfl (st := []) rfl (Nat.le_of_ble_eq_true rfl) dX5_fewestOf_60 ?_
      refine eg_if_eq C 118 dX5_fewestOf_63 (by decide) (fun c => ?_) (fun c => ?_)
      · rw [if_pos c] at h
        refine eg_iinc C 6 (v6 + (1 : Int32)) [(6, .int (v6 + (1 : Int32))), (0, .ref (eu_ad E 25)), (1, .int v1), (2, .int v2), (3, .int v3), (4, .int v4), (5, .int v5)] dX5_fewestOf_118 rfl rfl (by decide) rfl ?_
        refine eg_goto C 45 dX5_fewestOf_121 (by decide) ?_
        refine eg_sub C [1, 2, 3, 4, 5, 6, 0] rfl ?_
        exact ih _ _ _ _ _ _ _ h
      · rw [if_neg c] at h
        refine eg_iload C 5 dX5_fewestOf_66 rfl ?_
        refine eg_iconst C (1 : Int32) dX5_fewestOf_68 (by decide) ?_
        refine eg_icmp_ne C 90 dX5_fewestOf_69 (by decide) (fun c => ?_) (fun c => ?_)
        · rw [if_neg c] at h
          refine eg_aload_n C 0 dX5_fewestOf_90 rfl ?_
          refine eg_aload_n C 0 dX5_fewestOf_91 rfl ?_
          refine gf_X5_108 C (by decide) dX5_fewestOf_92 ?_
          refine eg_iconst C (1 : Int32) dX5_fewestOf_95 (by decide) ?_
          refine eg_iadd C dX5_fewestOf_96 ?_
          refine eg_iload_n C 1 dX5_fewestOf_97 rfl ?_
          refine eg_iload_n C 2 dX5_fewestOf_98 rfl ?_
          obtain ⟨r6, σ7, hr6, h⟩ := eu_b2_some h
          refine eg_callI C (cw_X5_fewestOf_X5_canBe_181 C) (av := [.int ((σ5 25 10) + (1 : Int32)), .int v1, .int v2]) 25 (by decide) (kX5_canBe hr6) rfl rfl rfl rfl (st := []) rfl (Nat.le_of_ble_eq_true rfl) dX5_fewestOf_99 ?_
          refine eg_if_eq C 118 dX5_fewestOf_102 (by decide) (fun c => ?_) (fun c => ?_)
          · rw [if_pos c] at h
            refine eg_iinc C 6 (v6 + (1 : Int32)) [(6, .int (v6 + (1 : Int32))), (0, .ref (eu_ad E 25)), (1, .int v1), (2, .int v2), (3, .int v3), (4, .int v4), (5, .int v5)] dX5_fewestOf_118 rfl rfl (by decide) rfl ?_
            refine eg_goto C 45 dX5_fewestOf_121 (by decide) ?_
            refine eg_sub C [1, 2, 3, 4, 5, 6, 0] rfl ?_
            exact ih _ _ _ _ _ _ _ h
          · rw [if_neg c] at h
            refine eg_sub C [4, 5, 6] rfl ?_
            exact wX5_fewestOf_J105 C _ _ _ _ h
        · rw [if_pos c] at h
          refine eg_aload_n C 0 dX5_fewestOf_72 rfl ?_
          refine eg_aload_n C 0 dX5_fewestOf_73 rfl ?_
          refine gf_X5_108 C (by decide) dX5_fewestOf_74 ?_
          refine eg_iconst C (1 : Int32) dX5_fewestOf_77 (by decide) ?_
          refine eg_iadd C dX5_fewestOf_78 ?_
          refine eg_iload_n C 1 dX5_fewestOf_79 rfl ?_
          refine eg_iload_n C 2 dX5_fewestOf_80 rfl ?_
          obtain ⟨r8, hr8, h⟩ := eu_bd_some h
          refine eg_callI C (cw_X5_fewestOf_X5_isSo_177 C) (av := [.int ((σ5 25 10) + (1 : Int32)), .int v1, .int v2]) 25 (by decide) (kX5_isSo hr8) rfl rfl rfl rfl (st := []) rfl (Nat.le_of_ble_eq_true rfl) dX5_fewestOf_81 ?_
          refine eg_if_eq C 118 dX5_fewestOf_84 (by decide) (fun c => ?_) (fun c => ?_)
          · rw [if_pos c] at h
            refine eg_iinc C 6 (v6 + (1 : Int32)) [(6, .int (v6 + (1 : Int32))), (0, .ref (eu_ad E 25)), (1, .int v1), (2, .int v2), (3, .int v3), (4, .int v4), (5, .int v5)] dX5_fewestOf_118 rfl rfl (by decide) rfl ?_
            refine eg_goto C 45 dX5_fewestOf_121 (by decide) ?_
            refine eg_sub C [1, 2, 3, 4, 5, 6, 0] rfl ?_
            exact ih _ _ _ _ _ _ _ h
          · rw [if_neg c] at h
            refine eg_goto C 105 dX5_fewestOf_87 (by decide) ?_
            refine eg_sub C [4, 5, 6] rfl ?_
            exact wX5_fewestOf_J105 C _ _ _ _ h
set_option maxHeartbeats 4000000 in
set_option maxRecDepth 100000 in
theorem wX5_fewestOf_L36 {E : eu_E} (C : eu_C E ({ frames := 6, cells := 0, slots := 0, locals := 142 } : Room) 25 12 7 cX5_fewestOf RX5 (Cond.code yX5_fewestOf cX5_fewestOf 7 (some .int) :: eu_TB) (some .int)) {r : Int32} {σ' : eu_T}   : ∀ (n : Nat) (σ : eu_T) (v1 : Int32) (v2 : Int32) (v3 : Int32) (v4 : Int32) (v5 : Int32), fX5_fewestOf_L36 n σ v1 v2 v3 v4 v5 = some (r, σ') → eu_G E 25 12 7 (eu_QI E 25 12 σ' r) σ 36 [(0, .ref (eu_ad E 25)), (1, .int v1), (2, .int v2), (3, .int v3), (4, .int v4), (5, .int v5)] [] := by
  intro n
  induction n with
  | zero =>
    intro σ v1 v2 v3 v4 v5  h
    rw [fX5_fewestOf_L36_z] at h
    cases h
  | succ n ih =>
    intro σ v1 v2 v3 v4 v5  h
    rw [fX5_fewestOf_L36_s] at h
    refine eg_iload C 5 dX5_fewestOf_36 rfl ?_
    refine eg_iload_n C 3 dX5_fewestOf_38 rfl ?_
    refine eg_icmp_gt C 130 dX5_fewestOf_39 (by decide) (fun c => ?_) (fun c => ?_)
    · rw [if_pos c] at h
      refine eg_iconst C (-1 : Int32) dX5_fewestOf_130 (by decide) ?_
      obtain ⟨rfl, rfl⟩ := eu_inj2 h
      exact eg_iret C rfl dX5_fewestOf_131
    · rw [if_neg c] at h
      refine eg_iconst C (0 : Int32) dX5_fewestOf_42 (by decide) ?_
      refine eg_istore C [(6, .int (0 : Int32)), (0, .ref (eu_ad E 25)), (1, .int v1), (2, .int v2), (3, .int v3), (4, .int v4), (5, .int v5)] dX5_fewestOf_43 (by decide) rfl ?_
      refine eg_sub C [1, 2, 3, 4, 5, 6, 0] rfl ?_
      exact wX5_fewestOf_L45 C ih 200 _ _ _ _ _ _ _ h
set_option maxHeartbeats 4000000 in
set_option maxRecDepth 100000 in
theorem wX5_fewestOf {E : eu_E} (C : eu_C E ({ frames := 6, cells := 0, slots := 0, locals := 142 } : Room) 25 12 7 cX5_fewestOf RX5 (Cond.code yX5_fewestOf cX5_fewestOf 7 (some .int) :: eu_TB) (some .int)) {σ : eu_T} {r : Int32} {σ' : eu_T} {a1 : Int32} {a2 : Int32} {a3 : Int32} {a4 : Int32}  (h : fX5_fewestOf σ a1 a2 a3 a4 = some (r, σ')) : eu_G E 25 12 7 (eu_QI E 25 12 σ' r) σ 0 [(0, .ref (eu_ad E 25)), (1, .int a1), (2, .int a2), (3, .int a3), (4, .int a4)] [] := by
  unfold fX5_fewestOf at h
  refine eg_aload_n C 0 dX5_fewestOf_0 rfl ?_
  refine eg_aload_n C 0 dX5_fewestOf_1 rfl ?_
  refine gf_X5_108 C (by decide) dX5_fewestOf_2 ?_
  refine eg_iconst C (-1 : Int32) dX5_fewestOf_5 (by decide) ?_
  obtain ⟨r1, σ2, hr1, h⟩ := eu_b2_some h
  refine eg_callV C (cw_X5_fewestOf_X5_judges_140 C) (av := [.int (σ 25 10), .int (-1 : Int32)]) 25 (by decide) (kX5_judges hr1) rfl rfl rfl rfl (st := []) rfl (Nat.le_of_ble_eq_true rfl) dX5_fewestOf_6 ?_
  refine eg_aload_n C 0 dX5_fewestOf_9 rfl ?_
  refine eg_aload_n C 0 dX5_fewestOf_10 rfl ?_
  refine gf_X5_108 C (by decide) dX5_fewestOf_11 ?_
  refine eg_iload_n C 1 dX5_fewestOf_14 rfl ?_
  refine eg_iload_n C 2 dX5_fewestOf_15 rfl ?_
  obtain ⟨r3, hr3, h⟩ := eu_bd_some h
  refine eg_callI C (cw_X5_fewestOf_X5_isSo_177 C) (av := [.int (σ2 25 10), .int a1, .int a2]) 25 (by decide) (kX5_isSo hr3) rfl rfl rfl rfl (st := []) rfl (Nat.le_of_ble_eq_true rfl) dX5_fewestOf_16 ?_
  refine eg_if_eq C 33 dX5_fewestOf_19 (by decide) (fun c => ?_) (fun c => ?_)
  · rw [if_pos c] at h
    refine eg_iconst C (1 : Int32) dX5_fewestOf_33 (by decide) ?_
    refine eg_istore C [(5, .int (1 : Int32)), (0, .ref (eu_ad E 25)), (1, .int a1), (2, .int a2), (3, .int a3), (4, .int a4)] dX5_fewestOf_34 (by decide) rfl ?_
    refine eg_sub C [1, 2, 3, 4, 5, 0] rfl ?_
    exact wX5_fewestOf_L36 C 200 _ _ _ _ _ _ h
  · rw [if_neg c] at h
    refine eg_iload C 4 dX5_fewestOf_22 rfl ?_
    refine eg_if_ne C 31 dX5_fewestOf_24 (by decide) (fun c => ?_) (fun c => ?_)
    · rw [if_neg c] at h
      refine eg_iconst C (-1 : Int32) dX5_fewestOf_31 (by decide) ?_
      obtain ⟨rfl, rfl⟩ := eu_inj2 h
      exact eg_iret C rfl dX5_fewestOf_32
    · rw [if_pos c] at h
      refine eg_iconst C (0 : Int32) dX5_fewestOf_27 (by decide) ?_
      refine eg_goto C 32 dX5_fewestOf_28 (by decide) ?_
      obtain ⟨rfl, rfl⟩ := eu_inj2 h
      exact eg_iret C rfl dX5_fewestOf_32
theorem kX5_fewestOf {l : Launch} {σ : eu_T} {r : Int32} {σ' : eu_T} {a1 : Int32} {a2 : Int32} {a3 : Int32} {a4 : Int32}  (h : fX5_fewestOf σ a1 a2 a3 a4 = some (r, σ')) : eu_KI l yX5_fewestOf (Cond.code yX5_fewestOf cX5_fewestOf 7 (some .int) :: eu_TB) ({ frames := 6, cells := 0, slots := 0, locals := 142 } : Room) 25 12 (fun ad => [.ref (ad 25), .int a1, .int a2, .int a3, .int a4]) σ σ' r :=
  eu_KI_of (by decide) (by decide) rfl (fun _ => Nat.le_of_ble_eq_true rfl) (fun E C => wX5_fewestOf C h)
theorem cw_X5_fewest_X5_reads_100 {E : eu_E} (C : eu_C E ({ frames := 7, cells := 0, slots := 0, locals := 168 } : Room) 25 12 6 cX5_fewest RX5 (Cond.code yX5_fewest cX5_fewest 6 (some .int) :: eu_TB) (some .int)) : CallW (eu_R E) (eu_s E) (eu_a E) RX5 RX5 100 yX5_reads cX5_reads 2 (some .int) (Cond.code yX5_reads cX5_reads 2 (some .int) :: eu_TB) ({ frames := 2, cells := 0, slots := 0, locals := 48 } : Room) 0 0 0 := eu_cwV C tw_131 tw_132 tw_133 tw_5 tw_134 rfl rfl (by decide +kernel) (by decide)
theorem cw_X5_fewest_X5_in_44 {E : eu_E} (C : eu_C E ({ frames := 7, cells := 0, slots := 0, locals := 168 } : Room) 25 12 6 cX5_fewest RX5 (Cond.code yX5_fewest cX5_fewest 6 (some .int) :: eu_TB) (some .int)) : CallB (eu_R E) (eu_s E) (eu_a E) RX5 44 yX5_in cX5_in 6 (some .boolean) (Cond.code yX5_in cX5_in 6 (some .boolean) :: eu_TB) ({ frames := 0, cells := 0, slots := 0, locals := 0 } : Room) 0 0 3 ∧ (Cond.static yX5_in).before (eu_a E) (eu_s E) = true := eu_cwS C tw_109 tw_110 tw_5 tw_111 rfl rfl (by decide +kernel) (by decide)
theorem cw_X5_fewest_X5_isTwo_156 {E : eu_E} (C : eu_C E ({ frames := 7, cells := 0, slots := 0, locals := 168 } : Room) 25 12 6 cX5_fewest RX5 (Cond.code yX5_fewest cX5_fewest 6 (some .int) :: eu_TB) (some .int)) : CallB (eu_R E) (eu_s E) (eu_a E) RX5 156 yX5_isTwo cX5_isTwo 1 (some .boolean) (Cond.code yX5_isTwo cX5_isTwo 1 (some .boolean) :: eu_TB) ({ frames := 1, cells := 0, slots := 0, locals := 25 } : Room) 0 0 1 ∧ (Cond.static yX5_isTwo).before (eu_a E) (eu_s E) = true := eu_cwS C tw_312 tw_313 tw_5 tw_314 rfl rfl (by decide +kernel) (by decide)
theorem cw_X5_fewest_X5_fewestOf_186 {E : eu_E} (C : eu_C E ({ frames := 7, cells := 0, slots := 0, locals := 168 } : Room) 25 12 6 cX5_fewest RX5 (Cond.code yX5_fewest cX5_fewest 6 (some .int) :: eu_TB) (some .int)) : CallW (eu_R E) (eu_s E) (eu_a E) RX5 RX5 186 yX5_fewestOf cX5_fewestOf 7 (some .int) (Cond.code yX5_fewestOf cX5_fewestOf 7 (some .int) :: eu_TB) ({ frames := 6, cells := 0, slots := 0, locals := 142 } : Room) 0 0 4 := eu_cwV C tw_405 tw_406 tw_407 tw_5 tw_408 rfl rfl (by decide +kernel) (by decide)
set_option maxHeartbeats 4000000 in
set_option maxRecDepth 100000 in
theorem wX5_fewest_J79 {E : eu_E} (C : eu_C E ({ frames := 7, cells := 0, slots := 0, locals := 168 } : Room) 25 12 6 cX5_fewest RX5 (Cond.code yX5_fewest cX5_fewest 6 (some .int) :: eu_TB) (some .int)) {r : Int32} {σ' : eu_T}   (σ : eu_T)  (h : fX5_fewest_J79  σ = some (r, σ')) : eu_G E 25 12 6 (eu_QI E 25 12 σ' r) σ 79 [] [] := by
  unfold fX5_fewest_J79 at h
  refine eg_bipush C (-2 : Int32) dX5_fewest_79 (by decide) ?_
  obtain ⟨rfl, rfl⟩ := eu_inj2 h
  exact eg_iret C rfl dX5_fewest_81
set_option maxHeartbeats 4000000 in
set_option maxRecDepth 100000 in
theorem wX5_fewest_J52 {E : eu_E} (C : eu_C E ({ frames := 7, cells := 0, slots := 0, locals := 168 } : Room) 25 12 6 cX5_fewest RX5 (Cond.code yX5_fewest cX5_fewest 6 (some .int) :: eu_TB) (some .int)) {r : Int32} {σ' : eu_T}   (σ : eu_T) (v1 : Int32) (v2 : Int32) (v3 : Int32) (v4 : Int32) (s0 : Int32)  (h : fX5_fewest_J52  σ v1 v2 v3 v4 s0 = some (r, σ')) : eu_G E 25 12 6 (eu_QI E 25 12 σ' r) σ 52 [(0, .ref (eu_ad E 25)), (1, .int v1), (2, .int v2), (3, .int v3), (4, .int v4)] [.int s0] := by
  unfold fX5_fewest_J52 at h
  refine eg_istore C [(5, .int s0), (0, .ref (eu_ad E 25)), (1, .int v1), (2, .int v2), (3, .int v3), (4, .int v4)] dX5_fewest_52 (by decide) rfl ?_
  refine eg_iload C 0 dX5_fewest_54 rfl ?_
  refine eg_if_eq C 79 dX5_fewest_56 (by decide) (fun c => ?_) (fun c => ?_)
  · rw [if_pos c] at h
    refine eg_sub C [] rfl ?_
    exact wX5_fewest_J79 C _ h
  · rw [if_neg c] at h
    refine eg_iload C 5 dX5_fewest_59 rfl ?_
    refine eg_scallI C (cw_X5_fewest_X5_isTwo_156 C) (av := [.int v4]) (kX5_isTwo rfl) rfl (st := []) rfl (Nat.le_of_ble_eq_true rfl) dX5_fewest_61 ?_
    refine eg_if_eq C 79 dX5_fewest_64 (by decide) (fun c => ?_) (fun c => ?_)
    · rw [if_pos c] at h
      refine eg_sub C [] rfl ?_
      exact wX5_fewest_J79 C _ h
    · rw [if_neg c] at h
      refine eg_aload_n C 1 dX5_fewest_67 rfl ?_
      refine eg_iload_n C 2 dX5_fewest_68 rfl ?_
      refine eg_iload_n C 3 dX5_fewest_69 rfl ?_
      refine eg_iload_n C 4 dX5_fewest_70 rfl ?_
      refine eg_iload C 5 dX5_fewest_71 rfl ?_
      obtain ⟨r3, σ4, hr3, h⟩ := eu_b2_some h
      refine eg_callI C (cw_X5_fewest_X5_fewestOf_186 C) (av := [.int v1, .int v2, .int v3, .int v4]) 25 (by decide) (kX5_fewestOf hr3) rfl rfl rfl rfl (st := []) rfl (Nat.le_of_ble_eq_true rfl) dX5_fewest_73 ?_
      refine eg_goto C 81 dX5_fewest_76 (by decide) ?_
      obtain ⟨rfl, rfl⟩ := eu_inj2 h
      exact eg_iret C rfl dX5_fewest_81
set_option maxHeartbeats 4000000 in
set_option maxRecDepth 100000 in
theorem wX5_fewest_J51 {E : eu_E} (C : eu_C E ({ frames := 7, cells := 0, slots := 0, locals := 168 } : Room) 25 12 6 cX5_fewest RX5 (Cond.code yX5_fewest cX5_fewest 6 (some .int) :: eu_TB) (some .int)) {r : Int32} {σ' : eu_T}   (σ : eu_T) (v1 : Int32) (v2 : Int32) (v3 : Int32) (v4 : Int32)  (h : fX5_fewest_J51  σ v1 v2 v3 v4 = some (r, σ')) : eu_G E 25 12 6 (eu_QI E 25 12 σ' r) σ 51 [(0, .ref (eu_ad E 25)), (1, .int v1), (2, .int v2), (3, .int v3), (4, .int v4)] [] := by
  unfold fX5_fewest_J51 at h
  refine eg_iconst C (0 : Int32) dX5_fewest_51 (by decide) ?_
  refine eg_sub C [0, 1, 2, 3, 4] rfl ?_
  exact wX5_fewest_J52 C _ _ _ _ _ _ h
set_option maxHeartbeats 4000000 in
set_option maxRecDepth 100000 in
theorem wX5_fewest {E : eu_E} (C : eu_C E ({ frames := 7, cells := 0, slots := 0, locals := 168 } : Room) 25 12 6 cX5_fewest RX5 (Cond.code yX5_fewest cX5_fewest 6 (some .int) :: eu_TB) (some .int)) {σ : eu_T} {r : Int32} {σ' : eu_T} {a1 : Int32} {a2 : Int32} {a3 : Int32} {a4 : Int32}  (h : fX5_fewest σ a1 a2 a3 a4 = some (r, σ')) : eu_G E 25 12 6 (eu_QI E 25 12 σ' r) σ 0 [(0, .ref (eu_ad E 25)), (1, .int a1), (2, .int a2), (3, .int a3), (4, .int a4)] [] := by
  unfold fX5_fewest at h
  refine eg_aload_n C 0 dX5_fewest_0 rfl ?_
  obtain ⟨r1, σ2, hr1, h⟩ := eu_b2_some h
  refine eg_callI C (cw_X5_fewest_X5_reads_100 C) (av := []) 25 (by decide) (kX5_reads hr1) rfl rfl rfl rfl (st := []) rfl (Nat.le_of_ble_eq_true rfl) dX5_fewest_1 ?_
  refine eg_pop C dX5_fewest_4 rfl ?_
  refine eg_iload_n C 1 dX5_fewest_5 rfl ?_
  refine eg_i2l C dX5_fewest_6 ?_
  refine eg_lconst C (0 : Int64) dX5_fewest_7 (by decide) ?_
  refine eg_ldc2 C (4095 : Int64) dX5_fewest_8 (List.mem_cons_of_mem _ tw_404) ?_
  refine eg_scallI C (cw_X5_fewest_X5_in_44 C) (av := [.long a1.toInt64, .long (0 : Int64), .long (4095 : Int64)]) (kX5_in rfl) rfl (st := []) rfl (Nat.le_of_ble_eq_true rfl) dX5_fewest_11 ?_
  refine eg_if_eq C 51 dX5_fewest_14 (by decide) (fun c => ?_) (fun c => ?_)
  · rw [if_pos c] at h
    refine eg_sub C [0, 1, 2, 3, 4] rfl ?_
    exact wX5_fewest_J51 C _ _ _ _ _ h
  · rw [if_neg c] at h
    refine eg_iload_n C 2 dX5_fewest_17 rfl ?_
    refine eg_i2l C dX5_fewest_18 ?_
    refine eg_lconst C (0 : Int64) dX5_fewest_19 (by decide) ?_
    refine eg_ldc2 C (4095 : Int64) dX5_fewest_20 (List.mem_cons_of_mem _ tw_404) ?_
    refine eg_scallI C (cw_X5_fewest_X5_in_44 C) (av := [.long a2.toInt64, .long (0 : Int64), .long (4095 : Int64)]) (kX5_in rfl) rfl (st := []) rfl (Nat.le_of_ble_eq_true rfl) dX5_fewest_23 ?_
    refine eg_if_eq C 51 dX5_fewest_26 (by decide) (fun c => ?_) (fun c => ?_)
    · rw [if_pos c] at h
      refine eg_sub C [0, 1, 2, 3, 4] rfl ?_
      exact wX5_fewest_J51 C _ _ _ _ _ h
    · rw [if_neg c] at h
      refine eg_iload_n C 1 dX5_fewest_29 rfl ?_
      refine eg_iload_n C 2 dX5_fewest_30 rfl ?_
      refine eg_iand C dX5_fewest_31 ?_
      refine eg_if_ne C 51 dX5_fewest_32 (by decide) (fun c => ?_) (fun c => ?_)
      · rw [if_neg c] at h
        refine eg_sub C [0, 1, 2, 3, 4] rfl ?_
        exact wX5_fewest_J51 C _ _ _ _ _ h
      · rw [if_pos c] at h
        refine eg_iload_n C 3 dX5_fewest_35 rfl ?_
        refine eg_i2l C dX5_fewest_36 ?_
        refine eg_lconst C (0 : Int64) dX5_fewest_37 (by decide) ?_
        refine eg_ldc2 C (2 : Int64) dX5_fewest_38 (List.mem_cons_of_mem _ tw_164) ?_
        refine eg_scallI C (cw_X5_fewest_X5_in_44 C) (av := [.long a3.toInt64, .long (0 : Int64), .long (2 : Int64)]) (kX5_in rfl) rfl (st := []) rfl (Nat.le_of_ble_eq_true rfl) dX5_fewest_41 ?_
        refine eg_if_eq C 51 dX5_fewest_44 (by decide) (fun c => ?_) (fun c => ?_)
        · rw [if_pos c] at h
          refine eg_sub C [0, 1, 2, 3, 4] rfl ?_
          exact wX5_fewest_J51 C _ _ _ _ _ h
        · rw [if_neg c] at h
          refine eg_iconst C (1 : Int32) dX5_fewest_47 (by decide) ?_
          refine eg_goto C 52 dX5_fewest_48 (by decide) ?_
          refine eg_sub C [0, 1, 2, 3, 4] rfl ?_
          exact wX5_fewest_J52 C _ _ _ _ _ _ h
theorem kX5_fewest {l : Launch} {σ : eu_T} {r : Int32} {σ' : eu_T} {a1 : Int32} {a2 : Int32} {a3 : Int32} {a4 : Int32}  (h : fX5_fewest σ a1 a2 a3 a4 = some (r, σ')) : eu_KI l yX5_fewest (Cond.code yX5_fewest cX5_fewest 6 (some .int) :: eu_TB) ({ frames := 7, cells := 0, slots := 0, locals := 168 } : Room) 25 12 (fun ad => [.ref (ad 25), .int a1, .int a2, .int a3, .int a4]) σ σ' r :=
  eu_KI_of (by decide) (by decide) rfl (fun _ => Nat.le_of_ble_eq_true rfl) (fun E C => wX5_fewest C h)
theorem cw_X5_afterAny_X5_adds_174 {E : eu_E} (C : eu_C E ({ frames := 4, cells := 0, slots := 0, locals := 92 } : Room) 25 12 5 cX5_afterAny RX5 (Cond.code yX5_afterAny cX5_afterAny 5 (some .int) :: eu_TB) (some .int)) : CallW (eu_R E) (eu_s E) (eu_a E) RX5 RX5 174 yX5_adds cX5_adds 3 (some .boolean) (Cond.code yX5_adds cX5_adds 3 (some .boolean) :: eu_TB) ({ frames := 3, cells := 0, slots := 0, locals := 68 } : Room) 0 0 2 := eu_cwV C tw_413 tw_414 tw_415 tw_5 tw_416 rfl rfl (by decide +kernel) (by decide)
theorem cw_X5_afterAny_X5_standing_153 {E : eu_E} (C : eu_C E ({ frames := 4, cells := 0, slots := 0, locals := 92 } : Room) 25 12 5 cX5_afterAny RX5 (Cond.code yX5_afterAny cX5_afterAny 5 (some .int) :: eu_TB) (some .int)) : CallW (eu_R E) (eu_s E) (eu_a E) RX5 RX5 153 yX5_standing cX5_standing 4 (some .int) (Cond.code yX5_standing cX5_standing 4 (some .int) :: eu_TB) ({ frames := 3, cells := 0, slots := 0, locals := 69 } : Room) 0 0 1 := eu_cwV C tw_319 tw_320 tw_321 tw_5 tw_322 rfl rfl (by decide +kernel) (by decide)
set_option maxHeartbeats 4000000 in
set_option maxRecDepth 100000 in
theorem wX5_afterAny_L5 {E : eu_E} (C : eu_C E ({ frames := 4, cells := 0, slots := 0, locals := 92 } : Room) 25 12 5 cX5_afterAny RX5 (Cond.code yX5_afterAny cX5_afterAny 5 (some .int) :: eu_TB) (some .int)) {r : Int32} {σ' : eu_T}   : ∀ (n : Nat) (σ : eu_T) (v1 : Int32) (v3 : Int32) (v4 : Int32), fX5_afterAny_L5 n σ v1 v3 v4 = some (r, σ') → eu_G E 25 12 5 (eu_QI E 25 12 σ' r) σ 5 [(0, .ref (eu_ad E 25)), (1, .int v1), (3, .int v3), (4, .int v4)] [] := by
  intro n
  induction n with
  | zero =>
    intro σ v1 v3 v4  h
    rw [fX5_afterAny_L5_z] at h
    cases h
  | succ n ih =>
    intro σ v1 v3 v4  h
    rw [fX5_afterAny_L5_s] at h
    refine eg_iload C 3 dX5_afterAny_5 rfl ?_
    refine eg_sipush C (144 : Int32) dX5_afterAny_7 (by decide) ?_
    refine eg_icmp_ge C 45 dX5_afterAny_10 (by decide) (fun c => ?_) (fun c => ?_)
    · rw [if_pos c] at h
      refine eg_iload_n C 2 dX5_afterAny_45 rfl ?_
      obtain ⟨rfl, rfl⟩ := eu_inj2 h
      exact eg_iret C rfl dX5_afterAny_46
    · rw [if_neg c] at h
      refine eg_iload_n C 2 dX5_afterAny_13 rfl ?_
      refine eg_aload_n C 0 dX5_afterAny_14 rfl ?_
      refine eg_iload_n C 1 dX5_afterAny_15 rfl ?_
      refine eg_iload C 3 dX5_afterAny_16 rfl ?_
      obtain ⟨r1, σ2, hr1, h⟩ := eu_b2_some h
      refine eg_callI C (cw_X5_afterAny_X5_adds_174 C) (av := [.int v1, .int v4]) 25 (by decide) (kX5_adds hr1) rfl rfl rfl rfl (st := [.int v3]) rfl (Nat.le_of_ble_eq_true rfl) dX5_afterAny_18 ?_
      refine eg_if_eq C 34 dX5_afterAny_21 (by decide) (fun c => ?_) (fun c => ?_)
      · rw [if_pos c] at h
        refine eg_sipush C (4095 : Int32) dX5_afterAny_34 (by decide) ?_
        refine eg_iand C dX5_afterAny_37 ?_
        refine eg_istore_n C [(3, .int (v3 &&& (4095 : Int32))), (0, .ref (eu_ad E 25)), (1, .int v1), (4, .int v4)] dX5_afterAny_38 rfl (by decide) rfl ?_
        refine eg_iinc C 3 (v4 + (1 : Int32)) [(4, .int (v4 + (1 : Int32))), (3, .int (v3 &&& (4095 : Int32))), (0, .ref (eu_ad E 25)), (1, .int v1)] dX5_afterAny_39 rfl rfl (by decide) rfl ?_
        refine eg_goto C 5 dX5_afterAny_42 (by decide) ?_
        refine eg_sub C [2, 3, 1, 0] rfl ?_
        exact ih _ _ _ _ h
      · rw [if_neg c] at h
        refine eg_aload_n C 0 dX5_afterAny_24 rfl ?_
        refine eg_iload_n C 1 dX5_afterAny_25 rfl ?_
        refine eg_iconst C (1 : Int32) dX5_afterAny_26 (by decide) ?_
        refine eg_iadd C dX5_afterAny_27 ?_
        obtain ⟨r3, hr3, h⟩ := eu_bd_some h
        refine eg_callI C (cw_X5_afterAny_X5_standing_153 C) (av := [.int (v1 + (1 : Int32))]) 25 (by decide) (kX5_standing hr3) rfl rfl rfl rfl (st := [.int v3]) rfl (Nat.le_of_ble_eq_true rfl) dX5_afterAny_28 ?_
        refine eg_goto C 37 dX5_afterAny_31 (by decide) ?_
        refine eg_iand C dX5_afterAny_37 ?_
        refine eg_istore_n C [(3, .int (v3 &&& r3)), (0, .ref (eu_ad E 25)), (1, .int v1), (4, .int v4)] dX5_afterAny_38 rfl (by decide) rfl ?_
        refine eg_iinc C 3 (v4 + (1 : Int32)) [(4, .int (v4 + (1 : Int32))), (3, .int (v3 &&& r3)), (0, .ref (eu_ad E 25)), (1, .int v1)] dX5_afterAny_39 rfl rfl (by decide) rfl ?_
        refine eg_goto C 5 dX5_afterAny_42 (by decide) ?_
        refine eg_sub C [2, 3, 1, 0] rfl ?_
        exact ih _ _ _ _ h
set_option maxHeartbeats 4000000 in
set_option maxRecDepth 100000 in
theorem wX5_afterAny {E : eu_E} (C : eu_C E ({ frames := 4, cells := 0, slots := 0, locals := 92 } : Room) 25 12 5 cX5_afterAny RX5 (Cond.code yX5_afterAny cX5_afterAny 5 (some .int) :: eu_TB) (some .int)) {σ : eu_T} {r : Int32} {σ' : eu_T} {a1 : Int32} {a2 : Int32}  (h : fX5_afterAny σ a1 a2 = some (r, σ')) : eu_G E 25 12 5 (eu_QI E 25 12 σ' r) σ 0 [(0, .ref (eu_ad E 25)), (1, .int a1), (2, .int a2)] [] := by
  unfold fX5_afterAny at h
  refine eg_iload_n C 2 dX5_afterAny_0 rfl ?_
  refine eg_istore_n C [(3, .int a2), (0, .ref (eu_ad E 25)), (1, .int a1), (2, .int a2)] dX5_afterAny_1 rfl (by decide) rfl ?_
  refine eg_iconst C (0 : Int32) dX5_afterAny_2 (by decide) ?_
  refine eg_istore C [(4, .int (0 : Int32)), (3, .int a2), (0, .ref (eu_ad E 25)), (1, .int a1), (2, .int a2)] dX5_afterAny_3 (by decide) rfl ?_
  refine eg_sub C [2, 3, 1, 0] rfl ?_
  exact wX5_afterAny_L5 C 200 _ _ _ _ h
theorem kX5_afterAny {l : Launch} {σ : eu_T} {r : Int32} {σ' : eu_T} {a1 : Int32} {a2 : Int32}  (h : fX5_afterAny σ a1 a2 = some (r, σ')) : eu_KI l yX5_afterAny (Cond.code yX5_afterAny cX5_afterAny 5 (some .int) :: eu_TB) ({ frames := 4, cells := 0, slots := 0, locals := 92 } : Room) 25 12 (fun ad => [.ref (ad 25), .int a1, .int a2]) σ σ' r :=
  eu_KI_of (by decide) (by decide) rfl (fun _ => Nat.le_of_ble_eq_true rfl) (fun E C => wX5_afterAny C h)
theorem cw_X5_safeOf_X5_stateOf_159 {E : eu_E} (C : eu_C E ({ frames := 5, cells := 0, slots := 0, locals := 116 } : Room) 25 12 4 cX5_safeOf RX5 (Cond.code yX5_safeOf cX5_safeOf 4 (some .int) :: eu_TB) (some .int)) : CallW (eu_R E) (eu_s E) (eu_a E) RX5 RX5 159 yX5_stateOf cX5_stateOf 3 (some .int) (Cond.code yX5_stateOf cX5_stateOf 3 (some .int) :: eu_TB) ({ frames := 4, cells := 0, slots := 0, locals := 92 } : Room) 0 0 2 := eu_cwV C tw_315 tw_316 tw_317 tw_5 tw_318 rfl rfl (by decide +kernel) (by decide)
theorem cw_X5_safeOf_X5_afterAny_190 {E : eu_E} (C : eu_C E ({ frames := 5, cells := 0, slots := 0, locals := 116 } : Room) 25 12 4 cX5_safeOf RX5 (Cond.code yX5_safeOf cX5_safeOf 4 (some .int) :: eu_TB) (some .int)) : CallW (eu_R E) (eu_s E) (eu_a E) RX5 RX5 190 yX5_afterAny cX5_afterAny 5 (some .int) (Cond.code yX5_afterAny cX5_afterAny 5 (some .int) :: eu_TB) ({ frames := 4, cells := 0, slots := 0, locals := 92 } : Room) 0 0 2 := eu_cwV C tw_436 tw_437 tw_438 tw_5 tw_439 rfl rfl (by decide +kernel) (by decide)
theorem cw_X5_safeOf_X5_adds_174 {E : eu_E} (C : eu_C E ({ frames := 5, cells := 0, slots := 0, locals := 116 } : Room) 25 12 4 cX5_safeOf RX5 (Cond.code yX5_safeOf cX5_safeOf 4 (some .int) :: eu_TB) (some .int)) : CallW (eu_R E) (eu_s E) (eu_a E) RX5 RX5 174 yX5_adds cX5_adds 3 (some .boolean) (Cond.code yX5_adds cX5_adds 3 (some .boolean) :: eu_TB) ({ frames := 3, cells := 0, slots := 0, locals := 68 } : Room) 0 0 2 := eu_cwV C tw_413 tw_414 tw_415 tw_5 tw_416 rfl rfl (by decide +kernel) (by decide)
set_option maxHeartbeats 4000000 in
set_option maxRecDepth 100000 in
theorem wX5_safeOf_L26 {E : eu_E} (C : eu_C E ({ frames := 5, cells := 0, slots := 0, locals := 116 } : Room) 25 12 4 cX5_safeOf RX5 (Cond.code yX5_safeOf cX5_safeOf 4 (some .int) :: eu_TB) (some .int)) {r : Int32} {σ' : eu_T}   : ∀ (n : Nat) (σ : eu_T) (v1 : Int32) (v2 : Int32) (v3 : Int32), fX5_safeOf_L26 n σ v1 v2 v3 = some (r, σ') → eu_G E 25 12 4 (eu_QI E 25 12 σ' r) σ 26 [(0, .ref (eu_ad E 25)), (1, .int v1), (2, .int v2), (3, .int v3)] [] := by
  intro n
  induction n with
  | zero =>
    intro σ v1 v2 v3  h
    rw [fX5_safeOf_L26_z] at h
    cases h
  | succ n ih =>
    intro σ v1 v2 v3  h
    rw [fX5_safeOf_L26_s] at h
    refine eg_iload_n C 3 dX5_safeOf_26 rfl ?_
    refine eg_sipush C (144 : Int32) dX5_safeOf_27 (by decide) ?_
    refine eg_icmp_ge C 68 dX5_safeOf_30 (by decide) (fun c => ?_) (fun c => ?_)
    · rw [if_pos c] at h
      refine eg_iload_n C 2 dX5_safeOf_68 rfl ?_
      obtain ⟨rfl, rfl⟩ := eu_inj2 h
      exact eg_iret C rfl dX5_safeOf_69
    · rw [if_neg c] at h
      refine eg_iload_n C 1 dX5_safeOf_33 rfl ?_
      refine eg_iconst C (1 : Int32) dX5_safeOf_34 (by decide) ?_
      refine eg_icmp_le C 68 dX5_safeOf_35 (by decide) (fun c => ?_) (fun c => ?_)
      · rw [if_pos c] at h
        refine eg_iload_n C 2 dX5_safeOf_68 rfl ?_
        obtain ⟨rfl, rfl⟩ := eu_inj2 h
        exact eg_iret C rfl dX5_safeOf_69
      · rw [if_neg c] at h
        refine eg_aload_n C 0 dX5_safeOf_38 rfl ?_
        refine eg_aload_n C 0 dX5_safeOf_39 rfl ?_
        refine gf_X5_108 C (by decide) dX5_safeOf_40 ?_
        refine eg_iload_n C 3 dX5_safeOf_43 rfl ?_
        obtain ⟨r5, σ6, hr5, h⟩ := eu_b2_some h
        refine eg_callI C (cw_X5_safeOf_X5_adds_174 C) (av := [.int (σ 25 10), .int v3]) 25 (by decide) (kX5_adds hr5) rfl rfl rfl rfl (st := []) rfl (Nat.le_of_ble_eq_true rfl) dX5_safeOf_44 ?_
        refine eg_if_eq C 62 dX5_safeOf_47 (by decide) (fun c => ?_) (fun c => ?_)
        · rw [if_pos c] at h
          refine eg_iinc C 3 (v3 + (1 : Int32)) [(3, .int (v3 + (1 : Int32))), (0, .ref (eu_ad E 25)), (1, .int v1), (2, .int v2)] dX5_safeOf_62 rfl rfl (by decide) rfl ?_
          refine eg_goto C 26 dX5_safeOf_65 (by decide) ?_
          refine eg_sub C [1, 2, 3, 0] rfl ?_
          exact ih _ _ _ _ h
        · rw [if_neg c] at h
          refine eg_aload_n C 0 dX5_safeOf_50 rfl ?_
          refine eg_aload_n C 0 dX5_safeOf_51 rfl ?_
          refine gf_X5_108 C (by decide) dX5_safeOf_52 ?_
          refine eg_iconst C (1 : Int32) dX5_safeOf_55 (by decide) ?_
          refine eg_iadd C dX5_safeOf_56 ?_
          refine eg_iload_n C 2 dX5_safeOf_57 rfl ?_
          obtain ⟨r7, σ8, hr7, h⟩ := eu_b2_some h
          refine eg_callI C (cw_X5_safeOf_X5_afterAny_190 C) (av := [.int ((σ6 25 10) + (1 : Int32)), .int v2]) 25 (by decide) (kX5_afterAny hr7) rfl rfl rfl rfl (st := []) rfl (Nat.le_of_ble_eq_true rfl) dX5_safeOf_58 ?_
          refine eg_istore_n C [(2, .int r7), (0, .ref (eu_ad E 25)), (1, .int v1), (3, .int v3)] dX5_safeOf_61 rfl (by decide) rfl ?_
          refine eg_iinc C 3 (v3 + (1 : Int32)) [(3, .int (v3 + (1 : Int32))), (2, .int r7), (0, .ref (eu_ad E 25)), (1, .int v1)] dX5_safeOf_62 rfl rfl (by decide) rfl ?_
          refine eg_goto C 26 dX5_safeOf_65 (by decide) ?_
          refine eg_sub C [2, 3, 1, 0] rfl ?_
          exact ih _ _ _ _ h
set_option maxHeartbeats 4000000 in
set_option maxRecDepth 100000 in
theorem wX5_safeOf {E : eu_E} (C : eu_C E ({ frames := 5, cells := 0, slots := 0, locals := 116 } : Room) 25 12 4 cX5_safeOf RX5 (Cond.code yX5_safeOf cX5_safeOf 4 (some .int) :: eu_TB) (some .int)) {σ : eu_T} {r : Int32} {σ' : eu_T} {a1 : Int32}  (h : fX5_safeOf σ a1 = some (r, σ')) : eu_G E 25 12 4 (eu_QI E 25 12 σ' r) σ 0 [(0, .ref (eu_ad E 25)), (1, .int a1)] [] := by
  unfold fX5_safeOf at h
  refine eg_aload_n C 0 dX5_safeOf_0 rfl ?_
  refine eg_aload_n C 0 dX5_safeOf_1 rfl ?_
  refine gf_X5_108 C (by decide) dX5_safeOf_2 ?_
  refine eg_iconst C (0 : Int32) dX5_safeOf_5 (by decide) ?_
  obtain ⟨r1, σ2, hr1, h⟩ := eu_b2_some h
  refine eg_callI C (cw_X5_safeOf_X5_stateOf_159 C) (av := [.int (σ 25 10), .int (0 : Int32)]) 25 (by decide) (kX5_stateOf hr1) rfl rfl rfl rfl (st := []) rfl (Nat.le_of_ble_eq_true rfl) dX5_safeOf_6 ?_
  refine eg_istore_n C [(2, .int r1), (0, .ref (eu_ad E 25)), (1, .int a1)] dX5_safeOf_9 rfl (by decide) rfl ?_
  refine eg_iload_n C 2 dX5_safeOf_10 rfl ?_
  refine eg_if_le C 24 dX5_safeOf_11 (by decide) (fun c => ?_) (fun c => ?_)
  · rw [if_pos c] at h
    refine eg_iconst C (0 : Int32) dX5_safeOf_24 (by decide) ?_
    refine eg_istore_n C [(3, .int (0 : Int32)), (2, .int r1), (0, .ref (eu_ad E 25)), (1, .int a1)] dX5_safeOf_25 rfl (by decide) rfl ?_
    refine eg_sub C [2, 3, 1, 0] rfl ?_
    exact wX5_safeOf_L26 C 200 _ _ _ _ h
  · rw [if_neg c] at h
    refine eg_aload_n C 1 dX5_safeOf_14 rfl ?_
    refine eg_aload_n C 1 dX5_safeOf_15 rfl ?_
    refine gf_X5_108 C (by decide) dX5_safeOf_16 ?_
    refine eg_iload_n C 0 dX5_safeOf_19 rfl ?_
    obtain ⟨r3, σ4, hr3, h⟩ := eu_b2_some h
    refine eg_callI C (cw_X5_safeOf_X5_afterAny_190 C) (av := [.int (σ2 25 10), .int r1]) 25 (by decide) (kX5_afterAny hr3) rfl rfl rfl rfl (st := []) rfl (Nat.le_of_ble_eq_true rfl) dX5_safeOf_20 ?_
    refine eg_istore_n C [(2, .int r3), (0, .ref (eu_ad E 25)), (1, .int a1)] dX5_safeOf_23 rfl (by decide) rfl ?_
    refine eg_iconst C (0 : Int32) dX5_safeOf_24 (by decide) ?_
    refine eg_istore_n C [(3, .int (0 : Int32)), (2, .int r3), (0, .ref (eu_ad E 25)), (1, .int a1)] dX5_safeOf_25 rfl (by decide) rfl ?_
    refine eg_sub C [2, 3, 1, 0] rfl ?_
    exact wX5_safeOf_L26 C 200 _ _ _ _ h
theorem kX5_safeOf {l : Launch} {σ : eu_T} {r : Int32} {σ' : eu_T} {a1 : Int32}  (h : fX5_safeOf σ a1 = some (r, σ')) : eu_KI l yX5_safeOf (Cond.code yX5_safeOf cX5_safeOf 4 (some .int) :: eu_TB) ({ frames := 5, cells := 0, slots := 0, locals := 116 } : Room) 25 12 (fun ad => [.ref (ad 25), .int a1]) σ σ' r :=
  eu_KI_of (by decide) (by decide) rfl (fun _ => Nat.le_of_ble_eq_true rfl) (fun E C => wX5_safeOf C h)
