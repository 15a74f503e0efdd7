theorem cw_X4_leastOf_X4_bitOf_72 {E : eu_E} (C : eu_C E ({ frames := 1, cells := 0, slots := 0, locals := 21 } : Room) 0 25 2 cX4_leastOf RX4 (Cond.code yX4_leastOf cX4_leastOf 2 (some .int) :: eu_TB) (some .int)) : CallB (eu_R E) (eu_s E) (eu_a E) RX4 72 yX4_bitOf cX4_bitOf 2 (some .int) (Cond.code yX4_bitOf cX4_bitOf 2 (some .int) :: eu_TB) ({ frames := 0, cells := 0, slots := 0, locals := 0 } : Room) 0 0 2 ∧ (Cond.static yX4_bitOf).before (eu_a E) (eu_s E) = true := eu_cwS C tw_157 tw_158 tw_2 tw_159 rfl rfl (by decide +kernel) (by decide)
set_option maxHeartbeats 4000000 in
set_option maxRecDepth 100000 in
theorem wX4_leastOf_L2 {E : eu_E} (C : eu_C E ({ frames := 1, cells := 0, slots := 0, locals := 21 } : Room) 0 25 2 cX4_leastOf RX4 (Cond.code yX4_leastOf cX4_leastOf 2 (some .int) :: eu_TB) (some .int)) {σ : eu_T} {r : Int32}   : ∀ (n : Nat) (v0 : Int32) (v1 : Int32), fX4_leastOf_L2 n v0 v1 = some r → eu_G E 0 25 2 (eu_QI E 0 25 σ r) σ 2 [(0, .int v0), (1, .int v1)] [] := by
  intro n
  induction n with
  | zero =>
    intro v0 v1  h
    rw [fX4_leastOf_L2_z] at h
    cases h
  | succ n ih =>
    intro v0 v1  h
    rw [fX4_leastOf_L2_s] at h
    refine eg_iload_n C 1 dX4_leastOf_2 rfl ?_
    refine eg_bipush C (12 : Int32) dX4_leastOf_3 (by decide) ?_
    refine eg_icmp_ge C 25 dX4_leastOf_5 (by decide) (fun c => ?_) (fun c => ?_)
    · rw [if_pos c] at h
      refine eg_iconst C (-1 : Int32) dX4_leastOf_25 (by decide) ?_
      obtain rfl := Option.some.inj h
      exact eg_iret C rfl dX4_leastOf_26
    · rw [if_neg c] at h
      refine eg_iload_n C 0 dX4_leastOf_8 rfl ?_
      refine eg_iload_n C 1 dX4_leastOf_9 rfl ?_
      refine eg_scallI C (cw_X4_leastOf_X4_bitOf_72 C) (av := [.int v0, .int v1]) (kX4_bitOf rfl) rfl (st := []) rfl (Nat.le_of_ble_eq_true rfl) dX4_leastOf_10 ?_
      refine eg_iconst C (1 : Int32) dX4_leastOf_13 (by decide) ?_
      refine eg_icmp_ne C 19 dX4_leastOf_14 (by decide) (fun c => ?_) (fun c => ?_)
      · rw [if_neg c] at h
        refine eg_iinc C 1 (v1 + (1 : Int32)) [(1, .int (v1 + (1 : Int32))), (0, .int v0)] dX4_leastOf_19 rfl rfl (by decide) rfl ?_
        refine eg_goto C 2 dX4_leastOf_22 (by decide) ?_
        refine eg_sub C [1, 0] rfl ?_
        exact ih _ _ h
      · rw [if_pos c] at h
        refine eg_iload_n C 1 dX4_leastOf_17 rfl ?_
        obtain rfl := Option.some.inj h
        exact eg_iret C rfl dX4_leastOf_18
set_option maxHeartbeats 4000000 in
set_option maxRecDepth 100000 in
theorem wX4_leastOf {E : eu_E} (C : eu_C E ({ frames := 1, cells := 0, slots := 0, locals := 21 } : Room) 0 25 2 cX4_leastOf RX4 (Cond.code yX4_leastOf cX4_leastOf 2 (some .int) :: eu_TB) (some .int)) {σ : eu_T} {r : Int32} {a0 : Int32}  (h : fX4_leastOf a0 = some r) : eu_G E 0 25 2 (eu_QI E 0 25 σ r) σ 0 [(0, .int a0)] [] := by
  unfold fX4_leastOf at h
  refine eg_iconst C (0 : Int32) dX4_leastOf_0 (by decide) ?_
  refine eg_istore_n C [(1, .int (0 : Int32)), (0, .int a0)] dX4_leastOf_1 rfl (by decide) rfl ?_
  refine eg_sub C [1, 0] rfl ?_
  exact wX4_leastOf_L2 C 200 _ _ h
theorem kX4_leastOf {l : Launch} {σ : eu_T} {r : Int32} {a0 : Int32}  (h : fX4_leastOf a0 = some r) : eu_KI l yX4_leastOf (Cond.code yX4_leastOf cX4_leastOf 2 (some .int) :: eu_TB) ({ frames := 1, cells := 0, slots := 0, locals := 21 } : Room) 0 25 (fun _ => [.int a0]) σ σ r :=
  eu_KI_of (by decide) (by decide) rfl (fun _ => Nat.le_of_ble_eq_true rfl) (fun E C => wX4_leastOf C h)
theorem cw_X4_without_X4_isBelow_39 {E : eu_E} (C : eu_C E ({ frames := 4, cells := 0, slots := 0, locals := 92 } : Room) 0 25 4 cX4_without RX4 (Cond.code yX4_without cX4_without 4 (some .int) :: eu_TB) (some .int)) : CallB (eu_R E) (eu_s E) (eu_a E) RX4 39 yX4_isBelow cX4_isBelow 2 (some .boolean) (Cond.code yX4_isBelow cX4_isBelow 2 (some .boolean) :: eu_TB) ({ frames := 0, cells := 0, slots := 0, locals := 0 } : Room) 0 0 2 ∧ (Cond.static yX4_isBelow).before (eu_a E) (eu_s E) = true := eu_cwS C tw_75 tw_76 tw_2 tw_77 rfl rfl (by decide +kernel) (by decide)
theorem cw_X4_without_X3_lawful_97 {E : eu_E} (C : eu_C E ({ frames := 4, cells := 0, slots := 0, locals := 92 } : Room) 0 25 4 cX4_without RX4 (Cond.code yX4_without cX4_without 4 (some .int) :: eu_TB) (some .int)) : va_CN (eu_R E) (eu_s E) (eu_a E) RX4 97 yX3_lawful "EachUndoes" cX3_lawful 7 (some .int) (Cond.code yX3_lawful cX3_lawful 7 (some .int) :: eu_TB) ({ frames := 1, cells := 0, slots := 0, locals := 24 } : Room) 0 0 1 ∧ (Cond.instanceMethod yX3_lawful).before (eu_a E) (eu_s E) = true ∧ (Cond.selects RX3 yX3_lawful yX3_lawful).before (eu_a E) (eu_s E) = true := eu_cnV C (List.mem_of_getElem? (i := 30) rfl) tw_232 tw_233 tw_28 tw_234 rfl rfl (by decide +kernel) (by decide)
theorem cw_X4_without_X3_standing_118 {E : eu_E} (C : eu_C E ({ frames := 4, cells := 0, slots := 0, locals := 92 } : Room) 0 25 4 cX4_without RX4 (Cond.code yX4_without cX4_without 4 (some .int) :: eu_TB) (some .int)) : va_CN (eu_R E) (eu_s E) (eu_a E) RX4 118 yX3_standing "EachUndoes" cX3_standing 2 (some .int) (Cond.code yX3_standing cX3_standing 2 (some .int) :: eu_TB) ({ frames := 2, cells := 0, slots := 0, locals := 48 } : Room) 0 0 1 ∧ (Cond.instanceMethod yX3_standing).before (eu_a E) (eu_s E) = true ∧ (Cond.selects RX3 yX3_standing yX3_standing).before (eu_a E) (eu_s E) = true := eu_cnV C (List.mem_of_getElem? (i := 35) rfl) tw_290 tw_291 tw_28 tw_292 rfl rfl (by decide +kernel) (by decide)
theorem cw_X4_without_X4_standingBehind_103 {E : eu_E} (C : eu_C E ({ frames := 4, cells := 0, slots := 0, locals := 92 } : Room) 0 25 4 cX4_without RX4 (Cond.code yX4_without cX4_without 4 (some .int) :: eu_TB) (some .int)) : CallW (eu_R E) (eu_s E) (eu_a E) RX4 RX4 103 yX4_standingBehind cX4_standingBehind 2 (some .int) (Cond.code yX4_standingBehind cX4_standingBehind 2 (some .int) :: eu_TB) ({ frames := 3, cells := 0, slots := 0, locals := 71 } : Room) 0 0 1 := eu_cwV C tw_280 tw_281 tw_282 tw_2 tw_283 rfl rfl (by decide +kernel) (by decide)
theorem cw_X4_without_X4_leastOf_121 {E : eu_E} (C : eu_C E ({ frames := 4, cells := 0, slots := 0, locals := 92 } : Room) 0 25 4 cX4_without RX4 (Cond.code yX4_without cX4_without 4 (some .int) :: eu_TB) (some .int)) : CallB (eu_R E) (eu_s E) (eu_a E) RX4 121 yX4_leastOf cX4_leastOf 2 (some .int) (Cond.code yX4_leastOf cX4_leastOf 2 (some .int) :: eu_TB) ({ frames := 1, cells := 0, slots := 0, locals := 21 } : Room) 0 0 1 ∧ (Cond.static yX4_leastOf).before (eu_a E) (eu_s E) = true := eu_cwS C tw_358 tw_359 tw_2 tw_360 rfl rfl (by decide +kernel) (by decide)
set_option maxHeartbeats 4000000 in
set_option maxRecDepth 100000 in
theorem wX4_without {E : eu_E} (C : eu_C E ({ frames := 4, cells := 0, slots := 0, locals := 92 } : Room) 0 25 4 cX4_without RX4 (Cond.code yX4_without cX4_without 4 (some .int) :: eu_TB) (some .int)) {σ : eu_T} {r : Int32} {a1 : Int32} {a2 : Int32}  (h : fX4_without σ a1 a2 = some r) : eu_G E 0 25 4 (eu_QI E 0 25 σ r) σ 0 [(0, .ref (eu_ad E 0)), (1, .int a1), (2, .int a2)] [] := by
  unfold fX4_without at h
  refine eg_iload_n C 1 dX4_without_0 rfl ?_
  refine eg_aload_n C 0 dX4_without_1 rfl ?_
  refine gf_X4_20 C (by decide) dX4_without_2 ?_
  refine gf_X4_79 C (by decide) dX4_without_5 ?_
  refine eg_scallI C (cw_X4_without_X4_isBelow_39 C) (av := [.int a1, .int (σ 2 3)]) (kX4_isBelow rfl) rfl (st := []) rfl (Nat.le_of_ble_eq_true rfl) dX4_without_8 ?_
  refine eg_if_eq C 22 dX4_without_11 (by decide) (fun c => ?_) (fun c => ?_)
  · rw [if_pos c] at h
    refine eg_bipush C (-2 : Int32) dX4_without_22 (by decide) ?_
    obtain rfl := Option.some.inj h
    exact eg_iret C rfl dX4_without_24
  · rw [if_neg c] at h
    refine eg_iload_n C 2 dX4_without_14 rfl ?_
    refine eg_iconst C (2 : Int32) dX4_without_15 (by decide) ?_
    refine eg_scallI C (cw_X4_without_X4_isBelow_39 C) (av := [.int a2, .int (2 : Int32)]) (kX4_isBelow rfl) rfl (st := []) rfl (Nat.le_of_ble_eq_true rfl) dX4_without_16 ?_
    refine eg_if_ne C 25 dX4_without_19 (by decide) (fun c => ?_) (fun c => ?_)
    · rw [if_neg c] at h
      refine eg_aload_n C 0 dX4_without_25 rfl ?_
      refine gf_X4_20 C (by decide) dX4_without_26 ?_
      refine eg_aload_n C 0 dX4_without_29 rfl ?_
      refine gf_X4_20 C (by decide) dX4_without_30 ?_
      refine eg_iload_n C 1 dX4_without_33 rfl ?_
      obtain ⟨r1, hr1, h⟩ := eu_bd_some h
      refine eg_callNI C (cw_X4_without_X3_lawful_97 C) (av := [.int a1]) 2 (by decide) (kX3_lawful hr1) rfl rfl rfl rfl (st := [.ref (eu_ad E 2)]) rfl (Nat.le_of_ble_eq_true rfl) dX4_without_34 ?_
      obtain ⟨r2, hr2, h⟩ := eu_bd_some h
      refine eg_callNI C (cw_X4_without_X3_standing_118 C) (av := [.int r1]) 2 (by decide) (kX3_standing hr2) rfl rfl rfl rfl (st := []) rfl (Nat.le_of_ble_eq_true rfl) dX4_without_37 ?_
      refine eg_istore_n C [(3, .int r2), (0, .ref (eu_ad E 0)), (1, .int a1), (2, .int a2)] dX4_without_40 rfl (by decide) rfl ?_
      refine eg_iload_n C 3 dX4_without_41 rfl ?_
      refine eg_if_ne C 49 dX4_without_42 (by decide) (fun c => ?_) (fun c => ?_)
      · rw [if_neg c] at h
        refine eg_iload_n C 0 dX4_without_49 rfl ?_
        refine eg_aload_n C 1 dX4_without_50 rfl ?_
        refine eg_aload_n C 1 dX4_without_51 rfl ?_
        refine gf_X4_20 C (by decide) dX4_without_52 ?_
        refine gf_X4_79 C (by decide) dX4_without_55 ?_
        obtain ⟨r3, hr3, h⟩ := eu_bd_some h
        refine eg_callI C (cw_X4_without_X4_standingBehind_103 C) (av := [.int (σ 2 3)]) 0 (by decide) (kX4_standingBehind hr3) rfl rfl rfl rfl (st := [.int r2]) rfl (Nat.le_of_ble_eq_true rfl) dX4_without_58 ?_
        refine eg_ixor C dX4_without_61 ?_
        obtain ⟨r4, hr4, h⟩ := eu_bd_some h
        refine eg_scallI C (cw_X4_without_X4_leastOf_121 C) (av := [.int (r2 ^^^ r3)]) (kX4_leastOf hr4) rfl (st := []) rfl (Nat.le_of_ble_eq_true rfl) dX4_without_62 ?_
        obtain rfl := Option.some.inj h
        exact eg_iret C rfl dX4_without_65
      · rw [if_pos c] at h
        refine eg_iload_n C 0 dX4_without_45 rfl ?_
        refine eg_goto C 65 dX4_without_46 (by decide) ?_
        obtain rfl := Option.some.inj h
        exact eg_iret C rfl dX4_without_65
    · rw [if_pos c] at h
      refine eg_bipush C (-2 : Int32) dX4_without_22 (by decide) ?_
      obtain rfl := Option.some.inj h
      exact eg_iret C rfl dX4_without_24
theorem kX4_without {l : Launch} {σ : eu_T} {r : Int32} {a1 : Int32} {a2 : Int32}  (h : fX4_without σ a1 a2 = some r) : eu_KI l yX4_without (Cond.code yX4_without cX4_without 4 (some .int) :: eu_TB) ({ frames := 4, cells := 0, slots := 0, locals := 92 } : Room) 0 25 (fun ad => [.ref (ad 0), .int a1, .int a2]) σ σ r :=
  eu_KI_of (by decide) (by decide) rfl (fun _ => Nat.le_of_ble_eq_true rfl) (fun E C => wX4_without C h)
theorem cw_X4_fewest_X4_isBelow_39 {E : eu_E} (C : eu_C E ({ frames := 4, cells := 0, slots := 0, locals := 103 } : Room) 0 25 7 cX4_fewest RX4 (Cond.code yX4_fewest cX4_fewest 7 (some .int) :: eu_TB) (some .int)) : CallB (eu_R E) (eu_s E) (eu_a E) RX4 39 yX4_isBelow cX4_isBelow 2 (some .boolean) (Cond.code yX4_isBelow cX4_isBelow 2 (some .boolean) :: eu_TB) ({ frames := 0, cells := 0, slots := 0, locals := 0 } : Room) 0 0 2 ∧ (Cond.static yX4_isBelow).before (eu_a E) (eu_s E) = true := eu_cwS C tw_75 tw_76 tw_2 tw_77 rfl rfl (by decide +kernel) (by decide)
theorem cw_X4_fewest_X1_renew_124 {E : eu_E} (C : eu_C E ({ frames := 4, cells := 0, slots := 0, locals := 103 } : Room) 0 25 7 cX4_fewest RX4 (Cond.code yX4_fewest cX4_fewest 7 (some .int) :: eu_TB) (some .int)) : va_CN (eu_R E) (eu_s E) (eu_a E) RX4 124 yX1_renew "EachUndoes" cX1_renew 1 none (Cond.code yX1_renew cX1_renew 1 none :: eu_TB) ({ frames := 2, cells := 0, slots := 0, locals := 50 } : Room) 0 0 0 ∧ (Cond.instanceMethod yX1_renew).before (eu_a E) (eu_s E) = true ∧ (Cond.selects RX1 yX1_renew yX1_renew).before (eu_a E) (eu_s E) = true := eu_cnV C (List.mem_of_getElem? (i := 42) rfl) tw_376 tw_377 tw_14 tw_378 rfl rfl (by decide +kernel) (by decide)
theorem cw_X4_fewest_X1_standingWith_127 {E : eu_E} (C : eu_C E ({ frames := 4, cells := 0, slots := 0, locals := 103 } : Room) 0 25 7 cX4_fewest RX4 (Cond.code yX4_fewest cX4_fewest 7 (some .int) :: eu_TB) (some .int)) : va_CN (eu_R E) (eu_s E) (eu_a E) RX4 127 yX1_standingWith "EachUndoes" cX1_standingWith 5 (some .int) (Cond.code yX1_standingWith cX1_standingWith 5 (some .int) :: eu_TB) ({ frames := 2, cells := 0, slots := 0, locals := 48 } : Room) 0 0 2 ∧ (Cond.instanceMethod yX1_standingWith).before (eu_a E) (eu_s E) = true ∧ (Cond.selects RX1 yX1_standingWith yX1_standingWith).before (eu_a E) (eu_s E) = true := eu_cnV C (List.mem_of_getElem? (i := 45) rfl) tw_381 tw_382 tw_14 tw_383 rfl rfl (by decide +kernel) (by decide)
theorem cw_X4_fewest_X1_isAsTold_130 {E : eu_E} (C : eu_C E ({ frames := 4, cells := 0, slots := 0, locals := 103 } : Room) 0 25 7 cX4_fewest RX4 (Cond.code yX4_fewest cX4_fewest 7 (some .int) :: eu_TB) (some .int)) : va_CN (eu_R E) (eu_s E) (eu_a E) RX4 130 yX1_isAsTold "EachUndoes" cX1_isAsTold 5 (some .boolean) (Cond.code yX1_isAsTold cX1_isAsTold 5 (some .boolean) :: eu_TB) ({ frames := 1, cells := 0, slots := 0, locals := 20 } : Room) 0 0 3 ∧ (Cond.instanceMethod yX1_isAsTold).before (eu_a E) (eu_s E) = true ∧ (Cond.selects RX1 yX1_isAsTold yX1_isAsTold).before (eu_a E) (eu_s E) = true := eu_cnV C (List.mem_of_getElem? (i := 48) rfl) tw_384 tw_385 tw_14 tw_386 rfl rfl (by decide +kernel) (by decide)
theorem cw_X4_fewest_X1_leastFirst_134 {E : eu_E} (C : eu_C E ({ frames := 4, cells := 0, slots := 0, locals := 103 } : Room) 0 25 7 cX4_fewest RX4 (Cond.code yX4_fewest cX4_fewest 7 (some .int) :: eu_TB) (some .int)) : va_CN (eu_R E) (eu_s E) (eu_a E) RX4 134 yX1_leastFirst "EachUndoes" cX1_leastFirst 12 (some .int) (Cond.code yX1_leastFirst cX1_leastFirst 12 (some .int) :: eu_TB) ({ frames := 3, cells := 0, slots := 0, locals := 72 } : Room) 0 0 3 ∧ (Cond.instanceMethod yX1_leastFirst).before (eu_a E) (eu_s E) = true ∧ (Cond.selects RX1 yX1_leastFirst yX1_leastFirst).before (eu_a E) (eu_s E) = true := eu_cnV C (List.mem_of_getElem? (i := 50) rfl) tw_387 tw_388 tw_14 tw_389 rfl rfl (by decide +kernel) (by decide)
set_option maxHeartbeats 4000000 in
set_option maxRecDepth 100000 in
theorem wX4_fewest_L91 {E : eu_E} (C : eu_C E ({ frames := 4, cells := 0, slots := 0, locals := 103 } : Room) 0 25 7 cX4_fewest RX4 (Cond.code yX4_fewest cX4_fewest 7 (some .int) :: eu_TB) (some .int)) {r : Int32} {σ' : eu_T}   : ∀ (n : Nat) (σ : eu_T) (v1 : Int32) (v2 : Int32) (v3 : Int32) (v4 : Int32) (v5 : Int32), fX4_fewest_L91 n σ v1 v2 v3 v4 v5 = some (r, σ') → eu_G E 0 25 7 (eu_QI E 0 25 σ' r) σ 91 [(0, .ref (eu_ad E 0)), (1, .int v1), (2, .int v2), (3, .int v3), (4, .int v4), (5, .int v5)] [] := by
  intro n
  induction n with
  | zero =>
    intro σ v1 v2 v3 v4 v5  h
    rw [fX4_fewest_L91_z] at h
    cases h
  | succ n ih =>
    intro σ v1 v2 v3 v4 v5  h
    rw [fX4_fewest_L91_s] at h
    refine eg_iload C 5 dX4_fewest_91 rfl ?_
    refine eg_iload_n C 3 dX4_fewest_93 rfl ?_
    refine eg_icmp_gt C 135 dX4_fewest_94 (by decide) (fun c => ?_) (fun c => ?_)
    · rw [if_pos c] at h
      refine eg_iconst C (-1 : Int32) dX4_fewest_135 (by decide) ?_
      obtain ⟨rfl, rfl⟩ := eu_inj2 h
      exact eg_iret C rfl dX4_fewest_136
    · rw [if_neg c] at h
      refine eg_aload_n C 0 dX4_fewest_97 rfl ?_
      refine gf_X4_12 C (by decide) dX4_fewest_98 ?_
      refine eg_iload_n C 1 dX4_fewest_101 rfl ?_
      refine eg_iload_n C 2 dX4_fewest_102 rfl ?_
      refine eg_iload C 5 dX4_fewest_103 rfl ?_
      obtain ⟨r5, σ6, hr5, h⟩ := eu_b2_some h
      refine eg_callNI C (cw_X4_fewest_X1_leastFirst_134 C) (av := [.int v1, .int v2, .int v5]) 1 (by decide) (kX1_leastFirst hr5) rfl rfl rfl rfl (st := []) rfl (Nat.le_of_ble_eq_true rfl) dX4_fewest_105 ?_
      refine eg_istore C [(6, .int r5), (0, .ref (eu_ad E 0)), (1, .int v1), (2, .int v2), (3, .int v3), (4, .int v4), (5, .int v5)] dX4_fewest_108 (by decide) rfl ?_
      refine eg_iload C 0 dX4_fewest_110 rfl ?_
      refine eg_iconst C (-1 : Int32) dX4_fewest_112 (by decide) ?_
      refine eg_icmp_eq C 129 dX4_fewest_113 (by decide) (fun c => ?_) (fun c => ?_)
      · rw [if_pos c] at h
        refine eg_iinc C 6 (v5 + (1 : Int32)) [(5, .int (v5 + (1 : Int32))), (6, .int r5), (0, .ref (eu_ad E 0)), (1, .int v1), (2, .int v2), (3, .int v3), (4, .int v4)] dX4_fewest_129 rfl rfl (by decide) rfl ?_
        refine eg_goto C 91 dX4_fewest_132 (by decide) ?_
        refine eg_sub C [2, 3, 4, 5, 6, 0] rfl ?_
        exact ih _ _ _ _ _ _ h
      · rw [if_neg c] at h
        refine eg_iload C 5 dX4_fewest_116 rfl ?_
        refine eg_if_ne C 126 dX4_fewest_118 (by decide) (fun c => ?_) (fun c => ?_)
        · rw [if_neg c] at h
          refine eg_iload C 0 dX4_fewest_126 rfl ?_
          obtain ⟨rfl, rfl⟩ := eu_inj2 h
          exact eg_iret C rfl dX4_fewest_128
        · rw [if_pos c] at h
          refine eg_iload C 6 dX4_fewest_121 rfl ?_
          refine eg_goto C 128 dX4_fewest_123 (by decide) ?_
          obtain ⟨rfl, rfl⟩ := eu_inj2 h
          exact eg_iret C rfl dX4_fewest_128
set_option maxHeartbeats 4000000 in
set_option maxRecDepth 100000 in
theorem wX4_fewest {E : eu_E} (C : eu_C E ({ frames := 4, cells := 0, slots := 0, locals := 103 } : Room) 0 25 7 cX4_fewest RX4 (Cond.code yX4_fewest cX4_fewest 7 (some .int) :: eu_TB) (some .int)) {σ : eu_T} {r : Int32} {σ' : eu_T} {a1 : Int32} {a2 : Int32} {a3 : Int32} {a4 : Int32}  (h : fX4_fewest σ a1 a2 a3 a4 = some (r, σ')) : eu_G E 0 25 7 (eu_QI E 0 25 σ' r) σ 0 [(0, .ref (eu_ad E 0)), (1, .int a1), (2, .int a2), (3, .int a3), (4, .int a4)] [] := by
  unfold fX4_fewest at h
  refine eg_iload_n C 1 dX4_fewest_0 rfl ?_
  refine eg_sipush C (4096 : Int32) dX4_fewest_1 (by decide) ?_
  refine eg_scallI C (cw_X4_fewest_X4_isBelow_39 C) (av := [.int a1, .int (4096 : Int32)]) (kX4_isBelow rfl) rfl (st := []) rfl (Nat.le_of_ble_eq_true rfl) dX4_fewest_4 ?_
  refine eg_if_eq C 26 dX4_fewest_7 (by decide) (fun c => ?_) (fun c => ?_)
  · rw [if_pos c] at h
    refine eg_bipush C (-2 : Int32) dX4_fewest_26 (by decide) ?_
    obtain ⟨rfl, rfl⟩ := eu_inj2 h
    exact eg_iret C rfl dX4_fewest_28
  · rw [if_neg c] at h
    refine eg_iload_n C 2 dX4_fewest_10 rfl ?_
    refine eg_sipush C (4096 : Int32) dX4_fewest_11 (by decide) ?_
    refine eg_scallI C (cw_X4_fewest_X4_isBelow_39 C) (av := [.int a2, .int (4096 : Int32)]) (kX4_isBelow rfl) rfl (st := []) rfl (Nat.le_of_ble_eq_true rfl) dX4_fewest_14 ?_
    refine eg_if_eq C 26 dX4_fewest_17 (by decide) (fun c => ?_) (fun c => ?_)
    · rw [if_pos c] at h
      refine eg_bipush C (-2 : Int32) dX4_fewest_26 (by decide) ?_
      obtain ⟨rfl, rfl⟩ := eu_inj2 h
      exact eg_iret C rfl dX4_fewest_28
    · rw [if_neg c] at h
      refine eg_iload_n C 1 dX4_fewest_20 rfl ?_
      refine eg_iload_n C 2 dX4_fewest_21 rfl ?_
      refine eg_iand C dX4_fewest_22 ?_
      refine eg_if_eq C 29 dX4_fewest_23 (by decide) (fun c => ?_) (fun c => ?_)
      · rw [if_pos c] at h
        refine eg_iload_n C 3 dX4_fewest_29 rfl ?_
        refine eg_iconst C (3 : Int32) dX4_fewest_30 (by decide) ?_
        refine eg_scallI C (cw_X4_fewest_X4_isBelow_39 C) (av := [.int a3, .int (3 : Int32)]) (kX4_isBelow rfl) rfl (st := []) rfl (Nat.le_of_ble_eq_true rfl) dX4_fewest_31 ?_
        refine eg_if_eq C 46 dX4_fewest_34 (by decide) (fun c => ?_) (fun c => ?_)
        · rw [if_pos c] at h
          refine eg_bipush C (-2 : Int32) dX4_fewest_46 (by decide) ?_
          obtain ⟨rfl, rfl⟩ := eu_inj2 h
          exact eg_iret C rfl dX4_fewest_48
        · rw [if_neg c] at h
          refine eg_iload C 4 dX4_fewest_37 rfl ?_
          refine eg_iconst C (2 : Int32) dX4_fewest_39 (by decide) ?_
          refine eg_scallI C (cw_X4_fewest_X4_isBelow_39 C) (av := [.int a4, .int (2 : Int32)]) (kX4_isBelow rfl) rfl (st := []) rfl (Nat.le_of_ble_eq_true rfl) dX4_fewest_40 ?_
          refine eg_if_ne C 49 dX4_fewest_43 (by decide) (fun c => ?_) (fun c => ?_)
          · rw [if_neg c] at h
            refine eg_aload_n C 0 dX4_fewest_49 rfl ?_
            refine gf_X4_12 C (by decide) dX4_fewest_50 ?_
            obtain ⟨r1, σ2, hr1, h⟩ := eu_b2_some h
            refine eg_callNV C (cw_X4_fewest_X1_renew_124 C) (av := []) 1 (by decide) (kX1_renew hr1) rfl rfl rfl rfl (st := []) rfl (Nat.le_of_ble_eq_true rfl) dX4_fewest_53 ?_
            refine eg_aload_n C 0 dX4_fewest_56 rfl ?_
            refine gf_X4_12 C (by decide) dX4_fewest_57 ?_
            refine eg_aload_n C 0 dX4_fewest_60 rfl ?_
            refine gf_X4_12 C (by decide) dX4_fewest_61 ?_
            refine eg_iconst C (-1 : Int32) dX4_fewest_64 (by decide) ?_
            refine eg_iconst C (-1 : Int32) dX4_fewest_65 (by decide) ?_
            obtain ⟨r3, σ4, hr3, h⟩ := eu_b2_some h
            refine eg_callNI C (cw_X4_fewest_X1_standingWith_127 C) (av := [.int (-1 : Int32), .int (-1 : Int32)]) 1 (by decide) (kX1_standingWith hr3) rfl rfl rfl rfl (st := [.ref (eu_ad E 1)]) rfl (Nat.le_of_ble_eq_true rfl) dX4_fewest_66 ?_
            refine eg_iload_n C 1 dX4_fewest_69 rfl ?_
            refine eg_iload_n C 2 dX4_fewest_70 rfl ?_
            refine eg_callNI C (cw_X4_fewest_X1_isAsTold_130 C) (av := [.int r3, .int a1, .int a2]) 1 (by decide) (kX1_isAsTold rfl) rfl rfl rfl rfl (st := []) rfl (Nat.le_of_ble_eq_true rfl) dX4_fewest_71 ?_
            refine eg_if_eq C 88 dX4_fewest_74 (by decide) (fun c => ?_) (fun c => ?_)
            · rw [if_pos c] at h
              refine eg_iconst C (1 : Int32) dX4_fewest_88 (by decide) ?_
              refine eg_istore C [(5, .int (1 : Int32)), (0, .ref (eu_ad E 0)), (1, .int a1), (2, .int a2), (3, .int a3), (4, .int a4)] dX4_fewest_89 (by decide) rfl ?_
              refine eg_sub C [1, 2, 3, 4, 5, 0] rfl ?_
              exact wX4_fewest_L91 C 200 _ _ _ _ _ _ h
            · rw [if_neg c] at h
              refine eg_iload C 4 dX4_fewest_77 rfl ?_
              refine eg_if_ne C 86 dX4_fewest_79 (by decide) (fun c => ?_) (fun c => ?_)
              · rw [if_neg c] at h
                refine eg_iconst C (-1 : Int32) dX4_fewest_86 (by decide) ?_
                obtain ⟨rfl, rfl⟩ := eu_inj2 h
                exact eg_iret C rfl dX4_fewest_87
              · rw [if_pos c] at h
                refine eg_iconst C (0 : Int32) dX4_fewest_82 (by decide) ?_
                refine eg_goto C 87 dX4_fewest_83 (by decide) ?_
                obtain ⟨rfl, rfl⟩ := eu_inj2 h
                exact eg_iret C rfl dX4_fewest_87
          · rw [if_pos c] at h
            refine eg_bipush C (-2 : Int32) dX4_fewest_46 (by decide) ?_
            obtain ⟨rfl, rfl⟩ := eu_inj2 h
            exact eg_iret C rfl dX4_fewest_48
      · rw [if_neg c] at h
        refine eg_bipush C (-2 : Int32) dX4_fewest_26 (by decide) ?_
        obtain ⟨rfl, rfl⟩ := eu_inj2 h
        exact eg_iret C rfl dX4_fewest_28
theorem kX4_fewest {l : Launch} {σ : eu_T} {r : Int32} {σ' : eu_T} {a1 : Int32} {a2 : Int32} {a3 : Int32} {a4 : Int32}  (h : fX4_fewest σ a1 a2 a3 a4 = some (r, σ')) : eu_KI l yX4_fewest (Cond.code yX4_fewest cX4_fewest 7 (some .int) :: eu_TB) ({ frames := 4, cells := 0, slots := 0, locals := 103 } : Room) 0 25 (fun ad => [.ref (ad 0), .int a1, .int a2, .int a3, .int a4]) σ σ' r :=
  eu_KI_of (by decide) (by decide) rfl (fun _ => Nat.le_of_ble_eq_true rfl) (fun E C => wX4_fewest C h)
theorem cw_X4_safe_X4_isBelow_39 {E : eu_E} (C : eu_C E ({ frames := 4, cells := 0, slots := 0, locals := 98 } : Room) 0 25 2 cX4_safe RX4 (Cond.code yX4_safe cX4_safe 2 (some .int) :: eu_TB) (some .int)) : CallB (eu_R E) (eu_s E) (eu_a E) RX4 39 yX4_isBelow cX4_isBelow 2 (some .boolean) (Cond.code yX4_isBelow cX4_isBelow 2 (some .boolean) :: eu_TB) ({ frames := 0, cells := 0, slots := 0, locals := 0 } : Room) 0 0 2 ∧ (Cond.static yX4_isBelow).before (eu_a E) (eu_s E) = true := eu_cwS C tw_75 tw_76 tw_2 tw_77 rfl rfl (by decide +kernel) (by decide)
theorem cw_X4_safe_X1_renew_124 {E : eu_E} (C : eu_C E ({ frames := 4, cells := 0, slots := 0, locals := 98 } : Room) 0 25 2 cX4_safe RX4 (Cond.code yX4_safe cX4_safe 2 (some .int) :: eu_TB) (some .int)) : va_CN (eu_R E) (eu_s E) (eu_a E) RX4 124 yX1_renew "EachUndoes" cX1_renew 1 none (Cond.code yX1_renew cX1_renew 1 none :: eu_TB) ({ frames := 2, cells := 0, slots := 0, locals := 50 } : Room) 0 0 0 ∧ (Cond.instanceMethod yX1_renew).before (eu_a E) (eu_s E) = true ∧ (Cond.selects RX1 yX1_renew yX1_renew).before (eu_a E) (eu_s E) = true := eu_cnV C (List.mem_of_getElem? (i := 42) rfl) tw_376 tw_377 tw_14 tw_378 rfl rfl (by decide +kernel) (by decide)
theorem cw_X4_safe_X1_lasting_138 {E : eu_E} (C : eu_C E ({ frames := 4, cells := 0, slots := 0, locals := 98 } : Room) 0 25 2 cX4_safe RX4 (Cond.code yX4_safe cX4_safe 2 (some .int) :: eu_TB) (some .int)) : va_CN (eu_R E) (eu_s E) (eu_a E) RX4 138 yX1_lasting "EachUndoes" cX1_lasting 7 (some .int) (Cond.code yX1_lasting cX1_lasting 7 (some .int) :: eu_TB) ({ frames := 3, cells := 0, slots := 0, locals := 72 } : Room) 0 0 1 ∧ (Cond.instanceMethod yX1_lasting).before (eu_a E) (eu_s E) = true ∧ (Cond.selects RX1 yX1_lasting yX1_lasting).before (eu_a E) (eu_s E) = true := eu_cnV C (List.mem_of_getElem? (i := 53) rfl) tw_425 tw_426 tw_14 tw_427 rfl rfl (by decide +kernel) (by decide)
set_option maxHeartbeats 4000000 in
set_option maxRecDepth 100000 in
theorem wX4_safe {E : eu_E} (C : eu_C E ({ frames := 4, cells := 0, slots := 0, locals := 98 } : Room) 0 25 2 cX4_safe RX4 (Cond.code yX4_safe cX4_safe 2 (some .int) :: eu_TB) (some .int)) {σ : eu_T} {r : Int32} {σ' : eu_T} {a1 : Int32}  (h : fX4_safe σ a1 = some (r, σ')) : eu_G E 0 25 2 (eu_QI E 0 25 σ' r) σ 0 [(0, .ref (eu_ad E 0)), (1, .int a1)] [] := by
  unfold fX4_safe at h
  refine eg_iload_n C 1 dX4_safe_0 rfl ?_
  refine eg_iconst C (3 : Int32) dX4_safe_1 (by decide) ?_
  refine eg_scallI C (cw_X4_safe_X4_isBelow_39 C) (av := [.int a1, .int (3 : Int32)]) (kX4_isBelow rfl) rfl (st := []) rfl (Nat.le_of_ble_eq_true rfl) dX4_safe_2 ?_
  refine eg_if_ne C 11 dX4_safe_5 (by decide) (fun c => ?_) (fun c => ?_)
  · rw [if_neg c] at h
    refine eg_aload_n C 0 dX4_safe_11 rfl ?_
    refine gf_X4_12 C (by decide) dX4_safe_12 ?_
    obtain ⟨r1, σ2, hr1, h⟩ := eu_b2_some h
    refine eg_callNV C (cw_X4_safe_X1_renew_124 C) (av := []) 1 (by decide) (kX1_renew hr1) rfl rfl rfl rfl (st := []) rfl (Nat.le_of_ble_eq_true rfl) dX4_safe_15 ?_
    refine eg_aload_n C 0 dX4_safe_18 rfl ?_
    refine gf_X4_12 C (by decide) dX4_safe_19 ?_
    refine eg_iload_n C 1 dX4_safe_22 rfl ?_
    obtain ⟨r3, σ4, hr3, h⟩ := eu_b2_some h
    refine eg_callNI C (cw_X4_safe_X1_lasting_138 C) (av := [.int a1]) 1 (by decide) (kX1_lasting hr3) rfl rfl rfl rfl (st := []) rfl (Nat.le_of_ble_eq_true rfl) dX4_safe_23 ?_
    obtain ⟨rfl, rfl⟩ := eu_inj2 h
    exact eg_iret C rfl dX4_safe_26
  · rw [if_pos c] at h
    refine eg_bipush C (-2 : Int32) dX4_safe_8 (by decide) ?_
    obtain ⟨rfl, rfl⟩ := eu_inj2 h
    exact eg_iret C rfl dX4_safe_10
theorem kX4_safe {l : Launch} {σ : eu_T} {r : Int32} {σ' : eu_T} {a1 : Int32}  (h : fX4_safe σ a1 = some (r, σ')) : eu_KI l yX4_safe (Cond.code yX4_safe cX4_safe 2 (some .int) :: eu_TB) ({ frames := 4, cells := 0, slots := 0, locals := 98 } : Room) 0 25 (fun ad => [.ref (ad 0), .int a1]) σ σ' r :=
  eu_KI_of (by decide) (by decide) rfl (fun _ => Nat.le_of_ble_eq_true rfl) (fun E C => wX4_safe C h)
theorem cw_X4_last_X4_isBelow_39 {E : eu_E} (C : eu_C E ({ frames := 5, cells := 0, slots := 0, locals := 124 } : Room) 0 25 6 cX4_last RX4 (Cond.code yX4_last cX4_last 6 (some .int) :: eu_TB) (some .int)) : CallB (eu_R E) (eu_s E) (eu_a E) RX4 39 yX4_isBelow cX4_isBelow 2 (some .boolean) (Cond.code yX4_isBelow cX4_isBelow 2 (some .boolean) :: eu_TB) ({ frames := 0, cells := 0, slots := 0, locals := 0 } : Room) 0 0 2 ∧ (Cond.static yX4_isBelow).before (eu_a E) (eu_s E) = true := eu_cwS C tw_75 tw_76 tw_2 tw_77 rfl rfl (by decide +kernel) (by decide)
theorem cw_X4_last_X1_renew_124 {E : eu_E} (C : eu_C E ({ frames := 5, cells := 0, slots := 0, locals := 124 } : Room) 0 25 6 cX4_last RX4 (Cond.code yX4_last cX4_last 6 (some .int) :: eu_TB) (some .int)) : va_CN (eu_R E) (eu_s E) (eu_a E) RX4 124 yX1_renew "EachUndoes" cX1_renew 1 none (Cond.code yX1_renew cX1_renew 1 none :: eu_TB) ({ frames := 2, cells := 0, slots := 0, locals := 50 } : Room) 0 0 0 ∧ (Cond.instanceMethod yX1_renew).before (eu_a E) (eu_s E) = true ∧ (Cond.selects RX1 yX1_renew yX1_renew).before (eu_a E) (eu_s E) = true := eu_cnV C (List.mem_of_getElem? (i := 42) rfl) tw_376 tw_377 tw_14 tw_378 rfl rfl (by decide +kernel) (by decide)
theorem cw_X4_last_X1_bestMove_141 {E : eu_E} (C : eu_C E ({ frames := 5, cells := 0, slots := 0, locals := 124 } : Room) 0 25 6 cX4_last RX4 (Cond.code yX4_last cX4_last 6 (some .int) :: eu_TB) (some .int)) : va_CN (eu_R E) (eu_s E) (eu_a E) RX4 141 yX1_bestMove "EachUndoes" cX1_bestMove 7 (some .int) (Cond.code yX1_bestMove cX1_bestMove 7 (some .int) :: eu_TB) ({ frames := 4, cells := 0, slots := 0, locals := 98 } : Room) 0 0 2 ∧ (Cond.instanceMethod yX1_bestMove).before (eu_a E) (eu_s E) = true ∧ (Cond.selects RX1 yX1_bestMove yX1_bestMove).before (eu_a E) (eu_s E) = true := eu_cnV C (List.mem_of_getElem? (i := 54) rfl) tw_444 tw_445 tw_14 tw_446 rfl rfl (by decide +kernel) (by decide)
theorem cw_X4_last_X1_bestReply_144 {E : eu_E} (C : eu_C E ({ frames := 5, cells := 0, slots := 0, locals := 124 } : Room) 0 25 6 cX4_last RX4 (Cond.code yX4_last cX4_last 6 (some .int) :: eu_TB) (some .int)) : va_CN (eu_R E) (eu_s E) (eu_a E) RX4 144 yX1_bestReply "EachUndoes" cX1_bestReply 7 (some .int) (Cond.code yX1_bestReply cX1_bestReply 7 (some .int) :: eu_TB) ({ frames := 3, cells := 0, slots := 0, locals := 72 } : Room) 0 0 2 ∧ (Cond.instanceMethod yX1_bestReply).before (eu_a E) (eu_s E) = true ∧ (Cond.selects RX1 yX1_bestReply yX1_bestReply).before (eu_a E) (eu_s E) = true := eu_cnV C (List.mem_of_getElem? (i := 55) rfl) tw_448 tw_449 tw_14 tw_450 rfl rfl (by decide +kernel) (by decide)
theorem cw_X4_last_X1_standingWith_127 {E : eu_E} (C : eu_C E ({ frames := 5, cells := 0, slots := 0, locals := 124 } : Room) 0 25 6 cX4_last RX4 (Cond.code yX4_last cX4_last 6 (some .int) :: eu_TB) (some .int)) : va_CN (eu_R E) (eu_s E) (eu_a E) RX4 127 yX1_standingWith "EachUndoes" cX1_standingWith 5 (some .int) (Cond.code yX1_standingWith cX1_standingWith 5 (some .int) :: eu_TB) ({ frames := 2, cells := 0, slots := 0, locals := 48 } : Room) 0 0 2 ∧ (Cond.instanceMethod yX1_standingWith).before (eu_a E) (eu_s E) = true ∧ (Cond.selects RX1 yX1_standingWith yX1_standingWith).before (eu_a E) (eu_s E) = true := eu_cnV C (List.mem_of_getElem? (i := 45) rfl) tw_381 tw_382 tw_14 tw_383 rfl rfl (by decide +kernel) (by decide)
theorem cw_X4_last_X1_worthOf_147 {E : eu_E} (C : eu_C E ({ frames := 5, cells := 0, slots := 0, locals := 124 } : Room) 0 25 6 cX4_last RX4 (Cond.code yX4_last cX4_last 6 (some .int) :: eu_TB) (some .int)) : va_CN (eu_R E) (eu_s E) (eu_a E) RX4 147 yX1_worthOf "EachUndoes" cX1_worthOf 5 (some .int) (Cond.code yX1_worthOf cX1_worthOf 5 (some .int) :: eu_TB) ({ frames := 1, cells := 0, slots := 0, locals := 21 } : Room) 0 0 2 ∧ (Cond.instanceMethod yX1_worthOf).before (eu_a E) (eu_s E) = true ∧ (Cond.selects RX1 yX1_worthOf yX1_worthOf).before (eu_a E) (eu_s E) = true := eu_cnV C (List.mem_of_getElem? (i := 56) rfl) tw_452 tw_453 tw_14 tw_454 rfl rfl (by decide +kernel) (by decide)
set_option maxHeartbeats 4000000 in
set_option maxRecDepth 100000 in
theorem wX4_last_J107 {E : eu_E} (C : eu_C E ({ frames := 5, cells := 0, slots := 0, locals := 124 } : Room) 0 25 6 cX4_last RX4 (Cond.code yX4_last cX4_last 6 (some .int) :: eu_TB) (some .int)) {r : Int32} {σ' : eu_T}   (σ : eu_T) (s0 : Int32) (s1 : Int32)  (h : fX4_last_J107  σ s0 s1 = some (r, σ')) : eu_G E 0 25 6 (eu_QI E 0 25 σ' r) σ 107 [] [.int s0, .int s1, .ref (eu_ad E 1)] := by
  unfold fX4_last_J107 at h
  obtain ⟨r9, hr9, h⟩ := eu_bd_some h
  refine eg_callNI C (cw_X4_last_X1_worthOf_147 C) (av := [.int s1, .int s0]) 1 (by decide) (kX1_worthOf hr9) rfl rfl rfl rfl (st := []) rfl (Nat.le_of_ble_eq_true rfl) dX4_last_107 ?_
  obtain ⟨rfl, rfl⟩ := eu_inj2 h
  exact eg_iret C rfl dX4_last_110
set_option maxHeartbeats 4000000 in
set_option maxRecDepth 100000 in
theorem wX4_last {E : eu_E} (C : eu_C E ({ frames := 5, cells := 0, slots := 0, locals := 124 } : Room) 0 25 6 cX4_last RX4 (Cond.code yX4_last cX4_last 6 (some .int) :: eu_TB) (some .int)) {σ : eu_T} {r : Int32} {σ' : eu_T} {a1 : Int32} {a2 : Int32} {a3 : Int32}  (h : fX4_last σ a1 a2 a3 = some (r, σ')) : eu_G E 0 25 6 (eu_QI E 0 25 σ' r) σ 0 [(0, .ref (eu_ad E 0)), (1, .int a1), (2, .int a2), (3, .int a3)] [] := by
  unfold fX4_last at h
  refine eg_iload_n C 1 dX4_last_0 rfl ?_
  refine eg_bipush C (6 : Int32) dX4_last_1 (by decide) ?_
  refine eg_scallI C (cw_X4_last_X4_isBelow_39 C) (av := [.int a1, .int (6 : Int32)]) (kX4_isBelow rfl) rfl (st := []) rfl (Nat.le_of_ble_eq_true rfl) dX4_last_3 ?_
  refine eg_if_eq C 31 dX4_last_6 (by decide) (fun c => ?_) (fun c => ?_)
  · rw [if_pos c] at h
    refine eg_sipush C (-1002 : Int32) dX4_last_31 (by decide) ?_
    obtain ⟨rfl, rfl⟩ := eu_inj2 h
    exact eg_iret C rfl dX4_last_34
  · rw [if_neg c] at h
    refine eg_iload_n C 2 dX4_last_9 rfl ?_
    refine eg_bipush C (6 : Int32) dX4_last_10 (by decide) ?_
    refine eg_scallI C (cw_X4_last_X4_isBelow_39 C) (av := [.int a2, .int (6 : Int32)]) (kX4_isBelow rfl) rfl (st := []) rfl (Nat.le_of_ble_eq_true rfl) dX4_last_12 ?_
    refine eg_if_eq C 31 dX4_last_15 (by decide) (fun c => ?_) (fun c => ?_)
    · rw [if_pos c] at h
      refine eg_sipush C (-1002 : Int32) dX4_last_31 (by decide) ?_
      obtain ⟨rfl, rfl⟩ := eu_inj2 h
      exact eg_iret C rfl dX4_last_34
    · rw [if_neg c] at h
      refine eg_iload_n C 1 dX4_last_18 rfl ?_
      refine eg_iload_n C 2 dX4_last_19 rfl ?_
      refine eg_icmp_eq C 31 dX4_last_20 (by decide) (fun c => ?_) (fun c => ?_)
      · rw [if_pos c] at h
        refine eg_sipush C (-1002 : Int32) dX4_last_31 (by decide) ?_
        obtain ⟨rfl, rfl⟩ := eu_inj2 h
        exact eg_iret C rfl dX4_last_34
      · rw [if_neg c] at h
        refine eg_iload_n C 3 dX4_last_23 rfl ?_
        refine eg_iconst C (4 : Int32) dX4_last_24 (by decide) ?_
        refine eg_scallI C (cw_X4_last_X4_isBelow_39 C) (av := [.int a3, .int (4 : Int32)]) (kX4_isBelow rfl) rfl (st := []) rfl (Nat.le_of_ble_eq_true rfl) dX4_last_25 ?_
        refine eg_if_ne C 35 dX4_last_28 (by decide) (fun c => ?_) (fun c => ?_)
        · rw [if_neg c] at h
          refine eg_aload_n C 0 dX4_last_35 rfl ?_
          refine gf_X4_12 C (by decide) dX4_last_36 ?_
          obtain ⟨r1, σ2, hr1, h⟩ := eu_b2_some h
          refine eg_callNV C (cw_X4_last_X1_renew_124 C) (av := []) 1 (by decide) (kX1_renew hr1) rfl rfl rfl rfl (st := []) rfl (Nat.le_of_ble_eq_true rfl) dX4_last_39 ?_
          refine eg_aload_n C 0 dX4_last_42 rfl ?_
          refine gf_X4_12 C (by decide) dX4_last_43 ?_
          refine eg_iload_n C 1 dX4_last_46 rfl ?_
          refine eg_iload_n C 2 dX4_last_47 rfl ?_
          obtain ⟨r3, σ4, hr3, h⟩ := eu_b2_some h
          refine eg_callNI C (cw_X4_last_X1_bestMove_141 C) (av := [.int a1, .int a2]) 1 (by decide) (kX1_bestMove hr3) rfl rfl rfl rfl (st := []) rfl (Nat.le_of_ble_eq_true rfl) dX4_last_48 ?_
          refine eg_istore C [(4, .int r3), (0, .ref (eu_ad E 0)), (1, .int a1), (2, .int a2), (3, .int a3)] dX4_last_51 (by decide) rfl ?_
          refine eg_aload_n C 1 dX4_last_53 rfl ?_
          refine gf_X4_12 C (by decide) dX4_last_54 ?_
          refine eg_iload_n C 3 dX4_last_57 rfl ?_
          refine eg_iload C 0 dX4_last_58 rfl ?_
          obtain ⟨r5, σ6, hr5, h⟩ := eu_b2_some h
          refine eg_callNI C (cw_X4_last_X1_bestReply_144 C) (av := [.int a2, .int r3]) 1 (by decide) (kX1_bestReply hr5) rfl rfl rfl rfl (st := []) rfl (Nat.le_of_ble_eq_true rfl) dX4_last_60 ?_
          refine eg_istore C [(5, .int r5), (4, .int r3), (0, .ref (eu_ad E 0)), (1, .int a1), (2, .int a2), (3, .int a3)] dX4_last_63 (by decide) rfl ?_
          refine eg_iload_n C 5 dX4_last_65 rfl ?_
          refine eg_iconst C (2 : Int32) dX4_last_66 (by decide) ?_
          refine eg_icmp_lt C 83 dX4_last_67 (by decide) (fun c => ?_) (fun c => ?_)
          · rw [if_pos c] at h
            refine eg_aload_n C 2 dX4_last_83 rfl ?_
            refine gf_X4_12 C (by decide) dX4_last_84 ?_
            refine eg_aload_n C 2 dX4_last_87 rfl ?_
            refine gf_X4_12 C (by decide) dX4_last_88 ?_
            refine eg_iload C 1 dX4_last_91 rfl ?_
            refine eg_iload C 0 dX4_last_93 rfl ?_
            obtain ⟨r7, σ8, hr7, h⟩ := eu_b2_some h
            refine eg_callNI C (cw_X4_last_X1_standingWith_127 C) (av := [.int r3, .int r5]) 1 (by decide) (kX1_standingWith hr7) rfl rfl rfl rfl (st := [.ref (eu_ad E 1)]) rfl (Nat.le_of_ble_eq_true rfl) dX4_last_95 ?_
            refine eg_iload_n C 5 dX4_last_98 rfl ?_
            refine eg_if_ne C 106 dX4_last_99 (by decide) (fun c => ?_) (fun c => ?_)
            · rw [if_neg c] at h
              refine eg_iload_n C 4 dX4_last_106 rfl ?_
              refine eg_sub C [] rfl ?_
              exact wX4_last_J107 C _ _ _ h
            · rw [if_pos c] at h
              refine eg_iload_n C 3 dX4_last_102 rfl ?_
              refine eg_goto C 107 dX4_last_103 (by decide) ?_
              refine eg_sub C [] rfl ?_
              exact wX4_last_J107 C _ _ _ h
          · rw [if_neg c] at h
            refine eg_iload_n C 5 dX4_last_70 rfl ?_
            refine eg_iconst C (2 : Int32) dX4_last_71 (by decide) ?_
            refine eg_icmp_ne C 80 dX4_last_72 (by decide) (fun c => ?_) (fun c => ?_)
            · rw [if_neg c] at h
              refine eg_iload C 0 dX4_last_80 rfl ?_
              obtain ⟨rfl, rfl⟩ := eu_inj2 h
              exact eg_iret C rfl dX4_last_82
            · rw [if_pos c] at h
              refine eg_iload C 1 dX4_last_75 rfl ?_
              refine eg_goto C 82 dX4_last_77 (by decide) ?_
              obtain ⟨rfl, rfl⟩ := eu_inj2 h
              exact eg_iret C rfl dX4_last_82
        · rw [if_pos c] at h
          refine eg_sipush C (-1002 : Int32) dX4_last_31 (by decide) ?_
          obtain ⟨rfl, rfl⟩ := eu_inj2 h
          exact eg_iret C rfl dX4_last_34
theorem kX4_last {l : Launch} {σ : eu_T} {r : Int32} {σ' : eu_T} {a1 : Int32} {a2 : Int32} {a3 : Int32}  (h : fX4_last σ a1 a2 a3 = some (r, σ')) : eu_KI l yX4_last (Cond.code yX4_last cX4_last 6 (some .int) :: eu_TB) ({ frames := 5, cells := 0, slots := 0, locals := 124 } : Room) 0 25 (fun ad => [.ref (ad 0), .int a1, .int a2, .int a3]) σ σ' r :=
  eu_KI_of (by decide) (by decide) rfl (fun _ => Nat.le_of_ble_eq_true rfl) (fun E C => wX4_last C h)
theorem cw_X4_seen_X4_isBelow_39 {E : eu_E} (C : eu_C E ({ frames := 1, cells := 0, slots := 0, locals := 21 } : Room) 0 25 3 cX4_seen RX4 (Cond.code yX4_seen cX4_seen 3 (some .int) :: eu_TB) (some .int)) : CallB (eu_R E) (eu_s E) (eu_a E) RX4 39 yX4_isBelow cX4_isBelow 2 (some .boolean) (Cond.code yX4_isBelow cX4_isBelow 2 (some .boolean) :: eu_TB) ({ frames := 0, cells := 0, slots := 0, locals := 0 } : Room) 0 0 2 ∧ (Cond.static yX4_isBelow).before (eu_a E) (eu_s E) = true := eu_cwS C tw_75 tw_76 tw_2 tw_77 rfl rfl (by decide +kernel) (by decide)
set_option maxHeartbeats 4000000 in
set_option maxRecDepth 100000 in
theorem wX4_seen_J64 {E : eu_E} (C : eu_C E ({ frames := 1, cells := 0, slots := 0, locals := 21 } : Room) 0 25 3 cX4_seen RX4 (Cond.code yX4_seen cX4_seen 3 (some .int) :: eu_TB) (some .int)) {r : Int32} {σ' : eu_T}   (σ : eu_T)  (h : fX4_seen_J64  σ = some (r, σ')) : eu_G E 0 25 3 (eu_QI E 0 25 σ' r) σ 64 [(0, .ref (eu_ad E 0))] [] := by
  unfold fX4_seen_J64 at h
  refine eg_aload_n C 0 dX4_seen_64 rfl ?_
  refine eg_dup C dX4_seen_65 rfl ?_
  refine gf_X4_150 C (by decide) dX4_seen_66 ?_
  refine eg_iconst C (1 : Int32) dX4_seen_69 (by decide) ?_
  refine eg_iadd C dX4_seen_70 ?_
  refine pf_X4_150 C (by decide) dX4_seen_71 ?_
  obtain ⟨σ3, eσ3, h⟩ := eu_lt_x h
  rw [← eσ3]
  refine eg_aload_n C 0 dX4_seen_74 rfl ?_
  refine gf_X4_150 C (by decide) dX4_seen_75 ?_
  obtain ⟨rfl, rfl⟩ := eu_inj2 h
  exact eg_iret C rfl dX4_seen_78
set_option maxHeartbeats 4000000 in
set_option maxRecDepth 100000 in
theorem wX4_seen {E : eu_E} (C : eu_C E ({ frames := 1, cells := 0, slots := 0, locals := 21 } : Room) 0 25 3 cX4_seen RX4 (Cond.code yX4_seen cX4_seen 3 (some .int) :: eu_TB) (some .int)) {σ : eu_T} {r : Int32} {σ' : eu_T} {a1 : Int32} {a2 : Int32}  (h : fX4_seen σ a1 a2 = some (r, σ')) : eu_G E 0 25 3 (eu_QI E 0 25 σ' r) σ 0 [(0, .ref (eu_ad E 0)), (1, .int a1), (2, .int a2)] [] := by
  unfold fX4_seen at h
  refine eg_iload_n C 1 dX4_seen_0 rfl ?_
  refine eg_bipush C (12 : Int32) dX4_seen_1 (by decide) ?_
  refine eg_scallI C (cw_X4_seen_X4_isBelow_39 C) (av := [.int a1, .int (12 : Int32)]) (kX4_isBelow rfl) rfl (st := []) rfl (Nat.le_of_ble_eq_true rfl) dX4_seen_3 ?_
  refine eg_if_eq C 17 dX4_seen_6 (by decide) (fun c => ?_) (fun c => ?_)
  · rw [if_pos c] at h
    refine eg_bipush C (-2 : Int32) dX4_seen_17 (by decide) ?_
    obtain ⟨rfl, rfl⟩ := eu_inj2 h
    exact eg_iret C rfl dX4_seen_19
  · rw [if_neg c] at h
    refine eg_iload_n C 2 dX4_seen_9 rfl ?_
    refine eg_iconst C (2 : Int32) dX4_seen_10 (by decide) ?_
    refine eg_scallI C (cw_X4_seen_X4_isBelow_39 C) (av := [.int a2, .int (2 : Int32)]) (kX4_isBelow rfl) rfl (st := []) rfl (Nat.le_of_ble_eq_true rfl) dX4_seen_11 ?_
    refine eg_if_ne C 20 dX4_seen_14 (by decide) (fun c => ?_) (fun c => ?_)
    · rw [if_neg c] at h
      refine eg_aload_n C 0 dX4_seen_20 rfl ?_
      refine gf_X4_150 C (by decide) dX4_seen_21 ?_
      refine eg_bipush C (8 : Int32) dX4_seen_24 (by decide) ?_
      refine eg_icmp_lt C 32 dX4_seen_26 (by decide) (fun c => ?_) (fun c => ?_)
      · rw [if_pos c] at h
        refine eg_iload_n C 2 dX4_seen_32 rfl ?_
        refine eg_iconst C (1 : Int32) dX4_seen_33 (by decide) ?_
        refine eg_icmp_ne C 52 dX4_seen_34 (by decide) (fun c => ?_) (fun c => ?_)
        · rw [if_neg c] at h
          refine eg_aload_n C 0 dX4_seen_52 rfl ?_
          refine eg_dup C dX4_seen_53 rfl ?_
          refine gf_X4_156 C (by decide) dX4_seen_54 ?_
          refine eg_iconst C (1 : Int32) dX4_seen_57 (by decide) ?_
          refine eg_iload_n C 1 dX4_seen_58 rfl ?_
          refine eg_ishl C dX4_seen_59 ?_
          refine eg_ior C dX4_seen_60 ?_
          refine pf_X4_156 C (by decide) dX4_seen_61 ?_
          obtain ⟨σ1, eσ1, h⟩ := eu_lt_x h
          rw [← eσ1]
          refine eg_sub C [0] rfl ?_
          exact wX4_seen_J64 C _ h
        · rw [if_pos c] at h
          refine eg_aload_n C 0 dX4_seen_37 rfl ?_
          refine eg_dup C dX4_seen_38 rfl ?_
          refine gf_X4_153 C (by decide) dX4_seen_39 ?_
          refine eg_iconst C (1 : Int32) dX4_seen_42 (by decide) ?_
          refine eg_iload_n C 1 dX4_seen_43 rfl ?_
          refine eg_ishl C dX4_seen_44 ?_
          refine eg_ior C dX4_seen_45 ?_
          refine pf_X4_153 C (by decide) dX4_seen_46 ?_
          obtain ⟨σ2, eσ2, h⟩ := eu_lt_x h
          rw [← eσ2]
          refine eg_goto C 64 dX4_seen_49 (by decide) ?_
          refine eg_sub C [0] rfl ?_
          exact wX4_seen_J64 C _ h
      · rw [if_neg c] at h
        refine eg_bipush C (-4 : Int32) dX4_seen_29 (by decide) ?_
        obtain ⟨rfl, rfl⟩ := eu_inj2 h
        exact eg_iret C rfl dX4_seen_31
    · rw [if_pos c] at h
      refine eg_bipush C (-2 : Int32) dX4_seen_17 (by decide) ?_
      obtain ⟨rfl, rfl⟩ := eu_inj2 h
      exact eg_iret C rfl dX4_seen_19
theorem kX4_seen {l : Launch} {σ : eu_T} {r : Int32} {σ' : eu_T} {a1 : Int32} {a2 : Int32}  (h : fX4_seen σ a1 a2 = some (r, σ')) : eu_KI l yX4_seen (Cond.code yX4_seen cX4_seen 3 (some .int) :: eu_TB) ({ frames := 1, cells := 0, slots := 0, locals := 21 } : Room) 0 25 (fun ad => [.ref (ad 0), .int a1, .int a2]) σ σ' r :=
  eu_KI_of (by decide) (by decide) rfl (fun _ => Nat.le_of_ble_eq_true rfl) (fun E C => wX4_seen C h)
set_option maxHeartbeats 4000000 in
set_option maxRecDepth 100000 in
theorem wX4_forget {E : eu_E} (C : eu_C E ({ frames := 0, cells := 0, slots := 0, locals := 0 } : Room) 0 25 2 cX4_forget RX4 (Cond.code yX4_forget cX4_forget 2 (some .int) :: eu_TB) (some .int)) {σ : eu_T} {r : Int32} {σ' : eu_T}   (h : fX4_forget σ = some (r, σ')) : eu_G E 0 25 2 (eu_QI E 0 25 σ' r) σ 0 [(0, .ref (eu_ad E 0))] [] := by
  unfold fX4_forget at h
  refine eg_aload_n C 0 dX4_forget_0 rfl ?_
  refine gf_X4_150 C (by decide) dX4_forget_1 ?_
  refine eg_istore_n C [(1, .int (σ 0 4)), (0, .ref (eu_ad E 0))] dX4_forget_4 rfl (by decide) rfl ?_
  refine eg_aload_n C 1 dX4_forget_5 rfl ?_
  refine eg_iconst C (0 : Int32) dX4_forget_6 (by decide) ?_
  refine pf_X4_150 C (by decide) dX4_forget_7 ?_
  obtain ⟨σ1, eσ1, h⟩ := eu_lt_x h
  rw [← eσ1]
  refine eg_aload_n C 1 dX4_forget_10 rfl ?_
  refine eg_iconst C (0 : Int32) dX4_forget_11 (by decide) ?_
  refine pf_X4_153 C (by decide) dX4_forget_12 ?_
  obtain ⟨σ2, eσ2, h⟩ := eu_lt_x h
  rw [← eσ2]
  refine eg_aload_n C 1 dX4_forget_15 rfl ?_
  refine eg_iconst C (0 : Int32) dX4_forget_16 (by decide) ?_
  refine pf_X4_156 C (by decide) dX4_forget_17 ?_
  obtain ⟨σ3, eσ3, h⟩ := eu_lt_x h
  rw [← eσ3]
  refine eg_iload_n C 0 dX4_forget_20 rfl ?_
  obtain ⟨rfl, rfl⟩ := eu_inj2 h
  exact eg_iret C rfl dX4_forget_21
theorem kX4_forget {l : Launch} {σ : eu_T} {r : Int32} {σ' : eu_T}   (h : fX4_forget σ = some (r, σ')) : eu_KI l yX4_forget (Cond.code yX4_forget cX4_forget 2 (some .int) :: eu_TB) ({ frames := 0, cells := 0, slots := 0, locals := 0 } : Room) 0 25 (fun ad => [.ref (ad 0)]) σ σ' r :=
  eu_KI_of (by decide) (by decide) rfl (fun _ => Nat.le_of_ble_eq_true rfl) (fun E C => wX4_forget C h)
theorem cw_X4_often_X4_standingBehind_103 {E : eu_E} (C : eu_C E ({ frames := 4, cells := 0, slots := 0, locals := 92 } : Room) 0 25 4 cX4_often RX4 (Cond.code yX4_often cX4_often 4 (some .int) :: eu_TB) (some .int)) : CallW (eu_R E) (eu_s E) (eu_a E) RX4 RX4 103 yX4_standingBehind cX4_standingBehind 2 (some .int) (Cond.code yX4_standingBehind cX4_standingBehind 2 (some .int) :: eu_TB) ({ frames := 3, cells := 0, slots := 0, locals := 71 } : Room) 0 0 1 := eu_cwV C tw_280 tw_281 tw_282 tw_2 tw_283 rfl rfl (by decide +kernel) (by decide)
set_option maxHeartbeats 4000000 in
set_option maxRecDepth 100000 in
theorem wX4_often_L4 {E : eu_E} (C : eu_C E ({ frames := 4, cells := 0, slots := 0, locals := 92 } : Room) 0 25 4 cX4_often RX4 (Cond.code yX4_often cX4_often 4 (some .int) :: eu_TB) (some .int)) {σ : eu_T} {r : Int32}   : ∀ (n : Nat) (v1 : Int32) (v2 : Int32), fX4_often_L4 σ n v1 v2 = some r → eu_G E 0 25 4 (eu_QI E 0 25 σ r) σ 4 [(0, .ref (eu_ad E 0)), (1, .int v1), (2, .int v2)] [] := by
  intro n
  induction n with
  | zero =>
    intro v1 v2  h
    rw [fX4_often_L4_z] at h
    cases h
  | succ n ih =>
    intro v1 v2  h
    rw [fX4_often_L4_s] at h
    refine eg_iload_n C 2 dX4_often_4 rfl ?_
    refine eg_aload_n C 0 dX4_often_5 rfl ?_
    refine gf_X4_20 C (by decide) dX4_often_6 ?_
    refine gf_X4_79 C (by decide) dX4_often_9 ?_
    refine eg_icmp_gt C 55 dX4_often_12 (by decide) (fun c => ?_) (fun c => ?_)
    · rw [if_pos c] at h
      refine eg_iload_n C 1 dX4_often_55 rfl ?_
      obtain rfl := Option.some.inj h
      exact eg_iret C rfl dX4_often_56
    · rw [if_neg c] at h
      refine eg_aload_n C 0 dX4_often_15 rfl ?_
      refine eg_iload_n C 2 dX4_often_16 rfl ?_
      obtain ⟨r1, hr1, h⟩ := eu_bd_some h
      refine eg_callI C (cw_X4_often_X4_standingBehind_103 C) (av := [.int v2]) 0 (by decide) (kX4_standingBehind hr1) rfl rfl rfl rfl (st := []) rfl (Nat.le_of_ble_eq_true rfl) dX4_often_17 ?_
      refine eg_istore_n C [(3, .int r1), (0, .ref (eu_ad E 0)), (1, .int v1), (2, .int v2)] dX4_often_20 rfl (by decide) rfl ?_
      refine eg_iload_n C 0 dX4_often_21 rfl ?_
      refine eg_aload_n C 1 dX4_often_22 rfl ?_
      refine gf_X4_153 C (by decide) dX4_often_23 ?_
      refine eg_iand C dX4_often_26 ?_
      refine eg_aload_n C 1 dX4_often_27 rfl ?_
      refine gf_X4_153 C (by decide) dX4_often_28 ?_
      refine eg_icmp_ne C 49 dX4_often_31 (by decide) (fun c => ?_) (fun c => ?_)
      · rw [if_neg c] at h
        refine eg_iinc C 3 (v2 + (1 : Int32)) [(2, .int (v2 + (1 : Int32))), (3, .int r1), (0, .ref (eu_ad E 0)), (1, .int v1)] dX4_often_49 rfl rfl (by decide) rfl ?_
        refine eg_goto C 4 dX4_often_52 (by decide) ?_
        refine eg_sub C [2, 3, 0] rfl ?_
        exact ih _ _ h
      · rw [if_pos c] at h
        refine eg_iload_n C 0 dX4_often_34 rfl ?_
        refine eg_aload_n C 1 dX4_often_35 rfl ?_
        refine gf_X4_156 C (by decide) dX4_often_36 ?_
        refine eg_iand C dX4_often_39 ?_
        refine eg_if_ne C 49 dX4_often_40 (by decide) (fun c => ?_) (fun c => ?_)
        · rw [if_neg c] at h
          refine eg_iinc C 3 (v2 + (1 : Int32)) [(2, .int (v2 + (1 : Int32))), (3, .int r1), (0, .ref (eu_ad E 0)), (1, .int v1)] dX4_often_49 rfl rfl (by decide) rfl ?_
          refine eg_goto C 4 dX4_often_52 (by decide) ?_
          refine eg_sub C [2, 3, 0] rfl ?_
          exact ih _ _ h
        · rw [if_pos c] at h
          refine eg_iload_n C 2 dX4_often_43 rfl ?_
          refine eg_iconst C (1 : Int32) dX4_often_44 (by decide) ?_
          refine eg_iload_n C 3 dX4_often_45 rfl ?_
          refine eg_ishl C dX4_often_46 ?_
          refine eg_ior C dX4_often_47 ?_
          refine eg_istore_n C [(1, .int (v1 ||| ((1 : Int32) <<< (v2 &&& 31)))), (3, .int r1), (0, .ref (eu_ad E 0)), (2, .int v2)] dX4_often_48 rfl (by decide) rfl ?_
          refine eg_iinc C 3 (v2 + (1 : Int32)) [(2, .int (v2 + (1 : Int32))), (1, .int (v1 ||| ((1 : Int32) <<< (v2 &&& 31)))), (3, .int r1), (0, .ref (eu_ad E 0))] dX4_often_49 rfl rfl (by decide) rfl ?_
          refine eg_goto C 4 dX4_often_52 (by decide) ?_
          refine eg_sub C [3, 1, 0] rfl ?_
          exact ih _ _ h
set_option maxHeartbeats 4000000 in
set_option maxRecDepth 100000 in
theorem wX4_often {E : eu_E} (C : eu_C E ({ frames := 4, cells := 0, slots := 0, locals := 92 } : Room) 0 25 4 cX4_often RX4 (Cond.code yX4_often cX4_often 4 (some .int) :: eu_TB) (some .int)) {σ : eu_T} {r : Int32}   (h : fX4_often σ = some r) : eu_G E 0 25 4 (eu_QI E 0 25 σ r) σ 0 [(0, .ref (eu_ad E 0))] [] := by
  unfold fX4_often at h
  refine eg_iconst C (0 : Int32) dX4_often_0 (by decide) ?_
  refine eg_istore_n C [(1, .int (0 : Int32)), (0, .ref (eu_ad E 0))] dX4_often_1 rfl (by decide) rfl ?_
  refine eg_iconst C (0 : Int32) dX4_often_2 (by decide) ?_
  refine eg_istore_n C [(2, .int (0 : Int32)), (1, .int (0 : Int32)), (0, .ref (eu_ad E 0))] dX4_often_3 rfl (by decide) rfl ?_
  refine eg_sub C [2, 1, 0] rfl ?_
  exact wX4_often_L4 C 200 _ _ h
theorem kX4_often {l : Launch} {σ : eu_T} {r : Int32}   (h : fX4_often σ = some r) : eu_KI l yX4_often (Cond.code yX4_often cX4_often 4 (some .int) :: eu_TB) ({ frames := 4, cells := 0, slots := 0, locals := 92 } : Room) 0 25 (fun ad => [.ref (ad 0)]) σ σ r :=
  eu_KI_of (by decide) (by decide) rfl (fun _ => Nat.le_of_ble_eq_true rfl) (fun E C => wX4_often C h)
theorem cw_X4_drawn_X4_isBelow_39 {E : eu_E} (C : eu_C E ({ frames := 3, cells := 0, slots := 0, locals := 74 } : Room) 0 25 4 cX4_drawn RX4 (Cond.code yX4_drawn cX4_drawn 4 (some .int) :: eu_TB) (some .int)) : CallB (eu_R E) (eu_s E) (eu_a E) RX4 39 yX4_isBelow cX4_isBelow 2 (some .boolean) (Cond.code yX4_isBelow cX4_isBelow 2 (some .boolean) :: eu_TB) ({ frames := 0, cells := 0, slots := 0, locals := 0 } : Room) 0 0 2 ∧ (Cond.static yX4_isBelow).before (eu_a E) (eu_s E) = true := eu_cwS C tw_75 tw_76 tw_2 tw_77 rfl rfl (by decide +kernel) (by decide)
theorem cw_X4_drawn_X1_renew_124 {E : eu_E} (C : eu_C E ({ frames := 3, cells := 0, slots := 0, locals := 74 } : Room) 0 25 4 cX4_drawn RX4 (Cond.code yX4_drawn cX4_drawn 4 (some .int) :: eu_TB) (some .int)) : va_CN (eu_R E) (eu_s E) (eu_a E) RX4 124 yX1_renew "EachUndoes" cX1_renew 1 none (Cond.code yX1_renew cX1_renew 1 none :: eu_TB) ({ frames := 2, cells := 0, slots := 0, locals := 50 } : Room) 0 0 0 ∧ (Cond.instanceMethod yX1_renew).before (eu_a E) (eu_s E) = true ∧ (Cond.selects RX1 yX1_renew yX1_renew).before (eu_a E) (eu_s E) = true := eu_cnV C (List.mem_of_getElem? (i := 42) rfl) tw_376 tw_377 tw_14 tw_378 rfl rfl (by decide +kernel) (by decide)
theorem cw_X4_drawn_X1_draw_159 {E : eu_E} (C : eu_C E ({ frames := 3, cells := 0, slots := 0, locals := 74 } : Room) 0 25 4 cX4_drawn RX4 (Cond.code yX4_drawn cX4_drawn 4 (some .int) :: eu_TB) (some .int)) : va_CN (eu_R E) (eu_s E) (eu_a E) RX4 159 yX1_draw "EachUndoes" cX1_draw 7 none (Cond.code yX1_draw cX1_draw 7 none :: eu_TB) ({ frames := 2, cells := 0, slots := 0, locals := 48 } : Room) 0 0 2 ∧ (Cond.instanceMethod yX1_draw).before (eu_a E) (eu_s E) = true ∧ (Cond.selects RX1 yX1_draw yX1_draw).before (eu_a E) (eu_s E) = true := eu_cnV C (List.mem_of_getElem? (i := 57) rfl) tw_513 tw_514 tw_14 tw_515 rfl rfl (by decide +kernel) (by decide)
theorem cw_X4_drawn_X0_standing_166 {E : eu_E} (C : eu_C E ({ frames := 3, cells := 0, slots := 0, locals := 74 } : Room) 0 25 4 cX4_drawn RX4 (Cond.code yX4_drawn cX4_drawn 4 (some .int) :: eu_TB) (some .int)) : va_CN (eu_R E) (eu_s E) (eu_a E) RX4 166 yX0_standing "EachUndoes" cX0_standing 2 (some .int) (Cond.code yX0_standing cX0_standing 2 (some .int) :: eu_TB) ({ frames := 1, cells := 0, slots := 0, locals := 23 } : Room) 0 0 1 ∧ (Cond.instanceMethod yX0_standing).before (eu_a E) (eu_s E) = true ∧ (Cond.selects RX0 yX0_standing yX0_standing).before (eu_a E) (eu_s E) = true := eu_cnV C (List.mem_of_getElem? (i := 59) rfl) tw_298 tw_299 tw_39 tw_300 rfl rfl (by decide +kernel) (by decide)
set_option maxHeartbeats 4000000 in
set_option maxRecDepth 100000 in
theorem wX4_drawn {E : eu_E} (C : eu_C E ({ frames := 3, cells := 0, slots := 0, locals := 74 } : Room) 0 25 4 cX4_drawn RX4 (Cond.code yX4_drawn cX4_drawn 4 (some .int) :: eu_TB) (some .int)) {σ : eu_T} {r : Int32} {σ' : eu_T} {a1 : Int32} {a2 : Int32} {a3 : Int32}  (h : fX4_drawn σ a1 a2 a3 = some (r, σ')) : eu_G E 0 25 4 (eu_QI E 0 25 σ' r) σ 0 [(0, .ref (eu_ad E 0)), (1, .int a1), (2, .int a2), (3, .int a3)] [] := by
  unfold fX4_drawn at h
  refine eg_iload_n C 2 dX4_drawn_0 rfl ?_
  refine eg_bipush C (7 : Int32) dX4_drawn_1 (by decide) ?_
  refine eg_scallI C (cw_X4_drawn_X4_isBelow_39 C) (av := [.int a2, .int (7 : Int32)]) (kX4_isBelow rfl) rfl (st := []) rfl (Nat.le_of_ble_eq_true rfl) dX4_drawn_3 ?_
  refine eg_if_eq C 17 dX4_drawn_6 (by decide) (fun c => ?_) (fun c => ?_)
  · rw [if_pos c] at h
    refine eg_bipush C (-2 : Int32) dX4_drawn_17 (by decide) ?_
    obtain ⟨rfl, rfl⟩ := eu_inj2 h
    exact eg_iret C rfl dX4_drawn_19
  · rw [if_neg c] at h
    refine eg_iload_n C 3 dX4_drawn_9 rfl ?_
    refine eg_iconst C (2 : Int32) dX4_drawn_10 (by decide) ?_
    refine eg_scallI C (cw_X4_drawn_X4_isBelow_39 C) (av := [.int a3, .int (2 : Int32)]) (kX4_isBelow rfl) rfl (st := []) rfl (Nat.le_of_ble_eq_true rfl) dX4_drawn_11 ?_
    refine eg_if_ne C 20 dX4_drawn_14 (by decide) (fun c => ?_) (fun c => ?_)
    · rw [if_neg c] at h
      refine eg_aload_n C 0 dX4_drawn_20 rfl ?_
      refine gf_X4_12 C (by decide) dX4_drawn_21 ?_
      obtain ⟨r1, σ2, hr1, h⟩ := eu_b2_some h
      refine eg_callNV C (cw_X4_drawn_X1_renew_124 C) (av := []) 1 (by decide) (kX1_renew hr1) rfl rfl rfl rfl (st := []) rfl (Nat.le_of_ble_eq_true rfl) dX4_drawn_24 ?_
      refine eg_aload_n C 0 dX4_drawn_27 rfl ?_
      refine gf_X4_12 C (by decide) dX4_drawn_28 ?_
      refine eg_iload_n C 1 dX4_drawn_31 rfl ?_
      refine eg_iload_n C 2 dX4_drawn_32 rfl ?_
      obtain ⟨r3, σ4, hr3, h⟩ := eu_b2_some h
      refine eg_callNV C (cw_X4_drawn_X1_draw_159 C) (av := [.int a1, .int a2]) 1 (by decide) (kX1_draw hr3) rfl rfl rfl rfl (st := []) rfl (Nat.le_of_ble_eq_true rfl) dX4_drawn_33 ?_
      refine eg_iload_n C 3 dX4_drawn_36 rfl ?_
      refine eg_if_ne C 57 dX4_drawn_37 (by decide) (fun c => ?_) (fun c => ?_)
      · rw [if_neg c] at h
        refine eg_aload_n C 0 dX4_drawn_57 rfl ?_
        refine gf_X4_12 C (by decide) dX4_drawn_58 ?_
        refine gf_X4_167 C (by decide) dX4_drawn_61 ?_
        obtain ⟨rfl, rfl⟩ := eu_inj2 h
        exact eg_iret C rfl dX4_drawn_64
      · rw [if_pos c] at h
        refine eg_aload_n C 0 dX4_drawn_40 rfl ?_
        refine gf_X4_27 C (by decide) dX4_drawn_41 ?_
        refine eg_aload_n C 0 dX4_drawn_44 rfl ?_
        refine gf_X4_12 C (by decide) dX4_drawn_45 ?_
        refine gf_X4_163 C (by decide) dX4_drawn_48 ?_
        obtain ⟨r5, hr5, h⟩ := eu_bd_some h
        refine eg_callNI C (cw_X4_drawn_X0_standing_166 C) (av := [.int (σ4 1 5)]) 3 (by decide) (kX0_standing hr5) rfl rfl rfl rfl (st := []) rfl (Nat.le_of_ble_eq_true rfl) dX4_drawn_51 ?_
        refine eg_goto C 64 dX4_drawn_54 (by decide) ?_
        obtain ⟨rfl, rfl⟩ := eu_inj2 h
        exact eg_iret C rfl dX4_drawn_64
    · rw [if_pos c] at h
      refine eg_bipush C (-2 : Int32) dX4_drawn_17 (by decide) ?_
      obtain ⟨rfl, rfl⟩ := eu_inj2 h
      exact eg_iret C rfl dX4_drawn_19
theorem kX4_drawn {l : Launch} {σ : eu_T} {r : Int32} {σ' : eu_T} {a1 : Int32} {a2 : Int32} {a3 : Int32}  (h : fX4_drawn σ a1 a2 a3 = some (r, σ')) : eu_KI l yX4_drawn (Cond.code yX4_drawn cX4_drawn 4 (some .int) :: eu_TB) ({ frames := 3, cells := 0, slots := 0, locals := 74 } : Room) 0 25 (fun ad => [.ref (ad 0), .int a1, .int a2, .int a3]) σ σ' r :=
  eu_KI_of (by decide) (by decide) rfl (fun _ => Nat.le_of_ble_eq_true rfl) (fun E C => wX4_drawn C h)
