theorem cw_X5_safe_X5_reads_100 {E : eu_E} (C : eu_C E ({ frames := 6, cells := 0, slots := 0, locals := 139 } : Room) 25 12 2 cX5_safe RX5 (Cond.code yX5_safe cX5_safe 2 (some .int) :: eu_TB) (some .int)) : CallW (eu_R E) (eu_s E) (eu_a E) RX5 RX5 100 yX5_reads cX5_reads 2 (some .int) (Cond.code yX5_reads cX5_reads 2 (some .int) :: eu_TB) ({ frames := 2, cells := 0, slots := 0, locals := 48 } : Room) 0 0 0 := eu_cwV C tw_131 tw_132 tw_133 tw_5 tw_134 rfl rfl (by decide +kernel) (by decide)
theorem cw_X5_safe_X5_in_44 {E : eu_E} (C : eu_C E ({ frames := 6, cells := 0, slots := 0, locals := 139 } : Room) 25 12 2 cX5_safe RX5 (Cond.code yX5_safe cX5_safe 2 (some .int) :: eu_TB) (some .int)) : CallB (eu_R E) (eu_s E) (eu_a E) RX5 44 yX5_in cX5_in 6 (some .boolean) (Cond.code yX5_in cX5_in 6 (some .boolean) :: eu_TB) ({ frames := 0, cells := 0, slots := 0, locals := 0 } : Room) 0 0 3 ∧ (Cond.static yX5_in).before (eu_a E) (eu_s E) = true := eu_cwS C tw_109 tw_110 tw_5 tw_111 rfl rfl (by decide +kernel) (by decide)
theorem cw_X5_safe_X5_safeOf_193 {E : eu_E} (C : eu_C E ({ frames := 6, cells := 0, slots := 0, locals := 139 } : Room) 25 12 2 cX5_safe RX5 (Cond.code yX5_safe cX5_safe 2 (some .int) :: eu_TB) (some .int)) : CallW (eu_R E) (eu_s E) (eu_a E) RX5 RX5 193 yX5_safeOf cX5_safeOf 4 (some .int) (Cond.code yX5_safeOf cX5_safeOf 4 (some .int) :: eu_TB) ({ frames := 5, cells := 0, slots := 0, locals := 116 } : Room) 0 0 1 := eu_cwV C tw_432 tw_433 tw_434 tw_5 tw_435 rfl rfl (by decide +kernel) (by decide)
set_option maxHeartbeats 4000000 in
set_option maxRecDepth 100000 in
theorem wX5_safe {E : eu_E} (C : eu_C E ({ frames := 6, cells := 0, slots := 0, locals := 139 } : Room) 25 12 2 cX5_safe RX5 (Cond.code yX5_safe cX5_safe 2 (some .int) :: eu_TB) (some .int)) {σ : eu_T} {r : Int32} {σ' : eu_T} {a1 : Int32}  (h : fX5_safe σ a1 = some (r, σ')) : eu_G E 25 12 2 (eu_QI E 25 12 σ' r) σ 0 [(0, .ref (eu_ad E 25)), (1, .int a1)] [] := by
  unfold fX5_safe at h
  refine eg_aload_n C 0 dX5_safe_0 rfl ?_
  obtain ⟨r1, σ2, hr1, h⟩ := eu_b2_some h
  refine eg_callI C (cw_X5_safe_X5_reads_100 C) (av := []) 25 (by decide) (kX5_reads hr1) rfl rfl rfl rfl (st := []) rfl (Nat.le_of_ble_eq_true rfl) dX5_safe_1 ?_
  refine eg_pop C dX5_safe_4 rfl ?_
  refine eg_iload_n C 1 dX5_safe_5 rfl ?_
  refine eg_i2l C dX5_safe_6 ?_
  refine eg_lconst C (0 : Int64) dX5_safe_7 (by decide) ?_
  refine eg_ldc2 C (2 : Int64) dX5_safe_8 (List.mem_cons_of_mem _ tw_164) ?_
  refine eg_scallI C (cw_X5_safe_X5_in_44 C) (av := [.long a1.toInt64, .long (0 : Int64), .long (2 : Int64)]) (kX5_in rfl) rfl (st := []) rfl (Nat.le_of_ble_eq_true rfl) dX5_safe_11 ?_
  refine eg_if_eq C 25 dX5_safe_14 (by decide) (fun c => ?_) (fun c => ?_)
  · rw [if_pos c] at h
    refine eg_bipush C (-2 : Int32) dX5_safe_25 (by decide) ?_
    obtain ⟨rfl, rfl⟩ := eu_inj2 h
    exact eg_iret C rfl dX5_safe_27
  · rw [if_neg c] at h
    refine eg_aload_n C 0 dX5_safe_17 rfl ?_
    refine eg_iload_n C 1 dX5_safe_18 rfl ?_
    obtain ⟨r3, σ4, hr3, h⟩ := eu_b2_some h
    refine eg_callI C (cw_X5_safe_X5_safeOf_193 C) (av := [.int a1]) 25 (by decide) (kX5_safeOf hr3) rfl rfl rfl rfl (st := []) rfl (Nat.le_of_ble_eq_true rfl) dX5_safe_19 ?_
    refine eg_goto C 27 dX5_safe_22 (by decide) ?_
    obtain ⟨rfl, rfl⟩ := eu_inj2 h
    exact eg_iret C rfl dX5_safe_27
theorem kX5_safe {l : Launch} {σ : eu_T} {r : Int32} {σ' : eu_T} {a1 : Int32}  (h : fX5_safe σ a1 = some (r, σ')) : eu_KI l yX5_safe (Cond.code yX5_safe cX5_safe 2 (some .int) :: eu_TB) ({ frames := 6, cells := 0, slots := 0, locals := 139 } : Room) 25 12 (fun ad => [.ref (ad 25), .int a1]) σ σ' r :=
  eu_KI_of (by decide) (by decide) rfl (fun _ => Nat.le_of_ble_eq_true rfl) (fun E C => wX5_safe C h)
theorem cw_X5_worthOf_X5_isIn_127 {E : eu_E} (C : eu_C E ({ frames := 1, cells := 0, slots := 0, locals := 21 } : Room) 25 12 5 cX5_worthOf RX5 (Cond.code yX5_worthOf cX5_worthOf 5 (some .int) :: eu_TB) (some .int)) : CallB (eu_R E) (eu_s E) (eu_a E) RX5 127 yX5_isIn cX5_isIn 2 (some .boolean) (Cond.code yX5_isIn cX5_isIn 2 (some .boolean) :: eu_TB) ({ frames := 0, cells := 0, slots := 0, locals := 0 } : Room) 0 0 2 ∧ (Cond.static yX5_isIn).before (eu_a E) (eu_s E) = true := eu_cwS C tw_258 tw_259 tw_5 tw_260 rfl rfl (by decide +kernel) (by decide)
set_option maxHeartbeats 4000000 in
set_option maxRecDepth 100000 in
theorem wX5_worthOf_L5 {E : eu_E} (C : eu_C E ({ frames := 1, cells := 0, slots := 0, locals := 21 } : Room) 25 12 5 cX5_worthOf RX5 (Cond.code yX5_worthOf cX5_worthOf 5 (some .int) :: eu_TB) (some .int)) {σ : eu_T} {r : Int32}   : ∀ (n : Nat) (v1 : Int32) (v2 : Int32) (v3 : Int32) (v4 : Int32), fX5_worthOf_L5 σ n v1 v2 v3 v4 = some r → eu_G E 25 12 5 (eu_QI E 25 12 σ r) σ 5 [(0, .ref (eu_ad E 25)), (1, .int v1), (2, .int v2), (3, .int v3), (4, .int v4)] [] := by
  intro n
  induction n with
  | zero =>
    intro v1 v2 v3 v4  h
    rw [fX5_worthOf_L5_z] at h
    cases h
  | succ n ih =>
    intro v1 v2 v3 v4  h
    rw [fX5_worthOf_L5_s] at h
    refine eg_iload C 4 dX5_worthOf_5 rfl ?_
    refine eg_bipush C (12 : Int32) dX5_worthOf_7 (by decide) ?_
    refine eg_icmp_ge C 46 dX5_worthOf_9 (by decide) (fun c => ?_) (fun c => ?_)
    · rw [if_pos c] at h
      refine eg_iload_n C 3 dX5_worthOf_46 rfl ?_
      obtain rfl := Option.some.inj h
      exact eg_iret C rfl dX5_worthOf_47
    · rw [if_neg c] at h
      refine eg_iload_n C 3 dX5_worthOf_12 rfl ?_
      refine eg_iload_n C 2 dX5_worthOf_13 rfl ?_
      refine eg_iload C 4 dX5_worthOf_14 rfl ?_
      refine eg_scallI C (cw_X5_worthOf_X5_isIn_127 C) (av := [.int v2, .int v4]) (kX5_isIn rfl) rfl (st := [.int v3]) rfl (Nat.le_of_ble_eq_true rfl) dX5_worthOf_16 ?_
      refine eg_if_eq C 37 dX5_worthOf_19 (by decide) (fun c => ?_) (fun c => ?_)
      · rw [if_pos c] at h
        refine eg_iconst C (0 : Int32) dX5_worthOf_37 (by decide) ?_
        refine eg_iadd C dX5_worthOf_38 ?_
        refine eg_istore_n C [(3, .int (v3 + (0 : Int32))), (0, .ref (eu_ad E 25)), (1, .int v1), (2, .int v2), (4, .int v4)] dX5_worthOf_39 rfl (by decide) rfl ?_
        refine eg_iinc C 4 (v4 + (1 : Int32)) [(4, .int (v4 + (1 : Int32))), (3, .int (v3 + (0 : Int32))), (0, .ref (eu_ad E 25)), (1, .int v1), (2, .int v2)] dX5_worthOf_40 rfl rfl (by decide) rfl ?_
        refine eg_goto C 5 dX5_worthOf_43 (by decide) ?_
        refine eg_sub C [2, 3, 4, 1, 0] rfl ?_
        exact ih _ _ _ _ h
      · rw [if_neg c] at h
        refine eg_aload_n C 0 dX5_worthOf_22 rfl ?_
        refine gf_X5_31 C (by decide) dX5_worthOf_23 ?_
        refine eg_bipush C (12 : Int32) dX5_worthOf_26 (by decide) ?_
        refine eg_iload_n C 1 dX5_worthOf_28 rfl ?_
        refine eg_imul C dX5_worthOf_29 ?_
        refine eg_iload C 4 dX5_worthOf_30 rfl ?_
        refine eg_iadd C dX5_worthOf_32 ?_
        obtain ⟨g1, h⟩ := eu_gd_some h
        refine eg_iald C 33 (by decide) (z := 72) (fun _ => rfl) (eu_in_vp g1) dX5_worthOf_33 ?_
        refine eg_goto C 38 dX5_worthOf_34 (by decide) ?_
        refine eg_iadd C dX5_worthOf_38 ?_
        refine eg_istore_n C [(3, .int (v3 + (σ 33 (((12 : Int32) * v1) + v4).toNatClampNeg))), (0, .ref (eu_ad E 25)), (1, .int v1), (2, .int v2), (4, .int v4)] dX5_worthOf_39 rfl (by decide) rfl ?_
        refine eg_iinc C 4 (v4 + (1 : Int32)) [(4, .int (v4 + (1 : Int32))), (3, .int (v3 + (σ 33 (((12 : Int32) * v1) + v4).toNatClampNeg))), (0, .ref (eu_ad E 25)), (1, .int v1), (2, .int v2)] dX5_worthOf_40 rfl rfl (by decide) rfl ?_
        refine eg_goto C 5 dX5_worthOf_43 (by decide) ?_
        refine eg_sub C [2, 3, 4, 1, 0] rfl ?_
        exact ih _ _ _ _ h
set_option maxHeartbeats 4000000 in
set_option maxRecDepth 100000 in
theorem wX5_worthOf {E : eu_E} (C : eu_C E ({ frames := 1, cells := 0, slots := 0, locals := 21 } : Room) 25 12 5 cX5_worthOf RX5 (Cond.code yX5_worthOf cX5_worthOf 5 (some .int) :: eu_TB) (some .int)) {σ : eu_T} {r : Int32} {a1 : Int32} {a2 : Int32}  (h : fX5_worthOf σ a1 a2 = some r) : eu_G E 25 12 5 (eu_QI E 25 12 σ r) σ 0 [(0, .ref (eu_ad E 25)), (1, .int a1), (2, .int a2)] [] := by
  unfold fX5_worthOf at h
  refine eg_iconst C (0 : Int32) dX5_worthOf_0 (by decide) ?_
  refine eg_istore_n C [(3, .int (0 : Int32)), (0, .ref (eu_ad E 25)), (1, .int a1), (2, .int a2)] dX5_worthOf_1 rfl (by decide) rfl ?_
  refine eg_iconst C (0 : Int32) dX5_worthOf_2 (by decide) ?_
  refine eg_istore C [(4, .int (0 : Int32)), (3, .int (0 : Int32)), (0, .ref (eu_ad E 25)), (1, .int a1), (2, .int a2)] dX5_worthOf_3 (by decide) rfl ?_
  refine eg_sub C [2, 3, 4, 1, 0] rfl ?_
  exact wX5_worthOf_L5 C 200 _ _ _ _ h
theorem kX5_worthOf {l : Launch} {σ : eu_T} {r : Int32} {a1 : Int32} {a2 : Int32}  (h : fX5_worthOf σ a1 a2 = some r) : eu_KI l yX5_worthOf (Cond.code yX5_worthOf cX5_worthOf 5 (some .int) :: eu_TB) ({ frames := 1, cells := 0, slots := 0, locals := 21 } : Room) 25 12 (fun ad => [.ref (ad 25), .int a1, .int a2]) σ σ r :=
  eu_KI_of (by decide) (by decide) rfl (fun _ => Nat.le_of_ble_eq_true rfl) (fun E C => wX5_worthOf C h)
theorem cw_X5_answers_X5_judges_140 {E : eu_E} (C : eu_C E ({ frames := 4, cells := 0, slots := 0, locals := 92 } : Room) 25 12 5 cX5_answers RX5 (Cond.code yX5_answers cX5_answers 5 none :: eu_TB) none) : CallW (eu_R E) (eu_s E) (eu_a E) RX5 RX5 140 yX5_judges cX5_judges 4 none (Cond.code yX5_judges cX5_judges 4 none :: eu_TB) ({ frames := 2, cells := 0, slots := 0, locals := 45 } : Room) 0 0 2 := eu_cwV C tw_248 tw_249 tw_250 tw_5 tw_251 rfl rfl (by decide +kernel) (by decide)
theorem cw_X5_answers_X5_standing_153 {E : eu_E} (C : eu_C E ({ frames := 4, cells := 0, slots := 0, locals := 92 } : Room) 25 12 5 cX5_answers RX5 (Cond.code yX5_answers cX5_answers 5 none :: eu_TB) none) : CallW (eu_R E) (eu_s E) (eu_a E) RX5 RX5 153 yX5_standing cX5_standing 4 (some .int) (Cond.code yX5_standing cX5_standing 4 (some .int) :: eu_TB) ({ frames := 3, cells := 0, slots := 0, locals := 69 } : Room) 0 0 1 := eu_cwV C tw_319 tw_320 tw_321 tw_5 tw_322 rfl rfl (by decide +kernel) (by decide)
theorem cw_X5_answers_X5_adds_174 {E : eu_E} (C : eu_C E ({ frames := 4, cells := 0, slots := 0, locals := 92 } : Room) 25 12 5 cX5_answers RX5 (Cond.code yX5_answers cX5_answers 5 none :: eu_TB) none) : CallW (eu_R E) (eu_s E) (eu_a E) RX5 RX5 174 yX5_adds cX5_adds 3 (some .boolean) (Cond.code yX5_adds cX5_adds 3 (some .boolean) :: eu_TB) ({ frames := 3, cells := 0, slots := 0, locals := 68 } : Room) 0 0 2 := eu_cwV C tw_413 tw_414 tw_415 tw_5 tw_416 rfl rfl (by decide +kernel) (by decide)
theorem cw_X5_answers_X5_worthOf_202 {E : eu_E} (C : eu_C E ({ frames := 4, cells := 0, slots := 0, locals := 92 } : Room) 25 12 5 cX5_answers RX5 (Cond.code yX5_answers cX5_answers 5 none :: eu_TB) none) : CallW (eu_R E) (eu_s E) (eu_a E) RX5 RX5 202 yX5_worthOf cX5_worthOf 5 (some .int) (Cond.code yX5_worthOf cX5_worthOf 5 (some .int) :: eu_TB) ({ frames := 1, cells := 0, slots := 0, locals := 21 } : Room) 0 0 2 := eu_cwV C tw_473 tw_474 tw_475 tw_5 tw_476 rfl rfl (by decide +kernel) (by decide)
set_option maxHeartbeats 4000000 in
set_option maxRecDepth 100000 in
theorem wX5_answers_L22 {E : eu_E} (C : eu_C E ({ frames := 4, cells := 0, slots := 0, locals := 92 } : Room) 25 12 5 cX5_answers RX5 (Cond.code yX5_answers cX5_answers 5 none :: eu_TB) none) {r : Int32} {σ' : eu_T}   : ∀ (n : Nat) (σ : eu_T) (v1 : Int32) (v2 : Int32) (v3 : Int32), fX5_answers_L22 n σ v1 v2 v3 = some (r, σ') → eu_G E 25 12 5 (eu_QV E 25 12 σ' r) σ 22 [(0, .ref (eu_ad E 25)), (1, .int v1), (2, .int v2), (3, .int v3)] [] := by
  intro n
  induction n with
  | zero =>
    intro σ v1 v2 v3  h
    rw [fX5_answers_L22_z] at h
    cases h
  | succ n ih =>
    intro σ v1 v2 v3  h
    rw [fX5_answers_L22_s] at h
    refine eg_iload_n C 3 dX5_answers_22 rfl ?_
    refine eg_bipush C (24 : Int32) dX5_answers_23 (by decide) ?_
    refine eg_icmp_ge C 87 dX5_answers_25 (by decide) (fun c => ?_) (fun c => ?_)
    · rw [if_pos c] at h
      obtain ⟨rfl, rfl⟩ := eu_inj2 h
      exact eg_vret C rfl _ dX5_answers_87
    · rw [if_neg c] at h
      refine eg_aload_n C 0 dX5_answers_28 rfl ?_
      refine eg_iload_n C 1 dX5_answers_29 rfl ?_
      refine eg_bipush C (24 : Int32) dX5_answers_30 (by decide) ?_
      refine eg_iload_n C 2 dX5_answers_32 rfl ?_
      refine eg_imul C dX5_answers_33 ?_
      refine eg_iload_n C 3 dX5_answers_34 rfl ?_
      refine eg_iadd C dX5_answers_35 ?_
      obtain ⟨r6, σ7, hr6, h⟩ := eu_b2_some h
      refine eg_callI C (cw_X5_answers_X5_adds_174 C) (av := [.int v1, .int (((24 : Int32) * v2) + v3)]) 25 (by decide) (kX5_adds hr6) rfl rfl rfl rfl (st := []) rfl (Nat.le_of_ble_eq_true rfl) dX5_answers_36 ?_
      refine eg_if_eq C 81 dX5_answers_39 (by decide) (fun c => ?_) (fun c => ?_)
      · rw [if_pos c] at h
        refine eg_iinc C 3 (v3 + (1 : Int32)) [(3, .int (v3 + (1 : Int32))), (0, .ref (eu_ad E 25)), (1, .int v1), (2, .int v2)] dX5_answers_81 rfl rfl (by decide) rfl ?_
        refine eg_goto C 22 dX5_answers_84 (by decide) ?_
        refine eg_sub C [1, 2, 3, 0] rfl ?_
        exact ih _ _ _ _ h
      · rw [if_neg c] at h
        refine eg_aload_n C 0 dX5_answers_42 rfl ?_
        refine eg_iload_n C 1 dX5_answers_43 rfl ?_
        refine eg_iconst C (1 : Int32) dX5_answers_44 (by decide) ?_
        refine eg_iadd C dX5_answers_45 ?_
        obtain ⟨r8, hr8, h⟩ := eu_bd_some h
        refine eg_callI C (cw_X5_answers_X5_standing_153 C) (av := [.int (v1 + (1 : Int32))]) 25 (by decide) (kX5_standing hr8) rfl rfl rfl rfl (st := []) rfl (Nat.le_of_ble_eq_true rfl) dX5_answers_46 ?_
        refine eg_istore C [(4, .int r8), (0, .ref (eu_ad E 25)), (1, .int v1), (2, .int v2), (3, .int v3)] dX5_answers_49 (by decide) rfl ?_
        refine eg_aload_n C 1 dX5_answers_51 rfl ?_
        refine eg_iload_n C 3 dX5_answers_52 rfl ?_
        refine eg_iload C 0 dX5_answers_53 rfl ?_
        obtain ⟨r9, hr9, h⟩ := eu_bd_some h
        refine eg_callI C (cw_X5_answers_X5_worthOf_202 C) (av := [.int v2, .int r8]) 25 (by decide) (kX5_worthOf hr9) rfl rfl rfl rfl (st := []) rfl (Nat.le_of_ble_eq_true rfl) dX5_answers_55 ?_
        refine eg_aload_n C 1 dX5_answers_58 rfl ?_
        refine eg_iload_n C 3 dX5_answers_59 rfl ?_
        refine eg_aload_n C 1 dX5_answers_60 rfl ?_
        refine gf_X5_196 C (by decide) dX5_answers_61 ?_
        obtain ⟨r10, hr10, h⟩ := eu_bd_some h
        refine eg_callI C (cw_X5_answers_X5_worthOf_202 C) (av := [.int v2, .int (σ7 25 19)]) 25 (by decide) (kX5_worthOf hr10) rfl rfl rfl rfl (st := [.int r9]) rfl (Nat.le_of_ble_eq_true rfl) dX5_answers_64 ?_
        refine eg_icmp_le C 81 dX5_answers_67 (by decide) (fun c => ?_) (fun c => ?_)
        · rw [if_pos c] at h
          refine eg_iinc C 4 (v3 + (1 : Int32)) [(3, .int (v3 + (1 : Int32))), (4, .int r8), (0, .ref (eu_ad E 25)), (1, .int v1), (2, .int v2)] dX5_answers_81 rfl rfl (by decide) rfl ?_
          refine eg_goto C 22 dX5_answers_84 (by decide) ?_
          refine eg_sub C [2, 3, 4, 0] rfl ?_
          exact ih _ _ _ _ h
        · rw [if_neg c] at h
          refine eg_aload_n C 1 dX5_answers_70 rfl ?_
          refine eg_iload C 0 dX5_answers_71 rfl ?_
          refine pf_X5_196 C (by decide) dX5_answers_73 ?_
          obtain ⟨σ11, eσ11, h⟩ := eu_lt_x h
          rw [← eσ11]
          refine eg_aload_n C 1 dX5_answers_76 rfl ?_
          refine eg_iload_n C 4 dX5_answers_77 rfl ?_
          refine pf_X5_199 C (by decide) dX5_answers_78 ?_
          obtain ⟨σ12, eσ12, h⟩ := eu_lt_x h
          rw [← eσ12]
          refine eg_iinc C 4 (v3 + (1 : Int32)) [(3, .int (v3 + (1 : Int32))), (4, .int r8), (0, .ref (eu_ad E 25)), (1, .int v1), (2, .int v2)] dX5_answers_81 rfl rfl (by decide) rfl ?_
          refine eg_goto C 22 dX5_answers_84 (by decide) ?_
          refine eg_sub C [2, 3, 4, 0] rfl ?_
          exact ih _ _ _ _ h
set_option maxHeartbeats 4000000 in
set_option maxRecDepth 100000 in
theorem wX5_answers {E : eu_E} (C : eu_C E ({ frames := 4, cells := 0, slots := 0, locals := 92 } : Room) 25 12 5 cX5_answers RX5 (Cond.code yX5_answers cX5_answers 5 none :: eu_TB) none) {σ : eu_T} {r : Int32} {σ' : eu_T} {a1 : Int32} {a2 : Int32}  (h : fX5_answers σ a1 a2 = some (r, σ')) : eu_G E 25 12 5 (eu_QV E 25 12 σ' r) σ 0 [(0, .ref (eu_ad E 25)), (1, .int a1), (2, .int a2)] [] := by
  unfold fX5_answers at h
  refine eg_aload_n C 0 dX5_answers_0 rfl ?_
  refine eg_iload_n C 1 dX5_answers_1 rfl ?_
  refine eg_iconst C (-1 : Int32) dX5_answers_2 (by decide) ?_
  obtain ⟨r1, σ2, hr1, h⟩ := eu_b2_some h
  refine eg_callV C (cw_X5_answers_X5_judges_140 C) (av := [.int a1, .int (-1 : Int32)]) 25 (by decide) (kX5_judges hr1) rfl rfl rfl rfl (st := []) rfl (Nat.le_of_ble_eq_true rfl) dX5_answers_3 ?_
  refine eg_aload_n C 0 dX5_answers_6 rfl ?_
  refine eg_aload_n C 0 dX5_answers_7 rfl ?_
  refine eg_iload_n C 1 dX5_answers_8 rfl ?_
  obtain ⟨r3, hr3, h⟩ := eu_bd_some h
  refine eg_callI C (cw_X5_answers_X5_standing_153 C) (av := [.int a1]) 25 (by decide) (kX5_standing hr3) rfl rfl rfl rfl (st := [.ref (eu_ad E 25)]) rfl (Nat.le_of_ble_eq_true rfl) dX5_answers_9 ?_
  refine pf_X5_196 C (by decide) dX5_answers_12 ?_
  obtain ⟨σ4, eσ4, h⟩ := eu_lt_x h
  rw [← eσ4]
  refine eg_aload_n C 0 dX5_answers_15 rfl ?_
  refine eg_iconst C (-1 : Int32) dX5_answers_16 (by decide) ?_
  refine pf_X5_199 C (by decide) dX5_answers_17 ?_
  obtain ⟨σ5, eσ5, h⟩ := eu_lt_x h
  rw [← eσ5]
  refine eg_iconst C (0 : Int32) dX5_answers_20 (by decide) ?_
  refine eg_istore_n C [(3, .int (0 : Int32)), (0, .ref (eu_ad E 25)), (1, .int a1), (2, .int a2)] dX5_answers_21 rfl (by decide) rfl ?_
  refine eg_sub C [1, 2, 3, 0] rfl ?_
  exact wX5_answers_L22 C 200 _ _ _ _ h
theorem kX5_answers {l : Launch} {σ : eu_T} {r : Int32} {σ' : eu_T} {a1 : Int32} {a2 : Int32}  (h : fX5_answers σ a1 a2 = some (r, σ')) : eu_KV l yX5_answers (Cond.code yX5_answers cX5_answers 5 none :: eu_TB) ({ frames := 4, cells := 0, slots := 0, locals := 92 } : Room) 25 12 (fun ad => [.ref (ad 25), .int a1, .int a2]) σ σ' r :=
  eu_KV_of (by decide) (by decide) rfl (fun _ => Nat.le_of_ble_eq_true rfl) (fun E C => wX5_answers C h)
theorem cw_X5_lastOf_X5_answers_205 {E : eu_E} (C : eu_C E ({ frames := 5, cells := 0, slots := 0, locals := 116 } : Room) 25 12 8 cX5_lastOf RX5 (Cond.code yX5_lastOf cX5_lastOf 8 (some .int) :: eu_TB) (some .int)) : CallW (eu_R E) (eu_s E) (eu_a E) RX5 RX5 205 yX5_answers cX5_answers 5 none (Cond.code yX5_answers cX5_answers 5 none :: eu_TB) ({ frames := 4, cells := 0, slots := 0, locals := 92 } : Room) 0 0 2 := eu_cwV C tw_469 tw_470 tw_471 tw_5 tw_472 rfl rfl (by decide +kernel) (by decide)
theorem cw_X5_lastOf_X5_worthOf_202 {E : eu_E} (C : eu_C E ({ frames := 5, cells := 0, slots := 0, locals := 116 } : Room) 25 12 8 cX5_lastOf RX5 (Cond.code yX5_lastOf cX5_lastOf 8 (some .int) :: eu_TB) (some .int)) : CallW (eu_R E) (eu_s E) (eu_a E) RX5 RX5 202 yX5_worthOf cX5_worthOf 5 (some .int) (Cond.code yX5_worthOf cX5_worthOf 5 (some .int) :: eu_TB) ({ frames := 1, cells := 0, slots := 0, locals := 21 } : Room) 0 0 2 := eu_cwV C tw_473 tw_474 tw_475 tw_5 tw_476 rfl rfl (by decide +kernel) (by decide)
theorem cw_X5_lastOf_X5_adds_174 {E : eu_E} (C : eu_C E ({ frames := 5, cells := 0, slots := 0, locals := 116 } : Room) 25 12 8 cX5_lastOf RX5 (Cond.code yX5_lastOf cX5_lastOf 8 (some .int) :: eu_TB) (some .int)) : CallW (eu_R E) (eu_s E) (eu_a E) RX5 RX5 174 yX5_adds cX5_adds 3 (some .boolean) (Cond.code yX5_adds cX5_adds 3 (some .boolean) :: eu_TB) ({ frames := 3, cells := 0, slots := 0, locals := 68 } : Room) 0 0 2 := eu_cwV C tw_413 tw_414 tw_415 tw_5 tw_416 rfl rfl (by decide +kernel) (by decide)
set_option maxHeartbeats 4000000 in
set_option maxRecDepth 100000 in
theorem wX5_lastOf_L27 {E : eu_E} (C : eu_C E ({ frames := 5, cells := 0, slots := 0, locals := 116 } : Room) 25 12 8 cX5_lastOf RX5 (Cond.code yX5_lastOf cX5_lastOf 8 (some .int) :: eu_TB) (some .int)) {r : Int32} {σ' : eu_T}   : ∀ (n : Nat) (σ : eu_T) (v1 : Int32) (v2 : Int32) (v3 : Int32) (v4 : Int32) (v5 : Int32) (v6 : Int32) (v7 : Int32), fX5_lastOf_L27 n σ v1 v2 v3 v4 v5 v6 v7 = some (r, σ') → eu_G E 25 12 8 (eu_QI E 25 12 σ' r) σ 27 [(0, .ref (eu_ad E 25)), (1, .int v1), (2, .int v2), (3, .int v3), (4, .int v4), (5, .int v5), (6, .int v6), (7, .int v7)] [] := by
  intro n
  induction n with
  | zero =>
    intro σ v1 v2 v3 v4 v5 v6 v7  h
    rw [fX5_lastOf_L27_z] at h
    cases h
  | succ n ih =>
    intro σ v1 v2 v3 v4 v5 v6 v7  h
    rw [fX5_lastOf_L27_s] at h
    refine eg_iload C 7 dX5_lastOf_27 rfl ?_
    refine eg_bipush C (24 : Int32) dX5_lastOf_29 (by decide) ?_
    refine eg_icmp_ge C 104 dX5_lastOf_31 (by decide) (fun c => ?_) (fun c => ?_)
    · rw [if_pos c] at h
      refine eg_iload_n C 3 dX5_lastOf_104 rfl ?_
      refine eg_if_ne C 118 dX5_lastOf_105 (by decide) (fun c => ?_) (fun c => ?_)
      · rw [if_neg c] at h
        refine eg_iload_n C 3 dX5_lastOf_118 rfl ?_
        refine eg_iconst C (1 : Int32) dX5_lastOf_119 (by decide) ?_
        refine eg_icmp_ne C 133 dX5_lastOf_120 (by decide) (fun c => ?_) (fun c => ?_)
        · rw [if_neg c] at h
          refine eg_iload_n C 3 dX5_lastOf_133 rfl ?_
          refine eg_iconst C (2 : Int32) dX5_lastOf_134 (by decide) ?_
          refine eg_icmp_ne C 143 dX5_lastOf_135 (by decide) (fun c => ?_) (fun c => ?_)
          · rw [if_neg c] at h
            refine eg_iload C 6 dX5_lastOf_143 rfl ?_
            obtain ⟨rfl, rfl⟩ := eu_inj2 h
            exact eg_iret C rfl dX5_lastOf_145
          · rw [if_pos c] at h
            refine eg_iload C 5 dX5_lastOf_138 rfl ?_
            refine eg_goto C 145 dX5_lastOf_140 (by decide) ?_
            obtain ⟨rfl, rfl⟩ := eu_inj2 h
            exact eg_iret C rfl dX5_lastOf_145
        · rw [if_pos c] at h
          refine eg_aload_n C 0 dX5_lastOf_123 rfl ?_
          refine eg_iload_n C 2 dX5_lastOf_124 rfl ?_
          refine eg_iload C 4 dX5_lastOf_125 rfl ?_
          obtain ⟨r3, hr3, h⟩ := eu_bd_some h
          refine eg_callI C (cw_X5_lastOf_X5_worthOf_202 C) (av := [.int v2, .int v4]) 25 (by decide) (kX5_worthOf hr3) rfl rfl rfl rfl (st := []) rfl (Nat.le_of_ble_eq_true rfl) dX5_lastOf_127 ?_
          refine eg_goto C 145 dX5_lastOf_130 (by decide) ?_
          obtain ⟨rfl, rfl⟩ := eu_inj2 h
          exact eg_iret C rfl dX5_lastOf_145
      · rw [if_pos c] at h
        refine eg_aload_n C 0 dX5_lastOf_108 rfl ?_
        refine eg_iload_n C 1 dX5_lastOf_109 rfl ?_
        refine eg_iload C 4 dX5_lastOf_110 rfl ?_
        obtain ⟨r4, hr4, h⟩ := eu_bd_some h
        refine eg_callI C (cw_X5_lastOf_X5_worthOf_202 C) (av := [.int v1, .int v4]) 25 (by decide) (kX5_worthOf hr4) rfl rfl rfl rfl (st := []) rfl (Nat.le_of_ble_eq_true rfl) dX5_lastOf_112 ?_
        refine eg_goto C 145 dX5_lastOf_115 (by decide) ?_
        obtain ⟨rfl, rfl⟩ := eu_inj2 h
        exact eg_iret C rfl dX5_lastOf_145
    · rw [if_neg c] at h
      refine eg_aload_n C 0 dX5_lastOf_34 rfl ?_
      refine eg_aload_n C 0 dX5_lastOf_35 rfl ?_
      refine gf_X5_108 C (by decide) dX5_lastOf_36 ?_
      refine eg_bipush C (24 : Int32) dX5_lastOf_39 (by decide) ?_
      refine eg_iload_n C 1 dX5_lastOf_41 rfl ?_
      refine eg_imul C dX5_lastOf_42 ?_
      refine eg_iload C 7 dX5_lastOf_43 rfl ?_
      refine eg_iadd C dX5_lastOf_45 ?_
      obtain ⟨r5, σ6, hr5, h⟩ := eu_b2_some h
      refine eg_callI C (cw_X5_lastOf_X5_adds_174 C) (av := [.int (σ 25 10), .int (((24 : Int32) * v1) + v7)]) 25 (by decide) (kX5_adds hr5) rfl rfl rfl rfl (st := []) rfl (Nat.le_of_ble_eq_true rfl) dX5_lastOf_46 ?_
      refine eg_if_eq C 98 dX5_lastOf_49 (by decide) (fun c => ?_) (fun c => ?_)
      · rw [if_pos c] at h
        refine eg_iinc C 7 (v7 + (1 : Int32)) [(7, .int (v7 + (1 : Int32))), (0, .ref (eu_ad E 25)), (1, .int v1), (2, .int v2), (3, .int v3), (4, .int v4), (5, .int v5), (6, .int v6)] dX5_lastOf_98 rfl rfl (by decide) rfl ?_
        refine eg_goto C 27 dX5_lastOf_101 (by decide) ?_
        refine eg_sub C [1, 2, 3, 4, 5, 6, 7, 0] rfl ?_
        exact ih _ _ _ _ _ _ _ _ h
      · rw [if_neg c] at h
        refine eg_aload_n C 0 dX5_lastOf_52 rfl ?_
        refine eg_aload_n C 0 dX5_lastOf_53 rfl ?_
        refine gf_X5_108 C (by decide) dX5_lastOf_54 ?_
        refine eg_iconst C (1 : Int32) dX5_lastOf_57 (by decide) ?_
        refine eg_iadd C dX5_lastOf_58 ?_
        refine eg_iload_n C 2 dX5_lastOf_59 rfl ?_
        obtain ⟨r7, σ8, hr7, h⟩ := eu_b2_some h
        refine eg_callV C (cw_X5_lastOf_X5_answers_205 C) (av := [.int ((σ6 25 10) + (1 : Int32)), .int v2]) 25 (by decide) (kX5_answers hr7) rfl rfl rfl rfl (st := []) rfl (Nat.le_of_ble_eq_true rfl) dX5_lastOf_60 ?_
        refine eg_aload_n C 0 dX5_lastOf_63 rfl ?_
        refine eg_iload_n C 1 dX5_lastOf_64 rfl ?_
        refine eg_aload_n C 0 dX5_lastOf_65 rfl ?_
        refine gf_X5_196 C (by decide) dX5_lastOf_66 ?_
        obtain ⟨r9, hr9, h⟩ := eu_bd_some h
        refine eg_callI C (cw_X5_lastOf_X5_worthOf_202 C) (av := [.int v1, .int (σ8 25 19)]) 25 (by decide) (kX5_worthOf hr9) rfl rfl rfl rfl (st := []) rfl (Nat.le_of_ble_eq_true rfl) dX5_lastOf_69 ?_
        refine eg_aload_n C 0 dX5_lastOf_72 rfl ?_
        refine eg_iload_n C 1 dX5_lastOf_73 rfl ?_
        refine eg_iload C 4 dX5_lastOf_74 rfl ?_
        obtain ⟨r10, hr10, h⟩ := eu_bd_some h
        refine eg_callI C (cw_X5_lastOf_X5_worthOf_202 C) (av := [.int v1, .int v4]) 25 (by decide) (kX5_worthOf hr10) rfl rfl rfl rfl (st := [.int r9]) rfl (Nat.le_of_ble_eq_true rfl) dX5_lastOf_76 ?_
        refine eg_icmp_le C 98 dX5_lastOf_79 (by decide) (fun c => ?_) (fun c => ?_)
        · rw [if_pos c] at h
          refine eg_iinc C 7 (v7 + (1 : Int32)) [(7, .int (v7 + (1 : Int32))), (0, .ref (eu_ad E 25)), (1, .int v1), (2, .int v2), (3, .int v3), (4, .int v4), (5, .int v5), (6, .int v6)] dX5_lastOf_98 rfl rfl (by decide) rfl ?_
          refine eg_goto C 27 dX5_lastOf_101 (by decide) ?_
          refine eg_sub C [1, 2, 3, 4, 5, 6, 7, 0] rfl ?_
          exact ih _ _ _ _ _ _ _ _ h
        · rw [if_neg c] at h
          refine eg_aload_n C 0 dX5_lastOf_82 rfl ?_
          refine gf_X5_196 C (by decide) dX5_lastOf_83 ?_
          refine eg_istore C [(4, .int (σ8 25 19)), (0, .ref (eu_ad E 25)), (1, .int v1), (2, .int v2), (3, .int v3), (5, .int v5), (6, .int v6), (7, .int v7)] dX5_lastOf_86 (by decide) rfl ?_
          refine eg_iload C 7 dX5_lastOf_88 rfl ?_
          refine eg_istore C [(5, .int v7), (4, .int (σ8 25 19)), (0, .ref (eu_ad E 25)), (1, .int v1), (2, .int v2), (3, .int v3), (6, .int v6), (7, .int v7)] dX5_lastOf_90 (by decide) rfl ?_
          refine eg_aload_n C 2 dX5_lastOf_92 rfl ?_
          refine gf_X5_199 C (by decide) dX5_lastOf_93 ?_
          refine eg_istore C [(6, .int (σ8 25 18)), (5, .int v7), (4, .int (σ8 25 19)), (0, .ref (eu_ad E 25)), (1, .int v1), (2, .int v2), (3, .int v3), (7, .int v7)] dX5_lastOf_96 (by decide) rfl ?_
          refine eg_iinc C 7 (v7 + (1 : Int32)) [(7, .int (v7 + (1 : Int32))), (6, .int (σ8 25 18)), (5, .int v7), (4, .int (σ8 25 19)), (0, .ref (eu_ad E 25)), (1, .int v1), (2, .int v2), (3, .int v3)] dX5_lastOf_98 rfl rfl (by decide) rfl ?_
          refine eg_goto C 27 dX5_lastOf_101 (by decide) ?_
          refine eg_sub C [4, 5, 6, 7, 3, 2, 1, 0] rfl ?_
          exact ih _ _ _ _ _ _ _ _ h
set_option maxHeartbeats 4000000 in
set_option maxRecDepth 100000 in
theorem wX5_lastOf {E : eu_E} (C : eu_C E ({ frames := 5, cells := 0, slots := 0, locals := 116 } : Room) 25 12 8 cX5_lastOf RX5 (Cond.code yX5_lastOf cX5_lastOf 8 (some .int) :: eu_TB) (some .int)) {σ : eu_T} {r : Int32} {σ' : eu_T} {a1 : Int32} {a2 : Int32} {a3 : Int32}  (h : fX5_lastOf σ a1 a2 a3 = some (r, σ')) : eu_G E 25 12 8 (eu_QI E 25 12 σ' r) σ 0 [(0, .ref (eu_ad E 25)), (1, .int a1), (2, .int a2), (3, .int a3)] [] := by
  unfold fX5_lastOf at h
  refine eg_aload_n C 0 dX5_lastOf_0 rfl ?_
  refine eg_aload_n C 0 dX5_lastOf_1 rfl ?_
  refine gf_X5_108 C (by decide) dX5_lastOf_2 ?_
  refine eg_iload_n C 2 dX5_lastOf_5 rfl ?_
  obtain ⟨r1, σ2, hr1, h⟩ := eu_b2_some h
  refine eg_callV C (cw_X5_lastOf_X5_answers_205 C) (av := [.int (σ 25 10), .int a2]) 25 (by decide) (kX5_answers hr1) rfl rfl rfl rfl (st := []) rfl (Nat.le_of_ble_eq_true rfl) dX5_lastOf_6 ?_
  refine eg_aload_n C 0 dX5_lastOf_9 rfl ?_
  refine gf_X5_196 C (by decide) dX5_lastOf_10 ?_
  refine eg_istore C [(4, .int (σ2 25 19)), (0, .ref (eu_ad E 25)), (1, .int a1), (2, .int a2), (3, .int a3)] dX5_lastOf_13 (by decide) rfl ?_
  refine eg_iconst C (-1 : Int32) dX5_lastOf_15 (by decide) ?_
  refine eg_istore C [(5, .int (-1 : Int32)), (4, .int (σ2 25 19)), (0, .ref (eu_ad E 25)), (1, .int a1), (2, .int a2), (3, .int a3)] dX5_lastOf_16 (by decide) rfl ?_
  refine eg_aload_n C 2 dX5_lastOf_18 rfl ?_
  refine gf_X5_199 C (by decide) dX5_lastOf_19 ?_
  refine eg_istore C [(6, .int (σ2 25 18)), (5, .int (-1 : Int32)), (4, .int (σ2 25 19)), (0, .ref (eu_ad E 25)), (1, .int a1), (2, .int a2), (3, .int a3)] dX5_lastOf_22 (by decide) rfl ?_
  refine eg_iconst C (0 : Int32) dX5_lastOf_24 (by decide) ?_
  refine eg_istore C [(7, .int (0 : Int32)), (6, .int (σ2 25 18)), (5, .int (-1 : Int32)), (4, .int (σ2 25 19)), (0, .ref (eu_ad E 25)), (1, .int a1), (2, .int a2), (3, .int a3)] dX5_lastOf_25 (by decide) rfl ?_
  refine eg_sub C [4, 5, 6, 7, 3, 2, 1, 0] rfl ?_
  exact wX5_lastOf_L27 C 200 _ _ _ _ _ _ _ _ h
theorem kX5_lastOf {l : Launch} {σ : eu_T} {r : Int32} {σ' : eu_T} {a1 : Int32} {a2 : Int32} {a3 : Int32}  (h : fX5_lastOf σ a1 a2 a3 = some (r, σ')) : eu_KI l yX5_lastOf (Cond.code yX5_lastOf cX5_lastOf 8 (some .int) :: eu_TB) ({ frames := 5, cells := 0, slots := 0, locals := 116 } : Room) 25 12 (fun ad => [.ref (ad 25), .int a1, .int a2, .int a3]) σ σ' r :=
  eu_KI_of (by decide) (by decide) rfl (fun _ => Nat.le_of_ble_eq_true rfl) (fun E C => wX5_lastOf C h)
theorem cw_X5_last_X5_reads_100 {E : eu_E} (C : eu_C E ({ frames := 6, cells := 0, slots := 0, locals := 143 } : Room) 25 12 4 cX5_last RX5 (Cond.code yX5_last cX5_last 4 (some .int) :: eu_TB) (some .int)) : CallW (eu_R E) (eu_s E) (eu_a E) RX5 RX5 100 yX5_reads cX5_reads 2 (some .int) (Cond.code yX5_reads cX5_reads 2 (some .int) :: eu_TB) ({ frames := 2, cells := 0, slots := 0, locals := 48 } : Room) 0 0 0 := eu_cwV C tw_131 tw_132 tw_133 tw_5 tw_134 rfl rfl (by decide +kernel) (by decide)
theorem cw_X5_last_X5_in_44 {E : eu_E} (C : eu_C E ({ frames := 6, cells := 0, slots := 0, locals := 143 } : Room) 25 12 4 cX5_last RX5 (Cond.code yX5_last cX5_last 4 (some .int) :: eu_TB) (some .int)) : CallB (eu_R E) (eu_s E) (eu_a E) RX5 44 yX5_in cX5_in 6 (some .boolean) (Cond.code yX5_in cX5_in 6 (some .boolean) :: eu_TB) ({ frames := 0, cells := 0, slots := 0, locals := 0 } : Room) 0 0 3 ∧ (Cond.static yX5_in).before (eu_a E) (eu_s E) = true := eu_cwS C tw_109 tw_110 tw_5 tw_111 rfl rfl (by decide +kernel) (by decide)
theorem cw_X5_last_X5_lastOf_208 {E : eu_E} (C : eu_C E ({ frames := 6, cells := 0, slots := 0, locals := 143 } : Room) 25 12 4 cX5_last RX5 (Cond.code yX5_last cX5_last 4 (some .int) :: eu_TB) (some .int)) : CallW (eu_R E) (eu_s E) (eu_a E) RX5 RX5 208 yX5_lastOf cX5_lastOf 8 (some .int) (Cond.code yX5_lastOf cX5_lastOf 8 (some .int) :: eu_TB) ({ frames := 5, cells := 0, slots := 0, locals := 116 } : Room) 0 0 3 := eu_cwV C tw_463 tw_464 tw_465 tw_5 tw_466 rfl rfl (by decide +kernel) (by decide)
set_option maxHeartbeats 4000000 in
set_option maxRecDepth 100000 in
theorem wX5_last_J56 {E : eu_E} (C : eu_C E ({ frames := 6, cells := 0, slots := 0, locals := 143 } : Room) 25 12 4 cX5_last RX5 (Cond.code yX5_last cX5_last 4 (some .int) :: eu_TB) (some .int)) {r : Int32} {σ' : eu_T}   (σ : eu_T)  (h : fX5_last_J56  σ = some (r, σ')) : eu_G E 25 12 4 (eu_QI E 25 12 σ' r) σ 56 [] [] := by
  unfold fX5_last_J56 at h
  refine eg_sipush C (-1002 : Int32) dX5_last_56 (by decide) ?_
  obtain ⟨rfl, rfl⟩ := eu_inj2 h
  exact eg_iret C rfl dX5_last_59
set_option maxHeartbeats 4000000 in
set_option maxRecDepth 100000 in
theorem wX5_last {E : eu_E} (C : eu_C E ({ frames := 6, cells := 0, slots := 0, locals := 143 } : Room) 25 12 4 cX5_last RX5 (Cond.code yX5_last cX5_last 4 (some .int) :: eu_TB) (some .int)) {σ : eu_T} {r : Int32} {σ' : eu_T} {a1 : Int32} {a2 : Int32} {a3 : Int32}  (h : fX5_last σ a1 a2 a3 = some (r, σ')) : eu_G E 25 12 4 (eu_QI E 25 12 σ' r) σ 0 [(0, .ref (eu_ad E 25)), (1, .int a1), (2, .int a2), (3, .int a3)] [] := by
  unfold fX5_last at h
  refine eg_aload_n C 0 dX5_last_0 rfl ?_
  obtain ⟨r1, σ2, hr1, h⟩ := eu_b2_some h
  refine eg_callI C (cw_X5_last_X5_reads_100 C) (av := []) 25 (by decide) (kX5_reads hr1) rfl rfl rfl rfl (st := []) rfl (Nat.le_of_ble_eq_true rfl) dX5_last_1 ?_
  refine eg_pop C dX5_last_4 rfl ?_
  refine eg_iload_n C 1 dX5_last_5 rfl ?_
  refine eg_i2l C dX5_last_6 ?_
  refine eg_lconst C (0 : Int64) dX5_last_7 (by decide) ?_
  refine eg_ldc2 C (5 : Int64) dX5_last_8 (List.mem_cons_of_mem _ tw_141) ?_
  refine eg_scallI C (cw_X5_last_X5_in_44 C) (av := [.long a1.toInt64, .long (0 : Int64), .long (5 : Int64)]) (kX5_in rfl) rfl (st := []) rfl (Nat.le_of_ble_eq_true rfl) dX5_last_11 ?_
  refine eg_if_eq C 56 dX5_last_14 (by decide) (fun c => ?_) (fun c => ?_)
  · rw [if_pos c] at h
    refine eg_sub C [] rfl ?_
    exact wX5_last_J56 C _ h
  · rw [if_neg c] at h
    refine eg_iload_n C 2 dX5_last_17 rfl ?_
    refine eg_i2l C dX5_last_18 ?_
    refine eg_lconst C (0 : Int64) dX5_last_19 (by decide) ?_
    refine eg_ldc2 C (5 : Int64) dX5_last_20 (List.mem_cons_of_mem _ tw_141) ?_
    refine eg_scallI C (cw_X5_last_X5_in_44 C) (av := [.long a2.toInt64, .long (0 : Int64), .long (5 : Int64)]) (kX5_in rfl) rfl (st := []) rfl (Nat.le_of_ble_eq_true rfl) dX5_last_23 ?_
    refine eg_if_eq C 56 dX5_last_26 (by decide) (fun c => ?_) (fun c => ?_)
    · rw [if_pos c] at h
      refine eg_sub C [] rfl ?_
      exact wX5_last_J56 C _ h
    · rw [if_neg c] at h
      refine eg_iload_n C 1 dX5_last_29 rfl ?_
      refine eg_iload_n C 2 dX5_last_30 rfl ?_
      refine eg_icmp_eq C 56 dX5_last_31 (by decide) (fun c => ?_) (fun c => ?_)
      · rw [if_pos c] at h
        refine eg_sub C [] rfl ?_
        exact wX5_last_J56 C _ h
      · rw [if_neg c] at h
        refine eg_iload_n C 3 dX5_last_34 rfl ?_
        refine eg_i2l C dX5_last_35 ?_
        refine eg_lconst C (0 : Int64) dX5_last_36 (by decide) ?_
        refine eg_ldc2 C (3 : Int64) dX5_last_37 (List.mem_cons_of_mem _ tw_202) ?_
        refine eg_scallI C (cw_X5_last_X5_in_44 C) (av := [.long a3.toInt64, .long (0 : Int64), .long (3 : Int64)]) (kX5_in rfl) rfl (st := []) rfl (Nat.le_of_ble_eq_true rfl) dX5_last_40 ?_
        refine eg_if_eq C 56 dX5_last_43 (by decide) (fun c => ?_) (fun c => ?_)
        · rw [if_pos c] at h
          refine eg_sub C [] rfl ?_
          exact wX5_last_J56 C _ h
        · rw [if_neg c] at h
          refine eg_aload_n C 0 dX5_last_46 rfl ?_
          refine eg_iload_n C 1 dX5_last_47 rfl ?_
          refine eg_iload_n C 2 dX5_last_48 rfl ?_
          refine eg_iload_n C 3 dX5_last_49 rfl ?_
          obtain ⟨r3, σ4, hr3, h⟩ := eu_b2_some h
          refine eg_callI C (cw_X5_last_X5_lastOf_208 C) (av := [.int a1, .int a2, .int a3]) 25 (by decide) (kX5_lastOf hr3) rfl rfl rfl rfl (st := []) rfl (Nat.le_of_ble_eq_true rfl) dX5_last_50 ?_
          refine eg_goto C 59 dX5_last_53 (by decide) ?_
          obtain ⟨rfl, rfl⟩ := eu_inj2 h
          exact eg_iret C rfl dX5_last_59
theorem kX5_last {l : Launch} {σ : eu_T} {r : Int32} {σ' : eu_T} {a1 : Int32} {a2 : Int32} {a3 : Int32}  (h : fX5_last σ a1 a2 a3 = some (r, σ')) : eu_KI l yX5_last (Cond.code yX5_last cX5_last 4 (some .int) :: eu_TB) ({ frames := 6, cells := 0, slots := 0, locals := 143 } : Room) 25 12 (fun ad => [.ref (ad 25), .int a1, .int a2, .int a3]) σ σ' r :=
  eu_KI_of (by decide) (by decide) rfl (fun _ => Nat.le_of_ble_eq_true rfl) (fun E C => wX5_last C h)
theorem cw_X5_seen_X5_in_44 {E : eu_E} (C : eu_C E ({ frames := 2, cells := 0, slots := 0, locals := 45 } : Room) 25 12 3 cX5_seen RX5 (Cond.code yX5_seen cX5_seen 3 (some .int) :: eu_TB) (some .int)) : CallB (eu_R E) (eu_s E) (eu_a E) RX5 44 yX5_in cX5_in 6 (some .boolean) (Cond.code yX5_in cX5_in 6 (some .boolean) :: eu_TB) ({ frames := 0, cells := 0, slots := 0, locals := 0 } : Room) 0 0 3 ∧ (Cond.static yX5_in).before (eu_a E) (eu_s E) = true := eu_cwS C tw_109 tw_110 tw_5 tw_111 rfl rfl (by decide +kernel) (by decide)
theorem cw_X5_seen_X5_isTwo_156 {E : eu_E} (C : eu_C E ({ frames := 2, cells := 0, slots := 0, locals := 45 } : Room) 25 12 3 cX5_seen RX5 (Cond.code yX5_seen cX5_seen 3 (some .int) :: eu_TB) (some .int)) : CallB (eu_R E) (eu_s E) (eu_a E) RX5 156 yX5_isTwo cX5_isTwo 1 (some .boolean) (Cond.code yX5_isTwo cX5_isTwo 1 (some .boolean) :: eu_TB) ({ frames := 1, cells := 0, slots := 0, locals := 25 } : Room) 0 0 1 ∧ (Cond.static yX5_isTwo).before (eu_a E) (eu_s E) = true := eu_cwS C tw_312 tw_313 tw_5 tw_314 rfl rfl (by decide +kernel) (by decide)
set_option maxHeartbeats 4000000 in
set_option maxRecDepth 100000 in
theorem wX5_seen {E : eu_E} (C : eu_C E ({ frames := 2, cells := 0, slots := 0, locals := 45 } : Room) 25 12 3 cX5_seen RX5 (Cond.code yX5_seen cX5_seen 3 (some .int) :: eu_TB) (some .int)) {σ : eu_T} {r : Int32} {σ' : eu_T} {a1 : Int32} {a2 : Int32}  (h : fX5_seen σ a1 a2 = some (r, σ')) : eu_G E 25 12 3 (eu_QI E 25 12 σ' r) σ 0 [(0, .ref (eu_ad E 25)), (1, .int a1), (2, .int a2)] [] := by
  unfold fX5_seen at h
  refine eg_iload_n C 1 dX5_seen_0 rfl ?_
  refine eg_i2l C dX5_seen_1 ?_
  refine eg_lconst C (0 : Int64) dX5_seen_2 (by decide) ?_
  refine eg_ldc2 C (11 : Int64) dX5_seen_3 (List.mem_cons_of_mem _ tw_225) ?_
  refine eg_scallI C (cw_X5_seen_X5_in_44 C) (av := [.long a1.toInt64, .long (0 : Int64), .long (11 : Int64)]) (kX5_in rfl) rfl (st := []) rfl (Nat.le_of_ble_eq_true rfl) dX5_seen_6 ?_
  refine eg_if_eq C 19 dX5_seen_9 (by decide) (fun c => ?_) (fun c => ?_)
  · rw [if_pos c] at h
    refine eg_bipush C (-2 : Int32) dX5_seen_19 (by decide) ?_
    obtain ⟨rfl, rfl⟩ := eu_inj2 h
    exact eg_iret C rfl dX5_seen_21
  · rw [if_neg c] at h
    refine eg_iload_n C 2 dX5_seen_12 rfl ?_
    refine eg_scallI C (cw_X5_seen_X5_isTwo_156 C) (av := [.int a2]) (kX5_isTwo rfl) rfl (st := []) rfl (Nat.le_of_ble_eq_true rfl) dX5_seen_13 ?_
    refine eg_if_ne C 22 dX5_seen_16 (by decide) (fun c => ?_) (fun c => ?_)
    · rw [if_neg c] at h
      refine eg_aload_n C 0 dX5_seen_22 rfl ?_
      refine gf_X5_211 C (by decide) dX5_seen_23 ?_
      refine eg_bipush C (8 : Int32) dX5_seen_26 (by decide) ?_
      refine eg_icmp_ne C 34 dX5_seen_28 (by decide) (fun c => ?_) (fun c => ?_)
      · rw [if_neg c] at h
        refine eg_aload_n C 0 dX5_seen_34 rfl ?_
        refine gf_X5_41 C (by decide) dX5_seen_35 ?_
        refine eg_iconst C (2 : Int32) dX5_seen_38 (by decide) ?_
        refine eg_aload_n C 0 dX5_seen_39 rfl ?_
        refine gf_X5_211 C (by decide) dX5_seen_40 ?_
        refine eg_imul C dX5_seen_43 ?_
        refine eg_iload_n C 1 dX5_seen_44 rfl ?_
        obtain ⟨g1, h⟩ := eu_gd_some h
        refine eg_iast C 36 (by decide) (z := 16) (fun _ => rfl) (eu_in_vp g1) dX5_seen_45 ?_
        obtain ⟨σ2, eσ2, h⟩ := eu_lt_x h
        rw [← eσ2]
        refine eg_aload_n C 0 dX5_seen_46 rfl ?_
        refine gf_X5_41 C (by decide) dX5_seen_47 ?_
        refine eg_iconst C (2 : Int32) dX5_seen_50 (by decide) ?_
        refine eg_aload_n C 0 dX5_seen_51 rfl ?_
        refine gf_X5_211 C (by decide) dX5_seen_52 ?_
        refine eg_imul C dX5_seen_55 ?_
        refine eg_iconst C (1 : Int32) dX5_seen_56 (by decide) ?_
        refine eg_iadd C dX5_seen_57 ?_
        refine eg_iload_n C 2 dX5_seen_58 rfl ?_
        obtain ⟨g3, h⟩ := eu_gd_some h
        refine eg_iast C 36 (by decide) (z := 16) (fun _ => rfl) (eu_in_vp g3) dX5_seen_59 ?_
        obtain ⟨σ4, eσ4, h⟩ := eu_lt_x h
        rw [← eσ4]
        refine eg_aload_n C 0 dX5_seen_60 rfl ?_
        refine eg_dup C dX5_seen_61 rfl ?_
        refine gf_X5_211 C (by decide) dX5_seen_62 ?_
        refine eg_iconst C (1 : Int32) dX5_seen_65 (by decide) ?_
        refine eg_iadd C dX5_seen_66 ?_
        refine pf_X5_211 C (by decide) dX5_seen_67 ?_
        obtain ⟨σ5, eσ5, h⟩ := eu_lt_x h
        rw [← eσ5]
        refine eg_aload_n C 0 dX5_seen_70 rfl ?_
        refine gf_X5_211 C (by decide) dX5_seen_71 ?_
        obtain ⟨rfl, rfl⟩ := eu_inj2 h
        exact eg_iret C rfl dX5_seen_74
      · rw [if_pos c] at h
        refine eg_bipush C (-4 : Int32) dX5_seen_31 (by decide) ?_
        obtain ⟨rfl, rfl⟩ := eu_inj2 h
        exact eg_iret C rfl dX5_seen_33
    · rw [if_pos c] at h
      refine eg_bipush C (-2 : Int32) dX5_seen_19 (by decide) ?_
      obtain ⟨rfl, rfl⟩ := eu_inj2 h
      exact eg_iret C rfl dX5_seen_21
theorem kX5_seen {l : Launch} {σ : eu_T} {r : Int32} {σ' : eu_T} {a1 : Int32} {a2 : Int32}  (h : fX5_seen σ a1 a2 = some (r, σ')) : eu_KI l yX5_seen (Cond.code yX5_seen cX5_seen 3 (some .int) :: eu_TB) ({ frames := 2, cells := 0, slots := 0, locals := 45 } : Room) 25 12 (fun ad => [.ref (ad 25), .int a1, .int a2]) σ σ' r :=
  eu_KI_of (by decide) (by decide) rfl (fun _ => Nat.le_of_ble_eq_true rfl) (fun E C => wX5_seen C h)
set_option maxHeartbeats 4000000 in
set_option maxRecDepth 100000 in
theorem wX5_forget {E : eu_E} (C : eu_C E ({ frames := 0, cells := 0, slots := 0, locals := 0 } : Room) 25 12 2 cX5_forget RX5 (Cond.code yX5_forget cX5_forget 2 (some .int) :: eu_TB) (some .int)) {σ : eu_T} {r : Int32} {σ' : eu_T}   (h : fX5_forget σ = some (r, σ')) : eu_G E 25 12 2 (eu_QI E 25 12 σ' r) σ 0 [(0, .ref (eu_ad E 25))] [] := by
  unfold fX5_forget at h
  refine eg_aload_n C 0 dX5_forget_0 rfl ?_
  refine gf_X5_211 C (by decide) dX5_forget_1 ?_
  refine eg_istore_n C [(1, .int (σ 25 20)), (0, .ref (eu_ad E 25))] dX5_forget_4 rfl (by decide) rfl ?_
  refine eg_aload_n C 1 dX5_forget_5 rfl ?_
  refine eg_iconst C (0 : Int32) dX5_forget_6 (by decide) ?_
  refine pf_X5_211 C (by decide) dX5_forget_7 ?_
  obtain ⟨σ1, eσ1, h⟩ := eu_lt_x h
  rw [← eσ1]
  refine eg_iload_n C 0 dX5_forget_10 rfl ?_
  obtain ⟨rfl, rfl⟩ := eu_inj2 h
  exact eg_iret C rfl dX5_forget_11
theorem kX5_forget {l : Launch} {σ : eu_T} {r : Int32} {σ' : eu_T}   (h : fX5_forget σ = some (r, σ')) : eu_KI l yX5_forget (Cond.code yX5_forget cX5_forget 2 (some .int) :: eu_TB) ({ frames := 0, cells := 0, slots := 0, locals := 0 } : Room) 25 12 (fun ad => [.ref (ad 25)]) σ σ' r :=
  eu_KI_of (by decide) (by decide) rfl (fun _ => Nat.le_of_ble_eq_true rfl) (fun E C => wX5_forget C h)
theorem cw_X5_oftenNow_X5_stateOf_159 {E : eu_E} (C : eu_C E ({ frames := 5, cells := 0, slots := 0, locals := 114 } : Room) 25 12 6 cX5_oftenNow RX5 (Cond.code yX5_oftenNow cX5_oftenNow 6 (some .int) :: eu_TB) (some .int)) : CallW (eu_R E) (eu_s E) (eu_a E) RX5 RX5 159 yX5_stateOf cX5_stateOf 3 (some .int) (Cond.code yX5_stateOf cX5_stateOf 3 (some .int) :: eu_TB) ({ frames := 4, cells := 0, slots := 0, locals := 92 } : Room) 0 0 2 := eu_cwV C tw_315 tw_316 tw_317 tw_5 tw_318 rfl rfl (by decide +kernel) (by decide)
set_option maxHeartbeats 4000000 in
set_option maxRecDepth 100000 in
theorem wX5_oftenNow_J70 {E : eu_E} (C : eu_C E ({ frames := 5, cells := 0, slots := 0, locals := 114 } : Room) 25 12 6 cX5_oftenNow RX5 (Cond.code yX5_oftenNow cX5_oftenNow 6 (some .int) :: eu_TB) (some .int)) {r : Int32} {σ' : eu_T} {k4 : eu_T → Int32 → Int32 → Option (Int32 × eu_T)} {k25 : eu_T → Int32 → Int32 → Int32 → Int32 → Int32 → Option (Int32 × eu_T)} (hk_4 : ∀ (σ : eu_T) (v1 : Int32) (v2 : Int32), k4 σ v1 v2 = some (r, σ') → eu_G E 25 12 6 (eu_QI E 25 12 σ' r) σ 4 [(0, .ref (eu_ad E 25)), (1, .int v1), (2, .int v2)] []) (hk_25 : ∀ (σ : eu_T) (v1 : Int32) (v2 : Int32) (v3 : Int32) (v4 : Int32) (v5 : Int32), k25 σ v1 v2 v3 v4 v5 = some (r, σ') → eu_G E 25 12 6 (eu_QI E 25 12 σ' r) σ 25 [(0, .ref (eu_ad E 25)), (1, .int v1), (2, .int v2), (3, .int v3), (4, .int v4), (5, .int v5)] []) (σ : eu_T) (v1 : Int32) (v2 : Int32) (v3 : Int32) (v5 : Int32)  (h : fX5_oftenNow_J70 k4 k25 σ v1 v2 v3 v5 = some (r, σ')) : eu_G E 25 12 6 (eu_QI E 25 12 σ' r) σ 70 [(0, .ref (eu_ad E 25)), (1, .int v1), (2, .int v2), (3, .int v3), (5, .int v5)] [] := by
  unfold fX5_oftenNow_J70 at h
  refine eg_iconst C (0 : Int32) dX5_oftenNow_70 (by decide) ?_
  refine eg_istore C [(4, .int (0 : Int32)), (0, .ref (eu_ad E 25)), (1, .int v1), (2, .int v2), (3, .int v3), (5, .int v5)] dX5_oftenNow_71 (by decide) rfl ?_
  refine eg_iinc C 5 (v5 + (1 : Int32)) [(5, .int (v5 + (1 : Int32))), (4, .int (0 : Int32)), (0, .ref (eu_ad E 25)), (1, .int v1), (2, .int v2), (3, .int v3)] dX5_oftenNow_73 rfl rfl (by decide) rfl ?_
  refine eg_goto C 25 dX5_oftenNow_76 (by decide) ?_
  refine eg_sub C [2, 3, 4, 5, 1, 0] rfl ?_
  exact hk_25 _ _ _ _ _ _ h
set_option maxHeartbeats 4000000 in
set_option maxRecDepth 100000 in
theorem wX5_oftenNow_L25 {E : eu_E} (C : eu_C E ({ frames := 5, cells := 0, slots := 0, locals := 114 } : Room) 25 12 6 cX5_oftenNow RX5 (Cond.code yX5_oftenNow cX5_oftenNow 6 (some .int) :: eu_TB) (some .int)) {r : Int32} {σ' : eu_T} {k4 : eu_T → Int32 → Int32 → Option (Int32 × eu_T)} (hk_4 : ∀ (σ : eu_T) (v1 : Int32) (v2 : Int32), k4 σ v1 v2 = some (r, σ') → eu_G E 25 12 6 (eu_QI E 25 12 σ' r) σ 4 [(0, .ref (eu_ad E 25)), (1, .int v1), (2, .int v2)] []) : ∀ (n : Nat) (σ : eu_T) (v1 : Int32) (v2 : Int32) (v3 : Int32) (v4 : Int32) (v5 : Int32), fX5_oftenNow_L25 k4 n σ v1 v2 v3 v4 v5 = some (r, σ') → eu_G E 25 12 6 (eu_QI E 25 12 σ' r) σ 25 [(0, .ref (eu_ad E 25)), (1, .int v1), (2, .int v2), (3, .int v3), (4, .int v4), (5, .int v5)] [] := by
  intro n
  induction n with
  | zero =>
    intro σ v1 v2 v3 v4 v5  h
    rw [fX5_oftenNow_L25_z] at h
    cases h
  | succ n ih =>
    intro σ v1 v2 v3 v4 v5  h
    rw [fX5_oftenNow_L25_s] at h
    refine eg_iload C 5 dX5_oftenNow_25 rfl ?_
    refine eg_aload_n C 0 dX5_oftenNow_27 rfl ?_
    refine gf_X5_211 C (by decide) dX5_oftenNow_28 ?_
    refine eg_icmp_ge C 79 dX5_oftenNow_31 (by decide) (fun c => ?_) (fun c => ?_)
    · rw [if_pos c] at h
      refine eg_iload_n C 1 dX5_oftenNow_79 rfl ?_
      refine eg_iload C 4 dX5_oftenNow_80 rfl ?_
      refine eg_if_eq C 91 dX5_oftenNow_82 (by decide) (fun c => ?_) (fun c => ?_)
      · rw [if_pos c] at h
        refine eg_iconst C (0 : Int32) dX5_oftenNow_91 (by decide) ?_
        refine eg_ior C dX5_oftenNow_92 ?_
        refine eg_istore_n C [(1, .int (v1 ||| (0 : Int32))), (0, .ref (eu_ad E 25)), (2, .int v2), (3, .int v3), (4, .int v4), (5, .int v5)] dX5_oftenNow_93 rfl (by decide) rfl ?_
        refine eg_iinc C 2 (v2 + (1 : Int32)) [(2, .int (v2 + (1 : Int32))), (1, .int (v1 ||| (0 : Int32))), (0, .ref (eu_ad E 25)), (3, .int v3), (4, .int v4), (5, .int v5)] dX5_oftenNow_94 rfl rfl (by decide) rfl ?_
        refine eg_goto C 4 dX5_oftenNow_97 (by decide) ?_
        refine eg_sub C [2, 1, 0] rfl ?_
        exact hk_4 _ _ _ h
      · rw [if_neg c] at h
        refine eg_iconst C (1 : Int32) dX5_oftenNow_85 (by decide) ?_
        refine eg_iload_n C 2 dX5_oftenNow_86 rfl ?_
        refine eg_ishl C dX5_oftenNow_87 ?_
        refine eg_goto C 92 dX5_oftenNow_88 (by decide) ?_
        refine eg_ior C dX5_oftenNow_92 ?_
        refine eg_istore_n C [(1, .int (v1 ||| ((1 : Int32) <<< (v2 &&& 31)))), (0, .ref (eu_ad E 25)), (2, .int v2), (3, .int v3), (4, .int v4), (5, .int v5)] dX5_oftenNow_93 rfl (by decide) rfl ?_
        refine eg_iinc C 2 (v2 + (1 : Int32)) [(2, .int (v2 + (1 : Int32))), (1, .int (v1 ||| ((1 : Int32) <<< (v2 &&& 31)))), (0, .ref (eu_ad E 25)), (3, .int v3), (4, .int v4), (5, .int v5)] dX5_oftenNow_94 rfl rfl (by decide) rfl ?_
        refine eg_goto C 4 dX5_oftenNow_97 (by decide) ?_
        refine eg_sub C [2, 1, 0] rfl ?_
        exact hk_4 _ _ _ h
    · rw [if_neg c] at h
      refine eg_iload C 4 dX5_oftenNow_34 rfl ?_
      refine eg_if_eq C 70 dX5_oftenNow_36 (by decide) (fun c => ?_) (fun c => ?_)
      · rw [if_pos c] at h
        refine eg_sub C [0, 1, 2, 3, 5] rfl ?_
        exact wX5_oftenNow_J70 C hk_4 ih _ _ _ _ _ h
      · rw [if_neg c] at h
        refine eg_iload_n C 3 dX5_oftenNow_39 rfl ?_
        refine eg_aload_n C 0 dX5_oftenNow_40 rfl ?_
        refine gf_X5_41 C (by decide) dX5_oftenNow_41 ?_
        refine eg_iconst C (2 : Int32) dX5_oftenNow_44 (by decide) ?_
        refine eg_iload C 5 dX5_oftenNow_45 rfl ?_
        refine eg_imul C dX5_oftenNow_47 ?_
        obtain ⟨g3, h⟩ := eu_gd_some h
        refine eg_iald C 36 (by decide) (z := 16) (fun _ => rfl) (eu_in_vp g3) dX5_oftenNow_48 ?_
        refine eg_ishr C dX5_oftenNow_49 ?_
        refine eg_iconst C (1 : Int32) dX5_oftenNow_50 (by decide) ?_
        refine eg_iand C dX5_oftenNow_51 ?_
        refine eg_aload_n C 0 dX5_oftenNow_52 rfl ?_
        refine gf_X5_41 C (by decide) dX5_oftenNow_53 ?_
        refine eg_iconst C (2 : Int32) dX5_oftenNow_56 (by decide) ?_
        refine eg_iload C 5 dX5_oftenNow_57 rfl ?_
        refine eg_imul C dX5_oftenNow_59 ?_
        refine eg_iconst C (1 : Int32) dX5_oftenNow_60 (by decide) ?_
        refine eg_iadd C dX5_oftenNow_61 ?_
        obtain ⟨g4, h⟩ := eu_gd_some h
        refine eg_iald C 36 (by decide) (z := 16) (fun _ => rfl) (eu_in_vp g4) dX5_oftenNow_62 ?_
        refine eg_icmp_ne C 70 dX5_oftenNow_63 (by decide) (fun c => ?_) (fun c => ?_)
        · rw [if_neg c] at h
          refine eg_sub C [0, 1, 2, 3, 5] rfl ?_
          exact wX5_oftenNow_J70 C hk_4 ih _ _ _ _ _ h
        · rw [if_pos c] at h
          refine eg_iconst C (1 : Int32) dX5_oftenNow_66 (by decide) ?_
          refine eg_goto C 71 dX5_oftenNow_67 (by decide) ?_
          refine eg_istore C [(4, .int (1 : Int32)), (0, .ref (eu_ad E 25)), (1, .int v1), (2, .int v2), (3, .int v3), (5, .int v5)] dX5_oftenNow_71 (by decide) rfl ?_
          refine eg_iinc C 5 (v5 + (1 : Int32)) [(5, .int (v5 + (1 : Int32))), (4, .int (1 : Int32)), (0, .ref (eu_ad E 25)), (1, .int v1), (2, .int v2), (3, .int v3)] dX5_oftenNow_73 rfl rfl (by decide) rfl ?_
          refine eg_goto C 25 dX5_oftenNow_76 (by decide) ?_
          refine eg_sub C [2, 3, 4, 5, 1, 0] rfl ?_
          exact ih _ _ _ _ _ _ h
set_option maxHeartbeats 4000000 in
set_option maxRecDepth 100000 in
theorem wX5_oftenNow_L4 {E : eu_E} (C : eu_C E ({ frames := 5, cells := 0, slots := 0, locals := 114 } : Room) 25 12 6 cX5_oftenNow RX5 (Cond.code yX5_oftenNow cX5_oftenNow 6 (some .int) :: eu_TB) (some .int)) {r : Int32} {σ' : eu_T}   : ∀ (n : Nat) (σ : eu_T) (v1 : Int32) (v2 : Int32), fX5_oftenNow_L4 n σ v1 v2 = some (r, σ') → eu_G E 25 12 6 (eu_QI E 25 12 σ' r) σ 4 [(0, .ref (eu_ad E 25)), (1, .int v1), (2, .int v2)] [] := by
  intro n
  induction n with
  | zero =>
    intro σ v1 v2  h
    rw [fX5_oftenNow_L4_z] at h
    cases h
  | succ n ih =>
    intro σ v1 v2  h
    rw [fX5_oftenNow_L4_s] at h
    refine eg_iload_n C 2 dX5_oftenNow_4 rfl ?_
    refine eg_aload_n C 0 dX5_oftenNow_5 rfl ?_
    refine gf_X5_108 C (by decide) dX5_oftenNow_6 ?_
    refine eg_icmp_gt C 100 dX5_oftenNow_9 (by decide) (fun c => ?_) (fun c => ?_)
    · rw [if_pos c] at h
      refine eg_iload_n C 1 dX5_oftenNow_100 rfl ?_
      obtain ⟨rfl, rfl⟩ := eu_inj2 h
      exact eg_iret C rfl dX5_oftenNow_101
    · rw [if_neg c] at h
      refine eg_aload_n C 0 dX5_oftenNow_12 rfl ?_
      refine eg_iload_n C 2 dX5_oftenNow_13 rfl ?_
      refine eg_iconst C (0 : Int32) dX5_oftenNow_14 (by decide) ?_
      obtain ⟨r1, σ2, hr1, h⟩ := eu_b2_some h
      refine eg_callI C (cw_X5_oftenNow_X5_stateOf_159 C) (av := [.int v2, .int (0 : Int32)]) 25 (by decide) (kX5_stateOf hr1) rfl rfl rfl rfl (st := []) rfl (Nat.le_of_ble_eq_true rfl) dX5_oftenNow_15 ?_
      refine eg_istore_n C [(3, .int r1), (0, .ref (eu_ad E 25)), (1, .int v1), (2, .int v2)] dX5_oftenNow_18 rfl (by decide) rfl ?_
      refine eg_iconst C (1 : Int32) dX5_oftenNow_19 (by decide) ?_
      refine eg_istore C [(4, .int (1 : Int32)), (3, .int r1), (0, .ref (eu_ad E 25)), (1, .int v1), (2, .int v2)] dX5_oftenNow_20 (by decide) rfl ?_
      refine eg_iconst C (0 : Int32) dX5_oftenNow_22 (by decide) ?_
      refine eg_istore C [(5, .int (0 : Int32)), (4, .int (1 : Int32)), (3, .int r1), (0, .ref (eu_ad E 25)), (1, .int v1), (2, .int v2)] dX5_oftenNow_23 (by decide) rfl ?_
      refine eg_sub C [3, 4, 5, 2, 1, 0] rfl ?_
      exact wX5_oftenNow_L25 C ih 200 _ _ _ _ _ _ h
set_option maxHeartbeats 4000000 in
set_option maxRecDepth 100000 in
theorem wX5_oftenNow {E : eu_E} (C : eu_C E ({ frames := 5, cells := 0, slots := 0, locals := 114 } : Room) 25 12 6 cX5_oftenNow RX5 (Cond.code yX5_oftenNow cX5_oftenNow 6 (some .int) :: eu_TB) (some .int)) {σ : eu_T} {r : Int32} {σ' : eu_T}   (h : fX5_oftenNow σ = some (r, σ')) : eu_G E 25 12 6 (eu_QI E 25 12 σ' r) σ 0 [(0, .ref (eu_ad E 25))] [] := by
  unfold fX5_oftenNow at h
  refine eg_iconst C (0 : Int32) dX5_oftenNow_0 (by decide) ?_
  refine eg_istore_n C [(1, .int (0 : Int32)), (0, .ref (eu_ad E 25))] dX5_oftenNow_1 rfl (by decide) rfl ?_
  refine eg_iconst C (0 : Int32) dX5_oftenNow_2 (by decide) ?_
  refine eg_istore_n C [(2, .int (0 : Int32)), (1, .int (0 : Int32)), (0, .ref (eu_ad E 25))] dX5_oftenNow_3 rfl (by decide) rfl ?_
  refine eg_sub C [2, 1, 0] rfl ?_
  exact wX5_oftenNow_L4 C 200 _ _ _ h
theorem kX5_oftenNow {l : Launch} {σ : eu_T} {r : Int32} {σ' : eu_T}   (h : fX5_oftenNow σ = some (r, σ')) : eu_KI l yX5_oftenNow (Cond.code yX5_oftenNow cX5_oftenNow 6 (some .int) :: eu_TB) ({ frames := 5, cells := 0, slots := 0, locals := 114 } : Room) 25 12 (fun ad => [.ref (ad 25)]) σ σ' r :=
  eu_KI_of (by decide) (by decide) rfl (fun _ => Nat.le_of_ble_eq_true rfl) (fun E C => wX5_oftenNow C h)
