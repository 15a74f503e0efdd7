theorem cw_X1_bestMove_X1_bestReply_80 {E : eu_E} (C : eu_C E ({ frames := 4, cells := 0, slots := 0, locals := 98 } : Room) 0 25 7 cX1_bestMove RX1 (Cond.code yX1_bestMove cX1_bestMove 7 (some .int) :: eu_TB) (some .int)) : CallW (eu_R E) (eu_s E) (eu_a E) RX1 RX1 80 yX1_bestReply cX1_bestReply 7 (some .int) (Cond.code yX1_bestReply cX1_bestReply 7 (some .int) :: eu_TB) ({ frames := 3, cells := 0, slots := 0, locals := 72 } : Room) 0 0 2 := eu_cwV C tw_447 tw_448 tw_449 tw_14 tw_450 rfl rfl (by decide +kernel) (by decide)
theorem cw_X1_bestMove_X1_standingWith_73 {E : eu_E} (C : eu_C E ({ frames := 4, cells := 0, slots := 0, locals := 98 } : Room) 0 25 7 cX1_bestMove RX1 (Cond.code yX1_bestMove cX1_bestMove 7 (some .int) :: eu_TB) (some .int)) : CallW (eu_R E) (eu_s E) (eu_a E) RX1 RX1 73 yX1_standingWith cX1_standingWith 5 (some .int) (Cond.code yX1_standingWith cX1_standingWith 5 (some .int) :: eu_TB) ({ frames := 2, cells := 0, slots := 0, locals := 48 } : Room) 0 0 2 := eu_cwV C tw_398 tw_381 tw_382 tw_14 tw_383 rfl rfl (by decide +kernel) (by decide)
theorem cw_X1_bestMove_X1_worthOf_83 {E : eu_E} (C : eu_C E ({ frames := 4, cells := 0, slots := 0, locals := 98 } : Room) 0 25 7 cX1_bestMove RX1 (Cond.code yX1_bestMove cX1_bestMove 7 (some .int) :: eu_TB) (some .int)) : CallW (eu_R E) (eu_s E) (eu_a E) RX1 RX1 83 yX1_worthOf cX1_worthOf 5 (some .int) (Cond.code yX1_worthOf cX1_worthOf 5 (some .int) :: eu_TB) ({ frames := 1, cells := 0, slots := 0, locals := 21 } : Room) 0 0 2 := eu_cwV C tw_451 tw_452 tw_453 tw_14 tw_454 rfl rfl (by decide +kernel) (by decide)
theorem cw_X1_bestMove_X1_canTake_86 {E : eu_E} (C : eu_C E ({ frames := 4, cells := 0, slots := 0, locals := 98 } : Room) 0 25 7 cX1_bestMove RX1 (Cond.code yX1_bestMove cX1_bestMove 7 (some .int) :: eu_TB) (some .int)) : CallW (eu_R E) (eu_s E) (eu_a E) RX1 RX1 86 yX1_canTake cX1_canTake 6 (some .boolean) (Cond.code yX1_canTake cX1_canTake 6 (some .boolean) :: eu_TB) ({ frames := 2, cells := 0, slots := 0, locals := 46 } : Room) 0 0 3 := eu_cwV C tw_455 tw_456 tw_457 tw_14 tw_458 rfl rfl (by decide +kernel) (by decide)
set_option maxHeartbeats 4000000 in
set_option maxRecDepth 100000 in
theorem wX1_bestMove_L23 {E : eu_E} (C : eu_C E ({ frames := 4, cells := 0, slots := 0, locals := 98 } : Room) 0 25 7 cX1_bestMove RX1 (Cond.code yX1_bestMove cX1_bestMove 7 (some .int) :: eu_TB) (some .int)) {r : Int32} {σ' : eu_T}   : ∀ (n : Nat) (σ : eu_T) (v1 : Int32) (v2 : Int32) (v3 : Int32) (v4 : Int32) (v5 : Int32), fX1_bestMove_L23 n σ v1 v2 v3 v4 v5 = some (r, σ') → eu_G E 0 25 7 (eu_QI E 0 25 σ' r) σ 23 [(0, .ref (eu_ad E 1)), (1, .int v1), (2, .int v2), (3, .int v3), (4, .int v4), (5, .int v5)] [] := by
  intro n
  induction n with
  | zero =>
    intro σ v1 v2 v3 v4 v5  h
    rw [fX1_bestMove_L23_z] at h
    cases h
  | succ n ih =>
    intro σ v1 v2 v3 v4 v5  h
    rw [fX1_bestMove_L23_s] at h
    refine eg_iload C 5 dX1_bestMove_23 rfl ?_
    refine eg_bipush C (24 : Int32) dX1_bestMove_25 (by decide) ?_
    refine eg_icmp_ge C 81 dX1_bestMove_27 (by decide) (fun c => ?_) (fun c => ?_)
    · rw [if_pos c] at h
      refine eg_iload_n C 3 dX1_bestMove_81 rfl ?_
      obtain ⟨rfl, rfl⟩ := eu_inj2 h
      exact eg_iret C rfl dX1_bestMove_82
    · rw [if_neg c] at h
      refine eg_aload_n C 0 dX1_bestMove_30 rfl ?_
      refine eg_iload_n C 1 dX1_bestMove_31 rfl ?_
      refine eg_iload C 5 dX1_bestMove_32 rfl ?_
      refine eg_iconst C (-1 : Int32) dX1_bestMove_34 (by decide) ?_
      obtain ⟨r6, hr6, h⟩ := eu_bd_some h
      refine eg_callI C (cw_X1_bestMove_X1_canTake_86 C) (av := [.int v1, .int v5, .int (-1 : Int32)]) 1 (by decide) (kX1_canTake hr6) rfl rfl rfl rfl (st := []) rfl (Nat.le_of_ble_eq_true rfl) dX1_bestMove_35 ?_
      refine eg_if_eq C 75 dX1_bestMove_38 (by decide) (fun c => ?_) (fun c => ?_)
      · rw [if_pos c] at h
        refine eg_iinc C 5 (v5 + (1 : Int32)) [(5, .int (v5 + (1 : Int32))), (0, .ref (eu_ad E 1)), (1, .int v1), (2, .int v2), (3, .int v3), (4, .int v4)] dX1_bestMove_75 rfl rfl (by decide) rfl ?_
        refine eg_goto C 23 dX1_bestMove_78 (by decide) ?_
        refine eg_sub C [1, 2, 3, 4, 5, 0] rfl ?_
        exact ih _ _ _ _ _ _ h
      · rw [if_neg c] at h
        refine eg_aload_n C 0 dX1_bestMove_41 rfl ?_
        refine eg_aload_n C 0 dX1_bestMove_42 rfl ?_
        refine eg_iload C 5 dX1_bestMove_43 rfl ?_
        refine eg_aload_n C 0 dX1_bestMove_45 rfl ?_
        refine eg_iload_n C 2 dX1_bestMove_46 rfl ?_
        refine eg_iload C 5 dX1_bestMove_47 rfl ?_
        obtain ⟨r7, σ8, hr7, h⟩ := eu_b2_some h
        refine eg_callI C (cw_X1_bestMove_X1_bestReply_80 C) (av := [.int v2, .int v5]) 1 (by decide) (kX1_bestReply hr7) rfl rfl rfl rfl (st := [.int v5, .ref (eu_ad E 1), .ref (eu_ad E 1)]) rfl (Nat.le_of_ble_eq_true rfl) dX1_bestMove_49 ?_
        obtain ⟨r9, σ10, hr9, h⟩ := eu_b2_some h
        refine eg_callI C (cw_X1_bestMove_X1_standingWith_73 C) (av := [.int v5, .int r7]) 1 (by decide) (kX1_standingWith hr9) rfl rfl rfl rfl (st := [.ref (eu_ad E 1)]) rfl (Nat.le_of_ble_eq_true rfl) dX1_bestMove_52 ?_
        refine eg_iload_n C 1 dX1_bestMove_55 rfl ?_
        obtain ⟨r11, hr11, h⟩ := eu_bd_some h
        refine eg_callI C (cw_X1_bestMove_X1_worthOf_83 C) (av := [.int r9, .int v1]) 1 (by decide) (kX1_worthOf hr11) rfl rfl rfl rfl (st := []) rfl (Nat.le_of_ble_eq_true rfl) dX1_bestMove_56 ?_
        refine eg_istore C [(6, .int r11), (0, .ref (eu_ad E 1)), (1, .int v1), (2, .int v2), (3, .int v3), (4, .int v4), (5, .int v5)] dX1_bestMove_59 (by decide) rfl ?_
        refine eg_iload C 0 dX1_bestMove_61 rfl ?_
        refine eg_iload C 5 dX1_bestMove_63 rfl ?_
        refine eg_icmp_le C 75 dX1_bestMove_65 (by decide) (fun c => ?_) (fun c => ?_)
        · rw [if_pos c] at h
          refine eg_iinc C 6 (v5 + (1 : Int32)) [(5, .int (v5 + (1 : Int32))), (6, .int r11), (0, .ref (eu_ad E 1)), (1, .int v1), (2, .int v2), (3, .int v3), (4, .int v4)] dX1_bestMove_75 rfl rfl (by decide) rfl ?_
          refine eg_goto C 23 dX1_bestMove_78 (by decide) ?_
          refine eg_sub C [2, 3, 4, 5, 6, 0] rfl ?_
          exact ih _ _ _ _ _ _ h
        · rw [if_neg c] at h
          refine eg_iload C 0 dX1_bestMove_68 rfl ?_
          refine eg_istore C [(4, .int r11), (6, .int r11), (0, .ref (eu_ad E 1)), (1, .int v1), (2, .int v2), (3, .int v3), (5, .int v5)] dX1_bestMove_70 (by decide) rfl ?_
          refine eg_iload C 6 dX1_bestMove_72 rfl ?_
          refine eg_istore_n C [(3, .int v5), (4, .int r11), (6, .int r11), (0, .ref (eu_ad E 1)), (1, .int v1), (2, .int v2), (5, .int v5)] dX1_bestMove_74 rfl (by decide) rfl ?_
          refine eg_iinc C 6 (v5 + (1 : Int32)) [(5, .int (v5 + (1 : Int32))), (3, .int v5), (4, .int r11), (6, .int r11), (0, .ref (eu_ad E 1)), (1, .int v1), (2, .int v2)] dX1_bestMove_75 rfl rfl (by decide) rfl ?_
          refine eg_goto C 23 dX1_bestMove_78 (by decide) ?_
          refine eg_sub C [4, 5, 6, 1, 2, 0] rfl ?_
          exact ih _ _ _ _ _ _ h
set_option maxHeartbeats 4000000 in
set_option maxRecDepth 100000 in
theorem wX1_bestMove {E : eu_E} (C : eu_C E ({ frames := 4, cells := 0, slots := 0, locals := 98 } : Room) 0 25 7 cX1_bestMove RX1 (Cond.code yX1_bestMove cX1_bestMove 7 (some .int) :: eu_TB) (some .int)) {σ : eu_T} {r : Int32} {σ' : eu_T} {a1 : Int32} {a2 : Int32}  (h : fX1_bestMove σ a1 a2 = some (r, σ')) : eu_G E 0 25 7 (eu_QI E 0 25 σ' r) σ 0 [(0, .ref (eu_ad E 1)), (1, .int a1), (2, .int a2)] [] := by
  unfold fX1_bestMove at h
  refine eg_iconst C (-1 : Int32) dX1_bestMove_0 (by decide) ?_
  refine eg_istore_n C [(3, .int (-1 : Int32)), (0, .ref (eu_ad E 1)), (1, .int a1), (2, .int a2)] dX1_bestMove_1 rfl (by decide) rfl ?_
  refine eg_aload_n C 1 dX1_bestMove_2 rfl ?_
  refine eg_aload_n C 1 dX1_bestMove_3 rfl ?_
  refine eg_iconst C (-1 : Int32) dX1_bestMove_4 (by decide) ?_
  refine eg_aload_n C 1 dX1_bestMove_5 rfl ?_
  refine eg_iload_n C 3 dX1_bestMove_6 rfl ?_
  refine eg_iconst C (-1 : Int32) dX1_bestMove_7 (by decide) ?_
  obtain ⟨r1, σ2, hr1, h⟩ := eu_b2_some h
  refine eg_callI C (cw_X1_bestMove_X1_bestReply_80 C) (av := [.int a2, .int (-1 : Int32)]) 1 (by decide) (kX1_bestReply hr1) rfl rfl rfl rfl (st := [.int (-1 : Int32), .ref (eu_ad E 1), .ref (eu_ad E 1)]) rfl (Nat.le_of_ble_eq_true rfl) dX1_bestMove_8 ?_
  obtain ⟨r3, σ4, hr3, h⟩ := eu_b2_some h
  refine eg_callI C (cw_X1_bestMove_X1_standingWith_73 C) (av := [.int (-1 : Int32), .int r1]) 1 (by decide) (kX1_standingWith hr3) rfl rfl rfl rfl (st := [.ref (eu_ad E 1)]) rfl (Nat.le_of_ble_eq_true rfl) dX1_bestMove_11 ?_
  refine eg_iload_n C 2 dX1_bestMove_14 rfl ?_
  obtain ⟨r5, hr5, h⟩ := eu_bd_some h
  refine eg_callI C (cw_X1_bestMove_X1_worthOf_83 C) (av := [.int r3, .int a1]) 1 (by decide) (kX1_worthOf hr5) rfl rfl rfl rfl (st := []) rfl (Nat.le_of_ble_eq_true rfl) dX1_bestMove_15 ?_
  refine eg_istore C [(4, .int r5), (3, .int (-1 : Int32)), (0, .ref (eu_ad E 1)), (1, .int a1), (2, .int a2)] dX1_bestMove_18 (by decide) rfl ?_
  refine eg_iconst C (0 : Int32) dX1_bestMove_20 (by decide) ?_
  refine eg_istore C [(5, .int (0 : Int32)), (4, .int r5), (3, .int (-1 : Int32)), (0, .ref (eu_ad E 1)), (1, .int a1), (2, .int a2)] dX1_bestMove_21 (by decide) rfl ?_
  refine eg_sub C [3, 4, 5, 2, 1, 0] rfl ?_
  exact wX1_bestMove_L23 C 200 _ _ _ _ _ _ h
theorem kX1_bestMove {l : Launch} {σ : eu_T} {r : Int32} {σ' : eu_T} {a1 : Int32} {a2 : Int32}  (h : fX1_bestMove σ a1 a2 = some (r, σ')) : eu_KI l yX1_bestMove (Cond.code yX1_bestMove cX1_bestMove 7 (some .int) :: eu_TB) ({ frames := 4, cells := 0, slots := 0, locals := 98 } : Room) 0 25 (fun ad => [.ref (ad 1), .int a1, .int a2]) σ σ' r :=
  eu_KI_of (by decide) (by decide) rfl (fun _ => Nat.le_of_ble_eq_true rfl) (fun E C => wX1_bestMove C h)
theorem cw_X1_lotOf_J6_bitCount_0f7a4_109 {E : eu_E} (C : eu_C E ({ frames := 1, cells := 0, slots := 0, locals := 20 } : Room) 0 25 6 cX1_lotOf RX1 (Cond.code yX1_lotOf cX1_lotOf 6 (some .int) :: eu_TB) (some .int)) : CallB (eu_R E) (eu_s E) (eu_a E) RX1 109 yJ6_bitCount_0f7a4 cJ6_bitCount_0f7a4 1 (some .int) (Cond.code yJ6_bitCount_0f7a4 cJ6_bitCount_0f7a4 1 (some .int) :: eu_TB) ({ frames := 0, cells := 0, slots := 0, locals := 0 } : Room) 0 0 1 ∧ (Cond.static yJ6_bitCount_0f7a4).before (eu_a E) (eu_s E) = true := eu_cwS C tw_528 tw_97 tw_98 tw_99 rfl rfl (by decide +kernel) (by decide)
set_option maxHeartbeats 4000000 in
set_option maxRecDepth 100000 in
theorem wX1_lotOf_L42 {E : eu_E} (C : eu_C E ({ frames := 1, cells := 0, slots := 0, locals := 20 } : Room) 0 25 6 cX1_lotOf RX1 (Cond.code yX1_lotOf cX1_lotOf 6 (some .int) :: eu_TB) (some .int)) {r : Int32} {σ' : eu_T}   : ∀ (n : Nat) (σ : eu_T) (v3 : Int32) (v4 : Int32) (v5 : Int32), fX1_lotOf_L42 n σ v3 v4 v5 = some (r, σ') → eu_G E 0 25 6 (eu_QI E 0 25 σ' r) σ 42 [(3, .int v3), (4, .int v4), (5, .int v5)] [] := by
  intro n
  induction n with
  | zero =>
    intro σ v3 v4 v5  h
    rw [fX1_lotOf_L42_z] at h
    cases h
  | succ n ih =>
    intro σ v3 v4 v5  h
    rw [fX1_lotOf_L42_s] at h
    refine eg_iload C 2 dX1_lotOf_42 rfl ?_
    refine eg_iload_n C 0 dX1_lotOf_44 rfl ?_
    refine eg_icmp_ge C 63 dX1_lotOf_45 (by decide) (fun c => ?_) (fun c => ?_)
    · rw [if_pos c] at h
      refine eg_iload C 1 dX1_lotOf_63 rfl ?_
      refine eg_iload C 1 dX1_lotOf_65 rfl ?_
      refine eg_ineg C dX1_lotOf_67 ?_
      refine eg_iand C dX1_lotOf_68 ?_
      obtain ⟨rfl, rfl⟩ := eu_inj2 h
      exact eg_iret C rfl dX1_lotOf_69
    · rw [if_neg c] at h
      refine eg_iload C 1 dX1_lotOf_48 rfl ?_
      refine eg_iload C 1 dX1_lotOf_50 rfl ?_
      refine eg_iconst C (1 : Int32) dX1_lotOf_52 (by decide) ?_
      refine eg_isub C dX1_lotOf_53 ?_
      refine eg_iand C dX1_lotOf_54 ?_
      refine eg_istore C [(4, .int (v4 &&& (v4 - (1 : Int32)))), (3, .int v3), (5, .int v5)] dX1_lotOf_55 (by decide) rfl ?_
      refine eg_iinc C 2 (v5 + (1 : Int32)) [(5, .int (v5 + (1 : Int32))), (4, .int (v4 &&& (v4 - (1 : Int32)))), (3, .int v3)] dX1_lotOf_57 rfl rfl (by decide) rfl ?_
      refine eg_goto C 42 dX1_lotOf_60 (by decide) ?_
      refine eg_sub C [2, 1, 0] rfl ?_
      exact ih _ _ _ _ h
set_option maxHeartbeats 4000000 in
set_option maxRecDepth 100000 in
theorem wX1_lotOf {E : eu_E} (C : eu_C E ({ frames := 1, cells := 0, slots := 0, locals := 20 } : Room) 0 25 6 cX1_lotOf RX1 (Cond.code yX1_lotOf cX1_lotOf 6 (some .int) :: eu_TB) (some .int)) {σ : eu_T} {r : Int32} {σ' : eu_T} {a1 : Int32}  (h : fX1_lotOf σ a1 = some (r, σ')) : eu_G E 0 25 6 (eu_QI E 0 25 σ' r) σ 0 [(0, .ref (eu_ad E 1)), (1, .int a1)] [] := by
  unfold fX1_lotOf at h
  refine eg_iload_n C 1 dX1_lotOf_0 rfl ?_
  refine eg_scallI C (cw_X1_lotOf_J6_bitCount_0f7a4_109 C) (av := [.int a1]) (kJ6_bitCount_0f7a4 rfl) rfl (st := []) rfl (Nat.le_of_ble_eq_true rfl) dX1_lotOf_1 ?_
  refine eg_istore_n C [(2, .int (fJ6_bitCount_0f7a4 a1)), (0, .ref (eu_ad E 1)), (1, .int a1)] dX1_lotOf_4 rfl (by decide) rfl ?_
  refine eg_iload_n C 0 dX1_lotOf_5 rfl ?_
  refine eg_if_ne C 11 dX1_lotOf_6 (by decide) (fun c => ?_) (fun c => ?_)
  · rw [if_neg c] at h
    refine eg_aload_n C 1 dX1_lotOf_11 rfl ?_
    refine eg_ldc C (1103515245 : Int32) dX1_lotOf_12 (List.mem_cons_of_mem _ tw_527) ?_
    refine eg_aload_n C 1 dX1_lotOf_14 rfl ?_
    refine gf_X1_89 C (by decide) dX1_lotOf_15 ?_
    refine eg_imul C dX1_lotOf_18 ?_
    refine eg_sipush C (12345 : Int32) dX1_lotOf_19 (by decide) ?_
    refine eg_iadd C dX1_lotOf_22 ?_
    refine pf_X1_89 C (by decide) dX1_lotOf_23 ?_
    obtain ⟨σ1, eσ1, h⟩ := eu_lt_x h
    rw [← eσ1]
    refine eg_aload_n C 1 dX1_lotOf_26 rfl ?_
    refine gf_X1_89 C (by decide) dX1_lotOf_27 ?_
    refine eg_bipush C (16 : Int32) dX1_lotOf_30 (by decide) ?_
    refine eg_iushr C dX1_lotOf_32 ?_
    refine eg_iload_n C 0 dX1_lotOf_33 rfl ?_
    obtain ⟨g2, h⟩ := eu_gd_some h
    refine eg_irem C dX1_lotOf_34 g2 ?_
    obtain ⟨x3, ex3, h⟩ := eu_lt_x h
    rw [← ex3]
    refine eg_istore_n C [(3, .int x3), (2, .int (fJ6_bitCount_0f7a4 a1)), (0, .ref (eu_ad E 1)), (1, .int a1)] dX1_lotOf_35 rfl (by decide) rfl ?_
    refine eg_iload_n C 3 dX1_lotOf_36 rfl ?_
    refine eg_istore C [(4, .int a1), (3, .int x3), (2, .int (fJ6_bitCount_0f7a4 a1)), (0, .ref (eu_ad E 1)), (1, .int a1)] dX1_lotOf_37 (by decide) rfl ?_
    refine eg_iconst C (0 : Int32) dX1_lotOf_39 (by decide) ?_
    refine eg_istore C [(5, .int (0 : Int32)), (4, .int a1), (3, .int x3), (2, .int (fJ6_bitCount_0f7a4 a1)), (0, .ref (eu_ad E 1)), (1, .int a1)] dX1_lotOf_40 (by decide) rfl ?_
    refine eg_sub C [2, 1, 0] rfl ?_
    exact wX1_lotOf_L42 C 200 _ _ _ _ h
  · rw [if_pos c] at h
    refine eg_iconst C (0 : Int32) dX1_lotOf_9 (by decide) ?_
    obtain ⟨rfl, rfl⟩ := eu_inj2 h
    exact eg_iret C rfl dX1_lotOf_10
theorem kX1_lotOf {l : Launch} {σ : eu_T} {r : Int32} {σ' : eu_T} {a1 : Int32}  (h : fX1_lotOf σ a1 = some (r, σ')) : eu_KI l yX1_lotOf (Cond.code yX1_lotOf cX1_lotOf 6 (some .int) :: eu_TB) ({ frames := 1, cells := 0, slots := 0, locals := 20 } : Room) 0 25 (fun ad => [.ref (ad 1), .int a1]) σ σ' r :=
  eu_KI_of (by decide) (by decide) rfl (fun _ => Nat.le_of_ble_eq_true rfl) (fun E C => wX1_lotOf C h)
theorem cw_X1_draw_X3_undone_48 {E : eu_E} (C : eu_C E ({ frames := 2, cells := 0, slots := 0, locals := 48 } : Room) 0 25 7 cX1_draw RX1 (Cond.code yX1_draw cX1_draw 7 none :: eu_TB) none) : va_CN (eu_R E) (eu_s E) (eu_a E) RX1 48 yX3_undone "EachUndoes" cX3_undone 5 (some .int) (Cond.code yX3_undone cX3_undone 5 (some .int) :: eu_TB) ({ frames := 1, cells := 0, slots := 0, locals := 24 } : Room) 0 0 1 ∧ (Cond.instanceMethod yX3_undone).before (eu_a E) (eu_s E) = true ∧ (Cond.selects RX3 yX3_undone yX3_undone).before (eu_a E) (eu_s E) = true := eu_cnV C (List.mem_of_getElem? (i := 46) rfl) tw_294 tw_295 tw_28 tw_296 rfl rfl (by decide +kernel) (by decide)
theorem cw_X1_draw_X1_lotOf_103 {E : eu_E} (C : eu_C E ({ frames := 2, cells := 0, slots := 0, locals := 48 } : Room) 0 25 7 cX1_draw RX1 (Cond.code yX1_draw cX1_draw 7 none :: eu_TB) none) : CallW (eu_R E) (eu_s E) (eu_a E) RX1 RX1 103 yX1_lotOf cX1_lotOf 6 (some .int) (Cond.code yX1_lotOf cX1_lotOf 6 (some .int) :: eu_TB) ({ frames := 1, cells := 0, slots := 0, locals := 20 } : Room) 0 0 1 := eu_cwV C tw_523 tw_524 tw_525 tw_14 tw_526 rfl rfl (by decide +kernel) (by decide)
theorem cw_X1_draw_X0_standing_51 {E : eu_E} (C : eu_C E ({ frames := 2, cells := 0, slots := 0, locals := 48 } : Room) 0 25 7 cX1_draw RX1 (Cond.code yX1_draw cX1_draw 7 none :: eu_TB) none) : va_CN (eu_R E) (eu_s E) (eu_a E) RX1 51 yX0_standing "EachUndoes" cX0_standing 2 (some .int) (Cond.code yX0_standing cX0_standing 2 (some .int) :: eu_TB) ({ frames := 1, cells := 0, slots := 0, locals := 23 } : Room) 0 0 1 ∧ (Cond.instanceMethod yX0_standing).before (eu_a E) (eu_s E) = true ∧ (Cond.selects RX0 yX0_standing yX0_standing).before (eu_a E) (eu_s E) = true := eu_cnV C (List.mem_of_getElem? (i := 47) rfl) tw_298 tw_299 tw_39 tw_300 rfl rfl (by decide +kernel) (by decide)
theorem cw_X1_draw_X0_doneBy_106 {E : eu_E} (C : eu_C E ({ frames := 2, cells := 0, slots := 0, locals := 48 } : Room) 0 25 7 cX1_draw RX1 (Cond.code yX1_draw cX1_draw 7 none :: eu_TB) none) : va_CN (eu_R E) (eu_s E) (eu_a E) RX1 106 yX0_doneBy "EachUndoes" cX0_doneBy 4 (some .int) (Cond.code yX0_doneBy cX0_doneBy 4 (some .int) :: eu_TB) ({ frames := 1, cells := 0, slots := 0, locals := 21 } : Room) 0 0 1 ∧ (Cond.instanceMethod yX0_doneBy).before (eu_a E) (eu_s E) = true ∧ (Cond.selects RX0 yX0_doneBy yX0_doneBy).before (eu_a E) (eu_s E) = true := eu_cnV C (List.mem_of_getElem? (i := 58) rfl) tw_529 tw_530 tw_39 tw_531 rfl rfl (by decide +kernel) (by decide)
set_option maxHeartbeats 4000000 in
set_option maxRecDepth 100000 in
theorem wX1_draw_L46 {E : eu_E} (C : eu_C E ({ frames := 2, cells := 0, slots := 0, locals := 48 } : Room) 0 25 7 cX1_draw RX1 (Cond.code yX1_draw cX1_draw 7 none :: eu_TB) none) {r : Int32} {σ' : eu_T}   : ∀ (n : Nat) (σ : eu_T) (v3 : Int32) (v4 : Int32), fX1_draw_L46 n σ v3 v4 = some (r, σ') → eu_G E 0 25 7 (eu_QV E 0 25 σ' r) σ 46 [(0, .ref (eu_ad E 1)), (3, .int v3), (4, .int v4)] [] := by
  intro n
  induction n with
  | zero =>
    intro σ v3 v4  h
    rw [fX1_draw_L46_z] at h
    cases h
  | succ n ih =>
    intro σ v3 v4  h
    rw [fX1_draw_L46_s] at h
    refine eg_aload_n C 0 dX1_draw_46 rfl ?_
    refine gf_X1_95 C (by decide) dX1_draw_47 ?_
    refine eg_iload C 2 dX1_draw_50 rfl ?_
    refine eg_icmp_ge C 134 dX1_draw_52 (by decide) (fun c => ?_) (fun c => ?_)
    · rw [if_pos c] at h
      obtain ⟨rfl, rfl⟩ := eu_inj2 h
      exact eg_vret C rfl _ dX1_draw_134
    · rw [if_neg c] at h
      refine eg_iload_n C 1 dX1_draw_55 rfl ?_
      refine eg_if_eq C 134 dX1_draw_56 (by decide) (fun c => ?_) (fun c => ?_)
      · rw [if_pos c] at h
        obtain ⟨rfl, rfl⟩ := eu_inj2 h
        exact eg_vret C rfl _ dX1_draw_134
      · rw [if_neg c] at h
        refine eg_aload_n C 0 dX1_draw_59 rfl ?_
        refine eg_iload_n C 1 dX1_draw_60 rfl ?_
        obtain ⟨r6, σ7, hr6, h⟩ := eu_b2_some h
        refine eg_callI C (cw_X1_draw_X1_lotOf_103 C) (av := [.int v3]) 1 (by decide) (kX1_lotOf hr6) rfl rfl rfl rfl (st := []) rfl (Nat.le_of_ble_eq_true rfl) dX1_draw_61 ?_
        refine eg_istore C [(5, .int r6), (0, .ref (eu_ad E 1)), (3, .int v3), (4, .int v4)] dX1_draw_64 (by decide) rfl ?_
        refine eg_aload_n C 1 dX1_draw_66 rfl ?_
        refine gf_X1_22 C (by decide) dX1_draw_67 ?_
        refine eg_aload_n C 1 dX1_draw_70 rfl ?_
        refine gf_X1_92 C (by decide) dX1_draw_71 ?_
        obtain ⟨r8, hr8, h⟩ := eu_bd_some h
        refine eg_callNI C (cw_X1_draw_X0_standing_51 C) (av := [.int (σ7 1 5)]) 3 (by decide) (kX0_standing hr8) rfl rfl rfl rfl (st := []) rfl (Nat.le_of_ble_eq_true rfl) dX1_draw_74 ?_
        refine eg_aload_n C 1 dX1_draw_77 rfl ?_
        refine gf_X1_22 C (by decide) dX1_draw_78 ?_
        refine eg_iload C 0 dX1_draw_81 rfl ?_
        obtain ⟨r9, hr9, h⟩ := eu_bd_some h
        refine eg_callNI C (cw_X1_draw_X0_doneBy_106 C) (av := [.int r6]) 3 (by decide) (kX0_doneBy hr9) rfl rfl rfl rfl (st := [.int r8]) rfl (Nat.le_of_ble_eq_true rfl) dX1_draw_83 ?_
        refine eg_iconst C (-1 : Int32) dX1_draw_86 (by decide) ?_
        refine eg_ixor C dX1_draw_87 ?_
        refine eg_iand C dX1_draw_88 ?_
        refine eg_istore C [(6, .int (r8 &&& (r9 ^^^ (-1 : Int32)))), (5, .int r6), (0, .ref (eu_ad E 1)), (3, .int v3), (4, .int v4)] dX1_draw_89 (by decide) rfl ?_
        refine eg_iload C 0 dX1_draw_91 rfl ?_
        refine eg_if_ne C 99 dX1_draw_93 (by decide) (fun c => ?_) (fun c => ?_)
        · rw [if_neg c] at h
          refine eg_aload_n C 2 dX1_draw_99 rfl ?_
          refine eg_dup C dX1_draw_100 rfl ?_
          refine gf_X1_92 C (by decide) dX1_draw_101 ?_
          refine eg_aload_n C 2 dX1_draw_104 rfl ?_
          refine eg_iload C 0 dX1_draw_105 rfl ?_
          obtain ⟨r10, σ11, hr10, h⟩ := eu_b2_some h
          refine eg_callI C (cw_X1_draw_X1_lotOf_103 C) (av := [.int (r8 &&& (r9 ^^^ (-1 : Int32)))]) 1 (by decide) (kX1_lotOf hr10) rfl rfl rfl rfl (st := [.int (σ7 1 5), .ref (eu_ad E 1)]) rfl (Nat.le_of_ble_eq_true rfl) dX1_draw_107 ?_
          refine eg_ior C dX1_draw_110 ?_
          refine pf_X1_92 C (by decide) dX1_draw_111 ?_
          obtain ⟨σ12, eσ12, h⟩ := eu_lt_x h
          rw [← eσ12]
          refine eg_iload_n C 3 dX1_draw_114 rfl ?_
          refine eg_iload C 1 dX1_draw_115 rfl ?_
          refine eg_iconst C (-1 : Int32) dX1_draw_117 (by decide) ?_
          refine eg_ixor C dX1_draw_118 ?_
          refine eg_iand C dX1_draw_119 ?_
          refine eg_istore_n C [(3, .int (v3 &&& (r6 ^^^ (-1 : Int32)))), (6, .int (r8 &&& (r9 ^^^ (-1 : Int32)))), (5, .int r6), (0, .ref (eu_ad E 1)), (4, .int v4)] dX1_draw_120 rfl (by decide) rfl ?_
          refine eg_aload_n C 3 dX1_draw_121 rfl ?_
          refine eg_dup C dX1_draw_122 rfl ?_
          refine gf_X1_95 C (by decide) dX1_draw_123 ?_
          refine eg_iconst C (1 : Int32) dX1_draw_126 (by decide) ?_
          refine eg_iadd C dX1_draw_127 ?_
          refine pf_X1_95 C (by decide) dX1_draw_128 ?_
          obtain ⟨σ13, eσ13, h⟩ := eu_lt_x h
          rw [← eσ13]
          refine eg_goto C 46 dX1_draw_131 (by decide) ?_
          refine eg_sub C [3, 0, 4] rfl ?_
          exact ih _ _ _ h
        · rw [if_pos c] at h
          refine eg_goto C 134 dX1_draw_96 (by decide) ?_
          obtain ⟨rfl, rfl⟩ := eu_inj2 h
          exact eg_vret C rfl _ dX1_draw_134
set_option maxHeartbeats 4000000 in
set_option maxRecDepth 100000 in
theorem wX1_draw {E : eu_E} (C : eu_C E ({ frames := 2, cells := 0, slots := 0, locals := 48 } : Room) 0 25 7 cX1_draw RX1 (Cond.code yX1_draw cX1_draw 7 none :: eu_TB) none) {σ : eu_T} {r : Int32} {σ' : eu_T} {a1 : Int32} {a2 : Int32}  (h : fX1_draw σ a1 a2 = some (r, σ')) : eu_G E 0 25 7 (eu_QV E 0 25 σ' r) σ 0 [(0, .ref (eu_ad E 1)), (1, .int a1), (2, .int a2)] [] := by
  unfold fX1_draw at h
  refine eg_aload_n C 0 dX1_draw_0 rfl ?_
  refine eg_iload_n C 1 dX1_draw_1 rfl ?_
  refine pf_X1_89 C (by decide) dX1_draw_2 ?_
  obtain ⟨σ1, eσ1, h⟩ := eu_lt_x h
  rw [← eσ1]
  refine eg_aload_n C 0 dX1_draw_5 rfl ?_
  refine eg_aload_n C 0 dX1_draw_6 rfl ?_
  refine gf_X1_12 C (by decide) dX1_draw_7 ?_
  refine eg_aload_n C 0 dX1_draw_10 rfl ?_
  refine gf_X1_32 C (by decide) dX1_draw_11 ?_
  obtain ⟨r2, hr2, h⟩ := eu_bd_some h
  refine eg_callNI C (cw_X1_draw_X3_undone_48 C) (av := [.int (σ1 1 3)]) 2 (by decide) (kX3_undone hr2) rfl rfl rfl rfl (st := [.ref (eu_ad E 1)]) rfl (Nat.le_of_ble_eq_true rfl) dX1_draw_14 ?_
  refine pf_X1_92 C (by decide) dX1_draw_17 ?_
  obtain ⟨σ3, eσ3, h⟩ := eu_lt_x h
  rw [← eσ3]
  refine eg_aload_n C 0 dX1_draw_20 rfl ?_
  refine eg_iconst C (0 : Int32) dX1_draw_21 (by decide) ?_
  refine pf_X1_95 C (by decide) dX1_draw_22 ?_
  obtain ⟨σ4, eσ4, h⟩ := eu_lt_x h
  rw [← eσ4]
  refine eg_aload_n C 0 dX1_draw_25 rfl ?_
  refine gf_X1_39 C (by decide) dX1_draw_26 ?_
  refine eg_istore_n C [(3, .int (σ4 1 4)), (0, .ref (eu_ad E 1)), (1, .int a1), (2, .int a2)] dX1_draw_29 rfl (by decide) rfl ?_
  refine eg_iload_n C 3 dX1_draw_30 rfl ?_
  refine eg_bipush C (12 : Int32) dX1_draw_31 (by decide) ?_
  refine eg_aload_n C 1 dX1_draw_33 rfl ?_
  refine gf_X1_12 C (by decide) dX1_draw_34 ?_
  refine gf_X1_41 C (by decide) dX1_draw_37 ?_
  refine eg_isub C dX1_draw_40 ?_
  refine eg_mmin C (st := []) (List.mem_cons_of_mem _ tw_519) (List.mem_cons_of_mem _ tw_520) (List.mem_cons_of_mem _ tw_521) (List.mem_cons_of_mem _ tw_522) (by decide) (Nat.le_of_ble_eq_true rfl) dX1_draw_41 ?_
  obtain ⟨x5, ex5, h⟩ := eu_lt_x h
  rw [← ex5]
  refine eg_istore C [(4, .int x5), (3, .int (σ4 1 4)), (0, .ref (eu_ad E 1)), (1, .int a1), (2, .int a2)] dX1_draw_44 (by decide) rfl ?_
  refine eg_sub C [2, 1, 0] rfl ?_
  exact wX1_draw_L46 C 200 _ _ _ h
theorem kX1_draw {l : Launch} {σ : eu_T} {r : Int32} {σ' : eu_T} {a1 : Int32} {a2 : Int32}  (h : fX1_draw σ a1 a2 = some (r, σ')) : eu_KV l yX1_draw (Cond.code yX1_draw cX1_draw 7 none :: eu_TB) ({ frames := 2, cells := 0, slots := 0, locals := 48 } : Room) 0 25 (fun ad => [.ref (ad 1), .int a1, .int a2]) σ σ' r :=
  eu_KV_of (by decide) (by decide) rfl (fun _ => Nat.le_of_ble_eq_true rfl) (fun E C => wX1_draw C h)
set_option maxHeartbeats 4000000 in
set_option maxRecDepth 100000 in
theorem wX2_begin_L17 {E : eu_E} (C : eu_C E ({ frames := 0, cells := 0, slots := 0, locals := 0 } : Room) 0 25 4 cX2_begin RX2 (Cond.code yX2_begin cX2_begin 4 none :: eu_TB) none) {r : Int32} {σ' : eu_T}   : ∀ (n : Nat) (σ : eu_T) (v0 : Nat) (v3 : Int32), 11 ≤ v0 ∧ v0 < 15 → fX2_begin_L17 n σ v0 v3 = some (r, σ') → eu_G E 0 25 4 (eu_QV E 0 25 σ' r) σ 17 [(0, .ref (eu_ad E v0)), (3, .int v3)] [] := by
  intro n
  induction n with
  | zero =>
    intro σ v0 v3 hk0 h
    rw [fX2_begin_L17_z] at h
    cases h
  | succ n ih =>
    intro σ v0 v3 hk0 h
    rw [fX2_begin_L17_s] at h
    refine eg_iload_n C 1 dX2_begin_17 rfl ?_
    refine eg_bipush C (60 : Int32) dX2_begin_18 (by decide) ?_
    refine eg_icmp_ge C 36 dX2_begin_20 (by decide) (fun c => ?_) (fun c => ?_)
    · rw [if_pos c] at h
      obtain ⟨rfl, rfl⟩ := eu_inj2 h
      exact eg_vret C rfl _ dX2_begin_36
    · rw [if_neg c] at h
      refine eg_aload_n C 0 dX2_begin_23 rfl ?_
      refine gf_X2_9 C _ hk0 dX2_begin_24 ?_
      refine eg_iload_n C 1 dX2_begin_27 rfl ?_
      refine eg_iconst C (0 : Int32) dX2_begin_28 (by decide) ?_
      obtain ⟨g4, h⟩ := eu_gd_some h
      refine eg_iast C (v0 + 4) (eu_ii0 (eu_i4 hk0)) (z := 60) (eu_weI (eu_i4 hk0)) (eu_in_vp g4) dX2_begin_29 ?_
      obtain ⟨σ5, eσ5, h⟩ := eu_lt_x h
      rw [← eσ5]
      refine eg_iinc C 1 (v3 + (1 : Int32)) [(3, .int (v3 + (1 : Int32))), (0, .ref (eu_ad E v0))] dX2_begin_30 rfl rfl (by decide) rfl ?_
      refine eg_goto C 17 dX2_begin_33 (by decide) ?_
      refine eg_sub C [1, 0] rfl ?_
      exact ih _ _ _ hk0 h
set_option maxHeartbeats 4000000 in
set_option maxRecDepth 100000 in
theorem wX2_begin {E : eu_E} (C : eu_C E ({ frames := 0, cells := 0, slots := 0, locals := 0 } : Room) 0 25 4 cX2_begin RX2 (Cond.code yX2_begin cX2_begin 4 none :: eu_TB) none) {σ : eu_T} {r : Int32} {σ' : eu_T} {k : Nat} {a1 : Int32} {a2 : Int32} (hk : 11 ≤ k ∧ k < 15) (h : fX2_begin σ k a1 a2 = some (r, σ')) : eu_G E 0 25 4 (eu_QV E 0 25 σ' r) σ 0 [(0, .ref (eu_ad E k)), (1, .int a1), (2, .int a2)] [] := by
  unfold fX2_begin at h
  refine eg_aload_n C 0 dX2_begin_0 rfl ?_
  refine eg_iconst C (0 : Int32) dX2_begin_1 (by decide) ?_
  refine pf_X2_15 C _ hk (by decide) dX2_begin_2 ?_
  obtain ⟨σ1, eσ1, h⟩ := eu_lt_x h
  rw [← eσ1]
  refine eg_aload_n C 0 dX2_begin_5 rfl ?_
  refine eg_iload_n C 1 dX2_begin_6 rfl ?_
  refine pf_X2_19 C _ hk dX2_begin_7 ?_
  obtain ⟨σ2, eσ2, h⟩ := eu_lt_x h
  rw [← eσ2]
  refine eg_aload_n C 0 dX2_begin_10 rfl ?_
  refine eg_iload_n C 2 dX2_begin_11 rfl ?_
  refine pf_X2_23 C _ hk dX2_begin_12 ?_
  obtain ⟨σ3, eσ3, h⟩ := eu_lt_x h
  rw [← eσ3]
  refine eg_iconst C (0 : Int32) dX2_begin_15 (by decide) ?_
  refine eg_istore_n C [(3, .int (0 : Int32)), (0, .ref (eu_ad E k)), (1, .int a1), (2, .int a2)] dX2_begin_16 rfl (by decide) rfl ?_
  refine eg_sub C [1, 0] rfl ?_
  exact wX2_begin_L17 C 200 _ _ _ hk h
theorem kX2_begin {l : Launch} {σ : eu_T} {r : Int32} {σ' : eu_T} {k : Nat} {a1 : Int32} {a2 : Int32} (hk : 11 ≤ k ∧ k < 15) (h : fX2_begin σ k a1 a2 = some (r, σ')) : eu_KV l yX2_begin (Cond.code yX2_begin cX2_begin 4 none :: eu_TB) ({ frames := 0, cells := 0, slots := 0, locals := 0 } : Room) 0 25 (fun ad => [.ref (ad k), .int a1, .int a2]) σ σ' r :=
  eu_KV_of (by decide) (by decide) rfl (fun _ => Nat.le_of_ble_eq_true rfl) (fun E C => wX2_begin C hk h)
theorem cw_X2_findingAt_X4_isBelow_26 {E : eu_E} (C : eu_C E ({ frames := 1, cells := 0, slots := 0, locals := 21 } : Room) 0 25 3 cX2_findingAt RX2 (Cond.code yX2_findingAt cX2_findingAt 3 (some .int) :: eu_TB) (some .int)) : va_CN (eu_R E) (eu_s E) (eu_a E) RX2 26 yX4_isBelow "EachUndoes" cX4_isBelow 2 (some .boolean) (Cond.code yX4_isBelow cX4_isBelow 2 (some .boolean) :: eu_TB) ({ frames := 0, cells := 0, slots := 0, locals := 0 } : Room) 0 0 2 ∧ (Cond.static yX4_isBelow).before (eu_a E) (eu_s E) = true ∧ True := eu_cnS C (List.mem_of_getElem? (i := 62) rfl) tw_76 tw_2 tw_77 rfl rfl (by decide +kernel) (by decide)
set_option maxHeartbeats 4000000 in
set_option maxRecDepth 100000 in
theorem wX2_findingAt {E : eu_E} (C : eu_C E ({ frames := 1, cells := 0, slots := 0, locals := 21 } : Room) 0 25 3 cX2_findingAt RX2 (Cond.code yX2_findingAt cX2_findingAt 3 (some .int) :: eu_TB) (some .int)) {σ : eu_T} {r : Int32} {k : Nat} {a1 : Int32} {a2 : Int32} (hk : 11 ≤ k ∧ k < 15) (h : fX2_findingAt σ k a1 a2 = r) : eu_G E 0 25 3 (eu_QI E 0 25 σ r) σ 0 [(0, .ref (eu_ad E k)), (1, .int a1), (2, .int a2)] [] := by
  unfold fX2_findingAt at h
  refine eg_aload_n C 0 dX2_findingAt_0 rfl ?_
  refine gf_X2_15 C _ hk dX2_findingAt_1 ?_
  refine eg_if_eq C 9 dX2_findingAt_4 (by decide) (fun c => ?_) (fun c => ?_)
  · rw [if_pos c] at h
    refine eg_iload_n C 1 dX2_findingAt_9 rfl ?_
    refine eg_aload_n C 0 dX2_findingAt_10 rfl ?_
    refine gf_X2_19 C _ hk dX2_findingAt_11 ?_
    refine eg_icmp_eq C 19 dX2_findingAt_14 (by decide) (fun c => ?_) (fun c => ?_)
    · rw [if_pos c] at h
      refine eg_iload_n C 2 dX2_findingAt_19 rfl ?_
      refine eg_aload_n C 0 dX2_findingAt_20 rfl ?_
      refine gf_X2_23 C _ hk dX2_findingAt_21 ?_
      refine eg_scallNI C (cw_X2_findingAt_X4_isBelow_26 C) (av := [.int a2, .int (σ k 3)]) (kX4_isBelow rfl) rfl (st := []) rfl (Nat.le_of_ble_eq_true rfl) dX2_findingAt_24 ?_
      refine eg_if_eq C 34 dX2_findingAt_27 (by decide) (fun c => ?_) (fun c => ?_)
      · rw [if_pos c] at h
        refine eg_iconst C (2 : Int32) dX2_findingAt_34 (by decide) ?_
        subst h
        exact eg_iret C rfl dX2_findingAt_35
      · rw [if_neg c] at h
        refine eg_iconst C (0 : Int32) dX2_findingAt_30 (by decide) ?_
        refine eg_goto C 35 dX2_findingAt_31 (by decide) ?_
        subst h
        exact eg_iret C rfl dX2_findingAt_35
    · rw [if_neg c] at h
      refine eg_iconst C (3 : Int32) dX2_findingAt_17 (by decide) ?_
      subst h
      exact eg_iret C rfl dX2_findingAt_18
  · rw [if_neg c] at h
    refine eg_iconst C (1 : Int32) dX2_findingAt_7 (by decide) ?_
    subst h
    exact eg_iret C rfl dX2_findingAt_8
theorem kX2_findingAt {l : Launch} {σ : eu_T} {r : Int32} {k : Nat} {a1 : Int32} {a2 : Int32} (hk : 11 ≤ k ∧ k < 15) (h : fX2_findingAt σ k a1 a2 = r) : eu_KI l yX2_findingAt (Cond.code yX2_findingAt cX2_findingAt 3 (some .int) :: eu_TB) ({ frames := 1, cells := 0, slots := 0, locals := 21 } : Room) 0 25 (fun ad => [.ref (ad k), .int a1, .int a2]) σ σ r :=
  eu_KI_of (by decide) (by decide) rfl (fun _ => Nat.le_of_ble_eq_true rfl) (fun E C => wX2_findingAt C hk h)
set_option maxHeartbeats 4000000 in
set_option maxRecDepth 100000 in
theorem wX2_hasItems_J30 {E : eu_E} (C : eu_C E ({ frames := 0, cells := 0, slots := 0, locals := 0 } : Room) 0 25 3 cX2_hasItems RX2 (Cond.code yX2_hasItems cX2_hasItems 3 (some .boolean) :: eu_TB) (some .boolean)) {σ : eu_T} {r : Int32}     (h : fX2_hasItems_J30 σ = r) : eu_G E 0 25 3 (eu_QI E 0 25 σ r) σ 30 [] [] := by
  unfold fX2_hasItems_J30 at h
  refine eg_iconst C (0 : Int32) dX2_hasItems_30 (by decide) ?_
  subst h
  exact eg_zret C rfl (by decide) dX2_hasItems_31
set_option maxHeartbeats 4000000 in
set_option maxRecDepth 100000 in
theorem wX2_hasItems {E : eu_E} (C : eu_C E ({ frames := 0, cells := 0, slots := 0, locals := 0 } : Room) 0 25 3 cX2_hasItems RX2 (Cond.code yX2_hasItems cX2_hasItems 3 (some .boolean) :: eu_TB) (some .boolean)) {σ : eu_T} {r : Int32} {k : Nat} {a1 : Int32} {a2 : Int32} (hk : 11 ≤ k ∧ k < 15) (h : fX2_hasItems σ k a1 a2 = r) : eu_G E 0 25 3 (eu_QI E 0 25 σ r) σ 0 [(0, .ref (eu_ad E k)), (1, .int a1), (2, .int a2)] [] := by
  unfold fX2_hasItems at h
  refine eg_iload_n C 1 dX2_hasItems_0 rfl ?_
  refine eg_if_lt C 30 dX2_hasItems_1 (by decide) (fun c => ?_) (fun c => ?_)
  · rw [if_pos c] at h
    refine eg_sub C [] rfl ?_
    exact wX2_hasItems_J30 C h
  · rw [if_neg c] at h
    refine eg_iload_n C 2 dX2_hasItems_4 rfl ?_
    refine eg_if_lt C 30 dX2_hasItems_5 (by decide) (fun c => ?_) (fun c => ?_)
    · rw [if_pos c] at h
      refine eg_sub C [] rfl ?_
      exact wX2_hasItems_J30 C h
    · rw [if_neg c] at h
      refine eg_iload_n C 1 dX2_hasItems_8 rfl ?_
      refine eg_aload_n C 0 dX2_hasItems_9 rfl ?_
      refine gf_X2_23 C _ hk dX2_hasItems_10 ?_
      refine eg_icmp_gt C 30 dX2_hasItems_13 (by decide) (fun c => ?_) (fun c => ?_)
      · rw [if_pos c] at h
        refine eg_sub C [] rfl ?_
        exact wX2_hasItems_J30 C h
      · rw [if_neg c] at h
        refine eg_iload_n C 2 dX2_hasItems_16 rfl ?_
        refine eg_aload_n C 0 dX2_hasItems_17 rfl ?_
        refine gf_X2_23 C _ hk dX2_hasItems_18 ?_
        refine eg_iload_n C 1 dX2_hasItems_21 rfl ?_
        refine eg_isub C dX2_hasItems_22 ?_
        refine eg_icmp_gt C 30 dX2_hasItems_23 (by decide) (fun c => ?_) (fun c => ?_)
        · rw [if_pos c] at h
          refine eg_sub C [] rfl ?_
          exact wX2_hasItems_J30 C h
        · rw [if_neg c] at h
          refine eg_iconst C (1 : Int32) dX2_hasItems_26 (by decide) ?_
          refine eg_goto C 31 dX2_hasItems_27 (by decide) ?_
          subst h
          exact eg_zret C rfl (by decide) dX2_hasItems_31
theorem kX2_hasItems {l : Launch} {σ : eu_T} {r : Int32} {k : Nat} {a1 : Int32} {a2 : Int32} (hk : 11 ≤ k ∧ k < 15) (h : fX2_hasItems σ k a1 a2 = r) : eu_KI l yX2_hasItems (Cond.code yX2_hasItems cX2_hasItems 3 (some .boolean) :: eu_TB) ({ frames := 0, cells := 0, slots := 0, locals := 0 } : Room) 0 25 (fun ad => [.ref (ad k), .int a1, .int a2]) σ σ r :=
  eu_KI_of (by decide) (by decide) rfl (fun _ => Nat.le_of_ble_eq_true rfl) (fun E C => wX2_hasItems C hk h)
theorem cw_X2_put_X4_isBelow_26 {E : eu_E} (C : eu_C E ({ frames := 1, cells := 0, slots := 0, locals := 21 } : Room) 0 25 3 cX2_put RX2 (Cond.code yX2_put cX2_put 3 none :: eu_TB) none) : va_CN (eu_R E) (eu_s E) (eu_a E) RX2 26 yX4_isBelow "EachUndoes" cX4_isBelow 2 (some .boolean) (Cond.code yX4_isBelow cX4_isBelow 2 (some .boolean) :: eu_TB) ({ frames := 0, cells := 0, slots := 0, locals := 0 } : Room) 0 0 2 ∧ (Cond.static yX4_isBelow).before (eu_a E) (eu_s E) = true ∧ True := eu_cnS C (List.mem_of_getElem? (i := 62) rfl) tw_76 tw_2 tw_77 rfl rfl (by decide +kernel) (by decide)
set_option maxHeartbeats 4000000 in
set_option maxRecDepth 100000 in
theorem wX2_put {E : eu_E} (C : eu_C E ({ frames := 1, cells := 0, slots := 0, locals := 21 } : Room) 0 25 3 cX2_put RX2 (Cond.code yX2_put cX2_put 3 none :: eu_TB) none) {σ : eu_T} {r : Int32} {σ' : eu_T} {k : Nat} {a1 : Int32} {a2 : Int32} (hk : 11 ≤ k ∧ k < 15) (h : fX2_put σ k a1 a2 = some (r, σ')) : eu_G E 0 25 3 (eu_QV E 0 25 σ' r) σ 0 [(0, .ref (eu_ad E k)), (1, .int a1), (2, .int a2)] [] := by
  unfold fX2_put at h
  refine eg_iload_n C 1 dX2_put_0 rfl ?_
  refine eg_aload_n C 0 dX2_put_1 rfl ?_
  refine gf_X2_23 C _ hk dX2_put_2 ?_
  refine eg_scallNI C (cw_X2_put_X4_isBelow_26 C) (av := [.int a1, .int (σ k 3)]) (kX4_isBelow rfl) rfl (st := []) rfl (Nat.le_of_ble_eq_true rfl) dX2_put_5 ?_
  refine eg_if_ne C 12 dX2_put_8 (by decide) (fun c => ?_) (fun c => ?_)
  · rw [if_neg c] at h
    refine eg_aload_n C 0 dX2_put_12 rfl ?_
    refine gf_X2_19 C _ hk dX2_put_13 ?_
    refine eg_if_ne C 30 dX2_put_16 (by decide) (fun c => ?_) (fun c => ?_)
    · rw [if_neg c] at h
      refine eg_aload_n C 0 dX2_put_30 rfl ?_
      refine gf_X2_19 C _ hk dX2_put_31 ?_
      refine eg_iconst C (1 : Int32) dX2_put_34 (by decide) ?_
      refine eg_icmp_ne C 49 dX2_put_35 (by decide) (fun c => ?_) (fun c => ?_)
      · rw [if_neg c] at h
        refine eg_aload_n C 0 dX2_put_49 rfl ?_
        refine gf_X2_9 C _ hk dX2_put_50 ?_
        refine eg_iload_n C 1 dX2_put_53 rfl ?_
        refine eg_iload_n C 2 dX2_put_54 rfl ?_
        obtain ⟨g1, h⟩ := eu_gd_some h
        refine eg_iast C (k + 4) (eu_ii0 (eu_i4 hk)) (z := 60) (eu_weI (eu_i4 hk)) (eu_in_vp g1) dX2_put_55 ?_
        obtain ⟨σ2, eσ2, h⟩ := eu_lt_x h
        rw [← eσ2]
        obtain ⟨rfl, rfl⟩ := eu_inj2 h
        exact eg_vret C rfl _ dX2_put_56
      · rw [if_pos c] at h
        refine eg_aload_n C 0 dX2_put_38 rfl ?_
        refine gf_X2_9 C _ hk dX2_put_39 ?_
        refine eg_iload_n C 1 dX2_put_42 rfl ?_
        refine eg_iload_n C 2 dX2_put_43 rfl ?_
        refine eg_i2s C dX2_put_44 ?_
        obtain ⟨g3, h⟩ := eu_gd_some h
        refine eg_iast C (k + 4) (eu_ii0 (eu_i4 hk)) (z := 60) (eu_weI (eu_i4 hk)) (eu_in_vp g3) dX2_put_45 ?_
        obtain ⟨σ4, eσ4, h⟩ := eu_lt_x h
        rw [← eσ4]
        refine eg_goto C 56 dX2_put_46 (by decide) ?_
        obtain ⟨rfl, rfl⟩ := eu_inj2 h
        exact eg_vret C rfl _ dX2_put_56
    · rw [if_pos c] at h
      refine eg_aload_n C 0 dX2_put_19 rfl ?_
      refine gf_X2_9 C _ hk dX2_put_20 ?_
      refine eg_iload_n C 1 dX2_put_23 rfl ?_
      refine eg_iload_n C 2 dX2_put_24 rfl ?_
      refine eg_i2b C dX2_put_25 ?_
      obtain ⟨g5, h⟩ := eu_gd_some h
      refine eg_iast C (k + 4) (eu_ii0 (eu_i4 hk)) (z := 60) (eu_weI (eu_i4 hk)) (eu_in_vp g5) dX2_put_26 ?_
      obtain ⟨σ6, eσ6, h⟩ := eu_lt_x h
      rw [← eσ6]
      refine eg_goto C 56 dX2_put_27 (by decide) ?_
      obtain ⟨rfl, rfl⟩ := eu_inj2 h
      exact eg_vret C rfl _ dX2_put_56
  · rw [if_pos c] at h
    obtain ⟨rfl, rfl⟩ := eu_inj2 h
    exact eg_vret C rfl _ dX2_put_11
theorem kX2_put {l : Launch} {σ : eu_T} {r : Int32} {σ' : eu_T} {k : Nat} {a1 : Int32} {a2 : Int32} (hk : 11 ≤ k ∧ k < 15) (h : fX2_put σ k a1 a2 = some (r, σ')) : eu_KV l yX2_put (Cond.code yX2_put cX2_put 3 none :: eu_TB) ({ frames := 1, cells := 0, slots := 0, locals := 21 } : Room) 0 25 (fun ad => [.ref (ad k), .int a1, .int a2]) σ σ' r :=
  eu_KV_of (by decide) (by decide) rfl (fun _ => Nat.le_of_ble_eq_true rfl) (fun E C => wX2_put C hk h)
set_option maxHeartbeats 4000000 in
set_option maxRecDepth 100000 in
theorem wX3_tell {E : eu_E} (C : eu_C E ({ frames := 0, cells := 0, slots := 0, locals := 0 } : Room) 0 25 3 cX3_tell RX3 (Cond.code yX3_tell cX3_tell 3 (some .boolean) :: eu_TB) (some .boolean)) {σ : eu_T} {r : Int32} {σ' : eu_T} {a1 : Int32} {a2 : Int32}  (h : fX3_tell σ a1 a2 = some (r, σ')) : eu_G E 0 25 3 (eu_QI E 0 25 σ' r) σ 0 [(0, .ref (eu_ad E 2)), (1, .int a1), (2, .int a2)] [] := by
  unfold fX3_tell at h
  refine eg_aload_n C 0 dX3_tell_0 rfl ?_
  refine gf_X3_25 C (by decide) dX3_tell_1 ?_
  refine eg_bipush C (12 : Int32) dX3_tell_4 (by decide) ?_
  refine eg_icmp_lt C 11 dX3_tell_6 (by decide) (fun c => ?_) (fun c => ?_)
  · rw [if_pos c] at h
    refine eg_aload_n C 0 dX3_tell_11 rfl ?_
    refine gf_X3_18 C (by decide) dX3_tell_12 ?_
    refine eg_aload_n C 0 dX3_tell_15 rfl ?_
    refine gf_X3_25 C (by decide) dX3_tell_16 ?_
    refine eg_iload_n C 1 dX3_tell_19 rfl ?_
    obtain ⟨g1, h⟩ := eu_gd_some h
    refine eg_iast C 9 (by decide) (z := 12) (fun _ => rfl) (eu_in_vp g1) dX3_tell_20 ?_
    obtain ⟨σ2, eσ2, h⟩ := eu_lt_x h
    rw [← eσ2]
    refine eg_aload_n C 0 dX3_tell_21 rfl ?_
    refine gf_X3_22 C (by decide) dX3_tell_22 ?_
    refine eg_aload_n C 0 dX3_tell_25 rfl ?_
    refine gf_X3_25 C (by decide) dX3_tell_26 ?_
    refine eg_iload_n C 2 dX3_tell_29 rfl ?_
    obtain ⟨g3, h⟩ := eu_gd_some h
    refine eg_iast C 10 (by decide) (z := 12) (fun _ => rfl) (eu_in_vp g3) dX3_tell_30 ?_
    obtain ⟨σ4, eσ4, h⟩ := eu_lt_x h
    rw [← eσ4]
    refine eg_aload_n C 0 dX3_tell_31 rfl ?_
    refine eg_dup C dX3_tell_32 rfl ?_
    refine gf_X3_25 C (by decide) dX3_tell_33 ?_
    refine eg_iconst C (1 : Int32) dX3_tell_36 (by decide) ?_
    refine eg_iadd C dX3_tell_37 ?_
    refine pf_X3_25 C (by decide) dX3_tell_38 ?_
    obtain ⟨σ5, eσ5, h⟩ := eu_lt_x h
    rw [← eσ5]
    refine eg_iconst C (1 : Int32) dX3_tell_41 (by decide) ?_
    obtain ⟨rfl, rfl⟩ := eu_inj2 h
    exact eg_zret C rfl (by decide) dX3_tell_42
  · rw [if_neg c] at h
    refine eg_iconst C (0 : Int32) dX3_tell_9 (by decide) ?_
    obtain ⟨rfl, rfl⟩ := eu_inj2 h
    exact eg_zret C rfl (by decide) dX3_tell_10
theorem kX3_tell {l : Launch} {σ : eu_T} {r : Int32} {σ' : eu_T} {a1 : Int32} {a2 : Int32}  (h : fX3_tell σ a1 a2 = some (r, σ')) : eu_KI l yX3_tell (Cond.code yX3_tell cX3_tell 3 (some .boolean) :: eu_TB) ({ frames := 0, cells := 0, slots := 0, locals := 0 } : Room) 0 25 (fun ad => [.ref (ad 2), .int a1, .int a2]) σ σ' r :=
  eu_KI_of (by decide) (by decide) rfl (fun _ => Nat.le_of_ble_eq_true rfl) (fun E C => wX3_tell C h)
theorem cw_X3_lawfulOfFirst_X3_lawful_36 {E : eu_E} (C : eu_C E ({ frames := 2, cells := 0, slots := 0, locals := 50 } : Room) 0 25 2 cX3_lawfulOfFirst RX3 (Cond.code yX3_lawfulOfFirst cX3_lawfulOfFirst 2 (some .int) :: eu_TB) (some .int)) : CallW (eu_R E) (eu_s E) (eu_a E) RX3 RX3 36 yX3_lawful cX3_lawful 7 (some .int) (Cond.code yX3_lawful cX3_lawful 7 (some .int) :: eu_TB) ({ frames := 1, cells := 0, slots := 0, locals := 24 } : Room) 0 0 1 := eu_cwV C tw_287 tw_232 tw_233 tw_28 tw_234 rfl rfl (by decide +kernel) (by decide)
theorem cw_X3_lawfulOfFirst_X4_firstBits_40 {E : eu_E} (C : eu_C E ({ frames := 2, cells := 0, slots := 0, locals := 50 } : Room) 0 25 2 cX3_lawfulOfFirst RX3 (Cond.code yX3_lawfulOfFirst cX3_lawfulOfFirst 2 (some .int) :: eu_TB) (some .int)) : va_CN (eu_R E) (eu_s E) (eu_a E) RX3 40 yX4_firstBits "EachUndoes" cX4_firstBits 1 (some .int) (Cond.code yX4_firstBits cX4_firstBits 1 (some .int) :: eu_TB) ({ frames := 0, cells := 0, slots := 0, locals := 0 } : Room) 0 0 1 ∧ (Cond.static yX4_firstBits).before (eu_a E) (eu_s E) = true ∧ True := eu_cnS C (List.mem_of_getElem? (i := 34) rfl) tw_288 tw_2 tw_289 rfl rfl (by decide +kernel) (by decide)
set_option maxHeartbeats 4000000 in
set_option maxRecDepth 100000 in
theorem wX3_lawfulOfFirst {E : eu_E} (C : eu_C E ({ frames := 2, cells := 0, slots := 0, locals := 50 } : Room) 0 25 2 cX3_lawfulOfFirst RX3 (Cond.code yX3_lawfulOfFirst cX3_lawfulOfFirst 2 (some .int) :: eu_TB) (some .int)) {σ : eu_T} {r : Int32} {a1 : Int32}  (h : fX3_lawfulOfFirst σ a1 = some r) : eu_G E 0 25 2 (eu_QI E 0 25 σ r) σ 0 [(0, .ref (eu_ad E 2)), (1, .int a1)] [] := by
  unfold fX3_lawfulOfFirst at h
  refine eg_aload_n C 0 dX3_lawfulOfFirst_0 rfl ?_
  refine eg_iconst C (-1 : Int32) dX3_lawfulOfFirst_1 (by decide) ?_
  obtain ⟨r1, hr1, h⟩ := eu_bd_some h
  refine eg_callI C (cw_X3_lawfulOfFirst_X3_lawful_36 C) (av := [.int (-1 : Int32)]) 2 (by decide) (kX3_lawful hr1) rfl rfl rfl rfl (st := []) rfl (Nat.le_of_ble_eq_true rfl) dX3_lawfulOfFirst_2 ?_
  refine eg_iload_n C 1 dX3_lawfulOfFirst_5 rfl ?_
  refine eg_scallNI C (cw_X3_lawfulOfFirst_X4_firstBits_40 C) (av := [.int a1]) (kX4_firstBits rfl) rfl (st := [.int r1]) rfl (Nat.le_of_ble_eq_true rfl) dX3_lawfulOfFirst_6 ?_
  refine eg_iand C dX3_lawfulOfFirst_9 ?_
  obtain rfl := Option.some.inj h
  exact eg_iret C rfl dX3_lawfulOfFirst_10
theorem kX3_lawfulOfFirst {l : Launch} {σ : eu_T} {r : Int32} {a1 : Int32}  (h : fX3_lawfulOfFirst σ a1 = some r) : eu_KI l yX3_lawfulOfFirst (Cond.code yX3_lawfulOfFirst cX3_lawfulOfFirst 2 (some .int) :: eu_TB) ({ frames := 2, cells := 0, slots := 0, locals := 50 } : Room) 0 25 (fun ad => [.ref (ad 2), .int a1]) σ σ r :=
  eu_KI_of (by decide) (by decide) rfl (fun _ => Nat.le_of_ble_eq_true rfl) (fun E C => wX3_lawfulOfFirst C h)
theorem cw_X3_standing_X3_undone_50 {E : eu_E} (C : eu_C E ({ frames := 2, cells := 0, slots := 0, locals := 48 } : Room) 0 25 2 cX3_standing RX3 (Cond.code yX3_standing cX3_standing 2 (some .int) :: eu_TB) (some .int)) : CallW (eu_R E) (eu_s E) (eu_a E) RX3 RX3 50 yX3_undone cX3_undone 5 (some .int) (Cond.code yX3_undone cX3_undone 5 (some .int) :: eu_TB) ({ frames := 1, cells := 0, slots := 0, locals := 24 } : Room) 0 0 1 := eu_cwV C tw_293 tw_294 tw_295 tw_28 tw_296 rfl rfl (by decide +kernel) (by decide)
theorem cw_X3_standing_X0_standing_53 {E : eu_E} (C : eu_C E ({ frames := 2, cells := 0, slots := 0, locals := 48 } : Room) 0 25 2 cX3_standing RX3 (Cond.code yX3_standing cX3_standing 2 (some .int) :: eu_TB) (some .int)) : va_CN (eu_R E) (eu_s E) (eu_a E) RX3 53 yX0_standing "EachUndoes" cX0_standing 2 (some .int) (Cond.code yX0_standing cX0_standing 2 (some .int) :: eu_TB) ({ frames := 1, cells := 0, slots := 0, locals := 23 } : Room) 0 0 1 ∧ (Cond.instanceMethod yX0_standing).before (eu_a E) (eu_s E) = true ∧ (Cond.selects RX0 yX0_standing yX0_standing).before (eu_a E) (eu_s E) = true := eu_cnV C (List.mem_of_getElem? (i := 36) rfl) tw_298 tw_299 tw_39 tw_300 rfl rfl (by decide +kernel) (by decide)
set_option maxHeartbeats 4000000 in
set_option maxRecDepth 100000 in
theorem wX3_standing {E : eu_E} (C : eu_C E ({ frames := 2, cells := 0, slots := 0, locals := 48 } : Room) 0 25 2 cX3_standing RX3 (Cond.code yX3_standing cX3_standing 2 (some .int) :: eu_TB) (some .int)) {σ : eu_T} {r : Int32} {a1 : Int32}  (h : fX3_standing σ a1 = some r) : eu_G E 0 25 2 (eu_QI E 0 25 σ r) σ 0 [(0, .ref (eu_ad E 2)), (1, .int a1)] [] := by
  unfold fX3_standing at h
  refine eg_aload_n C 0 dX3_standing_0 rfl ?_
  refine gf_X3_12 C (by decide) dX3_standing_1 ?_
  refine eg_aload_n C 0 dX3_standing_4 rfl ?_
  refine eg_iload_n C 1 dX3_standing_5 rfl ?_
  obtain ⟨r1, hr1, h⟩ := eu_bd_some h
  refine eg_callI C (cw_X3_standing_X3_undone_50 C) (av := [.int a1]) 2 (by decide) (kX3_undone hr1) rfl rfl rfl rfl (st := [.ref (eu_ad E 3)]) rfl (Nat.le_of_ble_eq_true rfl) dX3_standing_6 ?_
  obtain ⟨r2, hr2, h⟩ := eu_bd_some h
  refine eg_callNI C (cw_X3_standing_X0_standing_53 C) (av := [.int r1]) 3 (by decide) (kX0_standing hr2) rfl rfl rfl rfl (st := []) rfl (Nat.le_of_ble_eq_true rfl) dX3_standing_9 ?_
  obtain rfl := Option.some.inj h
  exact eg_iret C rfl dX3_standing_12
theorem kX3_standing {l : Launch} {σ : eu_T} {r : Int32} {a1 : Int32}  (h : fX3_standing σ a1 = some r) : eu_KI l yX3_standing (Cond.code yX3_standing cX3_standing 2 (some .int) :: eu_TB) ({ frames := 2, cells := 0, slots := 0, locals := 48 } : Room) 0 25 (fun ad => [.ref (ad 2), .int a1]) σ σ r :=
  eu_KI_of (by decide) (by decide) rfl (fun _ => Nat.le_of_ble_eq_true rfl) (fun E C => wX3_standing C h)
theorem cw_X4_type_X4_isBelow_39 {E : eu_E} (C : eu_C E ({ frames := 4, cells := 0, slots := 0, locals := 89 } : Room) 0 25 2 cX4_type RX4 (Cond.code yX4_type cX4_type 2 (some .int) :: eu_TB) (some .int)) : CallB (eu_R E) (eu_s E) (eu_a E) RX4 39 yX4_isBelow cX4_isBelow 2 (some .boolean) (Cond.code yX4_isBelow cX4_isBelow 2 (some .boolean) :: eu_TB) ({ frames := 0, cells := 0, slots := 0, locals := 0 } : Room) 0 0 2 ∧ (Cond.static yX4_isBelow).before (eu_a E) (eu_s E) = true := eu_cwS C tw_75 tw_76 tw_2 tw_77 rfl rfl (by decide +kernel) (by decide)
theorem cw_X4_type_X0_append_48 {E : eu_E} (C : eu_C E ({ frames := 4, cells := 0, slots := 0, locals := 89 } : Room) 0 25 2 cX4_type RX4 (Cond.code yX4_type cX4_type 2 (some .int) :: eu_TB) (some .int)) : va_CN (eu_R E) (eu_s E) (eu_a E) RX4 48 yX0_append "EachUndoes" cX0_append 2 (some .int) (Cond.code yX0_append cX0_append 2 (some .int) :: eu_TB) ({ frames := 3, cells := 0, slots := 0, locals := 68 } : Room) 0 0 1 ∧ (Cond.instanceMethod yX0_append).before (eu_a E) (eu_s E) = true ∧ (Cond.selects RX0 yX0_append yX0_append).before (eu_a E) (eu_s E) = true := eu_cnV C (List.mem_of_getElem? (i := 26) rfl) tw_78 tw_79 tw_39 tw_80 rfl rfl (by decide +kernel) (by decide)
set_option maxHeartbeats 4000000 in
set_option maxRecDepth 100000 in
theorem wX4_type {E : eu_E} (C : eu_C E ({ frames := 4, cells := 0, slots := 0, locals := 89 } : Room) 0 25 2 cX4_type RX4 (Cond.code yX4_type cX4_type 2 (some .int) :: eu_TB) (some .int)) {σ : eu_T} {r : Int32} {σ' : eu_T} {a1 : Int32}  (h : fX4_type σ a1 = some (r, σ')) : eu_G E 0 25 2 (eu_QI E 0 25 σ' r) σ 0 [(0, .ref (eu_ad E 0)), (1, .int a1)] [] := by
  unfold fX4_type at h
  refine eg_iload_n C 1 dX4_type_0 rfl ?_
  refine eg_sipush C (256 : Int32) dX4_type_1 (by decide) ?_
  refine eg_scallI C (cw_X4_type_X4_isBelow_39 C) (av := [.int a1, .int (256 : Int32)]) (kX4_isBelow rfl) rfl (st := []) rfl (Nat.le_of_ble_eq_true rfl) dX4_type_4 ?_
  refine eg_if_ne C 13 dX4_type_7 (by decide) (fun c => ?_) (fun c => ?_)
  · rw [if_neg c] at h
    refine eg_aload_n C 0 dX4_type_13 rfl ?_
    refine gf_X4_27 C (by decide) dX4_type_14 ?_
    refine gf_X4_43 C (by decide) dX4_type_17 ?_
    refine eg_bipush C (60 : Int32) dX4_type_20 (by decide) ?_
    refine eg_icmp_lt C 28 dX4_type_22 (by decide) (fun c => ?_) (fun c => ?_)
    · rw [if_pos c] at h
      refine eg_aload_n C 0 dX4_type_28 rfl ?_
      refine gf_X4_27 C (by decide) dX4_type_29 ?_
      refine eg_iload_n C 1 dX4_type_32 rfl ?_
      obtain ⟨r1, σ2, hr1, h⟩ := eu_b2_some h
      refine eg_callNI C (cw_X4_type_X0_append_48 C) (av := [.int a1]) 3 (by decide) (kX0_append hr1) rfl rfl rfl rfl (st := []) rfl (Nat.le_of_ble_eq_true rfl) dX4_type_33 ?_
      obtain ⟨rfl, rfl⟩ := eu_inj2 h
      exact eg_iret C rfl dX4_type_36
    · rw [if_neg c] at h
      refine eg_bipush C (-4 : Int32) dX4_type_25 (by decide) ?_
      obtain ⟨rfl, rfl⟩ := eu_inj2 h
      exact eg_iret C rfl dX4_type_27
  · rw [if_pos c] at h
    refine eg_bipush C (-2 : Int32) dX4_type_10 (by decide) ?_
    obtain ⟨rfl, rfl⟩ := eu_inj2 h
    exact eg_iret C rfl dX4_type_12
theorem kX4_type {l : Launch} {σ : eu_T} {r : Int32} {σ' : eu_T} {a1 : Int32}  (h : fX4_type σ a1 = some (r, σ')) : eu_KI l yX4_type (Cond.code yX4_type cX4_type 2 (some .int) :: eu_TB) ({ frames := 4, cells := 0, slots := 0, locals := 89 } : Room) 0 25 (fun ad => [.ref (ad 0), .int a1]) σ σ' r :=
  eu_KI_of (by decide) (by decide) rfl (fun _ => Nat.le_of_ble_eq_true rfl) (fun E C => wX4_type C h)
