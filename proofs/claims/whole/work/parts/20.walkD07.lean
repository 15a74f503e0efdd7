theorem cw_X4_withUndoings_X4_holds_245 {E : eu_E} (C : eu_C E ({ frames := 5, cells := 0, slots := 0, locals := 115 } : Room) 0 25 6 cX4_withUndoings RX4 (Cond.code yX4_withUndoings cX4_withUndoings 6 (some .long) :: eu_TB) (some .long)) : CallW (eu_R E) (eu_s E) (eu_a E) RX4 RX4 245 yX4_holds cX4_holds 2 (some .int) (Cond.code yX4_holds cX4_holds 2 (some .int) :: eu_TB) ({ frames := 2, cells := 0, slots := 0, locals := 50 } : Room) 0 0 1 := eu_cwV C tw_661 tw_262 tw_263 tw_2 tw_264 rfl rfl (by decide +kernel) (by decide)
theorem cw_X4_withUndoings_X4_mixed_207 {E : eu_E} (C : eu_C E ({ frames := 5, cells := 0, slots := 0, locals := 115 } : Room) 0 25 6 cX4_withUndoings RX4 (Cond.code yX4_withUndoings cX4_withUndoings 6 (some .long) :: eu_TB) (some .long)) : CallB (eu_R E) (eu_s E) (eu_a E) RX4 207 yX4_mixed cX4_mixed 4 (some .long) (Cond.code yX4_mixed cX4_mixed 4 (some .long) :: eu_TB) ({ frames := 0, cells := 0, slots := 0, locals := 0 } : Room) 0 0 2 ∧ (Cond.static yX4_mixed).before (eu_a E) (eu_s E) = true := eu_cwS C tw_645 tw_646 tw_2 tw_647 rfl rfl (by decide +kernel) (by decide)
theorem cw_X4_withUndoings_X4_by_248 {E : eu_E} (C : eu_C E ({ frames := 5, cells := 0, slots := 0, locals := 115 } : Room) 0 25 6 cX4_withUndoings RX4 (Cond.code yX4_withUndoings cX4_withUndoings 6 (some .long) :: eu_TB) (some .long)) : CallW (eu_R E) (eu_s E) (eu_a E) RX4 RX4 248 yX4_by cX4_by 2 (some .int) (Cond.code yX4_by cX4_by 2 (some .int) :: eu_TB) ({ frames := 4, cells := 0, slots := 0, locals := 92 } : Room) 0 0 1 := eu_cwV C tw_662 tw_343 tw_344 tw_2 tw_345 rfl rfl (by decide +kernel) (by decide)
theorem cw_X4_withUndoings_X4_without_251 {E : eu_E} (C : eu_C E ({ frames := 5, cells := 0, slots := 0, locals := 115 } : Room) 0 25 6 cX4_withUndoings RX4 (Cond.code yX4_withUndoings cX4_withUndoings 6 (some .long) :: eu_TB) (some .long)) : CallW (eu_R E) (eu_s E) (eu_a E) RX4 RX4 251 yX4_without cX4_without 4 (some .int) (Cond.code yX4_without cX4_without 4 (some .int) :: eu_TB) ({ frames := 4, cells := 0, slots := 0, locals := 92 } : Room) 0 0 2 := eu_cwV C tw_663 tw_355 tw_356 tw_2 tw_357 rfl rfl (by decide +kernel) (by decide)
theorem cw_X4_withUndoings_X4_state_254 {E : eu_E} (C : eu_C E ({ frames := 5, cells := 0, slots := 0, locals := 115 } : Room) 0 25 6 cX4_withUndoings RX4 (Cond.code yX4_withUndoings cX4_withUndoings 6 (some .long) :: eu_TB) (some .long)) : CallW (eu_R E) (eu_s E) (eu_a E) RX4 RX4 254 yX4_state cX4_state 3 (some .int) (Cond.code yX4_state cX4_state 3 (some .int) :: eu_TB) ({ frames := 4, cells := 0, slots := 0, locals := 92 } : Room) 0 0 2 := eu_cwV C tw_664 tw_277 tw_278 tw_2 tw_279 rfl rfl (by decide +kernel) (by decide)
set_option maxHeartbeats 4000000 in
set_option maxRecDepth 100000 in
theorem wX4_withUndoings_L76 {E : eu_E} (C : eu_C E ({ frames := 5, cells := 0, slots := 0, locals := 115 } : Room) 0 25 6 cX4_withUndoings RX4 (Cond.code yX4_withUndoings cX4_withUndoings 6 (some .long) :: eu_TB) (some .long)) {σ : eu_T} {r : Int64}   : ∀ (n : Nat) (v3 : Int64) (v5 : Int32), fX4_withUndoings_L76 σ n v3 v5 = some r → eu_G E 0 25 6 (eu_QL E 0 25 σ r) σ 76 [(0, .ref (eu_ad E 0)), (3, .long v3), (5, .int v5)] [] := by
  intro n
  induction n with
  | zero =>
    intro v3 v5  h
    rw [fX4_withUndoings_L76_z] at h
    cases h
  | succ n ih =>
    intro v3 v5  h
    rw [fX4_withUndoings_L76_s] at h
    refine eg_iload C 2 dX4_withUndoings_76 rfl ?_
    refine eg_aload_n C 0 dX4_withUndoings_78 rfl ?_
    refine gf_X4_20 C (by decide) dX4_withUndoings_79 ?_
    refine gf_X4_79 C (by decide) dX4_withUndoings_82 ?_
    refine eg_icmp_gt C 120 dX4_withUndoings_85 (by decide) (fun c => ?_) (fun c => ?_)
    · rw [if_pos c] at h
      refine eg_lload_n C 1 dX4_withUndoings_120 rfl ?_
      obtain rfl := Option.some.inj h
      exact eg_lret C rfl dX4_withUndoings_121
    · rw [if_neg c] at h
      refine eg_lload_n C 1 dX4_withUndoings_88 rfl ?_
      refine eg_aload_n C 0 dX4_withUndoings_89 rfl ?_
      refine eg_iload C 2 dX4_withUndoings_90 rfl ?_
      refine eg_iconst C (0 : Int32) dX4_withUndoings_92 (by decide) ?_
      obtain ⟨r6, hr6, h⟩ := eu_bd_some h
      refine eg_callI C (cw_X4_withUndoings_X4_state_254 C) (av := [.int v5, .int (0 : Int32)]) 0 (by decide) (kX4_state hr6) rfl rfl rfl rfl (st := [.long v3]) rfl (Nat.le_of_ble_eq_true rfl) dX4_withUndoings_93 ?_
      refine eg_i2l C dX4_withUndoings_96 ?_
      refine eg_scallL C (cw_X4_withUndoings_X4_mixed_207 C) (av := [.long v3, .long r6.toInt64]) (kX4_mixed rfl) rfl (st := []) rfl (Nat.le_of_ble_eq_true rfl) dX4_withUndoings_97 ?_
      refine eg_lstore_n C [(3, .long (fX4_mixed v3 r6.toInt64)), (0, .ref (eu_ad E 0)), (5, .int v5)] dX4_withUndoings_100 rfl (by decide) rfl ?_
      refine eg_lload_n C 0 dX4_withUndoings_101 rfl ?_
      refine eg_aload_n C 1 dX4_withUndoings_102 rfl ?_
      refine eg_iload C 2 dX4_withUndoings_103 rfl ?_
      refine eg_iconst C (1 : Int32) dX4_withUndoings_105 (by decide) ?_
      obtain ⟨r7, hr7, h⟩ := eu_bd_some h
      refine eg_callI C (cw_X4_withUndoings_X4_state_254 C) (av := [.int v5, .int (1 : Int32)]) 0 (by decide) (kX4_state hr7) rfl rfl rfl rfl (st := [.long (fX4_mixed v3 r6.toInt64)]) rfl (Nat.le_of_ble_eq_true rfl) dX4_withUndoings_106 ?_
      refine eg_i2l C dX4_withUndoings_109 ?_
      refine eg_scallL C (cw_X4_withUndoings_X4_mixed_207 C) (av := [.long (fX4_mixed v3 r6.toInt64), .long r7.toInt64]) (kX4_mixed rfl) rfl (st := []) rfl (Nat.le_of_ble_eq_true rfl) dX4_withUndoings_110 ?_
      refine eg_lstore_n C [(3, .long (fX4_mixed (fX4_mixed v3 r6.toInt64) r7.toInt64)), (0, .ref (eu_ad E 0)), (5, .int v5)] dX4_withUndoings_113 rfl (by decide) rfl ?_
      refine eg_iinc C 2 (v5 + (1 : Int32)) [(5, .int (v5 + (1 : Int32))), (3, .long (fX4_mixed (fX4_mixed v3 r6.toInt64) r7.toInt64)), (0, .ref (eu_ad E 0))] dX4_withUndoings_114 rfl rfl (by decide) rfl ?_
      refine eg_goto C 76 dX4_withUndoings_117 (by decide) ?_
      refine eg_sub C [2, 1, 0] rfl ?_
      exact ih _ _ h
set_option maxHeartbeats 4000000 in
set_option maxRecDepth 100000 in
theorem wX4_withUndoings_L5 {E : eu_E} (C : eu_C E ({ frames := 5, cells := 0, slots := 0, locals := 115 } : Room) 0 25 6 cX4_withUndoings RX4 (Cond.code yX4_withUndoings cX4_withUndoings 6 (some .long) :: eu_TB) (some .long)) {σ : eu_T} {r : Int64}   : ∀ (n : Nat) (v3 : Int64) (v5 : Int32), fX4_withUndoings_L5 σ n v3 v5 = some r → eu_G E 0 25 6 (eu_QL E 0 25 σ r) σ 5 [(0, .ref (eu_ad E 0)), (3, .long v3), (5, .int v5)] [] := by
  intro n
  induction n with
  | zero =>
    intro v3 v5  h
    rw [fX4_withUndoings_L5_z] at h
    cases h
  | succ n ih =>
    intro v3 v5  h
    rw [fX4_withUndoings_L5_s] at h
    refine eg_iload C 2 dX4_withUndoings_5 rfl ?_
    refine eg_aload_n C 0 dX4_withUndoings_7 rfl ?_
    refine gf_X4_20 C (by decide) dX4_withUndoings_8 ?_
    refine gf_X4_79 C (by decide) dX4_withUndoings_11 ?_
    refine eg_icmp_ge C 73 dX4_withUndoings_14 (by decide) (fun c => ?_) (fun c => ?_)
    · rw [if_pos c] at h
      refine eg_iconst C (0 : Int32) dX4_withUndoings_73 (by decide) ?_
      refine eg_istore C [(5, .int (0 : Int32)), (0, .ref (eu_ad E 0)), (3, .long v3)] dX4_withUndoings_74 (by decide) rfl ?_
      refine eg_sub C [1, 2, 0] rfl ?_
      exact wX4_withUndoings_L76 C 200 _ _ h
    · rw [if_neg c] at h
      refine eg_lload_n C 1 dX4_withUndoings_17 rfl ?_
      refine eg_aload_n C 0 dX4_withUndoings_18 rfl ?_
      refine eg_iload C 2 dX4_withUndoings_19 rfl ?_
      obtain ⟨r1, hr1, h⟩ := eu_bd_some h
      refine eg_callI C (cw_X4_withUndoings_X4_holds_245 C) (av := [.int v5]) 0 (by decide) (kX4_holds hr1) rfl rfl rfl rfl (st := [.long v3]) rfl (Nat.le_of_ble_eq_true rfl) dX4_withUndoings_21 ?_
      refine eg_i2l C dX4_withUndoings_24 ?_
      refine eg_scallL C (cw_X4_withUndoings_X4_mixed_207 C) (av := [.long v3, .long r1.toInt64]) (kX4_mixed rfl) rfl (st := []) rfl (Nat.le_of_ble_eq_true rfl) dX4_withUndoings_25 ?_
      refine eg_lstore_n C [(3, .long (fX4_mixed v3 r1.toInt64)), (0, .ref (eu_ad E 0)), (5, .int v5)] dX4_withUndoings_28 rfl (by decide) rfl ?_
      refine eg_lload_n C 0 dX4_withUndoings_29 rfl ?_
      refine eg_aload_n C 1 dX4_withUndoings_30 rfl ?_
      refine eg_iload C 2 dX4_withUndoings_31 rfl ?_
      obtain ⟨r2, hr2, h⟩ := eu_bd_some h
      refine eg_callI C (cw_X4_withUndoings_X4_by_248 C) (av := [.int v5]) 0 (by decide) (kX4_by hr2) rfl rfl rfl rfl (st := [.long (fX4_mixed v3 r1.toInt64)]) rfl (Nat.le_of_ble_eq_true rfl) dX4_withUndoings_33 ?_
      refine eg_i2l C dX4_withUndoings_36 ?_
      refine eg_scallL C (cw_X4_withUndoings_X4_mixed_207 C) (av := [.long (fX4_mixed v3 r1.toInt64), .long r2.toInt64]) (kX4_mixed rfl) rfl (st := []) rfl (Nat.le_of_ble_eq_true rfl) dX4_withUndoings_37 ?_
      refine eg_lstore_n C [(3, .long (fX4_mixed (fX4_mixed v3 r1.toInt64) r2.toInt64)), (0, .ref (eu_ad E 0)), (5, .int v5)] dX4_withUndoings_40 rfl (by decide) rfl ?_
      refine eg_lload_n C 0 dX4_withUndoings_41 rfl ?_
      refine eg_aload_n C 1 dX4_withUndoings_42 rfl ?_
      refine eg_iload C 2 dX4_withUndoings_43 rfl ?_
      refine eg_iconst C (0 : Int32) dX4_withUndoings_45 (by decide) ?_
      obtain ⟨r3, hr3, h⟩ := eu_bd_some h
      refine eg_callI C (cw_X4_withUndoings_X4_without_251 C) (av := [.int v5, .int (0 : Int32)]) 0 (by decide) (kX4_without hr3) rfl rfl rfl rfl (st := [.long (fX4_mixed (fX4_mixed v3 r1.toInt64) r2.toInt64)]) rfl (Nat.le_of_ble_eq_true rfl) dX4_withUndoings_46 ?_
      refine eg_i2l C dX4_withUndoings_49 ?_
      refine eg_scallL C (cw_X4_withUndoings_X4_mixed_207 C) (av := [.long (fX4_mixed (fX4_mixed v3 r1.toInt64) r2.toInt64), .long r3.toInt64]) (kX4_mixed rfl) rfl (st := []) rfl (Nat.le_of_ble_eq_true rfl) dX4_withUndoings_50 ?_
      obtain ⟨x4, ex4, h⟩ := eu_lt_x h
      rw [← ex4]
      refine eg_lstore_n C [(3, .long x4), (0, .ref (eu_ad E 0)), (5, .int v5)] dX4_withUndoings_53 rfl (by decide) rfl ?_
      refine eg_lload_n C 0 dX4_withUndoings_54 rfl ?_
      refine eg_aload_n C 1 dX4_withUndoings_55 rfl ?_
      refine eg_iload C 2 dX4_withUndoings_56 rfl ?_
      refine eg_iconst C (1 : Int32) dX4_withUndoings_58 (by decide) ?_
      obtain ⟨r5, hr5, h⟩ := eu_bd_some h
      refine eg_callI C (cw_X4_withUndoings_X4_without_251 C) (av := [.int v5, .int (1 : Int32)]) 0 (by decide) (kX4_without hr5) rfl rfl rfl rfl (st := [.long x4]) rfl (Nat.le_of_ble_eq_true rfl) dX4_withUndoings_59 ?_
      refine eg_i2l C dX4_withUndoings_62 ?_
      refine eg_scallL C (cw_X4_withUndoings_X4_mixed_207 C) (av := [.long x4, .long r5.toInt64]) (kX4_mixed rfl) rfl (st := []) rfl (Nat.le_of_ble_eq_true rfl) dX4_withUndoings_63 ?_
      refine eg_lstore_n C [(3, .long (fX4_mixed x4 r5.toInt64)), (0, .ref (eu_ad E 0)), (5, .int v5)] dX4_withUndoings_66 rfl (by decide) rfl ?_
      refine eg_iinc C 2 (v5 + (1 : Int32)) [(5, .int (v5 + (1 : Int32))), (3, .long (fX4_mixed x4 r5.toInt64)), (0, .ref (eu_ad E 0))] dX4_withUndoings_67 rfl rfl (by decide) rfl ?_
      refine eg_goto C 5 dX4_withUndoings_70 (by decide) ?_
      refine eg_sub C [2, 1, 0] rfl ?_
      exact ih _ _ h
set_option maxHeartbeats 4000000 in
set_option maxRecDepth 100000 in
theorem wX4_withUndoings {E : eu_E} (C : eu_C E ({ frames := 5, cells := 0, slots := 0, locals := 115 } : Room) 0 25 6 cX4_withUndoings RX4 (Cond.code yX4_withUndoings cX4_withUndoings 6 (some .long) :: eu_TB) (some .long)) {σ : eu_T} {r : Int64} {a1 : Int64}  (h : fX4_withUndoings σ a1 = some r) : eu_G E 0 25 6 (eu_QL E 0 25 σ r) σ 0 [(0, .ref (eu_ad E 0)), (1, .long a1)] [] := by
  unfold fX4_withUndoings at h
  refine eg_lload_n C 1 dX4_withUndoings_0 rfl ?_
  refine eg_lstore_n C [(3, .long a1), (0, .ref (eu_ad E 0)), (1, .long a1)] dX4_withUndoings_1 rfl (by decide) rfl ?_
  refine eg_iconst C (0 : Int32) dX4_withUndoings_2 (by decide) ?_
  refine eg_istore C [(5, .int (0 : Int32)), (3, .long a1), (0, .ref (eu_ad E 0)), (1, .long a1)] dX4_withUndoings_3 (by decide) rfl ?_
  refine eg_sub C [2, 1, 0] rfl ?_
  exact wX4_withUndoings_L5 C 200 _ _ h
theorem kX4_withUndoings {l : Launch} {σ : eu_T} {r : Int64} {a1 : Int64}  (h : fX4_withUndoings σ a1 = some r) : eu_KL l yX4_withUndoings (Cond.code yX4_withUndoings cX4_withUndoings 6 (some .long) :: eu_TB) ({ frames := 5, cells := 0, slots := 0, locals := 115 } : Room) 0 25 (fun ad => [.ref (ad 0), .long a1]) σ σ r :=
  eu_KL_of (by decide) (by decide) rfl (fun _ => Nat.le_of_ble_eq_true rfl) (fun E C => wX4_withUndoings C h)
theorem cw_X4_digest_X4_fault_211 {E : eu_E} (C : eu_C E ({ frames := 6, cells := 0, slots := 0, locals := 149 } : Room) 0 25 4 cX4_digest RX4 (Cond.code yX4_digest cX4_digest 4 (some .long) :: eu_TB) (some .long)) : CallW (eu_R E) (eu_s E) (eu_a E) RX4 RX4 211 yX4_fault cX4_fault 1 (some .int) (Cond.code yX4_fault cX4_fault 1 (some .int) :: eu_TB) ({ frames := 0, cells := 0, slots := 0, locals := 0 } : Room) 0 0 0 := eu_cwV C tw_649 tw_124 tw_125 tw_2 tw_126 rfl rfl (by decide +kernel) (by decide)
theorem cw_X4_digest_X4_mixed_207 {E : eu_E} (C : eu_C E ({ frames := 6, cells := 0, slots := 0, locals := 149 } : Room) 0 25 4 cX4_digest RX4 (Cond.code yX4_digest cX4_digest 4 (some .long) :: eu_TB) (some .long)) : CallB (eu_R E) (eu_s E) (eu_a E) RX4 207 yX4_mixed cX4_mixed 4 (some .long) (Cond.code yX4_mixed cX4_mixed 4 (some .long) :: eu_TB) ({ frames := 0, cells := 0, slots := 0, locals := 0 } : Room) 0 0 2 ∧ (Cond.static yX4_mixed).before (eu_a E) (eu_s E) = true := eu_cwS C tw_645 tw_646 tw_2 tw_647 rfl rfl (by decide +kernel) (by decide)
theorem cw_X4_digest_X4_judged_213 {E : eu_E} (C : eu_C E ({ frames := 6, cells := 0, slots := 0, locals := 149 } : Room) 0 25 4 cX4_digest RX4 (Cond.code yX4_digest cX4_digest 4 (some .long) :: eu_TB) (some .long)) : CallW (eu_R E) (eu_s E) (eu_a E) RX4 RX4 213 yX4_judged cX4_judged 3 (some .int) (Cond.code yX4_judged cX4_judged 3 (some .int) :: eu_TB) ({ frames := 2, cells := 0, slots := 0, locals := 50 } : Room) 0 0 0 := eu_cwV C tw_650 tw_229 tw_230 tw_2 tw_231 rfl rfl (by decide +kernel) (by decide)
theorem cw_X4_digest_X4_withDeeds_216 {E : eu_E} (C : eu_C E ({ frames := 6, cells := 0, slots := 0, locals := 149 } : Room) 0 25 4 cX4_digest RX4 (Cond.code yX4_digest cX4_digest 4 (some .long) :: eu_TB) (some .long)) : CallW (eu_R E) (eu_s E) (eu_a E) RX4 RX4 216 yX4_withDeeds cX4_withDeeds 7 (some .long) (Cond.code yX4_withDeeds cX4_withDeeds 7 (some .long) :: eu_TB) ({ frames := 3, cells := 0, slots := 0, locals := 71 } : Room) 0 0 1 := eu_cwV C tw_651 tw_652 tw_653 tw_2 tw_654 rfl rfl (by decide +kernel) (by decide)
theorem cw_X4_digest_X4_withUndoings_220 {E : eu_E} (C : eu_C E ({ frames := 6, cells := 0, slots := 0, locals := 149 } : Room) 0 25 4 cX4_digest RX4 (Cond.code yX4_digest cX4_digest 4 (some .long) :: eu_TB) (some .long)) : CallW (eu_R E) (eu_s E) (eu_a E) RX4 RX4 220 yX4_withUndoings cX4_withUndoings 6 (some .long) (Cond.code yX4_withUndoings cX4_withUndoings 6 (some .long) :: eu_TB) ({ frames := 5, cells := 0, slots := 0, locals := 115 } : Room) 0 0 1 := eu_cwV C tw_657 tw_658 tw_659 tw_2 tw_660 rfl rfl (by decide +kernel) (by decide)
theorem cw_X4_digest_X4_fewest_223 {E : eu_E} (C : eu_C E ({ frames := 6, cells := 0, slots := 0, locals := 149 } : Room) 0 25 4 cX4_digest RX4 (Cond.code yX4_digest cX4_digest 4 (some .long) :: eu_TB) (some .long)) : CallW (eu_R E) (eu_s E) (eu_a E) RX4 RX4 223 yX4_fewest cX4_fewest 7 (some .int) (Cond.code yX4_fewest cX4_fewest 7 (some .int) :: eu_TB) ({ frames := 4, cells := 0, slots := 0, locals := 103 } : Room) 0 0 4 := eu_cwV C tw_665 tw_373 tw_374 tw_2 tw_375 rfl rfl (by decide +kernel) (by decide)
theorem cw_X4_digest_X4_count_204 {E : eu_E} (C : eu_C E ({ frames := 6, cells := 0, slots := 0, locals := 149 } : Room) 0 25 4 cX4_digest RX4 (Cond.code yX4_digest cX4_digest 4 (some .long) :: eu_TB) (some .long)) : CallW (eu_R E) (eu_s E) (eu_a E) RX4 RX4 204 yX4_count cX4_count 3 (some .int) (Cond.code yX4_count cX4_count 3 (some .int) :: eu_TB) ({ frames := 3, cells := 0, slots := 0, locals := 69 } : Room) 0 0 1 := eu_cwV C tw_644 tw_631 tw_632 tw_2 tw_633 rfl rfl (by decide +kernel) (by decide)
theorem cw_X4_digest_X4_safe_227 {E : eu_E} (C : eu_C E ({ frames := 6, cells := 0, slots := 0, locals := 149 } : Room) 0 25 4 cX4_digest RX4 (Cond.code yX4_digest cX4_digest 4 (some .long) :: eu_TB) (some .long)) : CallW (eu_R E) (eu_s E) (eu_a E) RX4 RX4 227 yX4_safe cX4_safe 2 (some .int) (Cond.code yX4_safe cX4_safe 2 (some .int) :: eu_TB) ({ frames := 4, cells := 0, slots := 0, locals := 98 } : Room) 0 0 1 := eu_cwV C tw_666 tw_422 tw_423 tw_2 tw_424 rfl rfl (by decide +kernel) (by decide)
theorem cw_X4_digest_X4_often_233 {E : eu_E} (C : eu_C E ({ frames := 6, cells := 0, slots := 0, locals := 149 } : Room) 0 25 4 cX4_digest RX4 (Cond.code yX4_digest cX4_digest 4 (some .long) :: eu_TB) (some .long)) : CallW (eu_R E) (eu_s E) (eu_a E) RX4 RX4 233 yX4_often cX4_often 4 (some .int) (Cond.code yX4_often cX4_often 4 (some .int) :: eu_TB) ({ frames := 4, cells := 0, slots := 0, locals := 92 } : Room) 0 0 0 := eu_cwV C tw_668 tw_498 tw_499 tw_2 tw_500 rfl rfl (by decide +kernel) (by decide)
theorem cw_X4_digest_X4_drawn_236 {E : eu_E} (C : eu_C E ({ frames := 6, cells := 0, slots := 0, locals := 149 } : Room) 0 25 4 cX4_digest RX4 (Cond.code yX4_digest cX4_digest 4 (some .long) :: eu_TB) (some .long)) : CallW (eu_R E) (eu_s E) (eu_a E) RX4 RX4 236 yX4_drawn cX4_drawn 4 (some .int) (Cond.code yX4_drawn cX4_drawn 4 (some .int) :: eu_TB) ({ frames := 3, cells := 0, slots := 0, locals := 74 } : Room) 0 0 3 := eu_cwV C tw_669 tw_510 tw_511 tw_2 tw_512 rfl rfl (by decide +kernel) (by decide)
theorem cw_X4_digest_X4_last_230 {E : eu_E} (C : eu_C E ({ frames := 6, cells := 0, slots := 0, locals := 149 } : Room) 0 25 4 cX4_digest RX4 (Cond.code yX4_digest cX4_digest 4 (some .long) :: eu_TB) (some .long)) : CallW (eu_R E) (eu_s E) (eu_a E) RX4 RX4 230 yX4_last cX4_last 6 (some .int) (Cond.code yX4_last cX4_last 6 (some .int) :: eu_TB) ({ frames := 5, cells := 0, slots := 0, locals := 124 } : Room) 0 0 3 := eu_cwV C tw_667 tw_441 tw_442 tw_2 tw_443 rfl rfl (by decide +kernel) (by decide)
set_option maxHeartbeats 4000000 in
set_option maxRecDepth 100000 in
theorem wX4_digest_L115 {E : eu_E} (C : eu_C E ({ frames := 6, cells := 0, slots := 0, locals := 149 } : Room) 0 25 4 cX4_digest RX4 (Cond.code yX4_digest cX4_digest 4 (some .long) :: eu_TB) (some .long)) {r : Int64} {σ' : eu_T}   : ∀ (n : Nat) (σ : eu_T) (v1 : Int64) (v3 : Int32), fX4_digest_L115 n σ v1 v3 = some (r, σ') → eu_G E 0 25 4 (eu_QL E 0 25 σ' r) σ 115 [(0, .ref (eu_ad E 0)), (1, .long v1), (3, .int v3)] [] := by
  intro n
  induction n with
  | zero =>
    intro σ v1 v3  h
    rw [fX4_digest_L115_z] at h
    cases h
  | succ n ih =>
    intro σ v1 v3  h
    rw [fX4_digest_L115_s] at h
    refine eg_iload_n C 2 dX4_digest_115 rfl ?_
    refine eg_iconst C (4 : Int32) dX4_digest_116 (by decide) ?_
    refine eg_icmp_ge C 139 dX4_digest_117 (by decide) (fun c => ?_) (fun c => ?_)
    · rw [if_pos c] at h
      refine eg_lload_n C 1 dX4_digest_139 rfl ?_
      refine eg_aload_n C 0 dX4_digest_140 rfl ?_
      obtain ⟨r11, hr11, h⟩ := eu_bd_some h
      refine eg_callI C (cw_X4_digest_X4_often_233 C) (av := []) 0 (by decide) (kX4_often hr11) rfl rfl rfl rfl (st := [.long v1]) rfl (Nat.le_of_ble_eq_true rfl) dX4_digest_141 ?_
      refine eg_i2l C dX4_digest_144 ?_
      refine eg_scallL C (cw_X4_digest_X4_mixed_207 C) (av := [.long v1, .long r11.toInt64]) (kX4_mixed rfl) rfl (st := []) rfl (Nat.le_of_ble_eq_true rfl) dX4_digest_145 ?_
      refine eg_lstore_n C [(1, .long (fX4_mixed v1 r11.toInt64)), (0, .ref (eu_ad E 0)), (3, .int v3)] dX4_digest_148 rfl (by decide) rfl ?_
      refine eg_lload_n C 0 dX4_digest_149 rfl ?_
      refine eg_aload_n C 1 dX4_digest_150 rfl ?_
      refine eg_bipush C (7 : Int32) dX4_digest_151 (by decide) ?_
      refine eg_iconst C (3 : Int32) dX4_digest_153 (by decide) ?_
      refine eg_iconst C (0 : Int32) dX4_digest_154 (by decide) ?_
      obtain ⟨r12, σ13, hr12, h⟩ := eu_b2_some h
      refine eg_callI C (cw_X4_digest_X4_drawn_236 C) (av := [.int (7 : Int32), .int (3 : Int32), .int (0 : Int32)]) 0 (by decide) (kX4_drawn hr12) rfl rfl rfl rfl (st := [.long (fX4_mixed v1 r11.toInt64)]) rfl (Nat.le_of_ble_eq_true rfl) dX4_digest_155 ?_
      refine eg_i2l C dX4_digest_158 ?_
      refine eg_scallL C (cw_X4_digest_X4_mixed_207 C) (av := [.long (fX4_mixed v1 r11.toInt64), .long r12.toInt64]) (kX4_mixed rfl) rfl (st := []) rfl (Nat.le_of_ble_eq_true rfl) dX4_digest_159 ?_
      refine eg_lstore_n C [(1, .long (fX4_mixed (fX4_mixed v1 r11.toInt64) r12.toInt64)), (0, .ref (eu_ad E 0)), (3, .int v3)] dX4_digest_162 rfl (by decide) rfl ?_
      refine eg_lload_n C 0 dX4_digest_163 rfl ?_
      refine eg_aload_n C 1 dX4_digest_164 rfl ?_
      refine eg_bipush C (7 : Int32) dX4_digest_165 (by decide) ?_
      refine eg_iconst C (3 : Int32) dX4_digest_167 (by decide) ?_
      refine eg_iconst C (1 : Int32) dX4_digest_168 (by decide) ?_
      obtain ⟨r14, σ15, hr14, h⟩ := eu_b2_some h
      refine eg_callI C (cw_X4_digest_X4_drawn_236 C) (av := [.int (7 : Int32), .int (3 : Int32), .int (1 : Int32)]) 0 (by decide) (kX4_drawn hr14) rfl rfl rfl rfl (st := [.long (fX4_mixed (fX4_mixed v1 r11.toInt64) r12.toInt64)]) rfl (Nat.le_of_ble_eq_true rfl) dX4_digest_169 ?_
      refine eg_i2l C dX4_digest_172 ?_
      refine eg_scallL C (cw_X4_digest_X4_mixed_207 C) (av := [.long (fX4_mixed (fX4_mixed v1 r11.toInt64) r12.toInt64), .long r14.toInt64]) (kX4_mixed rfl) rfl (st := []) rfl (Nat.le_of_ble_eq_true rfl) dX4_digest_173 ?_
      obtain ⟨rfl, rfl⟩ := eu_inj2 h
      exact eg_lret C rfl dX4_digest_176
    · rw [if_neg c] at h
      refine eg_lload_n C 1 dX4_digest_120 rfl ?_
      refine eg_aload_n C 0 dX4_digest_121 rfl ?_
      refine eg_iconst C (0 : Int32) dX4_digest_122 (by decide) ?_
      refine eg_iconst C (1 : Int32) dX4_digest_123 (by decide) ?_
      refine eg_iload_n C 2 dX4_digest_124 rfl ?_
      obtain ⟨r16, σ17, hr16, h⟩ := eu_b2_some h
      refine eg_callI C (cw_X4_digest_X4_last_230 C) (av := [.int (0 : Int32), .int (1 : Int32), .int v3]) 0 (by decide) (kX4_last hr16) rfl rfl rfl rfl (st := [.long v1]) rfl (Nat.le_of_ble_eq_true rfl) dX4_digest_125 ?_
      refine eg_i2l C dX4_digest_128 ?_
      refine eg_scallL C (cw_X4_digest_X4_mixed_207 C) (av := [.long v1, .long r16.toInt64]) (kX4_mixed rfl) rfl (st := []) rfl (Nat.le_of_ble_eq_true rfl) dX4_digest_129 ?_
      refine eg_lstore_n C [(1, .long (fX4_mixed v1 r16.toInt64)), (0, .ref (eu_ad E 0)), (3, .int v3)] dX4_digest_132 rfl (by decide) rfl ?_
      refine eg_iinc C 2 (v3 + (1 : Int32)) [(3, .int (v3 + (1 : Int32))), (1, .long (fX4_mixed v1 r16.toInt64)), (0, .ref (eu_ad E 0))] dX4_digest_133 rfl rfl (by decide) rfl ?_
      refine eg_goto C 115 dX4_digest_136 (by decide) ?_
      refine eg_sub C [2, 1, 0] rfl ?_
      exact ih _ _ _ h
set_option maxHeartbeats 4000000 in
set_option maxRecDepth 100000 in
theorem wX4_digest_L91 {E : eu_E} (C : eu_C E ({ frames := 6, cells := 0, slots := 0, locals := 149 } : Room) 0 25 4 cX4_digest RX4 (Cond.code yX4_digest cX4_digest 4 (some .long) :: eu_TB) (some .long)) {r : Int64} {σ' : eu_T}   : ∀ (n : Nat) (σ : eu_T) (v1 : Int64) (v3 : Int32), fX4_digest_L91 n σ v1 v3 = some (r, σ') → eu_G E 0 25 4 (eu_QL E 0 25 σ' r) σ 91 [(0, .ref (eu_ad E 0)), (1, .long v1), (3, .int v3)] [] := by
  intro n
  induction n with
  | zero =>
    intro σ v1 v3  h
    rw [fX4_digest_L91_z] at h
    cases h
  | succ n ih =>
    intro σ v1 v3  h
    rw [fX4_digest_L91_s] at h
    refine eg_iload_n C 2 dX4_digest_91 rfl ?_
    refine eg_iconst C (2 : Int32) dX4_digest_92 (by decide) ?_
    refine eg_icmp_gt C 113 dX4_digest_93 (by decide) (fun c => ?_) (fun c => ?_)
    · rw [if_pos c] at h
      refine eg_iconst C (0 : Int32) dX4_digest_113 (by decide) ?_
      refine eg_istore_n C [(3, .int (0 : Int32)), (0, .ref (eu_ad E 0)), (1, .long v1)] dX4_digest_114 rfl (by decide) rfl ?_
      refine eg_sub C [1, 2, 0] rfl ?_
      exact wX4_digest_L115 C 200 _ _ _ h
    · rw [if_neg c] at h
      refine eg_lload_n C 1 dX4_digest_96 rfl ?_
      refine eg_aload_n C 0 dX4_digest_97 rfl ?_
      refine eg_iload_n C 2 dX4_digest_98 rfl ?_
      obtain ⟨r9, σ10, hr9, h⟩ := eu_b2_some h
      refine eg_callI C (cw_X4_digest_X4_safe_227 C) (av := [.int v3]) 0 (by decide) (kX4_safe hr9) rfl rfl rfl rfl (st := [.long v1]) rfl (Nat.le_of_ble_eq_true rfl) dX4_digest_99 ?_
      refine eg_i2l C dX4_digest_102 ?_
      refine eg_scallL C (cw_X4_digest_X4_mixed_207 C) (av := [.long v1, .long r9.toInt64]) (kX4_mixed rfl) rfl (st := []) rfl (Nat.le_of_ble_eq_true rfl) dX4_digest_103 ?_
      refine eg_lstore_n C [(1, .long (fX4_mixed v1 r9.toInt64)), (0, .ref (eu_ad E 0)), (3, .int v3)] dX4_digest_106 rfl (by decide) rfl ?_
      refine eg_iinc C 2 (v3 + (1 : Int32)) [(3, .int (v3 + (1 : Int32))), (1, .long (fX4_mixed v1 r9.toInt64)), (0, .ref (eu_ad E 0))] dX4_digest_107 rfl rfl (by decide) rfl ?_
      refine eg_goto C 91 dX4_digest_110 (by decide) ?_
      refine eg_sub C [2, 1, 0] rfl ?_
      exact ih _ _ _ h
set_option maxHeartbeats 4000000 in
set_option maxRecDepth 100000 in
theorem wX4_digest_L6 {E : eu_E} (C : eu_C E ({ frames := 6, cells := 0, slots := 0, locals := 149 } : Room) 0 25 4 cX4_digest RX4 (Cond.code yX4_digest cX4_digest 4 (some .long) :: eu_TB) (some .long)) {r : Int64} {σ' : eu_T}   : ∀ (n : Nat) (σ : eu_T) (v1 : Int64) (v3 : Int32), fX4_digest_L6 n σ v1 v3 = some (r, σ') → eu_G E 0 25 4 (eu_QL E 0 25 σ' r) σ 6 [(0, .ref (eu_ad E 0)), (1, .long v1), (3, .int v3)] [] := by
  intro n
  induction n with
  | zero =>
    intro σ v1 v3  h
    rw [fX4_digest_L6_z] at h
    cases h
  | succ n ih =>
    intro σ v1 v3  h
    rw [fX4_digest_L6_s] at h
    refine eg_iload_n C 2 dX4_digest_6 rfl ?_
    refine eg_bipush C (8 : Int32) dX4_digest_7 (by decide) ?_
    refine eg_icmp_ge C 29 dX4_digest_9 (by decide) (fun c => ?_) (fun c => ?_)
    · rw [if_pos c] at h
      refine eg_lload_n C 1 dX4_digest_29 rfl ?_
      refine eg_aload_n C 0 dX4_digest_30 rfl ?_
      refine eg_callI C (cw_X4_digest_X4_fault_211 C) (av := []) 0 (by decide) (kX4_fault rfl) rfl rfl rfl rfl (st := [.long v1]) rfl (Nat.le_of_ble_eq_true rfl) dX4_digest_31 ?_
      refine eg_i2l C dX4_digest_34 ?_
      refine eg_scallL C (cw_X4_digest_X4_mixed_207 C) (av := [.long v1, .long ((fX4_fault σ).toInt64)]) (kX4_mixed rfl) rfl (st := []) rfl (Nat.le_of_ble_eq_true rfl) dX4_digest_35 ?_
      refine eg_lstore_n C [(1, .long (fX4_mixed v1 ((fX4_fault σ).toInt64))), (0, .ref (eu_ad E 0)), (3, .int v3)] dX4_digest_38 rfl (by decide) rfl ?_
      refine eg_lload_n C 0 dX4_digest_39 rfl ?_
      refine eg_aload_n C 1 dX4_digest_40 rfl ?_
      obtain ⟨r1, hr1, h⟩ := eu_bd_some h
      refine eg_callI C (cw_X4_digest_X4_judged_213 C) (av := []) 0 (by decide) (kX4_judged hr1) rfl rfl rfl rfl (st := [.long (fX4_mixed v1 ((fX4_fault σ).toInt64))]) rfl (Nat.le_of_ble_eq_true rfl) dX4_digest_41 ?_
      refine eg_i2l C dX4_digest_44 ?_
      refine eg_scallL C (cw_X4_digest_X4_mixed_207 C) (av := [.long (fX4_mixed v1 ((fX4_fault σ).toInt64)), .long r1.toInt64]) (kX4_mixed rfl) rfl (st := []) rfl (Nat.le_of_ble_eq_true rfl) dX4_digest_45 ?_
      refine eg_lstore_n C [(1, .long (fX4_mixed (fX4_mixed v1 ((fX4_fault σ).toInt64)) r1.toInt64)), (0, .ref (eu_ad E 0)), (3, .int v3)] dX4_digest_48 rfl (by decide) rfl ?_
      refine eg_aload_n C 1 dX4_digest_49 rfl ?_
      refine eg_lload_n C 0 dX4_digest_50 rfl ?_
      obtain ⟨r2, hr2, h⟩ := eu_bd_some h
      refine eg_callL C (cw_X4_digest_X4_withDeeds_216 C) (av := [.long (fX4_mixed (fX4_mixed v1 ((fX4_fault σ).toInt64)) r1.toInt64)]) 0 (by decide) (kX4_withDeeds hr2) rfl rfl rfl rfl (st := []) rfl (Nat.le_of_ble_eq_true rfl) dX4_digest_51 ?_
      refine eg_lstore_n C [(1, .long r2), (0, .ref (eu_ad E 0)), (3, .int v3)] dX4_digest_54 rfl (by decide) rfl ?_
      refine eg_aload_n C 1 dX4_digest_55 rfl ?_
      refine eg_lload_n C 0 dX4_digest_56 rfl ?_
      obtain ⟨r3, hr3, h⟩ := eu_bd_some h
      refine eg_callL C (cw_X4_digest_X4_withUndoings_220 C) (av := [.long r2]) 0 (by decide) (kX4_withUndoings hr3) rfl rfl rfl rfl (st := []) rfl (Nat.le_of_ble_eq_true rfl) dX4_digest_57 ?_
      refine eg_lstore_n C [(1, .long r3), (0, .ref (eu_ad E 0)), (3, .int v3)] dX4_digest_60 rfl (by decide) rfl ?_
      refine eg_lload_n C 0 dX4_digest_61 rfl ?_
      refine eg_aload_n C 1 dX4_digest_62 rfl ?_
      refine eg_iconst C (1 : Int32) dX4_digest_63 (by decide) ?_
      refine eg_iconst C (2 : Int32) dX4_digest_64 (by decide) ?_
      refine eg_iconst C (2 : Int32) dX4_digest_65 (by decide) ?_
      refine eg_iconst C (0 : Int32) dX4_digest_66 (by decide) ?_
      obtain ⟨r4, σ5, hr4, h⟩ := eu_b2_some h
      refine eg_callI C (cw_X4_digest_X4_fewest_223 C) (av := [.int (1 : Int32), .int (2 : Int32), .int (2 : Int32), .int (0 : Int32)]) 0 (by decide) (kX4_fewest hr4) rfl rfl rfl rfl (st := [.long r3]) rfl (Nat.le_of_ble_eq_true rfl) dX4_digest_67 ?_
      refine eg_i2l C dX4_digest_70 ?_
      refine eg_scallL C (cw_X4_digest_X4_mixed_207 C) (av := [.long r3, .long r4.toInt64]) (kX4_mixed rfl) rfl (st := []) rfl (Nat.le_of_ble_eq_true rfl) dX4_digest_71 ?_
      refine eg_lstore_n C [(1, .long (fX4_mixed r3 r4.toInt64)), (0, .ref (eu_ad E 0)), (3, .int v3)] dX4_digest_74 rfl (by decide) rfl ?_
      refine eg_lload_n C 0 dX4_digest_75 rfl ?_
      refine eg_aload_n C 1 dX4_digest_76 rfl ?_
      refine eg_iconst C (1 : Int32) dX4_digest_77 (by decide) ?_
      refine eg_iconst C (2 : Int32) dX4_digest_78 (by decide) ?_
      refine eg_iconst C (2 : Int32) dX4_digest_79 (by decide) ?_
      refine eg_iconst C (1 : Int32) dX4_digest_80 (by decide) ?_
      obtain ⟨r6, σ7, hr6, h⟩ := eu_b2_some h
      refine eg_callI C (cw_X4_digest_X4_fewest_223 C) (av := [.int (1 : Int32), .int (2 : Int32), .int (2 : Int32), .int (1 : Int32)]) 0 (by decide) (kX4_fewest hr6) rfl rfl rfl rfl (st := [.long (fX4_mixed r3 r4.toInt64)]) rfl (Nat.le_of_ble_eq_true rfl) dX4_digest_81 ?_
      refine eg_i2l C dX4_digest_84 ?_
      refine eg_scallL C (cw_X4_digest_X4_mixed_207 C) (av := [.long (fX4_mixed r3 r4.toInt64), .long r6.toInt64]) (kX4_mixed rfl) rfl (st := []) rfl (Nat.le_of_ble_eq_true rfl) dX4_digest_85 ?_
      refine eg_lstore_n C [(1, .long (fX4_mixed (fX4_mixed r3 r4.toInt64) r6.toInt64)), (0, .ref (eu_ad E 0)), (3, .int v3)] dX4_digest_88 rfl (by decide) rfl ?_
      refine eg_iconst C (0 : Int32) dX4_digest_89 (by decide) ?_
      refine eg_istore_n C [(3, .int (0 : Int32)), (1, .long (fX4_mixed (fX4_mixed r3 r4.toInt64) r6.toInt64)), (0, .ref (eu_ad E 0))] dX4_digest_90 rfl (by decide) rfl ?_
      refine eg_sub C [2, 1, 0] rfl ?_
      exact wX4_digest_L91 C 200 _ _ _ h
    · rw [if_neg c] at h
      refine eg_lload_n C 1 dX4_digest_12 rfl ?_
      refine eg_aload_n C 0 dX4_digest_13 rfl ?_
      refine eg_iload_n C 2 dX4_digest_14 rfl ?_
      obtain ⟨r8, hr8, h⟩ := eu_bd_some h
      refine eg_callI C (cw_X4_digest_X4_count_204 C) (av := [.int v3]) 0 (by decide) (kX4_count hr8) rfl rfl rfl rfl (st := [.long v1]) rfl (Nat.le_of_ble_eq_true rfl) dX4_digest_15 ?_
      refine eg_i2l C dX4_digest_18 ?_
      refine eg_scallL C (cw_X4_digest_X4_mixed_207 C) (av := [.long v1, .long r8.toInt64]) (kX4_mixed rfl) rfl (st := []) rfl (Nat.le_of_ble_eq_true rfl) dX4_digest_19 ?_
      refine eg_lstore_n C [(1, .long (fX4_mixed v1 r8.toInt64)), (0, .ref (eu_ad E 0)), (3, .int v3)] dX4_digest_22 rfl (by decide) rfl ?_
      refine eg_iinc C 2 (v3 + (1 : Int32)) [(3, .int (v3 + (1 : Int32))), (1, .long (fX4_mixed v1 r8.toInt64)), (0, .ref (eu_ad E 0))] dX4_digest_23 rfl rfl (by decide) rfl ?_
      refine eg_goto C 6 dX4_digest_26 (by decide) ?_
      refine eg_sub C [2, 1, 0] rfl ?_
      exact ih _ _ _ h
set_option maxHeartbeats 4000000 in
set_option maxRecDepth 100000 in
theorem wX4_digest {E : eu_E} (C : eu_C E ({ frames := 6, cells := 0, slots := 0, locals := 149 } : Room) 0 25 4 cX4_digest RX4 (Cond.code yX4_digest cX4_digest 4 (some .long) :: eu_TB) (some .long)) {σ : eu_T} {r : Int64} {σ' : eu_T}   (h : fX4_digest σ = some (r, σ')) : eu_G E 0 25 4 (eu_QL E 0 25 σ' r) σ 0 [(0, .ref (eu_ad E 0))] [] := by
  unfold fX4_digest at h
  refine eg_ldc2 C (17 : Int64) dX4_digest_0 (List.mem_cons_of_mem _ tw_643) ?_
  refine eg_lstore_n C [(1, .long (17 : Int64)), (0, .ref (eu_ad E 0))] dX4_digest_3 rfl (by decide) rfl ?_
  refine eg_iconst C (0 : Int32) dX4_digest_4 (by decide) ?_
  refine eg_istore_n C [(3, .int (0 : Int32)), (1, .long (17 : Int64)), (0, .ref (eu_ad E 0))] dX4_digest_5 rfl (by decide) rfl ?_
  refine eg_sub C [2, 1, 0] rfl ?_
  exact wX4_digest_L6 C 200 _ _ _ h
theorem kX4_digest {l : Launch} {σ : eu_T} {r : Int64} {σ' : eu_T}   (h : fX4_digest σ = some (r, σ')) : eu_KL l yX4_digest (Cond.code yX4_digest cX4_digest 4 (some .long) :: eu_TB) ({ frames := 6, cells := 0, slots := 0, locals := 149 } : Room) 0 25 (fun ad => [.ref (ad 0)]) σ σ' r :=
  eu_KL_of (by decide) (by decide) rfl (fun _ => Nat.le_of_ble_eq_true rfl) (fun E C => wX4_digest C h)
