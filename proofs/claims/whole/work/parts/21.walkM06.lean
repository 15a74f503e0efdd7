theorem cw_X5_often_X5_reads_100 {E : eu_E} (C : eu_C E ({ frames := 6, cells := 0, slots := 0, locals := 139 } : Room) 25 12 1 cX5_often RX5 (Cond.code yX5_often cX5_often 1 (some .int) :: eu_TB) (some .int)) : CallW (eu_R E) (eu_s E) (eu_a E) RX5 RX5 100 yX5_reads cX5_reads 2 (some .int) (Cond.code yX5_reads cX5_reads 2 (some .int) :: eu_TB) ({ frames := 2, cells := 0, slots := 0, locals := 48 } : Room) 0 0 0 := eu_cwV C tw_131 tw_132 tw_133 tw_5 tw_134 rfl rfl (by decide +kernel) (by decide)
theorem cw_X5_often_X5_oftenNow_214 {E : eu_E} (C : eu_C E ({ frames := 6, cells := 0, slots := 0, locals := 139 } : Room) 25 12 1 cX5_often RX5 (Cond.code yX5_often cX5_often 1 (some .int) :: eu_TB) (some .int)) : CallW (eu_R E) (eu_s E) (eu_a E) RX5 RX5 214 yX5_oftenNow cX5_oftenNow 6 (some .int) (Cond.code yX5_oftenNow cX5_oftenNow 6 (some .int) :: eu_TB) ({ frames := 5, cells := 0, slots := 0, locals := 114 } : Room) 0 0 0 := eu_cwV C tw_505 tw_506 tw_507 tw_5 tw_508 rfl rfl (by decide +kernel) (by decide)
set_option maxHeartbeats 4000000 in
set_option maxRecDepth 100000 in
theorem wX5_often {E : eu_E} (C : eu_C E ({ frames := 6, cells := 0, slots := 0, locals := 139 } : Room) 25 12 1 cX5_often RX5 (Cond.code yX5_often cX5_often 1 (some .int) :: eu_TB) (some .int)) {σ : eu_T} {r : Int32} {σ' : eu_T}   (h : fX5_often σ = some (r, σ')) : eu_G E 25 12 1 (eu_QI E 25 12 σ' r) σ 0 [(0, .ref (eu_ad E 25))] [] := by
  unfold fX5_often at h
  refine eg_aload_n C 0 dX5_often_0 rfl ?_
  obtain ⟨r1, σ2, hr1, h⟩ := eu_b2_some h
  refine eg_callI C (cw_X5_often_X5_reads_100 C) (av := []) 25 (by decide) (kX5_reads hr1) rfl rfl rfl rfl (st := []) rfl (Nat.le_of_ble_eq_true rfl) dX5_often_1 ?_
  refine eg_pop C dX5_often_4 rfl ?_
  refine eg_aload_n C 0 dX5_often_5 rfl ?_
  obtain ⟨r3, σ4, hr3, h⟩ := eu_b2_some h
  refine eg_callI C (cw_X5_often_X5_oftenNow_214 C) (av := []) 25 (by decide) (kX5_oftenNow hr3) rfl rfl rfl rfl (st := []) rfl (Nat.le_of_ble_eq_true rfl) dX5_often_6 ?_
  obtain ⟨rfl, rfl⟩ := eu_inj2 h
  exact eg_iret C rfl dX5_often_9
theorem kX5_often {l : Launch} {σ : eu_T} {r : Int32} {σ' : eu_T}   (h : fX5_often σ = some (r, σ')) : eu_KI l yX5_often (Cond.code yX5_often cX5_often 1 (some .int) :: eu_TB) ({ frames := 6, cells := 0, slots := 0, locals := 139 } : Room) 25 12 (fun ad => [.ref (ad 25)]) σ σ' r :=
  eu_KI_of (by decide) (by decide) rfl (fun _ => Nat.le_of_ble_eq_true rfl) (fun E C => wX5_often C h)
set_option maxHeartbeats 4000000 in
set_option maxRecDepth 100000 in
theorem wX5_lot {E : eu_E} (C : eu_C E ({ frames := 0, cells := 0, slots := 0, locals := 0 } : Room) 25 12 2 cX5_lot RX5 (Cond.code yX5_lot cX5_lot 2 (some .int) :: eu_TB) (some .int)) {σ : eu_T} {r : Int32} {σ' : eu_T} {a1 : Int32}  (h : fX5_lot σ a1 = some (r, σ')) : eu_G E 25 12 2 (eu_QI E 25 12 σ' r) σ 0 [(0, .ref (eu_ad E 25)), (1, .int a1)] [] := by
  unfold fX5_lot at h
  refine eg_aload_n C 0 dX5_lot_0 rfl ?_
  refine eg_ldc C (1103515245 : Int32) dX5_lot_1 (List.mem_cons_of_mem _ tw_546) ?_
  refine eg_aload_n C 0 dX5_lot_3 rfl ?_
  refine gf_X5_218 C (by decide) dX5_lot_4 ?_
  refine eg_imul C dX5_lot_7 ?_
  refine eg_sipush C (12345 : Int32) dX5_lot_8 (by decide) ?_
  refine eg_iadd C dX5_lot_11 ?_
  refine pf_X5_218 C (by decide) dX5_lot_12 ?_
  obtain ⟨σ1, eσ1, h⟩ := eu_lt_x h
  rw [← eσ1]
  refine eg_aload_n C 0 dX5_lot_15 rfl ?_
  refine gf_X5_218 C (by decide) dX5_lot_16 ?_
  refine eg_bipush C (16 : Int32) dX5_lot_19 (by decide) ?_
  refine eg_iushr C dX5_lot_21 ?_
  refine eg_iload_n C 1 dX5_lot_22 rfl ?_
  obtain ⟨g2, h⟩ := eu_gd_some h
  refine eg_irem C dX5_lot_23 g2 ?_
  obtain ⟨rfl, rfl⟩ := eu_inj2 h
  exact eg_iret C rfl dX5_lot_24
theorem kX5_lot {l : Launch} {σ : eu_T} {r : Int32} {σ' : eu_T} {a1 : Int32}  (h : fX5_lot σ a1 = some (r, σ')) : eu_KI l yX5_lot (Cond.code yX5_lot cX5_lot 2 (some .int) :: eu_TB) ({ frames := 0, cells := 0, slots := 0, locals := 0 } : Room) 25 12 (fun ad => [.ref (ad 25), .int a1]) σ σ' r :=
  eu_KI_of (by decide) (by decide) rfl (fun _ => Nat.le_of_ble_eq_true rfl) (fun E C => wX5_lot C h)
theorem cw_X5_among_X5_isIn_127 {E : eu_E} (C : eu_C E ({ frames := 1, cells := 0, slots := 0, locals := 21 } : Room) 25 12 4 cX5_among RX5 (Cond.code yX5_among cX5_among 4 (some .int) :: eu_TB) (some .int)) : CallB (eu_R E) (eu_s E) (eu_a E) RX5 127 yX5_isIn cX5_isIn 2 (some .boolean) (Cond.code yX5_isIn cX5_isIn 2 (some .boolean) :: eu_TB) ({ frames := 0, cells := 0, slots := 0, locals := 0 } : Room) 0 0 2 ∧ (Cond.static yX5_isIn).before (eu_a E) (eu_s E) = true := eu_cwS C tw_258 tw_259 tw_5 tw_260 rfl rfl (by decide +kernel) (by decide)
set_option maxHeartbeats 4000000 in
set_option maxRecDepth 100000 in
theorem wX5_among_J16 {E : eu_E} (C : eu_C E ({ frames := 1, cells := 0, slots := 0, locals := 21 } : Room) 25 12 4 cX5_among RX5 (Cond.code yX5_among cX5_among 4 (some .int) :: eu_TB) (some .int)) {σ : eu_T} {r : Int32} {k4 : Int32 → Int32 → Int32 → Option Int32} (hk_4 : ∀ (v0 : Int32) (v2 : Int32) (v3 : Int32), k4 v0 v2 v3 = some r → eu_G E 25 12 4 (eu_QI E 25 12 σ r) σ 4 [(0, .int v0), (2, .int v2), (3, .int v3)] []) (v0 : Int32) (v2 : Int32) (v3 : Int32)  (h : fX5_among_J16 k4 v0 v2 v3 = some r) : eu_G E 25 12 4 (eu_QI E 25 12 σ r) σ 16 [(0, .int v0), (2, .int v2), (3, .int v3)] [] := by
  unfold fX5_among_J16 at h
  refine eg_iload_n C 1 dX5_among_16 rfl ?_
  refine eg_iload_n C 0 dX5_among_17 rfl ?_
  refine eg_iload_n C 2 dX5_among_18 rfl ?_
  refine eg_scallI C (cw_X5_among_X5_isIn_127 C) (av := [.int v0, .int v3]) (kX5_isIn rfl) rfl (st := [.int v2]) rfl (Nat.le_of_ble_eq_true rfl) dX5_among_19 ?_
  refine eg_if_eq C 29 dX5_among_22 (by decide) (fun c => ?_) (fun c => ?_)
  · rw [if_pos c] at h
    refine eg_iconst C (0 : Int32) dX5_among_29 (by decide) ?_
    refine eg_isub C dX5_among_30 ?_
    refine eg_istore_n C [(2, .int (v2 - (0 : Int32))), (0, .int v0), (3, .int v3)] dX5_among_31 rfl (by decide) rfl ?_
    refine eg_iinc C 2 (v3 + (1 : Int32)) [(3, .int (v3 + (1 : Int32))), (2, .int (v2 - (0 : Int32))), (0, .int v0)] dX5_among_32 rfl rfl (by decide) rfl ?_
    refine eg_goto C 4 dX5_among_35 (by decide) ?_
    refine eg_sub C [2, 1, 0] rfl ?_
    exact hk_4 _ _ _ h
  · rw [if_neg c] at h
    refine eg_iconst C (1 : Int32) dX5_among_25 (by decide) ?_
    refine eg_goto C 30 dX5_among_26 (by decide) ?_
    refine eg_isub C dX5_among_30 ?_
    refine eg_istore_n C [(2, .int (v2 - (1 : Int32))), (0, .int v0), (3, .int v3)] dX5_among_31 rfl (by decide) rfl ?_
    refine eg_iinc C 2 (v3 + (1 : Int32)) [(3, .int (v3 + (1 : Int32))), (2, .int (v2 - (1 : Int32))), (0, .int v0)] dX5_among_32 rfl rfl (by decide) rfl ?_
    refine eg_goto C 4 dX5_among_35 (by decide) ?_
    refine eg_sub C [2, 1, 0] rfl ?_
    exact hk_4 _ _ _ h
set_option maxHeartbeats 4000000 in
set_option maxRecDepth 100000 in
theorem wX5_among_L4 {E : eu_E} (C : eu_C E ({ frames := 1, cells := 0, slots := 0, locals := 21 } : Room) 25 12 4 cX5_among RX5 (Cond.code yX5_among cX5_among 4 (some .int) :: eu_TB) (some .int)) {σ : eu_T} {r : Int32}   : ∀ (n : Nat) (v0 : Int32) (v2 : Int32) (v3 : Int32), fX5_among_L4 n v0 v2 v3 = some r → eu_G E 25 12 4 (eu_QI E 25 12 σ r) σ 4 [(0, .int v0), (2, .int v2), (3, .int v3)] [] := by
  intro n
  induction n with
  | zero =>
    intro v0 v2 v3  h
    rw [fX5_among_L4_z] at h
    cases h
  | succ n ih =>
    intro v0 v2 v3  h
    rw [fX5_among_L4_s] at h
    refine eg_iload_n C 0 dX5_among_4 rfl ?_
    refine eg_iload_n C 2 dX5_among_5 rfl ?_
    refine eg_scallI C (cw_X5_among_X5_isIn_127 C) (av := [.int v0, .int v3]) (kX5_isIn rfl) rfl (st := []) rfl (Nat.le_of_ble_eq_true rfl) dX5_among_6 ?_
    refine eg_if_eq C 16 dX5_among_9 (by decide) (fun c => ?_) (fun c => ?_)
    · rw [if_pos c] at h
      refine eg_sub C [0, 1, 2] rfl ?_
      exact wX5_among_J16 C ih _ _ _ h
    · rw [if_neg c] at h
      refine eg_iload_n C 1 dX5_among_12 rfl ?_
      refine eg_if_le C 38 dX5_among_13 (by decide) (fun c => ?_) (fun c => ?_)
      · rw [if_pos c] at h
        refine eg_iload_n C 2 dX5_among_38 rfl ?_
        obtain rfl := Option.some.inj h
        exact eg_iret C rfl dX5_among_39
      · rw [if_neg c] at h
        refine eg_sub C [0, 1, 2] rfl ?_
        exact wX5_among_J16 C ih _ _ _ h
set_option maxHeartbeats 4000000 in
set_option maxRecDepth 100000 in
theorem wX5_among {E : eu_E} (C : eu_C E ({ frames := 1, cells := 0, slots := 0, locals := 21 } : Room) 25 12 4 cX5_among RX5 (Cond.code yX5_among cX5_among 4 (some .int) :: eu_TB) (some .int)) {σ : eu_T} {r : Int32} {a0 : Int32} {a1 : Int32}  (h : fX5_among a0 a1 = some r) : eu_G E 25 12 4 (eu_QI E 25 12 σ r) σ 0 [(0, .int a0), (1, .int a1)] [] := by
  unfold fX5_among at h
  refine eg_iload_n C 1 dX5_among_0 rfl ?_
  refine eg_istore_n C [(2, .int a1), (0, .int a0), (1, .int a1)] dX5_among_1 rfl (by decide) rfl ?_
  refine eg_iconst C (0 : Int32) dX5_among_2 (by decide) ?_
  refine eg_istore_n C [(3, .int (0 : Int32)), (2, .int a1), (0, .int a0), (1, .int a1)] dX5_among_3 rfl (by decide) rfl ?_
  refine eg_sub C [2, 1, 0] rfl ?_
  exact wX5_among_L4 C 200 _ _ _ h
theorem kX5_among {l : Launch} {σ : eu_T} {r : Int32} {a0 : Int32} {a1 : Int32}  (h : fX5_among a0 a1 = some r) : eu_KI l yX5_among (Cond.code yX5_among cX5_among 4 (some .int) :: eu_TB) ({ frames := 1, cells := 0, slots := 0, locals := 21 } : Room) 25 12 (fun _ => [.int a0, .int a1]) σ σ r :=
  eu_KI_of (by decide) (by decide) rfl (fun _ => Nat.le_of_ble_eq_true rfl) (fun E C => wX5_among C h)
set_option maxHeartbeats 4000000 in
set_option maxRecDepth 100000 in
theorem wX5_ofOthers_L4 {E : eu_E} (C : eu_C E ({ frames := 0, cells := 0, slots := 0, locals := 0 } : Room) 25 12 4 cX5_ofOthers RX5 (Cond.code yX5_ofOthers cX5_ofOthers 4 (some .int) :: eu_TB) (some .int)) {σ : eu_T} {r : Int32}   : ∀ (n : Nat) (v1 : Int32) (v2 : Int32) (v3 : Int32), fX5_ofOthers_L4 σ n v1 v2 v3 = some r → eu_G E 25 12 4 (eu_QI E 25 12 σ r) σ 4 [(0, .ref (eu_ad E 25)), (1, .int v1), (2, .int v2), (3, .int v3)] [] := by
  intro n
  induction n with
  | zero =>
    intro v1 v2 v3  h
    rw [fX5_ofOthers_L4_z] at h
    cases h
  | succ n ih =>
    intro v1 v2 v3  h
    rw [fX5_ofOthers_L4_s] at h
    refine eg_iload_n C 3 dX5_ofOthers_4 rfl ?_
    refine eg_aload_n C 0 dX5_ofOthers_5 rfl ?_
    refine gf_X5_81 C (by decide) dX5_ofOthers_6 ?_
    refine eg_icmp_ge C 40 dX5_ofOthers_9 (by decide) (fun c => ?_) (fun c => ?_)
    · rw [if_pos c] at h
      refine eg_iload_n C 2 dX5_ofOthers_40 rfl ?_
      obtain rfl := Option.some.inj h
      exact eg_iret C rfl dX5_ofOthers_41
    · rw [if_neg c] at h
      refine eg_iload_n C 2 dX5_ofOthers_12 rfl ?_
      refine eg_aload_n C 0 dX5_ofOthers_13 rfl ?_
      refine gf_X5_25 C (by decide) dX5_ofOthers_14 ?_
      refine eg_iconst C (3 : Int32) dX5_ofOthers_17 (by decide) ?_
      refine eg_iload_n C 3 dX5_ofOthers_18 rfl ?_
      refine eg_imul C dX5_ofOthers_19 ?_
      obtain ⟨g1, h⟩ := eu_gd_some h
      refine eg_iald C 31 (by decide) (z := 36) (fun _ => rfl) (eu_in_vp g1) dX5_ofOthers_20 ?_
      refine eg_iload_n C 1 dX5_ofOthers_21 rfl ?_
      refine eg_icmp_eq C 31 dX5_ofOthers_22 (by decide) (fun c => ?_) (fun c => ?_)
      · rw [if_pos c] at h
        refine eg_iconst C (0 : Int32) dX5_ofOthers_31 (by decide) ?_
        refine eg_ior C dX5_ofOthers_32 ?_
        refine eg_istore_n C [(2, .int (v2 ||| (0 : Int32))), (0, .ref (eu_ad E 25)), (1, .int v1), (3, .int v3)] dX5_ofOthers_33 rfl (by decide) rfl ?_
        refine eg_iinc C 3 (v3 + (1 : Int32)) [(3, .int (v3 + (1 : Int32))), (2, .int (v2 ||| (0 : Int32))), (0, .ref (eu_ad E 25)), (1, .int v1)] dX5_ofOthers_34 rfl rfl (by decide) rfl ?_
        refine eg_goto C 4 dX5_ofOthers_37 (by decide) ?_
        refine eg_sub C [2, 3, 1, 0] rfl ?_
        exact ih _ _ _ h
      · rw [if_neg c] at h
        refine eg_iconst C (1 : Int32) dX5_ofOthers_25 (by decide) ?_
        refine eg_iload_n C 3 dX5_ofOthers_26 rfl ?_
        refine eg_ishl C dX5_ofOthers_27 ?_
        refine eg_goto C 32 dX5_ofOthers_28 (by decide) ?_
        refine eg_ior C dX5_ofOthers_32 ?_
        refine eg_istore_n C [(2, .int (v2 ||| ((1 : Int32) <<< (v3 &&& 31)))), (0, .ref (eu_ad E 25)), (1, .int v1), (3, .int v3)] dX5_ofOthers_33 rfl (by decide) rfl ?_
        refine eg_iinc C 3 (v3 + (1 : Int32)) [(3, .int (v3 + (1 : Int32))), (2, .int (v2 ||| ((1 : Int32) <<< (v3 &&& 31)))), (0, .ref (eu_ad E 25)), (1, .int v1)] dX5_ofOthers_34 rfl rfl (by decide) rfl ?_
        refine eg_goto C 4 dX5_ofOthers_37 (by decide) ?_
        refine eg_sub C [2, 3, 1, 0] rfl ?_
        exact ih _ _ _ h
set_option maxHeartbeats 4000000 in
set_option maxRecDepth 100000 in
theorem wX5_ofOthers {E : eu_E} (C : eu_C E ({ frames := 0, cells := 0, slots := 0, locals := 0 } : Room) 25 12 4 cX5_ofOthers RX5 (Cond.code yX5_ofOthers cX5_ofOthers 4 (some .int) :: eu_TB) (some .int)) {σ : eu_T} {r : Int32} {a1 : Int32}  (h : fX5_ofOthers σ a1 = some r) : eu_G E 25 12 4 (eu_QI E 25 12 σ r) σ 0 [(0, .ref (eu_ad E 25)), (1, .int a1)] [] := by
  unfold fX5_ofOthers at h
  refine eg_iconst C (0 : Int32) dX5_ofOthers_0 (by decide) ?_
  refine eg_istore_n C [(2, .int (0 : Int32)), (0, .ref (eu_ad E 25)), (1, .int a1)] dX5_ofOthers_1 rfl (by decide) rfl ?_
  refine eg_iconst C (0 : Int32) dX5_ofOthers_2 (by decide) ?_
  refine eg_istore_n C [(3, .int (0 : Int32)), (2, .int (0 : Int32)), (0, .ref (eu_ad E 25)), (1, .int a1)] dX5_ofOthers_3 rfl (by decide) rfl ?_
  refine eg_sub C [2, 3, 1, 0] rfl ?_
  exact wX5_ofOthers_L4 C 200 _ _ _ h
theorem kX5_ofOthers {l : Launch} {σ : eu_T} {r : Int32} {a1 : Int32}  (h : fX5_ofOthers σ a1 = some r) : eu_KI l yX5_ofOthers (Cond.code yX5_ofOthers cX5_ofOthers 4 (some .int) :: eu_TB) ({ frames := 0, cells := 0, slots := 0, locals := 0 } : Room) 25 12 (fun ad => [.ref (ad 25), .int a1]) σ σ r :=
  eu_KI_of (by decide) (by decide) rfl (fun _ => Nat.le_of_ble_eq_true rfl) (fun E C => wX5_ofOthers C h)
theorem cw_X5_drawnOf_X5_judges_140 {E : eu_E} (C : eu_C E ({ frames := 4, cells := 0, slots := 0, locals := 92 } : Room) 25 12 9 cX5_drawnOf RX5 (Cond.code yX5_drawnOf cX5_drawnOf 9 (some .int) :: eu_TB) (some .int)) : CallW (eu_R E) (eu_s E) (eu_a E) RX5 RX5 140 yX5_judges cX5_judges 4 none (Cond.code yX5_judges cX5_judges 4 none :: eu_TB) ({ frames := 2, cells := 0, slots := 0, locals := 45 } : Room) 0 0 2 := eu_cwV C tw_248 tw_249 tw_250 tw_5 tw_251 rfl rfl (by decide +kernel) (by decide)
theorem cw_X5_drawnOf_X5_standing_153 {E : eu_E} (C : eu_C E ({ frames := 4, cells := 0, slots := 0, locals := 92 } : Room) 25 12 9 cX5_drawnOf RX5 (Cond.code yX5_drawnOf cX5_drawnOf 9 (some .int) :: eu_TB) (some .int)) : CallW (eu_R E) (eu_s E) (eu_a E) RX5 RX5 153 yX5_standing cX5_standing 4 (some .int) (Cond.code yX5_standing cX5_standing 4 (some .int) :: eu_TB) ({ frames := 3, cells := 0, slots := 0, locals := 69 } : Room) 0 0 1 := eu_cwV C tw_319 tw_320 tw_321 tw_5 tw_322 rfl rfl (by decide +kernel) (by decide)
theorem cw_X5_drawnOf_X5_ones_90 {E : eu_E} (C : eu_C E ({ frames := 4, cells := 0, slots := 0, locals := 92 } : Room) 25 12 9 cX5_drawnOf RX5 (Cond.code yX5_drawnOf cX5_drawnOf 9 (some .int) :: eu_TB) (some .int)) : CallB (eu_R E) (eu_s E) (eu_a E) RX5 90 yX5_ones cX5_ones 3 (some .int) (Cond.code yX5_ones cX5_ones 3 (some .int) :: eu_TB) ({ frames := 0, cells := 0, slots := 0, locals := 0 } : Room) 0 0 1 ∧ (Cond.static yX5_ones).before (eu_a E) (eu_s E) = true := eu_cwS C tw_146 tw_147 tw_5 tw_148 rfl rfl (by decide +kernel) (by decide)
theorem cw_X5_drawnOf_X5_lot_221 {E : eu_E} (C : eu_C E ({ frames := 4, cells := 0, slots := 0, locals := 92 } : Room) 25 12 9 cX5_drawnOf RX5 (Cond.code yX5_drawnOf cX5_drawnOf 9 (some .int) :: eu_TB) (some .int)) : CallW (eu_R E) (eu_s E) (eu_a E) RX5 RX5 221 yX5_lot cX5_lot 2 (some .int) (Cond.code yX5_lot cX5_lot 2 (some .int) :: eu_TB) ({ frames := 0, cells := 0, slots := 0, locals := 0 } : Room) 0 0 1 := eu_cwV C tw_542 tw_543 tw_544 tw_5 tw_545 rfl rfl (by decide +kernel) (by decide)
theorem cw_X5_drawnOf_X5_among_224 {E : eu_E} (C : eu_C E ({ frames := 4, cells := 0, slots := 0, locals := 92 } : Room) 25 12 9 cX5_drawnOf RX5 (Cond.code yX5_drawnOf cX5_drawnOf 9 (some .int) :: eu_TB) (some .int)) : CallB (eu_R E) (eu_s E) (eu_a E) RX5 224 yX5_among cX5_among 4 (some .int) (Cond.code yX5_among cX5_among 4 (some .int) :: eu_TB) ({ frames := 1, cells := 0, slots := 0, locals := 21 } : Room) 0 0 2 ∧ (Cond.static yX5_among).before (eu_a E) (eu_s E) = true := eu_cwS C tw_547 tw_548 tw_5 tw_549 rfl rfl (by decide +kernel) (by decide)
theorem cw_X5_drawnOf_X5_ofOthers_227 {E : eu_E} (C : eu_C E ({ frames := 4, cells := 0, slots := 0, locals := 92 } : Room) 25 12 9 cX5_drawnOf RX5 (Cond.code yX5_drawnOf cX5_drawnOf 9 (some .int) :: eu_TB) (some .int)) : CallW (eu_R E) (eu_s E) (eu_a E) RX5 RX5 227 yX5_ofOthers cX5_ofOthers 4 (some .int) (Cond.code yX5_ofOthers cX5_ofOthers 4 (some .int) :: eu_TB) ({ frames := 0, cells := 0, slots := 0, locals := 0 } : Room) 0 0 1 := eu_cwV C tw_550 tw_551 tw_552 tw_5 tw_553 rfl rfl (by decide +kernel) (by decide)
theorem cw_X5_drawnOf_X5_tells_111 {E : eu_E} (C : eu_C E ({ frames := 4, cells := 0, slots := 0, locals := 92 } : Room) 25 12 9 cX5_drawnOf RX5 (Cond.code yX5_drawnOf cX5_drawnOf 9 (some .int) :: eu_TB) (some .int)) : CallW (eu_R E) (eu_s E) (eu_a E) RX5 RX5 111 yX5_tells cX5_tells 4 none (Cond.code yX5_tells cX5_tells 4 none :: eu_TB) ({ frames := 0, cells := 0, slots := 0, locals := 0 } : Room) 0 0 3 := eu_cwV C tw_183 tw_184 tw_185 tw_5 tw_186 rfl rfl (by decide +kernel) (by decide)
set_option maxHeartbeats 4000000 in
set_option maxRecDepth 100000 in
theorem wX5_drawnOf_J160 {E : eu_E} (C : eu_C E ({ frames := 4, cells := 0, slots := 0, locals := 92 } : Room) 25 12 9 cX5_drawnOf RX5 (Cond.code yX5_drawnOf cX5_drawnOf 9 (some .int) :: eu_TB) (some .int)) {r : Int32} {σ' : eu_T}   (σ : eu_T) (v3 : Int32) (v4 : Int32)  (h : fX5_drawnOf_J160  σ v3 v4 = some (r, σ')) : eu_G E 25 12 9 (eu_QI E 25 12 σ' r) σ 160 [(0, .ref (eu_ad E 25)), (3, .int v3), (4, .int v4)] [] := by
  unfold fX5_drawnOf_J160 at h
  refine eg_aload_n C 0 dX5_drawnOf_160 rfl ?_
  refine eg_aload_n C 0 dX5_drawnOf_161 rfl ?_
  refine gf_X5_108 C (by decide) dX5_drawnOf_162 ?_
  refine eg_iload C 2 dX5_drawnOf_165 rfl ?_
  refine eg_iadd C dX5_drawnOf_167 ?_
  refine eg_iconst C (-1 : Int32) dX5_drawnOf_168 (by decide) ?_
  obtain ⟨r4, σ5, hr4, h⟩ := eu_b2_some h
  refine eg_callV C (cw_X5_drawnOf_X5_judges_140 C) (av := [.int ((σ 25 10) + v4), .int (-1 : Int32)]) 25 (by decide) (kX5_judges hr4) rfl rfl rfl rfl (st := []) rfl (Nat.le_of_ble_eq_true rfl) dX5_drawnOf_169 ?_
  refine eg_iload_n C 1 dX5_drawnOf_172 rfl ?_
  refine eg_if_ne C 190 dX5_drawnOf_173 (by decide) (fun c => ?_) (fun c => ?_)
  · rw [if_neg c] at h
    refine eg_iload C 2 dX5_drawnOf_190 rfl ?_
    obtain ⟨rfl, rfl⟩ := eu_inj2 h
    exact eg_iret C rfl dX5_drawnOf_192
  · rw [if_pos c] at h
    refine eg_aload_n C 0 dX5_drawnOf_176 rfl ?_
    refine eg_aload_n C 0 dX5_drawnOf_177 rfl ?_
    refine gf_X5_108 C (by decide) dX5_drawnOf_178 ?_
    refine eg_iload C 2 dX5_drawnOf_181 rfl ?_
    refine eg_iadd C dX5_drawnOf_183 ?_
    obtain ⟨r6, hr6, h⟩ := eu_bd_some h
    refine eg_callI C (cw_X5_drawnOf_X5_standing_153 C) (av := [.int ((σ5 25 10) + v4)]) 25 (by decide) (kX5_standing hr6) rfl rfl rfl rfl (st := []) rfl (Nat.le_of_ble_eq_true rfl) dX5_drawnOf_184 ?_
    refine eg_goto C 192 dX5_drawnOf_187 (by decide) ?_
    obtain ⟨rfl, rfl⟩ := eu_inj2 h
    exact eg_iret C rfl dX5_drawnOf_192
set_option maxHeartbeats 4000000 in
set_option maxRecDepth 100000 in
theorem wX5_drawnOf_J120 {E : eu_E} (C : eu_C E ({ frames := 4, cells := 0, slots := 0, locals := 92 } : Room) 25 12 9 cX5_drawnOf RX5 (Cond.code yX5_drawnOf cX5_drawnOf 9 (some .int) :: eu_TB) (some .int)) {r : Int32} {σ' : eu_T} {k11 : eu_T → Int32 → Int32 → Int32 → Int32 → Option (Int32 × eu_T)} (hk_11 : ∀ (σ : eu_T) (v2 : Int32) (v3 : Int32) (v4 : Int32) (v5 : Int32), k11 σ v2 v3 v4 v5 = some (r, σ') → eu_G E 25 12 9 (eu_QI E 25 12 σ' r) σ 11 [(0, .ref (eu_ad E 25)), (2, .int v2), (3, .int v3), (4, .int v4), (5, .int v5)] []) (σ : eu_T) (v2 : Int32) (v3 : Int32) (v4 : Int32) (v7 : Int32) (v8 : Int32) (s0 : Int32)  (h : fX5_drawnOf_J120 k11 σ v2 v3 v4 v7 v8 s0 = some (r, σ')) : eu_G E 25 12 9 (eu_QI E 25 12 σ' r) σ 120 [(0, .ref (eu_ad E 25)), (2, .int v2), (3, .int v3), (4, .int v4), (7, .int v7), (8, .int v8)] [.int s0] := by
  unfold fX5_drawnOf_J120 at h
  refine eg_istore C [(5, .int s0), (0, .ref (eu_ad E 25)), (2, .int v2), (3, .int v3), (4, .int v4), (7, .int v7), (8, .int v8)] dX5_drawnOf_120 (by decide) rfl ?_
  refine eg_iload C 0 dX5_drawnOf_122 rfl ?_
  refine eg_if_eq C 157 dX5_drawnOf_124 (by decide) (fun c => ?_) (fun c => ?_)
  · rw [if_pos c] at h
    refine eg_goto C 11 dX5_drawnOf_157 (by decide) ?_
    refine eg_sub C [1, 2, 3, 4, 0] rfl ?_
    exact hk_11 _ _ _ _ _ h
  · rw [if_neg c] at h
    refine eg_aload_n C 1 dX5_drawnOf_127 rfl ?_
    refine eg_aload_n C 1 dX5_drawnOf_128 rfl ?_
    refine gf_X5_108 C (by decide) dX5_drawnOf_129 ?_
    refine eg_iload C 4 dX5_drawnOf_132 rfl ?_
    refine eg_iadd C dX5_drawnOf_134 ?_
    refine eg_iload C 5 dX5_drawnOf_135 rfl ?_
    refine eg_iload C 6 dX5_drawnOf_137 rfl ?_
    refine eg_aload_n C 1 dX5_drawnOf_139 rfl ?_
    refine eg_iload C 6 dX5_drawnOf_140 rfl ?_
    obtain ⟨r13, hr13, h⟩ := eu_bd_some h
    refine eg_scallI C (cw_X5_drawnOf_X5_ones_90 C) (av := [.int v8]) (kX5_ones hr13) rfl (st := [.ref (eu_ad E 25), .int v8, .int v7, .int ((σ 25 10) + v4), .ref (eu_ad E 25)]) rfl (Nat.le_of_ble_eq_true rfl) dX5_drawnOf_142 ?_
    obtain ⟨r14, σ15, hr14, h⟩ := eu_b2_some h
    refine eg_callI C (cw_X5_drawnOf_X5_lot_221 C) (av := [.int r13]) 25 (by decide) (kX5_lot hr14) rfl rfl rfl rfl (st := [.int v8, .int v7, .int ((σ 25 10) + v4), .ref (eu_ad E 25)]) rfl (Nat.le_of_ble_eq_true rfl) dX5_drawnOf_145 ?_
    obtain ⟨r16, hr16, h⟩ := eu_bd_some h
    refine eg_scallI C (cw_X5_drawnOf_X5_among_224 C) (av := [.int v8, .int r14]) (kX5_among hr16) rfl (st := [.int v7, .int ((σ 25 10) + v4), .ref (eu_ad E 25)]) rfl (Nat.le_of_ble_eq_true rfl) dX5_drawnOf_148 ?_
    obtain ⟨r17, σ18, hr17, h⟩ := eu_b2_some h
    refine eg_callV C (cw_X5_drawnOf_X5_tells_111 C) (av := [.int ((σ 25 10) + v4), .int v7, .int r16]) 25 (by decide) (kX5_tells hr17) rfl rfl rfl rfl (st := []) rfl (Nat.le_of_ble_eq_true rfl) dX5_drawnOf_151 ?_
    refine eg_iinc C 4 (v4 + (1 : Int32)) [(4, .int (v4 + (1 : Int32))), (5, .int s0), (0, .ref (eu_ad E 25)), (2, .int v2), (3, .int v3), (7, .int v7), (8, .int v8)] dX5_drawnOf_154 rfl rfl (by decide) rfl ?_
    refine eg_goto C 11 dX5_drawnOf_157 (by decide) ?_
    refine eg_sub C [2, 3, 4, 0, 1] rfl ?_
    exact hk_11 _ _ _ _ _ h
set_option maxHeartbeats 4000000 in
set_option maxRecDepth 100000 in
theorem wX5_drawnOf_J67 {E : eu_E} (C : eu_C E ({ frames := 4, cells := 0, slots := 0, locals := 92 } : Room) 25 12 9 cX5_drawnOf RX5 (Cond.code yX5_drawnOf cX5_drawnOf 9 (some .int) :: eu_TB) (some .int)) {r : Int32} {σ' : eu_T} {k11 : eu_T → Int32 → Int32 → Int32 → Int32 → Option (Int32 × eu_T)} (hk_11 : ∀ (σ : eu_T) (v2 : Int32) (v3 : Int32) (v4 : Int32) (v5 : Int32), k11 σ v2 v3 v4 v5 = some (r, σ') → eu_G E 25 12 9 (eu_QI E 25 12 σ' r) σ 11 [(0, .ref (eu_ad E 25)), (2, .int v2), (3, .int v3), (4, .int v4), (5, .int v5)] []) (σ : eu_T) (v2 : Int32) (v3 : Int32) (v4 : Int32) (v6 : Int32) (s0 : Int32)  (h : fX5_drawnOf_J67 k11 σ v2 v3 v4 v6 s0 = some (r, σ')) : eu_G E 25 12 9 (eu_QI E 25 12 σ' r) σ 67 [(0, .ref (eu_ad E 25)), (2, .int v2), (3, .int v3), (4, .int v4), (6, .int v6)] [.int s0] := by
  unfold fX5_drawnOf_J67 at h
  refine eg_istore C [(5, .int s0), (0, .ref (eu_ad E 25)), (2, .int v2), (3, .int v3), (4, .int v4), (6, .int v6)] dX5_drawnOf_67 (by decide) rfl ?_
  refine eg_iload C 0 dX5_drawnOf_69 rfl ?_
  refine eg_if_eq C 157 dX5_drawnOf_71 (by decide) (fun c => ?_) (fun c => ?_)
  · rw [if_pos c] at h
    refine eg_goto C 11 dX5_drawnOf_157 (by decide) ?_
    refine eg_sub C [1, 2, 3, 4, 0] rfl ?_
    exact hk_11 _ _ _ _ _ h
  · rw [if_neg c] at h
    refine eg_iload C 5 dX5_drawnOf_74 rfl ?_
    refine eg_aload_n C 1 dX5_drawnOf_76 rfl ?_
    refine eg_iload C 5 dX5_drawnOf_77 rfl ?_
    obtain ⟨r7, hr7, h⟩ := eu_bd_some h
    refine eg_scallI C (cw_X5_drawnOf_X5_ones_90 C) (av := [.int v6]) (kX5_ones hr7) rfl (st := [.ref (eu_ad E 25), .int v6]) rfl (Nat.le_of_ble_eq_true rfl) dX5_drawnOf_79 ?_
    obtain ⟨r8, σ9, hr8, h⟩ := eu_b2_some h
    refine eg_callI C (cw_X5_drawnOf_X5_lot_221 C) (av := [.int r7]) 25 (by decide) (kX5_lot hr8) rfl rfl rfl rfl (st := [.int v6]) rfl (Nat.le_of_ble_eq_true rfl) dX5_drawnOf_82 ?_
    obtain ⟨r10, hr10, h⟩ := eu_bd_some h
    refine eg_scallI C (cw_X5_drawnOf_X5_among_224 C) (av := [.int v6, .int r8]) (kX5_among hr10) rfl (st := []) rfl (Nat.le_of_ble_eq_true rfl) dX5_drawnOf_85 ?_
    refine eg_istore C [(7, .int r10), (5, .int s0), (0, .ref (eu_ad E 25)), (2, .int v2), (3, .int v3), (4, .int v4), (6, .int v6)] dX5_drawnOf_88 (by decide) rfl ?_
    refine eg_aload_n C 2 dX5_drawnOf_90 rfl ?_
    refine eg_aload_n C 2 dX5_drawnOf_91 rfl ?_
    refine gf_X5_108 C (by decide) dX5_drawnOf_92 ?_
    refine eg_iload C 5 dX5_drawnOf_95 rfl ?_
    refine eg_iadd C dX5_drawnOf_97 ?_
    obtain ⟨r11, hr11, h⟩ := eu_bd_some h
    refine eg_callI C (cw_X5_drawnOf_X5_standing_153 C) (av := [.int ((σ9 25 10) + v4)]) 25 (by decide) (kX5_standing hr11) rfl rfl rfl rfl (st := []) rfl (Nat.le_of_ble_eq_true rfl) dX5_drawnOf_98 ?_
    refine eg_aload_n C 2 dX5_drawnOf_101 rfl ?_
    refine eg_iload C 0 dX5_drawnOf_102 rfl ?_
    obtain ⟨r12, hr12, h⟩ := eu_bd_some h
    refine eg_callI C (cw_X5_drawnOf_X5_ofOthers_227 C) (av := [.int r10]) 25 (by decide) (kX5_ofOthers hr12) rfl rfl rfl rfl (st := [.int r11]) rfl (Nat.le_of_ble_eq_true rfl) dX5_drawnOf_104 ?_
    refine eg_iand C dX5_drawnOf_107 ?_
    refine eg_istore C [(8, .int (r11 &&& r12)), (7, .int r10), (5, .int s0), (0, .ref (eu_ad E 25)), (2, .int v2), (3, .int v3), (4, .int v4), (6, .int v6)] dX5_drawnOf_108 (by decide) rfl ?_
    refine eg_iload C 0 dX5_drawnOf_110 rfl ?_
    refine eg_if_eq C 119 dX5_drawnOf_112 (by decide) (fun c => ?_) (fun c => ?_)
    · rw [if_pos c] at h
      refine eg_iconst C (0 : Int32) dX5_drawnOf_119 (by decide) ?_
      refine eg_sub C [3, 4, 5, 6, 1, 0] rfl ?_
      exact wX5_drawnOf_J120 C hk_11 _ _ _ _ _ _ _ h
    · rw [if_neg c] at h
      refine eg_iconst C (1 : Int32) dX5_drawnOf_115 (by decide) ?_
      refine eg_goto C 120 dX5_drawnOf_116 (by decide) ?_
      refine eg_sub C [3, 4, 5, 6, 1, 0] rfl ?_
      exact wX5_drawnOf_J120 C hk_11 _ _ _ _ _ _ _ h
set_option maxHeartbeats 4000000 in
set_option maxRecDepth 100000 in
theorem wX5_drawnOf_L11 {E : eu_E} (C : eu_C E ({ frames := 4, cells := 0, slots := 0, locals := 92 } : Room) 25 12 9 cX5_drawnOf RX5 (Cond.code yX5_drawnOf cX5_drawnOf 9 (some .int) :: eu_TB) (some .int)) {r : Int32} {σ' : eu_T}   : ∀ (n : Nat) (σ : eu_T) (v2 : Int32) (v3 : Int32) (v4 : Int32) (v5 : Int32), fX5_drawnOf_L11 n σ v2 v3 v4 v5 = some (r, σ') → eu_G E 25 12 9 (eu_QI E 25 12 σ' r) σ 11 [(0, .ref (eu_ad E 25)), (2, .int v2), (3, .int v3), (4, .int v4), (5, .int v5)] [] := by
  intro n
  induction n with
  | zero =>
    intro σ v2 v3 v4 v5  h
    rw [fX5_drawnOf_L11_z] at h
    cases h
  | succ n ih =>
    intro σ v2 v3 v4 v5  h
    rw [fX5_drawnOf_L11_s] at h
    refine eg_iload C 4 dX5_drawnOf_11 rfl ?_
    refine eg_if_eq C 160 dX5_drawnOf_13 (by decide) (fun c => ?_) (fun c => ?_)
    · rw [if_pos c] at h
      refine eg_sub C [0, 2, 3] rfl ?_
      exact wX5_drawnOf_J160 C _ _ _ h
    · rw [if_neg c] at h
      refine eg_iload C 3 dX5_drawnOf_16 rfl ?_
      refine eg_iload_n C 1 dX5_drawnOf_18 rfl ?_
      refine eg_icmp_ge C 160 dX5_drawnOf_19 (by decide) (fun c => ?_) (fun c => ?_)
      · rw [if_pos c] at h
        refine eg_sub C [0, 2, 3] rfl ?_
        exact wX5_drawnOf_J160 C _ _ _ h
      · rw [if_neg c] at h
        refine eg_aload_n C 0 dX5_drawnOf_22 rfl ?_
        refine gf_X5_108 C (by decide) dX5_drawnOf_23 ?_
        refine eg_iload C 3 dX5_drawnOf_26 rfl ?_
        refine eg_iadd C dX5_drawnOf_28 ?_
        refine eg_bipush C (12 : Int32) dX5_drawnOf_29 (by decide) ?_
        refine eg_icmp_ge C 160 dX5_drawnOf_31 (by decide) (fun c => ?_) (fun c => ?_)
        · rw [if_pos c] at h
          refine eg_sub C [0, 2, 3] rfl ?_
          exact wX5_drawnOf_J160 C _ _ _ h
        · rw [if_neg c] at h
          refine eg_aload_n C 0 dX5_drawnOf_34 rfl ?_
          refine eg_aload_n C 0 dX5_drawnOf_35 rfl ?_
          refine gf_X5_108 C (by decide) dX5_drawnOf_36 ?_
          refine eg_iload C 3 dX5_drawnOf_39 rfl ?_
          refine eg_iadd C dX5_drawnOf_41 ?_
          refine eg_iconst C (-1 : Int32) dX5_drawnOf_42 (by decide) ?_
          obtain ⟨r2, σ3, hr2, h⟩ := eu_b2_some h
          refine eg_callV C (cw_X5_drawnOf_X5_judges_140 C) (av := [.int ((σ 25 10) + v4), .int (-1 : Int32)]) 25 (by decide) (kX5_judges hr2) rfl rfl rfl rfl (st := []) rfl (Nat.le_of_ble_eq_true rfl) dX5_drawnOf_43 ?_
          refine eg_bipush C (63 : Int32) dX5_drawnOf_46 (by decide) ?_
          refine eg_aload_n C 0 dX5_drawnOf_48 rfl ?_
          refine gf_X5_124 C (by decide) dX5_drawnOf_49 ?_
          refine eg_iconst C (-1 : Int32) dX5_drawnOf_52 (by decide) ?_
          refine eg_ixor C dX5_drawnOf_53 ?_
          refine eg_iand C dX5_drawnOf_54 ?_
          refine eg_istore C [(6, .int ((63 : Int32) &&& ((σ3 25 16) ^^^ (-1 : Int32)))), (0, .ref (eu_ad E 25)), (2, .int v2), (3, .int v3), (4, .int v4), (5, .int v5)] dX5_drawnOf_55 (by decide) rfl ?_
          refine eg_iload C 0 dX5_drawnOf_57 rfl ?_
          refine eg_if_eq C 66 dX5_drawnOf_59 (by decide) (fun c => ?_) (fun c => ?_)
          · rw [if_pos c] at h
            refine eg_iconst C (0 : Int32) dX5_drawnOf_66 (by decide) ?_
            refine eg_sub C [1, 2, 3, 4, 0] rfl ?_
            exact wX5_drawnOf_J67 C ih _ _ _ _ _ _ h
          · rw [if_neg c] at h
            refine eg_iconst C (1 : Int32) dX5_drawnOf_62 (by decide) ?_
            refine eg_goto C 67 dX5_drawnOf_63 (by decide) ?_
            refine eg_sub C [1, 2, 3, 4, 0] rfl ?_
            exact wX5_drawnOf_J67 C ih _ _ _ _ _ _ h
set_option maxHeartbeats 4000000 in
set_option maxRecDepth 100000 in
theorem wX5_drawnOf {E : eu_E} (C : eu_C E ({ frames := 4, cells := 0, slots := 0, locals := 92 } : Room) 25 12 9 cX5_drawnOf RX5 (Cond.code yX5_drawnOf cX5_drawnOf 9 (some .int) :: eu_TB) (some .int)) {σ : eu_T} {r : Int32} {σ' : eu_T} {a1 : Int32} {a2 : Int32} {a3 : Int32}  (h : fX5_drawnOf σ a1 a2 a3 = some (r, σ')) : eu_G E 25 12 9 (eu_QI E 25 12 σ' r) σ 0 [(0, .ref (eu_ad E 25)), (1, .int a1), (2, .int a2), (3, .int a3)] [] := by
  unfold fX5_drawnOf at h
  refine eg_aload_n C 0 dX5_drawnOf_0 rfl ?_
  refine eg_iload_n C 1 dX5_drawnOf_1 rfl ?_
  refine pf_X5_218 C (by decide) dX5_drawnOf_2 ?_
  obtain ⟨σ1, eσ1, h⟩ := eu_lt_x h
  rw [← eσ1]
  refine eg_iconst C (0 : Int32) dX5_drawnOf_5 (by decide) ?_
  refine eg_istore C [(4, .int (0 : Int32)), (0, .ref (eu_ad E 25)), (1, .int a1), (2, .int a2), (3, .int a3)] dX5_drawnOf_6 (by decide) rfl ?_
  refine eg_iconst C (1 : Int32) dX5_drawnOf_8 (by decide) ?_
  refine eg_istore C [(5, .int (1 : Int32)), (4, .int (0 : Int32)), (0, .ref (eu_ad E 25)), (1, .int a1), (2, .int a2), (3, .int a3)] dX5_drawnOf_9 (by decide) rfl ?_
  refine eg_sub C [2, 4, 5, 1, 0] rfl ?_
  exact wX5_drawnOf_L11 C 200 _ _ _ _ _ h
theorem kX5_drawnOf {l : Launch} {σ : eu_T} {r : Int32} {σ' : eu_T} {a1 : Int32} {a2 : Int32} {a3 : Int32}  (h : fX5_drawnOf σ a1 a2 a3 = some (r, σ')) : eu_KI l yX5_drawnOf (Cond.code yX5_drawnOf cX5_drawnOf 9 (some .int) :: eu_TB) ({ frames := 4, cells := 0, slots := 0, locals := 92 } : Room) 25 12 (fun ad => [.ref (ad 25), .int a1, .int a2, .int a3]) σ σ' r :=
  eu_KI_of (by decide) (by decide) rfl (fun _ => Nat.le_of_ble_eq_true rfl) (fun E C => wX5_drawnOf C h)
theorem cw_X5_drawn_X5_reads_100 {E : eu_E} (C : eu_C E ({ frames := 5, cells := 0, slots := 0, locals := 120 } : Room) 25 12 4 cX5_drawn RX5 (Cond.code yX5_drawn cX5_drawn 4 (some .int) :: eu_TB) (some .int)) : CallW (eu_R E) (eu_s E) (eu_a E) RX5 RX5 100 yX5_reads cX5_reads 2 (some .int) (Cond.code yX5_reads cX5_reads 2 (some .int) :: eu_TB) ({ frames := 2, cells := 0, slots := 0, locals := 48 } : Room) 0 0 0 := eu_cwV C tw_131 tw_132 tw_133 tw_5 tw_134 rfl rfl (by decide +kernel) (by decide)
theorem cw_X5_drawn_X5_in_44 {E : eu_E} (C : eu_C E ({ frames := 5, cells := 0, slots := 0, locals := 120 } : Room) 25 12 4 cX5_drawn RX5 (Cond.code yX5_drawn cX5_drawn 4 (some .int) :: eu_TB) (some .int)) : CallB (eu_R E) (eu_s E) (eu_a E) RX5 44 yX5_in cX5_in 6 (some .boolean) (Cond.code yX5_in cX5_in 6 (some .boolean) :: eu_TB) ({ frames := 0, cells := 0, slots := 0, locals := 0 } : Room) 0 0 3 ∧ (Cond.static yX5_in).before (eu_a E) (eu_s E) = true := eu_cwS C tw_109 tw_110 tw_5 tw_111 rfl rfl (by decide +kernel) (by decide)
theorem cw_X5_drawn_X5_isTwo_156 {E : eu_E} (C : eu_C E ({ frames := 5, cells := 0, slots := 0, locals := 120 } : Room) 25 12 4 cX5_drawn RX5 (Cond.code yX5_drawn cX5_drawn 4 (some .int) :: eu_TB) (some .int)) : CallB (eu_R E) (eu_s E) (eu_a E) RX5 156 yX5_isTwo cX5_isTwo 1 (some .boolean) (Cond.code yX5_isTwo cX5_isTwo 1 (some .boolean) :: eu_TB) ({ frames := 1, cells := 0, slots := 0, locals := 25 } : Room) 0 0 1 ∧ (Cond.static yX5_isTwo).before (eu_a E) (eu_s E) = true := eu_cwS C tw_312 tw_313 tw_5 tw_314 rfl rfl (by decide +kernel) (by decide)
theorem cw_X5_drawn_X5_drawnOf_232 {E : eu_E} (C : eu_C E ({ frames := 5, cells := 0, slots := 0, locals := 120 } : Room) 25 12 4 cX5_drawn RX5 (Cond.code yX5_drawn cX5_drawn 4 (some .int) :: eu_TB) (some .int)) : CallW (eu_R E) (eu_s E) (eu_a E) RX5 RX5 232 yX5_drawnOf cX5_drawnOf 9 (some .int) (Cond.code yX5_drawnOf cX5_drawnOf 9 (some .int) :: eu_TB) ({ frames := 4, cells := 0, slots := 0, locals := 92 } : Room) 0 0 3 := eu_cwV C tw_537 tw_538 tw_539 tw_5 tw_540 rfl rfl (by decide +kernel) (by decide)
set_option maxHeartbeats 4000000 in
set_option maxRecDepth 100000 in
theorem wX5_drawn_J34 {E : eu_E} (C : eu_C E ({ frames := 5, cells := 0, slots := 0, locals := 120 } : Room) 25 12 4 cX5_drawn RX5 (Cond.code yX5_drawn cX5_drawn 4 (some .int) :: eu_TB) (some .int)) {r : Int32} {σ' : eu_T}   (σ : eu_T)  (h : fX5_drawn_J34  σ = some (r, σ')) : eu_G E 25 12 4 (eu_QI E 25 12 σ' r) σ 34 [] [] := by
  unfold fX5_drawn_J34 at h
  refine eg_bipush C (-2 : Int32) dX5_drawn_34 (by decide) ?_
  obtain ⟨rfl, rfl⟩ := eu_inj2 h
  exact eg_iret C rfl dX5_drawn_36
set_option maxHeartbeats 4000000 in
set_option maxRecDepth 100000 in
theorem wX5_drawn {E : eu_E} (C : eu_C E ({ frames := 5, cells := 0, slots := 0, locals := 120 } : Room) 25 12 4 cX5_drawn RX5 (Cond.code yX5_drawn cX5_drawn 4 (some .int) :: eu_TB) (some .int)) {σ : eu_T} {r : Int32} {σ' : eu_T} {a1 : Int32} {a2 : Int32} {a3 : Int32}  (h : fX5_drawn σ a1 a2 a3 = some (r, σ')) : eu_G E 25 12 4 (eu_QI E 25 12 σ' r) σ 0 [(0, .ref (eu_ad E 25)), (1, .int a1), (2, .int a2), (3, .int a3)] [] := by
  unfold fX5_drawn at h
  refine eg_aload_n C 0 dX5_drawn_0 rfl ?_
  obtain ⟨r1, σ2, hr1, h⟩ := eu_b2_some h
  refine eg_callI C (cw_X5_drawn_X5_reads_100 C) (av := []) 25 (by decide) (kX5_reads hr1) rfl rfl rfl rfl (st := []) rfl (Nat.le_of_ble_eq_true rfl) dX5_drawn_1 ?_
  refine eg_pop C dX5_drawn_4 rfl ?_
  refine eg_iload_n C 2 dX5_drawn_5 rfl ?_
  refine eg_i2l C dX5_drawn_6 ?_
  refine eg_lconst C (0 : Int64) dX5_drawn_7 (by decide) ?_
  refine eg_ldc2 C (6 : Int64) dX5_drawn_8 (List.mem_cons_of_mem _ tw_536) ?_
  refine eg_scallI C (cw_X5_drawn_X5_in_44 C) (av := [.long a2.toInt64, .long (0 : Int64), .long (6 : Int64)]) (kX5_in rfl) rfl (st := []) rfl (Nat.le_of_ble_eq_true rfl) dX5_drawn_11 ?_
  refine eg_if_eq C 34 dX5_drawn_14 (by decide) (fun c => ?_) (fun c => ?_)
  · rw [if_pos c] at h
    refine eg_sub C [] rfl ?_
    exact wX5_drawn_J34 C _ h
  · rw [if_neg c] at h
    refine eg_iload_n C 3 dX5_drawn_17 rfl ?_
    refine eg_scallI C (cw_X5_drawn_X5_isTwo_156 C) (av := [.int a3]) (kX5_isTwo rfl) rfl (st := []) rfl (Nat.le_of_ble_eq_true rfl) dX5_drawn_18 ?_
    refine eg_if_eq C 34 dX5_drawn_21 (by decide) (fun c => ?_) (fun c => ?_)
    · rw [if_pos c] at h
      refine eg_sub C [] rfl ?_
      exact wX5_drawn_J34 C _ h
    · rw [if_neg c] at h
      refine eg_aload_n C 0 dX5_drawn_24 rfl ?_
      refine eg_iload_n C 1 dX5_drawn_25 rfl ?_
      refine eg_iload_n C 2 dX5_drawn_26 rfl ?_
      refine eg_iload_n C 3 dX5_drawn_27 rfl ?_
      obtain ⟨r3, σ4, hr3, h⟩ := eu_b2_some h
      refine eg_callI C (cw_X5_drawn_X5_drawnOf_232 C) (av := [.int a1, .int a2, .int a3]) 25 (by decide) (kX5_drawnOf hr3) rfl rfl rfl rfl (st := []) rfl (Nat.le_of_ble_eq_true rfl) dX5_drawn_28 ?_
      refine eg_goto C 36 dX5_drawn_31 (by decide) ?_
      obtain ⟨rfl, rfl⟩ := eu_inj2 h
      exact eg_iret C rfl dX5_drawn_36
theorem kX5_drawn {l : Launch} {σ : eu_T} {r : Int32} {σ' : eu_T} {a1 : Int32} {a2 : Int32} {a3 : Int32}  (h : fX5_drawn σ a1 a2 a3 = some (r, σ')) : eu_KI l yX5_drawn (Cond.code yX5_drawn cX5_drawn 4 (some .int) :: eu_TB) ({ frames := 5, cells := 0, slots := 0, locals := 120 } : Room) 25 12 (fun ad => [.ref (ad 25), .int a1, .int a2, .int a3]) σ σ' r :=
  eu_KI_of (by decide) (by decide) rfl (fun _ => Nat.le_of_ble_eq_true rfl) (fun E C => wX5_drawn C h)
theorem cw_X5_write_X5_isSheet_54 {E : eu_E} (C : eu_C E ({ frames := 4, cells := 0, slots := 0, locals := 94 } : Room) 25 12 4 cX5_write RX5 (Cond.code yX5_write cX5_write 4 (some .int) :: eu_TB) (some .int)) : CallB (eu_R E) (eu_s E) (eu_a E) RX5 54 yX5_isSheet cX5_isSheet 1 (some .boolean) (Cond.code yX5_isSheet cX5_isSheet 1 (some .boolean) :: eu_TB) ({ frames := 1, cells := 0, slots := 0, locals := 25 } : Room) 0 0 1 ∧ (Cond.static yX5_isSheet).before (eu_a E) (eu_s E) = true := eu_cwS C tw_199 tw_200 tw_5 tw_201 rfl rfl (by decide +kernel) (by decide)
theorem cw_X5_write_X5_find_144 {E : eu_E} (C : eu_C E ({ frames := 4, cells := 0, slots := 0, locals := 94 } : Room) 25 12 4 cX5_write RX5 (Cond.code yX5_write cX5_write 4 (some .int) :: eu_TB) (some .int)) : CallW (eu_R E) (eu_s E) (eu_a E) RX5 RX5 144 yX5_find cX5_find 1 none (Cond.code yX5_find cX5_find 1 none :: eu_TB) ({ frames := 3, cells := 0, slots := 0, locals := 69 } : Room) 0 0 0 := eu_cwV C tw_244 tw_245 tw_246 tw_5 tw_247 rfl rfl (by decide +kernel) (by decide)
theorem cw_X5_write_X5_met_60 {E : eu_E} (C : eu_C E ({ frames := 4, cells := 0, slots := 0, locals := 94 } : Room) 25 12 4 cX5_write RX5 (Cond.code yX5_write cX5_write 4 (some .int) :: eu_TB) (some .int)) : CallW (eu_R E) (eu_s E) (eu_a E) RX5 RX5 60 yX5_met cX5_met 2 (some .int) (Cond.code yX5_met cX5_met 2 (some .int) :: eu_TB) ({ frames := 0, cells := 0, slots := 0, locals := 0 } : Room) 0 0 1 := eu_cwV C tw_203 tw_204 tw_205 tw_5 tw_206 rfl rfl (by decide +kernel) (by decide)
theorem cw_X5_write_X5_rootOf_162 {E : eu_E} (C : eu_C E ({ frames := 4, cells := 0, slots := 0, locals := 94 } : Room) 25 12 4 cX5_write RX5 (Cond.code yX5_write cX5_write 4 (some .int) :: eu_TB) (some .int)) : CallW (eu_R E) (eu_s E) (eu_a E) RX5 RX5 162 yX5_rootOf cX5_rootOf 6 (some .int) (Cond.code yX5_rootOf cX5_rootOf 6 (some .int) :: eu_TB) ({ frames := 3, cells := 0, slots := 0, locals := 69 } : Room) 0 0 1 := eu_cwV C tw_338 tw_339 tw_340 tw_5 tw_341 rfl rfl (by decide +kernel) (by decide)
theorem cw_X5_write_X5_cut_68 {E : eu_E} (C : eu_C E ({ frames := 4, cells := 0, slots := 0, locals := 94 } : Room) 25 12 4 cX5_write RX5 (Cond.code yX5_write cX5_write 4 (some .int) :: eu_TB) (some .int)) : CallB (eu_R E) (eu_s E) (eu_a E) RX5 68 yX5_cut cX5_cut 2 (some .int) (Cond.code yX5_cut cX5_cut 2 (some .int) :: eu_TB) ({ frames := 0, cells := 0, slots := 0, locals := 0 } : Room) 0 0 2 ∧ (Cond.static yX5_cut).before (eu_a E) (eu_s E) = true := eu_cwS C tw_593 tw_594 tw_5 tw_595 rfl rfl (by decide +kernel) (by decide)
set_option maxHeartbeats 4000000 in
set_option maxRecDepth 100000 in
theorem wX5_write_L58 {E : eu_E} (C : eu_C E ({ frames := 4, cells := 0, slots := 0, locals := 94 } : Room) 25 12 4 cX5_write RX5 (Cond.code yX5_write cX5_write 4 (some .int) :: eu_TB) (some .int)) {r : Int32} {σ' : eu_T}   : ∀ (n : Nat) (σ : eu_T) (v1 : Int32) (v2 : Int32) (v3 : Int32), fX5_write_L58 n σ v1 v2 v3 = some (r, σ') → eu_G E 25 12 4 (eu_QI E 25 12 σ' r) σ 58 [(0, .ref (eu_ad E 25)), (1, .int v1), (2, .int v2), (3, .int v3)] [] := by
  intro n
  induction n with
  | zero =>
    intro σ v1 v2 v3  h
    rw [fX5_write_L58_z] at h
    cases h
  | succ n ih =>
    intro σ v1 v2 v3  h
    rw [fX5_write_L58_s] at h
    refine eg_iload_n C 3 dX5_write_58 rfl ?_
    refine eg_iload_n C 2 dX5_write_59 rfl ?_
    refine eg_icmp_ge C 94 dX5_write_60 (by decide) (fun c => ?_) (fun c => ?_)
    · rw [if_pos c] at h
      refine eg_iload_n C 2 dX5_write_94 rfl ?_
      obtain ⟨rfl, rfl⟩ := eu_inj2 h
      exact eg_iret C rfl dX5_write_95
    · rw [if_neg c] at h
      refine eg_aload_n C 0 dX5_write_63 rfl ?_
      refine gf_X5_16 C (by decide) dX5_write_64 ?_
      refine eg_bipush C (60 : Int32) dX5_write_67 (by decide) ?_
      refine eg_iload_n C 1 dX5_write_69 rfl ?_
      refine eg_imul C dX5_write_70 ?_
      refine eg_iload_n C 3 dX5_write_71 rfl ?_
      refine eg_iadd C dX5_write_72 ?_
      refine eg_aload_n C 0 dX5_write_73 rfl ?_
      refine gf_X5_7 C (by decide) dX5_write_74 ?_
      refine eg_iload_n C 1 dX5_write_77 rfl ?_
      obtain ⟨g8, h⟩ := eu_gd_some h
      refine eg_iald C 26 (by decide) (z := 4) (fun _ => rfl) (eu_in_vp g8) dX5_write_78 ?_
      refine eg_aload_n C 0 dX5_write_79 rfl ?_
      refine eg_iload_n C 3 dX5_write_80 rfl ?_
      obtain ⟨r9, σ10, hr9, h⟩ := eu_b2_some h
      refine eg_callI C (cw_X5_write_X5_rootOf_162 C) (av := [.int v3]) 25 (by decide) (kX5_rootOf hr9) rfl rfl rfl rfl (st := [.int (σ 26 v1.toNatClampNeg), .int (((60 : Int32) * v1) + v3), .ref (eu_ad E 28)]) rfl (Nat.le_of_ble_eq_true rfl) dX5_write_81 ?_
      refine eg_scallI C (cw_X5_write_X5_cut_68 C) (av := [.int (σ 26 v1.toNatClampNeg), .int r9]) (kX5_cut rfl) rfl (st := [.int (((60 : Int32) * v1) + v3), .ref (eu_ad E 28)]) rfl (Nat.le_of_ble_eq_true rfl) dX5_write_84 ?_
      obtain ⟨g11, h⟩ := eu_gd_some h
      refine eg_iast C 28 (by decide) (z := 240) (fun _ => rfl) (eu_in_vp g11) dX5_write_87 ?_
      obtain ⟨σ12, eσ12, h⟩ := eu_lt_x h
      rw [← eσ12]
      refine eg_iinc C 3 (v3 + (1 : Int32)) [(3, .int (v3 + (1 : Int32))), (0, .ref (eu_ad E 25)), (1, .int v1), (2, .int v2)] dX5_write_88 rfl rfl (by decide) rfl ?_
      refine eg_goto C 58 dX5_write_91 (by decide) ?_
      refine eg_sub C [1, 2, 3, 0] rfl ?_
      exact ih _ _ _ _ h
set_option maxHeartbeats 4000000 in
set_option maxRecDepth 100000 in
theorem wX5_write {E : eu_E} (C : eu_C E ({ frames := 4, cells := 0, slots := 0, locals := 94 } : Room) 25 12 4 cX5_write RX5 (Cond.code yX5_write cX5_write 4 (some .int) :: eu_TB) (some .int)) {σ : eu_T} {r : Int32} {σ' : eu_T} {a1 : Int32}  (h : fX5_write σ a1 = some (r, σ')) : eu_G E 25 12 4 (eu_QI E 25 12 σ' r) σ 0 [(0, .ref (eu_ad E 25)), (1, .int a1)] [] := by
  unfold fX5_write at h
  refine eg_iload_n C 1 dX5_write_0 rfl ?_
  refine eg_scallI C (cw_X5_write_X5_isSheet_54 C) (av := [.int a1]) (kX5_isSheet rfl) rfl (st := []) rfl (Nat.le_of_ble_eq_true rfl) dX5_write_1 ?_
  refine eg_if_ne C 10 dX5_write_4 (by decide) (fun c => ?_) (fun c => ?_)
  · rw [if_neg c] at h
    refine eg_aload_n C 0 dX5_write_10 rfl ?_
    refine gf_X5_7 C (by decide) dX5_write_11 ?_
    refine eg_iload_n C 1 dX5_write_14 rfl ?_
    obtain ⟨g1, h⟩ := eu_gd_some h
    refine eg_iald C 26 (by decide) (z := 4) (fun _ => rfl) (eu_in_vp g1) dX5_write_15 ?_
    refine eg_if_ge C 25 dX5_write_16 (by decide) (fun c => ?_) (fun c => ?_)
    · rw [if_pos c] at h
      refine eg_aload_n C 0 dX5_write_25 rfl ?_
      obtain ⟨r2, σ3, hr2, h⟩ := eu_b2_some h
      refine eg_callV C (cw_X5_write_X5_find_144 C) (av := []) 25 (by decide) (kX5_find hr2) rfl rfl rfl rfl (st := []) rfl (Nat.le_of_ble_eq_true rfl) dX5_write_26 ?_
      refine eg_aload_n C 0 dX5_write_29 rfl ?_
      refine gf_X5_13 C (by decide) dX5_write_30 ?_
      refine eg_iload_n C 1 dX5_write_33 rfl ?_
      obtain ⟨g4, h⟩ := eu_gd_some h
      refine eg_iald C 27 (by decide) (z := 4) (fun _ => rfl) (eu_in_vp g4) dX5_write_34 ?_
      refine eg_aload_n C 0 dX5_write_35 rfl ?_
      refine gf_X5_81 C (by decide) dX5_write_36 ?_
      refine eg_icmp_ge C 51 dX5_write_39 (by decide) (fun c => ?_) (fun c => ?_)
      · rw [if_pos c] at h
        refine eg_aload_n C 0 dX5_write_51 rfl ?_
        refine gf_X5_81 C (by decide) dX5_write_52 ?_
        refine eg_istore_n C [(2, .int (σ3 25 8)), (0, .ref (eu_ad E 25)), (1, .int a1)] dX5_write_55 rfl (by decide) rfl ?_
        refine eg_iconst C (0 : Int32) dX5_write_56 (by decide) ?_
        refine eg_istore_n C [(3, .int (0 : Int32)), (2, .int (σ3 25 8)), (0, .ref (eu_ad E 25)), (1, .int a1)] dX5_write_57 rfl (by decide) rfl ?_
        refine eg_sub C [2, 3, 1, 0] rfl ?_
        exact wX5_write_L58 C 200 _ _ _ _ h
      · rw [if_neg c] at h
        refine eg_aload_n C 0 dX5_write_42 rfl ?_
        refine gf_X5_13 C (by decide) dX5_write_43 ?_
        refine eg_iload_n C 1 dX5_write_46 rfl ?_
        obtain ⟨g5, h⟩ := eu_gd_some h
        refine eg_iald C 27 (by decide) (z := 4) (fun _ => rfl) (eu_in_vp g5) dX5_write_47 ?_
        refine eg_goto C 55 dX5_write_48 (by decide) ?_
        refine eg_istore_n C [(2, .int (σ3 27 a1.toNatClampNeg)), (0, .ref (eu_ad E 25)), (1, .int a1)] dX5_write_55 rfl (by decide) rfl ?_
        refine eg_iconst C (0 : Int32) dX5_write_56 (by decide) ?_
        refine eg_istore_n C [(3, .int (0 : Int32)), (2, .int (σ3 27 a1.toNatClampNeg)), (0, .ref (eu_ad E 25)), (1, .int a1)] dX5_write_57 rfl (by decide) rfl ?_
        refine eg_sub C [2, 3, 1, 0] rfl ?_
        exact wX5_write_L58 C 200 _ _ _ _ h
    · rw [if_neg c] at h
      refine eg_aload_n C 0 dX5_write_19 rfl ?_
      refine eg_iconst C (1 : Int32) dX5_write_20 (by decide) ?_
      obtain ⟨r6, σ7, hr6, h⟩ := eu_b2_some h
      refine eg_callI C (cw_X5_write_X5_met_60 C) (av := [.int (1 : Int32)]) 25 (by decide) (kX5_met hr6) rfl rfl rfl rfl (st := []) rfl (Nat.le_of_ble_eq_true rfl) dX5_write_21 ?_
      obtain ⟨rfl, rfl⟩ := eu_inj2 h
      exact eg_iret C rfl dX5_write_24
  · rw [if_pos c] at h
    refine eg_bipush C (-2 : Int32) dX5_write_7 (by decide) ?_
    obtain ⟨rfl, rfl⟩ := eu_inj2 h
    exact eg_iret C rfl dX5_write_9
theorem kX5_write {l : Launch} {σ : eu_T} {r : Int32} {σ' : eu_T} {a1 : Int32}  (h : fX5_write σ a1 = some (r, σ')) : eu_KI l yX5_write (Cond.code yX5_write cX5_write 4 (some .int) :: eu_TB) ({ frames := 4, cells := 0, slots := 0, locals := 94 } : Room) 25 12 (fun ad => [.ref (ad 25), .int a1]) σ σ' r :=
  eu_KI_of (by decide) (by decide) rfl (fun _ => Nat.le_of_ble_eq_true rfl) (fun E C => wX5_write C h)
theorem cw_X5_count_X5_find_144 {E : eu_E} (C : eu_C E ({ frames := 4, cells := 0, slots := 0, locals := 92 } : Room) 25 12 4 cX5_count RX5 (Cond.code yX5_count cX5_count 4 (some .int) :: eu_TB) (some .int)) : CallW (eu_R E) (eu_s E) (eu_a E) RX5 RX5 144 yX5_find cX5_find 1 none (Cond.code yX5_find cX5_find 1 none :: eu_TB) ({ frames := 3, cells := 0, slots := 0, locals := 69 } : Room) 0 0 0 := eu_cwV C tw_244 tw_245 tw_246 tw_5 tw_247 rfl rfl (by decide +kernel) (by decide)
theorem cw_X5_count_X5_holding_147 {E : eu_E} (C : eu_C E ({ frames := 4, cells := 0, slots := 0, locals := 92 } : Room) 25 12 4 cX5_count RX5 (Cond.code yX5_count cX5_count 4 (some .int) :: eu_TB) (some .int)) : CallW (eu_R E) (eu_s E) (eu_a E) RX5 RX5 147 yX5_holding cX5_holding 5 (some .int) (Cond.code yX5_holding cX5_holding 5 (some .int) :: eu_TB) ({ frames := 1, cells := 0, slots := 0, locals := 21 } : Room) 0 0 1 := eu_cwV C tw_272 tw_273 tw_274 tw_5 tw_275 rfl rfl (by decide +kernel) (by decide)
theorem cw_X5_count_X5_ones_90 {E : eu_E} (C : eu_C E ({ frames := 4, cells := 0, slots := 0, locals := 92 } : Room) 25 12 4 cX5_count RX5 (Cond.code yX5_count cX5_count 4 (some .int) :: eu_TB) (some .int)) : CallB (eu_R E) (eu_s E) (eu_a E) RX5 90 yX5_ones cX5_ones 3 (some .int) (Cond.code yX5_ones cX5_ones 3 (some .int) :: eu_TB) ({ frames := 0, cells := 0, slots := 0, locals := 0 } : Room) 0 0 1 ∧ (Cond.static yX5_ones).before (eu_a E) (eu_s E) = true := eu_cwS C tw_146 tw_147 tw_5 tw_148 rfl rfl (by decide +kernel) (by decide)
theorem cw_X5_count_X5_standing_153 {E : eu_E} (C : eu_C E ({ frames := 4, cells := 0, slots := 0, locals := 92 } : Room) 25 12 4 cX5_count RX5 (Cond.code yX5_count cX5_count 4 (some .int) :: eu_TB) (some .int)) : CallW (eu_R E) (eu_s E) (eu_a E) RX5 RX5 153 yX5_standing cX5_standing 4 (some .int) (Cond.code yX5_standing cX5_standing 4 (some .int) :: eu_TB) ({ frames := 3, cells := 0, slots := 0, locals := 69 } : Room) 0 0 1 := eu_cwV C tw_319 tw_320 tw_321 tw_5 tw_322 rfl rfl (by decide +kernel) (by decide)
set_option maxHeartbeats 4000000 in
set_option maxRecDepth 100000 in
theorem wX5_count_L107 {E : eu_E} (C : eu_C E ({ frames := 4, cells := 0, slots := 0, locals := 92 } : Room) 25 12 4 cX5_count RX5 (Cond.code yX5_count cX5_count 4 (some .int) :: eu_TB) (some .int)) {r : Int32} {σ' : eu_T}   : ∀ (n : Nat) (σ : eu_T) (v2 : Int32) (v3 : Int32), fX5_count_L107 n σ v2 v3 = some (r, σ') → eu_G E 25 12 4 (eu_QI E 25 12 σ' r) σ 107 [(0, .ref (eu_ad E 25)), (2, .int v2), (3, .int v3)] [] := by
  intro n
  induction n with
  | zero =>
    intro σ v2 v3  h
    rw [fX5_count_L107_z] at h
    cases h
  | succ n ih =>
    intro σ v2 v3  h
    rw [fX5_count_L107_s] at h
    refine eg_iload_n C 2 dX5_count_107 rfl ?_
    refine eg_aload_n C 0 dX5_count_108 rfl ?_
    refine gf_X5_81 C (by decide) dX5_count_109 ?_
    refine eg_icmp_ge C 134 dX5_count_112 (by decide) (fun c => ?_) (fun c => ?_)
    · rw [if_pos c] at h
      refine eg_iload_n C 1 dX5_count_134 rfl ?_
      obtain ⟨rfl, rfl⟩ := eu_inj2 h
      exact eg_iret C rfl dX5_count_135
    · rw [if_neg c] at h
      refine eg_iload_n C 1 dX5_count_115 rfl ?_
      refine eg_aload_n C 0 dX5_count_116 rfl ?_
      refine gf_X5_25 C (by decide) dX5_count_117 ?_
      refine eg_iconst C (3 : Int32) dX5_count_120 (by decide) ?_
      refine eg_iload_n C 2 dX5_count_121 rfl ?_
      refine eg_imul C dX5_count_122 ?_
      refine eg_iconst C (2 : Int32) dX5_count_123 (by decide) ?_
      refine eg_iadd C dX5_count_124 ?_
      obtain ⟨g7, h⟩ := eu_gd_some h
      refine eg_iald C 31 (by decide) (z := 36) (fun _ => rfl) (eu_in_vp g7) dX5_count_125 ?_
      refine eg_iadd C dX5_count_126 ?_
      refine eg_istore_n C [(2, .int (v2 + (σ 31 (((3 : Int32) * v3) + (2 : Int32)).toNatClampNeg))), (0, .ref (eu_ad E 25)), (3, .int v3)] dX5_count_127 rfl (by decide) rfl ?_
      refine eg_iinc C 2 (v3 + (1 : Int32)) [(3, .int (v3 + (1 : Int32))), (2, .int (v2 + (σ 31 (((3 : Int32) * v3) + (2 : Int32)).toNatClampNeg))), (0, .ref (eu_ad E 25))] dX5_count_128 rfl rfl (by decide) rfl ?_
      refine eg_goto C 107 dX5_count_131 (by decide) ?_
      refine eg_sub C [2, 1, 0] rfl ?_
      exact ih _ _ _ h
set_option maxHeartbeats 4000000 in
set_option maxRecDepth 100000 in
theorem wX5_count {E : eu_E} (C : eu_C E ({ frames := 4, cells := 0, slots := 0, locals := 92 } : Room) 25 12 4 cX5_count RX5 (Cond.code yX5_count cX5_count 4 (some .int) :: eu_TB) (some .int)) {σ : eu_T} {r : Int32} {σ' : eu_T} {a1 : Int32}  (h : fX5_count σ a1 = some (r, σ')) : eu_G E 25 12 4 (eu_QI E 25 12 σ' r) σ 0 [(0, .ref (eu_ad E 25)), (1, .int a1)] [] := by
  unfold fX5_count at h
  refine eg_iconst C (0 : Int32) dX5_count_0 (by decide) ?_
  refine eg_istore_n C [(2, .int (0 : Int32)), (0, .ref (eu_ad E 25)), (1, .int a1)] dX5_count_1 rfl (by decide) rfl ?_
  refine eg_aload_n C 1 dX5_count_2 rfl ?_
  obtain ⟨r1, σ2, hr1, h⟩ := eu_b2_some h
  refine eg_callV C (cw_X5_count_X5_find_144 C) (av := []) 25 (by decide) (kX5_find hr1) rfl rfl rfl rfl (st := []) rfl (Nat.le_of_ble_eq_true rfl) dX5_count_3 ?_
  refine eg_iload_n C 2 dX5_count_6 rfl ?_
  by_cases c0 : a1 = 0
  · rw [if_pos c0] at h
    refine eg_tin C 0 56 dX5_count_7 c0 (by decide) (by decide) rfl (by decide) ?_
    refine eg_aload_n C 1 dX5_count_56 rfl ?_
    refine gf_X5_81 C (by decide) dX5_count_57 ?_
    obtain ⟨rfl, rfl⟩ := eu_inj2 h
    exact eg_iret C rfl dX5_count_60
  · rw [if_neg c0] at h
    by_cases c1 : a1 = 1
    · rw [if_pos c1] at h
      refine eg_tin C 1 61 dX5_count_7 c1 (by decide) (by decide) rfl (by decide) ?_
      refine eg_aload_n C 1 dX5_count_61 rfl ?_
      refine gf_X5_75 C (by decide) dX5_count_62 ?_
      obtain ⟨rfl, rfl⟩ := eu_inj2 h
      exact eg_iret C rfl dX5_count_65
    · rw [if_neg c1] at h
      by_cases c2 : a1 = 2
      · rw [if_pos c2] at h
        refine eg_tin C 2 66 dX5_count_7 c2 (by decide) (by decide) rfl (by decide) ?_
        refine eg_aload_n C 1 dX5_count_66 rfl ?_
        refine gf_X5_108 C (by decide) dX5_count_67 ?_
        obtain ⟨rfl, rfl⟩ := eu_inj2 h
        exact eg_iret C rfl dX5_count_70
      · rw [if_neg c2] at h
        by_cases c3 : a1 = 3
        · rw [if_pos c3] at h
          refine eg_tin C 3 71 dX5_count_7 c3 (by decide) (by decide) rfl (by decide) ?_
          refine eg_aload_n C 1 dX5_count_71 rfl ?_
          refine gf_X5_131 C (by decide) dX5_count_72 ?_
          obtain ⟨rfl, rfl⟩ := eu_inj2 h
          exact eg_iret C rfl dX5_count_75
        · rw [if_neg c3] at h
          by_cases c4 : a1 = 4
          · rw [if_pos c4] at h
            refine eg_tin C 4 76 dX5_count_7 c4 (by decide) (by decide) rfl (by decide) ?_
            refine eg_aload_n C 1 dX5_count_76 rfl ?_
            refine eg_aload_n C 1 dX5_count_77 rfl ?_
            refine gf_X5_108 C (by decide) dX5_count_78 ?_
            obtain ⟨r3, hr3, h⟩ := eu_bd_some h
            refine eg_callI C (cw_X5_count_X5_holding_147 C) (av := [.int (σ2 25 10)]) 25 (by decide) (kX5_holding hr3) rfl rfl rfl rfl (st := []) rfl (Nat.le_of_ble_eq_true rfl) dX5_count_81 ?_
            obtain ⟨r4, hr4, h⟩ := eu_bd_some h
            refine eg_scallI C (cw_X5_count_X5_ones_90 C) (av := [.int r3]) (kX5_ones hr4) rfl (st := []) rfl (Nat.le_of_ble_eq_true rfl) dX5_count_84 ?_
            obtain ⟨rfl, rfl⟩ := eu_inj2 h
            exact eg_iret C rfl dX5_count_87
          · rw [if_neg c4] at h
            by_cases c5 : a1 = 5
            · rw [if_pos c5] at h
              refine eg_tin C 5 88 dX5_count_7 c5 (by decide) (by decide) rfl (by decide) ?_
              refine eg_aload_n C 1 dX5_count_88 rfl ?_
              refine eg_aload_n C 1 dX5_count_89 rfl ?_
              refine gf_X5_108 C (by decide) dX5_count_90 ?_
              obtain ⟨r5, hr5, h⟩ := eu_bd_some h
              refine eg_callI C (cw_X5_count_X5_standing_153 C) (av := [.int (σ2 25 10)]) 25 (by decide) (kX5_standing hr5) rfl rfl rfl rfl (st := []) rfl (Nat.le_of_ble_eq_true rfl) dX5_count_93 ?_
              obtain ⟨r6, hr6, h⟩ := eu_bd_some h
              refine eg_scallI C (cw_X5_count_X5_ones_90 C) (av := [.int r5]) (kX5_ones hr6) rfl (st := []) rfl (Nat.le_of_ble_eq_true rfl) dX5_count_96 ?_
              obtain ⟨rfl, rfl⟩ := eu_inj2 h
              exact eg_iret C rfl dX5_count_99
            · rw [if_neg c5] at h
              by_cases c6 : a1 = 6
              · rw [if_pos c6] at h
                refine eg_tin C 6 100 dX5_count_7 c6 (by decide) (by decide) rfl (by decide) ?_
                refine eg_aload_n C 1 dX5_count_100 rfl ?_
                refine gf_X5_211 C (by decide) dX5_count_101 ?_
                obtain ⟨rfl, rfl⟩ := eu_inj2 h
                exact eg_iret C rfl dX5_count_104
              · rw [if_neg c6] at h
                by_cases c7 : a1 = 7
                · rw [if_pos c7] at h
                  refine eg_tin C 7 105 dX5_count_7 c7 (by decide) (by decide) rfl (by decide) ?_
                  refine eg_iconst C (0 : Int32) dX5_count_105 (by decide) ?_
                  refine eg_istore_n C [(3, .int (0 : Int32)), (2, .int (0 : Int32)), (0, .ref (eu_ad E 25)), (1, .int a1)] dX5_count_106 rfl (by decide) rfl ?_
                  refine eg_sub C [2, 1, 0] rfl ?_
                  exact wX5_count_L107 C 200 _ _ _ h
                · rw [if_neg c7] at h
                  by_cases c8 : a1 = 8
                  · rw [if_pos c8] at h
                    refine eg_tin C 8 136 dX5_count_7 c8 (by decide) (by decide) rfl (by decide) ?_
                    refine eg_aload_n C 1 dX5_count_136 rfl ?_
                    refine gf_X5_48 C (by decide) dX5_count_137 ?_
                    obtain ⟨rfl, rfl⟩ := eu_inj2 h
                    exact eg_iret C rfl dX5_count_140
                  · rw [if_neg c8] at h
                    have n0 := eu_nsw c0 (a := 0) rfl
                    have n1 := eu_nsw c1 (a := 1) rfl
                    have n2 := eu_nsw c2 (a := 2) rfl
                    have n3 := eu_nsw c3 (a := 3) rfl
                    have n4 := eu_nsw c4 (a := 4) rfl
                    have n5 := eu_nsw c5 (a := 5) rfl
                    have n6 := eu_nsw c6 (a := 6) rfl
                    have n7 := eu_nsw c7 (a := 7) rfl
                    have n8 := eu_nsw c8 (a := 8) rfl
                    refine eg_tout C 141 dX5_count_7 (by omega) (by decide) ?_
                    refine eg_bipush C (-2 : Int32) dX5_count_141 (by decide) ?_
                    obtain ⟨rfl, rfl⟩ := eu_inj2 h
                    exact eg_iret C rfl dX5_count_143
theorem kX5_count {l : Launch} {σ : eu_T} {r : Int32} {σ' : eu_T} {a1 : Int32}  (h : fX5_count σ a1 = some (r, σ')) : eu_KI l yX5_count (Cond.code yX5_count cX5_count 4 (some .int) :: eu_TB) ({ frames := 4, cells := 0, slots := 0, locals := 92 } : Room) 25 12 (fun ad => [.ref (ad 25), .int a1]) σ σ' r :=
  eu_KI_of (by decide) (by decide) rfl (fun _ => Nat.le_of_ble_eq_true rfl) (fun E C => wX5_count C h)
