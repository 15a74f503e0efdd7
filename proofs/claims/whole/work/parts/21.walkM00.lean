set_option maxHeartbeats 4000000 in
set_option maxRecDepth 100000 in
theorem wX5_in_J17 {E : eu_E} (C : eu_C E ({ frames := 0, cells := 0, slots := 0, locals := 0 } : Room) 25 12 6 cX5_in RX5 (Cond.code yX5_in cX5_in 6 (some .boolean) :: eu_TB) (some .boolean)) {σ : eu_T} {r : Int32}     (h : fX5_in_J17 = r) : eu_G E 25 12 6 (eu_QI E 25 12 σ r) σ 17 [] [] := by
  unfold fX5_in_J17 at h
  refine eg_iconst C (0 : Int32) dX5_in_17 (by decide) ?_
  subst h
  exact eg_zret C rfl (by decide) dX5_in_18
set_option maxHeartbeats 4000000 in
set_option maxRecDepth 100000 in
theorem wX5_in {E : eu_E} (C : eu_C E ({ frames := 0, cells := 0, slots := 0, locals := 0 } : Room) 25 12 6 cX5_in RX5 (Cond.code yX5_in cX5_in 6 (some .boolean) :: eu_TB) (some .boolean)) {σ : eu_T} {r : Int32} {a0 : Int64} {a2 : Int64} {a4 : Int64}  (h : fX5_in a0 a2 a4 = r) : eu_G E 25 12 6 (eu_QI E 25 12 σ r) σ 0 [(0, .long a0), (2, .long a2), (4, .long a4)] [] := by
  unfold fX5_in at h
  refine eg_lload_n C 0 dX5_in_0 rfl ?_
  refine eg_lload_n C 1 dX5_in_1 rfl ?_
  refine eg_lcmp C dX5_in_2 ?_
  refine eg_if_lt C 17 dX5_in_3 (by decide) (fun c => ?_) (fun c => ?_)
  · rw [if_pos c] at h
    refine eg_sub C [] rfl ?_
    exact wX5_in_J17 C h
  · rw [if_neg c] at h
    refine eg_lload_n C 0 dX5_in_6 rfl ?_
    refine eg_lload C 2 dX5_in_7 rfl ?_
    refine eg_lcmp C dX5_in_9 ?_
    refine eg_if_gt C 17 dX5_in_10 (by decide) (fun c => ?_) (fun c => ?_)
    · rw [if_pos c] at h
      refine eg_sub C [] rfl ?_
      exact wX5_in_J17 C h
    · rw [if_neg c] at h
      refine eg_iconst C (1 : Int32) dX5_in_13 (by decide) ?_
      refine eg_goto C 18 dX5_in_14 (by decide) ?_
      subst h
      exact eg_zret C rfl (by decide) dX5_in_18
theorem kX5_in {l : Launch} {σ : eu_T} {r : Int32} {a0 : Int64} {a2 : Int64} {a4 : Int64}  (h : fX5_in a0 a2 a4 = r) : eu_KI l yX5_in (Cond.code yX5_in cX5_in 6 (some .boolean) :: eu_TB) ({ frames := 0, cells := 0, slots := 0, locals := 0 } : Room) 25 12 (fun _ => [.long a0, .long a2, .long a4]) σ σ r :=
  eu_KI_of (by decide) (by decide) rfl (fun _ => Nat.le_of_ble_eq_true rfl) (fun E C => wX5_in C h)
theorem cw_X5_isTwo_X5_in_44 {E : eu_E} (C : eu_C E ({ frames := 1, cells := 0, slots := 0, locals := 25 } : Room) 25 12 1 cX5_isTwo RX5 (Cond.code yX5_isTwo cX5_isTwo 1 (some .boolean) :: eu_TB) (some .boolean)) : CallB (eu_R E) (eu_s E) (eu_a E) RX5 44 yX5_in cX5_in 6 (some .boolean) (Cond.code yX5_in cX5_in 6 (some .boolean) :: eu_TB) ({ frames := 0, cells := 0, slots := 0, locals := 0 } : Room) 0 0 3 ∧ (Cond.static yX5_in).before (eu_a E) (eu_s E) = true := eu_cwS C tw_109 tw_110 tw_5 tw_111 rfl rfl (by decide +kernel) (by decide)
set_option maxHeartbeats 4000000 in
set_option maxRecDepth 100000 in
theorem wX5_isTwo {E : eu_E} (C : eu_C E ({ frames := 1, cells := 0, slots := 0, locals := 25 } : Room) 25 12 1 cX5_isTwo RX5 (Cond.code yX5_isTwo cX5_isTwo 1 (some .boolean) :: eu_TB) (some .boolean)) {σ : eu_T} {r : Int32} {a0 : Int32}  (h : fX5_isTwo a0 = r) : eu_G E 25 12 1 (eu_QI E 25 12 σ r) σ 0 [(0, .int a0)] [] := by
  unfold fX5_isTwo at h
  refine eg_iload_n C 0 dX5_isTwo_0 rfl ?_
  refine eg_i2l C dX5_isTwo_1 ?_
  refine eg_lconst C (0 : Int64) dX5_isTwo_2 (by decide) ?_
  refine eg_lconst C (1 : Int64) dX5_isTwo_3 (by decide) ?_
  refine eg_scallI C (cw_X5_isTwo_X5_in_44 C) (av := [.long a0.toInt64, .long (0 : Int64), .long (1 : Int64)]) (kX5_in rfl) rfl (st := []) rfl (Nat.le_of_ble_eq_true rfl) dX5_isTwo_4 ?_
  subst h
  exact eg_zret C rfl (bX5_in a0.toInt64 (0 : Int64) (1 : Int64)) dX5_isTwo_7
theorem kX5_isTwo {l : Launch} {σ : eu_T} {r : Int32} {a0 : Int32}  (h : fX5_isTwo a0 = r) : eu_KI l yX5_isTwo (Cond.code yX5_isTwo cX5_isTwo 1 (some .boolean) :: eu_TB) ({ frames := 1, cells := 0, slots := 0, locals := 25 } : Room) 25 12 (fun _ => [.int a0]) σ σ r :=
  eu_KI_of (by decide) (by decide) rfl (fun _ => Nat.le_of_ble_eq_true rfl) (fun E C => wX5_isTwo C h)
set_option maxHeartbeats 4000000 in
set_option maxRecDepth 100000 in
theorem wX5_isIn {E : eu_E} (C : eu_C E ({ frames := 0, cells := 0, slots := 0, locals := 0 } : Room) 25 12 2 cX5_isIn RX5 (Cond.code yX5_isIn cX5_isIn 2 (some .boolean) :: eu_TB) (some .boolean)) {σ : eu_T} {r : Int32} {a0 : Int32} {a1 : Int32}  (h : fX5_isIn a0 a1 = r) : eu_G E 25 12 2 (eu_QI E 25 12 σ r) σ 0 [(0, .int a0), (1, .int a1)] [] := by
  unfold fX5_isIn at h
  refine eg_iload_n C 0 dX5_isIn_0 rfl ?_
  refine eg_iload_n C 1 dX5_isIn_1 rfl ?_
  refine eg_ishr C dX5_isIn_2 ?_
  refine eg_iconst C (1 : Int32) dX5_isIn_3 (by decide) ?_
  refine eg_iand C dX5_isIn_4 ?_
  refine eg_iconst C (1 : Int32) dX5_isIn_5 (by decide) ?_
  refine eg_icmp_ne C 13 dX5_isIn_6 (by decide) (fun c => ?_) (fun c => ?_)
  · rw [if_neg c] at h
    refine eg_iconst C (0 : Int32) dX5_isIn_13 (by decide) ?_
    subst h
    exact eg_zret C rfl (by decide) dX5_isIn_14
  · rw [if_pos c] at h
    refine eg_iconst C (1 : Int32) dX5_isIn_9 (by decide) ?_
    refine eg_goto C 14 dX5_isIn_10 (by decide) ?_
    subst h
    exact eg_zret C rfl (by decide) dX5_isIn_14
theorem kX5_isIn {l : Launch} {σ : eu_T} {r : Int32} {a0 : Int32} {a1 : Int32}  (h : fX5_isIn a0 a1 = r) : eu_KI l yX5_isIn (Cond.code yX5_isIn cX5_isIn 2 (some .boolean) :: eu_TB) ({ frames := 0, cells := 0, slots := 0, locals := 0 } : Room) 25 12 (fun _ => [.int a0, .int a1]) σ σ r :=
  eu_KI_of (by decide) (by decide) rfl (fun _ => Nat.le_of_ble_eq_true rfl) (fun E C => wX5_isIn C h)
set_option maxHeartbeats 4000000 in
set_option maxRecDepth 100000 in
theorem wX5_ones_L4 {E : eu_E} (C : eu_C E ({ frames := 0, cells := 0, slots := 0, locals := 0 } : Room) 25 12 3 cX5_ones RX5 (Cond.code yX5_ones cX5_ones 3 (some .int) :: eu_TB) (some .int)) {σ : eu_T} {r : Int32}   : ∀ (n : Nat) (v1 : Int32) (v2 : Int32), fX5_ones_L4 n v1 v2 = some r → eu_G E 25 12 3 (eu_QI E 25 12 σ r) σ 4 [(1, .int v1), (2, .int v2)] [] := by
  intro n
  induction n with
  | zero =>
    intro v1 v2  h
    rw [fX5_ones_L4_z] at h
    cases h
  | succ n ih =>
    intro v1 v2  h
    rw [fX5_ones_L4_s] at h
    refine eg_iload_n C 1 dX5_ones_4 rfl ?_
    refine eg_if_eq C 20 dX5_ones_5 (by decide) (fun c => ?_) (fun c => ?_)
    · rw [if_pos c] at h
      refine eg_iload_n C 0 dX5_ones_20 rfl ?_
      obtain rfl := Option.some.inj h
      exact eg_iret C rfl dX5_ones_21
    · rw [if_neg c] at h
      refine eg_iinc C 0 (v1 + (1 : Int32)) [(1, .int (v1 + (1 : Int32))), (2, .int v2)] dX5_ones_8 rfl rfl (by decide) rfl ?_
      refine eg_iload_n C 1 dX5_ones_11 rfl ?_
      refine eg_iload_n C 1 dX5_ones_12 rfl ?_
      refine eg_iconst C (1 : Int32) dX5_ones_13 (by decide) ?_
      refine eg_isub C dX5_ones_14 ?_
      refine eg_iand C dX5_ones_15 ?_
      refine eg_istore_n C [(2, .int (v2 &&& (v2 - (1 : Int32)))), (1, .int (v1 + (1 : Int32)))] dX5_ones_16 rfl (by decide) rfl ?_
      refine eg_goto C 4 dX5_ones_17 (by decide) ?_
      refine eg_sub C [1, 0] rfl ?_
      exact ih _ _ h
set_option maxHeartbeats 4000000 in
set_option maxRecDepth 100000 in
theorem wX5_ones {E : eu_E} (C : eu_C E ({ frames := 0, cells := 0, slots := 0, locals := 0 } : Room) 25 12 3 cX5_ones RX5 (Cond.code yX5_ones cX5_ones 3 (some .int) :: eu_TB) (some .int)) {σ : eu_T} {r : Int32} {a0 : Int32}  (h : fX5_ones a0 = some r) : eu_G E 25 12 3 (eu_QI E 25 12 σ r) σ 0 [(0, .int a0)] [] := by
  unfold fX5_ones at h
  refine eg_iconst C (0 : Int32) dX5_ones_0 (by decide) ?_
  refine eg_istore_n C [(1, .int (0 : Int32)), (0, .int a0)] dX5_ones_1 rfl (by decide) rfl ?_
  refine eg_iload_n C 1 dX5_ones_2 rfl ?_
  refine eg_istore_n C [(2, .int a0), (1, .int (0 : Int32)), (0, .int a0)] dX5_ones_3 rfl (by decide) rfl ?_
  refine eg_sub C [1, 0] rfl ?_
  exact wX5_ones_L4 C 200 _ _ h
theorem kX5_ones {l : Launch} {σ : eu_T} {r : Int32} {a0 : Int32}  (h : fX5_ones a0 = some r) : eu_KI l yX5_ones (Cond.code yX5_ones cX5_ones 3 (some .int) :: eu_TB) ({ frames := 0, cells := 0, slots := 0, locals := 0 } : Room) 25 12 (fun _ => [.int a0]) σ σ r :=
  eu_KI_of (by decide) (by decide) rfl (fun _ => Nat.le_of_ble_eq_true rfl) (fun E C => wX5_ones C h)
set_option maxHeartbeats 4000000 in
set_option maxRecDepth 100000 in
theorem wX5_met {E : eu_E} (C : eu_C E ({ frames := 0, cells := 0, slots := 0, locals := 0 } : Room) 25 12 2 cX5_met RX5 (Cond.code yX5_met cX5_met 2 (some .int) :: eu_TB) (some .int)) {σ : eu_T} {r : Int32} {σ' : eu_T} {a1 : Int32}  (h : fX5_met σ a1 = some (r, σ')) : eu_G E 25 12 2 (eu_QI E 25 12 σ' r) σ 0 [(0, .ref (eu_ad E 25)), (1, .int a1)] [] := by
  unfold fX5_met at h
  refine eg_aload_n C 0 dX5_met_0 rfl ?_
  refine eg_iload_n C 1 dX5_met_1 rfl ?_
  refine pf_X5_48 C (by decide) dX5_met_2 ?_
  obtain ⟨σ1, eσ1, h⟩ := eu_lt_x h
  rw [← eσ1]
  refine eg_bipush C (-10 : Int32) dX5_met_5 (by decide) ?_
  refine eg_iload_n C 1 dX5_met_7 rfl ?_
  refine eg_isub C dX5_met_8 ?_
  obtain ⟨rfl, rfl⟩ := eu_inj2 h
  exact eg_iret C rfl dX5_met_9
theorem kX5_met {l : Launch} {σ : eu_T} {r : Int32} {σ' : eu_T} {a1 : Int32}  (h : fX5_met σ a1 = some (r, σ')) : eu_KI l yX5_met (Cond.code yX5_met cX5_met 2 (some .int) :: eu_TB) ({ frames := 0, cells := 0, slots := 0, locals := 0 } : Room) 25 12 (fun ad => [.ref (ad 25), .int a1]) σ σ' r :=
  eu_KI_of (by decide) (by decide) rfl (fun _ => Nat.le_of_ble_eq_true rfl) (fun E C => wX5_met C h)
theorem cw_X5_isSheet_X5_in_44 {E : eu_E} (C : eu_C E ({ frames := 1, cells := 0, slots := 0, locals := 25 } : Room) 25 12 1 cX5_isSheet RX5 (Cond.code yX5_isSheet cX5_isSheet 1 (some .boolean) :: eu_TB) (some .boolean)) : CallB (eu_R E) (eu_s E) (eu_a E) RX5 44 yX5_in cX5_in 6 (some .boolean) (Cond.code yX5_in cX5_in 6 (some .boolean) :: eu_TB) ({ frames := 0, cells := 0, slots := 0, locals := 0 } : Room) 0 0 3 ∧ (Cond.static yX5_in).before (eu_a E) (eu_s E) = true := eu_cwS C tw_109 tw_110 tw_5 tw_111 rfl rfl (by decide +kernel) (by decide)
set_option maxHeartbeats 4000000 in
set_option maxRecDepth 100000 in
theorem wX5_isSheet {E : eu_E} (C : eu_C E ({ frames := 1, cells := 0, slots := 0, locals := 25 } : Room) 25 12 1 cX5_isSheet RX5 (Cond.code yX5_isSheet cX5_isSheet 1 (some .boolean) :: eu_TB) (some .boolean)) {σ : eu_T} {r : Int32} {a0 : Int32}  (h : fX5_isSheet a0 = r) : eu_G E 25 12 1 (eu_QI E 25 12 σ r) σ 0 [(0, .int a0)] [] := by
  unfold fX5_isSheet at h
  refine eg_iload_n C 0 dX5_isSheet_0 rfl ?_
  refine eg_i2l C dX5_isSheet_1 ?_
  refine eg_lconst C (0 : Int64) dX5_isSheet_2 (by decide) ?_
  refine eg_ldc2 C (3 : Int64) dX5_isSheet_3 (List.mem_cons_of_mem _ tw_202) ?_
  refine eg_scallI C (cw_X5_isSheet_X5_in_44 C) (av := [.long a0.toInt64, .long (0 : Int64), .long (3 : Int64)]) (kX5_in rfl) rfl (st := []) rfl (Nat.le_of_ble_eq_true rfl) dX5_isSheet_6 ?_
  subst h
  exact eg_zret C rfl (bX5_in a0.toInt64 (0 : Int64) (3 : Int64)) dX5_isSheet_9
theorem kX5_isSheet {l : Launch} {σ : eu_T} {r : Int32} {a0 : Int32}  (h : fX5_isSheet a0 = r) : eu_KI l yX5_isSheet (Cond.code yX5_isSheet cX5_isSheet 1 (some .boolean) :: eu_TB) ({ frames := 1, cells := 0, slots := 0, locals := 25 } : Room) 25 12 (fun _ => [.int a0]) σ σ r :=
  eu_KI_of (by decide) (by decide) rfl (fun _ => Nat.le_of_ble_eq_true rfl) (fun E C => wX5_isSheet C h)
theorem cw_X5_sheet_X5_isSheet_54 {E : eu_E} (C : eu_C E ({ frames := 2, cells := 0, slots := 0, locals := 45 } : Room) 25 12 5 cX5_sheet RX5 (Cond.code yX5_sheet cX5_sheet 5 (some .int) :: eu_TB) (some .int)) : CallB (eu_R E) (eu_s E) (eu_a E) RX5 54 yX5_isSheet cX5_isSheet 1 (some .boolean) (Cond.code yX5_isSheet cX5_isSheet 1 (some .boolean) :: eu_TB) ({ frames := 1, cells := 0, slots := 0, locals := 25 } : Room) 0 0 1 ∧ (Cond.static yX5_isSheet).before (eu_a E) (eu_s E) = true := eu_cwS C tw_199 tw_200 tw_5 tw_201 rfl rfl (by decide +kernel) (by decide)
theorem cw_X5_sheet_X5_in_44 {E : eu_E} (C : eu_C E ({ frames := 2, cells := 0, slots := 0, locals := 45 } : Room) 25 12 5 cX5_sheet RX5 (Cond.code yX5_sheet cX5_sheet 5 (some .int) :: eu_TB) (some .int)) : CallB (eu_R E) (eu_s E) (eu_a E) RX5 44 yX5_in cX5_in 6 (some .boolean) (Cond.code yX5_in cX5_in 6 (some .boolean) :: eu_TB) ({ frames := 0, cells := 0, slots := 0, locals := 0 } : Room) 0 0 3 ∧ (Cond.static yX5_in).before (eu_a E) (eu_s E) = true := eu_cwS C tw_109 tw_110 tw_5 tw_111 rfl rfl (by decide +kernel) (by decide)
theorem cw_X5_sheet_X5_met_60 {E : eu_E} (C : eu_C E ({ frames := 2, cells := 0, slots := 0, locals := 45 } : Room) 25 12 5 cX5_sheet RX5 (Cond.code yX5_sheet cX5_sheet 5 (some .int) :: eu_TB) (some .int)) : CallW (eu_R E) (eu_s E) (eu_a E) RX5 RX5 60 yX5_met cX5_met 2 (some .int) (Cond.code yX5_met cX5_met 2 (some .int) :: eu_TB) ({ frames := 0, cells := 0, slots := 0, locals := 0 } : Room) 0 0 1 := eu_cwV C tw_203 tw_204 tw_205 tw_5 tw_206 rfl rfl (by decide +kernel) (by decide)
set_option maxHeartbeats 4000000 in
set_option maxRecDepth 100000 in
theorem wX5_sheet_L55 {E : eu_E} (C : eu_C E ({ frames := 2, cells := 0, slots := 0, locals := 45 } : Room) 25 12 5 cX5_sheet RX5 (Cond.code yX5_sheet cX5_sheet 5 (some .int) :: eu_TB) (some .int)) {r : Int32} {σ' : eu_T}   : ∀ (n : Nat) (σ : eu_T) (v1 : Int32) (v3 : Int32) (v4 : Int32), fX5_sheet_L55 n σ v1 v3 v4 = some (r, σ') → eu_G E 25 12 5 (eu_QI E 25 12 σ' r) σ 55 [(0, .ref (eu_ad E 25)), (1, .int v1), (3, .int v3), (4, .int v4)] [] := by
  intro n
  induction n with
  | zero =>
    intro σ v1 v3 v4  h
    rw [fX5_sheet_L55_z] at h
    cases h
  | succ n ih =>
    intro σ v1 v3 v4  h
    rw [fX5_sheet_L55_s] at h
    refine eg_iload C 3 dX5_sheet_55 rfl ?_
    refine eg_iload_n C 2 dX5_sheet_57 rfl ?_
    refine eg_icmp_ge C 80 dX5_sheet_58 (by decide) (fun c => ?_) (fun c => ?_)
    · rw [if_pos c] at h
      refine eg_iload_n C 2 dX5_sheet_80 rfl ?_
      obtain ⟨rfl, rfl⟩ := eu_inj2 h
      exact eg_iret C rfl dX5_sheet_81
    · rw [if_neg c] at h
      refine eg_aload_n C 0 dX5_sheet_61 rfl ?_
      refine gf_X5_16 C (by decide) dX5_sheet_62 ?_
      refine eg_bipush C (60 : Int32) dX5_sheet_65 (by decide) ?_
      refine eg_iload_n C 1 dX5_sheet_67 rfl ?_
      refine eg_imul C dX5_sheet_68 ?_
      refine eg_iload C 3 dX5_sheet_69 rfl ?_
      refine eg_iadd C dX5_sheet_71 ?_
      refine eg_iconst C (0 : Int32) dX5_sheet_72 (by decide) ?_
      obtain ⟨g7, h⟩ := eu_gd_some h
      refine eg_iast C 28 (by decide) (z := 240) (fun _ => rfl) (eu_in_vp g7) dX5_sheet_73 ?_
      obtain ⟨σ8, eσ8, h⟩ := eu_lt_x h
      rw [← eσ8]
      refine eg_iinc C 3 (v4 + (1 : Int32)) [(4, .int (v4 + (1 : Int32))), (0, .ref (eu_ad E 25)), (1, .int v1), (3, .int v3)] dX5_sheet_74 rfl rfl (by decide) rfl ?_
      refine eg_goto C 55 dX5_sheet_77 (by decide) ?_
      refine eg_sub C [1, 2, 3, 0] rfl ?_
      exact ih _ _ _ _ h
set_option maxHeartbeats 4000000 in
set_option maxRecDepth 100000 in
theorem wX5_sheet {E : eu_E} (C : eu_C E ({ frames := 2, cells := 0, slots := 0, locals := 45 } : Room) 25 12 5 cX5_sheet RX5 (Cond.code yX5_sheet cX5_sheet 5 (some .int) :: eu_TB) (some .int)) {σ : eu_T} {r : Int32} {σ' : eu_T} {a1 : Int32} {a2 : Int32} {a3 : Int32}  (h : fX5_sheet σ a1 a2 a3 = some (r, σ')) : eu_G E 25 12 5 (eu_QI E 25 12 σ' r) σ 0 [(0, .ref (eu_ad E 25)), (1, .int a1), (2, .int a2), (3, .int a3)] [] := by
  unfold fX5_sheet at h
  refine eg_iload_n C 1 dX5_sheet_0 rfl ?_
  refine eg_scallI C (cw_X5_sheet_X5_isSheet_54 C) (av := [.int a1]) (kX5_isSheet rfl) rfl (st := []) rfl (Nat.le_of_ble_eq_true rfl) dX5_sheet_1 ?_
  refine eg_if_eq C 25 dX5_sheet_4 (by decide) (fun c => ?_) (fun c => ?_)
  · rw [if_pos c] at h
    refine eg_bipush C (-2 : Int32) dX5_sheet_25 (by decide) ?_
    obtain ⟨rfl, rfl⟩ := eu_inj2 h
    exact eg_iret C rfl dX5_sheet_27
  · rw [if_neg c] at h
    refine eg_iload_n C 2 dX5_sheet_7 rfl ?_
    refine eg_i2l C dX5_sheet_8 ?_
    refine eg_lconst C (0 : Int64) dX5_sheet_9 (by decide) ?_
    refine eg_ldc2 C (2 : Int64) dX5_sheet_10 (List.mem_cons_of_mem _ tw_164) ?_
    refine eg_scallI C (cw_X5_sheet_X5_in_44 C) (av := [.long a2.toInt64, .long (0 : Int64), .long (2 : Int64)]) (kX5_in rfl) rfl (st := []) rfl (Nat.le_of_ble_eq_true rfl) dX5_sheet_13 ?_
    refine eg_if_eq C 25 dX5_sheet_16 (by decide) (fun c => ?_) (fun c => ?_)
    · rw [if_pos c] at h
      refine eg_bipush C (-2 : Int32) dX5_sheet_25 (by decide) ?_
      obtain ⟨rfl, rfl⟩ := eu_inj2 h
      exact eg_iret C rfl dX5_sheet_27
    · rw [if_neg c] at h
      refine eg_iload_n C 3 dX5_sheet_19 rfl ?_
      refine eg_bipush C (60 : Int32) dX5_sheet_20 (by decide) ?_
      refine eg_icmp_le C 28 dX5_sheet_22 (by decide) (fun c => ?_) (fun c => ?_)
      · rw [if_pos c] at h
        refine eg_iload_n C 3 dX5_sheet_28 rfl ?_
        refine eg_if_ge C 38 dX5_sheet_29 (by decide) (fun c => ?_) (fun c => ?_)
        · rw [if_pos c] at h
          refine eg_aload_n C 0 dX5_sheet_38 rfl ?_
          refine gf_X5_7 C (by decide) dX5_sheet_39 ?_
          refine eg_iload_n C 1 dX5_sheet_42 rfl ?_
          refine eg_iload_n C 2 dX5_sheet_43 rfl ?_
          obtain ⟨g1, h⟩ := eu_gd_some h
          refine eg_iast C 26 (by decide) (z := 4) (fun _ => rfl) (eu_in_vp g1) dX5_sheet_44 ?_
          obtain ⟨σ2, eσ2, h⟩ := eu_lt_x h
          rw [← eσ2]
          refine eg_aload_n C 0 dX5_sheet_45 rfl ?_
          refine gf_X5_13 C (by decide) dX5_sheet_46 ?_
          refine eg_iload_n C 1 dX5_sheet_49 rfl ?_
          refine eg_iload_n C 3 dX5_sheet_50 rfl ?_
          obtain ⟨g3, h⟩ := eu_gd_some h
          refine eg_iast C 27 (by decide) (z := 4) (fun _ => rfl) (eu_in_vp g3) dX5_sheet_51 ?_
          obtain ⟨σ4, eσ4, h⟩ := eu_lt_x h
          rw [← eσ4]
          refine eg_iconst C (0 : Int32) dX5_sheet_52 (by decide) ?_
          refine eg_istore C [(4, .int (0 : Int32)), (0, .ref (eu_ad E 25)), (1, .int a1), (2, .int a2), (3, .int a3)] dX5_sheet_53 (by decide) rfl ?_
          refine eg_sub C [1, 2, 4, 0] rfl ?_
          exact wX5_sheet_L55 C 200 _ _ _ _ h
        · rw [if_neg c] at h
          refine eg_aload_n C 0 dX5_sheet_32 rfl ?_
          refine eg_iconst C (5 : Int32) dX5_sheet_33 (by decide) ?_
          obtain ⟨r5, σ6, hr5, h⟩ := eu_b2_some h
          refine eg_callI C (cw_X5_sheet_X5_met_60 C) (av := [.int (5 : Int32)]) 25 (by decide) (kX5_met hr5) rfl rfl rfl rfl (st := []) rfl (Nat.le_of_ble_eq_true rfl) dX5_sheet_34 ?_
          obtain ⟨rfl, rfl⟩ := eu_inj2 h
          exact eg_iret C rfl dX5_sheet_37
      · rw [if_neg c] at h
        refine eg_bipush C (-2 : Int32) dX5_sheet_25 (by decide) ?_
        obtain ⟨rfl, rfl⟩ := eu_inj2 h
        exact eg_iret C rfl dX5_sheet_27
theorem kX5_sheet {l : Launch} {σ : eu_T} {r : Int32} {σ' : eu_T} {a1 : Int32} {a2 : Int32} {a3 : Int32}  (h : fX5_sheet σ a1 a2 a3 = some (r, σ')) : eu_KI l yX5_sheet (Cond.code yX5_sheet cX5_sheet 5 (some .int) :: eu_TB) ({ frames := 2, cells := 0, slots := 0, locals := 45 } : Room) 25 12 (fun ad => [.ref (ad 25), .int a1, .int a2, .int a3]) σ σ' r :=
  eu_KI_of (by decide) (by decide) rfl (fun _ => Nat.le_of_ble_eq_true rfl) (fun E C => wX5_sheet C h)
theorem cw_X5_lose_X5_isSheet_54 {E : eu_E} (C : eu_C E ({ frames := 2, cells := 0, slots := 0, locals := 45 } : Room) 25 12 2 cX5_lose RX5 (Cond.code yX5_lose cX5_lose 2 (some .int) :: eu_TB) (some .int)) : CallB (eu_R E) (eu_s E) (eu_a E) RX5 54 yX5_isSheet cX5_isSheet 1 (some .boolean) (Cond.code yX5_isSheet cX5_isSheet 1 (some .boolean) :: eu_TB) ({ frames := 1, cells := 0, slots := 0, locals := 25 } : Room) 0 0 1 ∧ (Cond.static yX5_isSheet).before (eu_a E) (eu_s E) = true := eu_cwS C tw_199 tw_200 tw_5 tw_201 rfl rfl (by decide +kernel) (by decide)
theorem cw_X5_lose_X5_met_60 {E : eu_E} (C : eu_C E ({ frames := 2, cells := 0, slots := 0, locals := 45 } : Room) 25 12 2 cX5_lose RX5 (Cond.code yX5_lose cX5_lose 2 (some .int) :: eu_TB) (some .int)) : CallW (eu_R E) (eu_s E) (eu_a E) RX5 RX5 60 yX5_met cX5_met 2 (some .int) (Cond.code yX5_met cX5_met 2 (some .int) :: eu_TB) ({ frames := 0, cells := 0, slots := 0, locals := 0 } : Room) 0 0 1 := eu_cwV C tw_203 tw_204 tw_205 tw_5 tw_206 rfl rfl (by decide +kernel) (by decide)
set_option maxHeartbeats 4000000 in
set_option maxRecDepth 100000 in
theorem wX5_lose {E : eu_E} (C : eu_C E ({ frames := 2, cells := 0, slots := 0, locals := 45 } : Room) 25 12 2 cX5_lose RX5 (Cond.code yX5_lose cX5_lose 2 (some .int) :: eu_TB) (some .int)) {σ : eu_T} {r : Int32} {σ' : eu_T} {a1 : Int32}  (h : fX5_lose σ a1 = some (r, σ')) : eu_G E 25 12 2 (eu_QI E 25 12 σ' r) σ 0 [(0, .ref (eu_ad E 25)), (1, .int a1)] [] := by
  unfold fX5_lose at h
  refine eg_iload_n C 1 dX5_lose_0 rfl ?_
  refine eg_scallI C (cw_X5_lose_X5_isSheet_54 C) (av := [.int a1]) (kX5_isSheet rfl) rfl (st := []) rfl (Nat.le_of_ble_eq_true rfl) dX5_lose_1 ?_
  refine eg_if_ne C 10 dX5_lose_4 (by decide) (fun c => ?_) (fun c => ?_)
  · rw [if_neg c] at h
    refine eg_aload_n C 0 dX5_lose_10 rfl ?_
    refine gf_X5_7 C (by decide) dX5_lose_11 ?_
    refine eg_iload_n C 1 dX5_lose_14 rfl ?_
    obtain ⟨g1, h⟩ := eu_gd_some h
    refine eg_iald C 26 (by decide) (z := 4) (fun _ => rfl) (eu_in_vp g1) dX5_lose_15 ?_
    refine eg_if_ge C 25 dX5_lose_16 (by decide) (fun c => ?_) (fun c => ?_)
    · rw [if_pos c] at h
      refine eg_aload_n C 0 dX5_lose_25 rfl ?_
      refine gf_X5_7 C (by decide) dX5_lose_26 ?_
      refine eg_iload_n C 1 dX5_lose_29 rfl ?_
      refine eg_iconst C (-1 : Int32) dX5_lose_30 (by decide) ?_
      obtain ⟨g2, h⟩ := eu_gd_some h
      refine eg_iast C 26 (by decide) (z := 4) (fun _ => rfl) (eu_in_vp g2) dX5_lose_31 ?_
      obtain ⟨σ3, eσ3, h⟩ := eu_lt_x h
      rw [← eσ3]
      refine eg_aload_n C 0 dX5_lose_32 rfl ?_
      refine gf_X5_13 C (by decide) dX5_lose_33 ?_
      refine eg_iload_n C 1 dX5_lose_36 rfl ?_
      obtain ⟨g4, h⟩ := eu_gd_some h
      refine eg_iald C 27 (by decide) (z := 4) (fun _ => rfl) (eu_in_vp g4) dX5_lose_37 ?_
      obtain ⟨rfl, rfl⟩ := eu_inj2 h
      exact eg_iret C rfl dX5_lose_38
    · rw [if_neg c] at h
      refine eg_aload_n C 0 dX5_lose_19 rfl ?_
      refine eg_iconst C (1 : Int32) dX5_lose_20 (by decide) ?_
      obtain ⟨r5, σ6, hr5, h⟩ := eu_b2_some h
      refine eg_callI C (cw_X5_lose_X5_met_60 C) (av := [.int (1 : Int32)]) 25 (by decide) (kX5_met hr5) rfl rfl rfl rfl (st := []) rfl (Nat.le_of_ble_eq_true rfl) dX5_lose_21 ?_
      obtain ⟨rfl, rfl⟩ := eu_inj2 h
      exact eg_iret C rfl dX5_lose_24
  · rw [if_pos c] at h
    refine eg_bipush C (-2 : Int32) dX5_lose_7 (by decide) ?_
    obtain ⟨rfl, rfl⟩ := eu_inj2 h
    exact eg_iret C rfl dX5_lose_9
theorem kX5_lose {l : Launch} {σ : eu_T} {r : Int32} {σ' : eu_T} {a1 : Int32}  (h : fX5_lose σ a1 = some (r, σ')) : eu_KI l yX5_lose (Cond.code yX5_lose cX5_lose 2 (some .int) :: eu_TB) ({ frames := 2, cells := 0, slots := 0, locals := 45 } : Room) 25 12 (fun ad => [.ref (ad 25), .int a1]) σ σ' r :=
  eu_KI_of (by decide) (by decide) rfl (fun _ => Nat.le_of_ble_eq_true rfl) (fun E C => wX5_lose C h)
theorem cw_X5_lacks_X5_in_44 {E : eu_E} (C : eu_C E ({ frames := 1, cells := 0, slots := 0, locals := 25 } : Room) 25 12 4 cX5_lacks RX5 (Cond.code yX5_lacks cX5_lacks 4 (some .int) :: eu_TB) (some .int)) : CallB (eu_R E) (eu_s E) (eu_a E) RX5 44 yX5_in cX5_in 6 (some .boolean) (Cond.code yX5_in cX5_in 6 (some .boolean) :: eu_TB) ({ frames := 0, cells := 0, slots := 0, locals := 0 } : Room) 0 0 3 ∧ (Cond.static yX5_in).before (eu_a E) (eu_s E) = true := eu_cwS C tw_109 tw_110 tw_5 tw_111 rfl rfl (by decide +kernel) (by decide)
theorem cw_X5_lacks_X5_met_60 {E : eu_E} (C : eu_C E ({ frames := 1, cells := 0, slots := 0, locals := 25 } : Room) 25 12 4 cX5_lacks RX5 (Cond.code yX5_lacks cX5_lacks 4 (some .int) :: eu_TB) (some .int)) : CallW (eu_R E) (eu_s E) (eu_a E) RX5 RX5 60 yX5_met cX5_met 2 (some .int) (Cond.code yX5_met cX5_met 2 (some .int) :: eu_TB) ({ frames := 0, cells := 0, slots := 0, locals := 0 } : Room) 0 0 1 := eu_cwV C tw_203 tw_204 tw_205 tw_5 tw_206 rfl rfl (by decide +kernel) (by decide)
set_option maxHeartbeats 4000000 in
set_option maxRecDepth 100000 in
theorem wX5_lacks {E : eu_E} (C : eu_C E ({ frames := 1, cells := 0, slots := 0, locals := 25 } : Room) 25 12 4 cX5_lacks RX5 (Cond.code yX5_lacks cX5_lacks 4 (some .int) :: eu_TB) (some .int)) {σ : eu_T} {r : Int32} {σ' : eu_T} {a1 : Int32} {a2 : Int32} {a3 : Int32}  (h : fX5_lacks σ a1 a2 a3 = some (r, σ')) : eu_G E 25 12 4 (eu_QI E 25 12 σ' r) σ 0 [(0, .ref (eu_ad E 25)), (1, .int a1), (2, .int a2), (3, .int a3)] [] := by
  unfold fX5_lacks at h
  refine eg_aload_n C 0 dX5_lacks_0 rfl ?_
  refine gf_X5_7 C (by decide) dX5_lacks_1 ?_
  refine eg_iload_n C 1 dX5_lacks_4 rfl ?_
  obtain ⟨g1, h⟩ := eu_gd_some h
  refine eg_iald C 26 (by decide) (z := 4) (fun _ => rfl) (eu_in_vp g1) dX5_lacks_5 ?_
  refine eg_if_ge C 15 dX5_lacks_6 (by decide) (fun c => ?_) (fun c => ?_)
  · rw [if_pos c] at h
    refine eg_aload_n C 0 dX5_lacks_15 rfl ?_
    refine gf_X5_7 C (by decide) dX5_lacks_16 ?_
    refine eg_iload_n C 1 dX5_lacks_19 rfl ?_
    obtain ⟨g2, h⟩ := eu_gd_some h
    refine eg_iald C 26 (by decide) (z := 4) (fun _ => rfl) (eu_in_vp g2) dX5_lacks_20 ?_
    refine eg_iload_n C 2 dX5_lacks_21 rfl ?_
    refine eg_icmp_eq C 31 dX5_lacks_22 (by decide) (fun c => ?_) (fun c => ?_)
    · rw [if_pos c] at h
      refine eg_iload_n C 3 dX5_lacks_31 rfl ?_
      refine eg_i2l C dX5_lacks_32 ?_
      refine eg_lconst C (0 : Int64) dX5_lacks_33 (by decide) ?_
      refine eg_aload_n C 0 dX5_lacks_34 rfl ?_
      refine gf_X5_13 C (by decide) dX5_lacks_35 ?_
      refine eg_iload_n C 1 dX5_lacks_38 rfl ?_
      obtain ⟨g3, h⟩ := eu_gd_some h
      refine eg_iald C 27 (by decide) (z := 4) (fun _ => rfl) (eu_in_vp g3) dX5_lacks_39 ?_
      refine eg_iconst C (1 : Int32) dX5_lacks_40 (by decide) ?_
      refine eg_isub C dX5_lacks_41 ?_
      refine eg_i2l C dX5_lacks_42 ?_
      refine eg_scallI C (cw_X5_lacks_X5_in_44 C) (av := [.long a3.toInt64, .long (0 : Int64), .long (((σ 27 a1.toNatClampNeg) - (1 : Int32)).toInt64)]) (kX5_in rfl) rfl (st := []) rfl (Nat.le_of_ble_eq_true rfl) dX5_lacks_43 ?_
      refine eg_if_eq C 53 dX5_lacks_46 (by decide) (fun c => ?_) (fun c => ?_)
      · rw [if_pos c] at h
        refine eg_aload_n C 0 dX5_lacks_53 rfl ?_
        refine eg_iconst C (2 : Int32) dX5_lacks_54 (by decide) ?_
        obtain ⟨r4, σ5, hr4, h⟩ := eu_b2_some h
        refine eg_callI C (cw_X5_lacks_X5_met_60 C) (av := [.int (2 : Int32)]) 25 (by decide) (kX5_met hr4) rfl rfl rfl rfl (st := []) rfl (Nat.le_of_ble_eq_true rfl) dX5_lacks_55 ?_
        obtain ⟨rfl, rfl⟩ := eu_inj2 h
        exact eg_iret C rfl dX5_lacks_58
      · rw [if_neg c] at h
        refine eg_iconst C (0 : Int32) dX5_lacks_49 (by decide) ?_
        refine eg_goto C 58 dX5_lacks_50 (by decide) ?_
        obtain ⟨rfl, rfl⟩ := eu_inj2 h
        exact eg_iret C rfl dX5_lacks_58
    · rw [if_neg c] at h
      refine eg_aload_n C 0 dX5_lacks_25 rfl ?_
      refine eg_iconst C (3 : Int32) dX5_lacks_26 (by decide) ?_
      obtain ⟨r6, σ7, hr6, h⟩ := eu_b2_some h
      refine eg_callI C (cw_X5_lacks_X5_met_60 C) (av := [.int (3 : Int32)]) 25 (by decide) (kX5_met hr6) rfl rfl rfl rfl (st := []) rfl (Nat.le_of_ble_eq_true rfl) dX5_lacks_27 ?_
      obtain ⟨rfl, rfl⟩ := eu_inj2 h
      exact eg_iret C rfl dX5_lacks_30
  · rw [if_neg c] at h
    refine eg_aload_n C 0 dX5_lacks_9 rfl ?_
    refine eg_iconst C (1 : Int32) dX5_lacks_10 (by decide) ?_
    obtain ⟨r8, σ9, hr8, h⟩ := eu_b2_some h
    refine eg_callI C (cw_X5_lacks_X5_met_60 C) (av := [.int (1 : Int32)]) 25 (by decide) (kX5_met hr8) rfl rfl rfl rfl (st := []) rfl (Nat.le_of_ble_eq_true rfl) dX5_lacks_11 ?_
    obtain ⟨rfl, rfl⟩ := eu_inj2 h
    exact eg_iret C rfl dX5_lacks_14
theorem kX5_lacks {l : Launch} {σ : eu_T} {r : Int32} {σ' : eu_T} {a1 : Int32} {a2 : Int32} {a3 : Int32}  (h : fX5_lacks σ a1 a2 a3 = some (r, σ')) : eu_KI l yX5_lacks (Cond.code yX5_lacks cX5_lacks 4 (some .int) :: eu_TB) ({ frames := 1, cells := 0, slots := 0, locals := 25 } : Room) 25 12 (fun ad => [.ref (ad 25), .int a1, .int a2, .int a3]) σ σ' r :=
  eu_KI_of (by decide) (by decide) rfl (fun _ => Nat.le_of_ble_eq_true rfl) (fun E C => wX5_lacks C h)
set_option maxHeartbeats 4000000 in
set_option maxRecDepth 100000 in
theorem wX5_cut {E : eu_E} (C : eu_C E ({ frames := 0, cells := 0, slots := 0, locals := 0 } : Room) 25 12 2 cX5_cut RX5 (Cond.code yX5_cut cX5_cut 2 (some .int) :: eu_TB) (some .int)) {σ : eu_T} {r : Int32} {a0 : Int32} {a1 : Int32}  (h : fX5_cut a0 a1 = r) : eu_G E 25 12 2 (eu_QI E 25 12 σ r) σ 0 [(0, .int a0), (1, .int a1)] [] := by
  unfold fX5_cut at h
  refine eg_iload_n C 0 dX5_cut_0 rfl ?_
  refine eg_if_ne C 9 dX5_cut_1 (by decide) (fun c => ?_) (fun c => ?_)
  · rw [if_neg c] at h
    refine eg_iload_n C 0 dX5_cut_9 rfl ?_
    refine eg_iconst C (1 : Int32) dX5_cut_10 (by decide) ?_
    refine eg_icmp_ne C 19 dX5_cut_11 (by decide) (fun c => ?_) (fun c => ?_)
    · rw [if_neg c] at h
      refine eg_iload_n C 1 dX5_cut_19 rfl ?_
      subst h
      exact eg_iret C rfl dX5_cut_20
    · rw [if_pos c] at h
      refine eg_iload_n C 1 dX5_cut_14 rfl ?_
      refine eg_i2s C dX5_cut_15 ?_
      refine eg_goto C 20 dX5_cut_16 (by decide) ?_
      subst h
      exact eg_iret C rfl dX5_cut_20
  · rw [if_pos c] at h
    refine eg_iload_n C 1 dX5_cut_4 rfl ?_
    refine eg_i2b C dX5_cut_5 ?_
    refine eg_goto C 20 dX5_cut_6 (by decide) ?_
    subst h
    exact eg_iret C rfl dX5_cut_20
theorem kX5_cut {l : Launch} {σ : eu_T} {r : Int32} {a0 : Int32} {a1 : Int32}  (h : fX5_cut a0 a1 = r) : eu_KI l yX5_cut (Cond.code yX5_cut cX5_cut 2 (some .int) :: eu_TB) ({ frames := 0, cells := 0, slots := 0, locals := 0 } : Room) 25 12 (fun _ => [.int a0, .int a1]) σ σ r :=
  eu_KI_of (by decide) (by decide) rfl (fun _ => Nat.le_of_ble_eq_true rfl) (fun E C => wX5_cut C h)
theorem cw_X5_lay_X5_isSheet_54 {E : eu_E} (C : eu_C E ({ frames := 2, cells := 0, slots := 0, locals := 48 } : Room) 25 12 6 cX5_lay RX5 (Cond.code yX5_lay cX5_lay 6 (some .int) :: eu_TB) (some .int)) : CallB (eu_R E) (eu_s E) (eu_a E) RX5 54 yX5_isSheet cX5_isSheet 1 (some .boolean) (Cond.code yX5_isSheet cX5_isSheet 1 (some .boolean) :: eu_TB) ({ frames := 1, cells := 0, slots := 0, locals := 25 } : Room) 0 0 1 ∧ (Cond.static yX5_isSheet).before (eu_a E) (eu_s E) = true := eu_cwS C tw_199 tw_200 tw_5 tw_201 rfl rfl (by decide +kernel) (by decide)
theorem cw_X5_lay_X5_in_44 {E : eu_E} (C : eu_C E ({ frames := 2, cells := 0, slots := 0, locals := 48 } : Room) 25 12 6 cX5_lay RX5 (Cond.code yX5_lay cX5_lay 6 (some .int) :: eu_TB) (some .int)) : CallB (eu_R E) (eu_s E) (eu_a E) RX5 44 yX5_in cX5_in 6 (some .boolean) (Cond.code yX5_in cX5_in 6 (some .boolean) :: eu_TB) ({ frames := 0, cells := 0, slots := 0, locals := 0 } : Room) 0 0 3 ∧ (Cond.static yX5_in).before (eu_a E) (eu_s E) = true := eu_cwS C tw_109 tw_110 tw_5 tw_111 rfl rfl (by decide +kernel) (by decide)
theorem cw_X5_lay_X5_lacks_64 {E : eu_E} (C : eu_C E ({ frames := 2, cells := 0, slots := 0, locals := 48 } : Room) 25 12 6 cX5_lay RX5 (Cond.code yX5_lay cX5_lay 6 (some .int) :: eu_TB) (some .int)) : CallW (eu_R E) (eu_s E) (eu_a E) RX5 RX5 64 yX5_lacks cX5_lacks 4 (some .int) (Cond.code yX5_lacks cX5_lacks 4 (some .int) :: eu_TB) ({ frames := 1, cells := 0, slots := 0, locals := 25 } : Room) 0 0 3 := eu_cwV C tw_589 tw_590 tw_591 tw_5 tw_592 rfl rfl (by decide +kernel) (by decide)
theorem cw_X5_lay_X5_cut_68 {E : eu_E} (C : eu_C E ({ frames := 2, cells := 0, slots := 0, locals := 48 } : Room) 25 12 6 cX5_lay RX5 (Cond.code yX5_lay cX5_lay 6 (some .int) :: eu_TB) (some .int)) : CallB (eu_R E) (eu_s E) (eu_a E) RX5 68 yX5_cut cX5_cut 2 (some .int) (Cond.code yX5_cut cX5_cut 2 (some .int) :: eu_TB) ({ frames := 0, cells := 0, slots := 0, locals := 0 } : Room) 0 0 2 ∧ (Cond.static yX5_cut).before (eu_a E) (eu_s E) = true := eu_cwS C tw_593 tw_594 tw_5 tw_595 rfl rfl (by decide +kernel) (by decide)
set_option maxHeartbeats 4000000 in
set_option maxRecDepth 100000 in
theorem wX5_lay {E : eu_E} (C : eu_C E ({ frames := 2, cells := 0, slots := 0, locals := 48 } : Room) 25 12 6 cX5_lay RX5 (Cond.code yX5_lay cX5_lay 6 (some .int) :: eu_TB) (some .int)) {σ : eu_T} {r : Int32} {σ' : eu_T} {a1 : Int32} {a2 : Int32} {a3 : Int32} {a4 : Int32}  (h : fX5_lay σ a1 a2 a3 a4 = some (r, σ')) : eu_G E 25 12 6 (eu_QI E 25 12 σ' r) σ 0 [(0, .ref (eu_ad E 25)), (1, .int a1), (2, .int a2), (3, .int a3), (4, .int a4)] [] := by
  unfold fX5_lay at h
  refine eg_iload_n C 1 dX5_lay_0 rfl ?_
  refine eg_scallI C (cw_X5_lay_X5_isSheet_54 C) (av := [.int a1]) (kX5_isSheet rfl) rfl (st := []) rfl (Nat.le_of_ble_eq_true rfl) dX5_lay_1 ?_
  refine eg_if_eq C 19 dX5_lay_4 (by decide) (fun c => ?_) (fun c => ?_)
  · rw [if_pos c] at h
    refine eg_bipush C (-2 : Int32) dX5_lay_19 (by decide) ?_
    obtain ⟨rfl, rfl⟩ := eu_inj2 h
    exact eg_iret C rfl dX5_lay_21
  · rw [if_neg c] at h
    refine eg_iload_n C 2 dX5_lay_7 rfl ?_
    refine eg_i2l C dX5_lay_8 ?_
    refine eg_lconst C (0 : Int64) dX5_lay_9 (by decide) ?_
    refine eg_ldc2 C (2 : Int64) dX5_lay_10 (List.mem_cons_of_mem _ tw_164) ?_
    refine eg_scallI C (cw_X5_lay_X5_in_44 C) (av := [.long a2.toInt64, .long (0 : Int64), .long (2 : Int64)]) (kX5_in rfl) rfl (st := []) rfl (Nat.le_of_ble_eq_true rfl) dX5_lay_13 ?_
    refine eg_if_ne C 22 dX5_lay_16 (by decide) (fun c => ?_) (fun c => ?_)
    · rw [if_neg c] at h
      refine eg_aload_n C 0 dX5_lay_22 rfl ?_
      refine eg_iload_n C 1 dX5_lay_23 rfl ?_
      refine eg_iload_n C 2 dX5_lay_24 rfl ?_
      refine eg_iload_n C 3 dX5_lay_25 rfl ?_
      obtain ⟨r1, σ2, hr1, h⟩ := eu_b2_some h
      refine eg_callI C (cw_X5_lay_X5_lacks_64 C) (av := [.int a1, .int a2, .int a3]) 25 (by decide) (kX5_lacks hr1) rfl rfl rfl rfl (st := []) rfl (Nat.le_of_ble_eq_true rfl) dX5_lay_26 ?_
      refine eg_istore C [(5, .int r1), (0, .ref (eu_ad E 25)), (1, .int a1), (2, .int a2), (3, .int a3), (4, .int a4)] dX5_lay_29 (by decide) rfl ?_
      refine eg_iload C 0 dX5_lay_31 rfl ?_
      refine eg_if_eq C 39 dX5_lay_33 (by decide) (fun c => ?_) (fun c => ?_)
      · rw [if_pos c] at h
        refine eg_aload_n C 1 dX5_lay_39 rfl ?_
        refine gf_X5_16 C (by decide) dX5_lay_40 ?_
        refine eg_bipush C (60 : Int32) dX5_lay_43 (by decide) ?_
        refine eg_iload_n C 2 dX5_lay_45 rfl ?_
        refine eg_imul C dX5_lay_46 ?_
        refine eg_iload_n C 4 dX5_lay_47 rfl ?_
        refine eg_iadd C dX5_lay_48 ?_
        refine eg_iload_n C 3 dX5_lay_49 rfl ?_
        refine eg_iload C 5 dX5_lay_50 rfl ?_
        refine eg_scallI C (cw_X5_lay_X5_cut_68 C) (av := [.int a2, .int a4]) (kX5_cut rfl) rfl (st := [.int (((60 : Int32) * a1) + a3), .ref (eu_ad E 28)]) rfl (Nat.le_of_ble_eq_true rfl) dX5_lay_52 ?_
        obtain ⟨g3, h⟩ := eu_gd_some h
        refine eg_iast C 28 (by decide) (z := 240) (fun _ => rfl) (eu_in_vp g3) dX5_lay_55 ?_
        obtain ⟨σ4, eσ4, h⟩ := eu_lt_x h
        rw [← eσ4]
        refine eg_iconst C (1 : Int32) dX5_lay_56 (by decide) ?_
        obtain ⟨rfl, rfl⟩ := eu_inj2 h
        exact eg_iret C rfl dX5_lay_57
      · rw [if_neg c] at h
        refine eg_iload C 0 dX5_lay_36 rfl ?_
        obtain ⟨rfl, rfl⟩ := eu_inj2 h
        exact eg_iret C rfl dX5_lay_38
    · rw [if_pos c] at h
      refine eg_bipush C (-2 : Int32) dX5_lay_19 (by decide) ?_
      obtain ⟨rfl, rfl⟩ := eu_inj2 h
      exact eg_iret C rfl dX5_lay_21
theorem kX5_lay {l : Launch} {σ : eu_T} {r : Int32} {σ' : eu_T} {a1 : Int32} {a2 : Int32} {a3 : Int32} {a4 : Int32}  (h : fX5_lay σ a1 a2 a3 a4 = some (r, σ')) : eu_KI l yX5_lay (Cond.code yX5_lay cX5_lay 6 (some .int) :: eu_TB) ({ frames := 2, cells := 0, slots := 0, locals := 48 } : Room) 25 12 (fun ad => [.ref (ad 25), .int a1, .int a2, .int a3, .int a4]) σ σ' r :=
  eu_KI_of (by decide) (by decide) rfl (fun _ => Nat.le_of_ble_eq_true rfl) (fun E C => wX5_lay C h)
theorem cw_X5_get_X5_isSheet_54 {E : eu_E} (C : eu_C E ({ frames := 2, cells := 0, slots := 0, locals := 48 } : Room) 25 12 4 cX5_get RX5 (Cond.code yX5_get cX5_get 4 (some .int) :: eu_TB) (some .int)) : CallB (eu_R E) (eu_s E) (eu_a E) RX5 54 yX5_isSheet cX5_isSheet 1 (some .boolean) (Cond.code yX5_isSheet cX5_isSheet 1 (some .boolean) :: eu_TB) ({ frames := 1, cells := 0, slots := 0, locals := 25 } : Room) 0 0 1 ∧ (Cond.static yX5_isSheet).before (eu_a E) (eu_s E) = true := eu_cwS C tw_199 tw_200 tw_5 tw_201 rfl rfl (by decide +kernel) (by decide)
theorem cw_X5_get_X5_in_44 {E : eu_E} (C : eu_C E ({ frames := 2, cells := 0, slots := 0, locals := 48 } : Room) 25 12 4 cX5_get RX5 (Cond.code yX5_get cX5_get 4 (some .int) :: eu_TB) (some .int)) : CallB (eu_R E) (eu_s E) (eu_a E) RX5 44 yX5_in cX5_in 6 (some .boolean) (Cond.code yX5_in cX5_in 6 (some .boolean) :: eu_TB) ({ frames := 0, cells := 0, slots := 0, locals := 0 } : Room) 0 0 3 ∧ (Cond.static yX5_in).before (eu_a E) (eu_s E) = true := eu_cwS C tw_109 tw_110 tw_5 tw_111 rfl rfl (by decide +kernel) (by decide)
theorem cw_X5_get_X5_lacks_64 {E : eu_E} (C : eu_C E ({ frames := 2, cells := 0, slots := 0, locals := 48 } : Room) 25 12 4 cX5_get RX5 (Cond.code yX5_get cX5_get 4 (some .int) :: eu_TB) (some .int)) : CallW (eu_R E) (eu_s E) (eu_a E) RX5 RX5 64 yX5_lacks cX5_lacks 4 (some .int) (Cond.code yX5_lacks cX5_lacks 4 (some .int) :: eu_TB) ({ frames := 1, cells := 0, slots := 0, locals := 25 } : Room) 0 0 3 := eu_cwV C tw_589 tw_590 tw_591 tw_5 tw_592 rfl rfl (by decide +kernel) (by decide)
set_option maxHeartbeats 4000000 in
set_option maxRecDepth 100000 in
theorem wX5_get {E : eu_E} (C : eu_C E ({ frames := 2, cells := 0, slots := 0, locals := 48 } : Room) 25 12 4 cX5_get RX5 (Cond.code yX5_get cX5_get 4 (some .int) :: eu_TB) (some .int)) {σ : eu_T} {r : Int32} {σ' : eu_T} {a1 : Int32} {a2 : Int32} {a3 : Int32}  (h : fX5_get σ a1 a2 a3 = some (r, σ')) : eu_G E 25 12 4 (eu_QI E 25 12 σ' r) σ 0 [(0, .ref (eu_ad E 25)), (1, .int a1), (2, .int a2), (3, .int a3)] [] := by
  unfold fX5_get at h
  refine eg_iload_n C 1 dX5_get_0 rfl ?_
  refine eg_scallI C (cw_X5_get_X5_isSheet_54 C) (av := [.int a1]) (kX5_isSheet rfl) rfl (st := []) rfl (Nat.le_of_ble_eq_true rfl) dX5_get_1 ?_
  refine eg_if_eq C 29 dX5_get_4 (by decide) (fun c => ?_) (fun c => ?_)
  · rw [if_pos c] at h
    refine eg_ldc C (-2147483648 : Int32) dX5_get_29 (List.mem_cons_of_mem _ tw_605) ?_
    obtain ⟨rfl, rfl⟩ := eu_inj2 h
    exact eg_iret C rfl dX5_get_31
  · rw [if_neg c] at h
    refine eg_iload_n C 2 dX5_get_7 rfl ?_
    refine eg_i2l C dX5_get_8 ?_
    refine eg_lconst C (0 : Int64) dX5_get_9 (by decide) ?_
    refine eg_ldc2 C (2 : Int64) dX5_get_10 (List.mem_cons_of_mem _ tw_164) ?_
    refine eg_scallI C (cw_X5_get_X5_in_44 C) (av := [.long a2.toInt64, .long (0 : Int64), .long (2 : Int64)]) (kX5_in rfl) rfl (st := []) rfl (Nat.le_of_ble_eq_true rfl) dX5_get_13 ?_
    refine eg_if_eq C 29 dX5_get_16 (by decide) (fun c => ?_) (fun c => ?_)
    · rw [if_pos c] at h
      refine eg_ldc C (-2147483648 : Int32) dX5_get_29 (List.mem_cons_of_mem _ tw_605) ?_
      obtain ⟨rfl, rfl⟩ := eu_inj2 h
      exact eg_iret C rfl dX5_get_31
    · rw [if_neg c] at h
      refine eg_aload_n C 0 dX5_get_19 rfl ?_
      refine eg_iload_n C 1 dX5_get_20 rfl ?_
      refine eg_iload_n C 2 dX5_get_21 rfl ?_
      refine eg_iload_n C 3 dX5_get_22 rfl ?_
      obtain ⟨r1, σ2, hr1, h⟩ := eu_b2_some h
      refine eg_callI C (cw_X5_get_X5_lacks_64 C) (av := [.int a1, .int a2, .int a3]) 25 (by decide) (kX5_lacks hr1) rfl rfl rfl rfl (st := []) rfl (Nat.le_of_ble_eq_true rfl) dX5_get_23 ?_
      refine eg_if_eq C 32 dX5_get_26 (by decide) (fun c => ?_) (fun c => ?_)
      · rw [if_pos c] at h
        refine eg_aload_n C 0 dX5_get_32 rfl ?_
        refine gf_X5_16 C (by decide) dX5_get_33 ?_
        refine eg_bipush C (60 : Int32) dX5_get_36 (by decide) ?_
        refine eg_iload_n C 1 dX5_get_38 rfl ?_
        refine eg_imul C dX5_get_39 ?_
        refine eg_iload_n C 3 dX5_get_40 rfl ?_
        refine eg_iadd C dX5_get_41 ?_
        obtain ⟨g3, h⟩ := eu_gd_some h
        refine eg_iald C 28 (by decide) (z := 240) (fun _ => rfl) (eu_in_vp g3) dX5_get_42 ?_
        obtain ⟨rfl, rfl⟩ := eu_inj2 h
        exact eg_iret C rfl dX5_get_43
      · rw [if_neg c] at h
        refine eg_ldc C (-2147483648 : Int32) dX5_get_29 (List.mem_cons_of_mem _ tw_605) ?_
        obtain ⟨rfl, rfl⟩ := eu_inj2 h
        exact eg_iret C rfl dX5_get_31
theorem kX5_get {l : Launch} {σ : eu_T} {r : Int32} {σ' : eu_T} {a1 : Int32} {a2 : Int32} {a3 : Int32}  (h : fX5_get σ a1 a2 a3 = some (r, σ')) : eu_KI l yX5_get (Cond.code yX5_get cX5_get 4 (some .int) :: eu_TB) ({ frames := 2, cells := 0, slots := 0, locals := 48 } : Room) 25 12 (fun ad => [.ref (ad 25), .int a1, .int a2, .int a3]) σ σ' r :=
  eu_KI_of (by decide) (by decide) rfl (fun _ => Nat.le_of_ble_eq_true rfl) (fun E C => wX5_get C h)
theorem cw_X5_copy_X5_isSheet_54 {E : eu_E} (C : eu_C E ({ frames := 2, cells := 0, slots := 0, locals := 45 } : Room) 25 12 7 cX5_copy RX5 (Cond.code yX5_copy cX5_copy 7 (some .int) :: eu_TB) (some .int)) : CallB (eu_R E) (eu_s E) (eu_a E) RX5 54 yX5_isSheet cX5_isSheet 1 (some .boolean) (Cond.code yX5_isSheet cX5_isSheet 1 (some .boolean) :: eu_TB) ({ frames := 1, cells := 0, slots := 0, locals := 25 } : Room) 0 0 1 ∧ (Cond.static yX5_isSheet).before (eu_a E) (eu_s E) = true := eu_cwS C tw_199 tw_200 tw_5 tw_201 rfl rfl (by decide +kernel) (by decide)
theorem cw_X5_copy_X5_met_60 {E : eu_E} (C : eu_C E ({ frames := 2, cells := 0, slots := 0, locals := 45 } : Room) 25 12 7 cX5_copy RX5 (Cond.code yX5_copy cX5_copy 7 (some .int) :: eu_TB) (some .int)) : CallW (eu_R E) (eu_s E) (eu_a E) RX5 RX5 60 yX5_met cX5_met 2 (some .int) (Cond.code yX5_met cX5_met 2 (some .int) :: eu_TB) ({ frames := 0, cells := 0, slots := 0, locals := 0 } : Room) 0 0 1 := eu_cwV C tw_203 tw_204 tw_205 tw_5 tw_206 rfl rfl (by decide +kernel) (by decide)
set_option maxHeartbeats 4000000 in
set_option maxRecDepth 100000 in
theorem wX5_copy_J35 {E : eu_E} (C : eu_C E ({ frames := 2, cells := 0, slots := 0, locals := 45 } : Room) 25 12 7 cX5_copy RX5 (Cond.code yX5_copy cX5_copy 7 (some .int) :: eu_TB) (some .int)) {r : Int32} {σ' : eu_T}   (σ : eu_T)  (h : fX5_copy_J35  σ = some (r, σ')) : eu_G E 25 12 7 (eu_QI E 25 12 σ' r) σ 35 [(0, .ref (eu_ad E 25))] [] := by
  unfold fX5_copy_J35 at h
  refine eg_aload_n C 0 dX5_copy_35 rfl ?_
  refine eg_iconst C (1 : Int32) dX5_copy_36 (by decide) ?_
  obtain ⟨r9, σ10, hr9, h⟩ := eu_b2_some h
  refine eg_callI C (cw_X5_copy_X5_met_60 C) (av := [.int (1 : Int32)]) 25 (by decide) (kX5_met hr9) rfl rfl rfl rfl (st := []) rfl (Nat.le_of_ble_eq_true rfl) dX5_copy_37 ?_
  obtain ⟨rfl, rfl⟩ := eu_inj2 h
  exact eg_iret C rfl dX5_copy_40
set_option maxHeartbeats 4000000 in
set_option maxRecDepth 100000 in
theorem wX5_copy_J111 {E : eu_E} (C : eu_C E ({ frames := 2, cells := 0, slots := 0, locals := 45 } : Room) 25 12 7 cX5_copy RX5 (Cond.code yX5_copy cX5_copy 7 (some .int) :: eu_TB) (some .int)) {r : Int32} {σ' : eu_T}   (σ : eu_T)  (h : fX5_copy_J111  σ = some (r, σ')) : eu_G E 25 12 7 (eu_QI E 25 12 σ' r) σ 111 [(0, .ref (eu_ad E 25))] [] := by
  unfold fX5_copy_J111 at h
  refine eg_aload_n C 0 dX5_copy_111 rfl ?_
  refine eg_iconst C (2 : Int32) dX5_copy_112 (by decide) ?_
  obtain ⟨r11, σ12, hr11, h⟩ := eu_b2_some h
  refine eg_callI C (cw_X5_copy_X5_met_60 C) (av := [.int (2 : Int32)]) 25 (by decide) (kX5_met hr11) rfl rfl rfl rfl (st := []) rfl (Nat.le_of_ble_eq_true rfl) dX5_copy_113 ?_
  obtain ⟨rfl, rfl⟩ := eu_inj2 h
  exact eg_iret C rfl dX5_copy_116
set_option maxHeartbeats 4000000 in
set_option maxRecDepth 100000 in
theorem wX5_copy_L157 {E : eu_E} (C : eu_C E ({ frames := 2, cells := 0, slots := 0, locals := 45 } : Room) 25 12 7 cX5_copy RX5 (Cond.code yX5_copy cX5_copy 7 (some .int) :: eu_TB) (some .int)) {r : Int32} {σ' : eu_T}   : ∀ (n : Nat) (σ : eu_T) (v3 : Int32) (v4 : Int32) (v5 : Int32) (v6 : Int32), fX5_copy_L157 n σ v3 v4 v5 v6 = some (r, σ') → eu_G E 25 12 7 (eu_QI E 25 12 σ' r) σ 157 [(0, .ref (eu_ad E 25)), (3, .int v3), (4, .int v4), (5, .int v5), (6, .int v6)] [] := by
  intro n
  induction n with
  | zero =>
    intro σ v3 v4 v5 v6  h
    rw [fX5_copy_L157_z] at h
    cases h
  | succ n ih =>
    intro σ v3 v4 v5 v6  h
    rw [fX5_copy_L157_s] at h
    refine eg_iload C 4 dX5_copy_157 rfl ?_
    refine eg_iload C 3 dX5_copy_159 rfl ?_
    refine eg_icmp_ge C 192 dX5_copy_161 (by decide) (fun c => ?_) (fun c => ?_)
    · rw [if_pos c] at h
      refine eg_iconst C (1 : Int32) dX5_copy_192 (by decide) ?_
      obtain ⟨rfl, rfl⟩ := eu_inj2 h
      exact eg_iret C rfl dX5_copy_193
    · rw [if_neg c] at h
      refine eg_aload_n C 0 dX5_copy_164 rfl ?_
      refine gf_X5_16 C (by decide) dX5_copy_165 ?_
      refine eg_bipush C (60 : Int32) dX5_copy_168 (by decide) ?_
      refine eg_iload_n C 1 dX5_copy_170 rfl ?_
      refine eg_imul C dX5_copy_171 ?_
      refine eg_iload C 2 dX5_copy_172 rfl ?_
      refine eg_iadd C dX5_copy_174 ?_
      refine eg_iload C 4 dX5_copy_175 rfl ?_
      refine eg_iadd C dX5_copy_177 ?_
      refine eg_aload_n C 0 dX5_copy_178 rfl ?_
      refine gf_X5_19 C (by decide) dX5_copy_179 ?_
      refine eg_iload C 4 dX5_copy_182 rfl ?_
      obtain ⟨g16, h⟩ := eu_gd_some h
      refine eg_iald C 29 (by decide) (z := 60) (fun _ => rfl) (eu_in_vp g16) dX5_copy_184 ?_
      obtain ⟨g17, h⟩ := eu_gd_some h
      refine eg_iast C 28 (by decide) (z := 240) (fun _ => rfl) (eu_in_vp g17) dX5_copy_185 ?_
      obtain ⟨σ18, eσ18, h⟩ := eu_lt_x h
      rw [← eσ18]
      refine eg_iinc C 4 (v6 + (1 : Int32)) [(6, .int (v6 + (1 : Int32))), (0, .ref (eu_ad E 25)), (3, .int v3), (4, .int v4), (5, .int v5)] dX5_copy_186 rfl rfl (by decide) rfl ?_
      refine eg_goto C 157 dX5_copy_189 (by decide) ?_
      refine eg_sub C [1, 2, 3, 4, 0] rfl ?_
      exact ih _ _ _ _ _ h
set_option maxHeartbeats 4000000 in
set_option maxRecDepth 100000 in
theorem wX5_copy_L120 {E : eu_E} (C : eu_C E ({ frames := 2, cells := 0, slots := 0, locals := 45 } : Room) 25 12 7 cX5_copy RX5 (Cond.code yX5_copy cX5_copy 7 (some .int) :: eu_TB) (some .int)) {r : Int32} {σ' : eu_T}   : ∀ (n : Nat) (σ : eu_T) (v1 : Int32) (v2 : Int32) (v3 : Int32) (v4 : Int32) (v5 : Int32) (v6 : Int32), fX5_copy_L120 n σ v1 v2 v3 v4 v5 v6 = some (r, σ') → eu_G E 25 12 7 (eu_QI E 25 12 σ' r) σ 120 [(0, .ref (eu_ad E 25)), (1, .int v1), (2, .int v2), (3, .int v3), (4, .int v4), (5, .int v5), (6, .int v6)] [] := by
  intro n
  induction n with
  | zero =>
    intro σ v1 v2 v3 v4 v5 v6  h
    rw [fX5_copy_L120_z] at h
    cases h
  | succ n ih =>
    intro σ v1 v2 v3 v4 v5 v6  h
    rw [fX5_copy_L120_s] at h
    refine eg_iload C 6 dX5_copy_120 rfl ?_
    refine eg_iload C 5 dX5_copy_122 rfl ?_
    refine eg_icmp_ge C 154 dX5_copy_124 (by decide) (fun c => ?_) (fun c => ?_)
    · rw [if_pos c] at h
      refine eg_iconst C (0 : Int32) dX5_copy_154 (by decide) ?_
      refine eg_istore C [(6, .int (0 : Int32)), (0, .ref (eu_ad E 25)), (1, .int v1), (2, .int v2), (3, .int v3), (4, .int v4), (5, .int v5)] dX5_copy_155 (by decide) rfl ?_
      refine eg_sub C [1, 4, 5, 6, 0] rfl ?_
      exact wX5_copy_L157 C 200 _ _ _ _ _ h
    · rw [if_neg c] at h
      refine eg_aload_n C 0 dX5_copy_127 rfl ?_
      refine gf_X5_19 C (by decide) dX5_copy_128 ?_
      refine eg_iload C 6 dX5_copy_131 rfl ?_
      refine eg_aload_n C 0 dX5_copy_133 rfl ?_
      refine gf_X5_16 C (by decide) dX5_copy_134 ?_
      refine eg_bipush C (60 : Int32) dX5_copy_137 (by decide) ?_
      refine eg_iload_n C 1 dX5_copy_139 rfl ?_
      refine eg_imul C dX5_copy_140 ?_
      refine eg_iload_n C 2 dX5_copy_141 rfl ?_
      refine eg_iadd C dX5_copy_142 ?_
      refine eg_iload C 6 dX5_copy_143 rfl ?_
      refine eg_iadd C dX5_copy_145 ?_
      obtain ⟨g13, h⟩ := eu_gd_some h
      refine eg_iald C 28 (by decide) (z := 240) (fun _ => rfl) (eu_in_vp g13) dX5_copy_146 ?_
      obtain ⟨g14, h⟩ := eu_gd_some h
      refine eg_iast C 29 (by decide) (z := 60) (fun _ => rfl) (eu_in_vp g14) dX5_copy_147 ?_
      obtain ⟨σ15, eσ15, h⟩ := eu_lt_x h
      rw [← eσ15]
      refine eg_iinc C 6 (v6 + (1 : Int32)) [(6, .int (v6 + (1 : Int32))), (0, .ref (eu_ad E 25)), (1, .int v1), (2, .int v2), (3, .int v3), (4, .int v4), (5, .int v5)] dX5_copy_148 rfl rfl (by decide) rfl ?_
      refine eg_goto C 120 dX5_copy_151 (by decide) ?_
      refine eg_sub C [1, 2, 3, 4, 5, 6, 0] rfl ?_
      exact ih _ _ _ _ _ _ _ h
set_option maxHeartbeats 4000000 in
set_option maxRecDepth 100000 in
theorem wX5_copy {E : eu_E} (C : eu_C E ({ frames := 2, cells := 0, slots := 0, locals := 45 } : Room) 25 12 7 cX5_copy RX5 (Cond.code yX5_copy cX5_copy 7 (some .int) :: eu_TB) (some .int)) {σ : eu_T} {r : Int32} {σ' : eu_T} {a1 : Int32} {a2 : Int32} {a3 : Int32} {a4 : Int32} {a5 : Int32}  (h : fX5_copy σ a1 a2 a3 a4 a5 = some (r, σ')) : eu_G E 25 12 7 (eu_QI E 25 12 σ' r) σ 0 [(0, .ref (eu_ad E 25)), (1, .int a1), (2, .int a2), (3, .int a3), (4, .int a4), (5, .int a5)] [] := by
  unfold fX5_copy at h
  refine eg_iload_n C 1 dX5_copy_0 rfl ?_
  refine eg_scallI C (cw_X5_copy_X5_isSheet_54 C) (av := [.int a1]) (kX5_isSheet rfl) rfl (st := []) rfl (Nat.le_of_ble_eq_true rfl) dX5_copy_1 ?_
  refine eg_if_eq C 14 dX5_copy_4 (by decide) (fun c => ?_) (fun c => ?_)
  · rw [if_pos c] at h
    refine eg_bipush C (-2 : Int32) dX5_copy_14 (by decide) ?_
    obtain ⟨rfl, rfl⟩ := eu_inj2 h
    exact eg_iret C rfl dX5_copy_16
  · rw [if_neg c] at h
    refine eg_iload_n C 3 dX5_copy_7 rfl ?_
    refine eg_scallI C (cw_X5_copy_X5_isSheet_54 C) (av := [.int a3]) (kX5_isSheet rfl) rfl (st := []) rfl (Nat.le_of_ble_eq_true rfl) dX5_copy_8 ?_
    refine eg_if_ne C 17 dX5_copy_11 (by decide) (fun c => ?_) (fun c => ?_)
    · rw [if_neg c] at h
      refine eg_aload_n C 0 dX5_copy_17 rfl ?_
      refine gf_X5_7 C (by decide) dX5_copy_18 ?_
      refine eg_iload_n C 1 dX5_copy_21 rfl ?_
      obtain ⟨g1, h⟩ := eu_gd_some h
      refine eg_iald C 26 (by decide) (z := 4) (fun _ => rfl) (eu_in_vp g1) dX5_copy_22 ?_
      refine eg_if_lt C 35 dX5_copy_23 (by decide) (fun c => ?_) (fun c => ?_)
      · rw [if_pos c] at h
        refine eg_sub C [0] rfl ?_
        exact wX5_copy_J35 C _ h
      · rw [if_neg c] at h
        refine eg_aload_n C 0 dX5_copy_26 rfl ?_
        refine gf_X5_7 C (by decide) dX5_copy_27 ?_
        refine eg_iload_n C 3 dX5_copy_30 rfl ?_
        obtain ⟨g2, h⟩ := eu_gd_some h
        refine eg_iald C 26 (by decide) (z := 4) (fun _ => rfl) (eu_in_vp g2) dX5_copy_31 ?_
        refine eg_if_ge C 41 dX5_copy_32 (by decide) (fun c => ?_) (fun c => ?_)
        · rw [if_pos c] at h
          refine eg_aload_n C 0 dX5_copy_41 rfl ?_
          refine gf_X5_7 C (by decide) dX5_copy_42 ?_
          refine eg_iload_n C 1 dX5_copy_45 rfl ?_
          obtain ⟨g3, h⟩ := eu_gd_some h
          refine eg_iald C 26 (by decide) (z := 4) (fun _ => rfl) (eu_in_vp g3) dX5_copy_46 ?_
          refine eg_aload_n C 0 dX5_copy_47 rfl ?_
          refine gf_X5_7 C (by decide) dX5_copy_48 ?_
          refine eg_iload_n C 3 dX5_copy_51 rfl ?_
          obtain ⟨g4, h⟩ := eu_gd_some h
          refine eg_iald C 26 (by decide) (z := 4) (fun _ => rfl) (eu_in_vp g4) dX5_copy_52 ?_
          refine eg_icmp_eq C 62 dX5_copy_53 (by decide) (fun c => ?_) (fun c => ?_)
          · rw [if_pos c] at h
            refine eg_iload_n C 2 dX5_copy_62 rfl ?_
            refine eg_if_lt C 111 dX5_copy_63 (by decide) (fun c => ?_) (fun c => ?_)
            · rw [if_pos c] at h
              refine eg_sub C [0] rfl ?_
              exact wX5_copy_J111 C _ h
            · rw [if_neg c] at h
              refine eg_iload C 4 dX5_copy_66 rfl ?_
              refine eg_if_lt C 111 dX5_copy_68 (by decide) (fun c => ?_) (fun c => ?_)
              · rw [if_pos c] at h
                refine eg_sub C [0] rfl ?_
                exact wX5_copy_J111 C _ h
              · rw [if_neg c] at h
                refine eg_iload C 5 dX5_copy_71 rfl ?_
                refine eg_if_lt C 111 dX5_copy_73 (by decide) (fun c => ?_) (fun c => ?_)
                · rw [if_pos c] at h
                  refine eg_sub C [0] rfl ?_
                  exact wX5_copy_J111 C _ h
                · rw [if_neg c] at h
                  refine eg_iload_n C 2 dX5_copy_76 rfl ?_
                  refine eg_i2l C dX5_copy_77 ?_
                  refine eg_iload C 5 dX5_copy_78 rfl ?_
                  refine eg_i2l C dX5_copy_80 ?_
                  refine eg_ladd C dX5_copy_81 ?_
                  refine eg_aload_n C 0 dX5_copy_82 rfl ?_
                  refine gf_X5_13 C (by decide) dX5_copy_83 ?_
                  refine eg_iload_n C 1 dX5_copy_86 rfl ?_
                  obtain ⟨g5, h⟩ := eu_gd_some h
                  refine eg_iald C 27 (by decide) (z := 4) (fun _ => rfl) (eu_in_vp g5) dX5_copy_87 ?_
                  refine eg_i2l C dX5_copy_88 ?_
                  refine eg_lcmp C dX5_copy_89 ?_
                  refine eg_if_gt C 111 dX5_copy_90 (by decide) (fun c => ?_) (fun c => ?_)
                  · rw [if_pos c] at h
                    refine eg_sub C [0] rfl ?_
                    exact wX5_copy_J111 C _ h
                  · rw [if_neg c] at h
                    refine eg_iload C 4 dX5_copy_93 rfl ?_
                    refine eg_i2l C dX5_copy_95 ?_
                    refine eg_iload C 5 dX5_copy_96 rfl ?_
                    refine eg_i2l C dX5_copy_98 ?_
                    refine eg_ladd C dX5_copy_99 ?_
                    refine eg_aload_n C 0 dX5_copy_100 rfl ?_
                    refine gf_X5_13 C (by decide) dX5_copy_101 ?_
                    refine eg_iload_n C 3 dX5_copy_104 rfl ?_
                    obtain ⟨g6, h⟩ := eu_gd_some h
                    refine eg_iald C 27 (by decide) (z := 4) (fun _ => rfl) (eu_in_vp g6) dX5_copy_105 ?_
                    refine eg_i2l C dX5_copy_106 ?_
                    refine eg_lcmp C dX5_copy_107 ?_
                    refine eg_if_le C 117 dX5_copy_108 (by decide) (fun c => ?_) (fun c => ?_)
                    · rw [if_pos c] at h
                      refine eg_iconst C (0 : Int32) dX5_copy_117 (by decide) ?_
                      refine eg_istore C [(6, .int (0 : Int32)), (0, .ref (eu_ad E 25)), (1, .int a1), (2, .int a2), (3, .int a3), (4, .int a4), (5, .int a5)] dX5_copy_118 (by decide) rfl ?_
                      refine eg_sub C [1, 2, 3, 4, 5, 6, 0] rfl ?_
                      exact wX5_copy_L120 C 200 _ _ _ _ _ _ _ h
                    · rw [if_neg c] at h
                      refine eg_sub C [0] rfl ?_
                      exact wX5_copy_J111 C _ h
          · rw [if_neg c] at h
            refine eg_aload_n C 0 dX5_copy_56 rfl ?_
            refine eg_iconst C (4 : Int32) dX5_copy_57 (by decide) ?_
            obtain ⟨r7, σ8, hr7, h⟩ := eu_b2_some h
            refine eg_callI C (cw_X5_copy_X5_met_60 C) (av := [.int (4 : Int32)]) 25 (by decide) (kX5_met hr7) rfl rfl rfl rfl (st := []) rfl (Nat.le_of_ble_eq_true rfl) dX5_copy_58 ?_
            obtain ⟨rfl, rfl⟩ := eu_inj2 h
            exact eg_iret C rfl dX5_copy_61
        · rw [if_neg c] at h
          refine eg_sub C [0] rfl ?_
          exact wX5_copy_J35 C _ h
    · rw [if_pos c] at h
      refine eg_bipush C (-2 : Int32) dX5_copy_14 (by decide) ?_
      obtain ⟨rfl, rfl⟩ := eu_inj2 h
      exact eg_iret C rfl dX5_copy_16
theorem kX5_copy {l : Launch} {σ : eu_T} {r : Int32} {σ' : eu_T} {a1 : Int32} {a2 : Int32} {a3 : Int32} {a4 : Int32} {a5 : Int32}  (h : fX5_copy σ a1 a2 a3 a4 a5 = some (r, σ')) : eu_KI l yX5_copy (Cond.code yX5_copy cX5_copy 7 (some .int) :: eu_TB) ({ frames := 2, cells := 0, slots := 0, locals := 45 } : Room) 25 12 (fun ad => [.ref (ad 25), .int a1, .int a2, .int a3, .int a4, .int a5]) σ σ' r :=
  eu_KI_of (by decide) (by decide) rfl (fun _ => Nat.le_of_ble_eq_true rfl) (fun E C => wX5_copy C h)
