theorem cw_X5_read_X5_isSheet_54 {E : eu_E} (C : eu_C E ({ frames := 2, cells := 0, slots := 0, locals := 47 } : Room) 25 12 4 cX5_read RX5 (Cond.code yX5_read cX5_read 4 (some .int) :: eu_TB) (some .int)) : CallB (eu_R E) (eu_s E) (eu_a E) RX5 54 yX5_isSheet cX5_isSheet 1 (some .boolean) (Cond.code yX5_isSheet cX5_isSheet 1 (some .boolean) :: eu_TB) ({ frames := 1, cells := 0, slots := 0, locals := 25 } : Room) 0 0 1 ∧ (Cond.static yX5_isSheet).before (eu_a E) (eu_s E) = true := eu_cwS C tw_199 tw_200 tw_5 tw_201 rfl rfl (by decide +kernel) (by decide)
theorem cw_X5_read_X5_met_60 {E : eu_E} (C : eu_C E ({ frames := 2, cells := 0, slots := 0, locals := 47 } : Room) 25 12 4 cX5_read RX5 (Cond.code yX5_read cX5_read 4 (some .int) :: eu_TB) (some .int)) : CallW (eu_R E) (eu_s E) (eu_a E) RX5 RX5 60 yX5_met cX5_met 2 (some .int) (Cond.code yX5_met cX5_met 2 (some .int) :: eu_TB) ({ frames := 0, cells := 0, slots := 0, locals := 0 } : Room) 0 0 1 := eu_cwV C tw_203 tw_204 tw_205 tw_5 tw_206 rfl rfl (by decide +kernel) (by decide)
theorem cw_X5_read_X5_undoes_115 {E : eu_E} (C : eu_C E ({ frames := 2, cells := 0, slots := 0, locals := 47 } : Room) 25 12 4 cX5_read RX5 (Cond.code yX5_read cX5_read 4 (some .int) :: eu_TB) (some .int)) : CallW (eu_R E) (eu_s E) (eu_a E) RX5 RX5 115 yX5_undoes cX5_undoes 3 (some .int) (Cond.code yX5_undoes cX5_undoes 3 (some .int) :: eu_TB) ({ frames := 1, cells := 0, slots := 0, locals := 25 } : Room) 0 0 2 := eu_cwV C tw_208 tw_178 tw_179 tw_5 tw_180 rfl rfl (by decide +kernel) (by decide)
set_option maxHeartbeats 4000000 in
set_option maxRecDepth 100000 in
theorem wX5_read_J87 {E : eu_E} (C : eu_C E ({ frames := 2, cells := 0, slots := 0, locals := 47 } : Room) 25 12 4 cX5_read RX5 (Cond.code yX5_read cX5_read 4 (some .int) :: eu_TB) (some .int)) {r : Int32} {σ' : eu_T} {k29 : eu_T → Int32 → Int32 → Int32 → Option (Int32 × eu_T)} (hk_29 : ∀ (σ : eu_T) (v1 : Int32) (v2 : Int32) (v3 : Int32), k29 σ v1 v2 v3 = some (r, σ') → eu_G E 25 12 4 (eu_QI E 25 12 σ' r) σ 29 [(0, .ref (eu_ad E 25)), (1, .int v1), (2, .int v2), (3, .int v3)] []) (σ : eu_T) (v1 : Int32) (v2 : Int32) (s0 : Int32)  (h : fX5_read_J87 k29 σ v1 v2 s0 = some (r, σ')) : eu_G E 25 12 4 (eu_QI E 25 12 σ' r) σ 87 [(0, .ref (eu_ad E 25)), (1, .int v1), (2, .int v2)] [.int s0] := by
  unfold fX5_read_J87 at h
  refine eg_istore_n C [(3, .int s0), (0, .ref (eu_ad E 25)), (1, .int v1), (2, .int v2)] dX5_read_87 rfl (by decide) rfl ?_
  refine eg_iload_n C 3 dX5_read_88 rfl ?_
  refine eg_iload_n C 0 dX5_read_89 rfl ?_
  refine eg_if_eq C 97 dX5_read_90 (by decide) (fun c => ?_) (fun c => ?_)
  · rw [if_pos c] at h
    refine eg_iconst C (0 : Int32) dX5_read_97 (by decide) ?_
    refine eg_iadd C dX5_read_98 ?_
    refine eg_istore_n C [(2, .int (v2 + (0 : Int32))), (3, .int s0), (0, .ref (eu_ad E 25)), (1, .int v1)] dX5_read_99 rfl (by decide) rfl ?_
    refine eg_goto C 29 dX5_read_100 (by decide) ?_
    refine eg_sub C [2, 3, 0, 1] rfl ?_
    exact hk_29 _ _ _ _ h
  · rw [if_neg c] at h
    refine eg_iconst C (1 : Int32) dX5_read_93 (by decide) ?_
    refine eg_goto C 98 dX5_read_94 (by decide) ?_
    refine eg_iadd C dX5_read_98 ?_
    refine eg_istore_n C [(2, .int (v2 + (1 : Int32))), (3, .int s0), (0, .ref (eu_ad E 25)), (1, .int v1)] dX5_read_99 rfl (by decide) rfl ?_
    refine eg_goto C 29 dX5_read_100 (by decide) ?_
    refine eg_sub C [2, 3, 0, 1] rfl ?_
    exact hk_29 _ _ _ _ h
set_option maxHeartbeats 4000000 in
set_option maxRecDepth 100000 in
theorem wX5_read_L29 {E : eu_E} (C : eu_C E ({ frames := 2, cells := 0, slots := 0, locals := 47 } : Room) 25 12 4 cX5_read RX5 (Cond.code yX5_read cX5_read 4 (some .int) :: eu_TB) (some .int)) {r : Int32} {σ' : eu_T}   : ∀ (n : Nat) (σ : eu_T) (v1 : Int32) (v2 : Int32) (v3 : Int32), fX5_read_L29 n σ v1 v2 v3 = some (r, σ') → eu_G E 25 12 4 (eu_QI E 25 12 σ' r) σ 29 [(0, .ref (eu_ad E 25)), (1, .int v1), (2, .int v2), (3, .int v3)] [] := by
  intro n
  induction n with
  | zero =>
    intro σ v1 v2 v3  h
    rw [fX5_read_L29_z] at h
    cases h
  | succ n ih =>
    intro σ v1 v2 v3  h
    rw [fX5_read_L29_s] at h
    refine eg_iload_n C 3 dX5_read_29 rfl ?_
    refine eg_if_eq C 103 dX5_read_30 (by decide) (fun c => ?_) (fun c => ?_)
    · rw [if_pos c] at h
      refine eg_iload_n C 2 dX5_read_103 rfl ?_
      obtain ⟨rfl, rfl⟩ := eu_inj2 h
      exact eg_iret C rfl dX5_read_104
    · rw [if_neg c] at h
      refine eg_iconst C (2 : Int32) dX5_read_33 (by decide) ?_
      refine eg_iload_n C 2 dX5_read_34 rfl ?_
      refine eg_imul C dX5_read_35 ?_
      refine eg_iconst C (2 : Int32) dX5_read_36 (by decide) ?_
      refine eg_iadd C dX5_read_37 ?_
      refine eg_aload_n C 0 dX5_read_38 rfl ?_
      refine gf_X5_13 C (by decide) dX5_read_39 ?_
      refine eg_iload_n C 1 dX5_read_42 rfl ?_
      obtain ⟨g4, h⟩ := eu_gd_some h
      refine eg_iald C 27 (by decide) (z := 4) (fun _ => rfl) (eu_in_vp g4) dX5_read_43 ?_
      refine eg_icmp_gt C 103 dX5_read_44 (by decide) (fun c => ?_) (fun c => ?_)
      · rw [if_pos c] at h
        refine eg_iload_n C 2 dX5_read_103 rfl ?_
        obtain ⟨rfl, rfl⟩ := eu_inj2 h
        exact eg_iret C rfl dX5_read_104
      · rw [if_neg c] at h
        refine eg_aload_n C 0 dX5_read_47 rfl ?_
        refine eg_aload_n C 0 dX5_read_48 rfl ?_
        refine gf_X5_16 C (by decide) dX5_read_49 ?_
        refine eg_bipush C (60 : Int32) dX5_read_52 (by decide) ?_
        refine eg_iload_n C 1 dX5_read_54 rfl ?_
        refine eg_imul C dX5_read_55 ?_
        refine eg_iconst C (2 : Int32) dX5_read_56 (by decide) ?_
        refine eg_iload_n C 2 dX5_read_57 rfl ?_
        refine eg_imul C dX5_read_58 ?_
        refine eg_iadd C dX5_read_59 ?_
        obtain ⟨g5, h⟩ := eu_gd_some h
        refine eg_iald C 28 (by decide) (z := 240) (fun _ => rfl) (eu_in_vp g5) dX5_read_60 ?_
        refine eg_aload_n C 0 dX5_read_61 rfl ?_
        refine gf_X5_16 C (by decide) dX5_read_62 ?_
        refine eg_bipush C (60 : Int32) dX5_read_65 (by decide) ?_
        refine eg_iload_n C 1 dX5_read_67 rfl ?_
        refine eg_imul C dX5_read_68 ?_
        refine eg_iconst C (2 : Int32) dX5_read_69 (by decide) ?_
        refine eg_iload_n C 2 dX5_read_70 rfl ?_
        refine eg_imul C dX5_read_71 ?_
        refine eg_iadd C dX5_read_72 ?_
        refine eg_iconst C (1 : Int32) dX5_read_73 (by decide) ?_
        refine eg_iadd C dX5_read_74 ?_
        obtain ⟨g6, h⟩ := eu_gd_some h
        refine eg_iald C 28 (by decide) (z := 240) (fun _ => rfl) (eu_in_vp g6) dX5_read_75 ?_
        obtain ⟨r7, σ8, hr7, h⟩ := eu_b2_some h
        refine eg_callI C (cw_X5_read_X5_undoes_115 C) (av := [.int (σ 28 (((60 : Int32) * v1) + ((2 : Int32) * v2)).toNatClampNeg), .int (σ 28 ((((60 : Int32) * v1) + ((2 : Int32) * v2)) + (1 : Int32)).toNatClampNeg)]) 25 (by decide) (kX5_undoes hr7) rfl rfl rfl rfl (st := []) rfl (Nat.le_of_ble_eq_true rfl) dX5_read_76 ?_
        refine eg_if_lt C 86 dX5_read_79 (by decide) (fun c => ?_) (fun c => ?_)
        · rw [if_pos c] at h
          refine eg_iconst C (0 : Int32) dX5_read_86 (by decide) ?_
          refine eg_sub C [0, 1, 2] rfl ?_
          exact wX5_read_J87 C ih _ _ _ _ h
        · rw [if_neg c] at h
          refine eg_iconst C (1 : Int32) dX5_read_82 (by decide) ?_
          refine eg_goto C 87 dX5_read_83 (by decide) ?_
          refine eg_sub C [0, 1, 2] rfl ?_
          exact wX5_read_J87 C ih _ _ _ _ h
set_option maxHeartbeats 4000000 in
set_option maxRecDepth 100000 in
theorem wX5_read {E : eu_E} (C : eu_C E ({ frames := 2, cells := 0, slots := 0, locals := 47 } : Room) 25 12 4 cX5_read RX5 (Cond.code yX5_read cX5_read 4 (some .int) :: eu_TB) (some .int)) {σ : eu_T} {r : Int32} {σ' : eu_T} {a1 : Int32}  (h : fX5_read σ a1 = some (r, σ')) : eu_G E 25 12 4 (eu_QI E 25 12 σ' r) σ 0 [(0, .ref (eu_ad E 25)), (1, .int a1)] [] := by
  unfold fX5_read at h
  refine eg_iload_n C 1 dX5_read_0 rfl ?_
  refine eg_scallI C (cw_X5_read_X5_isSheet_54 C) (av := [.int a1]) (kX5_isSheet rfl) rfl (st := []) rfl (Nat.le_of_ble_eq_true rfl) dX5_read_1 ?_
  refine eg_if_ne C 10 dX5_read_4 (by decide) (fun c => ?_) (fun c => ?_)
  · rw [if_neg c] at h
    refine eg_aload_n C 0 dX5_read_10 rfl ?_
    refine gf_X5_7 C (by decide) dX5_read_11 ?_
    refine eg_iload_n C 1 dX5_read_14 rfl ?_
    obtain ⟨g1, h⟩ := eu_gd_some h
    refine eg_iald C 26 (by decide) (z := 4) (fun _ => rfl) (eu_in_vp g1) dX5_read_15 ?_
    refine eg_if_ge C 25 dX5_read_16 (by decide) (fun c => ?_) (fun c => ?_)
    · rw [if_pos c] at h
      refine eg_iconst C (0 : Int32) dX5_read_25 (by decide) ?_
      refine eg_istore_n C [(2, .int (0 : Int32)), (0, .ref (eu_ad E 25)), (1, .int a1)] dX5_read_26 rfl (by decide) rfl ?_
      refine eg_iconst C (1 : Int32) dX5_read_27 (by decide) ?_
      refine eg_istore_n C [(3, .int (1 : Int32)), (2, .int (0 : Int32)), (0, .ref (eu_ad E 25)), (1, .int a1)] dX5_read_28 rfl (by decide) rfl ?_
      refine eg_sub C [2, 3, 1, 0] rfl ?_
      exact wX5_read_L29 C 200 _ _ _ _ h
    · rw [if_neg c] at h
      refine eg_aload_n C 0 dX5_read_19 rfl ?_
      refine eg_iconst C (1 : Int32) dX5_read_20 (by decide) ?_
      obtain ⟨r2, σ3, hr2, h⟩ := eu_b2_some h
      refine eg_callI C (cw_X5_read_X5_met_60 C) (av := [.int (1 : Int32)]) 25 (by decide) (kX5_met hr2) rfl rfl rfl rfl (st := []) rfl (Nat.le_of_ble_eq_true rfl) dX5_read_21 ?_
      obtain ⟨rfl, rfl⟩ := eu_inj2 h
      exact eg_iret C rfl dX5_read_24
  · rw [if_pos c] at h
    refine eg_bipush C (-2 : Int32) dX5_read_7 (by decide) ?_
    obtain ⟨rfl, rfl⟩ := eu_inj2 h
    exact eg_iret C rfl dX5_read_9
theorem kX5_read {l : Launch} {σ : eu_T} {r : Int32} {σ' : eu_T} {a1 : Int32}  (h : fX5_read σ a1 = some (r, σ')) : eu_KI l yX5_read (Cond.code yX5_read cX5_read 4 (some .int) :: eu_TB) ({ frames := 2, cells := 0, slots := 0, locals := 47 } : Room) 25 12 (fun ad => [.ref (ad 25), .int a1]) σ σ' r :=
  eu_KI_of (by decide) (by decide) rfl (fun _ => Nat.le_of_ble_eq_true rfl) (fun E C => wX5_read C h)
set_option maxHeartbeats 4000000 in
set_option maxRecDepth 100000 in
theorem wX5_undo {E : eu_E} (C : eu_C E ({ frames := 0, cells := 0, slots := 0, locals := 0 } : Room) 25 12 1 cX5_undo RX5 (Cond.code yX5_undo cX5_undo 1 (some .int) :: eu_TB) (some .int)) {σ : eu_T} {r : Int32} {σ' : eu_T}   (h : fX5_undo σ = some (r, σ')) : eu_G E 25 12 1 (eu_QI E 25 12 σ' r) σ 0 [(0, .ref (eu_ad E 25))] [] := by
  unfold fX5_undo at h
  refine eg_aload_n C 0 dX5_undo_0 rfl ?_
  refine gf_X5_108 C (by decide) dX5_undo_1 ?_
  refine eg_if_ne C 10 dX5_undo_4 (by decide) (fun c => ?_) (fun c => ?_)
  · rw [if_neg c] at h
    refine eg_aload_n C 0 dX5_undo_10 rfl ?_
    refine eg_dup C dX5_undo_11 rfl ?_
    refine gf_X5_108 C (by decide) dX5_undo_12 ?_
    refine eg_iconst C (1 : Int32) dX5_undo_15 (by decide) ?_
    refine eg_isub C dX5_undo_16 ?_
    refine pf_X5_108 C (by decide) dX5_undo_17 ?_
    obtain ⟨σ1, eσ1, h⟩ := eu_lt_x h
    rw [← eσ1]
    refine eg_aload_n C 0 dX5_undo_20 rfl ?_
    refine gf_X5_108 C (by decide) dX5_undo_21 ?_
    obtain ⟨rfl, rfl⟩ := eu_inj2 h
    exact eg_iret C rfl dX5_undo_24
  · rw [if_pos c] at h
    refine eg_bipush C (-3 : Int32) dX5_undo_7 (by decide) ?_
    obtain ⟨rfl, rfl⟩ := eu_inj2 h
    exact eg_iret C rfl dX5_undo_9
theorem kX5_undo {l : Launch} {σ : eu_T} {r : Int32} {σ' : eu_T}   (h : fX5_undo σ = some (r, σ')) : eu_KI l yX5_undo (Cond.code yX5_undo cX5_undo 1 (some .int) :: eu_TB) ({ frames := 0, cells := 0, slots := 0, locals := 0 } : Room) 25 12 (fun ad => [.ref (ad 25)]) σ σ' r :=
  eu_KI_of (by decide) (by decide) rfl (fun _ => Nat.le_of_ble_eq_true rfl) (fun E C => wX5_undo C h)
theorem cw_X5_worth_X5_in_44 {E : eu_E} (C : eu_C E ({ frames := 1, cells := 0, slots := 0, locals := 25 } : Room) 25 12 5 cX5_worth RX5 (Cond.code yX5_worth cX5_worth 5 (some .int) :: eu_TB) (some .int)) : CallB (eu_R E) (eu_s E) (eu_a E) RX5 44 yX5_in cX5_in 6 (some .boolean) (Cond.code yX5_in cX5_in 6 (some .boolean) :: eu_TB) ({ frames := 0, cells := 0, slots := 0, locals := 0 } : Room) 0 0 3 ∧ (Cond.static yX5_in).before (eu_a E) (eu_s E) = true := eu_cwS C tw_109 tw_110 tw_5 tw_111 rfl rfl (by decide +kernel) (by decide)
set_option maxHeartbeats 4000000 in
set_option maxRecDepth 100000 in
theorem wX5_worth {E : eu_E} (C : eu_C E ({ frames := 1, cells := 0, slots := 0, locals := 25 } : Room) 25 12 5 cX5_worth RX5 (Cond.code yX5_worth cX5_worth 5 (some .int) :: eu_TB) (some .int)) {σ : eu_T} {r : Int32} {σ' : eu_T} {a1 : Int32} {a2 : Int32} {a3 : Int32}  (h : fX5_worth σ a1 a2 a3 = some (r, σ')) : eu_G E 25 12 5 (eu_QI E 25 12 σ' r) σ 0 [(0, .ref (eu_ad E 25)), (1, .int a1), (2, .int a2), (3, .int a3)] [] := by
  unfold fX5_worth at h
  refine eg_iload_n C 1 dX5_worth_0 rfl ?_
  refine eg_i2l C dX5_worth_1 ?_
  refine eg_lconst C (0 : Int64) dX5_worth_2 (by decide) ?_
  refine eg_ldc2 C (5 : Int64) dX5_worth_3 (List.mem_cons_of_mem _ tw_141) ?_
  refine eg_scallI C (cw_X5_worth_X5_in_44 C) (av := [.long a1.toInt64, .long (0 : Int64), .long (5 : Int64)]) (kX5_in rfl) rfl (st := []) rfl (Nat.le_of_ble_eq_true rfl) dX5_worth_6 ?_
  refine eg_if_eq C 38 dX5_worth_9 (by decide) (fun c => ?_) (fun c => ?_)
  · rw [if_pos c] at h
    refine eg_sipush C (-1002 : Int32) dX5_worth_38 (by decide) ?_
    obtain ⟨rfl, rfl⟩ := eu_inj2 h
    exact eg_iret C rfl dX5_worth_41
  · rw [if_neg c] at h
    refine eg_iload_n C 2 dX5_worth_12 rfl ?_
    refine eg_i2l C dX5_worth_13 ?_
    refine eg_lconst C (0 : Int64) dX5_worth_14 (by decide) ?_
    refine eg_ldc2 C (11 : Int64) dX5_worth_15 (List.mem_cons_of_mem _ tw_225) ?_
    refine eg_scallI C (cw_X5_worth_X5_in_44 C) (av := [.long a2.toInt64, .long (0 : Int64), .long (11 : Int64)]) (kX5_in rfl) rfl (st := []) rfl (Nat.le_of_ble_eq_true rfl) dX5_worth_18 ?_
    refine eg_if_eq C 38 dX5_worth_21 (by decide) (fun c => ?_) (fun c => ?_)
    · rw [if_pos c] at h
      refine eg_sipush C (-1002 : Int32) dX5_worth_38 (by decide) ?_
      obtain ⟨rfl, rfl⟩ := eu_inj2 h
      exact eg_iret C rfl dX5_worth_41
    · rw [if_neg c] at h
      refine eg_iload_n C 3 dX5_worth_24 rfl ?_
      refine eg_i2l C dX5_worth_25 ?_
      refine eg_ldc2 C (-9 : Int64) dX5_worth_26 (List.mem_cons_of_mem _ tw_226) ?_
      refine eg_ldc2 C (9 : Int64) dX5_worth_29 (List.mem_cons_of_mem _ tw_227) ?_
      refine eg_scallI C (cw_X5_worth_X5_in_44 C) (av := [.long a3.toInt64, .long (-9 : Int64), .long (9 : Int64)]) (kX5_in rfl) rfl (st := []) rfl (Nat.le_of_ble_eq_true rfl) dX5_worth_32 ?_
      refine eg_if_ne C 42 dX5_worth_35 (by decide) (fun c => ?_) (fun c => ?_)
      · rw [if_neg c] at h
        refine eg_aload_n C 0 dX5_worth_42 rfl ?_
        refine gf_X5_31 C (by decide) dX5_worth_43 ?_
        refine eg_bipush C (12 : Int32) dX5_worth_46 (by decide) ?_
        refine eg_iload_n C 1 dX5_worth_48 rfl ?_
        refine eg_imul C dX5_worth_49 ?_
        refine eg_iload_n C 2 dX5_worth_50 rfl ?_
        refine eg_iadd C dX5_worth_51 ?_
        obtain ⟨g1, h⟩ := eu_gd_some h
        refine eg_iald C 33 (by decide) (z := 72) (fun _ => rfl) (eu_in_vp g1) dX5_worth_52 ?_
        refine eg_istore C [(4, .int (σ 33 (((12 : Int32) * a1) + a2).toNatClampNeg)), (0, .ref (eu_ad E 25)), (1, .int a1), (2, .int a2), (3, .int a3)] dX5_worth_53 (by decide) rfl ?_
        refine eg_aload_n C 1 dX5_worth_55 rfl ?_
        refine gf_X5_31 C (by decide) dX5_worth_56 ?_
        refine eg_bipush C (12 : Int32) dX5_worth_59 (by decide) ?_
        refine eg_iload_n C 2 dX5_worth_61 rfl ?_
        refine eg_imul C dX5_worth_62 ?_
        refine eg_iload_n C 3 dX5_worth_63 rfl ?_
        refine eg_iadd C dX5_worth_64 ?_
        refine eg_iload_n C 4 dX5_worth_65 rfl ?_
        obtain ⟨g2, h⟩ := eu_gd_some h
        refine eg_iast C 33 (by decide) (z := 72) (fun _ => rfl) (eu_in_vp g2) dX5_worth_66 ?_
        obtain ⟨σ3, eσ3, h⟩ := eu_lt_x h
        rw [← eσ3]
        refine eg_iload C 0 dX5_worth_67 rfl ?_
        obtain ⟨rfl, rfl⟩ := eu_inj2 h
        exact eg_iret C rfl dX5_worth_69
      · rw [if_pos c] at h
        refine eg_sipush C (-1002 : Int32) dX5_worth_38 (by decide) ?_
        obtain ⟨rfl, rfl⟩ := eu_inj2 h
        exact eg_iret C rfl dX5_worth_41
theorem kX5_worth {l : Launch} {σ : eu_T} {r : Int32} {σ' : eu_T} {a1 : Int32} {a2 : Int32} {a3 : Int32}  (h : fX5_worth σ a1 a2 a3 = some (r, σ')) : eu_KI l yX5_worth (Cond.code yX5_worth cX5_worth 5 (some .int) :: eu_TB) ({ frames := 1, cells := 0, slots := 0, locals := 25 } : Room) 25 12 (fun ad => [.ref (ad 25), .int a1, .int a2, .int a3]) σ σ' r :=
  eu_KI_of (by decide) (by decide) rfl (fun _ => Nat.le_of_ble_eq_true rfl) (fun E C => wX5_worth C h)
theorem cw_X5_isLawful_X5_isIn_127 {E : eu_E} (C : eu_C E ({ frames := 1, cells := 0, slots := 0, locals := 21 } : Room) 25 12 5 cX5_isLawful RX5 (Cond.code yX5_isLawful cX5_isLawful 5 (some .boolean) :: eu_TB) (some .boolean)) : CallB (eu_R E) (eu_s E) (eu_a E) RX5 127 yX5_isIn cX5_isIn 2 (some .boolean) (Cond.code yX5_isIn cX5_isIn 2 (some .boolean) :: eu_TB) ({ frames := 0, cells := 0, slots := 0, locals := 0 } : Room) 0 0 2 ∧ (Cond.static yX5_isIn).before (eu_a E) (eu_s E) = true := eu_cwS C tw_258 tw_259 tw_5 tw_260 rfl rfl (by decide +kernel) (by decide)
set_option maxHeartbeats 4000000 in
set_option maxRecDepth 100000 in
theorem wX5_isLawful_J104 {E : eu_E} (C : eu_C E ({ frames := 1, cells := 0, slots := 0, locals := 21 } : Room) 25 12 5 cX5_isLawful RX5 (Cond.code yX5_isLawful cX5_isLawful 5 (some .boolean) :: eu_TB) (some .boolean)) {σ : eu_T} {r : Int32}     (h : fX5_isLawful_J104 σ = some r) : eu_G E 25 12 5 (eu_QI E 25 12 σ r) σ 104 [] [] := by
  unfold fX5_isLawful_J104 at h
  refine eg_iconst C (0 : Int32) dX5_isLawful_104 (by decide) ?_
  obtain rfl := Option.some.inj h
  exact eg_zret C rfl (by decide) dX5_isLawful_105
set_option maxHeartbeats 4000000 in
set_option maxRecDepth 100000 in
theorem wX5_isLawful_J63 {E : eu_E} (C : eu_C E ({ frames := 1, cells := 0, slots := 0, locals := 21 } : Room) 25 12 5 cX5_isLawful RX5 (Cond.code yX5_isLawful cX5_isLawful 5 (some .boolean) :: eu_TB) (some .boolean)) {σ : eu_T} {r : Int32}     (h : fX5_isLawful_J63 σ = some r) : eu_G E 25 12 5 (eu_QI E 25 12 σ r) σ 63 [] [] := by
  unfold fX5_isLawful_J63 at h
  refine eg_iconst C (0 : Int32) dX5_isLawful_63 (by decide) ?_
  obtain rfl := Option.some.inj h
  exact eg_zret C rfl (by decide) dX5_isLawful_64
set_option maxHeartbeats 4000000 in
set_option maxRecDepth 100000 in
theorem wX5_isLawful {E : eu_E} (C : eu_C E ({ frames := 1, cells := 0, slots := 0, locals := 21 } : Room) 25 12 5 cX5_isLawful RX5 (Cond.code yX5_isLawful cX5_isLawful 5 (some .boolean) :: eu_TB) (some .boolean)) {σ : eu_T} {r : Int32} {a1 : Int32}  (h : fX5_isLawful σ a1 = some r) : eu_G E 25 12 5 (eu_QI E 25 12 σ r) σ 0 [(0, .ref (eu_ad E 25)), (1, .int a1)] [] := by
  unfold fX5_isLawful at h
  refine eg_aload_n C 0 dX5_isLawful_0 rfl ?_
  refine gf_X5_28 C (by decide) dX5_isLawful_1 ?_
  refine eg_iconst C (2 : Int32) dX5_isLawful_4 (by decide) ?_
  refine eg_iload_n C 1 dX5_isLawful_5 rfl ?_
  refine eg_imul C dX5_isLawful_6 ?_
  obtain ⟨g1, h⟩ := eu_gd_some h
  refine eg_iald C 32 (by decide) (z := 30) (fun _ => rfl) (eu_in_vp g1) dX5_isLawful_7 ?_
  refine eg_istore_n C [(2, .int (σ 32 ((2 : Int32) * a1).toNatClampNeg)), (0, .ref (eu_ad E 25)), (1, .int a1)] dX5_isLawful_8 rfl (by decide) rfl ?_
  refine eg_aload_n C 1 dX5_isLawful_9 rfl ?_
  refine gf_X5_28 C (by decide) dX5_isLawful_10 ?_
  refine eg_iconst C (2 : Int32) dX5_isLawful_13 (by decide) ?_
  refine eg_iload_n C 2 dX5_isLawful_14 rfl ?_
  refine eg_imul C dX5_isLawful_15 ?_
  refine eg_iconst C (1 : Int32) dX5_isLawful_16 (by decide) ?_
  refine eg_iadd C dX5_isLawful_17 ?_
  obtain ⟨g2, h⟩ := eu_gd_some h
  refine eg_iald C 32 (by decide) (z := 30) (fun _ => rfl) (eu_in_vp g2) dX5_isLawful_18 ?_
  refine eg_istore_n C [(3, .int (σ 32 (((2 : Int32) * a1) + (1 : Int32)).toNatClampNeg)), (2, .int (σ 32 ((2 : Int32) * a1).toNatClampNeg)), (0, .ref (eu_ad E 25)), (1, .int a1)] dX5_isLawful_19 rfl (by decide) rfl ?_
  refine eg_aload_n C 2 dX5_isLawful_20 rfl ?_
  refine gf_X5_124 C (by decide) dX5_isLawful_21 ?_
  refine eg_iload_n C 1 dX5_isLawful_24 rfl ?_
  refine eg_scallI C (cw_X5_isLawful_X5_isIn_127 C) (av := [.int (σ 25 16), .int (σ 32 ((2 : Int32) * a1).toNatClampNeg)]) (kX5_isIn rfl) rfl (st := []) rfl (Nat.le_of_ble_eq_true rfl) dX5_isLawful_25 ?_
  refine eg_if_eq C 33 dX5_isLawful_28 (by decide) (fun c => ?_) (fun c => ?_)
  · rw [if_pos c] at h
    refine eg_iload_n C 0 dX5_isLawful_33 rfl ?_
    refine eg_bipush C (12 : Int32) dX5_isLawful_34 (by decide) ?_
    refine eg_icmp_ge C 65 dX5_isLawful_36 (by decide) (fun c => ?_) (fun c => ?_)
    · rw [if_pos c] at h
      refine eg_iload_n C 0 dX5_isLawful_65 rfl ?_
      refine eg_bipush C (12 : Int32) dX5_isLawful_66 (by decide) ?_
      refine eg_isub C dX5_isLawful_68 ?_
      obtain ⟨x3, ex3, h⟩ := eu_lt_x h
      rw [← ex3]
      refine eg_istore C [(4, .int x3), (3, .int (σ 32 (((2 : Int32) * a1) + (1 : Int32)).toNatClampNeg)), (2, .int (σ 32 ((2 : Int32) * a1).toNatClampNeg)), (0, .ref (eu_ad E 25)), (1, .int a1)] dX5_isLawful_69 (by decide) rfl ?_
      refine eg_iload C 0 dX5_isLawful_71 rfl ?_
      refine eg_iload_n C 4 dX5_isLawful_73 rfl ?_
      refine eg_icmp_ge C 104 dX5_isLawful_74 (by decide) (fun c => ?_) (fun c => ?_)
      · rw [if_pos c] at h
        refine eg_sub C [] rfl ?_
        exact wX5_isLawful_J104 C h
      · rw [if_neg c] at h
        refine eg_aload_n C 3 dX5_isLawful_77 rfl ?_
        refine gf_X5_34 C (by decide) dX5_isLawful_78 ?_
        refine eg_iload C 0 dX5_isLawful_81 rfl ?_
        obtain ⟨g4, h⟩ := eu_gd_some h
        refine eg_zald C 34 (by decide) (z := 15) (fun _ => rfl) (eu_in_vp g4) dX5_isLawful_83 ?_
        refine eg_if_eq C 104 dX5_isLawful_84 (by decide) (fun c => ?_) (fun c => ?_)
        · rw [if_pos c] at h
          refine eg_sub C [] rfl ?_
          exact wX5_isLawful_J104 C h
        · rw [if_neg c] at h
          refine eg_aload_n C 3 dX5_isLawful_87 rfl ?_
          refine gf_X5_28 C (by decide) dX5_isLawful_88 ?_
          refine eg_iconst C (2 : Int32) dX5_isLawful_91 (by decide) ?_
          refine eg_iload C 0 dX5_isLawful_92 rfl ?_
          refine eg_imul C dX5_isLawful_94 ?_
          obtain ⟨g5, h⟩ := eu_gd_some h
          refine eg_iald C 32 (by decide) (z := 30) (fun _ => rfl) (eu_in_vp g5) dX5_isLawful_95 ?_
          refine eg_iload_n C 2 dX5_isLawful_96 rfl ?_
          refine eg_icmp_eq C 104 dX5_isLawful_97 (by decide) (fun c => ?_) (fun c => ?_)
          · rw [if_pos c] at h
            refine eg_sub C [] rfl ?_
            exact wX5_isLawful_J104 C h
          · rw [if_neg c] at h
            refine eg_iconst C (1 : Int32) dX5_isLawful_100 (by decide) ?_
            refine eg_goto C 105 dX5_isLawful_101 (by decide) ?_
            obtain rfl := Option.some.inj h
            exact eg_zret C rfl (by decide) dX5_isLawful_105
    · rw [if_neg c] at h
      refine eg_iload_n C 0 dX5_isLawful_39 rfl ?_
      refine eg_aload_n C 2 dX5_isLawful_40 rfl ?_
      refine gf_X5_81 C (by decide) dX5_isLawful_41 ?_
      refine eg_icmp_ge C 63 dX5_isLawful_44 (by decide) (fun c => ?_) (fun c => ?_)
      · rw [if_pos c] at h
        refine eg_sub C [] rfl ?_
        exact wX5_isLawful_J63 C h
      · rw [if_neg c] at h
        refine eg_aload_n C 2 dX5_isLawful_47 rfl ?_
        refine gf_X5_25 C (by decide) dX5_isLawful_48 ?_
        refine eg_iconst C (3 : Int32) dX5_isLawful_51 (by decide) ?_
        refine eg_iload_n C 0 dX5_isLawful_52 rfl ?_
        refine eg_imul C dX5_isLawful_53 ?_
        obtain ⟨g6, h⟩ := eu_gd_some h
        refine eg_iald C 31 (by decide) (z := 36) (fun _ => rfl) (eu_in_vp g6) dX5_isLawful_54 ?_
        refine eg_iload_n C 1 dX5_isLawful_55 rfl ?_
        refine eg_icmp_eq C 63 dX5_isLawful_56 (by decide) (fun c => ?_) (fun c => ?_)
        · rw [if_pos c] at h
          refine eg_sub C [] rfl ?_
          exact wX5_isLawful_J63 C h
        · rw [if_neg c] at h
          refine eg_iconst C (1 : Int32) dX5_isLawful_59 (by decide) ?_
          refine eg_goto C 64 dX5_isLawful_60 (by decide) ?_
          obtain rfl := Option.some.inj h
          exact eg_zret C rfl (by decide) dX5_isLawful_64
  · rw [if_neg c] at h
    refine eg_iconst C (0 : Int32) dX5_isLawful_31 (by decide) ?_
    obtain rfl := Option.some.inj h
    exact eg_zret C rfl (by decide) dX5_isLawful_32
theorem kX5_isLawful {l : Launch} {σ : eu_T} {r : Int32} {a1 : Int32}  (h : fX5_isLawful σ a1 = some r) : eu_KI l yX5_isLawful (Cond.code yX5_isLawful cX5_isLawful 5 (some .boolean) :: eu_TB) ({ frames := 1, cells := 0, slots := 0, locals := 21 } : Room) 25 12 (fun ad => [.ref (ad 25), .int a1]) σ σ r :=
  eu_KI_of (by decide) (by decide) rfl (fun _ => Nat.le_of_ble_eq_true rfl) (fun E C => wX5_isLawful C h)
theorem cw_X5_judges_X5_isLawful_137 {E : eu_E} (C : eu_C E ({ frames := 2, cells := 0, slots := 0, locals := 45 } : Room) 25 12 4 cX5_judges RX5 (Cond.code yX5_judges cX5_judges 4 none :: eu_TB) none) : CallW (eu_R E) (eu_s E) (eu_a E) RX5 RX5 137 yX5_isLawful cX5_isLawful 5 (some .boolean) (Cond.code yX5_isLawful cX5_isLawful 5 (some .boolean) :: eu_TB) ({ frames := 1, cells := 0, slots := 0, locals := 21 } : Room) 0 0 1 := eu_cwV C tw_254 tw_255 tw_256 tw_5 tw_257 rfl rfl (by decide +kernel) (by decide)
set_option maxHeartbeats 4000000 in
set_option maxRecDepth 100000 in
theorem wX5_judges_J127 {E : eu_E} (C : eu_C E ({ frames := 2, cells := 0, slots := 0, locals := 45 } : Room) 25 12 4 cX5_judges RX5 (Cond.code yX5_judges cX5_judges 4 none :: eu_TB) none) {r : Int32} {σ' : eu_T} {k17 : eu_T → Int32 → Int32 → Int32 → Option (Int32 × eu_T)} (hk_17 : ∀ (σ : eu_T) (v1 : Int32) (v2 : Int32) (v3 : Int32), k17 σ v1 v2 v3 = some (r, σ') → eu_G E 25 12 4 (eu_QV E 25 12 σ' r) σ 17 [(0, .ref (eu_ad E 25)), (1, .int v1), (2, .int v2), (3, .int v3)] []) (σ : eu_T) (v1 : Int32) (v2 : Int32) (v3 : Int32) (s0 : Int32)  (h : fX5_judges_J127 k17 σ v1 v2 v3 s0 = some (r, σ')) : eu_G E 25 12 4 (eu_QV E 25 12 σ' r) σ 127 [(0, .ref (eu_ad E 25)), (1, .int v1), (2, .int v2), (3, .int v3)] [.int s0, .ref (eu_ad E 25)] := by
  unfold fX5_judges_J127 at h
  refine pf_X5_134 C (by decide) dX5_judges_127 ?_
  obtain ⟨σ13, eσ13, h⟩ := eu_lt_x h
  rw [← eσ13]
  refine eg_iinc C 3 (v3 + (1 : Int32)) [(3, .int (v3 + (1 : Int32))), (0, .ref (eu_ad E 25)), (1, .int v1), (2, .int v2)] dX5_judges_130 rfl rfl (by decide) rfl ?_
  refine eg_goto C 17 dX5_judges_133 (by decide) ?_
  refine eg_sub C [1, 2, 3, 0] rfl ?_
  exact hk_17 _ _ _ _ h
set_option maxHeartbeats 4000000 in
set_option maxRecDepth 100000 in
theorem wX5_judges_J123 {E : eu_E} (C : eu_C E ({ frames := 2, cells := 0, slots := 0, locals := 45 } : Room) 25 12 4 cX5_judges RX5 (Cond.code yX5_judges cX5_judges 4 none :: eu_TB) none) {r : Int32} {σ' : eu_T} {k17 : eu_T → Int32 → Int32 → Int32 → Option (Int32 × eu_T)} (hk_17 : ∀ (σ : eu_T) (v1 : Int32) (v2 : Int32) (v3 : Int32), k17 σ v1 v2 v3 = some (r, σ') → eu_G E 25 12 4 (eu_QV E 25 12 σ' r) σ 17 [(0, .ref (eu_ad E 25)), (1, .int v1), (2, .int v2), (3, .int v3)] []) (σ : eu_T) (v1 : Int32) (v2 : Int32) (v3 : Int32)  (h : fX5_judges_J123 k17 σ v1 v2 v3 = some (r, σ')) : eu_G E 25 12 4 (eu_QV E 25 12 σ' r) σ 123 [(0, .ref (eu_ad E 25)), (1, .int v1), (2, .int v2), (3, .int v3)] [.ref (eu_ad E 25)] := by
  unfold fX5_judges_J123 at h
  refine eg_aload_n C 0 dX5_judges_123 rfl ?_
  refine gf_X5_134 C (by decide) dX5_judges_124 ?_
  refine eg_sub C [0, 1, 2, 3] rfl ?_
  exact wX5_judges_J127 C hk_17 _ _ _ _ _ h
set_option maxHeartbeats 4000000 in
set_option maxRecDepth 100000 in
theorem wX5_judges_J97 {E : eu_E} (C : eu_C E ({ frames := 2, cells := 0, slots := 0, locals := 45 } : Room) 25 12 4 cX5_judges RX5 (Cond.code yX5_judges cX5_judges 4 none :: eu_TB) none) {r : Int32} {σ' : eu_T} {k17 : eu_T → Int32 → Int32 → Int32 → Option (Int32 × eu_T)} (hk_17 : ∀ (σ : eu_T) (v1 : Int32) (v2 : Int32) (v3 : Int32), k17 σ v1 v2 v3 = some (r, σ') → eu_G E 25 12 4 (eu_QV E 25 12 σ' r) σ 17 [(0, .ref (eu_ad E 25)), (1, .int v1), (2, .int v2), (3, .int v3)] []) (σ : eu_T) (v1 : Int32) (v2 : Int32) (v3 : Int32) (s0 : Int32) (s1 : Int32)  (h : fX5_judges_J97 k17 σ v1 v2 v3 s0 s1 = some (r, σ')) : eu_G E 25 12 4 (eu_QV E 25 12 σ' r) σ 97 [(0, .ref (eu_ad E 25)), (1, .int v1), (2, .int v2), (3, .int v3)] [.int s0, .int s1, .ref (eu_ad E 25)] := by
  unfold fX5_judges_J97 at h
  refine eg_iadd C dX5_judges_97 ?_
  refine pf_X5_131 C (by decide) dX5_judges_98 ?_
  obtain ⟨σ11, eσ11, h⟩ := eu_lt_x h
  rw [← eσ11]
  refine eg_aload_n C 0 dX5_judges_101 rfl ?_
  refine eg_aload_n C 0 dX5_judges_102 rfl ?_
  refine gf_X5_134 C (by decide) dX5_judges_103 ?_
  refine eg_iconst C (-1 : Int32) dX5_judges_106 (by decide) ?_
  refine eg_icmp_ne C 123 dX5_judges_107 (by decide) (fun c => ?_) (fun c => ?_)
  · rw [if_neg c] at h
    refine eg_sub C [0, 1, 2, 3] rfl ?_
    exact wX5_judges_J123 C hk_17 _ _ _ _ h
  · rw [if_pos c] at h
    refine eg_aload_n C 0 dX5_judges_110 rfl ?_
    refine gf_X5_34 C (by decide) dX5_judges_111 ?_
    refine eg_iload_n C 3 dX5_judges_114 rfl ?_
    obtain ⟨g12, h⟩ := eu_gd_some h
    refine eg_zald C 34 (by decide) (z := 15) (fun _ => rfl) (eu_in_vp g12) dX5_judges_115 ?_
    refine eg_if_ne C 123 dX5_judges_116 (by decide) (fun c => ?_) (fun c => ?_)
    · rw [if_neg c] at h
      refine eg_sub C [0, 1, 2, 3] rfl ?_
      exact wX5_judges_J123 C hk_17 _ _ _ _ h
    · rw [if_pos c] at h
      refine eg_iload_n C 3 dX5_judges_119 rfl ?_
      refine eg_goto C 127 dX5_judges_120 (by decide) ?_
      refine eg_sub C [0, 1, 2, 3] rfl ?_
      exact wX5_judges_J127 C hk_17 _ _ _ _ _ h
set_option maxHeartbeats 4000000 in
set_option maxRecDepth 100000 in
theorem wX5_judges_J74 {E : eu_E} (C : eu_C E ({ frames := 2, cells := 0, slots := 0, locals := 45 } : Room) 25 12 4 cX5_judges RX5 (Cond.code yX5_judges cX5_judges 4 none :: eu_TB) none) {r : Int32} {σ' : eu_T} {k17 : eu_T → Int32 → Int32 → Int32 → Option (Int32 × eu_T)} (hk_17 : ∀ (σ : eu_T) (v1 : Int32) (v2 : Int32) (v3 : Int32), k17 σ v1 v2 v3 = some (r, σ') → eu_G E 25 12 4 (eu_QV E 25 12 σ' r) σ 17 [(0, .ref (eu_ad E 25)), (1, .int v1), (2, .int v2), (3, .int v3)] []) (σ : eu_T) (v1 : Int32) (v2 : Int32) (v3 : Int32) (s0 : Int32) (s1 : Int32)  (h : fX5_judges_J74 k17 σ v1 v2 v3 s0 s1 = some (r, σ')) : eu_G E 25 12 4 (eu_QV E 25 12 σ' r) σ 74 [(0, .ref (eu_ad E 25)), (1, .int v1), (2, .int v2), (3, .int v3)] [.int s0, .int s1, .ref (eu_ad E 25)] := by
  unfold fX5_judges_J74 at h
  refine eg_ior C dX5_judges_74 ?_
  refine pf_X5_124 C (by decide) dX5_judges_75 ?_
  obtain ⟨σ9, eσ9, h⟩ := eu_lt_x h
  rw [← eσ9]
  refine eg_aload_n C 0 dX5_judges_78 rfl ?_
  refine eg_dup C dX5_judges_79 rfl ?_
  refine gf_X5_131 C (by decide) dX5_judges_80 ?_
  refine eg_aload_n C 0 dX5_judges_83 rfl ?_
  refine gf_X5_34 C (by decide) dX5_judges_84 ?_
  refine eg_iload_n C 3 dX5_judges_87 rfl ?_
  obtain ⟨g10, h⟩ := eu_gd_some h
  refine eg_zald C 34 (by decide) (z := 15) (fun _ => rfl) (eu_in_vp g10) dX5_judges_88 ?_
  refine eg_if_eq C 96 dX5_judges_89 (by decide) (fun c => ?_) (fun c => ?_)
  · rw [if_pos c] at h
    refine eg_iconst C (1 : Int32) dX5_judges_96 (by decide) ?_
    refine eg_sub C [0, 1, 2, 3] rfl ?_
    exact wX5_judges_J97 C hk_17 _ _ _ _ _ _ h
  · rw [if_neg c] at h
    refine eg_iconst C (0 : Int32) dX5_judges_92 (by decide) ?_
    refine eg_goto C 97 dX5_judges_93 (by decide) ?_
    refine eg_sub C [0, 1, 2, 3] rfl ?_
    exact wX5_judges_J97 C hk_17 _ _ _ _ _ _ h
set_option maxHeartbeats 4000000 in
set_option maxRecDepth 100000 in
theorem wX5_judges_J45 {E : eu_E} (C : eu_C E ({ frames := 2, cells := 0, slots := 0, locals := 45 } : Room) 25 12 4 cX5_judges RX5 (Cond.code yX5_judges cX5_judges 4 none :: eu_TB) none) {r : Int32} {σ' : eu_T} {k17 : eu_T → Int32 → Int32 → Int32 → Option (Int32 × eu_T)} (hk_17 : ∀ (σ : eu_T) (v1 : Int32) (v2 : Int32) (v3 : Int32), k17 σ v1 v2 v3 = some (r, σ') → eu_G E 25 12 4 (eu_QV E 25 12 σ' r) σ 17 [(0, .ref (eu_ad E 25)), (1, .int v1), (2, .int v2), (3, .int v3)] []) (σ : eu_T) (v1 : Int32) (v2 : Int32) (v3 : Int32) (s0 : Int32) (s1 : Int32)  (h : fX5_judges_J45 k17 σ v1 v2 v3 s0 s1 = some (r, σ')) : eu_G E 25 12 4 (eu_QV E 25 12 σ' r) σ 45 [(0, .ref (eu_ad E 25)), (1, .int v1), (2, .int v2), (3, .int v3)] [.int s0, .int s1, .ref (eu_ad E 34)] := by
  unfold fX5_judges_J45 at h
  obtain ⟨g5, h⟩ := eu_gd_some h
  refine eg_zast C 34 (by decide) (z := 15) (fun _ => rfl) g5.2 (eu_in_vp g5.1) dX5_judges_45 ?_
  obtain ⟨σ6, eσ6, h⟩ := eu_lt_x h
  rw [← eσ6]
  refine eg_aload_n C 0 dX5_judges_46 rfl ?_
  refine eg_dup C dX5_judges_47 rfl ?_
  refine gf_X5_124 C (by decide) dX5_judges_48 ?_
  refine eg_aload_n C 0 dX5_judges_51 rfl ?_
  refine gf_X5_34 C (by decide) dX5_judges_52 ?_
  refine eg_iload_n C 3 dX5_judges_55 rfl ?_
  obtain ⟨g7, h⟩ := eu_gd_some h
  refine eg_zald C 34 (by decide) (z := 15) (fun _ => rfl) (eu_in_vp g7) dX5_judges_56 ?_
  refine eg_if_eq C 73 dX5_judges_57 (by decide) (fun c => ?_) (fun c => ?_)
  · rw [if_pos c] at h
    refine eg_iconst C (0 : Int32) dX5_judges_73 (by decide) ?_
    refine eg_sub C [0, 1, 2, 3] rfl ?_
    exact wX5_judges_J74 C hk_17 _ _ _ _ _ _ h
  · rw [if_neg c] at h
    refine eg_iconst C (1 : Int32) dX5_judges_60 (by decide) ?_
    refine eg_aload_n C 0 dX5_judges_61 rfl ?_
    refine gf_X5_28 C (by decide) dX5_judges_62 ?_
    refine eg_iconst C (2 : Int32) dX5_judges_65 (by decide) ?_
    refine eg_iload_n C 3 dX5_judges_66 rfl ?_
    refine eg_imul C dX5_judges_67 ?_
    obtain ⟨g8, h⟩ := eu_gd_some h
    refine eg_iald C 32 (by decide) (z := 30) (fun _ => rfl) (eu_in_vp g8) dX5_judges_68 ?_
    refine eg_ishl C dX5_judges_69 ?_
    refine eg_goto C 74 dX5_judges_70 (by decide) ?_
    refine eg_sub C [0, 1, 2, 3] rfl ?_
    exact wX5_judges_J74 C hk_17 _ _ _ _ _ _ h
set_option maxHeartbeats 4000000 in
set_option maxRecDepth 100000 in
theorem wX5_judges_J44 {E : eu_E} (C : eu_C E ({ frames := 2, cells := 0, slots := 0, locals := 45 } : Room) 25 12 4 cX5_judges RX5 (Cond.code yX5_judges cX5_judges 4 none :: eu_TB) none) {r : Int32} {σ' : eu_T} {k17 : eu_T → Int32 → Int32 → Int32 → Option (Int32 × eu_T)} (hk_17 : ∀ (σ : eu_T) (v1 : Int32) (v2 : Int32) (v3 : Int32), k17 σ v1 v2 v3 = some (r, σ') → eu_G E 25 12 4 (eu_QV E 25 12 σ' r) σ 17 [(0, .ref (eu_ad E 25)), (1, .int v1), (2, .int v2), (3, .int v3)] []) (σ : eu_T) (v1 : Int32) (v2 : Int32) (v3 : Int32) (s0 : Int32)  (h : fX5_judges_J44 k17 σ v1 v2 v3 s0 = some (r, σ')) : eu_G E 25 12 4 (eu_QV E 25 12 σ' r) σ 44 [(0, .ref (eu_ad E 25)), (1, .int v1), (2, .int v2), (3, .int v3)] [.int s0, .ref (eu_ad E 34)] := by
  unfold fX5_judges_J44 at h
  refine eg_iconst C (0 : Int32) dX5_judges_44 (by decide) ?_
  refine eg_sub C [0, 1, 2, 3] rfl ?_
  exact wX5_judges_J45 C hk_17 _ _ _ _ _ _ h
set_option maxHeartbeats 4000000 in
set_option maxRecDepth 100000 in
theorem wX5_judges_L17 {E : eu_E} (C : eu_C E ({ frames := 2, cells := 0, slots := 0, locals := 45 } : Room) 25 12 4 cX5_judges RX5 (Cond.code yX5_judges cX5_judges 4 none :: eu_TB) none) {r : Int32} {σ' : eu_T}   : ∀ (n : Nat) (σ : eu_T) (v1 : Int32) (v2 : Int32) (v3 : Int32), fX5_judges_L17 n σ v1 v2 v3 = some (r, σ') → eu_G E 25 12 4 (eu_QV E 25 12 σ' r) σ 17 [(0, .ref (eu_ad E 25)), (1, .int v1), (2, .int v2), (3, .int v3)] [] := by
  intro n
  induction n with
  | zero =>
    intro σ v1 v2 v3  h
    rw [fX5_judges_L17_z] at h
    cases h
  | succ n ih =>
    intro σ v1 v2 v3  h
    rw [fX5_judges_L17_s] at h
    refine eg_iload_n C 3 dX5_judges_17 rfl ?_
    refine eg_iload_n C 1 dX5_judges_18 rfl ?_
    refine eg_icmp_ge C 136 dX5_judges_19 (by decide) (fun c => ?_) (fun c => ?_)
    · rw [if_pos c] at h
      obtain ⟨rfl, rfl⟩ := eu_inj2 h
      exact eg_vret C rfl _ dX5_judges_136
    · rw [if_neg c] at h
      refine eg_aload_n C 0 dX5_judges_22 rfl ?_
      refine gf_X5_34 C (by decide) dX5_judges_23 ?_
      refine eg_iload_n C 3 dX5_judges_26 rfl ?_
      refine eg_iload_n C 3 dX5_judges_27 rfl ?_
      refine eg_iload_n C 2 dX5_judges_28 rfl ?_
      refine eg_icmp_eq C 44 dX5_judges_29 (by decide) (fun c => ?_) (fun c => ?_)
      · rw [if_pos c] at h
        refine eg_sub C [0, 1, 2, 3] rfl ?_
        exact wX5_judges_J44 C ih _ _ _ _ _ h
      · rw [if_neg c] at h
        refine eg_aload_n C 0 dX5_judges_32 rfl ?_
        refine eg_iload_n C 3 dX5_judges_33 rfl ?_
        obtain ⟨r4, hr4, h⟩ := eu_bd_some h
        refine eg_callI C (cw_X5_judges_X5_isLawful_137 C) (av := [.int v3]) 25 (by decide) (kX5_isLawful hr4) rfl rfl rfl rfl (st := [.int v3, .ref (eu_ad E 34)]) rfl (Nat.le_of_ble_eq_true rfl) dX5_judges_34 ?_
        refine eg_if_eq C 44 dX5_judges_37 (by decide) (fun c => ?_) (fun c => ?_)
        · rw [if_pos c] at h
          refine eg_sub C [0, 1, 2, 3] rfl ?_
          exact wX5_judges_J44 C ih _ _ _ _ _ h
        · rw [if_neg c] at h
          refine eg_iconst C (1 : Int32) dX5_judges_40 (by decide) ?_
          refine eg_goto C 45 dX5_judges_41 (by decide) ?_
          refine eg_sub C [0, 1, 2, 3] rfl ?_
          exact wX5_judges_J45 C ih _ _ _ _ _ _ h
set_option maxHeartbeats 4000000 in
set_option maxRecDepth 100000 in
theorem wX5_judges {E : eu_E} (C : eu_C E ({ frames := 2, cells := 0, slots := 0, locals := 45 } : Room) 25 12 4 cX5_judges RX5 (Cond.code yX5_judges cX5_judges 4 none :: eu_TB) none) {σ : eu_T} {r : Int32} {σ' : eu_T} {a1 : Int32} {a2 : Int32}  (h : fX5_judges σ a1 a2 = some (r, σ')) : eu_G E 25 12 4 (eu_QV E 25 12 σ' r) σ 0 [(0, .ref (eu_ad E 25)), (1, .int a1), (2, .int a2)] [] := by
  unfold fX5_judges at h
  refine eg_aload_n C 0 dX5_judges_0 rfl ?_
  refine eg_iconst C (0 : Int32) dX5_judges_1 (by decide) ?_
  refine pf_X5_131 C (by decide) dX5_judges_2 ?_
  obtain ⟨σ1, eσ1, h⟩ := eu_lt_x h
  rw [← eσ1]
  refine eg_aload_n C 0 dX5_judges_5 rfl ?_
  refine eg_iconst C (-1 : Int32) dX5_judges_6 (by decide) ?_
  refine pf_X5_134 C (by decide) dX5_judges_7 ?_
  obtain ⟨σ2, eσ2, h⟩ := eu_lt_x h
  rw [← eσ2]
  refine eg_aload_n C 0 dX5_judges_10 rfl ?_
  refine eg_iconst C (0 : Int32) dX5_judges_11 (by decide) ?_
  refine pf_X5_124 C (by decide) dX5_judges_12 ?_
  obtain ⟨σ3, eσ3, h⟩ := eu_lt_x h
  rw [← eσ3]
  refine eg_iconst C (0 : Int32) dX5_judges_15 (by decide) ?_
  refine eg_istore_n C [(3, .int (0 : Int32)), (0, .ref (eu_ad E 25)), (1, .int a1), (2, .int a2)] dX5_judges_16 rfl (by decide) rfl ?_
  refine eg_sub C [1, 2, 3, 0] rfl ?_
  exact wX5_judges_L17 C 200 _ _ _ _ h
theorem kX5_judges {l : Launch} {σ : eu_T} {r : Int32} {σ' : eu_T} {a1 : Int32} {a2 : Int32}  (h : fX5_judges σ a1 a2 = some (r, σ')) : eu_KV l yX5_judges (Cond.code yX5_judges cX5_judges 4 none :: eu_TB) ({ frames := 2, cells := 0, slots := 0, locals := 45 } : Room) 25 12 (fun ad => [.ref (ad 25), .int a1, .int a2]) σ σ' r :=
  eu_KV_of (by decide) (by decide) rfl (fun _ => Nat.le_of_ble_eq_true rfl) (fun E C => wX5_judges C h)
theorem cw_X5_find_X5_reads_100 {E : eu_E} (C : eu_C E ({ frames := 3, cells := 0, slots := 0, locals := 69 } : Room) 25 12 1 cX5_find RX5 (Cond.code yX5_find cX5_find 1 none :: eu_TB) none) : CallW (eu_R E) (eu_s E) (eu_a E) RX5 RX5 100 yX5_reads cX5_reads 2 (some .int) (Cond.code yX5_reads cX5_reads 2 (some .int) :: eu_TB) ({ frames := 2, cells := 0, slots := 0, locals := 48 } : Room) 0 0 0 := eu_cwV C tw_131 tw_132 tw_133 tw_5 tw_134 rfl rfl (by decide +kernel) (by decide)
theorem cw_X5_find_X5_judges_140 {E : eu_E} (C : eu_C E ({ frames := 3, cells := 0, slots := 0, locals := 69 } : Room) 25 12 1 cX5_find RX5 (Cond.code yX5_find cX5_find 1 none :: eu_TB) none) : CallW (eu_R E) (eu_s E) (eu_a E) RX5 RX5 140 yX5_judges cX5_judges 4 none (Cond.code yX5_judges cX5_judges 4 none :: eu_TB) ({ frames := 2, cells := 0, slots := 0, locals := 45 } : Room) 0 0 2 := eu_cwV C tw_248 tw_249 tw_250 tw_5 tw_251 rfl rfl (by decide +kernel) (by decide)
set_option maxHeartbeats 4000000 in
set_option maxRecDepth 100000 in
theorem wX5_find {E : eu_E} (C : eu_C E ({ frames := 3, cells := 0, slots := 0, locals := 69 } : Room) 25 12 1 cX5_find RX5 (Cond.code yX5_find cX5_find 1 none :: eu_TB) none) {σ : eu_T} {r : Int32} {σ' : eu_T}   (h : fX5_find σ = some (r, σ')) : eu_G E 25 12 1 (eu_QV E 25 12 σ' r) σ 0 [(0, .ref (eu_ad E 25))] [] := by
  unfold fX5_find at h
  refine eg_aload_n C 0 dX5_find_0 rfl ?_
  obtain ⟨r1, σ2, hr1, h⟩ := eu_b2_some h
  refine eg_callI C (cw_X5_find_X5_reads_100 C) (av := []) 25 (by decide) (kX5_reads hr1) rfl rfl rfl rfl (st := []) rfl (Nat.le_of_ble_eq_true rfl) dX5_find_1 ?_
  refine eg_pop C dX5_find_4 rfl ?_
  refine eg_aload_n C 0 dX5_find_5 rfl ?_
  refine eg_aload_n C 0 dX5_find_6 rfl ?_
  refine gf_X5_108 C (by decide) dX5_find_7 ?_
  refine eg_iconst C (-1 : Int32) dX5_find_10 (by decide) ?_
  obtain ⟨r3, σ4, hr3, h⟩ := eu_b2_some h
  refine eg_callV C (cw_X5_find_X5_judges_140 C) (av := [.int (σ2 25 10), .int (-1 : Int32)]) 25 (by decide) (kX5_judges hr3) rfl rfl rfl rfl (st := []) rfl (Nat.le_of_ble_eq_true rfl) dX5_find_11 ?_
  obtain ⟨rfl, rfl⟩ := eu_inj2 h
  exact eg_vret C rfl _ dX5_find_14
theorem kX5_find {l : Launch} {σ : eu_T} {r : Int32} {σ' : eu_T}   (h : fX5_find σ = some (r, σ')) : eu_KV l yX5_find (Cond.code yX5_find cX5_find 1 none :: eu_TB) ({ frames := 3, cells := 0, slots := 0, locals := 69 } : Room) 25 12 (fun ad => [.ref (ad 25)]) σ σ' r :=
  eu_KV_of (by decide) (by decide) rfl (fun _ => Nat.le_of_ble_eq_true rfl) (fun E C => wX5_find C h)
theorem cw_X5_judged_X5_find_144 {E : eu_E} (C : eu_C E ({ frames := 4, cells := 0, slots := 0, locals := 89 } : Room) 25 12 1 cX5_judged RX5 (Cond.code yX5_judged cX5_judged 1 (some .int) :: eu_TB) (some .int)) : CallW (eu_R E) (eu_s E) (eu_a E) RX5 RX5 144 yX5_find cX5_find 1 none (Cond.code yX5_find cX5_find 1 none :: eu_TB) ({ frames := 3, cells := 0, slots := 0, locals := 69 } : Room) 0 0 0 := eu_cwV C tw_244 tw_245 tw_246 tw_5 tw_247 rfl rfl (by decide +kernel) (by decide)
set_option maxHeartbeats 4000000 in
set_option maxRecDepth 100000 in
theorem wX5_judged {E : eu_E} (C : eu_C E ({ frames := 4, cells := 0, slots := 0, locals := 89 } : Room) 25 12 1 cX5_judged RX5 (Cond.code yX5_judged cX5_judged 1 (some .int) :: eu_TB) (some .int)) {σ : eu_T} {r : Int32} {σ' : eu_T}   (h : fX5_judged σ = some (r, σ')) : eu_G E 25 12 1 (eu_QI E 25 12 σ' r) σ 0 [(0, .ref (eu_ad E 25))] [] := by
  unfold fX5_judged at h
  refine eg_aload_n C 0 dX5_judged_0 rfl ?_
  obtain ⟨r1, σ2, hr1, h⟩ := eu_b2_some h
  refine eg_callV C (cw_X5_judged_X5_find_144 C) (av := []) 25 (by decide) (kX5_find hr1) rfl rfl rfl rfl (st := []) rfl (Nat.le_of_ble_eq_true rfl) dX5_judged_1 ?_
  refine eg_aload_n C 0 dX5_judged_4 rfl ?_
  refine gf_X5_134 C (by decide) dX5_judged_5 ?_
  obtain ⟨rfl, rfl⟩ := eu_inj2 h
  exact eg_iret C rfl dX5_judged_8
theorem kX5_judged {l : Launch} {σ : eu_T} {r : Int32} {σ' : eu_T}   (h : fX5_judged σ = some (r, σ')) : eu_KI l yX5_judged (Cond.code yX5_judged cX5_judged 1 (some .int) :: eu_TB) ({ frames := 4, cells := 0, slots := 0, locals := 89 } : Room) 25 12 (fun ad => [.ref (ad 25)]) σ σ' r :=
  eu_KI_of (by decide) (by decide) rfl (fun _ => Nat.le_of_ble_eq_true rfl) (fun E C => wX5_judged C h)
theorem cw_X5_holding_X5_isIn_127 {E : eu_E} (C : eu_C E ({ frames := 1, cells := 0, slots := 0, locals := 21 } : Room) 25 12 5 cX5_holding RX5 (Cond.code yX5_holding cX5_holding 5 (some .int) :: eu_TB) (some .int)) : CallB (eu_R E) (eu_s E) (eu_a E) RX5 127 yX5_isIn cX5_isIn 2 (some .boolean) (Cond.code yX5_isIn cX5_isIn 2 (some .boolean) :: eu_TB) ({ frames := 0, cells := 0, slots := 0, locals := 0 } : Room) 0 0 2 ∧ (Cond.static yX5_isIn).before (eu_a E) (eu_s E) = true := eu_cwS C tw_258 tw_259 tw_5 tw_260 rfl rfl (by decide +kernel) (by decide)
set_option maxHeartbeats 4000000 in
set_option maxRecDepth 100000 in
theorem wX5_holding_J77 {E : eu_E} (C : eu_C E ({ frames := 1, cells := 0, slots := 0, locals := 21 } : Room) 25 12 5 cX5_holding RX5 (Cond.code yX5_holding cX5_holding 5 (some .int) :: eu_TB) (some .int)) {σ : eu_T} {r : Int32} {k9 : Int32 → Int32 → Int32 → Option Int32} (hk_9 : ∀ (v2 : Int32) (v3 : Int32) (v4 : Int32), k9 v2 v3 v4 = some r → eu_G E 25 12 5 (eu_QI E 25 12 σ r) σ 9 [(0, .ref (eu_ad E 25)), (2, .int v2), (3, .int v3), (4, .int v4)] []) (v3 : Int32) (v4 : Int32) (s0 : Int32) (s1 : Int32)  (h : fX5_holding_J77 σ k9 v3 v4 s0 s1 = some r) : eu_G E 25 12 5 (eu_QI E 25 12 σ r) σ 77 [(0, .ref (eu_ad E 25)), (3, .int v3), (4, .int v4)] [.int s0, .int s1] := by
  unfold fX5_holding_J77 at h
  refine eg_ior C dX5_holding_77 ?_
  refine eg_istore_n C [(2, .int (s1 ||| s0)), (0, .ref (eu_ad E 25)), (3, .int v3), (4, .int v4)] dX5_holding_78 rfl (by decide) rfl ?_
  refine eg_iinc C 3 (v4 + (-1 : Int32)) [(4, .int (v4 + (-1 : Int32))), (2, .int (s1 ||| s0)), (0, .ref (eu_ad E 25)), (3, .int v3)] dX5_holding_79 rfl rfl (by decide) rfl ?_
  refine eg_goto C 9 dX5_holding_82 (by decide) ?_
  refine eg_sub C [2, 1, 3, 0] rfl ?_
  exact hk_9 _ _ _ h
set_option maxHeartbeats 4000000 in
set_option maxRecDepth 100000 in
theorem wX5_holding_L9 {E : eu_E} (C : eu_C E ({ frames := 1, cells := 0, slots := 0, locals := 21 } : Room) 25 12 5 cX5_holding RX5 (Cond.code yX5_holding cX5_holding 5 (some .int) :: eu_TB) (some .int)) {σ : eu_T} {r : Int32}   : ∀ (n : Nat) (v2 : Int32) (v3 : Int32) (v4 : Int32), fX5_holding_L9 σ n v2 v3 v4 = some r → eu_G E 25 12 5 (eu_QI E 25 12 σ r) σ 9 [(0, .ref (eu_ad E 25)), (2, .int v2), (3, .int v3), (4, .int v4)] [] := by
  intro n
  induction n with
  | zero =>
    intro v2 v3 v4  h
    rw [fX5_holding_L9_z] at h
    cases h
  | succ n ih =>
    intro v2 v3 v4  h
    rw [fX5_holding_L9_s] at h
    refine eg_iload C 3 dX5_holding_9 rfl ?_
    refine eg_if_lt C 85 dX5_holding_11 (by decide) (fun c => ?_) (fun c => ?_)
    · rw [if_pos c] at h
      refine eg_iload_n C 2 dX5_holding_85 rfl ?_
      obtain rfl := Option.some.inj h
      exact eg_iret C rfl dX5_holding_86
    · rw [if_neg c] at h
      refine eg_aload_n C 0 dX5_holding_14 rfl ?_
      refine gf_X5_34 C (by decide) dX5_holding_15 ?_
      refine eg_iload C 3 dX5_holding_18 rfl ?_
      obtain ⟨g1, h⟩ := eu_gd_some h
      refine eg_zald C 34 (by decide) (z := 15) (fun _ => rfl) (eu_in_vp g1) dX5_holding_20 ?_
      refine eg_if_eq C 79 dX5_holding_21 (by decide) (fun c => ?_) (fun c => ?_)
      · rw [if_pos c] at h
        refine eg_iinc C 3 (v4 + (-1 : Int32)) [(4, .int (v4 + (-1 : Int32))), (0, .ref (eu_ad E 25)), (2, .int v2), (3, .int v3)] dX5_holding_79 rfl rfl (by decide) rfl ?_
        refine eg_goto C 9 dX5_holding_82 (by decide) ?_
        refine eg_sub C [1, 2, 3, 0] rfl ?_
        exact ih _ _ _ h
      · rw [if_neg c] at h
        refine eg_iload_n C 1 dX5_holding_24 rfl ?_
        refine eg_iload C 3 dX5_holding_25 rfl ?_
        refine eg_scallI C (cw_X5_holding_X5_isIn_127 C) (av := [.int v2, .int v4]) (kX5_isIn rfl) rfl (st := []) rfl (Nat.le_of_ble_eq_true rfl) dX5_holding_27 ?_
        refine eg_if_ne C 79 dX5_holding_30 (by decide) (fun c => ?_) (fun c => ?_)
        · rw [if_neg c] at h
          refine eg_iinc C 3 (v4 + (-1 : Int32)) [(4, .int (v4 + (-1 : Int32))), (0, .ref (eu_ad E 25)), (2, .int v2), (3, .int v3)] dX5_holding_79 rfl rfl (by decide) rfl ?_
          refine eg_goto C 9 dX5_holding_82 (by decide) ?_
          refine eg_sub C [1, 2, 3, 0] rfl ?_
          exact ih _ _ _ h
        · rw [if_pos c] at h
          refine eg_iload_n C 2 dX5_holding_33 rfl ?_
          refine eg_iconst C (1 : Int32) dX5_holding_34 (by decide) ?_
          refine eg_iload C 3 dX5_holding_35 rfl ?_
          refine eg_ishl C dX5_holding_37 ?_
          refine eg_ior C dX5_holding_38 ?_
          refine eg_istore_n C [(3, .int (v3 ||| ((1 : Int32) <<< (v4 &&& 31)))), (0, .ref (eu_ad E 25)), (2, .int v2), (4, .int v4)] dX5_holding_39 rfl (by decide) rfl ?_
          refine eg_iload_n C 2 dX5_holding_40 rfl ?_
          refine eg_aload_n C 1 dX5_holding_41 rfl ?_
          refine gf_X5_28 C (by decide) dX5_holding_42 ?_
          refine eg_iconst C (2 : Int32) dX5_holding_45 (by decide) ?_
          refine eg_iload C 3 dX5_holding_46 rfl ?_
          refine eg_imul C dX5_holding_48 ?_
          refine eg_iconst C (1 : Int32) dX5_holding_49 (by decide) ?_
          refine eg_iadd C dX5_holding_50 ?_
          obtain ⟨g2, h⟩ := eu_gd_some h
          refine eg_iald C 32 (by decide) (z := 30) (fun _ => rfl) (eu_in_vp g2) dX5_holding_51 ?_
          refine eg_bipush C (12 : Int32) dX5_holding_52 (by decide) ?_
          refine eg_icmp_ge C 61 dX5_holding_54 (by decide) (fun c => ?_) (fun c => ?_)
          · rw [if_pos c] at h
            refine eg_iconst C (1 : Int32) dX5_holding_61 (by decide) ?_
            refine eg_aload_n C 1 dX5_holding_62 rfl ?_
            refine gf_X5_28 C (by decide) dX5_holding_63 ?_
            refine eg_iconst C (2 : Int32) dX5_holding_66 (by decide) ?_
            refine eg_iload C 3 dX5_holding_67 rfl ?_
            refine eg_imul C dX5_holding_69 ?_
            refine eg_iconst C (1 : Int32) dX5_holding_70 (by decide) ?_
            refine eg_iadd C dX5_holding_71 ?_
            obtain ⟨g3, h⟩ := eu_gd_some h
            refine eg_iald C 32 (by decide) (z := 30) (fun _ => rfl) (eu_in_vp g3) dX5_holding_72 ?_
            refine eg_bipush C (12 : Int32) dX5_holding_73 (by decide) ?_
            refine eg_isub C dX5_holding_75 ?_
            refine eg_ishl C dX5_holding_76 ?_
            refine eg_sub C [1, 0, 3] rfl ?_
            exact wX5_holding_J77 C ih _ _ _ _ h
          · rw [if_neg c] at h
            refine eg_iconst C (0 : Int32) dX5_holding_57 (by decide) ?_
            refine eg_goto C 77 dX5_holding_58 (by decide) ?_
            refine eg_sub C [1, 0, 3] rfl ?_
            exact wX5_holding_J77 C ih _ _ _ _ h
set_option maxHeartbeats 4000000 in
set_option maxRecDepth 100000 in
theorem wX5_holding {E : eu_E} (C : eu_C E ({ frames := 1, cells := 0, slots := 0, locals := 21 } : Room) 25 12 5 cX5_holding RX5 (Cond.code yX5_holding cX5_holding 5 (some .int) :: eu_TB) (some .int)) {σ : eu_T} {r : Int32} {a1 : Int32}  (h : fX5_holding σ a1 = some r) : eu_G E 25 12 5 (eu_QI E 25 12 σ r) σ 0 [(0, .ref (eu_ad E 25)), (1, .int a1)] [] := by
  unfold fX5_holding at h
  refine eg_iconst C (0 : Int32) dX5_holding_0 (by decide) ?_
  refine eg_istore_n C [(2, .int (0 : Int32)), (0, .ref (eu_ad E 25)), (1, .int a1)] dX5_holding_1 rfl (by decide) rfl ?_
  refine eg_iconst C (0 : Int32) dX5_holding_2 (by decide) ?_
  refine eg_istore_n C [(3, .int (0 : Int32)), (2, .int (0 : Int32)), (0, .ref (eu_ad E 25)), (1, .int a1)] dX5_holding_3 rfl (by decide) rfl ?_
  refine eg_iload_n C 3 dX5_holding_4 rfl ?_
  refine eg_iconst C (1 : Int32) dX5_holding_5 (by decide) ?_
  refine eg_isub C dX5_holding_6 ?_
  refine eg_istore C [(4, .int (a1 - (1 : Int32))), (3, .int (0 : Int32)), (2, .int (0 : Int32)), (0, .ref (eu_ad E 25)), (1, .int a1)] dX5_holding_7 (by decide) rfl ?_
  refine eg_sub C [3, 2, 1, 0] rfl ?_
  exact wX5_holding_L9 C 200 _ _ _ h
theorem kX5_holding {l : Launch} {σ : eu_T} {r : Int32} {a1 : Int32}  (h : fX5_holding σ a1 = some r) : eu_KI l yX5_holding (Cond.code yX5_holding cX5_holding 5 (some .int) :: eu_TB) ({ frames := 1, cells := 0, slots := 0, locals := 21 } : Room) 25 12 (fun ad => [.ref (ad 25), .int a1]) σ σ r :=
  eu_KI_of (by decide) (by decide) rfl (fun _ => Nat.le_of_ble_eq_true rfl) (fun E C => wX5_holding C h)
