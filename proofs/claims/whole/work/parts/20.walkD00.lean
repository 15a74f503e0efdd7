set_option maxHeartbeats 4000000 in
set_option maxRecDepth 100000 in
theorem wX4_isBelow_J13 {E : eu_E} (C : eu_C E ({ frames := 0, cells := 0, slots := 0, locals := 0 } : Room) 0 25 2 cX4_isBelow RX4 (Cond.code yX4_isBelow cX4_isBelow 2 (some .boolean) :: eu_TB) (some .boolean)) {σ : eu_T} {r : Int32}     (h : fX4_isBelow_J13 = r) : eu_G E 0 25 2 (eu_QI E 0 25 σ r) σ 13 [] [] := by
  unfold fX4_isBelow_J13 at h
  refine eg_iconst C (0 : Int32) dX4_isBelow_13 (by decide) ?_
  subst h
  exact eg_zret C rfl (by decide) dX4_isBelow_14
set_option maxHeartbeats 4000000 in
set_option maxRecDepth 100000 in
theorem wX4_isBelow {E : eu_E} (C : eu_C E ({ frames := 0, cells := 0, slots := 0, locals := 0 } : Room) 0 25 2 cX4_isBelow RX4 (Cond.code yX4_isBelow cX4_isBelow 2 (some .boolean) :: eu_TB) (some .boolean)) {σ : eu_T} {r : Int32} {a0 : Int32} {a1 : Int32}  (h : fX4_isBelow a0 a1 = r) : eu_G E 0 25 2 (eu_QI E 0 25 σ r) σ 0 [(0, .int a0), (1, .int a1)] [] := by
  unfold fX4_isBelow at h
  refine eg_iload_n C 0 dX4_isBelow_0 rfl ?_
  refine eg_if_lt C 13 dX4_isBelow_1 (by decide) (fun c => ?_) (fun c => ?_)
  · rw [if_pos c] at h
    refine eg_sub C [] rfl ?_
    exact wX4_isBelow_J13 C h
  · rw [if_neg c] at h
    refine eg_iload_n C 0 dX4_isBelow_4 rfl ?_
    refine eg_iload_n C 1 dX4_isBelow_5 rfl ?_
    refine eg_icmp_ge C 13 dX4_isBelow_6 (by decide) (fun c => ?_) (fun c => ?_)
    · rw [if_pos c] at h
      refine eg_sub C [] rfl ?_
      exact wX4_isBelow_J13 C h
    · rw [if_neg c] at h
      refine eg_iconst C (1 : Int32) dX4_isBelow_9 (by decide) ?_
      refine eg_goto C 14 dX4_isBelow_10 (by decide) ?_
      subst h
      exact eg_zret C rfl (by decide) dX4_isBelow_14
theorem kX4_isBelow {l : Launch} {σ : eu_T} {r : Int32} {a0 : Int32} {a1 : Int32}  (h : fX4_isBelow a0 a1 = r) : eu_KI l yX4_isBelow (Cond.code yX4_isBelow cX4_isBelow 2 (some .boolean) :: eu_TB) ({ frames := 0, cells := 0, slots := 0, locals := 0 } : Room) 0 25 (fun _ => [.int a0, .int a1]) σ σ r :=
  eu_KI_of (by decide) (by decide) rfl (fun _ => Nat.le_of_ble_eq_true rfl) (fun E C => wX4_isBelow C h)
theorem cw_X0_begin_X4_isBelow_45 {E : eu_E} (C : eu_C E ({ frames := 1, cells := 0, slots := 0, locals := 21 } : Room) 0 25 3 cX0_begin RX0 (Cond.code yX0_begin cX0_begin 3 (some .int) :: eu_TB) (some .int)) : va_CN (eu_R E) (eu_s E) (eu_a E) RX0 45 yX4_isBelow "EachUndoes" cX4_isBelow 2 (some .boolean) (Cond.code yX4_isBelow cX4_isBelow 2 (some .boolean) :: eu_TB) ({ frames := 0, cells := 0, slots := 0, locals := 0 } : Room) 0 0 2 ∧ (Cond.static yX4_isBelow).before (eu_a E) (eu_s E) = true ∧ True := eu_cnS C (List.mem_of_getElem? (i := 27) rfl) tw_76 tw_2 tw_77 rfl rfl (by decide +kernel) (by decide)
set_option maxHeartbeats 4000000 in
set_option maxRecDepth 100000 in
theorem wX0_begin {E : eu_E} (C : eu_C E ({ frames := 1, cells := 0, slots := 0, locals := 21 } : Room) 0 25 3 cX0_begin RX0 (Cond.code yX0_begin cX0_begin 3 (some .int) :: eu_TB) (some .int)) {σ : eu_T} {r : Int32} {σ' : eu_T} {a1 : Int32}  (h : fX0_begin σ a1 = some (r, σ')) : eu_G E 0 25 3 (eu_QI E 0 25 σ' r) σ 0 [(0, .ref (eu_ad E 3)), (1, .int a1)] [] := by
  unfold fX0_begin at h
  refine eg_iload_n C 1 dX0_begin_0 rfl ?_
  refine eg_bipush C (48 : Int32) dX0_begin_1 (by decide) ?_
  refine eg_isub C dX0_begin_3 ?_
  refine eg_istore_n C [(2, .int (a1 - (48 : Int32))), (0, .ref (eu_ad E 3)), (1, .int a1)] dX0_begin_4 rfl (by decide) rfl ?_
  refine eg_aload_n C 1 dX0_begin_5 rfl ?_
  refine gf_X0_31 C (by decide) dX0_begin_6 ?_
  refine eg_bipush C (12 : Int32) dX0_begin_9 (by decide) ?_
  refine eg_icmp_ge C 23 dX0_begin_11 (by decide) (fun c => ?_) (fun c => ?_)
  · rw [if_pos c] at h
    refine eg_iconst C (3 : Int32) dX0_begin_23 (by decide) ?_
    obtain ⟨rfl, rfl⟩ := eu_inj2 h
    exact eg_iret C rfl dX0_begin_24
  · rw [if_neg c] at h
    refine eg_iload_n C 0 dX0_begin_14 rfl ?_
    refine eg_bipush C (6 : Int32) dX0_begin_15 (by decide) ?_
    refine eg_scallNI C (cw_X0_begin_X4_isBelow_45 C) (av := [.int (a1 - (48 : Int32)), .int (6 : Int32)]) (kX4_isBelow rfl) rfl (st := []) rfl (Nat.le_of_ble_eq_true rfl) dX0_begin_17 ?_
    refine eg_if_ne C 25 dX0_begin_20 (by decide) (fun c => ?_) (fun c => ?_)
    · rw [if_neg c] at h
      refine eg_aload_n C 1 dX0_begin_25 rfl ?_
      refine gf_X0_15 C (by decide) dX0_begin_26 ?_
      refine eg_aload_n C 1 dX0_begin_29 rfl ?_
      refine gf_X0_31 C (by decide) dX0_begin_30 ?_
      refine eg_iload_n C 0 dX0_begin_33 rfl ?_
      obtain ⟨g1, h⟩ := eu_gd_some h
      refine eg_iast C 7 (by decide) (z := 12) (fun _ => rfl) (eu_in_vp g1) dX0_begin_34 ?_
      obtain ⟨σ2, eσ2, h⟩ := eu_lt_x h
      rw [← eσ2]
      refine eg_aload_n C 1 dX0_begin_35 rfl ?_
      refine gf_X0_18 C (by decide) dX0_begin_36 ?_
      refine eg_aload_n C 1 dX0_begin_39 rfl ?_
      refine gf_X0_31 C (by decide) dX0_begin_40 ?_
      refine eg_iconst C (0 : Int32) dX0_begin_43 (by decide) ?_
      obtain ⟨g3, h⟩ := eu_gd_some h
      refine eg_iast C 8 (by decide) (z := 12) (fun _ => rfl) (eu_in_vp g3) dX0_begin_44 ?_
      obtain ⟨σ4, eσ4, h⟩ := eu_lt_x h
      rw [← eσ4]
      refine eg_aload_n C 1 dX0_begin_45 rfl ?_
      refine eg_dup C dX0_begin_46 rfl ?_
      refine gf_X0_31 C (by decide) dX0_begin_47 ?_
      refine eg_iconst C (1 : Int32) dX0_begin_50 (by decide) ?_
      refine eg_iadd C dX0_begin_51 ?_
      refine pf_X0_31 C (by decide) dX0_begin_52 ?_
      obtain ⟨σ5, eσ5, h⟩ := eu_lt_x h
      rw [← eσ5]
      refine eg_iconst C (1 : Int32) dX0_begin_55 (by decide) ?_
      obtain ⟨rfl, rfl⟩ := eu_inj2 h
      exact eg_iret C rfl dX0_begin_56
    · rw [if_pos c] at h
      refine eg_iconst C (3 : Int32) dX0_begin_23 (by decide) ?_
      obtain ⟨rfl, rfl⟩ := eu_inj2 h
      exact eg_iret C rfl dX0_begin_24
theorem kX0_begin {l : Launch} {σ : eu_T} {r : Int32} {σ' : eu_T} {a1 : Int32}  (h : fX0_begin σ a1 = some (r, σ')) : eu_KI l yX0_begin (Cond.code yX0_begin cX0_begin 3 (some .int) :: eu_TB) ({ frames := 1, cells := 0, slots := 0, locals := 21 } : Room) 0 25 (fun ad => [.ref (ad 3), .int a1]) σ σ' r :=
  eu_KI_of (by decide) (by decide) rfl (fun _ => Nat.le_of_ble_eq_true rfl) (fun E C => wX0_begin C h)
set_option maxHeartbeats 4000000 in
set_option maxRecDepth 100000 in
theorem wJ6_bitCount_0f7a4 {E : eu_E} (C : eu_C E ({ frames := 0, cells := 0, slots := 0, locals := 0 } : Room) 0 25 1 cJ6_bitCount_0f7a4 RJ6 (Cond.code yJ6_bitCount_0f7a4 cJ6_bitCount_0f7a4 1 (some .int) :: eu_TB) (some .int)) {σ : eu_T} {r : Int32} {a0 : Int32}  (h : fJ6_bitCount_0f7a4 a0 = r) : eu_G E 0 25 1 (eu_QI E 0 25 σ r) σ 0 [(0, .int a0)] [] := by
  unfold fJ6_bitCount_0f7a4 at h
  refine eg_iload_n C 0 dJ6_bitCount_0f7a4_0 rfl ?_
  refine eg_iload_n C 0 dJ6_bitCount_0f7a4_1 rfl ?_
  refine eg_iconst C (1 : Int32) dJ6_bitCount_0f7a4_2 (by decide) ?_
  refine eg_iushr C dJ6_bitCount_0f7a4_3 ?_
  refine eg_ldcw C (1431655765 : Int32) dJ6_bitCount_0f7a4_4 (List.mem_cons_of_mem _ tw_100) ?_
  refine eg_iand C dJ6_bitCount_0f7a4_7 ?_
  refine eg_isub C dJ6_bitCount_0f7a4_8 ?_
  obtain ⟨x1, ex1, h⟩ := eu_lt_x h
  rw [← ex1]
  refine eg_istore_n C [(0, .int x1)] dJ6_bitCount_0f7a4_9 rfl (by decide) rfl ?_
  refine eg_iload_n C 0 dJ6_bitCount_0f7a4_10 rfl ?_
  refine eg_ldcw C (858993459 : Int32) dJ6_bitCount_0f7a4_11 (List.mem_cons_of_mem _ tw_101) ?_
  refine eg_iand C dJ6_bitCount_0f7a4_14 ?_
  refine eg_iload_n C 0 dJ6_bitCount_0f7a4_15 rfl ?_
  refine eg_iconst C (2 : Int32) dJ6_bitCount_0f7a4_16 (by decide) ?_
  refine eg_iushr C dJ6_bitCount_0f7a4_17 ?_
  refine eg_ldcw C (858993459 : Int32) dJ6_bitCount_0f7a4_18 (List.mem_cons_of_mem _ tw_101) ?_
  refine eg_iand C dJ6_bitCount_0f7a4_21 ?_
  refine eg_iadd C dJ6_bitCount_0f7a4_22 ?_
  obtain ⟨x2, ex2, h⟩ := eu_lt_x h
  rw [← ex2]
  refine eg_istore_n C [(0, .int x2)] dJ6_bitCount_0f7a4_23 rfl (by decide) rfl ?_
  refine eg_iload_n C 0 dJ6_bitCount_0f7a4_24 rfl ?_
  refine eg_iload_n C 0 dJ6_bitCount_0f7a4_25 rfl ?_
  refine eg_iconst C (4 : Int32) dJ6_bitCount_0f7a4_26 (by decide) ?_
  refine eg_iushr C dJ6_bitCount_0f7a4_27 ?_
  refine eg_iadd C dJ6_bitCount_0f7a4_28 ?_
  refine eg_ldcw C (252645135 : Int32) dJ6_bitCount_0f7a4_29 (List.mem_cons_of_mem _ tw_102) ?_
  refine eg_iand C dJ6_bitCount_0f7a4_32 ?_
  obtain ⟨x3, ex3, h⟩ := eu_lt_x h
  rw [← ex3]
  refine eg_istore_n C [(0, .int x3)] dJ6_bitCount_0f7a4_33 rfl (by decide) rfl ?_
  refine eg_iload_n C 0 dJ6_bitCount_0f7a4_34 rfl ?_
  refine eg_iload_n C 0 dJ6_bitCount_0f7a4_35 rfl ?_
  refine eg_bipush C (8 : Int32) dJ6_bitCount_0f7a4_36 (by decide) ?_
  refine eg_iushr C dJ6_bitCount_0f7a4_38 ?_
  refine eg_iadd C dJ6_bitCount_0f7a4_39 ?_
  obtain ⟨x4, ex4, h⟩ := eu_lt_x h
  rw [← ex4]
  refine eg_istore_n C [(0, .int x4)] dJ6_bitCount_0f7a4_40 rfl (by decide) rfl ?_
  refine eg_iload_n C 0 dJ6_bitCount_0f7a4_41 rfl ?_
  refine eg_iload_n C 0 dJ6_bitCount_0f7a4_42 rfl ?_
  refine eg_bipush C (16 : Int32) dJ6_bitCount_0f7a4_43 (by decide) ?_
  refine eg_iushr C dJ6_bitCount_0f7a4_45 ?_
  refine eg_iadd C dJ6_bitCount_0f7a4_46 ?_
  obtain ⟨x5, ex5, h⟩ := eu_lt_x h
  rw [← ex5]
  refine eg_istore_n C [(0, .int x5)] dJ6_bitCount_0f7a4_47 rfl (by decide) rfl ?_
  refine eg_iload_n C 0 dJ6_bitCount_0f7a4_48 rfl ?_
  refine eg_bipush C (63 : Int32) dJ6_bitCount_0f7a4_49 (by decide) ?_
  refine eg_iand C dJ6_bitCount_0f7a4_51 ?_
  subst h
  exact eg_iret C rfl dJ6_bitCount_0f7a4_52
theorem kJ6_bitCount_0f7a4 {l : Launch} {σ : eu_T} {r : Int32} {a0 : Int32}  (h : fJ6_bitCount_0f7a4 a0 = r) : eu_KI l yJ6_bitCount_0f7a4 (Cond.code yJ6_bitCount_0f7a4 cJ6_bitCount_0f7a4 1 (some .int) :: eu_TB) ({ frames := 0, cells := 0, slots := 0, locals := 0 } : Room) 0 25 (fun _ => [.int a0]) σ σ r :=
  eu_KI_of (by decide) (by decide) rfl (fun _ => Nat.le_of_ble_eq_true rfl) (fun E C => wJ6_bitCount_0f7a4 C h)
theorem cw_X0_goOn_X4_isBelow_45 {E : eu_E} (C : eu_C E ({ frames := 1, cells := 0, slots := 0, locals := 21 } : Room) 0 25 6 cX0_goOn RX0 (Cond.code yX0_goOn cX0_goOn 6 (some .int) :: eu_TB) (some .int)) : va_CN (eu_R E) (eu_s E) (eu_a E) RX0 45 yX4_isBelow "EachUndoes" cX4_isBelow 2 (some .boolean) (Cond.code yX4_isBelow cX4_isBelow 2 (some .boolean) :: eu_TB) ({ frames := 0, cells := 0, slots := 0, locals := 0 } : Room) 0 0 2 ∧ (Cond.static yX4_isBelow).before (eu_a E) (eu_s E) = true ∧ True := eu_cnS C (List.mem_of_getElem? (i := 27) rfl) tw_76 tw_2 tw_77 rfl rfl (by decide +kernel) (by decide)
theorem cw_X0_goOn_J6_bitCount_0f7a4_49 {E : eu_E} (C : eu_C E ({ frames := 1, cells := 0, slots := 0, locals := 21 } : Room) 0 25 6 cX0_goOn RX0 (Cond.code yX0_goOn cX0_goOn 6 (some .int) :: eu_TB) (some .int)) : CallB (eu_R E) (eu_s E) (eu_a E) RX0 49 yJ6_bitCount_0f7a4 cJ6_bitCount_0f7a4 1 (some .int) (Cond.code yJ6_bitCount_0f7a4 cJ6_bitCount_0f7a4 1 (some .int) :: eu_TB) ({ frames := 0, cells := 0, slots := 0, locals := 0 } : Room) 0 0 1 ∧ (Cond.static yJ6_bitCount_0f7a4).before (eu_a E) (eu_s E) = true := eu_cwS C tw_96 tw_97 tw_98 tw_99 rfl rfl (by decide +kernel) (by decide)
set_option maxHeartbeats 4000000 in
set_option maxRecDepth 100000 in
theorem wX0_goOn_J83 {E : eu_E} (C : eu_C E ({ frames := 1, cells := 0, slots := 0, locals := 21 } : Room) 0 25 6 cX0_goOn RX0 (Cond.code yX0_goOn cX0_goOn 6 (some .int) :: eu_TB) (some .int)) {r : Int32} {σ' : eu_T}   (σ : eu_T) (v3 : Int32) (v4 : Int32) (s0 : Int32)  (h : fX0_goOn_J83  σ v3 v4 s0 = some (r, σ')) : eu_G E 0 25 6 (eu_QI E 0 25 σ' r) σ 83 [(0, .ref (eu_ad E 3)), (3, .int v3), (4, .int v4)] [.int s0] := by
  unfold fX0_goOn_J83 at h
  refine eg_istore C [(5, .int s0), (0, .ref (eu_ad E 3)), (3, .int v3), (4, .int v4)] dX0_goOn_83 (by decide) rfl ?_
  refine eg_iload C 0 dX0_goOn_85 rfl ?_
  refine eg_if_eq C 103 dX0_goOn_87 (by decide) (fun c => ?_) (fun c => ?_)
  · rw [if_pos c] at h
    refine eg_iconst C (3 : Int32) dX0_goOn_103 (by decide) ?_
    obtain ⟨rfl, rfl⟩ := eu_inj2 h
    exact eg_iret C rfl dX0_goOn_104
  · rw [if_neg c] at h
    refine eg_aload_n C 1 dX0_goOn_90 rfl ?_
    refine gf_X0_18 C (by decide) dX0_goOn_91 ?_
    refine eg_iload_n C 2 dX0_goOn_94 rfl ?_
    obtain ⟨g3, h⟩ := eu_gd_some h
    refine eg_iald C 8 (by decide) (z := 12) (fun _ => rfl) (eu_in_vp g3) dX0_goOn_95 ?_
    refine eg_scallI C (cw_X0_goOn_J6_bitCount_0f7a4_49 C) (av := [.int (σ 8 v3.toNatClampNeg)]) (kJ6_bitCount_0f7a4 rfl) rfl (st := []) rfl (Nat.le_of_ble_eq_true rfl) dX0_goOn_96 ?_
    refine eg_iconst C (3 : Int32) dX0_goOn_99 (by decide) ?_
    refine eg_icmp_lt C 105 dX0_goOn_100 (by decide) (fun c => ?_) (fun c => ?_)
    · rw [if_pos c] at h
      refine eg_aload_n C 1 dX0_goOn_105 rfl ?_
      refine gf_X0_18 C (by decide) dX0_goOn_106 ?_
      refine eg_iload_n C 2 dX0_goOn_109 rfl ?_
      refine eg_dup2 C dX0_goOn_110 rfl rfl ?_
      obtain ⟨g4, h⟩ := eu_gd_some h
      refine eg_iald C 8 (by decide) (z := 12) (fun _ => rfl) (eu_in_vp g4) dX0_goOn_111 ?_
      refine eg_iconst C (1 : Int32) dX0_goOn_112 (by decide) ?_
      refine eg_iload C 3 dX0_goOn_113 rfl ?_
      refine eg_ishl C dX0_goOn_115 ?_
      refine eg_ior C dX0_goOn_116 ?_
      obtain ⟨g5, h⟩ := eu_gd_some h
      refine eg_iast C 8 (by decide) (z := 12) (fun _ => rfl) (eu_in_vp g5) dX0_goOn_117 ?_
      obtain ⟨σ6, eσ6, h⟩ := eu_lt_x h
      rw [← eσ6]
      refine eg_iconst C (1 : Int32) dX0_goOn_118 (by decide) ?_
      obtain ⟨rfl, rfl⟩ := eu_inj2 h
      exact eg_iret C rfl dX0_goOn_119
    · rw [if_neg c] at h
      refine eg_iconst C (3 : Int32) dX0_goOn_103 (by decide) ?_
      obtain ⟨rfl, rfl⟩ := eu_inj2 h
      exact eg_iret C rfl dX0_goOn_104
set_option maxHeartbeats 4000000 in
set_option maxRecDepth 100000 in
theorem wX0_goOn_J82 {E : eu_E} (C : eu_C E ({ frames := 1, cells := 0, slots := 0, locals := 21 } : Room) 0 25 6 cX0_goOn RX0 (Cond.code yX0_goOn cX0_goOn 6 (some .int) :: eu_TB) (some .int)) {r : Int32} {σ' : eu_T}   (σ : eu_T) (v3 : Int32) (v4 : Int32)  (h : fX0_goOn_J82  σ v3 v4 = some (r, σ')) : eu_G E 0 25 6 (eu_QI E 0 25 σ' r) σ 82 [(0, .ref (eu_ad E 3)), (3, .int v3), (4, .int v4)] [] := by
  unfold fX0_goOn_J82 at h
  refine eg_iconst C (0 : Int32) dX0_goOn_82 (by decide) ?_
  refine eg_sub C [0, 1, 2] rfl ?_
  exact wX0_goOn_J83 C _ _ _ _ h
set_option maxHeartbeats 4000000 in
set_option maxRecDepth 100000 in
theorem wX0_goOn {E : eu_E} (C : eu_C E ({ frames := 1, cells := 0, slots := 0, locals := 21 } : Room) 0 25 6 cX0_goOn RX0 (Cond.code yX0_goOn cX0_goOn 6 (some .int) :: eu_TB) (some .int)) {σ : eu_T} {r : Int32} {σ' : eu_T} {a1 : Int32} {a2 : Int32}  (h : fX0_goOn σ a1 a2 = some (r, σ')) : eu_G E 0 25 6 (eu_QI E 0 25 σ' r) σ 0 [(0, .ref (eu_ad E 3)), (1, .int a1), (2, .int a2)] [] := by
  unfold fX0_goOn at h
  refine eg_aload_n C 0 dX0_goOn_0 rfl ?_
  refine gf_X0_31 C (by decide) dX0_goOn_1 ?_
  refine eg_iconst C (1 : Int32) dX0_goOn_4 (by decide) ?_
  refine eg_isub C dX0_goOn_5 ?_
  refine eg_istore_n C [(3, .int ((σ 3 4) - (1 : Int32))), (0, .ref (eu_ad E 3)), (1, .int a1), (2, .int a2)] dX0_goOn_6 rfl (by decide) rfl ?_
  refine eg_iload_n C 2 dX0_goOn_7 rfl ?_
  refine eg_bipush C (59 : Int32) dX0_goOn_8 (by decide) ?_
  refine eg_icmp_ne C 15 dX0_goOn_10 (by decide) (fun c => ?_) (fun c => ?_)
  · rw [if_neg c] at h
    refine eg_iload_n C 3 dX0_goOn_15 rfl ?_
    refine eg_iconst C (2 : Int32) dX0_goOn_16 (by decide) ?_
    refine eg_icmp_eq C 29 dX0_goOn_17 (by decide) (fun c => ?_) (fun c => ?_)
    · rw [if_pos c] at h
      refine eg_iconst C (3 : Int32) dX0_goOn_29 (by decide) ?_
      obtain ⟨rfl, rfl⟩ := eu_inj2 h
      exact eg_iret C rfl dX0_goOn_30
    · rw [if_neg c] at h
      refine eg_iload_n C 0 dX0_goOn_20 rfl ?_
      refine eg_bipush C (12 : Int32) dX0_goOn_21 (by decide) ?_
      refine eg_scallNI C (cw_X0_goOn_X4_isBelow_45 C) (av := [.int ((σ 3 4) - (1 : Int32)), .int (12 : Int32)]) (kX4_isBelow rfl) rfl (st := []) rfl (Nat.le_of_ble_eq_true rfl) dX0_goOn_23 ?_
      refine eg_if_ne C 31 dX0_goOn_26 (by decide) (fun c => ?_) (fun c => ?_)
      · rw [if_neg c] at h
        refine eg_iload_n C 2 dX0_goOn_31 rfl ?_
        refine eg_bipush C (33 : Int32) dX0_goOn_32 (by decide) ?_
        refine eg_icmp_ne C 51 dX0_goOn_34 (by decide) (fun c => ?_) (fun c => ?_)
        · rw [if_neg c] at h
          refine eg_iload_n C 2 dX0_goOn_51 rfl ?_
          refine eg_bipush C (97 : Int32) dX0_goOn_52 (by decide) ?_
          refine eg_isub C dX0_goOn_54 ?_
          refine eg_istore C [(4, .int (a1 - (97 : Int32))), (3, .int ((σ 3 4) - (1 : Int32))), (0, .ref (eu_ad E 3)), (1, .int a1), (2, .int a2)] dX0_goOn_55 (by decide) rfl ?_
          refine eg_iload C 0 dX0_goOn_57 rfl ?_
          refine eg_iload_n C 1 dX0_goOn_59 rfl ?_
          refine eg_scallNI C (cw_X0_goOn_X4_isBelow_45 C) (av := [.int (a1 - (97 : Int32)), .int ((σ 3 4) - (1 : Int32))]) (kX4_isBelow rfl) rfl (st := []) rfl (Nat.le_of_ble_eq_true rfl) dX0_goOn_60 ?_
          refine eg_if_eq C 82 dX0_goOn_63 (by decide) (fun c => ?_) (fun c => ?_)
          · rw [if_pos c] at h
            refine eg_sub C [2, 1, 0] rfl ?_
            exact wX0_goOn_J82 C _ _ _ h
          · rw [if_neg c] at h
            refine eg_aload_n C 2 dX0_goOn_66 rfl ?_
            refine gf_X0_18 C (by decide) dX0_goOn_67 ?_
            refine eg_iload_n C 1 dX0_goOn_70 rfl ?_
            obtain ⟨g1, h⟩ := eu_gd_some h
            refine eg_iald C 8 (by decide) (z := 12) (fun _ => rfl) (eu_in_vp g1) dX0_goOn_71 ?_
            refine eg_iload C 0 dX0_goOn_72 rfl ?_
            refine eg_ishr C dX0_goOn_74 ?_
            refine eg_if_ne C 82 dX0_goOn_75 (by decide) (fun c => ?_) (fun c => ?_)
            · rw [if_neg c] at h
              refine eg_sub C [2, 1, 0] rfl ?_
              exact wX0_goOn_J82 C _ _ _ h
            · rw [if_pos c] at h
              refine eg_iconst C (1 : Int32) dX0_goOn_78 (by decide) ?_
              refine eg_goto C 83 dX0_goOn_79 (by decide) ?_
              refine eg_sub C [2, 1, 0] rfl ?_
              exact wX0_goOn_J83 C _ _ _ _ h
        · rw [if_pos c] at h
          refine eg_aload_n C 1 dX0_goOn_37 rfl ?_
          refine eg_dup C dX0_goOn_38 rfl ?_
          refine gf_X0_34 C (by decide) dX0_goOn_39 ?_
          refine eg_iconst C (1 : Int32) dX0_goOn_42 (by decide) ?_
          refine eg_iload_n C 0 dX0_goOn_43 rfl ?_
          refine eg_ishl C dX0_goOn_44 ?_
          refine eg_ior C dX0_goOn_45 ?_
          refine pf_X0_34 C (by decide) dX0_goOn_46 ?_
          obtain ⟨σ2, eσ2, h⟩ := eu_lt_x h
          rw [← eσ2]
          refine eg_iconst C (2 : Int32) dX0_goOn_49 (by decide) ?_
          obtain ⟨rfl, rfl⟩ := eu_inj2 h
          exact eg_iret C rfl dX0_goOn_50
      · rw [if_pos c] at h
        refine eg_iconst C (3 : Int32) dX0_goOn_29 (by decide) ?_
        obtain ⟨rfl, rfl⟩ := eu_inj2 h
        exact eg_iret C rfl dX0_goOn_30
  · rw [if_pos c] at h
    refine eg_iconst C (0 : Int32) dX0_goOn_13 (by decide) ?_
    obtain ⟨rfl, rfl⟩ := eu_inj2 h
    exact eg_iret C rfl dX0_goOn_14
theorem kX0_goOn {l : Launch} {σ : eu_T} {r : Int32} {σ' : eu_T} {a1 : Int32} {a2 : Int32}  (h : fX0_goOn σ a1 a2 = some (r, σ')) : eu_KI l yX0_goOn (Cond.code yX0_goOn cX0_goOn 6 (some .int) :: eu_TB) ({ frames := 1, cells := 0, slots := 0, locals := 21 } : Room) 0 25 (fun ad => [.ref (ad 3), .int a1, .int a2]) σ σ' r :=
  eu_KI_of (by decide) (by decide) rfl (fun _ => Nat.le_of_ble_eq_true rfl) (fun E C => wX0_goOn C h)
theorem cw_X0_parse_X0_goOn_41 {E : eu_E} (C : eu_C E ({ frames := 2, cells := 0, slots := 0, locals := 46 } : Room) 0 25 3 cX0_parse RX0 (Cond.code yX0_parse cX0_parse 3 none :: eu_TB) none) : CallW (eu_R E) (eu_s E) (eu_a E) RX0 RX0 41 yX0_goOn cX0_goOn 6 (some .int) (Cond.code yX0_goOn cX0_goOn 6 (some .int) :: eu_TB) ({ frames := 1, cells := 0, slots := 0, locals := 21 } : Room) 0 0 2 := eu_cwV C tw_92 tw_93 tw_94 tw_39 tw_95 rfl rfl (by decide +kernel) (by decide)
theorem cw_X0_parse_X0_begin_37 {E : eu_E} (C : eu_C E ({ frames := 2, cells := 0, slots := 0, locals := 46 } : Room) 0 25 3 cX0_parse RX0 (Cond.code yX0_parse cX0_parse 3 none :: eu_TB) none) : CallW (eu_R E) (eu_s E) (eu_a E) RX0 RX0 37 yX0_begin cX0_begin 3 (some .int) (Cond.code yX0_begin cX0_begin 3 (some .int) :: eu_TB) ({ frames := 1, cells := 0, slots := 0, locals := 21 } : Room) 0 0 1 := eu_cwV C tw_88 tw_89 tw_90 tw_39 tw_91 rfl rfl (by decide +kernel) (by decide)
set_option maxHeartbeats 4000000 in
set_option maxRecDepth 100000 in
theorem wX0_parse_J86 {E : eu_E} (C : eu_C E ({ frames := 2, cells := 0, slots := 0, locals := 46 } : Room) 0 25 3 cX0_parse RX0 (Cond.code yX0_parse cX0_parse 3 none :: eu_TB) none) {r : Int32} {σ' : eu_T}   (σ : eu_T) (v1 : Int32)  (h : fX0_parse_J86  σ v1 = some (r, σ')) : eu_G E 0 25 3 (eu_QV E 0 25 σ' r) σ 86 [(0, .ref (eu_ad E 3)), (1, .int v1)] [] := by
  unfold fX0_parse_J86 at h
  refine eg_aload_n C 0 dX0_parse_86 rfl ?_
  refine eg_iload_n C 1 dX0_parse_87 rfl ?_
  refine pf_X0_21 C (by decide) dX0_parse_88 ?_
  obtain ⟨σ10, eσ10, h⟩ := eu_lt_x h
  rw [← eσ10]
  refine eg_aload_n C 0 dX0_parse_91 rfl ?_
  refine eg_iconst C (0 : Int32) dX0_parse_92 (by decide) ?_
  refine pf_X0_31 C (by decide) dX0_parse_93 ?_
  obtain ⟨σ11, eσ11, h⟩ := eu_lt_x h
  rw [← eσ11]
  refine eg_aload_n C 0 dX0_parse_96 rfl ?_
  refine eg_iconst C (0 : Int32) dX0_parse_97 (by decide) ?_
  refine pf_X0_34 C (by decide) dX0_parse_98 ?_
  obtain ⟨σ12, eσ12, h⟩ := eu_lt_x h
  rw [← eσ12]
  obtain ⟨rfl, rfl⟩ := eu_inj2 h
  exact eg_vret C rfl _ dX0_parse_101
set_option maxHeartbeats 4000000 in
set_option maxRecDepth 100000 in
theorem wX0_parse_J70 {E : eu_E} (C : eu_C E ({ frames := 2, cells := 0, slots := 0, locals := 46 } : Room) 0 25 3 cX0_parse RX0 (Cond.code yX0_parse cX0_parse 3 none :: eu_TB) none) {r : Int32} {σ' : eu_T}   (σ : eu_T) (v1 : Int32) (v2 : Int32)  (h : fX0_parse_J70  σ v1 v2 = some (r, σ')) : eu_G E 0 25 3 (eu_QV E 0 25 σ' r) σ 70 [(0, .ref (eu_ad E 3)), (1, .int v1), (2, .int v2)] [] := by
  unfold fX0_parse_J70 at h
  refine eg_iload_n C 2 dX0_parse_70 rfl ?_
  refine eg_iconst C (3 : Int32) dX0_parse_71 (by decide) ?_
  refine eg_icmp_eq C 86 dX0_parse_72 (by decide) (fun c => ?_) (fun c => ?_)
  · rw [if_pos c] at h
    refine eg_sub C [0, 1] rfl ?_
    exact wX0_parse_J86 C _ _ h
  · rw [if_neg c] at h
    refine eg_iload_n C 2 dX0_parse_75 rfl ?_
    refine eg_if_ne C 101 dX0_parse_76 (by decide) (fun c => ?_) (fun c => ?_)
    · rw [if_neg c] at h
      obtain ⟨rfl, rfl⟩ := eu_inj2 h
      exact eg_vret C rfl _ dX0_parse_101
    · rw [if_pos c] at h
      refine eg_aload_n C 0 dX0_parse_79 rfl ?_
      refine gf_X0_25 C (by decide) dX0_parse_80 ?_
      refine eg_if_le C 101 dX0_parse_83 (by decide) (fun c => ?_) (fun c => ?_)
      · rw [if_pos c] at h
        obtain ⟨rfl, rfl⟩ := eu_inj2 h
        exact eg_vret C rfl _ dX0_parse_101
      · rw [if_neg c] at h
        refine eg_sub C [0, 1] rfl ?_
        exact wX0_parse_J86 C _ _ h
set_option maxHeartbeats 4000000 in
set_option maxRecDepth 100000 in
theorem wX0_parse_J55 {E : eu_E} (C : eu_C E ({ frames := 2, cells := 0, slots := 0, locals := 46 } : Room) 0 25 3 cX0_parse RX0 (Cond.code yX0_parse cX0_parse 3 none :: eu_TB) none) {r : Int32} {σ' : eu_T} {k19 : eu_T → Int32 → Int32 → Option (Int32 × eu_T)} (hk_19 : ∀ (σ : eu_T) (v1 : Int32) (v2 : Int32), k19 σ v1 v2 = some (r, σ') → eu_G E 0 25 3 (eu_QV E 0 25 σ' r) σ 19 [(0, .ref (eu_ad E 3)), (1, .int v1), (2, .int v2)] []) (σ : eu_T) (v1 : Int32) (s0 : Int32)  (h : fX0_parse_J55 k19 σ v1 s0 = some (r, σ')) : eu_G E 0 25 3 (eu_QV E 0 25 σ' r) σ 55 [(0, .ref (eu_ad E 3)), (1, .int v1)] [.int s0] := by
  unfold fX0_parse_J55 at h
  refine eg_istore_n C [(2, .int s0), (0, .ref (eu_ad E 3)), (1, .int v1)] dX0_parse_55 rfl (by decide) rfl ?_
  refine eg_iload_n C 0 dX0_parse_56 rfl ?_
  refine eg_iconst C (3 : Int32) dX0_parse_57 (by decide) ?_
  refine eg_icmp_ne C 64 dX0_parse_58 (by decide) (fun c => ?_) (fun c => ?_)
  · rw [if_neg c] at h
    refine eg_iinc C 2 (v1 + (1 : Int32)) [(1, .int (v1 + (1 : Int32))), (2, .int s0), (0, .ref (eu_ad E 3))] dX0_parse_64 rfl rfl (by decide) rfl ?_
    refine eg_goto C 19 dX0_parse_67 (by decide) ?_
    refine eg_sub C [2, 0, 1] rfl ?_
    exact hk_19 _ _ _ h
  · rw [if_pos c] at h
    refine eg_goto C 70 dX0_parse_61 (by decide) ?_
    refine eg_sub C [1, 2, 0] rfl ?_
    exact wX0_parse_J70 C _ _ _ h
set_option maxHeartbeats 4000000 in
set_option maxRecDepth 100000 in
theorem wX0_parse_L19 {E : eu_E} (C : eu_C E ({ frames := 2, cells := 0, slots := 0, locals := 46 } : Room) 0 25 3 cX0_parse RX0 (Cond.code yX0_parse cX0_parse 3 none :: eu_TB) none) {r : Int32} {σ' : eu_T}   : ∀ (n : Nat) (σ : eu_T) (v1 : Int32) (v2 : Int32), fX0_parse_L19 n σ v1 v2 = some (r, σ') → eu_G E 0 25 3 (eu_QV E 0 25 σ' r) σ 19 [(0, .ref (eu_ad E 3)), (1, .int v1), (2, .int v2)] [] := by
  intro n
  induction n with
  | zero =>
    intro σ v1 v2  h
    rw [fX0_parse_L19_z] at h
    cases h
  | succ n ih =>
    intro σ v1 v2  h
    rw [fX0_parse_L19_s] at h
    refine eg_iload_n C 1 dX0_parse_19 rfl ?_
    refine eg_aload_n C 0 dX0_parse_20 rfl ?_
    refine gf_X0_25 C (by decide) dX0_parse_21 ?_
    refine eg_icmp_ge C 70 dX0_parse_24 (by decide) (fun c => ?_) (fun c => ?_)
    · rw [if_pos c] at h
      refine eg_sub C [0, 1, 2] rfl ?_
      exact wX0_parse_J70 C _ _ _ h
    · rw [if_neg c] at h
      refine eg_iload_n C 2 dX0_parse_27 rfl ?_
      refine eg_if_ne C 44 dX0_parse_28 (by decide) (fun c => ?_) (fun c => ?_)
      · rw [if_neg c] at h
        refine eg_aload_n C 0 dX0_parse_44 rfl ?_
        refine eg_aload_n C 0 dX0_parse_45 rfl ?_
        refine gf_X0_9 C (by decide) dX0_parse_46 ?_
        refine eg_iload_n C 1 dX0_parse_49 rfl ?_
        obtain ⟨g4, h⟩ := eu_gd_some h
        refine eg_iald C 6 (by decide) (z := 60) (fun _ => rfl) (eu_in_vp g4) dX0_parse_50 ?_
        refine eg_iload_n C 2 dX0_parse_51 rfl ?_
        obtain ⟨r5, σ6, hr5, h⟩ := eu_b2_some h
        refine eg_callI C (cw_X0_parse_X0_goOn_41 C) (av := [.int (σ 6 v1.toNatClampNeg), .int v2]) 3 (by decide) (kX0_goOn hr5) rfl rfl rfl rfl (st := []) rfl (Nat.le_of_ble_eq_true rfl) dX0_parse_52 ?_
        refine eg_sub C [0, 1] rfl ?_
        exact wX0_parse_J55 C ih _ _ _ h
      · rw [if_pos c] at h
        refine eg_aload_n C 0 dX0_parse_31 rfl ?_
        refine eg_aload_n C 0 dX0_parse_32 rfl ?_
        refine gf_X0_9 C (by decide) dX0_parse_33 ?_
        refine eg_iload_n C 1 dX0_parse_36 rfl ?_
        obtain ⟨g7, h⟩ := eu_gd_some h
        refine eg_iald C 6 (by decide) (z := 60) (fun _ => rfl) (eu_in_vp g7) dX0_parse_37 ?_
        obtain ⟨r8, σ9, hr8, h⟩ := eu_b2_some h
        refine eg_callI C (cw_X0_parse_X0_begin_37 C) (av := [.int (σ 6 v1.toNatClampNeg)]) 3 (by decide) (kX0_begin hr8) rfl rfl rfl rfl (st := []) rfl (Nat.le_of_ble_eq_true rfl) dX0_parse_38 ?_
        refine eg_goto C 55 dX0_parse_41 (by decide) ?_
        refine eg_sub C [0, 1] rfl ?_
        exact wX0_parse_J55 C ih _ _ _ h
set_option maxHeartbeats 4000000 in
set_option maxRecDepth 100000 in
theorem wX0_parse {E : eu_E} (C : eu_C E ({ frames := 2, cells := 0, slots := 0, locals := 46 } : Room) 0 25 3 cX0_parse RX0 (Cond.code yX0_parse cX0_parse 3 none :: eu_TB) none) {σ : eu_T} {r : Int32} {σ' : eu_T}   (h : fX0_parse σ = some (r, σ')) : eu_G E 0 25 3 (eu_QV E 0 25 σ' r) σ 0 [(0, .ref (eu_ad E 3))] [] := by
  unfold fX0_parse at h
  refine eg_aload_n C 0 dX0_parse_0 rfl ?_
  refine eg_iconst C (0 : Int32) dX0_parse_1 (by decide) ?_
  refine pf_X0_31 C (by decide) dX0_parse_2 ?_
  obtain ⟨σ1, eσ1, h⟩ := eu_lt_x h
  rw [← eσ1]
  refine eg_aload_n C 0 dX0_parse_5 rfl ?_
  refine eg_iconst C (0 : Int32) dX0_parse_6 (by decide) ?_
  refine pf_X0_34 C (by decide) dX0_parse_7 ?_
  obtain ⟨σ2, eσ2, h⟩ := eu_lt_x h
  rw [← eσ2]
  refine eg_aload_n C 0 dX0_parse_10 rfl ?_
  refine eg_iconst C (-1 : Int32) dX0_parse_11 (by decide) ?_
  refine pf_X0_21 C (by decide) dX0_parse_12 ?_
  obtain ⟨σ3, eσ3, h⟩ := eu_lt_x h
  rw [← eσ3]
  refine eg_iconst C (0 : Int32) dX0_parse_15 (by decide) ?_
  refine eg_istore_n C [(1, .int (0 : Int32)), (0, .ref (eu_ad E 3))] dX0_parse_16 rfl (by decide) rfl ?_
  refine eg_iconst C (0 : Int32) dX0_parse_17 (by decide) ?_
  refine eg_istore_n C [(2, .int (0 : Int32)), (1, .int (0 : Int32)), (0, .ref (eu_ad E 3))] dX0_parse_18 rfl (by decide) rfl ?_
  refine eg_sub C [2, 1, 0] rfl ?_
  exact wX0_parse_L19 C 200 _ _ _ h
theorem kX0_parse {l : Launch} {σ : eu_T} {r : Int32} {σ' : eu_T}   (h : fX0_parse σ = some (r, σ')) : eu_KV l yX0_parse (Cond.code yX0_parse cX0_parse 3 none :: eu_TB) ({ frames := 2, cells := 0, slots := 0, locals := 46 } : Room) 0 25 (fun ad => [.ref (ad 3)]) σ σ' r :=
  eu_KV_of (by decide) (by decide) rfl (fun _ => Nat.le_of_ble_eq_true rfl) (fun E C => wX0_parse C h)
theorem cw_X0_append_X0_parse_28 {E : eu_E} (C : eu_C E ({ frames := 3, cells := 0, slots := 0, locals := 68 } : Room) 0 25 2 cX0_append RX0 (Cond.code yX0_append cX0_append 2 (some .int) :: eu_TB) (some .int)) : CallW (eu_R E) (eu_s E) (eu_a E) RX0 RX0 28 yX0_parse cX0_parse 3 none (Cond.code yX0_parse cX0_parse 3 none :: eu_TB) ({ frames := 2, cells := 0, slots := 0, locals := 46 } : Room) 0 0 0 := eu_cwV C tw_82 tw_83 tw_84 tw_39 tw_85 rfl rfl (by decide +kernel) (by decide)
set_option maxHeartbeats 4000000 in
set_option maxRecDepth 100000 in
theorem wX0_append_J29 {E : eu_E} (C : eu_C E ({ frames := 3, cells := 0, slots := 0, locals := 68 } : Room) 0 25 2 cX0_append RX0 (Cond.code yX0_append cX0_append 2 (some .int) :: eu_TB) (some .int)) {r : Int32} {σ' : eu_T}   (σ : eu_T)  (h : fX0_append_J29  σ = some (r, σ')) : eu_G E 0 25 2 (eu_QI E 0 25 σ' r) σ 29 [(0, .ref (eu_ad E 3))] [] := by
  unfold fX0_append_J29 at h
  refine eg_aload_n C 0 dX0_append_29 rfl ?_
  obtain ⟨r4, σ5, hr4, h⟩ := eu_b2_some h
  refine eg_callV C (cw_X0_append_X0_parse_28 C) (av := []) 3 (by decide) (kX0_parse hr4) rfl rfl rfl rfl (st := []) rfl (Nat.le_of_ble_eq_true rfl) dX0_append_30 ?_
  refine eg_aload_n C 0 dX0_append_33 rfl ?_
  refine gf_X0_25 C (by decide) dX0_append_34 ?_
  obtain ⟨rfl, rfl⟩ := eu_inj2 h
  exact eg_iret C rfl dX0_append_37
set_option maxHeartbeats 4000000 in
set_option maxRecDepth 100000 in
theorem wX0_append {E : eu_E} (C : eu_C E ({ frames := 3, cells := 0, slots := 0, locals := 68 } : Room) 0 25 2 cX0_append RX0 (Cond.code yX0_append cX0_append 2 (some .int) :: eu_TB) (some .int)) {σ : eu_T} {r : Int32} {σ' : eu_T} {a1 : Int32}  (h : fX0_append σ a1 = some (r, σ')) : eu_G E 0 25 2 (eu_QI E 0 25 σ' r) σ 0 [(0, .ref (eu_ad E 3)), (1, .int a1)] [] := by
  unfold fX0_append at h
  refine eg_aload_n C 0 dX0_append_0 rfl ?_
  refine gf_X0_25 C (by decide) dX0_append_1 ?_
  refine eg_bipush C (60 : Int32) dX0_append_4 (by decide) ?_
  refine eg_icmp_ge C 29 dX0_append_6 (by decide) (fun c => ?_) (fun c => ?_)
  · rw [if_pos c] at h
    refine eg_sub C [0] rfl ?_
    exact wX0_append_J29 C _ h
  · rw [if_neg c] at h
    refine eg_aload_n C 0 dX0_append_9 rfl ?_
    refine gf_X0_9 C (by decide) dX0_append_10 ?_
    refine eg_aload_n C 0 dX0_append_13 rfl ?_
    refine gf_X0_25 C (by decide) dX0_append_14 ?_
    refine eg_iload_n C 1 dX0_append_17 rfl ?_
    obtain ⟨g1, h⟩ := eu_gd_some h
    refine eg_iast C 6 (by decide) (z := 60) (fun _ => rfl) (eu_in_vp g1) dX0_append_18 ?_
    obtain ⟨σ2, eσ2, h⟩ := eu_lt_x h
    rw [← eσ2]
    refine eg_aload_n C 0 dX0_append_19 rfl ?_
    refine eg_dup C dX0_append_20 rfl ?_
    refine gf_X0_25 C (by decide) dX0_append_21 ?_
    refine eg_iconst C (1 : Int32) dX0_append_24 (by decide) ?_
    refine eg_iadd C dX0_append_25 ?_
    refine pf_X0_25 C (by decide) dX0_append_26 ?_
    obtain ⟨σ3, eσ3, h⟩ := eu_lt_x h
    rw [← eσ3]
    refine eg_sub C [0] rfl ?_
    exact wX0_append_J29 C _ h
theorem kX0_append {l : Launch} {σ : eu_T} {r : Int32} {σ' : eu_T} {a1 : Int32}  (h : fX0_append σ a1 = some (r, σ')) : eu_KI l yX0_append (Cond.code yX0_append cX0_append 2 (some .int) :: eu_TB) ({ frames := 3, cells := 0, slots := 0, locals := 68 } : Room) 0 25 (fun ad => [.ref (ad 3), .int a1]) σ σ' r :=
  eu_KI_of (by decide) (by decide) rfl (fun _ => Nat.le_of_ble_eq_true rfl) (fun E C => wX0_append C h)
theorem cw_X0_clear_X0_parse_28 {E : eu_E} (C : eu_C E ({ frames := 3, cells := 0, slots := 0, locals := 68 } : Room) 0 25 2 cX0_clear RX0 (Cond.code yX0_clear cX0_clear 2 (some .int) :: eu_TB) (some .int)) : CallW (eu_R E) (eu_s E) (eu_a E) RX0 RX0 28 yX0_parse cX0_parse 3 none (Cond.code yX0_parse cX0_parse 3 none :: eu_TB) ({ frames := 2, cells := 0, slots := 0, locals := 46 } : Room) 0 0 0 := eu_cwV C tw_82 tw_83 tw_84 tw_39 tw_85 rfl rfl (by decide +kernel) (by decide)
set_option maxHeartbeats 4000000 in
set_option maxRecDepth 100000 in
theorem wX0_clear {E : eu_E} (C : eu_C E ({ frames := 3, cells := 0, slots := 0, locals := 68 } : Room) 0 25 2 cX0_clear RX0 (Cond.code yX0_clear cX0_clear 2 (some .int) :: eu_TB) (some .int)) {σ : eu_T} {r : Int32} {σ' : eu_T}   (h : fX0_clear σ = some (r, σ')) : eu_G E 0 25 2 (eu_QI E 0 25 σ' r) σ 0 [(0, .ref (eu_ad E 3))] [] := by
  unfold fX0_clear at h
  refine eg_aload_n C 0 dX0_clear_0 rfl ?_
  refine gf_X0_25 C (by decide) dX0_clear_1 ?_
  refine eg_istore_n C [(1, .int (σ 3 3)), (0, .ref (eu_ad E 3))] dX0_clear_4 rfl (by decide) rfl ?_
  refine eg_aload_n C 1 dX0_clear_5 rfl ?_
  refine eg_iconst C (0 : Int32) dX0_clear_6 (by decide) ?_
  refine pf_X0_25 C (by decide) dX0_clear_7 ?_
  obtain ⟨σ1, eσ1, h⟩ := eu_lt_x h
  rw [← eσ1]
  refine eg_aload_n C 1 dX0_clear_10 rfl ?_
  obtain ⟨r2, σ3, hr2, h⟩ := eu_b2_some h
  refine eg_callV C (cw_X0_clear_X0_parse_28 C) (av := []) 3 (by decide) (kX0_parse hr2) rfl rfl rfl rfl (st := []) rfl (Nat.le_of_ble_eq_true rfl) dX0_clear_11 ?_
  refine eg_iload_n C 0 dX0_clear_14 rfl ?_
  obtain ⟨rfl, rfl⟩ := eu_inj2 h
  exact eg_iret C rfl dX0_clear_15
theorem kX0_clear {l : Launch} {σ : eu_T} {r : Int32} {σ' : eu_T}   (h : fX0_clear σ = some (r, σ')) : eu_KI l yX0_clear (Cond.code yX0_clear cX0_clear 2 (some .int) :: eu_TB) ({ frames := 3, cells := 0, slots := 0, locals := 68 } : Room) 0 25 (fun ad => [.ref (ad 3)]) σ σ' r :=
  eu_KI_of (by decide) (by decide) rfl (fun _ => Nat.le_of_ble_eq_true rfl) (fun E C => wX0_clear C h)
set_option maxHeartbeats 4000000 in
set_option maxRecDepth 100000 in
theorem wX4_firstBits {E : eu_E} (C : eu_C E ({ frames := 0, cells := 0, slots := 0, locals := 0 } : Room) 0 25 1 cX4_firstBits RX4 (Cond.code yX4_firstBits cX4_firstBits 1 (some .int) :: eu_TB) (some .int)) {σ : eu_T} {r : Int32} {a0 : Int32}  (h : fX4_firstBits a0 = r) : eu_G E 0 25 1 (eu_QI E 0 25 σ r) σ 0 [(0, .int a0)] [] := by
  unfold fX4_firstBits at h
  refine eg_iconst C (1 : Int32) dX4_firstBits_0 (by decide) ?_
  refine eg_iload_n C 0 dX4_firstBits_1 rfl ?_
  refine eg_ishl C dX4_firstBits_2 ?_
  refine eg_iconst C (1 : Int32) dX4_firstBits_3 (by decide) ?_
  refine eg_isub C dX4_firstBits_4 ?_
  subst h
  exact eg_iret C rfl dX4_firstBits_5
theorem kX4_firstBits {l : Launch} {σ : eu_T} {r : Int32} {a0 : Int32}  (h : fX4_firstBits a0 = r) : eu_KI l yX4_firstBits (Cond.code yX4_firstBits cX4_firstBits 1 (some .int) :: eu_TB) ({ frames := 0, cells := 0, slots := 0, locals := 0 } : Room) 0 25 (fun _ => [.int a0]) σ σ r :=
  eu_KI_of (by decide) (by decide) rfl (fun _ => Nat.le_of_ble_eq_true rfl) (fun E C => wX4_firstBits C h)
set_option maxHeartbeats 4000000 in
set_option maxRecDepth 100000 in
theorem wX0_fallen_L4 {E : eu_E} (C : eu_C E ({ frames := 0, cells := 0, slots := 0, locals := 0 } : Room) 0 25 4 cX0_fallen RX0 (Cond.code yX0_fallen cX0_fallen 4 (some .int) :: eu_TB) (some .int)) {σ : eu_T} {r : Int32}   : ∀ (n : Nat) (v2 : Int32) (v3 : Int32), fX0_fallen_L4 σ n v2 v3 = some r → eu_G E 0 25 4 (eu_QI E 0 25 σ r) σ 4 [(0, .ref (eu_ad E 3)), (2, .int v2), (3, .int v3)] [] := by
  intro n
  induction n with
  | zero =>
    intro v2 v3  h
    rw [fX0_fallen_L4_z] at h
    cases h
  | succ n ih =>
    intro v2 v3  h
    rw [fX0_fallen_L4_s] at h
    refine eg_iload_n C 2 dX0_fallen_4 rfl ?_
    refine eg_aload_n C 0 dX0_fallen_5 rfl ?_
    refine gf_X0_31 C (by decide) dX0_fallen_6 ?_
    refine eg_icmp_ge C 46 dX0_fallen_9 (by decide) (fun c => ?_) (fun c => ?_)
    · rw [if_pos c] at h
      refine eg_iload_n C 1 dX0_fallen_46 rfl ?_
      obtain rfl := Option.some.inj h
      exact eg_iret C rfl dX0_fallen_47
    · rw [if_neg c] at h
      refine eg_aload_n C 0 dX0_fallen_12 rfl ?_
      refine gf_X0_34 C (by decide) dX0_fallen_13 ?_
      refine eg_iload_n C 2 dX0_fallen_16 rfl ?_
      refine eg_ishr C dX0_fallen_17 ?_
      refine eg_iconst C (1 : Int32) dX0_fallen_18 (by decide) ?_
      refine eg_iand C dX0_fallen_19 ?_
      refine eg_if_ne C 40 dX0_fallen_20 (by decide) (fun c => ?_) (fun c => ?_)
      · rw [if_neg c] at h
        refine eg_iinc C 2 (v3 + (1 : Int32)) [(3, .int (v3 + (1 : Int32))), (0, .ref (eu_ad E 3)), (2, .int v2)] dX0_fallen_40 rfl rfl (by decide) rfl ?_
        refine eg_goto C 4 dX0_fallen_43 (by decide) ?_
        refine eg_sub C [1, 2, 0] rfl ?_
        exact ih _ _ h
      · rw [if_pos c] at h
        refine eg_aload_n C 0 dX0_fallen_23 rfl ?_
        refine gf_X0_18 C (by decide) dX0_fallen_24 ?_
        refine eg_iload_n C 2 dX0_fallen_27 rfl ?_
        obtain ⟨g1, h⟩ := eu_gd_some h
        refine eg_iald C 8 (by decide) (z := 12) (fun _ => rfl) (eu_in_vp g1) dX0_fallen_28 ?_
        refine eg_iload_n C 1 dX0_fallen_29 rfl ?_
        refine eg_iand C dX0_fallen_30 ?_
        refine eg_if_eq C 40 dX0_fallen_31 (by decide) (fun c => ?_) (fun c => ?_)
        · rw [if_pos c] at h
          refine eg_iinc C 2 (v3 + (1 : Int32)) [(3, .int (v3 + (1 : Int32))), (0, .ref (eu_ad E 3)), (2, .int v2)] dX0_fallen_40 rfl rfl (by decide) rfl ?_
          refine eg_goto C 4 dX0_fallen_43 (by decide) ?_
          refine eg_sub C [1, 2, 0] rfl ?_
          exact ih _ _ h
        · rw [if_neg c] at h
          refine eg_iload_n C 1 dX0_fallen_34 rfl ?_
          refine eg_iconst C (1 : Int32) dX0_fallen_35 (by decide) ?_
          refine eg_iload_n C 2 dX0_fallen_36 rfl ?_
          refine eg_ishl C dX0_fallen_37 ?_
          refine eg_ior C dX0_fallen_38 ?_
          refine eg_istore_n C [(2, .int (v2 ||| ((1 : Int32) <<< (v3 &&& 31)))), (0, .ref (eu_ad E 3)), (3, .int v3)] dX0_fallen_39 rfl (by decide) rfl ?_
          refine eg_iinc C 2 (v3 + (1 : Int32)) [(3, .int (v3 + (1 : Int32))), (2, .int (v2 ||| ((1 : Int32) <<< (v3 &&& 31)))), (0, .ref (eu_ad E 3))] dX0_fallen_40 rfl rfl (by decide) rfl ?_
          refine eg_goto C 4 dX0_fallen_43 (by decide) ?_
          refine eg_sub C [2, 1, 0] rfl ?_
          exact ih _ _ h
set_option maxHeartbeats 4000000 in
set_option maxRecDepth 100000 in
theorem wX0_fallen {E : eu_E} (C : eu_C E ({ frames := 0, cells := 0, slots := 0, locals := 0 } : Room) 0 25 4 cX0_fallen RX0 (Cond.code yX0_fallen cX0_fallen 4 (some .int) :: eu_TB) (some .int)) {σ : eu_T} {r : Int32} {a1 : Int32}  (h : fX0_fallen σ a1 = some r) : eu_G E 0 25 4 (eu_QI E 0 25 σ r) σ 0 [(0, .ref (eu_ad E 3)), (1, .int a1)] [] := by
  unfold fX0_fallen at h
  refine eg_iload_n C 1 dX0_fallen_0 rfl ?_
  refine eg_istore_n C [(2, .int a1), (0, .ref (eu_ad E 3)), (1, .int a1)] dX0_fallen_1 rfl (by decide) rfl ?_
  refine eg_iconst C (0 : Int32) dX0_fallen_2 (by decide) ?_
  refine eg_istore_n C [(3, .int (0 : Int32)), (2, .int a1), (0, .ref (eu_ad E 3)), (1, .int a1)] dX0_fallen_3 rfl (by decide) rfl ?_
  refine eg_sub C [2, 1, 0] rfl ?_
  exact wX0_fallen_L4 C 200 _ _ h
theorem kX0_fallen {l : Launch} {σ : eu_T} {r : Int32} {a1 : Int32}  (h : fX0_fallen σ a1 = some r) : eu_KI l yX0_fallen (Cond.code yX0_fallen cX0_fallen 4 (some .int) :: eu_TB) ({ frames := 0, cells := 0, slots := 0, locals := 0 } : Room) 0 25 (fun ad => [.ref (ad 3), .int a1]) σ σ r :=
  eu_KI_of (by decide) (by decide) rfl (fun _ => Nat.le_of_ble_eq_true rfl) (fun E C => wX0_fallen C h)
theorem cw_X0_standing_X4_firstBits_54 {E : eu_E} (C : eu_C E ({ frames := 1, cells := 0, slots := 0, locals := 23 } : Room) 0 25 2 cX0_standing RX0 (Cond.code yX0_standing cX0_standing 2 (some .int) :: eu_TB) (some .int)) : va_CN (eu_R E) (eu_s E) (eu_a E) RX0 54 yX4_firstBits "EachUndoes" cX4_firstBits 1 (some .int) (Cond.code yX4_firstBits cX4_firstBits 1 (some .int) :: eu_TB) ({ frames := 0, cells := 0, slots := 0, locals := 0 } : Room) 0 0 1 ∧ (Cond.static yX4_firstBits).before (eu_a E) (eu_s E) = true ∧ True := eu_cnS C (List.mem_of_getElem? (i := 37) rfl) tw_288 tw_2 tw_289 rfl rfl (by decide +kernel) (by decide)
theorem cw_X0_standing_X0_fallen_57 {E : eu_E} (C : eu_C E ({ frames := 1, cells := 0, slots := 0, locals := 23 } : Room) 0 25 2 cX0_standing RX0 (Cond.code yX0_standing cX0_standing 2 (some .int) :: eu_TB) (some .int)) : CallW (eu_R E) (eu_s E) (eu_a E) RX0 RX0 57 yX0_fallen cX0_fallen 4 (some .int) (Cond.code yX0_fallen cX0_fallen 4 (some .int) :: eu_TB) ({ frames := 0, cells := 0, slots := 0, locals := 0 } : Room) 0 0 1 := eu_cwV C tw_301 tw_302 tw_303 tw_39 tw_304 rfl rfl (by decide +kernel) (by decide)
set_option maxHeartbeats 4000000 in
set_option maxRecDepth 100000 in
theorem wX0_standing {E : eu_E} (C : eu_C E ({ frames := 1, cells := 0, slots := 0, locals := 23 } : Room) 0 25 2 cX0_standing RX0 (Cond.code yX0_standing cX0_standing 2 (some .int) :: eu_TB) (some .int)) {σ : eu_T} {r : Int32} {a1 : Int32}  (h : fX0_standing σ a1 = some r) : eu_G E 0 25 2 (eu_QI E 0 25 σ r) σ 0 [(0, .ref (eu_ad E 3)), (1, .int a1)] [] := by
  unfold fX0_standing at h
  refine eg_aload_n C 0 dX0_standing_0 rfl ?_
  refine gf_X0_31 C (by decide) dX0_standing_1 ?_
  refine eg_scallNI C (cw_X0_standing_X4_firstBits_54 C) (av := [.int (σ 3 4)]) (kX4_firstBits rfl) rfl (st := []) rfl (Nat.le_of_ble_eq_true rfl) dX0_standing_4 ?_
  refine eg_aload_n C 0 dX0_standing_7 rfl ?_
  refine eg_iload_n C 1 dX0_standing_8 rfl ?_
  obtain ⟨r1, hr1, h⟩ := eu_bd_some h
  refine eg_callI C (cw_X0_standing_X0_fallen_57 C) (av := [.int a1]) 3 (by decide) (kX0_fallen hr1) rfl rfl rfl rfl (st := [.int (fX4_firstBits (σ 3 4))]) rfl (Nat.le_of_ble_eq_true rfl) dX0_standing_9 ?_
  refine eg_iconst C (-1 : Int32) dX0_standing_12 (by decide) ?_
  refine eg_ixor C dX0_standing_13 ?_
  refine eg_iand C dX0_standing_14 ?_
  obtain rfl := Option.some.inj h
  exact eg_iret C rfl dX0_standing_15
theorem kX0_standing {l : Launch} {σ : eu_T} {r : Int32} {a1 : Int32}  (h : fX0_standing σ a1 = some r) : eu_KI l yX0_standing (Cond.code yX0_standing cX0_standing 2 (some .int) :: eu_TB) ({ frames := 1, cells := 0, slots := 0, locals := 23 } : Room) 0 25 (fun ad => [.ref (ad 3), .int a1]) σ σ r :=
  eu_KI_of (by decide) (by decide) rfl (fun _ => Nat.le_of_ble_eq_true rfl) (fun E C => wX0_standing C h)
set_option maxHeartbeats 4000000 in
set_option maxRecDepth 100000 in
theorem wX4_bitOf {E : eu_E} (C : eu_C E ({ frames := 0, cells := 0, slots := 0, locals := 0 } : Room) 0 25 2 cX4_bitOf RX4 (Cond.code yX4_bitOf cX4_bitOf 2 (some .int) :: eu_TB) (some .int)) {σ : eu_T} {r : Int32} {a0 : Int32} {a1 : Int32}  (h : fX4_bitOf a0 a1 = r) : eu_G E 0 25 2 (eu_QI E 0 25 σ r) σ 0 [(0, .int a0), (1, .int a1)] [] := by
  unfold fX4_bitOf at h
  refine eg_iload_n C 0 dX4_bitOf_0 rfl ?_
  refine eg_iload_n C 1 dX4_bitOf_1 rfl ?_
  refine eg_ishr C dX4_bitOf_2 ?_
  refine eg_iconst C (1 : Int32) dX4_bitOf_3 (by decide) ?_
  refine eg_iand C dX4_bitOf_4 ?_
  subst h
  exact eg_iret C rfl dX4_bitOf_5
theorem kX4_bitOf {l : Launch} {σ : eu_T} {r : Int32} {a0 : Int32} {a1 : Int32}  (h : fX4_bitOf a0 a1 = r) : eu_KI l yX4_bitOf (Cond.code yX4_bitOf cX4_bitOf 2 (some .int) :: eu_TB) ({ frames := 0, cells := 0, slots := 0, locals := 0 } : Room) 0 25 (fun _ => [.int a0, .int a1]) σ σ r :=
  eu_KI_of (by decide) (by decide) rfl (fun _ => Nat.le_of_ble_eq_true rfl) (fun E C => wX4_bitOf C h)
