theorem cw_X1_isAsTold_X4_firstBits_57 {E : eu_E} (C : eu_C E ({ frames := 1, cells := 0, slots := 0, locals := 20 } : Room) 0 25 5 cX1_isAsTold RX1 (Cond.code yX1_isAsTold cX1_isAsTold 5 (some .boolean) :: eu_TB) (some .boolean)) : va_CN (eu_R E) (eu_s E) (eu_a E) RX1 57 yX4_firstBits "EachUndoes" cX4_firstBits 1 (some .int) (Cond.code yX4_firstBits cX4_firstBits 1 (some .int) :: eu_TB) ({ frames := 0, cells := 0, slots := 0, locals := 0 } : Room) 0 0 1 ∧ (Cond.static yX4_firstBits).before (eu_a E) (eu_s E) = true ∧ True := eu_cnS C (List.mem_of_getElem? (i := 49) rfl) tw_288 tw_2 tw_289 rfl rfl (by decide +kernel) (by decide)
set_option maxHeartbeats 4000000 in
set_option maxRecDepth 100000 in
theorem wX1_isAsTold_J33 {E : eu_E} (C : eu_C E ({ frames := 1, cells := 0, slots := 0, locals := 20 } : Room) 0 25 5 cX1_isAsTold RX1 (Cond.code yX1_isAsTold cX1_isAsTold 5 (some .boolean) :: eu_TB) (some .boolean)) {σ : eu_T} {r : Int32}     (h : fX1_isAsTold_J33 σ = r) : eu_G E 0 25 5 (eu_QI E 0 25 σ r) σ 33 [] [] := by
  unfold fX1_isAsTold_J33 at h
  refine eg_iconst C (0 : Int32) dX1_isAsTold_33 (by decide) ?_
  subst h
  exact eg_zret C rfl (by decide) dX1_isAsTold_34
set_option maxHeartbeats 4000000 in
set_option maxRecDepth 100000 in
theorem wX1_isAsTold {E : eu_E} (C : eu_C E ({ frames := 1, cells := 0, slots := 0, locals := 20 } : Room) 0 25 5 cX1_isAsTold RX1 (Cond.code yX1_isAsTold cX1_isAsTold 5 (some .boolean) :: eu_TB) (some .boolean)) {σ : eu_T} {r : Int32} {a1 : Int32} {a2 : Int32} {a3 : Int32}  (h : fX1_isAsTold σ a1 a2 a3 = r) : eu_G E 0 25 5 (eu_QI E 0 25 σ r) σ 0 [(0, .ref (eu_ad E 1)), (1, .int a1), (2, .int a2), (3, .int a3)] [] := by
  unfold fX1_isAsTold at h
  refine eg_iload_n C 2 dX1_isAsTold_0 rfl ?_
  refine eg_aload_n C 0 dX1_isAsTold_1 rfl ?_
  refine gf_X1_22 C (by decide) dX1_isAsTold_2 ?_
  refine gf_X1_56 C (by decide) dX1_isAsTold_5 ?_
  refine eg_scallNI C (cw_X1_isAsTold_X4_firstBits_57 C) (av := [.int (σ 3 4)]) (kX4_firstBits rfl) rfl (st := [.int a2]) rfl (Nat.le_of_ble_eq_true rfl) dX1_isAsTold_8 ?_
  refine eg_iand C dX1_isAsTold_11 ?_
  refine eg_istore C [(4, .int (a2 &&& (fX4_firstBits (σ 3 4)))), (0, .ref (eu_ad E 1)), (1, .int a1), (2, .int a2), (3, .int a3)] dX1_isAsTold_12 (by decide) rfl ?_
  refine eg_iload_n C 2 dX1_isAsTold_14 rfl ?_
  refine eg_iload C 0 dX1_isAsTold_15 rfl ?_
  refine eg_iand C dX1_isAsTold_17 ?_
  refine eg_iload C 0 dX1_isAsTold_18 rfl ?_
  refine eg_icmp_ne C 33 dX1_isAsTold_20 (by decide) (fun c => ?_) (fun c => ?_)
  · rw [if_neg c] at h
    refine eg_sub C [] rfl ?_
    exact wX1_isAsTold_J33 C h
  · rw [if_pos c] at h
    refine eg_iload_n C 2 dX1_isAsTold_23 rfl ?_
    refine eg_iload_n C 4 dX1_isAsTold_24 rfl ?_
    refine eg_iand C dX1_isAsTold_25 ?_
    refine eg_if_ne C 33 dX1_isAsTold_26 (by decide) (fun c => ?_) (fun c => ?_)
    · rw [if_neg c] at h
      refine eg_sub C [] rfl ?_
      exact wX1_isAsTold_J33 C h
    · rw [if_pos c] at h
      refine eg_iconst C (1 : Int32) dX1_isAsTold_29 (by decide) ?_
      refine eg_goto C 34 dX1_isAsTold_30 (by decide) ?_
      subst h
      exact eg_zret C rfl (by decide) dX1_isAsTold_34
theorem kX1_isAsTold {l : Launch} {σ : eu_T} {r : Int32} {a1 : Int32} {a2 : Int32} {a3 : Int32}  (h : fX1_isAsTold σ a1 a2 a3 = r) : eu_KI l yX1_isAsTold (Cond.code yX1_isAsTold cX1_isAsTold 5 (some .boolean) :: eu_TB) ({ frames := 1, cells := 0, slots := 0, locals := 20 } : Room) 0 25 (fun ad => [.ref (ad 1), .int a1, .int a2, .int a3]) σ σ r :=
  eu_KI_of (by decide) (by decide) rfl (fun _ => Nat.le_of_ble_eq_true rfl) (fun E C => wX1_isAsTold C h)
theorem cw_X1_takersOf_X3_ownerOf_60 {E : eu_E} (C : eu_C E ({ frames := 1, cells := 0, slots := 0, locals := 24 } : Room) 0 25 3 cX1_takersOf RX1 (Cond.code yX1_takersOf cX1_takersOf 3 (some .int) :: eu_TB) (some .int)) : va_CN (eu_R E) (eu_s E) (eu_a E) RX1 60 yX3_ownerOf "EachUndoes" cX3_ownerOf 5 (some .int) (Cond.code yX3_ownerOf cX3_ownerOf 5 (some .int) :: eu_TB) ({ frames := 0, cells := 0, slots := 0, locals := 0 } : Room) 0 0 2 ∧ (Cond.instanceMethod yX3_ownerOf).before (eu_a E) (eu_s E) = true ∧ (Cond.selects RX3 yX3_ownerOf yX3_ownerOf).before (eu_a E) (eu_s E) = true := eu_cnV C (List.mem_of_getElem? (i := 51) rfl) tw_236 tw_237 tw_28 tw_238 rfl rfl (by decide +kernel) (by decide)
set_option maxHeartbeats 4000000 in
set_option maxRecDepth 100000 in
theorem wX1_takersOf {E : eu_E} (C : eu_C E ({ frames := 1, cells := 0, slots := 0, locals := 24 } : Room) 0 25 3 cX1_takersOf RX1 (Cond.code yX1_takersOf cX1_takersOf 3 (some .int) :: eu_TB) (some .int)) {σ : eu_T} {r : Int32} {a1 : Int32}  (h : fX1_takersOf σ a1 = some r) : eu_G E 0 25 3 (eu_QI E 0 25 σ r) σ 0 [(0, .ref (eu_ad E 1)), (1, .int a1)] [] := by
  unfold fX1_takersOf at h
  refine eg_aload_n C 0 dX1_takersOf_0 rfl ?_
  refine gf_X1_12 C (by decide) dX1_takersOf_1 ?_
  refine eg_iload_n C 1 dX1_takersOf_4 rfl ?_
  refine eg_aload_n C 0 dX1_takersOf_5 rfl ?_
  refine gf_X1_32 C (by decide) dX1_takersOf_6 ?_
  obtain ⟨r1, hr1, h⟩ := eu_bd_some h
  refine eg_callNI C (cw_X1_takersOf_X3_ownerOf_60 C) (av := [.int a1, .int (σ 1 3)]) 2 (by decide) (kX3_ownerOf hr1) rfl rfl rfl rfl (st := []) rfl (Nat.le_of_ble_eq_true rfl) dX1_takersOf_9 ?_
  refine eg_istore_n C [(2, .int r1), (0, .ref (eu_ad E 1)), (1, .int a1)] dX1_takersOf_12 rfl (by decide) rfl ?_
  refine eg_iload_n C 0 dX1_takersOf_13 rfl ?_
  refine eg_iconst C (-1 : Int32) dX1_takersOf_14 (by decide) ?_
  refine eg_icmp_ne C 22 dX1_takersOf_15 (by decide) (fun c => ?_) (fun c => ?_)
  · rw [if_neg c] at h
    refine eg_aload_n C 1 dX1_takersOf_22 rfl ?_
    refine gf_X1_39 C (by decide) dX1_takersOf_23 ?_
    refine eg_iconst C (1 : Int32) dX1_takersOf_26 (by decide) ?_
    refine eg_iload_n C 0 dX1_takersOf_27 rfl ?_
    refine eg_ishl C dX1_takersOf_28 ?_
    refine eg_iconst C (-1 : Int32) dX1_takersOf_29 (by decide) ?_
    refine eg_ixor C dX1_takersOf_30 ?_
    refine eg_iand C dX1_takersOf_31 ?_
    obtain rfl := Option.some.inj h
    exact eg_iret C rfl dX1_takersOf_32
  · rw [if_pos c] at h
    refine eg_iconst C (0 : Int32) dX1_takersOf_18 (by decide) ?_
    refine eg_goto C 32 dX1_takersOf_19 (by decide) ?_
    obtain rfl := Option.some.inj h
    exact eg_iret C rfl dX1_takersOf_32
theorem kX1_takersOf {l : Launch} {σ : eu_T} {r : Int32} {a1 : Int32}  (h : fX1_takersOf σ a1 = some r) : eu_KI l yX1_takersOf (Cond.code yX1_takersOf cX1_takersOf 3 (some .int) :: eu_TB) ({ frames := 1, cells := 0, slots := 0, locals := 24 } : Room) 0 25 (fun ad => [.ref (ad 1), .int a1]) σ σ r :=
  eu_KI_of (by decide) (by decide) rfl (fun _ => Nat.le_of_ble_eq_true rfl) (fun E C => wX1_takersOf C h)
theorem cw_X1_leastTaker_X1_takersOf_64 {E : eu_E} (C : eu_C E ({ frames := 2, cells := 0, slots := 0, locals := 46 } : Room) 0 25 7 cX1_leastTaker RX1 (Cond.code yX1_leastTaker cX1_leastTaker 7 (some .int) :: eu_TB) (some .int)) : CallW (eu_R E) (eu_s E) (eu_a E) RX1 RX1 64 yX1_takersOf cX1_takersOf 3 (some .int) (Cond.code yX1_takersOf cX1_takersOf 3 (some .int) :: eu_TB) ({ frames := 1, cells := 0, slots := 0, locals := 24 } : Room) 0 0 1 := eu_cwV C tw_394 tw_395 tw_396 tw_14 tw_397 rfl rfl (by decide +kernel) (by decide)
theorem cw_X1_leastTaker_X4_bitOf_67 {E : eu_E} (C : eu_C E ({ frames := 2, cells := 0, slots := 0, locals := 46 } : Room) 0 25 7 cX1_leastTaker RX1 (Cond.code yX1_leastTaker cX1_leastTaker 7 (some .int) :: eu_TB) (some .int)) : va_CN (eu_R E) (eu_s E) (eu_a E) RX1 67 yX4_bitOf "EachUndoes" cX4_bitOf 2 (some .int) (Cond.code yX4_bitOf cX4_bitOf 2 (some .int) :: eu_TB) ({ frames := 0, cells := 0, slots := 0, locals := 0 } : Room) 0 0 2 ∧ (Cond.static yX4_bitOf).before (eu_a E) (eu_s E) = true ∧ True := eu_cnS C (List.mem_of_getElem? (i := 52) rfl) tw_158 tw_2 tw_159 rfl rfl (by decide +kernel) (by decide)
set_option maxHeartbeats 4000000 in
set_option maxRecDepth 100000 in
theorem wX1_leastTaker_L54 {E : eu_E} (C : eu_C E ({ frames := 2, cells := 0, slots := 0, locals := 46 } : Room) 0 25 7 cX1_leastTaker RX1 (Cond.code yX1_leastTaker cX1_leastTaker 7 (some .int) :: eu_TB) (some .int)) {σ : eu_T} {r : Int32}   : ∀ (n : Nat) (v4 : Int32) (v5 : Int32) (v6 : Int32), fX1_leastTaker_L54 σ n v4 v5 v6 = some r → eu_G E 0 25 7 (eu_QI E 0 25 σ r) σ 54 [(4, .int v4), (5, .int v5), (6, .int v6)] [] := by
  intro n
  induction n with
  | zero =>
    intro v4 v5 v6  h
    rw [fX1_leastTaker_L54_z] at h
    cases h
  | succ n ih =>
    intro v4 v5 v6  h
    rw [fX1_leastTaker_L54_s] at h
    refine eg_iload C 2 dX1_leastTaker_54 rfl ?_
    refine eg_bipush C (6 : Int32) dX1_leastTaker_56 (by decide) ?_
    refine eg_icmp_ge C 93 dX1_leastTaker_58 (by decide) (fun c => ?_) (fun c => ?_)
    · rw [if_pos c] at h
      refine eg_iconst C (-1 : Int32) dX1_leastTaker_93 (by decide) ?_
      obtain rfl := Option.some.inj h
      exact eg_iret C rfl dX1_leastTaker_94
    · rw [if_neg c] at h
      refine eg_iload C 0 dX1_leastTaker_61 rfl ?_
      refine eg_iload C 2 dX1_leastTaker_63 rfl ?_
      refine eg_scallNI C (cw_X1_leastTaker_X4_bitOf_67 C) (av := [.int v4, .int v6]) (kX4_bitOf rfl) rfl (st := []) rfl (Nat.le_of_ble_eq_true rfl) dX1_leastTaker_65 ?_
      refine eg_iconst C (1 : Int32) dX1_leastTaker_68 (by decide) ?_
      refine eg_icmp_ne C 87 dX1_leastTaker_69 (by decide) (fun c => ?_) (fun c => ?_)
      · rw [if_neg c] at h
        refine eg_iinc C 2 (v6 + (1 : Int32)) [(6, .int (v6 + (1 : Int32))), (4, .int v4), (5, .int v5)] dX1_leastTaker_87 rfl rfl (by decide) rfl ?_
        refine eg_goto C 54 dX1_leastTaker_90 (by decide) ?_
        refine eg_sub C [1, 2, 0] rfl ?_
        exact ih _ _ _ h
      · rw [if_pos c] at h
        refine eg_iload C 1 dX1_leastTaker_72 rfl ?_
        refine eg_iconst C (1 : Int32) dX1_leastTaker_74 (by decide) ?_
        refine eg_iload C 2 dX1_leastTaker_75 rfl ?_
        refine eg_ishl C dX1_leastTaker_77 ?_
        refine eg_iconst C (-1 : Int32) dX1_leastTaker_78 (by decide) ?_
        refine eg_ixor C dX1_leastTaker_79 ?_
        refine eg_iand C dX1_leastTaker_80 ?_
        refine eg_if_eq C 87 dX1_leastTaker_81 (by decide) (fun c => ?_) (fun c => ?_)
        · rw [if_pos c] at h
          refine eg_iinc C 2 (v6 + (1 : Int32)) [(6, .int (v6 + (1 : Int32))), (4, .int v4), (5, .int v5)] dX1_leastTaker_87 rfl rfl (by decide) rfl ?_
          refine eg_goto C 54 dX1_leastTaker_90 (by decide) ?_
          refine eg_sub C [1, 2, 0] rfl ?_
          exact ih _ _ _ h
        · rw [if_neg c] at h
          refine eg_iload C 2 dX1_leastTaker_84 rfl ?_
          obtain rfl := Option.some.inj h
          exact eg_iret C rfl dX1_leastTaker_86
set_option maxHeartbeats 4000000 in
set_option maxRecDepth 100000 in
theorem wX1_leastTaker_J10 {E : eu_E} (C : eu_C E ({ frames := 2, cells := 0, slots := 0, locals := 46 } : Room) 0 25 7 cX1_leastTaker RX1 (Cond.code yX1_leastTaker cX1_leastTaker 7 (some .int) :: eu_TB) (some .int)) {σ : eu_T} {r : Int32}   (v1 : Int32) (v2 : Int32) (s0 : Int32)  (h : fX1_leastTaker_J10 σ v1 v2 s0 = some r) : eu_G E 0 25 7 (eu_QI E 0 25 σ r) σ 10 [(0, .ref (eu_ad E 1)), (1, .int v1), (2, .int v2)] [.int s0] := by
  unfold fX1_leastTaker_J10 at h
  refine eg_istore_n C [(3, .int s0), (0, .ref (eu_ad E 1)), (1, .int v1), (2, .int v2)] dX1_leastTaker_10 rfl (by decide) rfl ?_
  refine eg_aload_n C 1 dX1_leastTaker_11 rfl ?_
  refine gf_X1_12 C (by decide) dX1_leastTaker_12 ?_
  refine gf_X1_41 C (by decide) dX1_leastTaker_15 ?_
  refine eg_iload_n C 0 dX1_leastTaker_18 rfl ?_
  refine eg_iadd C dX1_leastTaker_19 ?_
  refine eg_bipush C (12 : Int32) dX1_leastTaker_20 (by decide) ?_
  refine eg_icmp_le C 27 dX1_leastTaker_22 (by decide) (fun c => ?_) (fun c => ?_)
  · rw [if_pos c] at h
    refine eg_aload_n C 1 dX1_leastTaker_27 rfl ?_
    refine eg_iload_n C 2 dX1_leastTaker_28 rfl ?_
    obtain ⟨r1, hr1, h⟩ := eu_bd_some h
    refine eg_callI C (cw_X1_leastTaker_X1_takersOf_64 C) (av := [.int v1]) 1 (by decide) (kX1_takersOf hr1) rfl rfl rfl rfl (st := []) rfl (Nat.le_of_ble_eq_true rfl) dX1_leastTaker_29 ?_
    refine eg_istore C [(4, .int r1), (3, .int s0), (0, .ref (eu_ad E 1)), (1, .int v1), (2, .int v2)] dX1_leastTaker_32 (by decide) rfl ?_
    refine eg_iload_n C 4 dX1_leastTaker_34 rfl ?_
    refine eg_iconst C (-1 : Int32) dX1_leastTaker_35 (by decide) ?_
    refine eg_icmp_ne C 44 dX1_leastTaker_36 (by decide) (fun c => ?_) (fun c => ?_)
    · rw [if_neg c] at h
      refine eg_aload_n C 2 dX1_leastTaker_44 rfl ?_
      refine eg_iload_n C 4 dX1_leastTaker_45 rfl ?_
      obtain ⟨r2, hr2, h⟩ := eu_bd_some h
      refine eg_callI C (cw_X1_leastTaker_X1_takersOf_64 C) (av := [.int v2]) 1 (by decide) (kX1_takersOf hr2) rfl rfl rfl rfl (st := []) rfl (Nat.le_of_ble_eq_true rfl) dX1_leastTaker_46 ?_
      refine eg_istore C [(5, .int r2), (4, .int r1), (3, .int s0), (0, .ref (eu_ad E 1)), (1, .int v1), (2, .int v2)] dX1_leastTaker_49 (by decide) rfl ?_
      refine eg_iconst C (0 : Int32) dX1_leastTaker_51 (by decide) ?_
      refine eg_istore C [(6, .int (0 : Int32)), (5, .int r2), (4, .int r1), (3, .int s0), (0, .ref (eu_ad E 1)), (1, .int v1), (2, .int v2)] dX1_leastTaker_52 (by decide) rfl ?_
      refine eg_sub C [2, 1, 0] rfl ?_
      exact wX1_leastTaker_L54 C 200 _ _ _ h
    · rw [if_pos c] at h
      refine eg_bipush C (63 : Int32) dX1_leastTaker_39 (by decide) ?_
      refine eg_goto C 49 dX1_leastTaker_41 (by decide) ?_
      refine eg_istore C [(5, .int (63 : Int32)), (4, .int r1), (3, .int s0), (0, .ref (eu_ad E 1)), (1, .int v1), (2, .int v2)] dX1_leastTaker_49 (by decide) rfl ?_
      refine eg_iconst C (0 : Int32) dX1_leastTaker_51 (by decide) ?_
      refine eg_istore C [(6, .int (0 : Int32)), (5, .int (63 : Int32)), (4, .int r1), (3, .int s0), (0, .ref (eu_ad E 1)), (1, .int v1), (2, .int v2)] dX1_leastTaker_52 (by decide) rfl ?_
      refine eg_sub C [2, 1, 0] rfl ?_
      exact wX1_leastTaker_L54 C 200 _ _ _ h
  · rw [if_neg c] at h
    refine eg_iconst C (-1 : Int32) dX1_leastTaker_25 (by decide) ?_
    obtain rfl := Option.some.inj h
    exact eg_iret C rfl dX1_leastTaker_26
set_option maxHeartbeats 4000000 in
set_option maxRecDepth 100000 in
theorem wX1_leastTaker {E : eu_E} (C : eu_C E ({ frames := 2, cells := 0, slots := 0, locals := 46 } : Room) 0 25 7 cX1_leastTaker RX1 (Cond.code yX1_leastTaker cX1_leastTaker 7 (some .int) :: eu_TB) (some .int)) {σ : eu_T} {r : Int32} {a1 : Int32} {a2 : Int32}  (h : fX1_leastTaker σ a1 a2 = some r) : eu_G E 0 25 7 (eu_QI E 0 25 σ r) σ 0 [(0, .ref (eu_ad E 1)), (1, .int a1), (2, .int a2)] [] := by
  unfold fX1_leastTaker at h
  refine eg_iload_n C 2 dX1_leastTaker_0 rfl ?_
  refine eg_iconst C (-1 : Int32) dX1_leastTaker_1 (by decide) ?_
  refine eg_icmp_ne C 9 dX1_leastTaker_2 (by decide) (fun c => ?_) (fun c => ?_)
  · rw [if_neg c] at h
    refine eg_iconst C (2 : Int32) dX1_leastTaker_9 (by decide) ?_
    refine eg_sub C [0, 1, 2] rfl ?_
    exact wX1_leastTaker_J10 C _ _ _ h
  · rw [if_pos c] at h
    refine eg_iconst C (1 : Int32) dX1_leastTaker_5 (by decide) ?_
    refine eg_goto C 10 dX1_leastTaker_6 (by decide) ?_
    refine eg_sub C [0, 1, 2] rfl ?_
    exact wX1_leastTaker_J10 C _ _ _ h
theorem kX1_leastTaker {l : Launch} {σ : eu_T} {r : Int32} {a1 : Int32} {a2 : Int32}  (h : fX1_leastTaker σ a1 a2 = some r) : eu_KI l yX1_leastTaker (Cond.code yX1_leastTaker cX1_leastTaker 7 (some .int) :: eu_TB) ({ frames := 2, cells := 0, slots := 0, locals := 46 } : Room) 0 25 (fun ad => [.ref (ad 1), .int a1, .int a2]) σ σ r :=
  eu_KI_of (by decide) (by decide) rfl (fun _ => Nat.le_of_ble_eq_true rfl) (fun E C => wX1_leastTaker C h)
theorem cw_X1_leastFirst_X1_leastTaker_70 {E : eu_E} (C : eu_C E ({ frames := 3, cells := 0, slots := 0, locals := 72 } : Room) 0 25 12 cX1_leastFirst RX1 (Cond.code yX1_leastFirst cX1_leastFirst 12 (some .int) :: eu_TB) (some .int)) : CallW (eu_R E) (eu_s E) (eu_a E) RX1 RX1 70 yX1_leastTaker cX1_leastTaker 7 (some .int) (Cond.code yX1_leastTaker cX1_leastTaker 7 (some .int) :: eu_TB) ({ frames := 2, cells := 0, slots := 0, locals := 46 } : Room) 0 0 2 := eu_cwV C tw_390 tw_391 tw_392 tw_14 tw_393 rfl rfl (by decide +kernel) (by decide)
theorem cw_X1_leastFirst_X1_standingWith_73 {E : eu_E} (C : eu_C E ({ frames := 3, cells := 0, slots := 0, locals := 72 } : Room) 0 25 12 cX1_leastFirst RX1 (Cond.code yX1_leastFirst cX1_leastFirst 12 (some .int) :: eu_TB) (some .int)) : CallW (eu_R E) (eu_s E) (eu_a E) RX1 RX1 73 yX1_standingWith cX1_standingWith 5 (some .int) (Cond.code yX1_standingWith cX1_standingWith 5 (some .int) :: eu_TB) ({ frames := 2, cells := 0, slots := 0, locals := 48 } : Room) 0 0 2 := eu_cwV C tw_398 tw_381 tw_382 tw_14 tw_383 rfl rfl (by decide +kernel) (by decide)
theorem cw_X1_leastFirst_X1_isAsTold_76 {E : eu_E} (C : eu_C E ({ frames := 3, cells := 0, slots := 0, locals := 72 } : Room) 0 25 12 cX1_leastFirst RX1 (Cond.code yX1_leastFirst cX1_leastFirst 12 (some .int) :: eu_TB) (some .int)) : CallW (eu_R E) (eu_s E) (eu_a E) RX1 RX1 76 yX1_isAsTold cX1_isAsTold 5 (some .boolean) (Cond.code yX1_isAsTold cX1_isAsTold 5 (some .boolean) :: eu_TB) ({ frames := 1, cells := 0, slots := 0, locals := 20 } : Room) 0 0 3 := eu_cwV C tw_399 tw_384 tw_385 tw_14 tw_386 rfl rfl (by decide +kernel) (by decide)
set_option maxHeartbeats 4000000 in
set_option maxRecDepth 100000 in
theorem wX1_leastFirst_J96 {E : eu_E} (C : eu_C E ({ frames := 3, cells := 0, slots := 0, locals := 72 } : Room) 0 25 12 cX1_leastFirst RX1 (Cond.code yX1_leastFirst cX1_leastFirst 12 (some .int) :: eu_TB) (some .int)) {r : Int32} {σ' : eu_T} {k31 : eu_T → Int32 → Int32 → Int32 → Int32 → Int32 → Int32 → Option (Int32 × eu_T)} {k42 : eu_T → Int32 → Int32 → Int32 → Int32 → Int32 → Int32 → Int32 → Option (Int32 × eu_T)} (hk_31 : ∀ (σ : eu_T) (v1 : Int32) (v2 : Int32) (v4 : Int32) (v5 : Int32) (v6 : Int32) (v7 : Int32), k31 σ v1 v2 v4 v5 v6 v7 = some (r, σ') → eu_G E 0 25 12 (eu_QI E 0 25 σ' r) σ 31 [(0, .ref (eu_ad E 1)), (1, .int v1), (2, .int v2), (4, .int v4), (5, .int v5), (6, .int v6), (7, .int v7)] []) (hk_42 : ∀ (σ : eu_T) (v1 : Int32) (v2 : Int32) (v4 : Int32) (v5 : Int32) (v6 : Int32) (v7 : Int32) (v8 : Int32), k42 σ v1 v2 v4 v5 v6 v7 v8 = some (r, σ') → eu_G E 0 25 12 (eu_QI E 0 25 σ' r) σ 42 [(0, .ref (eu_ad E 1)), (1, .int v1), (2, .int v2), (4, .int v4), (5, .int v5), (6, .int v6), (7, .int v7), (8, .int v8)] []) (σ : eu_T) (v1 : Int32) (v2 : Int32) (v4 : Int32) (v5 : Int32) (v6 : Int32) (v7 : Int32) (v8 : Int32) (v10 : Int32) (s0 : Int32)  (h : fX1_leastFirst_J96 k31 k42 σ v1 v2 v4 v5 v6 v7 v8 v10 s0 = some (r, σ')) : eu_G E 0 25 12 (eu_QI E 0 25 σ' r) σ 96 [(0, .ref (eu_ad E 1)), (1, .int v1), (2, .int v2), (4, .int v4), (5, .int v5), (6, .int v6), (7, .int v7), (8, .int v8), (10, .int v10)] [.int s0] := by
  unfold fX1_leastFirst_J96 at h
  refine eg_istore C [(11, .int s0), (0, .ref (eu_ad E 1)), (1, .int v1), (2, .int v2), (4, .int v4), (5, .int v5), (6, .int v6), (7, .int v7), (8, .int v8), (10, .int v10)] dX1_leastFirst_96 (by decide) rfl ?_
  refine eg_iload C 0 dX1_leastFirst_98 rfl ?_
  refine eg_if_eq C 124 dX1_leastFirst_100 (by decide) (fun c => ?_) (fun c => ?_)
  · rw [if_pos c] at h
    refine eg_iinc C 8 (v8 + (1 : Int32)) [(8, .int (v8 + (1 : Int32))), (11, .int s0), (0, .ref (eu_ad E 1)), (1, .int v1), (2, .int v2), (4, .int v4), (5, .int v5), (6, .int v6), (7, .int v7), (10, .int v10)] dX1_leastFirst_124 rfl rfl (by decide) rfl ?_
    refine eg_goto C 42 dX1_leastFirst_127 (by decide) ?_
    refine eg_sub C [2, 3, 4, 5, 6, 7, 8, 0] rfl ?_
    exact hk_42 _ _ _ _ _ _ _ _ h
  · rw [if_neg c] at h
    refine eg_aload_n C 1 dX1_leastFirst_103 rfl ?_
    refine eg_aload_n C 1 dX1_leastFirst_104 rfl ?_
    refine eg_iload C 7 dX1_leastFirst_105 rfl ?_
    refine eg_iload C 8 dX1_leastFirst_107 rfl ?_
    obtain ⟨r2, σ3, hr2, h⟩ := eu_b2_some h
    refine eg_callI C (cw_X1_leastFirst_X1_standingWith_73 C) (av := [.int v7, .int v8]) 1 (by decide) (kX1_standingWith hr2) rfl rfl rfl rfl (st := [.ref (eu_ad E 1)]) rfl (Nat.le_of_ble_eq_true rfl) dX1_leastFirst_109 ?_
    refine eg_iload_n C 2 dX1_leastFirst_112 rfl ?_
    refine eg_iload_n C 3 dX1_leastFirst_113 rfl ?_
    refine eg_callI C (cw_X1_leastFirst_X1_isAsTold_76 C) (av := [.int r2, .int v1, .int v2]) 1 (by decide) (kX1_isAsTold rfl) rfl rfl rfl rfl (st := []) rfl (Nat.le_of_ble_eq_true rfl) dX1_leastFirst_114 ?_
    refine eg_if_eq C 124 dX1_leastFirst_117 (by decide) (fun c => ?_) (fun c => ?_)
    · rw [if_pos c] at h
      refine eg_iinc C 8 (v8 + (1 : Int32)) [(8, .int (v8 + (1 : Int32))), (11, .int s0), (0, .ref (eu_ad E 1)), (1, .int v1), (2, .int v2), (4, .int v4), (5, .int v5), (6, .int v6), (7, .int v7), (10, .int v10)] dX1_leastFirst_124 rfl rfl (by decide) rfl ?_
      refine eg_goto C 42 dX1_leastFirst_127 (by decide) ?_
      refine eg_sub C [2, 3, 4, 5, 6, 7, 8, 0] rfl ?_
      exact hk_42 _ _ _ _ _ _ _ _ h
    · rw [if_neg c] at h
      refine eg_iload C 9 dX1_leastFirst_120 rfl ?_
      refine eg_istore C [(6, .int v10), (11, .int s0), (0, .ref (eu_ad E 1)), (1, .int v1), (2, .int v2), (4, .int v4), (5, .int v5), (7, .int v7), (8, .int v8), (10, .int v10)] dX1_leastFirst_122 (by decide) rfl ?_
      refine eg_iinc C 8 (v8 + (1 : Int32)) [(8, .int (v8 + (1 : Int32))), (6, .int v10), (11, .int s0), (0, .ref (eu_ad E 1)), (1, .int v1), (2, .int v2), (4, .int v4), (5, .int v5), (7, .int v7), (10, .int v10)] dX1_leastFirst_124 rfl rfl (by decide) rfl ?_
      refine eg_goto C 42 dX1_leastFirst_127 (by decide) ?_
      refine eg_sub C [3, 4, 5, 6, 7, 1, 8, 0] rfl ?_
      exact hk_42 _ _ _ _ _ _ _ _ h
set_option maxHeartbeats 4000000 in
set_option maxRecDepth 100000 in
theorem wX1_leastFirst_J91 {E : eu_E} (C : eu_C E ({ frames := 3, cells := 0, slots := 0, locals := 72 } : Room) 0 25 12 cX1_leastFirst RX1 (Cond.code yX1_leastFirst cX1_leastFirst 12 (some .int) :: eu_TB) (some .int)) {r : Int32} {σ' : eu_T} {k31 : eu_T → Int32 → Int32 → Int32 → Int32 → Int32 → Int32 → Option (Int32 × eu_T)} {k42 : eu_T → Int32 → Int32 → Int32 → Int32 → Int32 → Int32 → Int32 → Option (Int32 × eu_T)} (hk_31 : ∀ (σ : eu_T) (v1 : Int32) (v2 : Int32) (v4 : Int32) (v5 : Int32) (v6 : Int32) (v7 : Int32), k31 σ v1 v2 v4 v5 v6 v7 = some (r, σ') → eu_G E 0 25 12 (eu_QI E 0 25 σ' r) σ 31 [(0, .ref (eu_ad E 1)), (1, .int v1), (2, .int v2), (4, .int v4), (5, .int v5), (6, .int v6), (7, .int v7)] []) (hk_42 : ∀ (σ : eu_T) (v1 : Int32) (v2 : Int32) (v4 : Int32) (v5 : Int32) (v6 : Int32) (v7 : Int32) (v8 : Int32), k42 σ v1 v2 v4 v5 v6 v7 v8 = some (r, σ') → eu_G E 0 25 12 (eu_QI E 0 25 σ' r) σ 42 [(0, .ref (eu_ad E 1)), (1, .int v1), (2, .int v2), (4, .int v4), (5, .int v5), (6, .int v6), (7, .int v7), (8, .int v8)] []) (σ : eu_T) (v1 : Int32) (v2 : Int32) (v4 : Int32) (v5 : Int32) (v6 : Int32) (v7 : Int32) (v8 : Int32) (v10 : Int32)  (h : fX1_leastFirst_J91 k31 k42 σ v1 v2 v4 v5 v6 v7 v8 v10 = some (r, σ')) : eu_G E 0 25 12 (eu_QI E 0 25 σ' r) σ 91 [(0, .ref (eu_ad E 1)), (1, .int v1), (2, .int v2), (4, .int v4), (5, .int v5), (6, .int v6), (7, .int v7), (8, .int v8), (10, .int v10)] [] := by
  unfold fX1_leastFirst_J91 at h
  refine eg_iconst C (1 : Int32) dX1_leastFirst_91 (by decide) ?_
  refine eg_goto C 96 dX1_leastFirst_92 (by decide) ?_
  refine eg_sub C [0, 1, 2, 3, 4, 5, 6, 7, 8] rfl ?_
  exact wX1_leastFirst_J96 C hk_31 hk_42 _ _ _ _ _ _ _ _ _ _ h
set_option maxHeartbeats 4000000 in
set_option maxRecDepth 100000 in
theorem wX1_leastFirst_L42 {E : eu_E} (C : eu_C E ({ frames := 3, cells := 0, slots := 0, locals := 72 } : Room) 0 25 12 cX1_leastFirst RX1 (Cond.code yX1_leastFirst cX1_leastFirst 12 (some .int) :: eu_TB) (some .int)) {r : Int32} {σ' : eu_T} {k31 : eu_T → Int32 → Int32 → Int32 → Int32 → Int32 → Int32 → Option (Int32 × eu_T)} (hk_31 : ∀ (σ : eu_T) (v1 : Int32) (v2 : Int32) (v4 : Int32) (v5 : Int32) (v6 : Int32) (v7 : Int32), k31 σ v1 v2 v4 v5 v6 v7 = some (r, σ') → eu_G E 0 25 12 (eu_QI E 0 25 σ' r) σ 31 [(0, .ref (eu_ad E 1)), (1, .int v1), (2, .int v2), (4, .int v4), (5, .int v5), (6, .int v6), (7, .int v7)] []) : ∀ (n : Nat) (σ : eu_T) (v1 : Int32) (v2 : Int32) (v4 : Int32) (v5 : Int32) (v6 : Int32) (v7 : Int32) (v8 : Int32), fX1_leastFirst_L42 k31 n σ v1 v2 v4 v5 v6 v7 v8 = some (r, σ') → eu_G E 0 25 12 (eu_QI E 0 25 σ' r) σ 42 [(0, .ref (eu_ad E 1)), (1, .int v1), (2, .int v2), (4, .int v4), (5, .int v5), (6, .int v6), (7, .int v7), (8, .int v8)] [] := by
  intro n
  induction n with
  | zero =>
    intro σ v1 v2 v4 v5 v6 v7 v8  h
    rw [fX1_leastFirst_L42_z] at h
    cases h
  | succ n ih =>
    intro σ v1 v2 v4 v5 v6 v7 v8  h
    rw [fX1_leastFirst_L42_s] at h
    refine eg_iload C 7 dX1_leastFirst_42 rfl ?_
    refine eg_iload C 4 dX1_leastFirst_44 rfl ?_
    refine eg_icmp_ge C 130 dX1_leastFirst_46 (by decide) (fun c => ?_) (fun c => ?_)
    · rw [if_pos c] at h
      refine eg_iinc C 6 (v7 + (1 : Int32)) [(7, .int (v7 + (1 : Int32))), (0, .ref (eu_ad E 1)), (1, .int v1), (2, .int v2), (4, .int v4), (5, .int v5), (6, .int v6), (8, .int v8)] dX1_leastFirst_130 rfl rfl (by decide) rfl ?_
      refine eg_goto C 31 dX1_leastFirst_133 (by decide) ?_
      refine eg_sub C [1, 2, 3, 4, 5, 6, 0] rfl ?_
      exact hk_31 _ _ _ _ _ _ _ h
    · rw [if_neg c] at h
      refine eg_aload_n C 0 dX1_leastFirst_49 rfl ?_
      refine eg_iload C 6 dX1_leastFirst_50 rfl ?_
      refine eg_iload C 7 dX1_leastFirst_52 rfl ?_
      obtain ⟨r1, hr1, h⟩ := eu_bd_some h
      refine eg_callI C (cw_X1_leastFirst_X1_leastTaker_70 C) (av := [.int v7, .int v8]) 1 (by decide) (kX1_leastTaker hr1) rfl rfl rfl rfl (st := []) rfl (Nat.le_of_ble_eq_true rfl) dX1_leastFirst_54 ?_
      refine eg_istore C [(9, .int r1), (0, .ref (eu_ad E 1)), (1, .int v1), (2, .int v2), (4, .int v4), (5, .int v5), (6, .int v6), (7, .int v7), (8, .int v8)] dX1_leastFirst_57 (by decide) rfl ?_
      refine eg_iload C 0 dX1_leastFirst_59 rfl ?_
      refine eg_iconst C (-1 : Int32) dX1_leastFirst_61 (by decide) ?_
      refine eg_icmp_ne C 68 dX1_leastFirst_62 (by decide) (fun c => ?_) (fun c => ?_)
      · rw [if_neg c] at h
        refine eg_bipush C (24 : Int32) dX1_leastFirst_68 (by decide) ?_
        refine eg_iload C 0 dX1_leastFirst_70 rfl ?_
        refine eg_imul C dX1_leastFirst_72 ?_
        refine eg_iload C 7 dX1_leastFirst_73 rfl ?_
        refine eg_iadd C dX1_leastFirst_75 ?_
        refine eg_istore C [(10, .int (((24 : Int32) * r1) + v7)), (9, .int r1), (0, .ref (eu_ad E 1)), (1, .int v1), (2, .int v2), (4, .int v4), (5, .int v5), (6, .int v6), (7, .int v7), (8, .int v8)] dX1_leastFirst_76 (by decide) rfl ?_
        refine eg_iload C 7 dX1_leastFirst_78 rfl ?_
        refine eg_iconst C (-1 : Int32) dX1_leastFirst_80 (by decide) ?_
        refine eg_icmp_eq C 91 dX1_leastFirst_81 (by decide) (fun c => ?_) (fun c => ?_)
        · rw [if_pos c] at h
          refine eg_sub C [2, 3, 4, 5, 6, 7, 8, 9, 0] rfl ?_
          exact wX1_leastFirst_J91 C hk_31 ih _ _ _ _ _ _ _ _ _ h
        · rw [if_neg c] at h
          refine eg_iload C 0 dX1_leastFirst_84 rfl ?_
          refine eg_iload C 7 dX1_leastFirst_86 rfl ?_
          refine eg_icmp_ge C 95 dX1_leastFirst_88 (by decide) (fun c => ?_) (fun c => ?_)
          · rw [if_pos c] at h
            refine eg_iconst C (0 : Int32) dX1_leastFirst_95 (by decide) ?_
            refine eg_sub C [2, 3, 4, 5, 6, 7, 8, 9, 0] rfl ?_
            exact wX1_leastFirst_J96 C hk_31 ih _ _ _ _ _ _ _ _ _ _ h
          · rw [if_neg c] at h
            refine eg_sub C [2, 3, 4, 5, 6, 7, 8, 9, 0] rfl ?_
            exact wX1_leastFirst_J91 C hk_31 ih _ _ _ _ _ _ _ _ _ h
      · rw [if_pos c] at h
        refine eg_goto C 124 dX1_leastFirst_65 (by decide) ?_
        refine eg_iinc C 8 (v8 + (1 : Int32)) [(8, .int (v8 + (1 : Int32))), (9, .int r1), (0, .ref (eu_ad E 1)), (1, .int v1), (2, .int v2), (4, .int v4), (5, .int v5), (6, .int v6), (7, .int v7)] dX1_leastFirst_124 rfl rfl (by decide) rfl ?_
        refine eg_goto C 42 dX1_leastFirst_127 (by decide) ?_
        refine eg_sub C [2, 3, 4, 5, 6, 7, 8, 0] rfl ?_
        exact ih _ _ _ _ _ _ _ _ h
set_option maxHeartbeats 4000000 in
set_option maxRecDepth 100000 in
theorem wX1_leastFirst_L31 {E : eu_E} (C : eu_C E ({ frames := 3, cells := 0, slots := 0, locals := 72 } : Room) 0 25 12 cX1_leastFirst RX1 (Cond.code yX1_leastFirst cX1_leastFirst 12 (some .int) :: eu_TB) (some .int)) {r : Int32} {σ' : eu_T}   : ∀ (n : Nat) (σ : eu_T) (v1 : Int32) (v2 : Int32) (v4 : Int32) (v5 : Int32) (v6 : Int32) (v7 : Int32), fX1_leastFirst_L31 n σ v1 v2 v4 v5 v6 v7 = some (r, σ') → eu_G E 0 25 12 (eu_QI E 0 25 σ' r) σ 31 [(0, .ref (eu_ad E 1)), (1, .int v1), (2, .int v2), (4, .int v4), (5, .int v5), (6, .int v6), (7, .int v7)] [] := by
  intro n
  induction n with
  | zero =>
    intro σ v1 v2 v4 v5 v6 v7  h
    rw [fX1_leastFirst_L31_z] at h
    cases h
  | succ n ih =>
    intro σ v1 v2 v4 v5 v6 v7  h
    rw [fX1_leastFirst_L31_s] at h
    refine eg_iload C 6 dX1_leastFirst_31 rfl ?_
    refine eg_bipush C (24 : Int32) dX1_leastFirst_33 (by decide) ?_
    refine eg_icmp_ge C 136 dX1_leastFirst_35 (by decide) (fun c => ?_) (fun c => ?_)
    · rw [if_pos c] at h
      refine eg_iload C 5 dX1_leastFirst_136 rfl ?_
      obtain ⟨rfl, rfl⟩ := eu_inj2 h
      exact eg_iret C rfl dX1_leastFirst_138
    · rw [if_neg c] at h
      refine eg_iload C 3 dX1_leastFirst_38 rfl ?_
      refine eg_istore C [(8, .int v4), (0, .ref (eu_ad E 1)), (1, .int v1), (2, .int v2), (4, .int v4), (5, .int v5), (6, .int v6), (7, .int v7)] dX1_leastFirst_40 (by decide) rfl ?_
      refine eg_sub C [1, 2, 3, 4, 5, 6, 7, 0] rfl ?_
      exact wX1_leastFirst_L42 C ih 200 _ _ _ _ _ _ _ _ h
set_option maxHeartbeats 4000000 in
set_option maxRecDepth 100000 in
theorem wX1_leastFirst_J23 {E : eu_E} (C : eu_C E ({ frames := 3, cells := 0, slots := 0, locals := 72 } : Room) 0 25 12 cX1_leastFirst RX1 (Cond.code yX1_leastFirst cX1_leastFirst 12 (some .int) :: eu_TB) (some .int)) {r : Int32} {σ' : eu_T}   (σ : eu_T) (v1 : Int32) (v2 : Int32) (v4 : Int32) (s0 : Int32)  (h : fX1_leastFirst_J23  σ v1 v2 v4 s0 = some (r, σ')) : eu_G E 0 25 12 (eu_QI E 0 25 σ' r) σ 23 [(0, .ref (eu_ad E 1)), (1, .int v1), (2, .int v2), (4, .int v4)] [.int s0] := by
  unfold fX1_leastFirst_J23 at h
  refine eg_istore C [(5, .int s0), (0, .ref (eu_ad E 1)), (1, .int v1), (2, .int v2), (4, .int v4)] dX1_leastFirst_23 (by decide) rfl ?_
  refine eg_iconst C (-1 : Int32) dX1_leastFirst_25 (by decide) ?_
  refine eg_istore C [(6, .int (-1 : Int32)), (5, .int s0), (0, .ref (eu_ad E 1)), (1, .int v1), (2, .int v2), (4, .int v4)] dX1_leastFirst_26 (by decide) rfl ?_
  refine eg_iconst C (0 : Int32) dX1_leastFirst_28 (by decide) ?_
  refine eg_istore C [(7, .int (0 : Int32)), (6, .int (-1 : Int32)), (5, .int s0), (0, .ref (eu_ad E 1)), (1, .int v1), (2, .int v2), (4, .int v4)] dX1_leastFirst_29 (by decide) rfl ?_
  refine eg_sub C [3, 4, 5, 6, 2, 1, 0] rfl ?_
  exact wX1_leastFirst_L31 C 200 _ _ _ _ _ _ _ h
set_option maxHeartbeats 4000000 in
set_option maxRecDepth 100000 in
theorem wX1_leastFirst_J10 {E : eu_E} (C : eu_C E ({ frames := 3, cells := 0, slots := 0, locals := 72 } : Room) 0 25 12 cX1_leastFirst RX1 (Cond.code yX1_leastFirst cX1_leastFirst 12 (some .int) :: eu_TB) (some .int)) {r : Int32} {σ' : eu_T}   (σ : eu_T) (v1 : Int32) (v2 : Int32) (v3 : Int32) (s0 : Int32)  (h : fX1_leastFirst_J10  σ v1 v2 v3 s0 = some (r, σ')) : eu_G E 0 25 12 (eu_QI E 0 25 σ' r) σ 10 [(0, .ref (eu_ad E 1)), (1, .int v1), (2, .int v2), (3, .int v3)] [.int s0] := by
  unfold fX1_leastFirst_J10 at h
  refine eg_istore C [(4, .int s0), (0, .ref (eu_ad E 1)), (1, .int v1), (2, .int v2), (3, .int v3)] dX1_leastFirst_10 (by decide) rfl ?_
  refine eg_iload_n C 4 dX1_leastFirst_12 rfl ?_
  refine eg_iconst C (1 : Int32) dX1_leastFirst_13 (by decide) ?_
  refine eg_icmp_ne C 21 dX1_leastFirst_14 (by decide) (fun c => ?_) (fun c => ?_)
  · rw [if_neg c] at h
    refine eg_bipush C (24 : Int32) dX1_leastFirst_21 (by decide) ?_
    refine eg_sub C [1, 2, 3, 0] rfl ?_
    exact wX1_leastFirst_J23 C _ _ _ _ _ h
  · rw [if_pos c] at h
    refine eg_iconst C (0 : Int32) dX1_leastFirst_17 (by decide) ?_
    refine eg_goto C 23 dX1_leastFirst_18 (by decide) ?_
    refine eg_sub C [1, 2, 3, 0] rfl ?_
    exact wX1_leastFirst_J23 C _ _ _ _ _ h
set_option maxHeartbeats 4000000 in
set_option maxRecDepth 100000 in
theorem wX1_leastFirst {E : eu_E} (C : eu_C E ({ frames := 3, cells := 0, slots := 0, locals := 72 } : Room) 0 25 12 cX1_leastFirst RX1 (Cond.code yX1_leastFirst cX1_leastFirst 12 (some .int) :: eu_TB) (some .int)) {σ : eu_T} {r : Int32} {σ' : eu_T} {a1 : Int32} {a2 : Int32} {a3 : Int32}  (h : fX1_leastFirst σ a1 a2 a3 = some (r, σ')) : eu_G E 0 25 12 (eu_QI E 0 25 σ' r) σ 0 [(0, .ref (eu_ad E 1)), (1, .int a1), (2, .int a2), (3, .int a3)] [] := by
  unfold fX1_leastFirst at h
  refine eg_iload_n C 3 dX1_leastFirst_0 rfl ?_
  refine eg_iconst C (1 : Int32) dX1_leastFirst_1 (by decide) ?_
  refine eg_icmp_ne C 9 dX1_leastFirst_2 (by decide) (fun c => ?_) (fun c => ?_)
  · rw [if_neg c] at h
    refine eg_iconst C (0 : Int32) dX1_leastFirst_9 (by decide) ?_
    refine eg_sub C [0, 1, 2, 3] rfl ?_
    exact wX1_leastFirst_J10 C _ _ _ _ _ h
  · rw [if_pos c] at h
    refine eg_iconst C (-1 : Int32) dX1_leastFirst_5 (by decide) ?_
    refine eg_goto C 10 dX1_leastFirst_6 (by decide) ?_
    refine eg_sub C [0, 1, 2, 3] rfl ?_
    exact wX1_leastFirst_J10 C _ _ _ _ _ h
theorem kX1_leastFirst {l : Launch} {σ : eu_T} {r : Int32} {σ' : eu_T} {a1 : Int32} {a2 : Int32} {a3 : Int32}  (h : fX1_leastFirst σ a1 a2 a3 = some (r, σ')) : eu_KI l yX1_leastFirst (Cond.code yX1_leastFirst cX1_leastFirst 12 (some .int) :: eu_TB) ({ frames := 3, cells := 0, slots := 0, locals := 72 } : Room) 0 25 (fun ad => [.ref (ad 1), .int a1, .int a2, .int a3]) σ σ' r :=
  eu_KI_of (by decide) (by decide) rfl (fun _ => Nat.le_of_ble_eq_true rfl) (fun E C => wX1_leastFirst C h)
theorem cw_X1_lasting_X1_standingWith_73 {E : eu_E} (C : eu_C E ({ frames := 3, cells := 0, slots := 0, locals := 72 } : Room) 0 25 7 cX1_lasting RX1 (Cond.code yX1_lasting cX1_lasting 7 (some .int) :: eu_TB) (some .int)) : CallW (eu_R E) (eu_s E) (eu_a E) RX1 RX1 73 yX1_standingWith cX1_standingWith 5 (some .int) (Cond.code yX1_standingWith cX1_standingWith 5 (some .int) :: eu_TB) ({ frames := 2, cells := 0, slots := 0, locals := 48 } : Room) 0 0 2 := eu_cwV C tw_398 tw_381 tw_382 tw_14 tw_383 rfl rfl (by decide +kernel) (by decide)
theorem cw_X1_lasting_X1_leastTaker_70 {E : eu_E} (C : eu_C E ({ frames := 3, cells := 0, slots := 0, locals := 72 } : Room) 0 25 7 cX1_lasting RX1 (Cond.code yX1_lasting cX1_lasting 7 (some .int) :: eu_TB) (some .int)) : CallW (eu_R E) (eu_s E) (eu_a E) RX1 RX1 70 yX1_leastTaker cX1_leastTaker 7 (some .int) (Cond.code yX1_leastTaker cX1_leastTaker 7 (some .int) :: eu_TB) ({ frames := 2, cells := 0, slots := 0, locals := 46 } : Room) 0 0 2 := eu_cwV C tw_390 tw_391 tw_392 tw_14 tw_393 rfl rfl (by decide +kernel) (by decide)
set_option maxHeartbeats 4000000 in
set_option maxRecDepth 100000 in
theorem wX1_lasting_L43 {E : eu_E} (C : eu_C E ({ frames := 3, cells := 0, slots := 0, locals := 72 } : Room) 0 25 7 cX1_lasting RX1 (Cond.code yX1_lasting cX1_lasting 7 (some .int) :: eu_TB) (some .int)) {r : Int32} {σ' : eu_T} {k34 : eu_T → Int32 → Int32 → Int32 → Int32 → Option (Int32 × eu_T)} (hk_34 : ∀ (σ : eu_T) (v2 : Int32) (v3 : Int32) (v4 : Int32) (v5 : Int32), k34 σ v2 v3 v4 v5 = some (r, σ') → eu_G E 0 25 7 (eu_QI E 0 25 σ' r) σ 34 [(0, .ref (eu_ad E 1)), (2, .int v2), (3, .int v3), (4, .int v4), (5, .int v5)] []) : ∀ (n : Nat) (σ : eu_T) (v2 : Int32) (v3 : Int32) (v4 : Int32) (v5 : Int32) (v6 : Int32), fX1_lasting_L43 k34 n σ v2 v3 v4 v5 v6 = some (r, σ') → eu_G E 0 25 7 (eu_QI E 0 25 σ' r) σ 43 [(0, .ref (eu_ad E 1)), (2, .int v2), (3, .int v3), (4, .int v4), (5, .int v5), (6, .int v6)] [] := by
  intro n
  induction n with
  | zero =>
    intro σ v2 v3 v4 v5 v6  h
    rw [fX1_lasting_L43_z] at h
    cases h
  | succ n ih =>
    intro σ v2 v3 v4 v5 v6  h
    rw [fX1_lasting_L43_s] at h
    refine eg_iload C 5 dX1_lasting_43 rfl ?_
    refine eg_iload_n C 2 dX1_lasting_45 rfl ?_
    refine eg_icmp_ge C 80 dX1_lasting_46 (by decide) (fun c => ?_) (fun c => ?_)
    · rw [if_pos c] at h
      refine eg_iinc C 4 (v5 + (1 : Int32)) [(5, .int (v5 + (1 : Int32))), (0, .ref (eu_ad E 1)), (2, .int v2), (3, .int v3), (4, .int v4), (6, .int v6)] dX1_lasting_80 rfl rfl (by decide) rfl ?_
      refine eg_goto C 34 dX1_lasting_83 (by decide) ?_
      refine eg_sub C [1, 2, 3, 4, 0] rfl ?_
      exact hk_34 _ _ _ _ _ h
    · rw [if_neg c] at h
      refine eg_aload_n C 0 dX1_lasting_49 rfl ?_
      refine eg_iload C 4 dX1_lasting_50 rfl ?_
      refine eg_iload C 5 dX1_lasting_52 rfl ?_
      obtain ⟨r3, hr3, h⟩ := eu_bd_some h
      refine eg_callI C (cw_X1_lasting_X1_leastTaker_70 C) (av := [.int v5, .int v6]) 1 (by decide) (kX1_leastTaker hr3) rfl rfl rfl rfl (st := []) rfl (Nat.le_of_ble_eq_true rfl) dX1_lasting_54 ?_
      refine eg_iconst C (-1 : Int32) dX1_lasting_57 (by decide) ?_
      refine eg_icmp_eq C 74 dX1_lasting_58 (by decide) (fun c => ?_) (fun c => ?_)
      · rw [if_pos c] at h
        refine eg_iinc C 5 (v6 + (1 : Int32)) [(6, .int (v6 + (1 : Int32))), (0, .ref (eu_ad E 1)), (2, .int v2), (3, .int v3), (4, .int v4), (5, .int v5)] dX1_lasting_74 rfl rfl (by decide) rfl ?_
        refine eg_goto C 43 dX1_lasting_77 (by decide) ?_
        refine eg_sub C [1, 2, 3, 4, 5, 0] rfl ?_
        exact ih _ _ _ _ _ _ h
      · rw [if_neg c] at h
        refine eg_iload C 3 dX1_lasting_61 rfl ?_
        refine eg_aload_n C 0 dX1_lasting_63 rfl ?_
        refine eg_iload C 4 dX1_lasting_64 rfl ?_
        refine eg_iload C 5 dX1_lasting_66 rfl ?_
        obtain ⟨r4, σ5, hr4, h⟩ := eu_b2_some h
        refine eg_callI C (cw_X1_lasting_X1_standingWith_73 C) (av := [.int v5, .int v6]) 1 (by decide) (kX1_standingWith hr4) rfl rfl rfl rfl (st := [.int v4]) rfl (Nat.le_of_ble_eq_true rfl) dX1_lasting_68 ?_
        refine eg_iand C dX1_lasting_71 ?_
        refine eg_istore C [(4, .int (v4 &&& r4)), (0, .ref (eu_ad E 1)), (2, .int v2), (3, .int v3), (5, .int v5), (6, .int v6)] dX1_lasting_72 (by decide) rfl ?_
        refine eg_iinc C 5 (v6 + (1 : Int32)) [(6, .int (v6 + (1 : Int32))), (4, .int (v4 &&& r4)), (0, .ref (eu_ad E 1)), (2, .int v2), (3, .int v3), (5, .int v5)] dX1_lasting_74 rfl rfl (by decide) rfl ?_
        refine eg_goto C 43 dX1_lasting_77 (by decide) ?_
        refine eg_sub C [2, 3, 4, 1, 5, 0] rfl ?_
        exact ih _ _ _ _ _ _ h
set_option maxHeartbeats 4000000 in
set_option maxRecDepth 100000 in
theorem wX1_lasting_L34 {E : eu_E} (C : eu_C E ({ frames := 3, cells := 0, slots := 0, locals := 72 } : Room) 0 25 7 cX1_lasting RX1 (Cond.code yX1_lasting cX1_lasting 7 (some .int) :: eu_TB) (some .int)) {r : Int32} {σ' : eu_T}   : ∀ (n : Nat) (σ : eu_T) (v2 : Int32) (v3 : Int32) (v4 : Int32) (v5 : Int32), fX1_lasting_L34 n σ v2 v3 v4 v5 = some (r, σ') → eu_G E 0 25 7 (eu_QI E 0 25 σ' r) σ 34 [(0, .ref (eu_ad E 1)), (2, .int v2), (3, .int v3), (4, .int v4), (5, .int v5)] [] := by
  intro n
  induction n with
  | zero =>
    intro σ v2 v3 v4 v5  h
    rw [fX1_lasting_L34_z] at h
    cases h
  | succ n ih =>
    intro σ v2 v3 v4 v5  h
    rw [fX1_lasting_L34_s] at h
    refine eg_iload C 4 dX1_lasting_34 rfl ?_
    refine eg_iload_n C 1 dX1_lasting_36 rfl ?_
    refine eg_icmp_ge C 86 dX1_lasting_37 (by decide) (fun c => ?_) (fun c => ?_)
    · rw [if_pos c] at h
      refine eg_iload C 3 dX1_lasting_86 rfl ?_
      obtain ⟨rfl, rfl⟩ := eu_inj2 h
      exact eg_iret C rfl dX1_lasting_88
    · rw [if_neg c] at h
      refine eg_iconst C (-1 : Int32) dX1_lasting_40 (by decide) ?_
      refine eg_istore C [(6, .int (-1 : Int32)), (0, .ref (eu_ad E 1)), (2, .int v2), (3, .int v3), (4, .int v4), (5, .int v5)] dX1_lasting_41 (by decide) rfl ?_
      refine eg_sub C [1, 2, 3, 4, 5, 0] rfl ?_
      exact wX1_lasting_L43 C ih 200 _ _ _ _ _ _ h
set_option maxHeartbeats 4000000 in
set_option maxRecDepth 100000 in
theorem wX1_lasting_J22 {E : eu_E} (C : eu_C E ({ frames := 3, cells := 0, slots := 0, locals := 72 } : Room) 0 25 7 cX1_lasting RX1 (Cond.code yX1_lasting cX1_lasting 7 (some .int) :: eu_TB) (some .int)) {r : Int32} {σ' : eu_T}   (σ : eu_T) (v2 : Int32) (s0 : Int32)  (h : fX1_lasting_J22  σ v2 s0 = some (r, σ')) : eu_G E 0 25 7 (eu_QI E 0 25 σ' r) σ 22 [(0, .ref (eu_ad E 1)), (2, .int v2)] [.int s0] := by
  unfold fX1_lasting_J22 at h
  refine eg_istore_n C [(3, .int s0), (0, .ref (eu_ad E 1)), (2, .int v2)] dX1_lasting_22 rfl (by decide) rfl ?_
  refine eg_aload_n C 1 dX1_lasting_23 rfl ?_
  refine eg_iconst C (-1 : Int32) dX1_lasting_24 (by decide) ?_
  refine eg_iconst C (-1 : Int32) dX1_lasting_25 (by decide) ?_
  obtain ⟨r1, σ2, hr1, h⟩ := eu_b2_some h
  refine eg_callI C (cw_X1_lasting_X1_standingWith_73 C) (av := [.int (-1 : Int32), .int (-1 : Int32)]) 1 (by decide) (kX1_standingWith hr1) rfl rfl rfl rfl (st := []) rfl (Nat.le_of_ble_eq_true rfl) dX1_lasting_26 ?_
  refine eg_istore C [(4, .int r1), (3, .int s0), (0, .ref (eu_ad E 1)), (2, .int v2)] dX1_lasting_29 (by decide) rfl ?_
  refine eg_iconst C (0 : Int32) dX1_lasting_31 (by decide) ?_
  refine eg_istore C [(5, .int (0 : Int32)), (4, .int r1), (3, .int s0), (0, .ref (eu_ad E 1)), (2, .int v2)] dX1_lasting_32 (by decide) rfl ?_
  refine eg_sub C [3, 4, 2, 1, 0] rfl ?_
  exact wX1_lasting_L34 C 200 _ _ _ _ _ h
set_option maxHeartbeats 4000000 in
set_option maxRecDepth 100000 in
theorem wX1_lasting_J10 {E : eu_E} (C : eu_C E ({ frames := 3, cells := 0, slots := 0, locals := 72 } : Room) 0 25 7 cX1_lasting RX1 (Cond.code yX1_lasting cX1_lasting 7 (some .int) :: eu_TB) (some .int)) {r : Int32} {σ' : eu_T}   (σ : eu_T) (v1 : Int32) (s0 : Int32)  (h : fX1_lasting_J10  σ v1 s0 = some (r, σ')) : eu_G E 0 25 7 (eu_QI E 0 25 σ' r) σ 10 [(0, .ref (eu_ad E 1)), (1, .int v1)] [.int s0] := by
  unfold fX1_lasting_J10 at h
  refine eg_istore_n C [(2, .int s0), (0, .ref (eu_ad E 1)), (1, .int v1)] dX1_lasting_10 rfl (by decide) rfl ?_
  refine eg_iload_n C 2 dX1_lasting_11 rfl ?_
  refine eg_iconst C (2 : Int32) dX1_lasting_12 (by decide) ?_
  refine eg_icmp_ne C 21 dX1_lasting_13 (by decide) (fun c => ?_) (fun c => ?_)
  · rw [if_neg c] at h
    refine eg_iconst C (0 : Int32) dX1_lasting_21 (by decide) ?_
    refine eg_sub C [1, 0] rfl ?_
    exact wX1_lasting_J22 C _ _ _ h
  · rw [if_pos c] at h
    refine eg_bipush C (24 : Int32) dX1_lasting_16 (by decide) ?_
    refine eg_goto C 22 dX1_lasting_18 (by decide) ?_
    refine eg_sub C [1, 0] rfl ?_
    exact wX1_lasting_J22 C _ _ _ h
set_option maxHeartbeats 4000000 in
set_option maxRecDepth 100000 in
theorem wX1_lasting {E : eu_E} (C : eu_C E ({ frames := 3, cells := 0, slots := 0, locals := 72 } : Room) 0 25 7 cX1_lasting RX1 (Cond.code yX1_lasting cX1_lasting 7 (some .int) :: eu_TB) (some .int)) {σ : eu_T} {r : Int32} {σ' : eu_T} {a1 : Int32}  (h : fX1_lasting σ a1 = some (r, σ')) : eu_G E 0 25 7 (eu_QI E 0 25 σ' r) σ 0 [(0, .ref (eu_ad E 1)), (1, .int a1)] [] := by
  unfold fX1_lasting at h
  refine eg_iload_n C 1 dX1_lasting_0 rfl ?_
  refine eg_if_ne C 8 dX1_lasting_1 (by decide) (fun c => ?_) (fun c => ?_)
  · rw [if_neg c] at h
    refine eg_bipush C (24 : Int32) dX1_lasting_8 (by decide) ?_
    refine eg_sub C [0, 1] rfl ?_
    exact wX1_lasting_J10 C _ _ _ h
  · rw [if_pos c] at h
    refine eg_iconst C (0 : Int32) dX1_lasting_4 (by decide) ?_
    refine eg_goto C 10 dX1_lasting_5 (by decide) ?_
    refine eg_sub C [0, 1] rfl ?_
    exact wX1_lasting_J10 C _ _ _ h
theorem kX1_lasting {l : Launch} {σ : eu_T} {r : Int32} {σ' : eu_T} {a1 : Int32}  (h : fX1_lasting σ a1 = some (r, σ')) : eu_KI l yX1_lasting (Cond.code yX1_lasting cX1_lasting 7 (some .int) :: eu_TB) ({ frames := 3, cells := 0, slots := 0, locals := 72 } : Room) 0 25 (fun ad => [.ref (ad 1), .int a1]) σ σ' r :=
  eu_KI_of (by decide) (by decide) rfl (fun _ => Nat.le_of_ble_eq_true rfl) (fun E C => wX1_lasting C h)
theorem cw_X1_worthOf_X4_bitOf_67 {E : eu_E} (C : eu_C E ({ frames := 1, cells := 0, slots := 0, locals := 21 } : Room) 0 25 5 cX1_worthOf RX1 (Cond.code yX1_worthOf cX1_worthOf 5 (some .int) :: eu_TB) (some .int)) : va_CN (eu_R E) (eu_s E) (eu_a E) RX1 67 yX4_bitOf "EachUndoes" cX4_bitOf 2 (some .int) (Cond.code yX4_bitOf cX4_bitOf 2 (some .int) :: eu_TB) ({ frames := 0, cells := 0, slots := 0, locals := 0 } : Room) 0 0 2 ∧ (Cond.static yX4_bitOf).before (eu_a E) (eu_s E) = true ∧ True := eu_cnS C (List.mem_of_getElem? (i := 52) rfl) tw_158 tw_2 tw_159 rfl rfl (by decide +kernel) (by decide)
set_option maxHeartbeats 4000000 in
set_option maxRecDepth 100000 in
theorem wX1_worthOf_L5 {E : eu_E} (C : eu_C E ({ frames := 1, cells := 0, slots := 0, locals := 21 } : Room) 0 25 5 cX1_worthOf RX1 (Cond.code yX1_worthOf cX1_worthOf 5 (some .int) :: eu_TB) (some .int)) {σ : eu_T} {r : Int32}   : ∀ (n : Nat) (v1 : Int32) (v2 : Int32) (v3 : Int32) (v4 : Int32), fX1_worthOf_L5 σ n v1 v2 v3 v4 = some r → eu_G E 0 25 5 (eu_QI E 0 25 σ r) σ 5 [(0, .ref (eu_ad E 1)), (1, .int v1), (2, .int v2), (3, .int v3), (4, .int v4)] [] := by
  intro n
  induction n with
  | zero =>
    intro v1 v2 v3 v4  h
    rw [fX1_worthOf_L5_z] at h
    cases h
  | succ n ih =>
    intro v1 v2 v3 v4  h
    rw [fX1_worthOf_L5_s] at h
    refine eg_iload C 4 dX1_worthOf_5 rfl ?_
    refine eg_aload_n C 0 dX1_worthOf_7 rfl ?_
    refine gf_X1_22 C (by decide) dX1_worthOf_8 ?_
    refine gf_X1_56 C (by decide) dX1_worthOf_11 ?_
    refine eg_icmp_ge C 45 dX1_worthOf_14 (by decide) (fun c => ?_) (fun c => ?_)
    · rw [if_pos c] at h
      refine eg_iload_n C 3 dX1_worthOf_45 rfl ?_
      obtain rfl := Option.some.inj h
      exact eg_iret C rfl dX1_worthOf_46
    · rw [if_neg c] at h
      refine eg_iload_n C 1 dX1_worthOf_17 rfl ?_
      refine eg_iload C 4 dX1_worthOf_18 rfl ?_
      refine eg_scallNI C (cw_X1_worthOf_X4_bitOf_67 C) (av := [.int v1, .int v4]) (kX4_bitOf rfl) rfl (st := []) rfl (Nat.le_of_ble_eq_true rfl) dX1_worthOf_20 ?_
      refine eg_iconst C (1 : Int32) dX1_worthOf_23 (by decide) ?_
      refine eg_icmp_ne C 39 dX1_worthOf_24 (by decide) (fun c => ?_) (fun c => ?_)
      · rw [if_neg c] at h
        refine eg_iinc C 4 (v4 + (1 : Int32)) [(4, .int (v4 + (1 : Int32))), (0, .ref (eu_ad E 1)), (1, .int v1), (2, .int v2), (3, .int v3)] dX1_worthOf_39 rfl rfl (by decide) rfl ?_
        refine eg_goto C 5 dX1_worthOf_42 (by decide) ?_
        refine eg_sub C [1, 2, 3, 4, 0] rfl ?_
        exact ih _ _ _ _ h
      · rw [if_pos c] at h
        refine eg_iload_n C 3 dX1_worthOf_27 rfl ?_
        refine eg_aload_n C 0 dX1_worthOf_28 rfl ?_
        refine gf_X1_25 C (by decide) dX1_worthOf_29 ?_
        refine eg_iload_n C 2 dX1_worthOf_32 rfl ?_
        obtain ⟨g1, h⟩ := eu_gd_some h
        refine eg_aalA C 5 (by decide) (z := 6) (b := 19) (fun _ => rfl) (eu_in_vp g1) dX1_worthOf_33 ?_
        refine eg_iload C 4 dX1_worthOf_34 rfl ?_
        obtain ⟨g2, h⟩ := eu_gd_some h
        refine eg_iald C (19 + v2.toNatClampNeg) (eu_iw0 (eu_iw g1)) (z := 12) (eu_weW (eu_iw g1)) (eu_in_vp g2) dX1_worthOf_36 ?_
        refine eg_iadd C dX1_worthOf_37 ?_
        refine eg_istore_n C [(3, .int (v3 + (σ (19 + v2.toNatClampNeg) v4.toNatClampNeg))), (0, .ref (eu_ad E 1)), (1, .int v1), (2, .int v2), (4, .int v4)] dX1_worthOf_38 rfl (by decide) rfl ?_
        refine eg_iinc C 4 (v4 + (1 : Int32)) [(4, .int (v4 + (1 : Int32))), (3, .int (v3 + (σ (19 + v2.toNatClampNeg) v4.toNatClampNeg))), (0, .ref (eu_ad E 1)), (1, .int v1), (2, .int v2)] dX1_worthOf_39 rfl rfl (by decide) rfl ?_
        refine eg_goto C 5 dX1_worthOf_42 (by decide) ?_
        refine eg_sub C [2, 3, 4, 1, 0] rfl ?_
        exact ih _ _ _ _ h
set_option maxHeartbeats 4000000 in
set_option maxRecDepth 100000 in
theorem wX1_worthOf {E : eu_E} (C : eu_C E ({ frames := 1, cells := 0, slots := 0, locals := 21 } : Room) 0 25 5 cX1_worthOf RX1 (Cond.code yX1_worthOf cX1_worthOf 5 (some .int) :: eu_TB) (some .int)) {σ : eu_T} {r : Int32} {a1 : Int32} {a2 : Int32}  (h : fX1_worthOf σ a1 a2 = some r) : eu_G E 0 25 5 (eu_QI E 0 25 σ r) σ 0 [(0, .ref (eu_ad E 1)), (1, .int a1), (2, .int a2)] [] := by
  unfold fX1_worthOf at h
  refine eg_iconst C (0 : Int32) dX1_worthOf_0 (by decide) ?_
  refine eg_istore_n C [(3, .int (0 : Int32)), (0, .ref (eu_ad E 1)), (1, .int a1), (2, .int a2)] dX1_worthOf_1 rfl (by decide) rfl ?_
  refine eg_iconst C (0 : Int32) dX1_worthOf_2 (by decide) ?_
  refine eg_istore C [(4, .int (0 : Int32)), (3, .int (0 : Int32)), (0, .ref (eu_ad E 1)), (1, .int a1), (2, .int a2)] dX1_worthOf_3 (by decide) rfl ?_
  refine eg_sub C [2, 3, 4, 1, 0] rfl ?_
  exact wX1_worthOf_L5 C 200 _ _ _ _ h
theorem kX1_worthOf {l : Launch} {σ : eu_T} {r : Int32} {a1 : Int32} {a2 : Int32}  (h : fX1_worthOf σ a1 a2 = some r) : eu_KI l yX1_worthOf (Cond.code yX1_worthOf cX1_worthOf 5 (some .int) :: eu_TB) ({ frames := 1, cells := 0, slots := 0, locals := 21 } : Room) 0 25 (fun ad => [.ref (ad 1), .int a1, .int a2]) σ σ r :=
  eu_KI_of (by decide) (by decide) rfl (fun _ => Nat.le_of_ble_eq_true rfl) (fun E C => wX1_worthOf C h)
theorem cw_X1_canTake_X1_takersOf_64 {E : eu_E} (C : eu_C E ({ frames := 2, cells := 0, slots := 0, locals := 46 } : Room) 0 25 6 cX1_canTake RX1 (Cond.code yX1_canTake cX1_canTake 6 (some .boolean) :: eu_TB) (some .boolean)) : CallW (eu_R E) (eu_s E) (eu_a E) RX1 RX1 64 yX1_takersOf cX1_takersOf 3 (some .int) (Cond.code yX1_takersOf cX1_takersOf 3 (some .int) :: eu_TB) ({ frames := 1, cells := 0, slots := 0, locals := 24 } : Room) 0 0 1 := eu_cwV C tw_394 tw_395 tw_396 tw_14 tw_397 rfl rfl (by decide +kernel) (by decide)
theorem cw_X1_canTake_X4_bitOf_67 {E : eu_E} (C : eu_C E ({ frames := 2, cells := 0, slots := 0, locals := 46 } : Room) 0 25 6 cX1_canTake RX1 (Cond.code yX1_canTake cX1_canTake 6 (some .boolean) :: eu_TB) (some .boolean)) : va_CN (eu_R E) (eu_s E) (eu_a E) RX1 67 yX4_bitOf "EachUndoes" cX4_bitOf 2 (some .int) (Cond.code yX4_bitOf cX4_bitOf 2 (some .int) :: eu_TB) ({ frames := 0, cells := 0, slots := 0, locals := 0 } : Room) 0 0 2 ∧ (Cond.static yX4_bitOf).before (eu_a E) (eu_s E) = true ∧ True := eu_cnS C (List.mem_of_getElem? (i := 52) rfl) tw_158 tw_2 tw_159 rfl rfl (by decide +kernel) (by decide)
set_option maxHeartbeats 4000000 in
set_option maxRecDepth 100000 in
theorem wX1_canTake_J78 {E : eu_E} (C : eu_C E ({ frames := 2, cells := 0, slots := 0, locals := 46 } : Room) 0 25 6 cX1_canTake RX1 (Cond.code yX1_canTake cX1_canTake 6 (some .boolean) :: eu_TB) (some .boolean)) {σ : eu_T} {r : Int32}   (v1 : Int32) (s0 : Int32)  (h : fX1_canTake_J78 σ v1 s0 = some r) : eu_G E 0 25 6 (eu_QI E 0 25 σ r) σ 78 [(1, .int v1)] [.int s0] := by
  unfold fX1_canTake_J78 at h
  refine eg_iload_n C 0 dX1_canTake_78 rfl ?_
  refine eg_scallNI C (cw_X1_canTake_X4_bitOf_67 C) (av := [.int s0, .int v1]) (kX4_bitOf rfl) rfl (st := []) rfl (Nat.le_of_ble_eq_true rfl) dX1_canTake_79 ?_
  refine eg_iconst C (1 : Int32) dX1_canTake_82 (by decide) ?_
  refine eg_icmp_ne C 90 dX1_canTake_83 (by decide) (fun c => ?_) (fun c => ?_)
  · rw [if_neg c] at h
    refine eg_iconst C (0 : Int32) dX1_canTake_90 (by decide) ?_
    obtain rfl := Option.some.inj h
    exact eg_zret C rfl (by decide) dX1_canTake_91
  · rw [if_pos c] at h
    refine eg_iconst C (1 : Int32) dX1_canTake_86 (by decide) ?_
    refine eg_goto C 91 dX1_canTake_87 (by decide) ?_
    obtain rfl := Option.some.inj h
    exact eg_zret C rfl (by decide) dX1_canTake_91
set_option maxHeartbeats 4000000 in
set_option maxRecDepth 100000 in
theorem wX1_canTake_J59 {E : eu_E} (C : eu_C E ({ frames := 2, cells := 0, slots := 0, locals := 46 } : Room) 0 25 6 cX1_canTake RX1 (Cond.code yX1_canTake cX1_canTake 6 (some .boolean) :: eu_TB) (some .boolean)) {σ : eu_T} {r : Int32}   (v1 : Int32) (v2 : Int32) (s0 : Int32)  (h : fX1_canTake_J59 σ v1 v2 s0 = some r) : eu_G E 0 25 6 (eu_QI E 0 25 σ r) σ 59 [(0, .ref (eu_ad E 1)), (1, .int v1), (2, .int v2)] [.int s0] := by
  unfold fX1_canTake_J59 at h
  refine eg_istore C [(5, .int s0), (0, .ref (eu_ad E 1)), (1, .int v1), (2, .int v2)] dX1_canTake_59 (by decide) rfl ?_
  refine eg_iload C 0 dX1_canTake_61 rfl ?_
  refine eg_if_eq C 73 dX1_canTake_63 (by decide) (fun c => ?_) (fun c => ?_)
  · rw [if_pos c] at h
    refine eg_aload_n C 1 dX1_canTake_73 rfl ?_
    refine eg_iload_n C 3 dX1_canTake_74 rfl ?_
    obtain ⟨r1, hr1, h⟩ := eu_bd_some h
    refine eg_callI C (cw_X1_canTake_X1_takersOf_64 C) (av := [.int v2]) 1 (by decide) (kX1_takersOf hr1) rfl rfl rfl rfl (st := []) rfl (Nat.le_of_ble_eq_true rfl) dX1_canTake_75 ?_
    refine eg_sub C [2] rfl ?_
    exact wX1_canTake_J78 C _ _ h
  · rw [if_neg c] at h
    refine eg_aload_n C 1 dX1_canTake_66 rfl ?_
    refine gf_X1_39 C (by decide) dX1_canTake_67 ?_
    refine eg_goto C 78 dX1_canTake_70 (by decide) ?_
    refine eg_sub C [2] rfl ?_
    exact wX1_canTake_J78 C _ _ h
set_option maxHeartbeats 4000000 in
set_option maxRecDepth 100000 in
theorem wX1_canTake_J58 {E : eu_E} (C : eu_C E ({ frames := 2, cells := 0, slots := 0, locals := 46 } : Room) 0 25 6 cX1_canTake RX1 (Cond.code yX1_canTake cX1_canTake 6 (some .boolean) :: eu_TB) (some .boolean)) {σ : eu_T} {r : Int32}   (v1 : Int32) (v2 : Int32)  (h : fX1_canTake_J58 σ v1 v2 = some r) : eu_G E 0 25 6 (eu_QI E 0 25 σ r) σ 58 [(0, .ref (eu_ad E 1)), (1, .int v1), (2, .int v2)] [] := by
  unfold fX1_canTake_J58 at h
  refine eg_iconst C (0 : Int32) dX1_canTake_58 (by decide) ?_
  refine eg_sub C [0, 1, 2] rfl ?_
  exact wX1_canTake_J59 C _ _ _ h
set_option maxHeartbeats 4000000 in
set_option maxRecDepth 100000 in
theorem wX1_canTake_J24 {E : eu_E} (C : eu_C E ({ frames := 2, cells := 0, slots := 0, locals := 46 } : Room) 0 25 6 cX1_canTake RX1 (Cond.code yX1_canTake cX1_canTake 6 (some .boolean) :: eu_TB) (some .boolean)) {σ : eu_T} {r : Int32}   (v1 : Int32) (v2 : Int32) (v3 : Int32) (s0 : Int32)  (h : fX1_canTake_J24 σ v1 v2 v3 s0 = some r) : eu_G E 0 25 6 (eu_QI E 0 25 σ r) σ 24 [(0, .ref (eu_ad E 1)), (1, .int v1), (2, .int v2), (3, .int v3)] [.int s0] := by
  unfold fX1_canTake_J24 at h
  refine eg_istore C [(4, .int s0), (0, .ref (eu_ad E 1)), (1, .int v1), (2, .int v2), (3, .int v3)] dX1_canTake_24 (by decide) rfl ?_
  refine eg_iload C 0 dX1_canTake_26 rfl ?_
  refine eg_bipush C (12 : Int32) dX1_canTake_28 (by decide) ?_
  refine eg_icmp_lt C 35 dX1_canTake_30 (by decide) (fun c => ?_) (fun c => ?_)
  · rw [if_pos c] at h
    refine eg_iload_n C 4 dX1_canTake_35 rfl ?_
    refine eg_iconst C (-1 : Int32) dX1_canTake_36 (by decide) ?_
    refine eg_icmp_eq C 58 dX1_canTake_37 (by decide) (fun c => ?_) (fun c => ?_)
    · rw [if_pos c] at h
      refine eg_sub C [1, 2, 3] rfl ?_
      exact wX1_canTake_J58 C _ _ h
    · rw [if_neg c] at h
      refine eg_iload_n C 3 dX1_canTake_40 rfl ?_
      refine eg_bipush C (12 : Int32) dX1_canTake_41 (by decide) ?_
      refine eg_aload_n C 1 dX1_canTake_43 rfl ?_
      refine gf_X1_12 C (by decide) dX1_canTake_44 ?_
      refine gf_X1_41 C (by decide) dX1_canTake_47 ?_
      refine eg_iadd C dX1_canTake_50 ?_
      refine eg_icmp_ne C 58 dX1_canTake_51 (by decide) (fun c => ?_) (fun c => ?_)
      · rw [if_neg c] at h
        refine eg_sub C [1, 2, 3] rfl ?_
        exact wX1_canTake_J58 C _ _ h
      · rw [if_pos c] at h
        refine eg_iconst C (1 : Int32) dX1_canTake_54 (by decide) ?_
        refine eg_goto C 59 dX1_canTake_55 (by decide) ?_
        refine eg_sub C [1, 2, 3] rfl ?_
        exact wX1_canTake_J59 C _ _ _ h
  · rw [if_neg c] at h
    refine eg_iconst C (0 : Int32) dX1_canTake_33 (by decide) ?_
    obtain rfl := Option.some.inj h
    exact eg_zret C rfl (by decide) dX1_canTake_34
set_option maxHeartbeats 4000000 in
set_option maxRecDepth 100000 in
theorem wX1_canTake {E : eu_E} (C : eu_C E ({ frames := 2, cells := 0, slots := 0, locals := 46 } : Room) 0 25 6 cX1_canTake RX1 (Cond.code yX1_canTake cX1_canTake 6 (some .boolean) :: eu_TB) (some .boolean)) {σ : eu_T} {r : Int32} {a1 : Int32} {a2 : Int32} {a3 : Int32}  (h : fX1_canTake σ a1 a2 a3 = some r) : eu_G E 0 25 6 (eu_QI E 0 25 σ r) σ 0 [(0, .ref (eu_ad E 1)), (1, .int a1), (2, .int a2), (3, .int a3)] [] := by
  unfold fX1_canTake at h
  refine eg_iload_n C 3 dX1_canTake_0 rfl ?_
  refine eg_iconst C (-1 : Int32) dX1_canTake_1 (by decide) ?_
  refine eg_icmp_ne C 15 dX1_canTake_2 (by decide) (fun c => ?_) (fun c => ?_)
  · rw [if_neg c] at h
    refine eg_aload_n C 0 dX1_canTake_15 rfl ?_
    refine gf_X1_12 C (by decide) dX1_canTake_16 ?_
    refine gf_X1_41 C (by decide) dX1_canTake_19 ?_
    refine eg_iconst C (1 : Int32) dX1_canTake_22 (by decide) ?_
    refine eg_iadd C dX1_canTake_23 ?_
    refine eg_sub C [0, 1, 2, 3] rfl ?_
    exact wX1_canTake_J24 C _ _ _ _ h
  · rw [if_pos c] at h
    refine eg_aload_n C 0 dX1_canTake_5 rfl ?_
    refine gf_X1_12 C (by decide) dX1_canTake_6 ?_
    refine gf_X1_41 C (by decide) dX1_canTake_9 ?_
    refine eg_goto C 24 dX1_canTake_12 (by decide) ?_
    refine eg_sub C [0, 1, 2, 3] rfl ?_
    exact wX1_canTake_J24 C _ _ _ _ h
theorem kX1_canTake {l : Launch} {σ : eu_T} {r : Int32} {a1 : Int32} {a2 : Int32} {a3 : Int32}  (h : fX1_canTake σ a1 a2 a3 = some r) : eu_KI l yX1_canTake (Cond.code yX1_canTake cX1_canTake 6 (some .boolean) :: eu_TB) ({ frames := 2, cells := 0, slots := 0, locals := 46 } : Room) 0 25 (fun ad => [.ref (ad 1), .int a1, .int a2, .int a3]) σ σ r :=
  eu_KI_of (by decide) (by decide) rfl (fun _ => Nat.le_of_ble_eq_true rfl) (fun E C => wX1_canTake C h)
theorem cw_X1_bestReply_X1_standingWith_73 {E : eu_E} (C : eu_C E ({ frames := 3, cells := 0, slots := 0, locals := 72 } : Room) 0 25 7 cX1_bestReply RX1 (Cond.code yX1_bestReply cX1_bestReply 7 (some .int) :: eu_TB) (some .int)) : CallW (eu_R E) (eu_s E) (eu_a E) RX1 RX1 73 yX1_standingWith cX1_standingWith 5 (some .int) (Cond.code yX1_standingWith cX1_standingWith 5 (some .int) :: eu_TB) ({ frames := 2, cells := 0, slots := 0, locals := 48 } : Room) 0 0 2 := eu_cwV C tw_398 tw_381 tw_382 tw_14 tw_383 rfl rfl (by decide +kernel) (by decide)
theorem cw_X1_bestReply_X1_worthOf_83 {E : eu_E} (C : eu_C E ({ frames := 3, cells := 0, slots := 0, locals := 72 } : Room) 0 25 7 cX1_bestReply RX1 (Cond.code yX1_bestReply cX1_bestReply 7 (some .int) :: eu_TB) (some .int)) : CallW (eu_R E) (eu_s E) (eu_a E) RX1 RX1 83 yX1_worthOf cX1_worthOf 5 (some .int) (Cond.code yX1_worthOf cX1_worthOf 5 (some .int) :: eu_TB) ({ frames := 1, cells := 0, slots := 0, locals := 21 } : Room) 0 0 2 := eu_cwV C tw_451 tw_452 tw_453 tw_14 tw_454 rfl rfl (by decide +kernel) (by decide)
theorem cw_X1_bestReply_X1_canTake_86 {E : eu_E} (C : eu_C E ({ frames := 3, cells := 0, slots := 0, locals := 72 } : Room) 0 25 7 cX1_bestReply RX1 (Cond.code yX1_bestReply cX1_bestReply 7 (some .int) :: eu_TB) (some .int)) : CallW (eu_R E) (eu_s E) (eu_a E) RX1 RX1 86 yX1_canTake cX1_canTake 6 (some .boolean) (Cond.code yX1_canTake cX1_canTake 6 (some .boolean) :: eu_TB) ({ frames := 2, cells := 0, slots := 0, locals := 46 } : Room) 0 0 3 := eu_cwV C tw_455 tw_456 tw_457 tw_14 tw_458 rfl rfl (by decide +kernel) (by decide)
set_option maxHeartbeats 4000000 in
set_option maxRecDepth 100000 in
theorem wX1_bestReply_L18 {E : eu_E} (C : eu_C E ({ frames := 3, cells := 0, slots := 0, locals := 72 } : Room) 0 25 7 cX1_bestReply RX1 (Cond.code yX1_bestReply cX1_bestReply 7 (some .int) :: eu_TB) (some .int)) {r : Int32} {σ' : eu_T}   : ∀ (n : Nat) (σ : eu_T) (v1 : Int32) (v2 : Int32) (v3 : Int32) (v4 : Int32) (v5 : Int32), fX1_bestReply_L18 n σ v1 v2 v3 v4 v5 = some (r, σ') → eu_G E 0 25 7 (eu_QI E 0 25 σ' r) σ 18 [(0, .ref (eu_ad E 1)), (1, .int v1), (2, .int v2), (3, .int v3), (4, .int v4), (5, .int v5)] [] := by
  intro n
  induction n with
  | zero =>
    intro σ v1 v2 v3 v4 v5  h
    rw [fX1_bestReply_L18_z] at h
    cases h
  | succ n ih =>
    intro σ v1 v2 v3 v4 v5  h
    rw [fX1_bestReply_L18_s] at h
    refine eg_iload C 5 dX1_bestReply_18 rfl ?_
    refine eg_bipush C (24 : Int32) dX1_bestReply_20 (by decide) ?_
    refine eg_icmp_ge C 70 dX1_bestReply_22 (by decide) (fun c => ?_) (fun c => ?_)
    · rw [if_pos c] at h
      refine eg_iload_n C 3 dX1_bestReply_70 rfl ?_
      obtain ⟨rfl, rfl⟩ := eu_inj2 h
      exact eg_iret C rfl dX1_bestReply_71
    · rw [if_neg c] at h
      refine eg_aload_n C 0 dX1_bestReply_25 rfl ?_
      refine eg_iload_n C 1 dX1_bestReply_26 rfl ?_
      refine eg_iload C 5 dX1_bestReply_27 rfl ?_
      refine eg_iload_n C 2 dX1_bestReply_29 rfl ?_
      obtain ⟨r4, hr4, h⟩ := eu_bd_some h
      refine eg_callI C (cw_X1_bestReply_X1_canTake_86 C) (av := [.int v1, .int v5, .int v2]) 1 (by decide) (kX1_canTake hr4) rfl rfl rfl rfl (st := []) rfl (Nat.le_of_ble_eq_true rfl) dX1_bestReply_30 ?_
      refine eg_if_eq C 64 dX1_bestReply_33 (by decide) (fun c => ?_) (fun c => ?_)
      · rw [if_pos c] at h
        refine eg_iinc C 5 (v5 + (1 : Int32)) [(5, .int (v5 + (1 : Int32))), (0, .ref (eu_ad E 1)), (1, .int v1), (2, .int v2), (3, .int v3), (4, .int v4)] dX1_bestReply_64 rfl rfl (by decide) rfl ?_
        refine eg_goto C 18 dX1_bestReply_67 (by decide) ?_
        refine eg_sub C [1, 2, 3, 4, 5, 0] rfl ?_
        exact ih _ _ _ _ _ _ h
      · rw [if_neg c] at h
        refine eg_aload_n C 0 dX1_bestReply_36 rfl ?_
        refine eg_aload_n C 0 dX1_bestReply_37 rfl ?_
        refine eg_iload_n C 2 dX1_bestReply_38 rfl ?_
        refine eg_iload C 5 dX1_bestReply_39 rfl ?_
        obtain ⟨r5, σ6, hr5, h⟩ := eu_b2_some h
        refine eg_callI C (cw_X1_bestReply_X1_standingWith_73 C) (av := [.int v2, .int v5]) 1 (by decide) (kX1_standingWith hr5) rfl rfl rfl rfl (st := [.ref (eu_ad E 1)]) rfl (Nat.le_of_ble_eq_true rfl) dX1_bestReply_41 ?_
        refine eg_iload_n C 1 dX1_bestReply_44 rfl ?_
        obtain ⟨r7, hr7, h⟩ := eu_bd_some h
        refine eg_callI C (cw_X1_bestReply_X1_worthOf_83 C) (av := [.int r5, .int v1]) 1 (by decide) (kX1_worthOf hr7) rfl rfl rfl rfl (st := []) rfl (Nat.le_of_ble_eq_true rfl) dX1_bestReply_45 ?_
        refine eg_istore C [(6, .int r7), (0, .ref (eu_ad E 1)), (1, .int v1), (2, .int v2), (3, .int v3), (4, .int v4), (5, .int v5)] dX1_bestReply_48 (by decide) rfl ?_
        refine eg_iload C 0 dX1_bestReply_50 rfl ?_
        refine eg_iload C 5 dX1_bestReply_52 rfl ?_
        refine eg_icmp_le C 64 dX1_bestReply_54 (by decide) (fun c => ?_) (fun c => ?_)
        · rw [if_pos c] at h
          refine eg_iinc C 6 (v5 + (1 : Int32)) [(5, .int (v5 + (1 : Int32))), (6, .int r7), (0, .ref (eu_ad E 1)), (1, .int v1), (2, .int v2), (3, .int v3), (4, .int v4)] dX1_bestReply_64 rfl rfl (by decide) rfl ?_
          refine eg_goto C 18 dX1_bestReply_67 (by decide) ?_
          refine eg_sub C [2, 3, 4, 5, 6, 0] rfl ?_
          exact ih _ _ _ _ _ _ h
        · rw [if_neg c] at h
          refine eg_iload C 0 dX1_bestReply_57 rfl ?_
          refine eg_istore C [(4, .int r7), (6, .int r7), (0, .ref (eu_ad E 1)), (1, .int v1), (2, .int v2), (3, .int v3), (5, .int v5)] dX1_bestReply_59 (by decide) rfl ?_
          refine eg_iload C 6 dX1_bestReply_61 rfl ?_
          refine eg_istore_n C [(3, .int v5), (4, .int r7), (6, .int r7), (0, .ref (eu_ad E 1)), (1, .int v1), (2, .int v2), (5, .int v5)] dX1_bestReply_63 rfl (by decide) rfl ?_
          refine eg_iinc C 6 (v5 + (1 : Int32)) [(5, .int (v5 + (1 : Int32))), (3, .int v5), (4, .int r7), (6, .int r7), (0, .ref (eu_ad E 1)), (1, .int v1), (2, .int v2)] dX1_bestReply_64 rfl rfl (by decide) rfl ?_
          refine eg_goto C 18 dX1_bestReply_67 (by decide) ?_
          refine eg_sub C [4, 5, 6, 1, 2, 0] rfl ?_
          exact ih _ _ _ _ _ _ h
set_option maxHeartbeats 4000000 in
set_option maxRecDepth 100000 in
theorem wX1_bestReply {E : eu_E} (C : eu_C E ({ frames := 3, cells := 0, slots := 0, locals := 72 } : Room) 0 25 7 cX1_bestReply RX1 (Cond.code yX1_bestReply cX1_bestReply 7 (some .int) :: eu_TB) (some .int)) {σ : eu_T} {r : Int32} {σ' : eu_T} {a1 : Int32} {a2 : Int32}  (h : fX1_bestReply σ a1 a2 = some (r, σ')) : eu_G E 0 25 7 (eu_QI E 0 25 σ' r) σ 0 [(0, .ref (eu_ad E 1)), (1, .int a1), (2, .int a2)] [] := by
  unfold fX1_bestReply at h
  refine eg_iconst C (-1 : Int32) dX1_bestReply_0 (by decide) ?_
  refine eg_istore_n C [(3, .int (-1 : Int32)), (0, .ref (eu_ad E 1)), (1, .int a1), (2, .int a2)] dX1_bestReply_1 rfl (by decide) rfl ?_
  refine eg_aload_n C 1 dX1_bestReply_2 rfl ?_
  refine eg_aload_n C 1 dX1_bestReply_3 rfl ?_
  refine eg_iload_n C 3 dX1_bestReply_4 rfl ?_
  refine eg_iconst C (-1 : Int32) dX1_bestReply_5 (by decide) ?_
  obtain ⟨r1, σ2, hr1, h⟩ := eu_b2_some h
  refine eg_callI C (cw_X1_bestReply_X1_standingWith_73 C) (av := [.int a2, .int (-1 : Int32)]) 1 (by decide) (kX1_standingWith hr1) rfl rfl rfl rfl (st := [.ref (eu_ad E 1)]) rfl (Nat.le_of_ble_eq_true rfl) dX1_bestReply_6 ?_
  refine eg_iload_n C 2 dX1_bestReply_9 rfl ?_
  obtain ⟨r3, hr3, h⟩ := eu_bd_some h
  refine eg_callI C (cw_X1_bestReply_X1_worthOf_83 C) (av := [.int r1, .int a1]) 1 (by decide) (kX1_worthOf hr3) rfl rfl rfl rfl (st := []) rfl (Nat.le_of_ble_eq_true rfl) dX1_bestReply_10 ?_
  refine eg_istore C [(4, .int r3), (3, .int (-1 : Int32)), (0, .ref (eu_ad E 1)), (1, .int a1), (2, .int a2)] dX1_bestReply_13 (by decide) rfl ?_
  refine eg_iconst C (0 : Int32) dX1_bestReply_15 (by decide) ?_
  refine eg_istore C [(5, .int (0 : Int32)), (4, .int r3), (3, .int (-1 : Int32)), (0, .ref (eu_ad E 1)), (1, .int a1), (2, .int a2)] dX1_bestReply_16 (by decide) rfl ?_
  refine eg_sub C [3, 4, 5, 2, 1, 0] rfl ?_
  exact wX1_bestReply_L18 C 200 _ _ _ _ _ _ h
theorem kX1_bestReply {l : Launch} {σ : eu_T} {r : Int32} {σ' : eu_T} {a1 : Int32} {a2 : Int32}  (h : fX1_bestReply σ a1 a2 = some (r, σ')) : eu_KI l yX1_bestReply (Cond.code yX1_bestReply cX1_bestReply 7 (some .int) :: eu_TB) ({ frames := 3, cells := 0, slots := 0, locals := 72 } : Room) 0 25 (fun ad => [.ref (ad 1), .int a1, .int a2]) σ σ' r :=
  eu_KI_of (by decide) (by decide) rfl (fun _ => Nat.le_of_ble_eq_true rfl) (fun E C => wX1_bestReply C h)
