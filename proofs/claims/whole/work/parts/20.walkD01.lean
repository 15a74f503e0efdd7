theorem cw_X0_rootOf_X4_bitOf_60 {E : eu_E} (C : eu_C E ({ frames := 1, cells := 0, slots := 0, locals := 23 } : Room) 0 25 4 cX0_rootOf RX0 (Cond.code yX0_rootOf cX0_rootOf 4 (some .int) :: eu_TB) (some .int)) : va_CN (eu_R E) (eu_s E) (eu_a E) RX0 60 yX4_bitOf "EachUndoes" cX4_bitOf 2 (some .int) (Cond.code yX4_bitOf cX4_bitOf 2 (some .int) :: eu_TB) ({ frames := 0, cells := 0, slots := 0, locals := 0 } : Room) 0 0 2 ∧ (Cond.static yX4_bitOf).before (eu_a E) (eu_s E) = true ∧ True := eu_cnS C (List.mem_of_getElem? (i := 41) rfl) tw_158 tw_2 tw_159 rfl rfl (by decide +kernel) (by decide)
theorem cw_X0_rootOf_X0_fallen_57 {E : eu_E} (C : eu_C E ({ frames := 1, cells := 0, slots := 0, locals := 23 } : Room) 0 25 4 cX0_rootOf RX0 (Cond.code yX0_rootOf cX0_rootOf 4 (some .int) :: eu_TB) (some .int)) : CallW (eu_R E) (eu_s E) (eu_a E) RX0 RX0 57 yX0_fallen cX0_fallen 4 (some .int) (Cond.code yX0_fallen cX0_fallen 4 (some .int) :: eu_TB) ({ frames := 0, cells := 0, slots := 0, locals := 0 } : Room) 0 0 1 := eu_cwV C tw_301 tw_302 tw_303 tw_39 tw_304 rfl rfl (by decide +kernel) (by decide)
set_option maxHeartbeats 4000000 in
set_option maxRecDepth 100000 in
theorem wX0_rootOf_L2 {E : eu_E} (C : eu_C E ({ frames := 1, cells := 0, slots := 0, locals := 23 } : Room) 0 25 4 cX0_rootOf RX0 (Cond.code yX0_rootOf cX0_rootOf 4 (some .int) :: eu_TB) (some .int)) {σ : eu_T} {r : Int32}   : ∀ (n : Nat) (v1 : Int32) (v2 : Int32) (v3 : Int32), fX0_rootOf_L2 σ n v1 v2 v3 = some r → eu_G E 0 25 4 (eu_QI E 0 25 σ r) σ 2 [(0, .ref (eu_ad E 3)), (1, .int v1), (2, .int v2), (3, .int v3)] [] := by
  intro n
  induction n with
  | zero =>
    intro v1 v2 v3  h
    rw [fX0_rootOf_L2_z] at h
    cases h
  | succ n ih =>
    intro v1 v2 v3  h
    rw [fX0_rootOf_L2_s] at h
    refine eg_iload_n C 3 dX0_rootOf_2 rfl ?_
    refine eg_iload_n C 1 dX0_rootOf_3 rfl ?_
    refine eg_icmp_gt C 47 dX0_rootOf_4 (by decide) (fun c => ?_) (fun c => ?_)
    · rw [if_pos c] at h
      refine eg_iconst C (-1 : Int32) dX0_rootOf_47 (by decide) ?_
      obtain rfl := Option.some.inj h
      exact eg_iret C rfl dX0_rootOf_48
    · rw [if_neg c] at h
      refine eg_iload_n C 3 dX0_rootOf_7 rfl ?_
      refine eg_aload_n C 0 dX0_rootOf_8 rfl ?_
      refine gf_X0_31 C (by decide) dX0_rootOf_9 ?_
      refine eg_icmp_ge C 47 dX0_rootOf_12 (by decide) (fun c => ?_) (fun c => ?_)
      · rw [if_pos c] at h
        refine eg_iconst C (-1 : Int32) dX0_rootOf_47 (by decide) ?_
        obtain rfl := Option.some.inj h
        exact eg_iret C rfl dX0_rootOf_48
      · rw [if_neg c] at h
        refine eg_iload_n C 2 dX0_rootOf_15 rfl ?_
        refine eg_iload_n C 3 dX0_rootOf_16 rfl ?_
        refine eg_scallNI C (cw_X0_rootOf_X4_bitOf_60 C) (av := [.int v2, .int v3]) (kX4_bitOf rfl) rfl (st := []) rfl (Nat.le_of_ble_eq_true rfl) dX0_rootOf_17 ?_
        refine eg_iconst C (1 : Int32) dX0_rootOf_20 (by decide) ?_
        refine eg_icmp_ne C 41 dX0_rootOf_21 (by decide) (fun c => ?_) (fun c => ?_)
        · rw [if_neg c] at h
          refine eg_iinc C 3 (v3 + (1 : Int32)) [(3, .int (v3 + (1 : Int32))), (0, .ref (eu_ad E 3)), (1, .int v1), (2, .int v2)] dX0_rootOf_41 rfl rfl (by decide) rfl ?_
          refine eg_goto C 2 dX0_rootOf_44 (by decide) ?_
          refine eg_sub C [1, 2, 3, 0] rfl ?_
          exact ih _ _ _ h
        · rw [if_pos c] at h
          refine eg_aload_n C 0 dX0_rootOf_24 rfl ?_
          refine eg_iconst C (1 : Int32) dX0_rootOf_25 (by decide) ?_
          refine eg_iload_n C 3 dX0_rootOf_26 rfl ?_
          refine eg_ishl C dX0_rootOf_27 ?_
          obtain ⟨r1, hr1, h⟩ := eu_bd_some h
          refine eg_callI C (cw_X0_rootOf_X0_fallen_57 C) (av := [.int ((1 : Int32) <<< (v3 &&& 31))]) 3 (by decide) (kX0_fallen hr1) rfl rfl rfl rfl (st := []) rfl (Nat.le_of_ble_eq_true rfl) dX0_rootOf_28 ?_
          refine eg_iload_n C 1 dX0_rootOf_31 rfl ?_
          refine eg_scallNI C (cw_X0_rootOf_X4_bitOf_60 C) (av := [.int r1, .int v1]) (kX4_bitOf rfl) rfl (st := []) rfl (Nat.le_of_ble_eq_true rfl) dX0_rootOf_32 ?_
          refine eg_iconst C (1 : Int32) dX0_rootOf_35 (by decide) ?_
          refine eg_icmp_ne C 41 dX0_rootOf_36 (by decide) (fun c => ?_) (fun c => ?_)
          · rw [if_neg c] at h
            refine eg_iinc C 3 (v3 + (1 : Int32)) [(3, .int (v3 + (1 : Int32))), (0, .ref (eu_ad E 3)), (1, .int v1), (2, .int v2)] dX0_rootOf_41 rfl rfl (by decide) rfl ?_
            refine eg_goto C 2 dX0_rootOf_44 (by decide) ?_
            refine eg_sub C [1, 2, 3, 0] rfl ?_
            exact ih _ _ _ h
          · rw [if_pos c] at h
            refine eg_iload_n C 3 dX0_rootOf_39 rfl ?_
            obtain rfl := Option.some.inj h
            exact eg_iret C rfl dX0_rootOf_40
set_option maxHeartbeats 4000000 in
set_option maxRecDepth 100000 in
theorem wX0_rootOf {E : eu_E} (C : eu_C E ({ frames := 1, cells := 0, slots := 0, locals := 23 } : Room) 0 25 4 cX0_rootOf RX0 (Cond.code yX0_rootOf cX0_rootOf 4 (some .int) :: eu_TB) (some .int)) {σ : eu_T} {r : Int32} {a1 : Int32} {a2 : Int32}  (h : fX0_rootOf σ a1 a2 = some r) : eu_G E 0 25 4 (eu_QI E 0 25 σ r) σ 0 [(0, .ref (eu_ad E 3)), (1, .int a1), (2, .int a2)] [] := by
  unfold fX0_rootOf at h
  refine eg_iconst C (0 : Int32) dX0_rootOf_0 (by decide) ?_
  refine eg_istore_n C [(3, .int (0 : Int32)), (0, .ref (eu_ad E 3)), (1, .int a1), (2, .int a2)] dX0_rootOf_1 rfl (by decide) rfl ?_
  refine eg_sub C [1, 2, 3, 0] rfl ?_
  exact wX0_rootOf_L2 C 200 _ _ _ h
theorem kX0_rootOf {l : Launch} {σ : eu_T} {r : Int32} {a1 : Int32} {a2 : Int32}  (h : fX0_rootOf σ a1 a2 = some r) : eu_KI l yX0_rootOf (Cond.code yX0_rootOf cX0_rootOf 4 (some .int) :: eu_TB) ({ frames := 1, cells := 0, slots := 0, locals := 23 } : Room) 0 25 (fun ad => [.ref (ad 3), .int a1, .int a2]) σ σ r :=
  eu_KI_of (by decide) (by decide) rfl (fun _ => Nat.le_of_ble_eq_true rfl) (fun E C => wX0_rootOf C h)
theorem cw_X0_doneBy_X4_bitOf_60 {E : eu_E} (C : eu_C E ({ frames := 1, cells := 0, slots := 0, locals := 21 } : Room) 0 25 4 cX0_doneBy RX0 (Cond.code yX0_doneBy cX0_doneBy 4 (some .int) :: eu_TB) (some .int)) : va_CN (eu_R E) (eu_s E) (eu_a E) RX0 60 yX4_bitOf "EachUndoes" cX4_bitOf 2 (some .int) (Cond.code yX4_bitOf cX4_bitOf 2 (some .int) :: eu_TB) ({ frames := 0, cells := 0, slots := 0, locals := 0 } : Room) 0 0 2 ∧ (Cond.static yX4_bitOf).before (eu_a E) (eu_s E) = true ∧ True := eu_cnS C (List.mem_of_getElem? (i := 41) rfl) tw_158 tw_2 tw_159 rfl rfl (by decide +kernel) (by decide)
set_option maxHeartbeats 4000000 in
set_option maxRecDepth 100000 in
theorem wX0_doneBy_L4 {E : eu_E} (C : eu_C E ({ frames := 1, cells := 0, slots := 0, locals := 21 } : Room) 0 25 4 cX0_doneBy RX0 (Cond.code yX0_doneBy cX0_doneBy 4 (some .int) :: eu_TB) (some .int)) {σ : eu_T} {r : Int32}   : ∀ (n : Nat) (v1 : Int32) (v2 : Int32) (v3 : Int32), fX0_doneBy_L4 σ n v1 v2 v3 = some r → eu_G E 0 25 4 (eu_QI E 0 25 σ r) σ 4 [(0, .ref (eu_ad E 3)), (1, .int v1), (2, .int v2), (3, .int v3)] [] := by
  intro n
  induction n with
  | zero =>
    intro v1 v2 v3  h
    rw [fX0_doneBy_L4_z] at h
    cases h
  | succ n ih =>
    intro v1 v2 v3  h
    rw [fX0_doneBy_L4_s] at h
    refine eg_iload_n C 3 dX0_doneBy_4 rfl ?_
    refine eg_aload_n C 0 dX0_doneBy_5 rfl ?_
    refine gf_X0_31 C (by decide) dX0_doneBy_6 ?_
    refine eg_icmp_ge C 33 dX0_doneBy_9 (by decide) (fun c => ?_) (fun c => ?_)
    · rw [if_pos c] at h
      refine eg_iload_n C 2 dX0_doneBy_33 rfl ?_
      obtain rfl := Option.some.inj h
      exact eg_iret C rfl dX0_doneBy_34
    · rw [if_neg c] at h
      refine eg_iload_n C 2 dX0_doneBy_12 rfl ?_
      refine eg_iload_n C 1 dX0_doneBy_13 rfl ?_
      refine eg_aload_n C 0 dX0_doneBy_14 rfl ?_
      refine gf_X0_15 C (by decide) dX0_doneBy_15 ?_
      refine eg_iload_n C 3 dX0_doneBy_18 rfl ?_
      obtain ⟨g1, h⟩ := eu_gd_some h
      refine eg_iald C 7 (by decide) (z := 12) (fun _ => rfl) (eu_in_vp g1) dX0_doneBy_19 ?_
      refine eg_scallNI C (cw_X0_doneBy_X4_bitOf_60 C) (av := [.int v1, .int (σ 7 v3.toNatClampNeg)]) (kX4_bitOf rfl) rfl (st := [.int v2]) rfl (Nat.le_of_ble_eq_true rfl) dX0_doneBy_20 ?_
      refine eg_iload_n C 3 dX0_doneBy_23 rfl ?_
      refine eg_ishl C dX0_doneBy_24 ?_
      refine eg_ior C dX0_doneBy_25 ?_
      obtain ⟨x2, ex2, h⟩ := eu_lt_x h
      rw [← ex2]
      refine eg_istore_n C [(2, .int x2), (0, .ref (eu_ad E 3)), (1, .int v1), (3, .int v3)] dX0_doneBy_26 rfl (by decide) rfl ?_
      refine eg_iinc C 3 (v3 + (1 : Int32)) [(3, .int (v3 + (1 : Int32))), (2, .int x2), (0, .ref (eu_ad E 3)), (1, .int v1)] dX0_doneBy_27 rfl rfl (by decide) rfl ?_
      refine eg_goto C 4 dX0_doneBy_30 (by decide) ?_
      refine eg_sub C [2, 3, 1, 0] rfl ?_
      exact ih _ _ _ h
set_option maxHeartbeats 4000000 in
set_option maxRecDepth 100000 in
theorem wX0_doneBy {E : eu_E} (C : eu_C E ({ frames := 1, cells := 0, slots := 0, locals := 21 } : Room) 0 25 4 cX0_doneBy RX0 (Cond.code yX0_doneBy cX0_doneBy 4 (some .int) :: eu_TB) (some .int)) {σ : eu_T} {r : Int32} {a1 : Int32}  (h : fX0_doneBy σ a1 = some r) : eu_G E 0 25 4 (eu_QI E 0 25 σ r) σ 0 [(0, .ref (eu_ad E 3)), (1, .int a1)] [] := by
  unfold fX0_doneBy at h
  refine eg_iconst C (0 : Int32) dX0_doneBy_0 (by decide) ?_
  refine eg_istore_n C [(2, .int (0 : Int32)), (0, .ref (eu_ad E 3)), (1, .int a1)] dX0_doneBy_1 rfl (by decide) rfl ?_
  refine eg_iconst C (0 : Int32) dX0_doneBy_2 (by decide) ?_
  refine eg_istore_n C [(3, .int (0 : Int32)), (2, .int (0 : Int32)), (0, .ref (eu_ad E 3)), (1, .int a1)] dX0_doneBy_3 rfl (by decide) rfl ?_
  refine eg_sub C [2, 3, 1, 0] rfl ?_
  exact wX0_doneBy_L4 C 200 _ _ _ h
theorem kX0_doneBy {l : Launch} {σ : eu_T} {r : Int32} {a1 : Int32}  (h : fX0_doneBy σ a1 = some r) : eu_KI l yX0_doneBy (Cond.code yX0_doneBy cX0_doneBy 4 (some .int) :: eu_TB) ({ frames := 1, cells := 0, slots := 0, locals := 21 } : Room) 0 25 (fun ad => [.ref (ad 3), .int a1]) σ σ r :=
  eu_KI_of (by decide) (by decide) rfl (fun _ => Nat.le_of_ble_eq_true rfl) (fun E C => wX0_doneBy C h)
set_option maxHeartbeats 4000000 in
set_option maxRecDepth 100000 in
theorem wX3_ownerOf_J62 {E : eu_E} (C : eu_C E ({ frames := 0, cells := 0, slots := 0, locals := 0 } : Room) 0 25 5 cX3_ownerOf RX3 (Cond.code yX3_ownerOf cX3_ownerOf 5 (some .int) :: eu_TB) (some .int)) {σ : eu_T} {r : Int32}   (v3 : Int32) (s0 : Int32)  (h : fX3_ownerOf_J62 σ v3 s0 = some r) : eu_G E 0 25 5 (eu_QI E 0 25 σ r) σ 62 [(0, .ref (eu_ad E 2)), (3, .int v3)] [.int s0] := by
  unfold fX3_ownerOf_J62 at h
  refine eg_istore C [(4, .int s0), (0, .ref (eu_ad E 2)), (3, .int v3)] dX3_ownerOf_62 (by decide) rfl ?_
  refine eg_iload C 0 dX3_ownerOf_64 rfl ?_
  refine eg_if_eq C 78 dX3_ownerOf_66 (by decide) (fun c => ?_) (fun c => ?_)
  · rw [if_pos c] at h
    refine eg_iconst C (-1 : Int32) dX3_ownerOf_78 (by decide) ?_
    obtain rfl := Option.some.inj h
    exact eg_iret C rfl dX3_ownerOf_79
  · rw [if_neg c] at h
    refine eg_aload_n C 1 dX3_ownerOf_69 rfl ?_
    refine gf_X3_18 C (by decide) dX3_ownerOf_70 ?_
    refine eg_iload_n C 2 dX3_ownerOf_73 rfl ?_
    obtain ⟨g2, h⟩ := eu_gd_some h
    refine eg_iald C 9 (by decide) (z := 12) (fun _ => rfl) (eu_in_vp g2) dX3_ownerOf_74 ?_
    refine eg_goto C 79 dX3_ownerOf_75 (by decide) ?_
    obtain rfl := Option.some.inj h
    exact eg_iret C rfl dX3_ownerOf_79
set_option maxHeartbeats 4000000 in
set_option maxRecDepth 100000 in
theorem wX3_ownerOf_J61 {E : eu_E} (C : eu_C E ({ frames := 0, cells := 0, slots := 0, locals := 0 } : Room) 0 25 5 cX3_ownerOf RX3 (Cond.code yX3_ownerOf cX3_ownerOf 5 (some .int) :: eu_TB) (some .int)) {σ : eu_T} {r : Int32}   (v3 : Int32)  (h : fX3_ownerOf_J61 σ v3 = some r) : eu_G E 0 25 5 (eu_QI E 0 25 σ r) σ 61 [(0, .ref (eu_ad E 2)), (3, .int v3)] [] := by
  unfold fX3_ownerOf_J61 at h
  refine eg_iconst C (0 : Int32) dX3_ownerOf_61 (by decide) ?_
  refine eg_sub C [0, 1] rfl ?_
  exact wX3_ownerOf_J62 C _ _ h
set_option maxHeartbeats 4000000 in
set_option maxRecDepth 100000 in
theorem wX3_ownerOf_J33 {E : eu_E} (C : eu_C E ({ frames := 0, cells := 0, slots := 0, locals := 0 } : Room) 0 25 5 cX3_ownerOf RX3 (Cond.code yX3_ownerOf cX3_ownerOf 5 (some .int) :: eu_TB) (some .int)) {σ : eu_T} {r : Int32}     (h : fX3_ownerOf_J33 σ = some r) : eu_G E 0 25 5 (eu_QI E 0 25 σ r) σ 33 [] [] := by
  unfold fX3_ownerOf_J33 at h
  refine eg_iconst C (-1 : Int32) dX3_ownerOf_33 (by decide) ?_
  obtain rfl := Option.some.inj h
  exact eg_iret C rfl dX3_ownerOf_34
set_option maxHeartbeats 4000000 in
set_option maxRecDepth 100000 in
theorem wX3_ownerOf {E : eu_E} (C : eu_C E ({ frames := 0, cells := 0, slots := 0, locals := 0 } : Room) 0 25 5 cX3_ownerOf RX3 (Cond.code yX3_ownerOf cX3_ownerOf 5 (some .int) :: eu_TB) (some .int)) {σ : eu_T} {r : Int32} {a1 : Int32} {a2 : Int32}  (h : fX3_ownerOf σ a1 a2 = some r) : eu_G E 0 25 5 (eu_QI E 0 25 σ r) σ 0 [(0, .ref (eu_ad E 2)), (1, .int a1), (2, .int a2)] [] := by
  unfold fX3_ownerOf at h
  refine eg_iload_n C 1 dX3_ownerOf_0 rfl ?_
  refine eg_bipush C (12 : Int32) dX3_ownerOf_1 (by decide) ?_
  refine eg_icmp_ge C 35 dX3_ownerOf_3 (by decide) (fun c => ?_) (fun c => ?_)
  · rw [if_pos c] at h
    refine eg_iload_n C 1 dX3_ownerOf_35 rfl ?_
    refine eg_bipush C (12 : Int32) dX3_ownerOf_36 (by decide) ?_
    refine eg_isub C dX3_ownerOf_38 ?_
    refine eg_istore_n C [(3, .int (a1 - (12 : Int32))), (0, .ref (eu_ad E 2)), (1, .int a1), (2, .int a2)] dX3_ownerOf_39 rfl (by decide) rfl ?_
    refine eg_iload_n C 0 dX3_ownerOf_40 rfl ?_
    refine eg_aload_n C 1 dX3_ownerOf_41 rfl ?_
    refine gf_X3_25 C (by decide) dX3_ownerOf_42 ?_
    refine eg_icmp_ge C 61 dX3_ownerOf_45 (by decide) (fun c => ?_) (fun c => ?_)
    · rw [if_pos c] at h
      refine eg_sub C [1, 0] rfl ?_
      exact wX3_ownerOf_J61 C _ h
    · rw [if_neg c] at h
      refine eg_iload_n C 3 dX3_ownerOf_48 rfl ?_
      refine eg_iload_n C 0 dX3_ownerOf_49 rfl ?_
      refine eg_ishr C dX3_ownerOf_50 ?_
      refine eg_iconst C (1 : Int32) dX3_ownerOf_51 (by decide) ?_
      refine eg_iand C dX3_ownerOf_52 ?_
      refine eg_iconst C (1 : Int32) dX3_ownerOf_53 (by decide) ?_
      refine eg_icmp_ne C 61 dX3_ownerOf_54 (by decide) (fun c => ?_) (fun c => ?_)
      · rw [if_neg c] at h
        refine eg_sub C [1, 0] rfl ?_
        exact wX3_ownerOf_J61 C _ h
      · rw [if_pos c] at h
        refine eg_iconst C (1 : Int32) dX3_ownerOf_57 (by decide) ?_
        refine eg_goto C 62 dX3_ownerOf_58 (by decide) ?_
        refine eg_sub C [1, 0] rfl ?_
        exact wX3_ownerOf_J62 C _ _ h
  · rw [if_neg c] at h
    refine eg_iload_n C 1 dX3_ownerOf_6 rfl ?_
    refine eg_if_lt C 33 dX3_ownerOf_7 (by decide) (fun c => ?_) (fun c => ?_)
    · rw [if_pos c] at h
      refine eg_sub C [] rfl ?_
      exact wX3_ownerOf_J33 C h
    · rw [if_neg c] at h
      refine eg_iload_n C 1 dX3_ownerOf_10 rfl ?_
      refine eg_aload_n C 0 dX3_ownerOf_11 rfl ?_
      refine gf_X3_12 C (by decide) dX3_ownerOf_12 ?_
      refine gf_X3_43 C (by decide) dX3_ownerOf_15 ?_
      refine eg_icmp_ge C 33 dX3_ownerOf_18 (by decide) (fun c => ?_) (fun c => ?_)
      · rw [if_pos c] at h
        refine eg_sub C [] rfl ?_
        exact wX3_ownerOf_J33 C h
      · rw [if_neg c] at h
        refine eg_aload_n C 0 dX3_ownerOf_21 rfl ?_
        refine gf_X3_12 C (by decide) dX3_ownerOf_22 ?_
        refine gf_X3_44 C (by decide) dX3_ownerOf_25 ?_
        refine eg_iload_n C 1 dX3_ownerOf_28 rfl ?_
        obtain ⟨g1, h⟩ := eu_gd_some h
        refine eg_iald C 7 (by decide) (z := 12) (fun _ => rfl) (eu_in_vp g1) dX3_ownerOf_29 ?_
        refine eg_goto C 34 dX3_ownerOf_30 (by decide) ?_
        obtain rfl := Option.some.inj h
        exact eg_iret C rfl dX3_ownerOf_34
theorem kX3_ownerOf {l : Launch} {σ : eu_T} {r : Int32} {a1 : Int32} {a2 : Int32}  (h : fX3_ownerOf σ a1 a2 = some r) : eu_KI l yX3_ownerOf (Cond.code yX3_ownerOf cX3_ownerOf 5 (some .int) :: eu_TB) ({ frames := 0, cells := 0, slots := 0, locals := 0 } : Room) 0 25 (fun ad => [.ref (ad 2), .int a1, .int a2]) σ σ r :=
  eu_KI_of (by decide) (by decide) rfl (fun _ => Nat.le_of_ble_eq_true rfl) (fun E C => wX3_ownerOf C h)
theorem cw_X3_lawful_X3_ownerOf_29 {E : eu_E} (C : eu_C E ({ frames := 1, cells := 0, slots := 0, locals := 24 } : Room) 0 25 7 cX3_lawful RX3 (Cond.code yX3_lawful cX3_lawful 7 (some .int) :: eu_TB) (some .int)) : CallW (eu_R E) (eu_s E) (eu_a E) RX3 RX3 29 yX3_ownerOf cX3_ownerOf 5 (some .int) (Cond.code yX3_ownerOf cX3_ownerOf 5 (some .int) :: eu_TB) ({ frames := 0, cells := 0, slots := 0, locals := 0 } : Room) 0 0 2 := eu_cwV C tw_235 tw_236 tw_237 tw_28 tw_238 rfl rfl (by decide +kernel) (by decide)
theorem cw_X3_lawful_X4_bitOf_33 {E : eu_E} (C : eu_C E ({ frames := 1, cells := 0, slots := 0, locals := 24 } : Room) 0 25 7 cX3_lawful RX3 (Cond.code yX3_lawful cX3_lawful 7 (some .int) :: eu_TB) (some .int)) : va_CN (eu_R E) (eu_s E) (eu_a E) RX3 33 yX4_bitOf "EachUndoes" cX4_bitOf 2 (some .int) (Cond.code yX4_bitOf cX4_bitOf 2 (some .int) :: eu_TB) ({ frames := 0, cells := 0, slots := 0, locals := 0 } : Room) 0 0 2 ∧ (Cond.static yX4_bitOf).before (eu_a E) (eu_s E) = true ∧ True := eu_cnS C (List.mem_of_getElem? (i := 31) rfl) tw_158 tw_2 tw_159 rfl rfl (by decide +kernel) (by decide)
set_option maxHeartbeats 4000000 in
set_option maxRecDepth 100000 in
theorem wX3_lawful_J53 {E : eu_E} (C : eu_C E ({ frames := 1, cells := 0, slots := 0, locals := 24 } : Room) 0 25 7 cX3_lawful RX3 (Cond.code yX3_lawful cX3_lawful 7 (some .int) :: eu_TB) (some .int)) {σ : eu_T} {r : Int32} {k7 : Int32 → Int32 → Int32 → Int32 → Option Int32} (hk_7 : ∀ (v1 : Int32) (v2 : Int32) (v3 : Int32) (v4 : Int32), k7 v1 v2 v3 v4 = some r → eu_G E 0 25 7 (eu_QI E 0 25 σ r) σ 7 [(0, .ref (eu_ad E 2)), (1, .int v1), (2, .int v2), (3, .int v3), (4, .int v4)] []) (v1 : Int32) (v2 : Int32) (v3 : Int32) (v4 : Int32) (s0 : Int32)  (h : fX3_lawful_J53 σ k7 v1 v2 v3 v4 s0 = some r) : eu_G E 0 25 7 (eu_QI E 0 25 σ r) σ 53 [(0, .ref (eu_ad E 2)), (1, .int v1), (2, .int v2), (3, .int v3), (4, .int v4)] [.int s0] := by
  unfold fX3_lawful_J53 at h
  refine eg_istore C [(6, .int s0), (0, .ref (eu_ad E 2)), (1, .int v1), (2, .int v2), (3, .int v3), (4, .int v4)] dX3_lawful_53 (by decide) rfl ?_
  refine eg_iload C 5 dX3_lawful_55 rfl ?_
  refine eg_iload_n C 2 dX3_lawful_57 rfl ?_
  refine eg_icmp_eq C 99 dX3_lawful_58 (by decide) (fun c => ?_) (fun c => ?_)
  · rw [if_pos c] at h
    refine eg_iinc C 5 (v4 + (1 : Int32)) [(4, .int (v4 + (1 : Int32))), (6, .int s0), (0, .ref (eu_ad E 2)), (1, .int v1), (2, .int v2), (3, .int v3)] dX3_lawful_99 rfl rfl (by decide) rfl ?_
    refine eg_goto C 7 dX3_lawful_102 (by decide) ?_
    refine eg_sub C [2, 3, 4, 5, 0] rfl ?_
    exact hk_7 _ _ _ _ h
  · rw [if_neg c] at h
    refine eg_iload C 0 dX3_lawful_61 rfl ?_
    refine eg_if_eq C 99 dX3_lawful_63 (by decide) (fun c => ?_) (fun c => ?_)
    · rw [if_pos c] at h
      refine eg_iinc C 5 (v4 + (1 : Int32)) [(4, .int (v4 + (1 : Int32))), (6, .int s0), (0, .ref (eu_ad E 2)), (1, .int v1), (2, .int v2), (3, .int v3)] dX3_lawful_99 rfl rfl (by decide) rfl ?_
      refine eg_goto C 7 dX3_lawful_102 (by decide) ?_
      refine eg_sub C [2, 3, 4, 5, 0] rfl ?_
      exact hk_7 _ _ _ _ h
    · rw [if_neg c] at h
      refine eg_iload_n C 4 dX3_lawful_66 rfl ?_
      refine eg_aload_n C 1 dX3_lawful_67 rfl ?_
      refine gf_X3_18 C (by decide) dX3_lawful_68 ?_
      refine eg_iload C 5 dX3_lawful_71 rfl ?_
      obtain ⟨g4, h⟩ := eu_gd_some h
      refine eg_iald C 9 (by decide) (z := 12) (fun _ => rfl) (eu_in_vp g4) dX3_lawful_73 ?_
      refine eg_scallNI C (cw_X3_lawful_X4_bitOf_33 C) (av := [.int v3, .int (σ 9 v4.toNatClampNeg)]) (kX4_bitOf rfl) rfl (st := []) rfl (Nat.le_of_ble_eq_true rfl) dX3_lawful_74 ?_
      refine eg_if_ne C 99 dX3_lawful_77 (by decide) (fun c => ?_) (fun c => ?_)
      · rw [if_neg c] at h
        refine eg_iinc C 5 (v4 + (1 : Int32)) [(4, .int (v4 + (1 : Int32))), (6, .int s0), (0, .ref (eu_ad E 2)), (1, .int v1), (2, .int v2), (3, .int v3)] dX3_lawful_99 rfl rfl (by decide) rfl ?_
        refine eg_goto C 7 dX3_lawful_102 (by decide) ?_
        refine eg_sub C [2, 3, 4, 5, 0] rfl ?_
        exact hk_7 _ _ _ _ h
      · rw [if_pos c] at h
        refine eg_iload_n C 3 dX3_lawful_80 rfl ?_
        refine eg_iconst C (1 : Int32) dX3_lawful_81 (by decide) ?_
        refine eg_iload C 5 dX3_lawful_82 rfl ?_
        refine eg_ishl C dX3_lawful_84 ?_
        refine eg_ior C dX3_lawful_85 ?_
        refine eg_istore_n C [(2, .int (v2 ||| ((1 : Int32) <<< (v4 &&& 31)))), (6, .int s0), (0, .ref (eu_ad E 2)), (1, .int v1), (3, .int v3), (4, .int v4)] dX3_lawful_86 rfl (by decide) rfl ?_
        refine eg_iload_n C 4 dX3_lawful_87 rfl ?_
        refine eg_iconst C (1 : Int32) dX3_lawful_88 (by decide) ?_
        refine eg_aload_n C 2 dX3_lawful_89 rfl ?_
        refine gf_X3_18 C (by decide) dX3_lawful_90 ?_
        refine eg_iload C 5 dX3_lawful_93 rfl ?_
        obtain ⟨g5, h⟩ := eu_gd_some h
        refine eg_iald C 9 (by decide) (z := 12) (fun _ => rfl) (eu_in_vp g5) dX3_lawful_95 ?_
        refine eg_ishl C dX3_lawful_96 ?_
        refine eg_ior C dX3_lawful_97 ?_
        refine eg_istore_n C [(3, .int (v3 ||| ((1 : Int32) <<< ((σ 9 v4.toNatClampNeg) &&& 31)))), (2, .int (v2 ||| ((1 : Int32) <<< (v4 &&& 31)))), (6, .int s0), (0, .ref (eu_ad E 2)), (1, .int v1), (4, .int v4)] dX3_lawful_98 rfl (by decide) rfl ?_
        refine eg_iinc C 5 (v4 + (1 : Int32)) [(4, .int (v4 + (1 : Int32))), (3, .int (v3 ||| ((1 : Int32) <<< ((σ 9 v4.toNatClampNeg) &&& 31)))), (2, .int (v2 ||| ((1 : Int32) <<< (v4 &&& 31)))), (6, .int s0), (0, .ref (eu_ad E 2)), (1, .int v1)] dX3_lawful_99 rfl rfl (by decide) rfl ?_
        refine eg_goto C 7 dX3_lawful_102 (by decide) ?_
        refine eg_sub C [4, 5, 2, 1, 0] rfl ?_
        exact hk_7 _ _ _ _ h
set_option maxHeartbeats 4000000 in
set_option maxRecDepth 100000 in
theorem wX3_lawful_J52 {E : eu_E} (C : eu_C E ({ frames := 1, cells := 0, slots := 0, locals := 24 } : Room) 0 25 7 cX3_lawful RX3 (Cond.code yX3_lawful cX3_lawful 7 (some .int) :: eu_TB) (some .int)) {σ : eu_T} {r : Int32} {k7 : Int32 → Int32 → Int32 → Int32 → Option Int32} (hk_7 : ∀ (v1 : Int32) (v2 : Int32) (v3 : Int32) (v4 : Int32), k7 v1 v2 v3 v4 = some r → eu_G E 0 25 7 (eu_QI E 0 25 σ r) σ 7 [(0, .ref (eu_ad E 2)), (1, .int v1), (2, .int v2), (3, .int v3), (4, .int v4)] []) (v1 : Int32) (v2 : Int32) (v3 : Int32) (v4 : Int32)  (h : fX3_lawful_J52 σ k7 v1 v2 v3 v4 = some r) : eu_G E 0 25 7 (eu_QI E 0 25 σ r) σ 52 [(0, .ref (eu_ad E 2)), (1, .int v1), (2, .int v2), (3, .int v3), (4, .int v4)] [] := by
  unfold fX3_lawful_J52 at h
  refine eg_iconst C (0 : Int32) dX3_lawful_52 (by decide) ?_
  refine eg_sub C [0, 1, 2, 3, 4] rfl ?_
  exact wX3_lawful_J53 C hk_7 _ _ _ _ _ h
set_option maxHeartbeats 4000000 in
set_option maxRecDepth 100000 in
theorem wX3_lawful_L7 {E : eu_E} (C : eu_C E ({ frames := 1, cells := 0, slots := 0, locals := 24 } : Room) 0 25 7 cX3_lawful RX3 (Cond.code yX3_lawful cX3_lawful 7 (some .int) :: eu_TB) (some .int)) {σ : eu_T} {r : Int32}   : ∀ (n : Nat) (v1 : Int32) (v2 : Int32) (v3 : Int32) (v4 : Int32), fX3_lawful_L7 σ n v1 v2 v3 v4 = some r → eu_G E 0 25 7 (eu_QI E 0 25 σ r) σ 7 [(0, .ref (eu_ad E 2)), (1, .int v1), (2, .int v2), (3, .int v3), (4, .int v4)] [] := by
  intro n
  induction n with
  | zero =>
    intro v1 v2 v3 v4  h
    rw [fX3_lawful_L7_z] at h
    cases h
  | succ n ih =>
    intro v1 v2 v3 v4  h
    rw [fX3_lawful_L7_s] at h
    refine eg_iload C 4 dX3_lawful_7 rfl ?_
    refine eg_aload_n C 0 dX3_lawful_9 rfl ?_
    refine gf_X3_25 C (by decide) dX3_lawful_10 ?_
    refine eg_icmp_ge C 105 dX3_lawful_13 (by decide) (fun c => ?_) (fun c => ?_)
    · rw [if_pos c] at h
      refine eg_iload_n C 2 dX3_lawful_105 rfl ?_
      obtain rfl := Option.some.inj h
      exact eg_iret C rfl dX3_lawful_106
    · rw [if_neg c] at h
      refine eg_aload_n C 0 dX3_lawful_16 rfl ?_
      refine eg_aload_n C 0 dX3_lawful_17 rfl ?_
      refine gf_X3_22 C (by decide) dX3_lawful_18 ?_
      refine eg_iload C 4 dX3_lawful_21 rfl ?_
      obtain ⟨g1, h⟩ := eu_gd_some h
      refine eg_iald C 10 (by decide) (z := 12) (fun _ => rfl) (eu_in_vp g1) dX3_lawful_23 ?_
      refine eg_iload_n C 2 dX3_lawful_24 rfl ?_
      obtain ⟨r2, hr2, h⟩ := eu_bd_some h
      refine eg_callI C (cw_X3_lawful_X3_ownerOf_29 C) (av := [.int (σ 10 v4.toNatClampNeg), .int v2]) 2 (by decide) (kX3_ownerOf hr2) rfl rfl rfl rfl (st := []) rfl (Nat.le_of_ble_eq_true rfl) dX3_lawful_25 ?_
      refine eg_istore C [(5, .int r2), (0, .ref (eu_ad E 2)), (1, .int v1), (2, .int v2), (3, .int v3), (4, .int v4)] dX3_lawful_28 (by decide) rfl ?_
      refine eg_iload C 0 dX3_lawful_30 rfl ?_
      refine eg_iconst C (-1 : Int32) dX3_lawful_32 (by decide) ?_
      refine eg_icmp_eq C 52 dX3_lawful_33 (by decide) (fun c => ?_) (fun c => ?_)
      · rw [if_pos c] at h
        refine eg_sub C [1, 2, 3, 4, 5] rfl ?_
        exact wX3_lawful_J52 C ih _ _ _ _ h
      · rw [if_neg c] at h
        refine eg_iload C 0 dX3_lawful_36 rfl ?_
        refine eg_aload_n C 1 dX3_lawful_38 rfl ?_
        refine gf_X3_18 C (by decide) dX3_lawful_39 ?_
        refine eg_iload C 5 dX3_lawful_42 rfl ?_
        obtain ⟨g3, h⟩ := eu_gd_some h
        refine eg_iald C 9 (by decide) (z := 12) (fun _ => rfl) (eu_in_vp g3) dX3_lawful_44 ?_
        refine eg_icmp_eq C 52 dX3_lawful_45 (by decide) (fun c => ?_) (fun c => ?_)
        · rw [if_pos c] at h
          refine eg_sub C [1, 2, 3, 4, 5] rfl ?_
          exact wX3_lawful_J52 C ih _ _ _ _ h
        · rw [if_neg c] at h
          refine eg_iconst C (1 : Int32) dX3_lawful_48 (by decide) ?_
          refine eg_goto C 53 dX3_lawful_49 (by decide) ?_
          refine eg_sub C [1, 2, 3, 4, 5] rfl ?_
          exact wX3_lawful_J53 C ih _ _ _ _ _ h
set_option maxHeartbeats 4000000 in
set_option maxRecDepth 100000 in
theorem wX3_lawful {E : eu_E} (C : eu_C E ({ frames := 1, cells := 0, slots := 0, locals := 24 } : Room) 0 25 7 cX3_lawful RX3 (Cond.code yX3_lawful cX3_lawful 7 (some .int) :: eu_TB) (some .int)) {σ : eu_T} {r : Int32} {a1 : Int32}  (h : fX3_lawful σ a1 = some r) : eu_G E 0 25 7 (eu_QI E 0 25 σ r) σ 0 [(0, .ref (eu_ad E 2)), (1, .int a1)] [] := by
  unfold fX3_lawful at h
  refine eg_iconst C (0 : Int32) dX3_lawful_0 (by decide) ?_
  refine eg_istore_n C [(2, .int (0 : Int32)), (0, .ref (eu_ad E 2)), (1, .int a1)] dX3_lawful_1 rfl (by decide) rfl ?_
  refine eg_iconst C (0 : Int32) dX3_lawful_2 (by decide) ?_
  refine eg_istore_n C [(3, .int (0 : Int32)), (2, .int (0 : Int32)), (0, .ref (eu_ad E 2)), (1, .int a1)] dX3_lawful_3 rfl (by decide) rfl ?_
  refine eg_iconst C (0 : Int32) dX3_lawful_4 (by decide) ?_
  refine eg_istore C [(4, .int (0 : Int32)), (3, .int (0 : Int32)), (2, .int (0 : Int32)), (0, .ref (eu_ad E 2)), (1, .int a1)] dX3_lawful_5 (by decide) rfl ?_
  refine eg_sub C [3, 4, 2, 1, 0] rfl ?_
  exact wX3_lawful_L7 C 200 _ _ _ _ h
theorem kX3_lawful {l : Launch} {σ : eu_T} {r : Int32} {a1 : Int32}  (h : fX3_lawful σ a1 = some r) : eu_KI l yX3_lawful (Cond.code yX3_lawful cX3_lawful 7 (some .int) :: eu_TB) ({ frames := 1, cells := 0, slots := 0, locals := 24 } : Room) 0 25 (fun ad => [.ref (ad 2), .int a1]) σ σ r :=
  eu_KI_of (by decide) (by decide) rfl (fun _ => Nat.le_of_ble_eq_true rfl) (fun E C => wX3_lawful C h)
theorem cw_X3_unspent_X4_bitOf_33 {E : eu_E} (C : eu_C E ({ frames := 1, cells := 0, slots := 0, locals := 21 } : Room) 0 25 4 cX3_unspent RX3 (Cond.code yX3_unspent cX3_unspent 4 (some .int) :: eu_TB) (some .int)) : va_CN (eu_R E) (eu_s E) (eu_a E) RX3 33 yX4_bitOf "EachUndoes" cX4_bitOf 2 (some .int) (Cond.code yX4_bitOf cX4_bitOf 2 (some .int) :: eu_TB) ({ frames := 0, cells := 0, slots := 0, locals := 0 } : Room) 0 0 2 ∧ (Cond.static yX4_bitOf).before (eu_a E) (eu_s E) = true ∧ True := eu_cnS C (List.mem_of_getElem? (i := 31) rfl) tw_158 tw_2 tw_159 rfl rfl (by decide +kernel) (by decide)
set_option maxHeartbeats 4000000 in
set_option maxRecDepth 100000 in
theorem wX3_unspent_L5 {E : eu_E} (C : eu_C E ({ frames := 1, cells := 0, slots := 0, locals := 21 } : Room) 0 25 4 cX3_unspent RX3 (Cond.code yX3_unspent cX3_unspent 4 (some .int) :: eu_TB) (some .int)) {σ : eu_T} {r : Int32}   : ∀ (n : Nat) (v1 : Int32) (v2 : Int32) (v3 : Int32), fX3_unspent_L5 σ n v1 v2 v3 = some r → eu_G E 0 25 4 (eu_QI E 0 25 σ r) σ 5 [(0, .ref (eu_ad E 2)), (1, .int v1), (2, .int v2), (3, .int v3)] [] := by
  intro n
  induction n with
  | zero =>
    intro v1 v2 v3  h
    rw [fX3_unspent_L5_z] at h
    cases h
  | succ n ih =>
    intro v1 v2 v3  h
    rw [fX3_unspent_L5_s] at h
    refine eg_iload_n C 3 dX3_unspent_5 rfl ?_
    refine eg_aload_n C 0 dX3_unspent_6 rfl ?_
    refine gf_X3_25 C (by decide) dX3_unspent_7 ?_
    refine eg_icmp_ge C 41 dX3_unspent_10 (by decide) (fun c => ?_) (fun c => ?_)
    · rw [if_pos c] at h
      refine eg_iload_n C 2 dX3_unspent_41 rfl ?_
      obtain rfl := Option.some.inj h
      exact eg_iret C rfl dX3_unspent_42
    · rw [if_neg c] at h
      refine eg_iload_n C 1 dX3_unspent_13 rfl ?_
      refine eg_iload_n C 3 dX3_unspent_14 rfl ?_
      refine eg_scallNI C (cw_X3_unspent_X4_bitOf_33 C) (av := [.int v1, .int v3]) (kX4_bitOf rfl) rfl (st := []) rfl (Nat.le_of_ble_eq_true rfl) dX3_unspent_15 ?_
      refine eg_iconst C (1 : Int32) dX3_unspent_18 (by decide) ?_
      refine eg_icmp_ne C 35 dX3_unspent_19 (by decide) (fun c => ?_) (fun c => ?_)
      · rw [if_neg c] at h
        refine eg_iinc C 3 (v3 + (1 : Int32)) [(3, .int (v3 + (1 : Int32))), (0, .ref (eu_ad E 2)), (1, .int v1), (2, .int v2)] dX3_unspent_35 rfl rfl (by decide) rfl ?_
        refine eg_goto C 5 dX3_unspent_38 (by decide) ?_
        refine eg_sub C [1, 2, 3, 0] rfl ?_
        exact ih _ _ _ h
      · rw [if_pos c] at h
        refine eg_iload_n C 2 dX3_unspent_22 rfl ?_
        refine eg_iconst C (1 : Int32) dX3_unspent_23 (by decide) ?_
        refine eg_aload_n C 0 dX3_unspent_24 rfl ?_
        refine gf_X3_18 C (by decide) dX3_unspent_25 ?_
        refine eg_iload_n C 3 dX3_unspent_28 rfl ?_
        obtain ⟨g1, h⟩ := eu_gd_some h
        refine eg_iald C 9 (by decide) (z := 12) (fun _ => rfl) (eu_in_vp g1) dX3_unspent_29 ?_
        refine eg_ishl C dX3_unspent_30 ?_
        refine eg_iconst C (-1 : Int32) dX3_unspent_31 (by decide) ?_
        refine eg_ixor C dX3_unspent_32 ?_
        refine eg_iand C dX3_unspent_33 ?_
        obtain ⟨x2, ex2, h⟩ := eu_lt_x h
        rw [← ex2]
        refine eg_istore_n C [(2, .int x2), (0, .ref (eu_ad E 2)), (1, .int v1), (3, .int v3)] dX3_unspent_34 rfl (by decide) rfl ?_
        refine eg_iinc C 3 (v3 + (1 : Int32)) [(3, .int (v3 + (1 : Int32))), (2, .int x2), (0, .ref (eu_ad E 2)), (1, .int v1)] dX3_unspent_35 rfl rfl (by decide) rfl ?_
        refine eg_goto C 5 dX3_unspent_38 (by decide) ?_
        refine eg_sub C [2, 3, 1, 0] rfl ?_
        exact ih _ _ _ h
set_option maxHeartbeats 4000000 in
set_option maxRecDepth 100000 in
theorem wX3_unspent {E : eu_E} (C : eu_C E ({ frames := 1, cells := 0, slots := 0, locals := 21 } : Room) 0 25 4 cX3_unspent RX3 (Cond.code yX3_unspent cX3_unspent 4 (some .int) :: eu_TB) (some .int)) {σ : eu_T} {r : Int32} {a1 : Int32}  (h : fX3_unspent σ a1 = some r) : eu_G E 0 25 4 (eu_QI E 0 25 σ r) σ 0 [(0, .ref (eu_ad E 2)), (1, .int a1)] [] := by
  unfold fX3_unspent at h
  refine eg_bipush C (63 : Int32) dX3_unspent_0 (by decide) ?_
  refine eg_istore_n C [(2, .int (63 : Int32)), (0, .ref (eu_ad E 2)), (1, .int a1)] dX3_unspent_2 rfl (by decide) rfl ?_
  refine eg_iconst C (0 : Int32) dX3_unspent_3 (by decide) ?_
  refine eg_istore_n C [(3, .int (0 : Int32)), (2, .int (63 : Int32)), (0, .ref (eu_ad E 2)), (1, .int a1)] dX3_unspent_4 rfl (by decide) rfl ?_
  refine eg_sub C [2, 3, 1, 0] rfl ?_
  exact wX3_unspent_L5 C 200 _ _ _ h
theorem kX3_unspent {l : Launch} {σ : eu_T} {r : Int32} {a1 : Int32}  (h : fX3_unspent σ a1 = some r) : eu_KI l yX3_unspent (Cond.code yX3_unspent cX3_unspent 4 (some .int) :: eu_TB) ({ frames := 1, cells := 0, slots := 0, locals := 21 } : Room) 0 25 (fun ad => [.ref (ad 2), .int a1]) σ σ r :=
  eu_KI_of (by decide) (by decide) rfl (fun _ => Nat.le_of_ble_eq_true rfl) (fun E C => wX3_unspent C h)
theorem cw_X1_renew_X3_lawful_28 {E : eu_E} (C : eu_C E ({ frames := 2, cells := 0, slots := 0, locals := 50 } : Room) 0 25 1 cX1_renew RX1 (Cond.code yX1_renew cX1_renew 1 none :: eu_TB) none) : va_CN (eu_R E) (eu_s E) (eu_a E) RX1 28 yX3_lawful "EachUndoes" cX3_lawful 7 (some .int) (Cond.code yX3_lawful cX3_lawful 7 (some .int) :: eu_TB) ({ frames := 1, cells := 0, slots := 0, locals := 24 } : Room) 0 0 1 ∧ (Cond.instanceMethod yX3_lawful).before (eu_a E) (eu_s E) = true ∧ (Cond.selects RX3 yX3_lawful yX3_lawful).before (eu_a E) (eu_s E) = true := eu_cnV C (List.mem_of_getElem? (i := 43) rfl) tw_232 tw_233 tw_28 tw_234 rfl rfl (by decide +kernel) (by decide)
theorem cw_X1_renew_X3_unspent_36 {E : eu_E} (C : eu_C E ({ frames := 2, cells := 0, slots := 0, locals := 50 } : Room) 0 25 1 cX1_renew RX1 (Cond.code yX1_renew cX1_renew 1 none :: eu_TB) none) : va_CN (eu_R E) (eu_s E) (eu_a E) RX1 36 yX3_unspent "EachUndoes" cX3_unspent 4 (some .int) (Cond.code yX3_unspent cX3_unspent 4 (some .int) :: eu_TB) ({ frames := 1, cells := 0, slots := 0, locals := 21 } : Room) 0 0 1 ∧ (Cond.instanceMethod yX3_unspent).before (eu_a E) (eu_s E) = true ∧ (Cond.selects RX3 yX3_unspent yX3_unspent).before (eu_a E) (eu_s E) = true := eu_cnV C (List.mem_of_getElem? (i := 44) rfl) tw_305 tw_306 tw_28 tw_307 rfl rfl (by decide +kernel) (by decide)
set_option maxHeartbeats 4000000 in
set_option maxRecDepth 100000 in
theorem wX1_renew {E : eu_E} (C : eu_C E ({ frames := 2, cells := 0, slots := 0, locals := 50 } : Room) 0 25 1 cX1_renew RX1 (Cond.code yX1_renew cX1_renew 1 none :: eu_TB) none) {σ : eu_T} {r : Int32} {σ' : eu_T}   (h : fX1_renew σ = some (r, σ')) : eu_G E 0 25 1 (eu_QV E 0 25 σ' r) σ 0 [(0, .ref (eu_ad E 1))] [] := by
  unfold fX1_renew at h
  refine eg_aload_n C 0 dX1_renew_0 rfl ?_
  refine eg_aload_n C 0 dX1_renew_1 rfl ?_
  refine gf_X1_12 C (by decide) dX1_renew_2 ?_
  refine eg_iconst C (-1 : Int32) dX1_renew_5 (by decide) ?_
  obtain ⟨r1, hr1, h⟩ := eu_bd_some h
  refine eg_callNI C (cw_X1_renew_X3_lawful_28 C) (av := [.int (-1 : Int32)]) 2 (by decide) (kX3_lawful hr1) rfl rfl rfl rfl (st := [.ref (eu_ad E 1)]) rfl (Nat.le_of_ble_eq_true rfl) dX1_renew_6 ?_
  refine pf_X1_32 C (by decide) dX1_renew_9 ?_
  obtain ⟨σ2, eσ2, h⟩ := eu_lt_x h
  rw [← eσ2]
  refine eg_aload_n C 0 dX1_renew_12 rfl ?_
  refine eg_aload_n C 0 dX1_renew_13 rfl ?_
  refine gf_X1_12 C (by decide) dX1_renew_14 ?_
  refine eg_aload_n C 0 dX1_renew_17 rfl ?_
  refine gf_X1_32 C (by decide) dX1_renew_18 ?_
  obtain ⟨r3, hr3, h⟩ := eu_bd_some h
  refine eg_callNI C (cw_X1_renew_X3_unspent_36 C) (av := [.int (σ2 1 3)]) 2 (by decide) (kX3_unspent hr3) rfl rfl rfl rfl (st := [.ref (eu_ad E 1)]) rfl (Nat.le_of_ble_eq_true rfl) dX1_renew_21 ?_
  refine pf_X1_39 C (by decide) dX1_renew_24 ?_
  obtain ⟨σ4, eσ4, h⟩ := eu_lt_x h
  rw [← eσ4]
  obtain ⟨rfl, rfl⟩ := eu_inj2 h
  exact eg_vret C rfl _ dX1_renew_27
theorem kX1_renew {l : Launch} {σ : eu_T} {r : Int32} {σ' : eu_T}   (h : fX1_renew σ = some (r, σ')) : eu_KV l yX1_renew (Cond.code yX1_renew cX1_renew 1 none :: eu_TB) ({ frames := 2, cells := 0, slots := 0, locals := 50 } : Room) 0 25 (fun ad => [.ref (ad 1)]) σ σ' r :=
  eu_KV_of (by decide) (by decide) rfl (fun _ => Nat.le_of_ble_eq_true rfl) (fun E C => wX1_renew C h)
set_option maxHeartbeats 4000000 in
set_option maxRecDepth 100000 in
theorem wX3_holding_L8 {E : eu_E} (C : eu_C E ({ frames := 0, cells := 0, slots := 0, locals := 0 } : Room) 0 25 5 cX3_holding RX3 (Cond.code yX3_holding cX3_holding 5 (some .int) :: eu_TB) (some .int)) {σ : eu_T} {r : Int32}   : ∀ (n : Nat) (v1 : Int32) (v2 : Int32) (v3 : Int32) (v4 : Int32), fX3_holding_L8 σ n v1 v2 v3 v4 = some r → eu_G E 0 25 5 (eu_QI E 0 25 σ r) σ 8 [(0, .ref (eu_ad E 2)), (1, .int v1), (2, .int v2), (3, .int v3), (4, .int v4)] [] := by
  intro n
  induction n with
  | zero =>
    intro v1 v2 v3 v4  h
    rw [fX3_holding_L8_z] at h
    cases h
  | succ n ih =>
    intro v1 v2 v3 v4  h
    rw [fX3_holding_L8_s] at h
    refine eg_iload C 4 dX3_holding_8 rfl ?_
    refine eg_if_lt C 67 dX3_holding_10 (by decide) (fun c => ?_) (fun c => ?_)
    · rw [if_pos c] at h
      refine eg_iload_n C 2 dX3_holding_67 rfl ?_
      obtain rfl := Option.some.inj h
      exact eg_iret C rfl dX3_holding_68
    · rw [if_neg c] at h
      refine eg_iload_n C 1 dX3_holding_13 rfl ?_
      refine eg_iload_n C 3 dX3_holding_14 rfl ?_
      refine eg_iconst C (-1 : Int32) dX3_holding_15 (by decide) ?_
      refine eg_ixor C dX3_holding_16 ?_
      refine eg_iand C dX3_holding_17 ?_
      refine eg_iload C 4 dX3_holding_18 rfl ?_
      refine eg_ishr C dX3_holding_20 ?_
      refine eg_iconst C (1 : Int32) dX3_holding_21 (by decide) ?_
      refine eg_iand C dX3_holding_22 ?_
      refine eg_iconst C (1 : Int32) dX3_holding_23 (by decide) ?_
      refine eg_icmp_ne C 61 dX3_holding_24 (by decide) (fun c => ?_) (fun c => ?_)
      · rw [if_neg c] at h
        refine eg_iinc C 4 (v4 + (-1 : Int32)) [(4, .int (v4 + (-1 : Int32))), (0, .ref (eu_ad E 2)), (1, .int v1), (2, .int v2), (3, .int v3)] dX3_holding_61 rfl rfl (by decide) rfl ?_
        refine eg_goto C 8 dX3_holding_64 (by decide) ?_
        refine eg_sub C [1, 2, 3, 4, 0] rfl ?_
        exact ih _ _ _ _ h
      · rw [if_pos c] at h
        refine eg_iload_n C 2 dX3_holding_27 rfl ?_
        refine eg_iconst C (1 : Int32) dX3_holding_28 (by decide) ?_
        refine eg_iload C 4 dX3_holding_29 rfl ?_
        refine eg_ishl C dX3_holding_31 ?_
        refine eg_ior C dX3_holding_32 ?_
        refine eg_istore_n C [(2, .int (v2 ||| ((1 : Int32) <<< (v4 &&& 31)))), (0, .ref (eu_ad E 2)), (1, .int v1), (3, .int v3), (4, .int v4)] dX3_holding_33 rfl (by decide) rfl ?_
        refine eg_aload_n C 1 dX3_holding_34 rfl ?_
        refine gf_X3_22 C (by decide) dX3_holding_35 ?_
        refine eg_iload C 4 dX3_holding_38 rfl ?_
        obtain ⟨g1, h⟩ := eu_gd_some h
        refine eg_iald C 10 (by decide) (z := 12) (fun _ => rfl) (eu_in_vp g1) dX3_holding_40 ?_
        refine eg_bipush C (12 : Int32) dX3_holding_41 (by decide) ?_
        refine eg_icmp_lt C 61 dX3_holding_43 (by decide) (fun c => ?_) (fun c => ?_)
        · rw [if_pos c] at h
          refine eg_iinc C 4 (v4 + (-1 : Int32)) [(4, .int (v4 + (-1 : Int32))), (2, .int (v2 ||| ((1 : Int32) <<< (v4 &&& 31)))), (0, .ref (eu_ad E 2)), (1, .int v1), (3, .int v3)] dX3_holding_61 rfl rfl (by decide) rfl ?_
          refine eg_goto C 8 dX3_holding_64 (by decide) ?_
          refine eg_sub C [2, 3, 1, 4, 0] rfl ?_
          exact ih _ _ _ _ h
        · rw [if_neg c] at h
          refine eg_iload_n C 3 dX3_holding_46 rfl ?_
          refine eg_iconst C (1 : Int32) dX3_holding_47 (by decide) ?_
          refine eg_aload_n C 1 dX3_holding_48 rfl ?_
          refine gf_X3_22 C (by decide) dX3_holding_49 ?_
          refine eg_iload C 4 dX3_holding_52 rfl ?_
          obtain ⟨g2, h⟩ := eu_gd_some h
          refine eg_iald C 10 (by decide) (z := 12) (fun _ => rfl) (eu_in_vp g2) dX3_holding_54 ?_
          refine eg_bipush C (12 : Int32) dX3_holding_55 (by decide) ?_
          refine eg_isub C dX3_holding_57 ?_
          refine eg_ishl C dX3_holding_58 ?_
          refine eg_ior C dX3_holding_59 ?_
          obtain ⟨x3, ex3, h⟩ := eu_lt_x h
          rw [← ex3]
          refine eg_istore_n C [(3, .int x3), (2, .int (v2 ||| ((1 : Int32) <<< (v4 &&& 31)))), (0, .ref (eu_ad E 2)), (1, .int v1), (4, .int v4)] dX3_holding_60 rfl (by decide) rfl ?_
          refine eg_iinc C 4 (v4 + (-1 : Int32)) [(4, .int (v4 + (-1 : Int32))), (3, .int x3), (2, .int (v2 ||| ((1 : Int32) <<< (v4 &&& 31)))), (0, .ref (eu_ad E 2)), (1, .int v1)] dX3_holding_61 rfl rfl (by decide) rfl ?_
          refine eg_goto C 8 dX3_holding_64 (by decide) ?_
          refine eg_sub C [3, 4, 2, 1, 0] rfl ?_
          exact ih _ _ _ _ h
set_option maxHeartbeats 4000000 in
set_option maxRecDepth 100000 in
theorem wX3_holding {E : eu_E} (C : eu_C E ({ frames := 0, cells := 0, slots := 0, locals := 0 } : Room) 0 25 5 cX3_holding RX3 (Cond.code yX3_holding cX3_holding 5 (some .int) :: eu_TB) (some .int)) {σ : eu_T} {r : Int32} {a1 : Int32}  (h : fX3_holding σ a1 = some r) : eu_G E 0 25 5 (eu_QI E 0 25 σ r) σ 0 [(0, .ref (eu_ad E 2)), (1, .int a1)] [] := by
  unfold fX3_holding at h
  refine eg_iconst C (0 : Int32) dX3_holding_0 (by decide) ?_
  refine eg_istore_n C [(2, .int (0 : Int32)), (0, .ref (eu_ad E 2)), (1, .int a1)] dX3_holding_1 rfl (by decide) rfl ?_
  refine eg_iconst C (0 : Int32) dX3_holding_2 (by decide) ?_
  refine eg_istore_n C [(3, .int (0 : Int32)), (2, .int (0 : Int32)), (0, .ref (eu_ad E 2)), (1, .int a1)] dX3_holding_3 rfl (by decide) rfl ?_
  refine eg_bipush C (11 : Int32) dX3_holding_4 (by decide) ?_
  refine eg_istore C [(4, .int (11 : Int32)), (3, .int (0 : Int32)), (2, .int (0 : Int32)), (0, .ref (eu_ad E 2)), (1, .int a1)] dX3_holding_6 (by decide) rfl ?_
  refine eg_sub C [3, 4, 2, 1, 0] rfl ?_
  exact wX3_holding_L8 C 200 _ _ _ _ h
theorem kX3_holding {l : Launch} {σ : eu_T} {r : Int32} {a1 : Int32}  (h : fX3_holding σ a1 = some r) : eu_KI l yX3_holding (Cond.code yX3_holding cX3_holding 5 (some .int) :: eu_TB) ({ frames := 0, cells := 0, slots := 0, locals := 0 } : Room) 0 25 (fun ad => [.ref (ad 2), .int a1]) σ σ r :=
  eu_KI_of (by decide) (by decide) rfl (fun _ => Nat.le_of_ble_eq_true rfl) (fun E C => wX3_holding C h)
theorem cw_X3_undone_X3_holding_47 {E : eu_E} (C : eu_C E ({ frames := 1, cells := 0, slots := 0, locals := 24 } : Room) 0 25 5 cX3_undone RX3 (Cond.code yX3_undone cX3_undone 5 (some .int) :: eu_TB) (some .int)) : CallW (eu_R E) (eu_s E) (eu_a E) RX3 RX3 47 yX3_holding cX3_holding 5 (some .int) (Cond.code yX3_holding cX3_holding 5 (some .int) :: eu_TB) ({ frames := 0, cells := 0, slots := 0, locals := 0 } : Room) 0 0 1 := eu_cwV C tw_297 tw_265 tw_266 tw_28 tw_267 rfl rfl (by decide +kernel) (by decide)
theorem cw_X3_undone_X4_bitOf_33 {E : eu_E} (C : eu_C E ({ frames := 1, cells := 0, slots := 0, locals := 24 } : Room) 0 25 5 cX3_undone RX3 (Cond.code yX3_undone cX3_undone 5 (some .int) :: eu_TB) (some .int)) : va_CN (eu_R E) (eu_s E) (eu_a E) RX3 33 yX4_bitOf "EachUndoes" cX4_bitOf 2 (some .int) (Cond.code yX4_bitOf cX4_bitOf 2 (some .int) :: eu_TB) ({ frames := 0, cells := 0, slots := 0, locals := 0 } : Room) 0 0 2 ∧ (Cond.static yX4_bitOf).before (eu_a E) (eu_s E) = true ∧ True := eu_cnS C (List.mem_of_getElem? (i := 31) rfl) tw_158 tw_2 tw_159 rfl rfl (by decide +kernel) (by decide)
set_option maxHeartbeats 4000000 in
set_option maxRecDepth 100000 in
theorem wX3_undone_L11 {E : eu_E} (C : eu_C E ({ frames := 1, cells := 0, slots := 0, locals := 24 } : Room) 0 25 5 cX3_undone RX3 (Cond.code yX3_undone cX3_undone 5 (some .int) :: eu_TB) (some .int)) {σ : eu_T} {r : Int32}   : ∀ (n : Nat) (v2 : Int32) (v3 : Int32) (v4 : Int32), fX3_undone_L11 σ n v2 v3 v4 = some r → eu_G E 0 25 5 (eu_QI E 0 25 σ r) σ 11 [(0, .ref (eu_ad E 2)), (2, .int v2), (3, .int v3), (4, .int v4)] [] := by
  intro n
  induction n with
  | zero =>
    intro v2 v3 v4  h
    rw [fX3_undone_L11_z] at h
    cases h
  | succ n ih =>
    intro v2 v3 v4  h
    rw [fX3_undone_L11_s] at h
    refine eg_iload C 3 dX3_undone_11 rfl ?_
    refine eg_bipush C (12 : Int32) dX3_undone_13 (by decide) ?_
    refine eg_icmp_ge C 58 dX3_undone_15 (by decide) (fun c => ?_) (fun c => ?_)
    · rw [if_pos c] at h
      refine eg_iload_n C 2 dX3_undone_58 rfl ?_
      obtain rfl := Option.some.inj h
      exact eg_iret C rfl dX3_undone_59
    · rw [if_neg c] at h
      refine eg_iload_n C 1 dX3_undone_18 rfl ?_
      refine eg_iload C 3 dX3_undone_19 rfl ?_
      refine eg_scallNI C (cw_X3_undone_X4_bitOf_33 C) (av := [.int v2, .int v4]) (kX4_bitOf rfl) rfl (st := []) rfl (Nat.le_of_ble_eq_true rfl) dX3_undone_21 ?_
      refine eg_iconst C (1 : Int32) dX3_undone_24 (by decide) ?_
      refine eg_icmp_ne C 52 dX3_undone_25 (by decide) (fun c => ?_) (fun c => ?_)
      · rw [if_neg c] at h
        refine eg_iinc C 3 (v4 + (1 : Int32)) [(4, .int (v4 + (1 : Int32))), (0, .ref (eu_ad E 2)), (2, .int v2), (3, .int v3)] dX3_undone_52 rfl rfl (by decide) rfl ?_
        refine eg_goto C 11 dX3_undone_55 (by decide) ?_
        refine eg_sub C [1, 2, 3, 0] rfl ?_
        exact ih _ _ _ h
      · rw [if_pos c] at h
        refine eg_aload_n C 0 dX3_undone_28 rfl ?_
        refine gf_X3_22 C (by decide) dX3_undone_29 ?_
        refine eg_iload C 3 dX3_undone_32 rfl ?_
        obtain ⟨g2, h⟩ := eu_gd_some h
        refine eg_iald C 10 (by decide) (z := 12) (fun _ => rfl) (eu_in_vp g2) dX3_undone_34 ?_
        refine eg_bipush C (12 : Int32) dX3_undone_35 (by decide) ?_
        refine eg_icmp_ge C 52 dX3_undone_37 (by decide) (fun c => ?_) (fun c => ?_)
        · rw [if_pos c] at h
          refine eg_iinc C 3 (v4 + (1 : Int32)) [(4, .int (v4 + (1 : Int32))), (0, .ref (eu_ad E 2)), (2, .int v2), (3, .int v3)] dX3_undone_52 rfl rfl (by decide) rfl ?_
          refine eg_goto C 11 dX3_undone_55 (by decide) ?_
          refine eg_sub C [1, 2, 3, 0] rfl ?_
          exact ih _ _ _ h
        · rw [if_neg c] at h
          refine eg_iload_n C 2 dX3_undone_40 rfl ?_
          refine eg_iconst C (1 : Int32) dX3_undone_41 (by decide) ?_
          refine eg_aload_n C 0 dX3_undone_42 rfl ?_
          refine gf_X3_22 C (by decide) dX3_undone_43 ?_
          refine eg_iload C 3 dX3_undone_46 rfl ?_
          obtain ⟨g3, h⟩ := eu_gd_some h
          refine eg_iald C 10 (by decide) (z := 12) (fun _ => rfl) (eu_in_vp g3) dX3_undone_48 ?_
          refine eg_ishl C dX3_undone_49 ?_
          refine eg_ior C dX3_undone_50 ?_
          refine eg_istore_n C [(3, .int (v3 ||| ((1 : Int32) <<< ((σ 10 v4.toNatClampNeg) &&& 31)))), (0, .ref (eu_ad E 2)), (2, .int v2), (4, .int v4)] dX3_undone_51 rfl (by decide) rfl ?_
          refine eg_iinc C 3 (v4 + (1 : Int32)) [(4, .int (v4 + (1 : Int32))), (3, .int (v3 ||| ((1 : Int32) <<< ((σ 10 v4.toNatClampNeg) &&& 31)))), (0, .ref (eu_ad E 2)), (2, .int v2)] dX3_undone_52 rfl rfl (by decide) rfl ?_
          refine eg_goto C 11 dX3_undone_55 (by decide) ?_
          refine eg_sub C [2, 3, 1, 0] rfl ?_
          exact ih _ _ _ h
set_option maxHeartbeats 4000000 in
set_option maxRecDepth 100000 in
theorem wX3_undone {E : eu_E} (C : eu_C E ({ frames := 1, cells := 0, slots := 0, locals := 24 } : Room) 0 25 5 cX3_undone RX3 (Cond.code yX3_undone cX3_undone 5 (some .int) :: eu_TB) (some .int)) {σ : eu_T} {r : Int32} {a1 : Int32}  (h : fX3_undone σ a1 = some r) : eu_G E 0 25 5 (eu_QI E 0 25 σ r) σ 0 [(0, .ref (eu_ad E 2)), (1, .int a1)] [] := by
  unfold fX3_undone at h
  refine eg_aload_n C 0 dX3_undone_0 rfl ?_
  refine eg_iload_n C 1 dX3_undone_1 rfl ?_
  obtain ⟨r1, hr1, h⟩ := eu_bd_some h
  refine eg_callI C (cw_X3_undone_X3_holding_47 C) (av := [.int a1]) 2 (by decide) (kX3_holding hr1) rfl rfl rfl rfl (st := []) rfl (Nat.le_of_ble_eq_true rfl) dX3_undone_2 ?_
  refine eg_istore_n C [(2, .int r1), (0, .ref (eu_ad E 2)), (1, .int a1)] dX3_undone_5 rfl (by decide) rfl ?_
  refine eg_iconst C (0 : Int32) dX3_undone_6 (by decide) ?_
  refine eg_istore_n C [(3, .int (0 : Int32)), (2, .int r1), (0, .ref (eu_ad E 2)), (1, .int a1)] dX3_undone_7 rfl (by decide) rfl ?_
  refine eg_iconst C (0 : Int32) dX3_undone_8 (by decide) ?_
  refine eg_istore C [(4, .int (0 : Int32)), (3, .int (0 : Int32)), (2, .int r1), (0, .ref (eu_ad E 2)), (1, .int a1)] dX3_undone_9 (by decide) rfl ?_
  refine eg_sub C [3, 2, 1, 0] rfl ?_
  exact wX3_undone_L11 C 200 _ _ _ h
theorem kX3_undone {l : Launch} {σ : eu_T} {r : Int32} {a1 : Int32}  (h : fX3_undone σ a1 = some r) : eu_KI l yX3_undone (Cond.code yX3_undone cX3_undone 5 (some .int) :: eu_TB) ({ frames := 1, cells := 0, slots := 0, locals := 24 } : Room) 0 25 (fun ad => [.ref (ad 2), .int a1]) σ σ r :=
  eu_KI_of (by decide) (by decide) rfl (fun _ => Nat.le_of_ble_eq_true rfl) (fun E C => wX3_undone C h)
theorem cw_X1_standingWith_X3_undone_48 {E : eu_E} (C : eu_C E ({ frames := 2, cells := 0, slots := 0, locals := 48 } : Room) 0 25 5 cX1_standingWith RX1 (Cond.code yX1_standingWith cX1_standingWith 5 (some .int) :: eu_TB) (some .int)) : va_CN (eu_R E) (eu_s E) (eu_a E) RX1 48 yX3_undone "EachUndoes" cX3_undone 5 (some .int) (Cond.code yX3_undone cX3_undone 5 (some .int) :: eu_TB) ({ frames := 1, cells := 0, slots := 0, locals := 24 } : Room) 0 0 1 ∧ (Cond.instanceMethod yX3_undone).before (eu_a E) (eu_s E) = true ∧ (Cond.selects RX3 yX3_undone yX3_undone).before (eu_a E) (eu_s E) = true := eu_cnV C (List.mem_of_getElem? (i := 46) rfl) tw_294 tw_295 tw_28 tw_296 rfl rfl (by decide +kernel) (by decide)
theorem cw_X1_standingWith_X0_standing_51 {E : eu_E} (C : eu_C E ({ frames := 2, cells := 0, slots := 0, locals := 48 } : Room) 0 25 5 cX1_standingWith RX1 (Cond.code yX1_standingWith cX1_standingWith 5 (some .int) :: eu_TB) (some .int)) : va_CN (eu_R E) (eu_s E) (eu_a E) RX1 51 yX0_standing "EachUndoes" cX0_standing 2 (some .int) (Cond.code yX0_standing cX0_standing 2 (some .int) :: eu_TB) ({ frames := 1, cells := 0, slots := 0, locals := 23 } : Room) 0 0 1 ∧ (Cond.instanceMethod yX0_standing).before (eu_a E) (eu_s E) = true ∧ (Cond.selects RX0 yX0_standing yX0_standing).before (eu_a E) (eu_s E) = true := eu_cnV C (List.mem_of_getElem? (i := 47) rfl) tw_298 tw_299 tw_39 tw_300 rfl rfl (by decide +kernel) (by decide)
set_option maxHeartbeats 4000000 in
set_option maxRecDepth 100000 in
theorem wX1_standingWith_J77 {E : eu_E} (C : eu_C E ({ frames := 2, cells := 0, slots := 0, locals := 48 } : Room) 0 25 5 cX1_standingWith RX1 (Cond.code yX1_standingWith cX1_standingWith 5 (some .int) :: eu_TB) (some .int)) {r : Int32} {σ' : eu_T}   (σ : eu_T) (v3 : Int32)  (h : fX1_standingWith_J77  σ v3 = some (r, σ')) : eu_G E 0 25 5 (eu_QI E 0 25 σ' r) σ 77 [(0, .ref (eu_ad E 1)), (3, .int v3)] [] := by
  unfold fX1_standingWith_J77 at h
  refine eg_aload_n C 0 dX1_standingWith_77 rfl ?_
  refine gf_X1_22 C (by decide) dX1_standingWith_78 ?_
  refine eg_aload_n C 0 dX1_standingWith_81 rfl ?_
  refine gf_X1_12 C (by decide) dX1_standingWith_82 ?_
  refine eg_iload_n C 1 dX1_standingWith_85 rfl ?_
  obtain ⟨r5, hr5, h⟩ := eu_bd_some h
  refine eg_callNI C (cw_X1_standingWith_X3_undone_48 C) (av := [.int v3]) 2 (by decide) (kX3_undone hr5) rfl rfl rfl rfl (st := [.ref (eu_ad E 3)]) rfl (Nat.le_of_ble_eq_true rfl) dX1_standingWith_86 ?_
  obtain ⟨r6, hr6, h⟩ := eu_bd_some h
  refine eg_callNI C (cw_X1_standingWith_X0_standing_51 C) (av := [.int r5]) 3 (by decide) (kX0_standing hr6) rfl rfl rfl rfl (st := []) rfl (Nat.le_of_ble_eq_true rfl) dX1_standingWith_89 ?_
  obtain ⟨rfl, rfl⟩ := eu_inj2 h
  exact eg_iret C rfl dX1_standingWith_92
set_option maxHeartbeats 4000000 in
set_option maxRecDepth 100000 in
theorem wX1_standingWith_J47 {E : eu_E} (C : eu_C E ({ frames := 2, cells := 0, slots := 0, locals := 48 } : Room) 0 25 5 cX1_standingWith RX1 (Cond.code yX1_standingWith cX1_standingWith 5 (some .int) :: eu_TB) (some .int)) {r : Int32} {σ' : eu_T}   (σ : eu_T) (v2 : Int32) (v3 : Int32) (v4 : Int32)  (h : fX1_standingWith_J47  σ v2 v3 v4 = some (r, σ')) : eu_G E 0 25 5 (eu_QI E 0 25 σ' r) σ 47 [(0, .ref (eu_ad E 1)), (2, .int v2), (3, .int v3), (4, .int v4)] [] := by
  unfold fX1_standingWith_J47 at h
  refine eg_iload_n C 1 dX1_standingWith_47 rfl ?_
  refine eg_iconst C (-1 : Int32) dX1_standingWith_48 (by decide) ?_
  refine eg_icmp_eq C 77 dX1_standingWith_49 (by decide) (fun c => ?_) (fun c => ?_)
  · rw [if_pos c] at h
    refine eg_sub C [0, 2] rfl ?_
    exact wX1_standingWith_J77 C _ _ h
  · rw [if_neg c] at h
    refine eg_iload C 3 dX1_standingWith_52 rfl ?_
    refine eg_bipush C (12 : Int32) dX1_standingWith_54 (by decide) ?_
    refine eg_icmp_ge C 77 dX1_standingWith_56 (by decide) (fun c => ?_) (fun c => ?_)
    · rw [if_pos c] at h
      refine eg_sub C [0, 2] rfl ?_
      exact wX1_standingWith_J77 C _ _ h
    · rw [if_neg c] at h
      refine eg_aload_n C 0 dX1_standingWith_59 rfl ?_
      refine gf_X1_12 C (by decide) dX1_standingWith_60 ?_
      refine gf_X1_44 C (by decide) dX1_standingWith_63 ?_
      refine eg_iload C 3 dX1_standingWith_66 rfl ?_
      refine eg_iload_n C 1 dX1_standingWith_68 rfl ?_
      obtain ⟨g3, h⟩ := eu_gd_some h
      refine eg_iast C 10 (by decide) (z := 12) (fun _ => rfl) (eu_in_vp g3) dX1_standingWith_69 ?_
      obtain ⟨σ4, eσ4, h⟩ := eu_lt_x h
      rw [← eσ4]
      refine eg_iload_n C 2 dX1_standingWith_70 rfl ?_
      refine eg_iconst C (1 : Int32) dX1_standingWith_71 (by decide) ?_
      refine eg_iload C 3 dX1_standingWith_72 rfl ?_
      refine eg_ishl C dX1_standingWith_74 ?_
      refine eg_ior C dX1_standingWith_75 ?_
      refine eg_istore_n C [(3, .int (v3 ||| ((1 : Int32) <<< (v4 &&& 31)))), (0, .ref (eu_ad E 1)), (2, .int v2), (4, .int v4)] dX1_standingWith_76 rfl (by decide) rfl ?_
      refine eg_sub C [1, 0] rfl ?_
      exact wX1_standingWith_J77 C _ _ h
set_option maxHeartbeats 4000000 in
set_option maxRecDepth 100000 in
theorem wX1_standingWith {E : eu_E} (C : eu_C E ({ frames := 2, cells := 0, slots := 0, locals := 48 } : Room) 0 25 5 cX1_standingWith RX1 (Cond.code yX1_standingWith cX1_standingWith 5 (some .int) :: eu_TB) (some .int)) {σ : eu_T} {r : Int32} {σ' : eu_T} {a1 : Int32} {a2 : Int32}  (h : fX1_standingWith σ a1 a2 = some (r, σ')) : eu_G E 0 25 5 (eu_QI E 0 25 σ' r) σ 0 [(0, .ref (eu_ad E 1)), (1, .int a1), (2, .int a2)] [] := by
  unfold fX1_standingWith at h
  refine eg_aload_n C 0 dX1_standingWith_0 rfl ?_
  refine gf_X1_32 C (by decide) dX1_standingWith_1 ?_
  refine eg_istore_n C [(3, .int (σ 1 3)), (0, .ref (eu_ad E 1)), (1, .int a1), (2, .int a2)] dX1_standingWith_4 rfl (by decide) rfl ?_
  refine eg_aload_n C 1 dX1_standingWith_5 rfl ?_
  refine gf_X1_12 C (by decide) dX1_standingWith_6 ?_
  refine gf_X1_41 C (by decide) dX1_standingWith_9 ?_
  refine eg_istore C [(4, .int (σ 2 3)), (3, .int (σ 1 3)), (0, .ref (eu_ad E 1)), (1, .int a1), (2, .int a2)] dX1_standingWith_12 (by decide) rfl ?_
  refine eg_iload_n C 3 dX1_standingWith_14 rfl ?_
  refine eg_iconst C (-1 : Int32) dX1_standingWith_15 (by decide) ?_
  refine eg_icmp_eq C 47 dX1_standingWith_16 (by decide) (fun c => ?_) (fun c => ?_)
  · rw [if_pos c] at h
    refine eg_sub C [2, 4, 1, 0] rfl ?_
    exact wX1_standingWith_J47 C _ _ _ _ h
  · rw [if_neg c] at h
    refine eg_iload C 0 dX1_standingWith_19 rfl ?_
    refine eg_bipush C (12 : Int32) dX1_standingWith_21 (by decide) ?_
    refine eg_icmp_ge C 47 dX1_standingWith_23 (by decide) (fun c => ?_) (fun c => ?_)
    · rw [if_pos c] at h
      refine eg_sub C [2, 4, 1, 0] rfl ?_
      exact wX1_standingWith_J47 C _ _ _ _ h
    · rw [if_neg c] at h
      refine eg_aload_n C 2 dX1_standingWith_26 rfl ?_
      refine gf_X1_12 C (by decide) dX1_standingWith_27 ?_
      refine gf_X1_44 C (by decide) dX1_standingWith_30 ?_
      refine eg_iload C 0 dX1_standingWith_33 rfl ?_
      refine eg_iload_n C 3 dX1_standingWith_35 rfl ?_
      obtain ⟨g1, h⟩ := eu_gd_some h
      refine eg_iast C 10 (by decide) (z := 12) (fun _ => rfl) (eu_in_vp g1) dX1_standingWith_36 ?_
      obtain ⟨σ2, eσ2, h⟩ := eu_lt_x h
      rw [← eσ2]
      refine eg_iload_n C 1 dX1_standingWith_37 rfl ?_
      refine eg_iconst C (1 : Int32) dX1_standingWith_38 (by decide) ?_
      refine eg_iload C 0 dX1_standingWith_39 rfl ?_
      refine eg_ishl C dX1_standingWith_41 ?_
      refine eg_ior C dX1_standingWith_42 ?_
      refine eg_istore_n C [(3, .int ((σ 1 3) ||| ((1 : Int32) <<< ((σ 2 3) &&& 31)))), (4, .int (σ 2 3)), (0, .ref (eu_ad E 1)), (1, .int a1), (2, .int a2)] dX1_standingWith_43 rfl (by decide) rfl ?_
      refine eg_iinc C 1 ((σ 2 3) + (1 : Int32)) [(4, .int ((σ 2 3) + (1 : Int32))), (3, .int ((σ 1 3) ||| ((1 : Int32) <<< ((σ 2 3) &&& 31)))), (0, .ref (eu_ad E 1)), (1, .int a1), (2, .int a2)] dX1_standingWith_44 rfl rfl (by decide) rfl ?_
      refine eg_sub C [2, 4, 1, 0] rfl ?_
      exact wX1_standingWith_J47 C _ _ _ _ h
theorem kX1_standingWith {l : Launch} {σ : eu_T} {r : Int32} {σ' : eu_T} {a1 : Int32} {a2 : Int32}  (h : fX1_standingWith σ a1 a2 = some (r, σ')) : eu_KI l yX1_standingWith (Cond.code yX1_standingWith cX1_standingWith 5 (some .int) :: eu_TB) ({ frames := 2, cells := 0, slots := 0, locals := 48 } : Room) 0 25 (fun ad => [.ref (ad 1), .int a1, .int a2]) σ σ' r :=
  eu_KI_of (by decide) (by decide) rfl (fun _ => Nat.le_of_ble_eq_true rfl) (fun E C => wX1_standingWith C h)
