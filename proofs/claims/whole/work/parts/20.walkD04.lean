theorem cw_X4_wipe_X0_clear_52 {E : eu_E} (C : eu_C E ({ frames := 4, cells := 0, slots := 0, locals := 89 } : Room) 0 25 1 cX4_wipe RX4 (Cond.code yX4_wipe cX4_wipe 1 (some .int) :: eu_TB) (some .int)) : va_CN (eu_R E) (eu_s E) (eu_a E) RX4 52 yX0_clear "EachUndoes" cX0_clear 2 (some .int) (Cond.code yX0_clear cX0_clear 2 (some .int) :: eu_TB) ({ frames := 3, cells := 0, slots := 0, locals := 68 } : Room) 0 0 0 ∧ (Cond.instanceMethod yX0_clear).before (eu_a E) (eu_s E) = true ∧ (Cond.selects RX0 yX0_clear yX0_clear).before (eu_a E) (eu_s E) = true := eu_cnV C (List.mem_of_getElem? (i := 28) rfl) tw_116 tw_117 tw_39 tw_118 rfl rfl (by decide +kernel) (by decide)
set_option maxHeartbeats 4000000 in
set_option maxRecDepth 100000 in
theorem wX4_wipe {E : eu_E} (C : eu_C E ({ frames := 4, cells := 0, slots := 0, locals := 89 } : Room) 0 25 1 cX4_wipe RX4 (Cond.code yX4_wipe cX4_wipe 1 (some .int) :: eu_TB) (some .int)) {σ : eu_T} {r : Int32} {σ' : eu_T}   (h : fX4_wipe σ = some (r, σ')) : eu_G E 0 25 1 (eu_QI E 0 25 σ' r) σ 0 [(0, .ref (eu_ad E 0))] [] := by
  unfold fX4_wipe at h
  refine eg_aload_n C 0 dX4_wipe_0 rfl ?_
  refine gf_X4_27 C (by decide) dX4_wipe_1 ?_
  obtain ⟨r1, σ2, hr1, h⟩ := eu_b2_some h
  refine eg_callNI C (cw_X4_wipe_X0_clear_52 C) (av := []) 3 (by decide) (kX0_clear hr1) rfl rfl rfl rfl (st := []) rfl (Nat.le_of_ble_eq_true rfl) dX4_wipe_4 ?_
  obtain ⟨rfl, rfl⟩ := eu_inj2 h
  exact eg_iret C rfl dX4_wipe_7
theorem kX4_wipe {l : Launch} {σ : eu_T} {r : Int32} {σ' : eu_T}   (h : fX4_wipe σ = some (r, σ')) : eu_KI l yX4_wipe (Cond.code yX4_wipe cX4_wipe 1 (some .int) :: eu_TB) ({ frames := 4, cells := 0, slots := 0, locals := 89 } : Room) 0 25 (fun ad => [.ref (ad 0)]) σ σ' r :=
  eu_KI_of (by decide) (by decide) rfl (fun _ => Nat.le_of_ble_eq_true rfl) (fun E C => wX4_wipe C h)
set_option maxHeartbeats 4000000 in
set_option maxRecDepth 100000 in
theorem wX4_fault {E : eu_E} (C : eu_C E ({ frames := 0, cells := 0, slots := 0, locals := 0 } : Room) 0 25 1 cX4_fault RX4 (Cond.code yX4_fault cX4_fault 1 (some .int) :: eu_TB) (some .int)) {σ : eu_T} {r : Int32}   (h : fX4_fault σ = r) : eu_G E 0 25 1 (eu_QI E 0 25 σ r) σ 0 [(0, .ref (eu_ad E 0))] [] := by
  unfold fX4_fault at h
  refine eg_aload_n C 0 dX4_fault_0 rfl ?_
  refine gf_X4_27 C (by decide) dX4_fault_1 ?_
  refine gf_X4_56 C (by decide) dX4_fault_4 ?_
  subst h
  exact eg_iret C rfl dX4_fault_7
theorem kX4_fault {l : Launch} {σ : eu_T} {r : Int32}   (h : fX4_fault σ = r) : eu_KI l yX4_fault (Cond.code yX4_fault cX4_fault 1 (some .int) :: eu_TB) ({ frames := 0, cells := 0, slots := 0, locals := 0 } : Room) 0 25 (fun ad => [.ref (ad 0)]) σ σ r :=
  eu_KI_of (by decide) (by decide) rfl (fun _ => Nat.le_of_ble_eq_true rfl) (fun E C => wX4_fault C h)
theorem cw_X4_deed_X4_isBelow_39 {E : eu_E} (C : eu_C E ({ frames := 1, cells := 0, slots := 0, locals := 21 } : Room) 0 25 3 cX4_deed RX4 (Cond.code yX4_deed cX4_deed 3 (some .int) :: eu_TB) (some .int)) : CallB (eu_R E) (eu_s E) (eu_a E) RX4 39 yX4_isBelow cX4_isBelow 2 (some .boolean) (Cond.code yX4_isBelow cX4_isBelow 2 (some .boolean) :: eu_TB) ({ frames := 0, cells := 0, slots := 0, locals := 0 } : Room) 0 0 2 ∧ (Cond.static yX4_isBelow).before (eu_a E) (eu_s E) = true := eu_cwS C tw_75 tw_76 tw_2 tw_77 rfl rfl (by decide +kernel) (by decide)
theorem cw_X4_deed_X4_bitOf_72 {E : eu_E} (C : eu_C E ({ frames := 1, cells := 0, slots := 0, locals := 21 } : Room) 0 25 3 cX4_deed RX4 (Cond.code yX4_deed cX4_deed 3 (some .int) :: eu_TB) (some .int)) : CallB (eu_R E) (eu_s E) (eu_a E) RX4 72 yX4_bitOf cX4_bitOf 2 (some .int) (Cond.code yX4_bitOf cX4_bitOf 2 (some .int) :: eu_TB) ({ frames := 0, cells := 0, slots := 0, locals := 0 } : Room) 0 0 2 ∧ (Cond.static yX4_bitOf).before (eu_a E) (eu_s E) = true := eu_cwS C tw_157 tw_158 tw_2 tw_159 rfl rfl (by decide +kernel) (by decide)
set_option maxHeartbeats 4000000 in
set_option maxRecDepth 100000 in
theorem wX4_deed {E : eu_E} (C : eu_C E ({ frames := 1, cells := 0, slots := 0, locals := 21 } : Room) 0 25 3 cX4_deed RX4 (Cond.code yX4_deed cX4_deed 3 (some .int) :: eu_TB) (some .int)) {σ : eu_T} {r : Int32} {a1 : Int32} {a2 : Int32}  (h : fX4_deed σ a1 a2 = some r) : eu_G E 0 25 3 (eu_QI E 0 25 σ r) σ 0 [(0, .ref (eu_ad E 0)), (1, .int a1), (2, .int a2)] [] := by
  unfold fX4_deed at h
  refine eg_iload_n C 1 dX4_deed_0 rfl ?_
  refine eg_aload_n C 0 dX4_deed_1 rfl ?_
  refine gf_X4_27 C (by decide) dX4_deed_2 ?_
  refine gf_X4_59 C (by decide) dX4_deed_5 ?_
  refine eg_scallI C (cw_X4_deed_X4_isBelow_39 C) (av := [.int a1, .int (σ 3 4)]) (kX4_isBelow rfl) rfl (st := []) rfl (Nat.le_of_ble_eq_true rfl) dX4_deed_8 ?_
  refine eg_if_eq C 22 dX4_deed_11 (by decide) (fun c => ?_) (fun c => ?_)
  · rw [if_pos c] at h
    refine eg_bipush C (-2 : Int32) dX4_deed_22 (by decide) ?_
    obtain rfl := Option.some.inj h
    exact eg_iret C rfl dX4_deed_24
  · rw [if_neg c] at h
    refine eg_iload_n C 2 dX4_deed_14 rfl ?_
    refine eg_iconst C (3 : Int32) dX4_deed_15 (by decide) ?_
    refine eg_scallI C (cw_X4_deed_X4_isBelow_39 C) (av := [.int a2, .int (3 : Int32)]) (kX4_isBelow rfl) rfl (st := []) rfl (Nat.le_of_ble_eq_true rfl) dX4_deed_16 ?_
    refine eg_if_ne C 25 dX4_deed_19 (by decide) (fun c => ?_) (fun c => ?_)
    · rw [if_neg c] at h
      refine eg_iload_n C 2 dX4_deed_25 rfl ?_
      refine eg_if_ne C 39 dX4_deed_26 (by decide) (fun c => ?_) (fun c => ?_)
      · rw [if_neg c] at h
        refine eg_iload_n C 2 dX4_deed_39 rfl ?_
        refine eg_iconst C (1 : Int32) dX4_deed_40 (by decide) ?_
        refine eg_icmp_ne C 56 dX4_deed_41 (by decide) (fun c => ?_) (fun c => ?_)
        · rw [if_neg c] at h
          refine eg_aload_n C 0 dX4_deed_56 rfl ?_
          refine gf_X4_27 C (by decide) dX4_deed_57 ?_
          refine gf_X4_69 C (by decide) dX4_deed_60 ?_
          refine eg_iload_n C 1 dX4_deed_63 rfl ?_
          refine eg_scallI C (cw_X4_deed_X4_bitOf_72 C) (av := [.int (σ 3 5), .int a1]) (kX4_bitOf rfl) rfl (st := []) rfl (Nat.le_of_ble_eq_true rfl) dX4_deed_64 ?_
          obtain rfl := Option.some.inj h
          exact eg_iret C rfl dX4_deed_67
        · rw [if_pos c] at h
          refine eg_aload_n C 0 dX4_deed_44 rfl ?_
          refine gf_X4_27 C (by decide) dX4_deed_45 ?_
          refine gf_X4_66 C (by decide) dX4_deed_48 ?_
          refine eg_iload_n C 1 dX4_deed_51 rfl ?_
          obtain ⟨g1, h⟩ := eu_gd_some h
          refine eg_iald C 8 (by decide) (z := 12) (fun _ => rfl) (eu_in_vp g1) dX4_deed_52 ?_
          refine eg_goto C 67 dX4_deed_53 (by decide) ?_
          obtain rfl := Option.some.inj h
          exact eg_iret C rfl dX4_deed_67
      · rw [if_pos c] at h
        refine eg_aload_n C 0 dX4_deed_29 rfl ?_
        refine gf_X4_27 C (by decide) dX4_deed_30 ?_
        refine gf_X4_62 C (by decide) dX4_deed_33 ?_
        refine eg_iload_n C 1 dX4_deed_36 rfl ?_
        obtain ⟨g2, h⟩ := eu_gd_some h
        refine eg_iald C 7 (by decide) (z := 12) (fun _ => rfl) (eu_in_vp g2) dX4_deed_37 ?_
        obtain rfl := Option.some.inj h
        exact eg_iret C rfl dX4_deed_38
    · rw [if_pos c] at h
      refine eg_bipush C (-2 : Int32) dX4_deed_22 (by decide) ?_
      obtain rfl := Option.some.inj h
      exact eg_iret C rfl dX4_deed_24
theorem kX4_deed {l : Launch} {σ : eu_T} {r : Int32} {a1 : Int32} {a2 : Int32}  (h : fX4_deed σ a1 a2 = some r) : eu_KI l yX4_deed (Cond.code yX4_deed cX4_deed 3 (some .int) :: eu_TB) ({ frames := 1, cells := 0, slots := 0, locals := 21 } : Room) 0 25 (fun ad => [.ref (ad 0), .int a1, .int a2]) σ σ r :=
  eu_KI_of (by decide) (by decide) rfl (fun _ => Nat.le_of_ble_eq_true rfl) (fun E C => wX4_deed C h)
theorem cw_X4_undoes_X4_isBelow_39 {E : eu_E} (C : eu_C E ({ frames := 1, cells := 0, slots := 0, locals := 22 } : Room) 0 25 3 cX4_undoes RX4 (Cond.code yX4_undoes cX4_undoes 3 (some .int) :: eu_TB) (some .int)) : CallB (eu_R E) (eu_s E) (eu_a E) RX4 39 yX4_isBelow cX4_isBelow 2 (some .boolean) (Cond.code yX4_isBelow cX4_isBelow 2 (some .boolean) :: eu_TB) ({ frames := 0, cells := 0, slots := 0, locals := 0 } : Room) 0 0 2 ∧ (Cond.static yX4_isBelow).before (eu_a E) (eu_s E) = true := eu_cwS C tw_75 tw_76 tw_2 tw_77 rfl rfl (by decide +kernel) (by decide)
theorem cw_X4_undoes_X3_tell_76 {E : eu_E} (C : eu_C E ({ frames := 1, cells := 0, slots := 0, locals := 22 } : Room) 0 25 3 cX4_undoes RX4 (Cond.code yX4_undoes cX4_undoes 3 (some .int) :: eu_TB) (some .int)) : va_CN (eu_R E) (eu_s E) (eu_a E) RX4 76 yX3_tell "EachUndoes" cX3_tell 3 (some .boolean) (Cond.code yX3_tell cX3_tell 3 (some .boolean) :: eu_TB) ({ frames := 0, cells := 0, slots := 0, locals := 0 } : Room) 0 0 2 ∧ (Cond.instanceMethod yX3_tell).before (eu_a E) (eu_s E) = true ∧ (Cond.selects RX3 yX3_tell yX3_tell).before (eu_a E) (eu_s E) = true := eu_cnV C (List.mem_of_getElem? (i := 29) rfl) tw_173 tw_174 tw_28 tw_175 rfl rfl (by decide +kernel) (by decide)
set_option maxHeartbeats 4000000 in
set_option maxRecDepth 100000 in
theorem wX4_undoes {E : eu_E} (C : eu_C E ({ frames := 1, cells := 0, slots := 0, locals := 22 } : Room) 0 25 3 cX4_undoes RX4 (Cond.code yX4_undoes cX4_undoes 3 (some .int) :: eu_TB) (some .int)) {σ : eu_T} {r : Int32} {σ' : eu_T} {a1 : Int32} {a2 : Int32}  (h : fX4_undoes σ a1 a2 = some (r, σ')) : eu_G E 0 25 3 (eu_QI E 0 25 σ' r) σ 0 [(0, .ref (eu_ad E 0)), (1, .int a1), (2, .int a2)] [] := by
  unfold fX4_undoes at h
  refine eg_iload_n C 1 dX4_undoes_0 rfl ?_
  refine eg_bipush C (6 : Int32) dX4_undoes_1 (by decide) ?_
  refine eg_scallI C (cw_X4_undoes_X4_isBelow_39 C) (av := [.int a1, .int (6 : Int32)]) (kX4_isBelow rfl) rfl (st := []) rfl (Nat.le_of_ble_eq_true rfl) dX4_undoes_3 ?_
  refine eg_if_eq C 18 dX4_undoes_6 (by decide) (fun c => ?_) (fun c => ?_)
  · rw [if_pos c] at h
    refine eg_bipush C (-2 : Int32) dX4_undoes_18 (by decide) ?_
    obtain ⟨rfl, rfl⟩ := eu_inj2 h
    exact eg_iret C rfl dX4_undoes_20
  · rw [if_neg c] at h
    refine eg_iload_n C 2 dX4_undoes_9 rfl ?_
    refine eg_bipush C (24 : Int32) dX4_undoes_10 (by decide) ?_
    refine eg_scallI C (cw_X4_undoes_X4_isBelow_39 C) (av := [.int a2, .int (24 : Int32)]) (kX4_isBelow rfl) rfl (st := []) rfl (Nat.le_of_ble_eq_true rfl) dX4_undoes_12 ?_
    refine eg_if_ne C 21 dX4_undoes_15 (by decide) (fun c => ?_) (fun c => ?_)
    · rw [if_neg c] at h
      refine eg_aload_n C 0 dX4_undoes_21 rfl ?_
      refine gf_X4_20 C (by decide) dX4_undoes_22 ?_
      refine eg_iload_n C 1 dX4_undoes_25 rfl ?_
      refine eg_iload_n C 2 dX4_undoes_26 rfl ?_
      obtain ⟨r1, σ2, hr1, h⟩ := eu_b2_some h
      refine eg_callNI C (cw_X4_undoes_X3_tell_76 C) (av := [.int a1, .int a2]) 2 (by decide) (kX3_tell hr1) rfl rfl rfl rfl (st := []) rfl (Nat.le_of_ble_eq_true rfl) dX4_undoes_27 ?_
      refine eg_if_eq C 43 dX4_undoes_30 (by decide) (fun c => ?_) (fun c => ?_)
      · rw [if_pos c] at h
        refine eg_bipush C (-4 : Int32) dX4_undoes_43 (by decide) ?_
        obtain ⟨rfl, rfl⟩ := eu_inj2 h
        exact eg_iret C rfl dX4_undoes_45
      · rw [if_neg c] at h
        refine eg_aload_n C 0 dX4_undoes_33 rfl ?_
        refine gf_X4_20 C (by decide) dX4_undoes_34 ?_
        refine gf_X4_79 C (by decide) dX4_undoes_37 ?_
        refine eg_goto C 45 dX4_undoes_40 (by decide) ?_
        obtain ⟨rfl, rfl⟩ := eu_inj2 h
        exact eg_iret C rfl dX4_undoes_45
    · rw [if_pos c] at h
      refine eg_bipush C (-2 : Int32) dX4_undoes_18 (by decide) ?_
      obtain ⟨rfl, rfl⟩ := eu_inj2 h
      exact eg_iret C rfl dX4_undoes_20
theorem kX4_undoes {l : Launch} {σ : eu_T} {r : Int32} {σ' : eu_T} {a1 : Int32} {a2 : Int32}  (h : fX4_undoes σ a1 a2 = some (r, σ')) : eu_KI l yX4_undoes (Cond.code yX4_undoes cX4_undoes 3 (some .int) :: eu_TB) ({ frames := 1, cells := 0, slots := 0, locals := 22 } : Room) 0 25 (fun ad => [.ref (ad 0), .int a1, .int a2]) σ σ' r :=
  eu_KI_of (by decide) (by decide) rfl (fun _ => Nat.le_of_ble_eq_true rfl) (fun E C => wX4_undoes C h)
set_option maxHeartbeats 4000000 in
set_option maxRecDepth 100000 in
theorem wX4_found {E : eu_E} (C : eu_C E ({ frames := 0, cells := 0, slots := 0, locals := 0 } : Room) 0 25 2 cX4_found RX4 (Cond.code yX4_found cX4_found 2 (some .int) :: eu_TB) (some .int)) {σ : eu_T} {r : Int32} {σ' : eu_T} {a1 : Int32}  (h : fX4_found σ a1 = some (r, σ')) : eu_G E 0 25 2 (eu_QI E 0 25 σ' r) σ 0 [(0, .ref (eu_ad E 0)), (1, .int a1)] [] := by
  unfold fX4_found at h
  refine eg_aload_n C 0 dX4_found_0 rfl ?_
  refine eg_iload_n C 1 dX4_found_1 rfl ?_
  refine pf_X4_34 C (by decide) dX4_found_2 ?_
  obtain ⟨σ1, eσ1, h⟩ := eu_lt_x h
  rw [← eσ1]
  refine eg_bipush C (-10 : Int32) dX4_found_5 (by decide) ?_
  refine eg_iload_n C 1 dX4_found_7 rfl ?_
  refine eg_isub C dX4_found_8 ?_
  obtain ⟨rfl, rfl⟩ := eu_inj2 h
  exact eg_iret C rfl dX4_found_9
theorem kX4_found {l : Launch} {σ : eu_T} {r : Int32} {σ' : eu_T} {a1 : Int32}  (h : fX4_found σ a1 = some (r, σ')) : eu_KI l yX4_found (Cond.code yX4_found cX4_found 2 (some .int) :: eu_TB) ({ frames := 0, cells := 0, slots := 0, locals := 0 } : Room) 0 25 (fun ad => [.ref (ad 0), .int a1]) σ σ' r :=
  eu_KI_of (by decide) (by decide) rfl (fun _ => Nat.le_of_ble_eq_true rfl) (fun E C => wX4_found C h)
theorem cw_X4_read_X4_isBelow_39 {E : eu_E} (C : eu_C E ({ frames := 1, cells := 0, slots := 0, locals := 22 } : Room) 0 25 6 cX4_read RX4 (Cond.code yX4_read cX4_read 6 (some .int) :: eu_TB) (some .int)) : CallB (eu_R E) (eu_s E) (eu_a E) RX4 39 yX4_isBelow cX4_isBelow 2 (some .boolean) (Cond.code yX4_isBelow cX4_isBelow 2 (some .boolean) :: eu_TB) ({ frames := 0, cells := 0, slots := 0, locals := 0 } : Room) 0 0 2 ∧ (Cond.static yX4_isBelow).before (eu_a E) (eu_s E) = true := eu_cwS C tw_75 tw_76 tw_2 tw_77 rfl rfl (by decide +kernel) (by decide)
theorem cw_X4_read_X4_found_84 {E : eu_E} (C : eu_C E ({ frames := 1, cells := 0, slots := 0, locals := 22 } : Room) 0 25 6 cX4_read RX4 (Cond.code yX4_read cX4_read 6 (some .int) :: eu_TB) (some .int)) : CallW (eu_R E) (eu_s E) (eu_a E) RX4 RX4 84 yX4_found cX4_found 2 (some .int) (Cond.code yX4_found cX4_found 2 (some .int) :: eu_TB) ({ frames := 0, cells := 0, slots := 0, locals := 0 } : Room) 0 0 1 := eu_cwV C tw_191 tw_192 tw_193 tw_2 tw_194 rfl rfl (by decide +kernel) (by decide)
theorem cw_X4_read_X3_tell_76 {E : eu_E} (C : eu_C E ({ frames := 1, cells := 0, slots := 0, locals := 22 } : Room) 0 25 6 cX4_read RX4 (Cond.code yX4_read cX4_read 6 (some .int) :: eu_TB) (some .int)) : va_CN (eu_R E) (eu_s E) (eu_a E) RX4 76 yX3_tell "EachUndoes" cX3_tell 3 (some .boolean) (Cond.code yX3_tell cX3_tell 3 (some .boolean) :: eu_TB) ({ frames := 0, cells := 0, slots := 0, locals := 0 } : Room) 0 0 2 ∧ (Cond.instanceMethod yX3_tell).before (eu_a E) (eu_s E) = true ∧ (Cond.selects RX3 yX3_tell yX3_tell).before (eu_a E) (eu_s E) = true := eu_cnV C (List.mem_of_getElem? (i := 29) rfl) tw_173 tw_174 tw_28 tw_175 rfl rfl (by decide +kernel) (by decide)
set_option maxHeartbeats 4000000 in
set_option maxRecDepth 100000 in
theorem wX4_read_L33 {E : eu_E} (C : eu_C E ({ frames := 1, cells := 0, slots := 0, locals := 22 } : Room) 0 25 6 cX4_read RX4 (Cond.code yX4_read cX4_read 6 (some .int) :: eu_TB) (some .int)) {r : Int32} {σ' : eu_T}   : ∀ (n : Nat) (σ : eu_T) (v2 : Nat) (v3 : Int32), 11 ≤ v2 ∧ v2 < 15 → fX4_read_L33 n σ v2 v3 = some (r, σ') → eu_G E 0 25 6 (eu_QI E 0 25 σ' r) σ 33 [(0, .ref (eu_ad E 0)), (2, .ref (eu_ad E v2)), (3, .int v3)] [] := by
  intro n
  induction n with
  | zero =>
    intro σ v2 v3 hk2 h
    rw [fX4_read_L33_z] at h
    cases h
  | succ n ih =>
    intro σ v2 v3 hk2 h
    rw [fX4_read_L33_s] at h
    refine eg_iload_n C 2 dX4_read_33 rfl ?_
    refine eg_bipush C (12 : Int32) dX4_read_34 (by decide) ?_
    refine eg_icmp_ge C 116 dX4_read_36 (by decide) (fun c => ?_) (fun c => ?_)
    · rw [if_pos c] at h
      refine eg_iload_n C 2 dX4_read_116 rfl ?_
      obtain ⟨rfl, rfl⟩ := eu_inj2 h
      exact eg_iret C rfl dX4_read_117
    · rw [if_neg c] at h
      refine eg_iconst C (2 : Int32) dX4_read_39 (by decide) ?_
      refine eg_iload_n C 2 dX4_read_40 rfl ?_
      refine eg_imul C dX4_read_41 ?_
      refine eg_iconst C (1 : Int32) dX4_read_42 (by decide) ?_
      refine eg_iadd C dX4_read_43 ?_
      refine eg_aload_n C 1 dX4_read_44 rfl ?_
      refine gf_X4_87 C _ hk2 dX4_read_45 ?_
      refine eg_icmp_ge C 116 dX4_read_48 (by decide) (fun c => ?_) (fun c => ?_)
      · rw [if_pos c] at h
        refine eg_iload_n C 2 dX4_read_116 rfl ?_
        obtain ⟨rfl, rfl⟩ := eu_inj2 h
        exact eg_iret C rfl dX4_read_117
      · rw [if_neg c] at h
        refine eg_aload_n C 1 dX4_read_51 rfl ?_
        refine gf_X4_90 C _ hk2 dX4_read_52 ?_
        refine eg_iconst C (2 : Int32) dX4_read_55 (by decide) ?_
        refine eg_iload_n C 2 dX4_read_56 rfl ?_
        refine eg_imul C dX4_read_57 ?_
        obtain ⟨g4, h⟩ := eu_gd_some h
        refine eg_iald C (v2 + 4) (eu_ii0 (eu_i4 hk2)) (z := 60) (eu_weI (eu_i4 hk2)) (eu_in_vp g4) dX4_read_58 ?_
        refine eg_istore C [(4, .int (σ (v2 + 4) ((2 : Int32) * v3).toNatClampNeg)), (0, .ref (eu_ad E 0)), (2, .ref (eu_ad E v2)), (3, .int v3)] dX4_read_59 (by decide) rfl ?_
        refine eg_aload_n C 2 dX4_read_61 rfl ?_
        refine gf_X4_90 C _ hk2 dX4_read_62 ?_
        refine eg_iconst C (2 : Int32) dX4_read_65 (by decide) ?_
        refine eg_iload_n C 3 dX4_read_66 rfl ?_
        refine eg_imul C dX4_read_67 ?_
        refine eg_iconst C (1 : Int32) dX4_read_68 (by decide) ?_
        refine eg_iadd C dX4_read_69 ?_
        obtain ⟨g5, h⟩ := eu_gd_some h
        refine eg_iald C (v2 + 4) (eu_ii0 (eu_i4 hk2)) (z := 60) (eu_weI (eu_i4 hk2)) (eu_in_vp g5) dX4_read_70 ?_
        refine eg_istore C [(5, .int (σ (v2 + 4) (((2 : Int32) * v3) + (1 : Int32)).toNatClampNeg)), (4, .int (σ (v2 + 4) ((2 : Int32) * v3).toNatClampNeg)), (0, .ref (eu_ad E 0)), (2, .ref (eu_ad E v2)), (3, .int v3)] dX4_read_71 (by decide) rfl ?_
        refine eg_iload C 1 dX4_read_73 rfl ?_
        refine eg_bipush C (6 : Int32) dX4_read_75 (by decide) ?_
        refine eg_scallI C (cw_X4_read_X4_isBelow_39 C) (av := [.int (σ (v2 + 4) ((2 : Int32) * v3).toNatClampNeg), .int (6 : Int32)]) (kX4_isBelow rfl) rfl (st := []) rfl (Nat.le_of_ble_eq_true rfl) dX4_read_77 ?_
        refine eg_if_eq C 116 dX4_read_80 (by decide) (fun c => ?_) (fun c => ?_)
        · rw [if_pos c] at h
          refine eg_iload_n C 4 dX4_read_116 rfl ?_
          obtain ⟨rfl, rfl⟩ := eu_inj2 h
          exact eg_iret C rfl dX4_read_117
        · rw [if_neg c] at h
          refine eg_iload C 0 dX4_read_83 rfl ?_
          refine eg_bipush C (24 : Int32) dX4_read_85 (by decide) ?_
          refine eg_scallI C (cw_X4_read_X4_isBelow_39 C) (av := [.int (σ (v2 + 4) (((2 : Int32) * v3) + (1 : Int32)).toNatClampNeg), .int (24 : Int32)]) (kX4_isBelow rfl) rfl (st := []) rfl (Nat.le_of_ble_eq_true rfl) dX4_read_87 ?_
          refine eg_if_eq C 116 dX4_read_90 (by decide) (fun c => ?_) (fun c => ?_)
          · rw [if_pos c] at h
            refine eg_iload_n C 4 dX4_read_116 rfl ?_
            obtain ⟨rfl, rfl⟩ := eu_inj2 h
            exact eg_iret C rfl dX4_read_117
          · rw [if_neg c] at h
            refine eg_aload_n C 2 dX4_read_93 rfl ?_
            refine gf_X4_20 C (by decide) dX4_read_94 ?_
            refine eg_iload C 1 dX4_read_97 rfl ?_
            refine eg_iload C 0 dX4_read_99 rfl ?_
            obtain ⟨r6, σ7, hr6, h⟩ := eu_b2_some h
            refine eg_callNI C (cw_X4_read_X3_tell_76 C) (av := [.int (σ (v2 + 4) ((2 : Int32) * v3).toNatClampNeg), .int (σ (v2 + 4) (((2 : Int32) * v3) + (1 : Int32)).toNatClampNeg)]) 2 (by decide) (kX3_tell hr6) rfl rfl rfl rfl (st := []) rfl (Nat.le_of_ble_eq_true rfl) dX4_read_101 ?_
            refine eg_if_ne C 110 dX4_read_104 (by decide) (fun c => ?_) (fun c => ?_)
            · rw [if_neg c] at h
              refine eg_iinc C 4 (v3 + (1 : Int32)) [(3, .int (v3 + (1 : Int32))), (5, .int (σ (v2 + 4) (((2 : Int32) * v3) + (1 : Int32)).toNatClampNeg)), (4, .int (σ (v2 + 4) ((2 : Int32) * v3).toNatClampNeg)), (0, .ref (eu_ad E 0)), (2, .ref (eu_ad E v2))] dX4_read_110 rfl rfl (by decide) rfl ?_
              refine eg_goto C 33 dX4_read_113 (by decide) ?_
              refine eg_sub C [3, 4, 0] rfl ?_
              exact ih _ _ _ hk2 h
            · rw [if_pos c] at h
              refine eg_goto C 116 dX4_read_107 (by decide) ?_
              refine eg_iload_n C 4 dX4_read_116 rfl ?_
              obtain ⟨rfl, rfl⟩ := eu_inj2 h
              exact eg_iret C rfl dX4_read_117
set_option maxHeartbeats 4000000 in
set_option maxRecDepth 100000 in
theorem wX4_read {E : eu_E} (C : eu_C E ({ frames := 1, cells := 0, slots := 0, locals := 22 } : Room) 0 25 6 cX4_read RX4 (Cond.code yX4_read cX4_read 6 (some .int) :: eu_TB) (some .int)) {σ : eu_T} {r : Int32} {σ' : eu_T} {a1 : Int32}  (h : fX4_read σ a1 = some (r, σ')) : eu_G E 0 25 6 (eu_QI E 0 25 σ' r) σ 0 [(0, .ref (eu_ad E 0)), (1, .int a1)] [] := by
  unfold fX4_read at h
  refine eg_iload_n C 1 dX4_read_0 rfl ?_
  refine eg_iconst C (4 : Int32) dX4_read_1 (by decide) ?_
  refine eg_scallI C (cw_X4_read_X4_isBelow_39 C) (av := [.int a1, .int (4 : Int32)]) (kX4_isBelow rfl) rfl (st := []) rfl (Nat.le_of_ble_eq_true rfl) dX4_read_2 ?_
  refine eg_if_ne C 11 dX4_read_5 (by decide) (fun c => ?_) (fun c => ?_)
  · rw [if_neg c] at h
    refine eg_aload_n C 0 dX4_read_11 rfl ?_
    refine gf_X4_30 C (by decide) dX4_read_12 ?_
    refine eg_iload_n C 1 dX4_read_15 rfl ?_
    obtain ⟨g1, h⟩ := eu_gd_some h
    refine eg_aald C 2 rfl 4 (by decide) (z := 4) (b := 11) (fun _ => rfl) (eu_in_vp g1) dX4_read_16 ?_
    refine eg_astore_n C [(2, .ref (eu_ad E (11 + a1.toNatClampNeg))), (0, .ref (eu_ad E 0)), (1, .int a1)] dX4_read_17 rfl (by decide) rfl ?_
    refine eg_aload_n C 0 dX4_read_18 rfl ?_
    refine gf_X4_80 C _ (eu_is g1) dX4_read_19 ?_
    refine eg_if_eq C 31 dX4_read_22 (by decide) (fun c => ?_) (fun c => ?_)
    · rw [if_pos c] at h
      refine eg_iconst C (0 : Int32) dX4_read_31 (by decide) ?_
      refine eg_istore_n C [(3, .int (0 : Int32)), (2, .ref (eu_ad E (11 + a1.toNatClampNeg))), (0, .ref (eu_ad E 0)), (1, .int a1)] dX4_read_32 rfl (by decide) rfl ?_
      refine eg_sub C [2, 1, 0] rfl ?_
      exact wX4_read_L33 C 200 _ _ _ (eu_is g1) h
    · rw [if_neg c] at h
      refine eg_aload_n C 1 dX4_read_25 rfl ?_
      refine eg_iconst C (1 : Int32) dX4_read_26 (by decide) ?_
      obtain ⟨r2, σ3, hr2, h⟩ := eu_b2_some h
      refine eg_callI C (cw_X4_read_X4_found_84 C) (av := [.int (1 : Int32)]) 0 (by decide) (kX4_found hr2) rfl rfl rfl rfl (st := []) rfl (Nat.le_of_ble_eq_true rfl) dX4_read_27 ?_
      obtain ⟨rfl, rfl⟩ := eu_inj2 h
      exact eg_iret C rfl dX4_read_30
  · rw [if_pos c] at h
    refine eg_bipush C (-2 : Int32) dX4_read_8 (by decide) ?_
    obtain ⟨rfl, rfl⟩ := eu_inj2 h
    exact eg_iret C rfl dX4_read_10
theorem kX4_read {l : Launch} {σ : eu_T} {r : Int32} {σ' : eu_T} {a1 : Int32}  (h : fX4_read σ a1 = some (r, σ')) : eu_KI l yX4_read (Cond.code yX4_read cX4_read 6 (some .int) :: eu_TB) ({ frames := 1, cells := 0, slots := 0, locals := 22 } : Room) 0 25 (fun ad => [.ref (ad 0), .int a1]) σ σ' r :=
  eu_KI_of (by decide) (by decide) rfl (fun _ => Nat.le_of_ble_eq_true rfl) (fun E C => wX4_read C h)
set_option maxHeartbeats 4000000 in
set_option maxRecDepth 100000 in
theorem wX4_undo {E : eu_E} (C : eu_C E ({ frames := 0, cells := 0, slots := 0, locals := 0 } : Room) 0 25 1 cX4_undo RX4 (Cond.code yX4_undo cX4_undo 1 (some .int) :: eu_TB) (some .int)) {σ : eu_T} {r : Int32} {σ' : eu_T}   (h : fX4_undo σ = some (r, σ')) : eu_G E 0 25 1 (eu_QI E 0 25 σ' r) σ 0 [(0, .ref (eu_ad E 0))] [] := by
  unfold fX4_undo at h
  refine eg_aload_n C 0 dX4_undo_0 rfl ?_
  refine gf_X4_20 C (by decide) dX4_undo_1 ?_
  refine gf_X4_79 C (by decide) dX4_undo_4 ?_
  refine eg_if_ne C 13 dX4_undo_7 (by decide) (fun c => ?_) (fun c => ?_)
  · rw [if_neg c] at h
    refine eg_aload_n C 0 dX4_undo_13 rfl ?_
    refine gf_X4_20 C (by decide) dX4_undo_14 ?_
    refine eg_dup C dX4_undo_17 rfl ?_
    refine gf_X4_79 C (by decide) dX4_undo_18 ?_
    refine eg_iconst C (1 : Int32) dX4_undo_21 (by decide) ?_
    refine eg_isub C dX4_undo_22 ?_
    refine pf_X4_79 C (by decide) dX4_undo_23 ?_
    obtain ⟨σ1, eσ1, h⟩ := eu_lt_x h
    rw [← eσ1]
    refine eg_aload_n C 0 dX4_undo_26 rfl ?_
    refine gf_X4_20 C (by decide) dX4_undo_27 ?_
    refine gf_X4_79 C (by decide) dX4_undo_30 ?_
    obtain ⟨rfl, rfl⟩ := eu_inj2 h
    exact eg_iret C rfl dX4_undo_33
  · rw [if_pos c] at h
    refine eg_bipush C (-3 : Int32) dX4_undo_10 (by decide) ?_
    obtain ⟨rfl, rfl⟩ := eu_inj2 h
    exact eg_iret C rfl dX4_undo_12
theorem kX4_undo {l : Launch} {σ : eu_T} {r : Int32} {σ' : eu_T}   (h : fX4_undo σ = some (r, σ')) : eu_KI l yX4_undo (Cond.code yX4_undo cX4_undo 1 (some .int) :: eu_TB) ({ frames := 0, cells := 0, slots := 0, locals := 0 } : Room) 0 25 (fun ad => [.ref (ad 0)]) σ σ' r :=
  eu_KI_of (by decide) (by decide) rfl (fun _ => Nat.le_of_ble_eq_true rfl) (fun E C => wX4_undo C h)
theorem cw_X4_worth_X4_isBelow_39 {E : eu_E} (C : eu_C E ({ frames := 1, cells := 0, slots := 0, locals := 21 } : Room) 0 25 5 cX4_worth RX4 (Cond.code yX4_worth cX4_worth 5 (some .int) :: eu_TB) (some .int)) : CallB (eu_R E) (eu_s E) (eu_a E) RX4 39 yX4_isBelow cX4_isBelow 2 (some .boolean) (Cond.code yX4_isBelow cX4_isBelow 2 (some .boolean) :: eu_TB) ({ frames := 0, cells := 0, slots := 0, locals := 0 } : Room) 0 0 2 ∧ (Cond.static yX4_isBelow).before (eu_a E) (eu_s E) = true := eu_cwS C tw_75 tw_76 tw_2 tw_77 rfl rfl (by decide +kernel) (by decide)
set_option maxHeartbeats 4000000 in
set_option maxRecDepth 100000 in
theorem wX4_worth {E : eu_E} (C : eu_C E ({ frames := 1, cells := 0, slots := 0, locals := 21 } : Room) 0 25 5 cX4_worth RX4 (Cond.code yX4_worth cX4_worth 5 (some .int) :: eu_TB) (some .int)) {σ : eu_T} {r : Int32} {σ' : eu_T} {a1 : Int32} {a2 : Int32} {a3 : Int32}  (h : fX4_worth σ a1 a2 a3 = some (r, σ')) : eu_G E 0 25 5 (eu_QI E 0 25 σ' r) σ 0 [(0, .ref (eu_ad E 0)), (1, .int a1), (2, .int a2), (3, .int a3)] [] := by
  unfold fX4_worth at h
  refine eg_iload_n C 1 dX4_worth_0 rfl ?_
  refine eg_bipush C (6 : Int32) dX4_worth_1 (by decide) ?_
  refine eg_scallI C (cw_X4_worth_X4_isBelow_39 C) (av := [.int a1, .int (6 : Int32)]) (kX4_isBelow rfl) rfl (st := []) rfl (Nat.le_of_ble_eq_true rfl) dX4_worth_3 ?_
  refine eg_if_eq C 18 dX4_worth_6 (by decide) (fun c => ?_) (fun c => ?_)
  · rw [if_pos c] at h
    refine eg_sipush C (-1002 : Int32) dX4_worth_18 (by decide) ?_
    obtain ⟨rfl, rfl⟩ := eu_inj2 h
    exact eg_iret C rfl dX4_worth_21
  · rw [if_neg c] at h
    refine eg_iload_n C 2 dX4_worth_9 rfl ?_
    refine eg_bipush C (12 : Int32) dX4_worth_10 (by decide) ?_
    refine eg_scallI C (cw_X4_worth_X4_isBelow_39 C) (av := [.int a2, .int (12 : Int32)]) (kX4_isBelow rfl) rfl (st := []) rfl (Nat.le_of_ble_eq_true rfl) dX4_worth_12 ?_
    refine eg_if_ne C 22 dX4_worth_15 (by decide) (fun c => ?_) (fun c => ?_)
    · rw [if_neg c] at h
      refine eg_iload_n C 3 dX4_worth_22 rfl ?_
      refine eg_bipush C (-9 : Int32) dX4_worth_23 (by decide) ?_
      refine eg_icmp_lt C 34 dX4_worth_25 (by decide) (fun c => ?_) (fun c => ?_)
      · rw [if_pos c] at h
        refine eg_sipush C (-1002 : Int32) dX4_worth_34 (by decide) ?_
        obtain ⟨rfl, rfl⟩ := eu_inj2 h
        exact eg_iret C rfl dX4_worth_37
      · rw [if_neg c] at h
        refine eg_iload_n C 3 dX4_worth_28 rfl ?_
        refine eg_bipush C (9 : Int32) dX4_worth_29 (by decide) ?_
        refine eg_icmp_le C 38 dX4_worth_31 (by decide) (fun c => ?_) (fun c => ?_)
        · rw [if_pos c] at h
          refine eg_aload_n C 0 dX4_worth_38 rfl ?_
          refine gf_X4_12 C (by decide) dX4_worth_39 ?_
          refine gf_X4_93 C (by decide) dX4_worth_42 ?_
          refine eg_iload_n C 1 dX4_worth_45 rfl ?_
          obtain ⟨g1, h⟩ := eu_gd_some h
          refine eg_aalA C 5 (by decide) (z := 6) (b := 19) (fun _ => rfl) (eu_in_vp g1) dX4_worth_46 ?_
          refine eg_iload_n C 2 dX4_worth_47 rfl ?_
          obtain ⟨g2, h⟩ := eu_gd_some h
          refine eg_iald C (19 + a1.toNatClampNeg) (eu_iw0 (eu_iw g1)) (z := 12) (eu_weW (eu_iw g1)) (eu_in_vp g2) dX4_worth_48 ?_
          refine eg_istore C [(4, .int (σ (19 + a1.toNatClampNeg) a2.toNatClampNeg)), (0, .ref (eu_ad E 0)), (1, .int a1), (2, .int a2), (3, .int a3)] dX4_worth_49 (by decide) rfl ?_
          refine eg_aload_n C 1 dX4_worth_51 rfl ?_
          refine gf_X4_12 C (by decide) dX4_worth_52 ?_
          refine gf_X4_93 C (by decide) dX4_worth_55 ?_
          refine eg_iload_n C 2 dX4_worth_58 rfl ?_
          obtain ⟨g3, h⟩ := eu_gd_some h
          refine eg_aalA C 5 (by decide) (z := 6) (b := 19) (fun _ => rfl) (eu_in_vp g3) dX4_worth_59 ?_
          refine eg_iload_n C 3 dX4_worth_60 rfl ?_
          refine eg_iload_n C 4 dX4_worth_61 rfl ?_
          obtain ⟨g4, h⟩ := eu_gd_some h
          refine eg_iast C (19 + a1.toNatClampNeg) (eu_iw0 (eu_iw g3)) (z := 12) (eu_weW (eu_iw g3)) (eu_in_vp g4) dX4_worth_62 ?_
          obtain ⟨σ5, eσ5, h⟩ := eu_lt_x h
          rw [← eσ5]
          refine eg_iload C 0 dX4_worth_63 rfl ?_
          obtain ⟨rfl, rfl⟩ := eu_inj2 h
          exact eg_iret C rfl dX4_worth_65
        · rw [if_neg c] at h
          refine eg_sipush C (-1002 : Int32) dX4_worth_34 (by decide) ?_
          obtain ⟨rfl, rfl⟩ := eu_inj2 h
          exact eg_iret C rfl dX4_worth_37
    · rw [if_pos c] at h
      refine eg_sipush C (-1002 : Int32) dX4_worth_18 (by decide) ?_
      obtain ⟨rfl, rfl⟩ := eu_inj2 h
      exact eg_iret C rfl dX4_worth_21
theorem kX4_worth {l : Launch} {σ : eu_T} {r : Int32} {σ' : eu_T} {a1 : Int32} {a2 : Int32} {a3 : Int32}  (h : fX4_worth σ a1 a2 a3 = some (r, σ')) : eu_KI l yX4_worth (Cond.code yX4_worth cX4_worth 5 (some .int) :: eu_TB) ({ frames := 1, cells := 0, slots := 0, locals := 21 } : Room) 0 25 (fun ad => [.ref (ad 0), .int a1, .int a2, .int a3]) σ σ' r :=
  eu_KI_of (by decide) (by decide) rfl (fun _ => Nat.le_of_ble_eq_true rfl) (fun E C => wX4_worth C h)
theorem cw_X4_judged_X3_lawful_97 {E : eu_E} (C : eu_C E ({ frames := 2, cells := 0, slots := 0, locals := 50 } : Room) 0 25 3 cX4_judged RX4 (Cond.code yX4_judged cX4_judged 3 (some .int) :: eu_TB) (some .int)) : va_CN (eu_R E) (eu_s E) (eu_a E) RX4 97 yX3_lawful "EachUndoes" cX3_lawful 7 (some .int) (Cond.code yX3_lawful cX3_lawful 7 (some .int) :: eu_TB) ({ frames := 1, cells := 0, slots := 0, locals := 24 } : Room) 0 0 1 ∧ (Cond.instanceMethod yX3_lawful).before (eu_a E) (eu_s E) = true ∧ (Cond.selects RX3 yX3_lawful yX3_lawful).before (eu_a E) (eu_s E) = true := eu_cnV C (List.mem_of_getElem? (i := 30) rfl) tw_232 tw_233 tw_28 tw_234 rfl rfl (by decide +kernel) (by decide)
theorem cw_X4_judged_X4_bitOf_72 {E : eu_E} (C : eu_C E ({ frames := 2, cells := 0, slots := 0, locals := 50 } : Room) 0 25 3 cX4_judged RX4 (Cond.code yX4_judged cX4_judged 3 (some .int) :: eu_TB) (some .int)) : CallB (eu_R E) (eu_s E) (eu_a E) RX4 72 yX4_bitOf cX4_bitOf 2 (some .int) (Cond.code yX4_bitOf cX4_bitOf 2 (some .int) :: eu_TB) ({ frames := 0, cells := 0, slots := 0, locals := 0 } : Room) 0 0 2 ∧ (Cond.static yX4_bitOf).before (eu_a E) (eu_s E) = true := eu_cwS C tw_157 tw_158 tw_2 tw_159 rfl rfl (by decide +kernel) (by decide)
set_option maxHeartbeats 4000000 in
set_option maxRecDepth 100000 in
theorem wX4_judged_L11 {E : eu_E} (C : eu_C E ({ frames := 2, cells := 0, slots := 0, locals := 50 } : Room) 0 25 3 cX4_judged RX4 (Cond.code yX4_judged cX4_judged 3 (some .int) :: eu_TB) (some .int)) {σ : eu_T} {r : Int32}   : ∀ (n : Nat) (v1 : Int32) (v2 : Int32), fX4_judged_L11 σ n v1 v2 = some r → eu_G E 0 25 3 (eu_QI E 0 25 σ r) σ 11 [(0, .ref (eu_ad E 0)), (1, .int v1), (2, .int v2)] [] := by
  intro n
  induction n with
  | zero =>
    intro v1 v2  h
    rw [fX4_judged_L11_z] at h
    cases h
  | succ n ih =>
    intro v1 v2  h
    rw [fX4_judged_L11_s] at h
    refine eg_iload_n C 2 dX4_judged_11 rfl ?_
    refine eg_aload_n C 0 dX4_judged_12 rfl ?_
    refine gf_X4_20 C (by decide) dX4_judged_13 ?_
    refine gf_X4_79 C (by decide) dX4_judged_16 ?_
    refine eg_icmp_ge C 38 dX4_judged_19 (by decide) (fun c => ?_) (fun c => ?_)
    · rw [if_pos c] at h
      refine eg_iconst C (-1 : Int32) dX4_judged_38 (by decide) ?_
      obtain rfl := Option.some.inj h
      exact eg_iret C rfl dX4_judged_39
    · rw [if_neg c] at h
      refine eg_iload_n C 1 dX4_judged_22 rfl ?_
      refine eg_iload_n C 2 dX4_judged_23 rfl ?_
      refine eg_scallI C (cw_X4_judged_X4_bitOf_72 C) (av := [.int v1, .int v2]) (kX4_bitOf rfl) rfl (st := []) rfl (Nat.le_of_ble_eq_true rfl) dX4_judged_24 ?_
      refine eg_if_ne C 32 dX4_judged_27 (by decide) (fun c => ?_) (fun c => ?_)
      · rw [if_neg c] at h
        refine eg_iinc C 2 (v2 + (1 : Int32)) [(2, .int (v2 + (1 : Int32))), (0, .ref (eu_ad E 0)), (1, .int v1)] dX4_judged_32 rfl rfl (by decide) rfl ?_
        refine eg_goto C 11 dX4_judged_35 (by decide) ?_
        refine eg_sub C [1, 2, 0] rfl ?_
        exact ih _ _ h
      · rw [if_pos c] at h
        refine eg_iload_n C 2 dX4_judged_30 rfl ?_
        obtain rfl := Option.some.inj h
        exact eg_iret C rfl dX4_judged_31
set_option maxHeartbeats 4000000 in
set_option maxRecDepth 100000 in
theorem wX4_judged {E : eu_E} (C : eu_C E ({ frames := 2, cells := 0, slots := 0, locals := 50 } : Room) 0 25 3 cX4_judged RX4 (Cond.code yX4_judged cX4_judged 3 (some .int) :: eu_TB) (some .int)) {σ : eu_T} {r : Int32}   (h : fX4_judged σ = some r) : eu_G E 0 25 3 (eu_QI E 0 25 σ r) σ 0 [(0, .ref (eu_ad E 0))] [] := by
  unfold fX4_judged at h
  refine eg_aload_n C 0 dX4_judged_0 rfl ?_
  refine gf_X4_20 C (by decide) dX4_judged_1 ?_
  refine eg_iconst C (-1 : Int32) dX4_judged_4 (by decide) ?_
  obtain ⟨r1, hr1, h⟩ := eu_bd_some h
  refine eg_callNI C (cw_X4_judged_X3_lawful_97 C) (av := [.int (-1 : Int32)]) 2 (by decide) (kX3_lawful hr1) rfl rfl rfl rfl (st := []) rfl (Nat.le_of_ble_eq_true rfl) dX4_judged_5 ?_
  refine eg_istore_n C [(1, .int r1), (0, .ref (eu_ad E 0))] dX4_judged_8 rfl (by decide) rfl ?_
  refine eg_iconst C (0 : Int32) dX4_judged_9 (by decide) ?_
  refine eg_istore_n C [(2, .int (0 : Int32)), (1, .int r1), (0, .ref (eu_ad E 0))] dX4_judged_10 rfl (by decide) rfl ?_
  refine eg_sub C [2, 1, 0] rfl ?_
  exact wX4_judged_L11 C 200 _ _ h
theorem kX4_judged {l : Launch} {σ : eu_T} {r : Int32}   (h : fX4_judged σ = some r) : eu_KI l yX4_judged (Cond.code yX4_judged cX4_judged 3 (some .int) :: eu_TB) ({ frames := 2, cells := 0, slots := 0, locals := 50 } : Room) 0 25 (fun ad => [.ref (ad 0)]) σ σ r :=
  eu_KI_of (by decide) (by decide) rfl (fun _ => Nat.le_of_ble_eq_true rfl) (fun E C => wX4_judged C h)
theorem cw_X4_holds_X4_isBelow_39 {E : eu_E} (C : eu_C E ({ frames := 2, cells := 0, slots := 0, locals := 50 } : Room) 0 25 2 cX4_holds RX4 (Cond.code yX4_holds cX4_holds 2 (some .int) :: eu_TB) (some .int)) : CallB (eu_R E) (eu_s E) (eu_a E) RX4 39 yX4_isBelow cX4_isBelow 2 (some .boolean) (Cond.code yX4_isBelow cX4_isBelow 2 (some .boolean) :: eu_TB) ({ frames := 0, cells := 0, slots := 0, locals := 0 } : Room) 0 0 2 ∧ (Cond.static yX4_isBelow).before (eu_a E) (eu_s E) = true := eu_cwS C tw_75 tw_76 tw_2 tw_77 rfl rfl (by decide +kernel) (by decide)
theorem cw_X4_holds_X3_lawful_97 {E : eu_E} (C : eu_C E ({ frames := 2, cells := 0, slots := 0, locals := 50 } : Room) 0 25 2 cX4_holds RX4 (Cond.code yX4_holds cX4_holds 2 (some .int) :: eu_TB) (some .int)) : va_CN (eu_R E) (eu_s E) (eu_a E) RX4 97 yX3_lawful "EachUndoes" cX3_lawful 7 (some .int) (Cond.code yX3_lawful cX3_lawful 7 (some .int) :: eu_TB) ({ frames := 1, cells := 0, slots := 0, locals := 24 } : Room) 0 0 1 ∧ (Cond.instanceMethod yX3_lawful).before (eu_a E) (eu_s E) = true ∧ (Cond.selects RX3 yX3_lawful yX3_lawful).before (eu_a E) (eu_s E) = true := eu_cnV C (List.mem_of_getElem? (i := 30) rfl) tw_232 tw_233 tw_28 tw_234 rfl rfl (by decide +kernel) (by decide)
theorem cw_X4_holds_X3_holding_100 {E : eu_E} (C : eu_C E ({ frames := 2, cells := 0, slots := 0, locals := 50 } : Room) 0 25 2 cX4_holds RX4 (Cond.code yX4_holds cX4_holds 2 (some .int) :: eu_TB) (some .int)) : va_CN (eu_R E) (eu_s E) (eu_a E) RX4 100 yX3_holding "EachUndoes" cX3_holding 5 (some .int) (Cond.code yX3_holding cX3_holding 5 (some .int) :: eu_TB) ({ frames := 0, cells := 0, slots := 0, locals := 0 } : Room) 0 0 1 ∧ (Cond.instanceMethod yX3_holding).before (eu_a E) (eu_s E) = true ∧ (Cond.selects RX3 yX3_holding yX3_holding).before (eu_a E) (eu_s E) = true := eu_cnV C (List.mem_of_getElem? (i := 32) rfl) tw_265 tw_266 tw_28 tw_267 rfl rfl (by decide +kernel) (by decide)
theorem cw_X4_holds_X4_bitOf_72 {E : eu_E} (C : eu_C E ({ frames := 2, cells := 0, slots := 0, locals := 50 } : Room) 0 25 2 cX4_holds RX4 (Cond.code yX4_holds cX4_holds 2 (some .int) :: eu_TB) (some .int)) : CallB (eu_R E) (eu_s E) (eu_a E) RX4 72 yX4_bitOf cX4_bitOf 2 (some .int) (Cond.code yX4_bitOf cX4_bitOf 2 (some .int) :: eu_TB) ({ frames := 0, cells := 0, slots := 0, locals := 0 } : Room) 0 0 2 ∧ (Cond.static yX4_bitOf).before (eu_a E) (eu_s E) = true := eu_cwS C tw_157 tw_158 tw_2 tw_159 rfl rfl (by decide +kernel) (by decide)
set_option maxHeartbeats 4000000 in
set_option maxRecDepth 100000 in
theorem wX4_holds {E : eu_E} (C : eu_C E ({ frames := 2, cells := 0, slots := 0, locals := 50 } : Room) 0 25 2 cX4_holds RX4 (Cond.code yX4_holds cX4_holds 2 (some .int) :: eu_TB) (some .int)) {σ : eu_T} {r : Int32} {a1 : Int32}  (h : fX4_holds σ a1 = some r) : eu_G E 0 25 2 (eu_QI E 0 25 σ r) σ 0 [(0, .ref (eu_ad E 0)), (1, .int a1)] [] := by
  unfold fX4_holds at h
  refine eg_iload_n C 1 dX4_holds_0 rfl ?_
  refine eg_aload_n C 0 dX4_holds_1 rfl ?_
  refine gf_X4_20 C (by decide) dX4_holds_2 ?_
  refine gf_X4_79 C (by decide) dX4_holds_5 ?_
  refine eg_scallI C (cw_X4_holds_X4_isBelow_39 C) (av := [.int a1, .int (σ 2 3)]) (kX4_isBelow rfl) rfl (st := []) rfl (Nat.le_of_ble_eq_true rfl) dX4_holds_8 ?_
  refine eg_if_ne C 17 dX4_holds_11 (by decide) (fun c => ?_) (fun c => ?_)
  · rw [if_neg c] at h
    refine eg_aload_n C 0 dX4_holds_17 rfl ?_
    refine gf_X4_20 C (by decide) dX4_holds_18 ?_
    refine eg_aload_n C 0 dX4_holds_21 rfl ?_
    refine gf_X4_20 C (by decide) dX4_holds_22 ?_
    refine eg_iconst C (-1 : Int32) dX4_holds_25 (by decide) ?_
    obtain ⟨r1, hr1, h⟩ := eu_bd_some h
    refine eg_callNI C (cw_X4_holds_X3_lawful_97 C) (av := [.int (-1 : Int32)]) 2 (by decide) (kX3_lawful hr1) rfl rfl rfl rfl (st := [.ref (eu_ad E 2)]) rfl (Nat.le_of_ble_eq_true rfl) dX4_holds_26 ?_
    obtain ⟨r2, hr2, h⟩ := eu_bd_some h
    refine eg_callNI C (cw_X4_holds_X3_holding_100 C) (av := [.int r1]) 2 (by decide) (kX3_holding hr2) rfl rfl rfl rfl (st := []) rfl (Nat.le_of_ble_eq_true rfl) dX4_holds_29 ?_
    refine eg_iload_n C 1 dX4_holds_32 rfl ?_
    refine eg_scallI C (cw_X4_holds_X4_bitOf_72 C) (av := [.int r2, .int a1]) (kX4_bitOf rfl) rfl (st := []) rfl (Nat.le_of_ble_eq_true rfl) dX4_holds_33 ?_
    obtain rfl := Option.some.inj h
    exact eg_iret C rfl dX4_holds_36
  · rw [if_pos c] at h
    refine eg_bipush C (-2 : Int32) dX4_holds_14 (by decide) ?_
    obtain rfl := Option.some.inj h
    exact eg_iret C rfl dX4_holds_16
theorem kX4_holds {l : Launch} {σ : eu_T} {r : Int32} {a1 : Int32}  (h : fX4_holds σ a1 = some r) : eu_KI l yX4_holds (Cond.code yX4_holds cX4_holds 2 (some .int) :: eu_TB) ({ frames := 2, cells := 0, slots := 0, locals := 50 } : Room) 0 25 (fun ad => [.ref (ad 0), .int a1]) σ σ r :=
  eu_KI_of (by decide) (by decide) rfl (fun _ => Nat.le_of_ble_eq_true rfl) (fun E C => wX4_holds C h)
theorem cw_X4_standingBehind_X3_lawfulOfFirst_106 {E : eu_E} (C : eu_C E ({ frames := 3, cells := 0, slots := 0, locals := 71 } : Room) 0 25 2 cX4_standingBehind RX4 (Cond.code yX4_standingBehind cX4_standingBehind 2 (some .int) :: eu_TB) (some .int)) : va_CN (eu_R E) (eu_s E) (eu_a E) RX4 106 yX3_lawfulOfFirst "EachUndoes" cX3_lawfulOfFirst 2 (some .int) (Cond.code yX3_lawfulOfFirst cX3_lawfulOfFirst 2 (some .int) :: eu_TB) ({ frames := 2, cells := 0, slots := 0, locals := 50 } : Room) 0 0 1 ∧ (Cond.instanceMethod yX3_lawfulOfFirst).before (eu_a E) (eu_s E) = true ∧ (Cond.selects RX3 yX3_lawfulOfFirst yX3_lawfulOfFirst).before (eu_a E) (eu_s E) = true := eu_cnV C (List.mem_of_getElem? (i := 33) rfl) tw_284 tw_285 tw_28 tw_286 rfl rfl (by decide +kernel) (by decide)
theorem cw_X4_standingBehind_X3_standing_118 {E : eu_E} (C : eu_C E ({ frames := 3, cells := 0, slots := 0, locals := 71 } : Room) 0 25 2 cX4_standingBehind RX4 (Cond.code yX4_standingBehind cX4_standingBehind 2 (some .int) :: eu_TB) (some .int)) : va_CN (eu_R E) (eu_s E) (eu_a E) RX4 118 yX3_standing "EachUndoes" cX3_standing 2 (some .int) (Cond.code yX3_standing cX3_standing 2 (some .int) :: eu_TB) ({ frames := 2, cells := 0, slots := 0, locals := 48 } : Room) 0 0 1 ∧ (Cond.instanceMethod yX3_standing).before (eu_a E) (eu_s E) = true ∧ (Cond.selects RX3 yX3_standing yX3_standing).before (eu_a E) (eu_s E) = true := eu_cnV C (List.mem_of_getElem? (i := 35) rfl) tw_290 tw_291 tw_28 tw_292 rfl rfl (by decide +kernel) (by decide)
set_option maxHeartbeats 4000000 in
set_option maxRecDepth 100000 in
theorem wX4_standingBehind {E : eu_E} (C : eu_C E ({ frames := 3, cells := 0, slots := 0, locals := 71 } : Room) 0 25 2 cX4_standingBehind RX4 (Cond.code yX4_standingBehind cX4_standingBehind 2 (some .int) :: eu_TB) (some .int)) {σ : eu_T} {r : Int32} {a1 : Int32}  (h : fX4_standingBehind σ a1 = some r) : eu_G E 0 25 2 (eu_QI E 0 25 σ r) σ 0 [(0, .ref (eu_ad E 0)), (1, .int a1)] [] := by
  unfold fX4_standingBehind at h
  refine eg_aload_n C 0 dX4_standingBehind_0 rfl ?_
  refine gf_X4_20 C (by decide) dX4_standingBehind_1 ?_
  refine eg_aload_n C 0 dX4_standingBehind_4 rfl ?_
  refine gf_X4_20 C (by decide) dX4_standingBehind_5 ?_
  refine eg_iload_n C 1 dX4_standingBehind_8 rfl ?_
  obtain ⟨r1, hr1, h⟩ := eu_bd_some h
  refine eg_callNI C (cw_X4_standingBehind_X3_lawfulOfFirst_106 C) (av := [.int a1]) 2 (by decide) (kX3_lawfulOfFirst hr1) rfl rfl rfl rfl (st := [.ref (eu_ad E 2)]) rfl (Nat.le_of_ble_eq_true rfl) dX4_standingBehind_9 ?_
  obtain ⟨r2, hr2, h⟩ := eu_bd_some h
  refine eg_callNI C (cw_X4_standingBehind_X3_standing_118 C) (av := [.int r1]) 2 (by decide) (kX3_standing hr2) rfl rfl rfl rfl (st := []) rfl (Nat.le_of_ble_eq_true rfl) dX4_standingBehind_12 ?_
  obtain rfl := Option.some.inj h
  exact eg_iret C rfl dX4_standingBehind_15
theorem kX4_standingBehind {l : Launch} {σ : eu_T} {r : Int32} {a1 : Int32}  (h : fX4_standingBehind σ a1 = some r) : eu_KI l yX4_standingBehind (Cond.code yX4_standingBehind cX4_standingBehind 2 (some .int) :: eu_TB) ({ frames := 3, cells := 0, slots := 0, locals := 71 } : Room) 0 25 (fun ad => [.ref (ad 0), .int a1]) σ σ r :=
  eu_KI_of (by decide) (by decide) rfl (fun _ => Nat.le_of_ble_eq_true rfl) (fun E C => wX4_standingBehind C h)
theorem cw_X4_state_X4_isBelow_39 {E : eu_E} (C : eu_C E ({ frames := 4, cells := 0, slots := 0, locals := 92 } : Room) 0 25 3 cX4_state RX4 (Cond.code yX4_state cX4_state 3 (some .int) :: eu_TB) (some .int)) : CallB (eu_R E) (eu_s E) (eu_a E) RX4 39 yX4_isBelow cX4_isBelow 2 (some .boolean) (Cond.code yX4_isBelow cX4_isBelow 2 (some .boolean) :: eu_TB) ({ frames := 0, cells := 0, slots := 0, locals := 0 } : Room) 0 0 2 ∧ (Cond.static yX4_isBelow).before (eu_a E) (eu_s E) = true := eu_cwS C tw_75 tw_76 tw_2 tw_77 rfl rfl (by decide +kernel) (by decide)
theorem cw_X4_state_X3_lawfulOfFirst_106 {E : eu_E} (C : eu_C E ({ frames := 4, cells := 0, slots := 0, locals := 92 } : Room) 0 25 3 cX4_state RX4 (Cond.code yX4_state cX4_state 3 (some .int) :: eu_TB) (some .int)) : va_CN (eu_R E) (eu_s E) (eu_a E) RX4 106 yX3_lawfulOfFirst "EachUndoes" cX3_lawfulOfFirst 2 (some .int) (Cond.code yX3_lawfulOfFirst cX3_lawfulOfFirst 2 (some .int) :: eu_TB) ({ frames := 2, cells := 0, slots := 0, locals := 50 } : Room) 0 0 1 ∧ (Cond.instanceMethod yX3_lawfulOfFirst).before (eu_a E) (eu_s E) = true ∧ (Cond.selects RX3 yX3_lawfulOfFirst yX3_lawfulOfFirst).before (eu_a E) (eu_s E) = true := eu_cnV C (List.mem_of_getElem? (i := 33) rfl) tw_284 tw_285 tw_28 tw_286 rfl rfl (by decide +kernel) (by decide)
theorem cw_X4_state_X3_unspent_109 {E : eu_E} (C : eu_C E ({ frames := 4, cells := 0, slots := 0, locals := 92 } : Room) 0 25 3 cX4_state RX4 (Cond.code yX4_state cX4_state 3 (some .int) :: eu_TB) (some .int)) : va_CN (eu_R E) (eu_s E) (eu_a E) RX4 109 yX3_unspent "EachUndoes" cX3_unspent 4 (some .int) (Cond.code yX3_unspent cX3_unspent 4 (some .int) :: eu_TB) ({ frames := 1, cells := 0, slots := 0, locals := 21 } : Room) 0 0 1 ∧ (Cond.instanceMethod yX3_unspent).before (eu_a E) (eu_s E) = true ∧ (Cond.selects RX3 yX3_unspent yX3_unspent).before (eu_a E) (eu_s E) = true := eu_cnV C (List.mem_of_getElem? (i := 38) rfl) tw_305 tw_306 tw_28 tw_307 rfl rfl (by decide +kernel) (by decide)
theorem cw_X4_state_X4_standingBehind_103 {E : eu_E} (C : eu_C E ({ frames := 4, cells := 0, slots := 0, locals := 92 } : Room) 0 25 3 cX4_state RX4 (Cond.code yX4_state cX4_state 3 (some .int) :: eu_TB) (some .int)) : CallW (eu_R E) (eu_s E) (eu_a E) RX4 RX4 103 yX4_standingBehind cX4_standingBehind 2 (some .int) (Cond.code yX4_standingBehind cX4_standingBehind 2 (some .int) :: eu_TB) ({ frames := 3, cells := 0, slots := 0, locals := 71 } : Room) 0 0 1 := eu_cwV C tw_280 tw_281 tw_282 tw_2 tw_283 rfl rfl (by decide +kernel) (by decide)
set_option maxHeartbeats 4000000 in
set_option maxRecDepth 100000 in
theorem wX4_state {E : eu_E} (C : eu_C E ({ frames := 4, cells := 0, slots := 0, locals := 92 } : Room) 0 25 3 cX4_state RX4 (Cond.code yX4_state cX4_state 3 (some .int) :: eu_TB) (some .int)) {σ : eu_T} {r : Int32} {a1 : Int32} {a2 : Int32}  (h : fX4_state σ a1 a2 = some r) : eu_G E 0 25 3 (eu_QI E 0 25 σ r) σ 0 [(0, .ref (eu_ad E 0)), (1, .int a1), (2, .int a2)] [] := by
  unfold fX4_state at h
  refine eg_iload_n C 1 dX4_state_0 rfl ?_
  refine eg_aload_n C 0 dX4_state_1 rfl ?_
  refine gf_X4_20 C (by decide) dX4_state_2 ?_
  refine gf_X4_79 C (by decide) dX4_state_5 ?_
  refine eg_iconst C (1 : Int32) dX4_state_8 (by decide) ?_
  refine eg_iadd C dX4_state_9 ?_
  refine eg_scallI C (cw_X4_state_X4_isBelow_39 C) (av := [.int a1, .int ((σ 2 3) + (1 : Int32))]) (kX4_isBelow rfl) rfl (st := []) rfl (Nat.le_of_ble_eq_true rfl) dX4_state_10 ?_
  refine eg_if_eq C 24 dX4_state_13 (by decide) (fun c => ?_) (fun c => ?_)
  · rw [if_pos c] at h
    refine eg_bipush C (-2 : Int32) dX4_state_24 (by decide) ?_
    obtain rfl := Option.some.inj h
    exact eg_iret C rfl dX4_state_26
  · rw [if_neg c] at h
    refine eg_iload_n C 2 dX4_state_16 rfl ?_
    refine eg_iconst C (2 : Int32) dX4_state_17 (by decide) ?_
    refine eg_scallI C (cw_X4_state_X4_isBelow_39 C) (av := [.int a2, .int (2 : Int32)]) (kX4_isBelow rfl) rfl (st := []) rfl (Nat.le_of_ble_eq_true rfl) dX4_state_18 ?_
    refine eg_if_ne C 27 dX4_state_21 (by decide) (fun c => ?_) (fun c => ?_)
    · rw [if_neg c] at h
      refine eg_iload_n C 2 dX4_state_27 rfl ?_
      refine eg_if_ne C 39 dX4_state_28 (by decide) (fun c => ?_) (fun c => ?_)
      · rw [if_neg c] at h
        refine eg_aload_n C 0 dX4_state_39 rfl ?_
        refine gf_X4_20 C (by decide) dX4_state_40 ?_
        refine eg_aload_n C 0 dX4_state_43 rfl ?_
        refine gf_X4_20 C (by decide) dX4_state_44 ?_
        refine eg_iload_n C 1 dX4_state_47 rfl ?_
        obtain ⟨r1, hr1, h⟩ := eu_bd_some h
        refine eg_callNI C (cw_X4_state_X3_lawfulOfFirst_106 C) (av := [.int a1]) 2 (by decide) (kX3_lawfulOfFirst hr1) rfl rfl rfl rfl (st := [.ref (eu_ad E 2)]) rfl (Nat.le_of_ble_eq_true rfl) dX4_state_48 ?_
        obtain ⟨r2, hr2, h⟩ := eu_bd_some h
        refine eg_callNI C (cw_X4_state_X3_unspent_109 C) (av := [.int r1]) 2 (by decide) (kX3_unspent hr2) rfl rfl rfl rfl (st := []) rfl (Nat.le_of_ble_eq_true rfl) dX4_state_51 ?_
        obtain rfl := Option.some.inj h
        exact eg_iret C rfl dX4_state_54
      · rw [if_pos c] at h
        refine eg_aload_n C 0 dX4_state_31 rfl ?_
        refine eg_iload_n C 1 dX4_state_32 rfl ?_
        obtain ⟨r3, hr3, h⟩ := eu_bd_some h
        refine eg_callI C (cw_X4_state_X4_standingBehind_103 C) (av := [.int a1]) 0 (by decide) (kX4_standingBehind hr3) rfl rfl rfl rfl (st := []) rfl (Nat.le_of_ble_eq_true rfl) dX4_state_33 ?_
        refine eg_goto C 54 dX4_state_36 (by decide) ?_
        obtain rfl := Option.some.inj h
        exact eg_iret C rfl dX4_state_54
    · rw [if_pos c] at h
      refine eg_bipush C (-2 : Int32) dX4_state_24 (by decide) ?_
      obtain rfl := Option.some.inj h
      exact eg_iret C rfl dX4_state_26
theorem kX4_state {l : Launch} {σ : eu_T} {r : Int32} {a1 : Int32} {a2 : Int32}  (h : fX4_state σ a1 a2 = some r) : eu_KI l yX4_state (Cond.code yX4_state cX4_state 3 (some .int) :: eu_TB) ({ frames := 4, cells := 0, slots := 0, locals := 92 } : Room) 0 25 (fun ad => [.ref (ad 0), .int a1, .int a2]) σ σ r :=
  eu_KI_of (by decide) (by decide) rfl (fun _ => Nat.le_of_ble_eq_true rfl) (fun E C => wX4_state C h)
theorem cw_X4_root_X4_isBelow_39 {E : eu_E} (C : eu_C E ({ frames := 2, cells := 0, slots := 0, locals := 50 } : Room) 0 25 2 cX4_root RX4 (Cond.code yX4_root cX4_root 2 (some .int) :: eu_TB) (some .int)) : CallB (eu_R E) (eu_s E) (eu_a E) RX4 39 yX4_isBelow cX4_isBelow 2 (some .boolean) (Cond.code yX4_isBelow cX4_isBelow 2 (some .boolean) :: eu_TB) ({ frames := 0, cells := 0, slots := 0, locals := 0 } : Room) 0 0 2 ∧ (Cond.static yX4_isBelow).before (eu_a E) (eu_s E) = true := eu_cwS C tw_75 tw_76 tw_2 tw_77 rfl rfl (by decide +kernel) (by decide)
theorem cw_X4_root_X3_lawful_97 {E : eu_E} (C : eu_C E ({ frames := 2, cells := 0, slots := 0, locals := 50 } : Room) 0 25 2 cX4_root RX4 (Cond.code yX4_root cX4_root 2 (some .int) :: eu_TB) (some .int)) : va_CN (eu_R E) (eu_s E) (eu_a E) RX4 97 yX3_lawful "EachUndoes" cX3_lawful 7 (some .int) (Cond.code yX3_lawful cX3_lawful 7 (some .int) :: eu_TB) ({ frames := 1, cells := 0, slots := 0, locals := 24 } : Room) 0 0 1 ∧ (Cond.instanceMethod yX3_lawful).before (eu_a E) (eu_s E) = true ∧ (Cond.selects RX3 yX3_lawful yX3_lawful).before (eu_a E) (eu_s E) = true := eu_cnV C (List.mem_of_getElem? (i := 30) rfl) tw_232 tw_233 tw_28 tw_234 rfl rfl (by decide +kernel) (by decide)
theorem cw_X4_root_X3_undone_112 {E : eu_E} (C : eu_C E ({ frames := 2, cells := 0, slots := 0, locals := 50 } : Room) 0 25 2 cX4_root RX4 (Cond.code yX4_root cX4_root 2 (some .int) :: eu_TB) (some .int)) : va_CN (eu_R E) (eu_s E) (eu_a E) RX4 112 yX3_undone "EachUndoes" cX3_undone 5 (some .int) (Cond.code yX3_undone cX3_undone 5 (some .int) :: eu_TB) ({ frames := 1, cells := 0, slots := 0, locals := 24 } : Room) 0 0 1 ∧ (Cond.instanceMethod yX3_undone).before (eu_a E) (eu_s E) = true ∧ (Cond.selects RX3 yX3_undone yX3_undone).before (eu_a E) (eu_s E) = true := eu_cnV C (List.mem_of_getElem? (i := 39) rfl) tw_294 tw_295 tw_28 tw_296 rfl rfl (by decide +kernel) (by decide)
theorem cw_X4_root_X0_rootOf_115 {E : eu_E} (C : eu_C E ({ frames := 2, cells := 0, slots := 0, locals := 50 } : Room) 0 25 2 cX4_root RX4 (Cond.code yX4_root cX4_root 2 (some .int) :: eu_TB) (some .int)) : va_CN (eu_R E) (eu_s E) (eu_a E) RX4 115 yX0_rootOf "EachUndoes" cX0_rootOf 4 (some .int) (Cond.code yX0_rootOf cX0_rootOf 4 (some .int) :: eu_TB) ({ frames := 1, cells := 0, slots := 0, locals := 23 } : Room) 0 0 2 ∧ (Cond.instanceMethod yX0_rootOf).before (eu_a E) (eu_s E) = true ∧ (Cond.selects RX0 yX0_rootOf yX0_rootOf).before (eu_a E) (eu_s E) = true := eu_cnV C (List.mem_of_getElem? (i := 40) rfl) tw_331 tw_332 tw_39 tw_333 rfl rfl (by decide +kernel) (by decide)
set_option maxHeartbeats 4000000 in
set_option maxRecDepth 100000 in
theorem wX4_root {E : eu_E} (C : eu_C E ({ frames := 2, cells := 0, slots := 0, locals := 50 } : Room) 0 25 2 cX4_root RX4 (Cond.code yX4_root cX4_root 2 (some .int) :: eu_TB) (some .int)) {σ : eu_T} {r : Int32} {a1 : Int32}  (h : fX4_root σ a1 = some r) : eu_G E 0 25 2 (eu_QI E 0 25 σ r) σ 0 [(0, .ref (eu_ad E 0)), (1, .int a1)] [] := by
  unfold fX4_root at h
  refine eg_iload_n C 1 dX4_root_0 rfl ?_
  refine eg_aload_n C 0 dX4_root_1 rfl ?_
  refine gf_X4_27 C (by decide) dX4_root_2 ?_
  refine gf_X4_59 C (by decide) dX4_root_5 ?_
  refine eg_scallI C (cw_X4_root_X4_isBelow_39 C) (av := [.int a1, .int (σ 3 4)]) (kX4_isBelow rfl) rfl (st := []) rfl (Nat.le_of_ble_eq_true rfl) dX4_root_8 ?_
  refine eg_if_ne C 17 dX4_root_11 (by decide) (fun c => ?_) (fun c => ?_)
  · rw [if_neg c] at h
    refine eg_aload_n C 0 dX4_root_17 rfl ?_
    refine gf_X4_27 C (by decide) dX4_root_18 ?_
    refine eg_iload_n C 1 dX4_root_21 rfl ?_
    refine eg_aload_n C 0 dX4_root_22 rfl ?_
    refine gf_X4_20 C (by decide) dX4_root_23 ?_
    refine eg_aload_n C 0 dX4_root_26 rfl ?_
    refine gf_X4_20 C (by decide) dX4_root_27 ?_
    refine eg_iconst C (-1 : Int32) dX4_root_30 (by decide) ?_
    obtain ⟨r1, hr1, h⟩ := eu_bd_some h
    refine eg_callNI C (cw_X4_root_X3_lawful_97 C) (av := [.int (-1 : Int32)]) 2 (by decide) (kX3_lawful hr1) rfl rfl rfl rfl (st := [.ref (eu_ad E 2), .int a1, .ref (eu_ad E 3)]) rfl (Nat.le_of_ble_eq_true rfl) dX4_root_31 ?_
    obtain ⟨r2, hr2, h⟩ := eu_bd_some h
    refine eg_callNI C (cw_X4_root_X3_undone_112 C) (av := [.int r1]) 2 (by decide) (kX3_undone hr2) rfl rfl rfl rfl (st := [.int a1, .ref (eu_ad E 3)]) rfl (Nat.le_of_ble_eq_true rfl) dX4_root_34 ?_
    obtain ⟨r3, hr3, h⟩ := eu_bd_some h
    refine eg_callNI C (cw_X4_root_X0_rootOf_115 C) (av := [.int a1, .int r2]) 3 (by decide) (kX0_rootOf hr3) rfl rfl rfl rfl (st := []) rfl (Nat.le_of_ble_eq_true rfl) dX4_root_37 ?_
    obtain rfl := Option.some.inj h
    exact eg_iret C rfl dX4_root_40
  · rw [if_pos c] at h
    refine eg_bipush C (-2 : Int32) dX4_root_14 (by decide) ?_
    obtain rfl := Option.some.inj h
    exact eg_iret C rfl dX4_root_16
theorem kX4_root {l : Launch} {σ : eu_T} {r : Int32} {a1 : Int32}  (h : fX4_root σ a1 = some r) : eu_KI l yX4_root (Cond.code yX4_root cX4_root 2 (some .int) :: eu_TB) ({ frames := 2, cells := 0, slots := 0, locals := 50 } : Room) 0 25 (fun ad => [.ref (ad 0), .int a1]) σ σ r :=
  eu_KI_of (by decide) (by decide) rfl (fun _ => Nat.le_of_ble_eq_true rfl) (fun E C => wX4_root C h)
theorem cw_X4_by_X4_isBelow_39 {E : eu_E} (C : eu_C E ({ frames := 4, cells := 0, slots := 0, locals := 92 } : Room) 0 25 2 cX4_by RX4 (Cond.code yX4_by cX4_by 2 (some .int) :: eu_TB) (some .int)) : CallB (eu_R E) (eu_s E) (eu_a E) RX4 39 yX4_isBelow cX4_isBelow 2 (some .boolean) (Cond.code yX4_isBelow cX4_isBelow 2 (some .boolean) :: eu_TB) ({ frames := 0, cells := 0, slots := 0, locals := 0 } : Room) 0 0 2 ∧ (Cond.static yX4_isBelow).before (eu_a E) (eu_s E) = true := eu_cwS C tw_75 tw_76 tw_2 tw_77 rfl rfl (by decide +kernel) (by decide)
theorem cw_X4_by_X4_standingBehind_103 {E : eu_E} (C : eu_C E ({ frames := 4, cells := 0, slots := 0, locals := 92 } : Room) 0 25 2 cX4_by RX4 (Cond.code yX4_by cX4_by 2 (some .int) :: eu_TB) (some .int)) : CallW (eu_R E) (eu_s E) (eu_a E) RX4 RX4 103 yX4_standingBehind cX4_standingBehind 2 (some .int) (Cond.code yX4_standingBehind cX4_standingBehind 2 (some .int) :: eu_TB) ({ frames := 3, cells := 0, slots := 0, locals := 71 } : Room) 0 0 1 := eu_cwV C tw_280 tw_281 tw_282 tw_2 tw_283 rfl rfl (by decide +kernel) (by decide)
set_option maxHeartbeats 4000000 in
set_option maxRecDepth 100000 in
theorem wX4_by {E : eu_E} (C : eu_C E ({ frames := 4, cells := 0, slots := 0, locals := 92 } : Room) 0 25 2 cX4_by RX4 (Cond.code yX4_by cX4_by 2 (some .int) :: eu_TB) (some .int)) {σ : eu_T} {r : Int32} {a1 : Int32}  (h : fX4_by σ a1 = some r) : eu_G E 0 25 2 (eu_QI E 0 25 σ r) σ 0 [(0, .ref (eu_ad E 0)), (1, .int a1)] [] := by
  unfold fX4_by at h
  refine eg_iload_n C 1 dX4_by_0 rfl ?_
  refine eg_aload_n C 0 dX4_by_1 rfl ?_
  refine gf_X4_20 C (by decide) dX4_by_2 ?_
  refine gf_X4_79 C (by decide) dX4_by_5 ?_
  refine eg_scallI C (cw_X4_by_X4_isBelow_39 C) (av := [.int a1, .int (σ 2 3)]) (kX4_isBelow rfl) rfl (st := []) rfl (Nat.le_of_ble_eq_true rfl) dX4_by_8 ?_
  refine eg_if_ne C 17 dX4_by_11 (by decide) (fun c => ?_) (fun c => ?_)
  · rw [if_neg c] at h
    refine eg_aload_n C 0 dX4_by_17 rfl ?_
    refine eg_iload_n C 1 dX4_by_18 rfl ?_
    obtain ⟨r1, hr1, h⟩ := eu_bd_some h
    refine eg_callI C (cw_X4_by_X4_standingBehind_103 C) (av := [.int a1]) 0 (by decide) (kX4_standingBehind hr1) rfl rfl rfl rfl (st := []) rfl (Nat.le_of_ble_eq_true rfl) dX4_by_19 ?_
    refine eg_aload_n C 0 dX4_by_22 rfl ?_
    refine eg_iload_n C 1 dX4_by_23 rfl ?_
    refine eg_iconst C (1 : Int32) dX4_by_24 (by decide) ?_
    refine eg_iadd C dX4_by_25 ?_
    obtain ⟨r2, hr2, h⟩ := eu_bd_some h
    refine eg_callI C (cw_X4_by_X4_standingBehind_103 C) (av := [.int (a1 + (1 : Int32))]) 0 (by decide) (kX4_standingBehind hr2) rfl rfl rfl rfl (st := [.int r1]) rfl (Nat.le_of_ble_eq_true rfl) dX4_by_26 ?_
    refine eg_ixor C dX4_by_29 ?_
    obtain rfl := Option.some.inj h
    exact eg_iret C rfl dX4_by_30
  · rw [if_pos c] at h
    refine eg_bipush C (-2 : Int32) dX4_by_14 (by decide) ?_
    obtain rfl := Option.some.inj h
    exact eg_iret C rfl dX4_by_16
theorem kX4_by {l : Launch} {σ : eu_T} {r : Int32} {a1 : Int32}  (h : fX4_by σ a1 = some r) : eu_KI l yX4_by (Cond.code yX4_by cX4_by 2 (some .int) :: eu_TB) ({ frames := 4, cells := 0, slots := 0, locals := 92 } : Room) 0 25 (fun ad => [.ref (ad 0), .int a1]) σ σ r :=
  eu_KI_of (by decide) (by decide) rfl (fun _ => Nat.le_of_ble_eq_true rfl) (fun E C => wX4_by C h)
