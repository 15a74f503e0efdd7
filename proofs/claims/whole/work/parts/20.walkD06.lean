theorem cw_X4_sheet_X4_isBelow_39 {E : eu_E} (C : eu_C E ({ frames := 1, cells := 0, slots := 0, locals := 23 } : Room) 0 25 4 cX4_sheet RX4 (Cond.code yX4_sheet cX4_sheet 4 (some .int) :: eu_TB) (some .int)) : CallB (eu_R E) (eu_s E) (eu_a E) RX4 39 yX4_isBelow cX4_isBelow 2 (some .boolean) (Cond.code yX4_isBelow cX4_isBelow 2 (some .boolean) :: eu_TB) ({ frames := 0, cells := 0, slots := 0, locals := 0 } : Room) 0 0 2 ∧ (Cond.static yX4_isBelow).before (eu_a E) (eu_s E) = true := eu_cwS C tw_75 tw_76 tw_2 tw_77 rfl rfl (by decide +kernel) (by decide)
theorem cw_X4_sheet_X2_begin_170 {E : eu_E} (C : eu_C E ({ frames := 1, cells := 0, slots := 0, locals := 23 } : Room) 0 25 4 cX4_sheet RX4 (Cond.code yX4_sheet cX4_sheet 4 (some .int) :: eu_TB) (some .int)) : va_CN (eu_R E) (eu_s E) (eu_a E) RX4 170 yX2_begin "EachUndoes" cX2_begin 4 none (Cond.code yX2_begin cX2_begin 4 none :: eu_TB) ({ frames := 0, cells := 0, slots := 0, locals := 0 } : Room) 0 0 2 ∧ (Cond.instanceMethod yX2_begin).before (eu_a E) (eu_s E) = true ∧ (Cond.selects RX2 yX2_begin yX2_begin).before (eu_a E) (eu_s E) = true := eu_cnV C (List.mem_of_getElem? (i := 60) rfl) tw_558 tw_559 tw_22 tw_560 rfl rfl (by decide +kernel) (by decide)
theorem cw_X4_sheet_X4_found_84 {E : eu_E} (C : eu_C E ({ frames := 1, cells := 0, slots := 0, locals := 23 } : Room) 0 25 4 cX4_sheet RX4 (Cond.code yX4_sheet cX4_sheet 4 (some .int) :: eu_TB) (some .int)) : CallW (eu_R E) (eu_s E) (eu_a E) RX4 RX4 84 yX4_found cX4_found 2 (some .int) (Cond.code yX4_found cX4_found 2 (some .int) :: eu_TB) ({ frames := 0, cells := 0, slots := 0, locals := 0 } : Room) 0 0 1 := eu_cwV C tw_191 tw_192 tw_193 tw_2 tw_194 rfl rfl (by decide +kernel) (by decide)
set_option maxHeartbeats 4000000 in
set_option maxRecDepth 100000 in
theorem wX4_sheet {E : eu_E} (C : eu_C E ({ frames := 1, cells := 0, slots := 0, locals := 23 } : Room) 0 25 4 cX4_sheet RX4 (Cond.code yX4_sheet cX4_sheet 4 (some .int) :: eu_TB) (some .int)) {σ : eu_T} {r : Int32} {σ' : eu_T} {a1 : Int32} {a2 : Int32} {a3 : Int32}  (h : fX4_sheet σ a1 a2 a3 = some (r, σ')) : eu_G E 0 25 4 (eu_QI E 0 25 σ' r) σ 0 [(0, .ref (eu_ad E 0)), (1, .int a1), (2, .int a2), (3, .int a3)] [] := by
  unfold fX4_sheet at h
  refine eg_iload_n C 1 dX4_sheet_0 rfl ?_
  refine eg_iconst C (4 : Int32) dX4_sheet_1 (by decide) ?_
  refine eg_scallI C (cw_X4_sheet_X4_isBelow_39 C) (av := [.int a1, .int (4 : Int32)]) (kX4_isBelow rfl) rfl (st := []) rfl (Nat.le_of_ble_eq_true rfl) dX4_sheet_2 ?_
  refine eg_if_eq C 22 dX4_sheet_5 (by decide) (fun c => ?_) (fun c => ?_)
  · rw [if_pos c] at h
    refine eg_bipush C (-2 : Int32) dX4_sheet_22 (by decide) ?_
    obtain ⟨rfl, rfl⟩ := eu_inj2 h
    exact eg_iret C rfl dX4_sheet_24
  · rw [if_neg c] at h
    refine eg_iload_n C 2 dX4_sheet_8 rfl ?_
    refine eg_iconst C (3 : Int32) dX4_sheet_9 (by decide) ?_
    refine eg_scallI C (cw_X4_sheet_X4_isBelow_39 C) (av := [.int a2, .int (3 : Int32)]) (kX4_isBelow rfl) rfl (st := []) rfl (Nat.le_of_ble_eq_true rfl) dX4_sheet_10 ?_
    refine eg_if_eq C 22 dX4_sheet_13 (by decide) (fun c => ?_) (fun c => ?_)
    · rw [if_pos c] at h
      refine eg_bipush C (-2 : Int32) dX4_sheet_22 (by decide) ?_
      obtain ⟨rfl, rfl⟩ := eu_inj2 h
      exact eg_iret C rfl dX4_sheet_24
    · rw [if_neg c] at h
      refine eg_iload_n C 3 dX4_sheet_16 rfl ?_
      refine eg_bipush C (60 : Int32) dX4_sheet_17 (by decide) ?_
      refine eg_icmp_le C 25 dX4_sheet_19 (by decide) (fun c => ?_) (fun c => ?_)
      · rw [if_pos c] at h
        refine eg_iload_n C 3 dX4_sheet_25 rfl ?_
        refine eg_if_ge C 35 dX4_sheet_26 (by decide) (fun c => ?_) (fun c => ?_)
        · rw [if_pos c] at h
          refine eg_aload_n C 0 dX4_sheet_35 rfl ?_
          refine gf_X4_30 C (by decide) dX4_sheet_36 ?_
          refine eg_iload_n C 1 dX4_sheet_39 rfl ?_
          obtain ⟨g1, h⟩ := eu_gd_some h
          refine eg_aald C 2 rfl 4 (by decide) (z := 4) (b := 11) (fun _ => rfl) (eu_in_vp g1) dX4_sheet_40 ?_
          refine eg_iload_n C 2 dX4_sheet_41 rfl ?_
          refine eg_iload_n C 3 dX4_sheet_42 rfl ?_
          obtain ⟨r2, σ3, hr2, h⟩ := eu_b2_some h
          refine eg_callNV C (cw_X4_sheet_X2_begin_170 C) (av := [.int a2, .int a3]) (11 + a1.toNatClampNeg) (eu_is0 (eu_is g1)) (kX2_begin (eu_is g1) hr2) rfl (eu_weS (eu_is g1)) rfl rfl (st := []) rfl (Nat.le_of_ble_eq_true rfl) dX4_sheet_43 ?_
          refine eg_iload_n C 3 dX4_sheet_46 rfl ?_
          obtain ⟨rfl, rfl⟩ := eu_inj2 h
          exact eg_iret C rfl dX4_sheet_47
        · rw [if_neg c] at h
          refine eg_aload_n C 0 dX4_sheet_29 rfl ?_
          refine eg_iconst C (5 : Int32) dX4_sheet_30 (by decide) ?_
          obtain ⟨r4, σ5, hr4, h⟩ := eu_b2_some h
          refine eg_callI C (cw_X4_sheet_X4_found_84 C) (av := [.int (5 : Int32)]) 0 (by decide) (kX4_found hr4) rfl rfl rfl rfl (st := []) rfl (Nat.le_of_ble_eq_true rfl) dX4_sheet_31 ?_
          obtain ⟨rfl, rfl⟩ := eu_inj2 h
          exact eg_iret C rfl dX4_sheet_34
      · rw [if_neg c] at h
        refine eg_bipush C (-2 : Int32) dX4_sheet_22 (by decide) ?_
        obtain ⟨rfl, rfl⟩ := eu_inj2 h
        exact eg_iret C rfl dX4_sheet_24
theorem kX4_sheet {l : Launch} {σ : eu_T} {r : Int32} {σ' : eu_T} {a1 : Int32} {a2 : Int32} {a3 : Int32}  (h : fX4_sheet σ a1 a2 a3 = some (r, σ')) : eu_KI l yX4_sheet (Cond.code yX4_sheet cX4_sheet 4 (some .int) :: eu_TB) ({ frames := 1, cells := 0, slots := 0, locals := 23 } : Room) 0 25 (fun ad => [.ref (ad 0), .int a1, .int a2, .int a3]) σ σ' r :=
  eu_KI_of (by decide) (by decide) rfl (fun _ => Nat.le_of_ble_eq_true rfl) (fun E C => wX4_sheet C h)
theorem cw_X4_lose_X4_isBelow_39 {E : eu_E} (C : eu_C E ({ frames := 1, cells := 0, slots := 0, locals := 21 } : Room) 0 25 3 cX4_lose RX4 (Cond.code yX4_lose cX4_lose 3 (some .int) :: eu_TB) (some .int)) : CallB (eu_R E) (eu_s E) (eu_a E) RX4 39 yX4_isBelow cX4_isBelow 2 (some .boolean) (Cond.code yX4_isBelow cX4_isBelow 2 (some .boolean) :: eu_TB) ({ frames := 0, cells := 0, slots := 0, locals := 0 } : Room) 0 0 2 ∧ (Cond.static yX4_isBelow).before (eu_a E) (eu_s E) = true := eu_cwS C tw_75 tw_76 tw_2 tw_77 rfl rfl (by decide +kernel) (by decide)
theorem cw_X4_lose_X4_found_84 {E : eu_E} (C : eu_C E ({ frames := 1, cells := 0, slots := 0, locals := 21 } : Room) 0 25 3 cX4_lose RX4 (Cond.code yX4_lose cX4_lose 3 (some .int) :: eu_TB) (some .int)) : CallW (eu_R E) (eu_s E) (eu_a E) RX4 RX4 84 yX4_found cX4_found 2 (some .int) (Cond.code yX4_found cX4_found 2 (some .int) :: eu_TB) ({ frames := 0, cells := 0, slots := 0, locals := 0 } : Room) 0 0 1 := eu_cwV C tw_191 tw_192 tw_193 tw_2 tw_194 rfl rfl (by decide +kernel) (by decide)
set_option maxHeartbeats 4000000 in
set_option maxRecDepth 100000 in
theorem wX4_lose {E : eu_E} (C : eu_C E ({ frames := 1, cells := 0, slots := 0, locals := 21 } : Room) 0 25 3 cX4_lose RX4 (Cond.code yX4_lose cX4_lose 3 (some .int) :: eu_TB) (some .int)) {σ : eu_T} {r : Int32} {σ' : eu_T} {a1 : Int32}  (h : fX4_lose σ a1 = some (r, σ')) : eu_G E 0 25 3 (eu_QI E 0 25 σ' r) σ 0 [(0, .ref (eu_ad E 0)), (1, .int a1)] [] := by
  unfold fX4_lose at h
  refine eg_iload_n C 1 dX4_lose_0 rfl ?_
  refine eg_iconst C (4 : Int32) dX4_lose_1 (by decide) ?_
  refine eg_scallI C (cw_X4_lose_X4_isBelow_39 C) (av := [.int a1, .int (4 : Int32)]) (kX4_isBelow rfl) rfl (st := []) rfl (Nat.le_of_ble_eq_true rfl) dX4_lose_2 ?_
  refine eg_if_ne C 11 dX4_lose_5 (by decide) (fun c => ?_) (fun c => ?_)
  · rw [if_neg c] at h
    refine eg_aload_n C 0 dX4_lose_11 rfl ?_
    refine gf_X4_30 C (by decide) dX4_lose_12 ?_
    refine eg_iload_n C 1 dX4_lose_15 rfl ?_
    obtain ⟨g1, h⟩ := eu_gd_some h
    refine eg_aald C 2 rfl 4 (by decide) (z := 4) (b := 11) (fun _ => rfl) (eu_in_vp g1) dX4_lose_16 ?_
    refine eg_astore_n C [(2, .ref (eu_ad E (11 + a1.toNatClampNeg))), (0, .ref (eu_ad E 0)), (1, .int a1)] dX4_lose_17 rfl (by decide) rfl ?_
    refine eg_aload_n C 0 dX4_lose_18 rfl ?_
    refine gf_X4_80 C _ (eu_is g1) dX4_lose_19 ?_
    refine eg_if_eq C 31 dX4_lose_22 (by decide) (fun c => ?_) (fun c => ?_)
    · rw [if_pos c] at h
      refine eg_aload_n C 0 dX4_lose_31 rfl ?_
      refine eg_iconst C (1 : Int32) dX4_lose_32 (by decide) ?_
      refine pf_X4_80 C _ (eu_is g1) (by decide) dX4_lose_33 ?_
      obtain ⟨σ2, eσ2, h⟩ := eu_lt_x h
      rw [← eσ2]
      refine eg_aload_n C 0 dX4_lose_36 rfl ?_
      refine gf_X4_87 C _ (eu_is g1) dX4_lose_37 ?_
      obtain ⟨rfl, rfl⟩ := eu_inj2 h
      exact eg_iret C rfl dX4_lose_40
    · rw [if_neg c] at h
      refine eg_aload_n C 1 dX4_lose_25 rfl ?_
      refine eg_iconst C (1 : Int32) dX4_lose_26 (by decide) ?_
      obtain ⟨r3, σ4, hr3, h⟩ := eu_b2_some h
      refine eg_callI C (cw_X4_lose_X4_found_84 C) (av := [.int (1 : Int32)]) 0 (by decide) (kX4_found hr3) rfl rfl rfl rfl (st := []) rfl (Nat.le_of_ble_eq_true rfl) dX4_lose_27 ?_
      obtain ⟨rfl, rfl⟩ := eu_inj2 h
      exact eg_iret C rfl dX4_lose_30
  · rw [if_pos c] at h
    refine eg_bipush C (-2 : Int32) dX4_lose_8 (by decide) ?_
    obtain ⟨rfl, rfl⟩ := eu_inj2 h
    exact eg_iret C rfl dX4_lose_10
theorem kX4_lose {l : Launch} {σ : eu_T} {r : Int32} {σ' : eu_T} {a1 : Int32}  (h : fX4_lose σ a1 = some (r, σ')) : eu_KI l yX4_lose (Cond.code yX4_lose cX4_lose 3 (some .int) :: eu_TB) ({ frames := 1, cells := 0, slots := 0, locals := 21 } : Room) 0 25 (fun ad => [.ref (ad 0), .int a1]) σ σ' r :=
  eu_KI_of (by decide) (by decide) rfl (fun _ => Nat.le_of_ble_eq_true rfl) (fun E C => wX4_lose C h)
theorem cw_X4_lay_X4_isBelow_39 {E : eu_E} (C : eu_C E ({ frames := 2, cells := 0, slots := 0, locals := 43 } : Room) 0 25 6 cX4_lay RX4 (Cond.code yX4_lay cX4_lay 6 (some .int) :: eu_TB) (some .int)) : CallB (eu_R E) (eu_s E) (eu_a E) RX4 39 yX4_isBelow cX4_isBelow 2 (some .boolean) (Cond.code yX4_isBelow cX4_isBelow 2 (some .boolean) :: eu_TB) ({ frames := 0, cells := 0, slots := 0, locals := 0 } : Room) 0 0 2 ∧ (Cond.static yX4_isBelow).before (eu_a E) (eu_s E) = true := eu_cwS C tw_75 tw_76 tw_2 tw_77 rfl rfl (by decide +kernel) (by decide)
theorem cw_X4_lay_X2_findingAt_173 {E : eu_E} (C : eu_C E ({ frames := 2, cells := 0, slots := 0, locals := 43 } : Room) 0 25 6 cX4_lay RX4 (Cond.code yX4_lay cX4_lay 6 (some .int) :: eu_TB) (some .int)) : va_CN (eu_R E) (eu_s E) (eu_a E) RX4 173 yX2_findingAt "EachUndoes" cX2_findingAt 3 (some .int) (Cond.code yX2_findingAt cX2_findingAt 3 (some .int) :: eu_TB) ({ frames := 1, cells := 0, slots := 0, locals := 21 } : Room) 0 0 2 ∧ (Cond.instanceMethod yX2_findingAt).before (eu_a E) (eu_s E) = true ∧ (Cond.selects RX2 yX2_findingAt yX2_findingAt).before (eu_a E) (eu_s E) = true := eu_cnV C (List.mem_of_getElem? (i := 61) rfl) tw_579 tw_580 tw_22 tw_581 rfl rfl (by decide +kernel) (by decide)
theorem cw_X4_lay_X2_put_176 {E : eu_E} (C : eu_C E ({ frames := 2, cells := 0, slots := 0, locals := 43 } : Room) 0 25 6 cX4_lay RX4 (Cond.code yX4_lay cX4_lay 6 (some .int) :: eu_TB) (some .int)) : va_CN (eu_R E) (eu_s E) (eu_a E) RX4 176 yX2_put "EachUndoes" cX2_put 3 none (Cond.code yX2_put cX2_put 3 none :: eu_TB) ({ frames := 1, cells := 0, slots := 0, locals := 21 } : Room) 0 0 2 ∧ (Cond.instanceMethod yX2_put).before (eu_a E) (eu_s E) = true ∧ (Cond.selects RX2 yX2_put yX2_put).before (eu_a E) (eu_s E) = true := eu_cnV C (List.mem_of_getElem? (i := 63) rfl) tw_582 tw_583 tw_22 tw_584 rfl rfl (by decide +kernel) (by decide)
theorem cw_X4_lay_X4_found_84 {E : eu_E} (C : eu_C E ({ frames := 2, cells := 0, slots := 0, locals := 43 } : Room) 0 25 6 cX4_lay RX4 (Cond.code yX4_lay cX4_lay 6 (some .int) :: eu_TB) (some .int)) : CallW (eu_R E) (eu_s E) (eu_a E) RX4 RX4 84 yX4_found cX4_found 2 (some .int) (Cond.code yX4_found cX4_found 2 (some .int) :: eu_TB) ({ frames := 0, cells := 0, slots := 0, locals := 0 } : Room) 0 0 1 := eu_cwV C tw_191 tw_192 tw_193 tw_2 tw_194 rfl rfl (by decide +kernel) (by decide)
set_option maxHeartbeats 4000000 in
set_option maxRecDepth 100000 in
theorem wX4_lay {E : eu_E} (C : eu_C E ({ frames := 2, cells := 0, slots := 0, locals := 43 } : Room) 0 25 6 cX4_lay RX4 (Cond.code yX4_lay cX4_lay 6 (some .int) :: eu_TB) (some .int)) {σ : eu_T} {r : Int32} {σ' : eu_T} {a1 : Int32} {a2 : Int32} {a3 : Int32} {a4 : Int32}  (h : fX4_lay σ a1 a2 a3 a4 = some (r, σ')) : eu_G E 0 25 6 (eu_QI E 0 25 σ' r) σ 0 [(0, .ref (eu_ad E 0)), (1, .int a1), (2, .int a2), (3, .int a3), (4, .int a4)] [] := by
  unfold fX4_lay at h
  refine eg_iload_n C 1 dX4_lay_0 rfl ?_
  refine eg_iconst C (4 : Int32) dX4_lay_1 (by decide) ?_
  refine eg_scallI C (cw_X4_lay_X4_isBelow_39 C) (av := [.int a1, .int (4 : Int32)]) (kX4_isBelow rfl) rfl (st := []) rfl (Nat.le_of_ble_eq_true rfl) dX4_lay_2 ?_
  refine eg_if_eq C 16 dX4_lay_5 (by decide) (fun c => ?_) (fun c => ?_)
  · rw [if_pos c] at h
    refine eg_bipush C (-2 : Int32) dX4_lay_16 (by decide) ?_
    obtain ⟨rfl, rfl⟩ := eu_inj2 h
    exact eg_iret C rfl dX4_lay_18
  · rw [if_neg c] at h
    refine eg_iload_n C 2 dX4_lay_8 rfl ?_
    refine eg_iconst C (3 : Int32) dX4_lay_9 (by decide) ?_
    refine eg_scallI C (cw_X4_lay_X4_isBelow_39 C) (av := [.int a2, .int (3 : Int32)]) (kX4_isBelow rfl) rfl (st := []) rfl (Nat.le_of_ble_eq_true rfl) dX4_lay_10 ?_
    refine eg_if_ne C 19 dX4_lay_13 (by decide) (fun c => ?_) (fun c => ?_)
    · rw [if_neg c] at h
      refine eg_aload_n C 0 dX4_lay_19 rfl ?_
      refine gf_X4_30 C (by decide) dX4_lay_20 ?_
      refine eg_iload_n C 1 dX4_lay_23 rfl ?_
      obtain ⟨g1, h⟩ := eu_gd_some h
      refine eg_aald C 2 rfl 4 (by decide) (z := 4) (b := 11) (fun _ => rfl) (eu_in_vp g1) dX4_lay_24 ?_
      refine eg_iload_n C 2 dX4_lay_25 rfl ?_
      refine eg_iload_n C 3 dX4_lay_26 rfl ?_
      refine eg_callNI C (cw_X4_lay_X2_findingAt_173 C) (av := [.int a2, .int a3]) (11 + a1.toNatClampNeg) (eu_is0 (eu_is g1)) (kX2_findingAt (eu_is g1) rfl) rfl (eu_weS (eu_is g1)) rfl rfl (st := []) rfl (Nat.le_of_ble_eq_true rfl) dX4_lay_27 ?_
      refine eg_istore C [(5, .int (fX2_findingAt σ (11 + a1.toNatClampNeg) a2 a3)), (0, .ref (eu_ad E 0)), (1, .int a1), (2, .int a2), (3, .int a3), (4, .int a4)] dX4_lay_30 (by decide) rfl ?_
      refine eg_iload C 0 dX4_lay_32 rfl ?_
      refine eg_if_eq C 44 dX4_lay_34 (by decide) (fun c => ?_) (fun c => ?_)
      · rw [if_pos c] at h
        refine eg_aload_n C 1 dX4_lay_44 rfl ?_
        refine gf_X4_30 C (by decide) dX4_lay_45 ?_
        refine eg_iload_n C 2 dX4_lay_48 rfl ?_
        obtain ⟨g2, h⟩ := eu_gd_some h
        refine eg_aald C 2 rfl 4 (by decide) (z := 4) (b := 11) (fun _ => rfl) (eu_in_vp g2) dX4_lay_49 ?_
        refine eg_iload_n C 4 dX4_lay_50 rfl ?_
        refine eg_iload C 5 dX4_lay_51 rfl ?_
        obtain ⟨r3, σ4, hr3, h⟩ := eu_b2_some h
        refine eg_callNV C (cw_X4_lay_X2_put_176 C) (av := [.int a3, .int a4]) (11 + a1.toNatClampNeg) (eu_is0 (eu_is g2)) (kX2_put (eu_is g2) hr3) rfl (eu_weS (eu_is g2)) rfl rfl (st := []) rfl (Nat.le_of_ble_eq_true rfl) dX4_lay_53 ?_
        refine eg_iconst C (1 : Int32) dX4_lay_56 (by decide) ?_
        obtain ⟨rfl, rfl⟩ := eu_inj2 h
        exact eg_iret C rfl dX4_lay_57
      · rw [if_neg c] at h
        refine eg_aload_n C 1 dX4_lay_37 rfl ?_
        refine eg_iload C 0 dX4_lay_38 rfl ?_
        obtain ⟨r5, σ6, hr5, h⟩ := eu_b2_some h
        refine eg_callI C (cw_X4_lay_X4_found_84 C) (av := [.int (fX2_findingAt σ (11 + a1.toNatClampNeg) a2 a3)]) 0 (by decide) (kX4_found hr5) rfl rfl rfl rfl (st := []) rfl (Nat.le_of_ble_eq_true rfl) dX4_lay_40 ?_
        obtain ⟨rfl, rfl⟩ := eu_inj2 h
        exact eg_iret C rfl dX4_lay_43
    · rw [if_pos c] at h
      refine eg_bipush C (-2 : Int32) dX4_lay_16 (by decide) ?_
      obtain ⟨rfl, rfl⟩ := eu_inj2 h
      exact eg_iret C rfl dX4_lay_18
theorem kX4_lay {l : Launch} {σ : eu_T} {r : Int32} {σ' : eu_T} {a1 : Int32} {a2 : Int32} {a3 : Int32} {a4 : Int32}  (h : fX4_lay σ a1 a2 a3 a4 = some (r, σ')) : eu_KI l yX4_lay (Cond.code yX4_lay cX4_lay 6 (some .int) :: eu_TB) ({ frames := 2, cells := 0, slots := 0, locals := 43 } : Room) 0 25 (fun ad => [.ref (ad 0), .int a1, .int a2, .int a3, .int a4]) σ σ' r :=
  eu_KI_of (by decide) (by decide) rfl (fun _ => Nat.le_of_ble_eq_true rfl) (fun E C => wX4_lay C h)
theorem cw_X4_get_X4_isBelow_39 {E : eu_E} (C : eu_C E ({ frames := 2, cells := 0, slots := 0, locals := 43 } : Room) 0 25 5 cX4_get RX4 (Cond.code yX4_get cX4_get 5 (some .int) :: eu_TB) (some .int)) : CallB (eu_R E) (eu_s E) (eu_a E) RX4 39 yX4_isBelow cX4_isBelow 2 (some .boolean) (Cond.code yX4_isBelow cX4_isBelow 2 (some .boolean) :: eu_TB) ({ frames := 0, cells := 0, slots := 0, locals := 0 } : Room) 0 0 2 ∧ (Cond.static yX4_isBelow).before (eu_a E) (eu_s E) = true := eu_cwS C tw_75 tw_76 tw_2 tw_77 rfl rfl (by decide +kernel) (by decide)
theorem cw_X4_get_X2_findingAt_173 {E : eu_E} (C : eu_C E ({ frames := 2, cells := 0, slots := 0, locals := 43 } : Room) 0 25 5 cX4_get RX4 (Cond.code yX4_get cX4_get 5 (some .int) :: eu_TB) (some .int)) : va_CN (eu_R E) (eu_s E) (eu_a E) RX4 173 yX2_findingAt "EachUndoes" cX2_findingAt 3 (some .int) (Cond.code yX2_findingAt cX2_findingAt 3 (some .int) :: eu_TB) ({ frames := 1, cells := 0, slots := 0, locals := 21 } : Room) 0 0 2 ∧ (Cond.instanceMethod yX2_findingAt).before (eu_a E) (eu_s E) = true ∧ (Cond.selects RX2 yX2_findingAt yX2_findingAt).before (eu_a E) (eu_s E) = true := eu_cnV C (List.mem_of_getElem? (i := 61) rfl) tw_579 tw_580 tw_22 tw_581 rfl rfl (by decide +kernel) (by decide)
set_option maxHeartbeats 4000000 in
set_option maxRecDepth 100000 in
theorem wX4_get {E : eu_E} (C : eu_C E ({ frames := 2, cells := 0, slots := 0, locals := 43 } : Room) 0 25 5 cX4_get RX4 (Cond.code yX4_get cX4_get 5 (some .int) :: eu_TB) (some .int)) {σ : eu_T} {r : Int32} {σ' : eu_T} {a1 : Int32} {a2 : Int32} {a3 : Int32}  (h : fX4_get σ a1 a2 a3 = some (r, σ')) : eu_G E 0 25 5 (eu_QI E 0 25 σ' r) σ 0 [(0, .ref (eu_ad E 0)), (1, .int a1), (2, .int a2), (3, .int a3)] [] := by
  unfold fX4_get at h
  refine eg_iload_n C 1 dX4_get_0 rfl ?_
  refine eg_iconst C (4 : Int32) dX4_get_1 (by decide) ?_
  refine eg_scallI C (cw_X4_get_X4_isBelow_39 C) (av := [.int a1, .int (4 : Int32)]) (kX4_isBelow rfl) rfl (st := []) rfl (Nat.le_of_ble_eq_true rfl) dX4_get_2 ?_
  refine eg_if_eq C 16 dX4_get_5 (by decide) (fun c => ?_) (fun c => ?_)
  · rw [if_pos c] at h
    refine eg_ldc C (-2147483648 : Int32) dX4_get_16 (List.mem_cons_of_mem _ tw_600) ?_
    obtain ⟨rfl, rfl⟩ := eu_inj2 h
    exact eg_iret C rfl dX4_get_18
  · rw [if_neg c] at h
    refine eg_iload_n C 2 dX4_get_8 rfl ?_
    refine eg_iconst C (3 : Int32) dX4_get_9 (by decide) ?_
    refine eg_scallI C (cw_X4_get_X4_isBelow_39 C) (av := [.int a2, .int (3 : Int32)]) (kX4_isBelow rfl) rfl (st := []) rfl (Nat.le_of_ble_eq_true rfl) dX4_get_10 ?_
    refine eg_if_ne C 19 dX4_get_13 (by decide) (fun c => ?_) (fun c => ?_)
    · rw [if_neg c] at h
      refine eg_aload_n C 0 dX4_get_19 rfl ?_
      refine gf_X4_30 C (by decide) dX4_get_20 ?_
      refine eg_iload_n C 1 dX4_get_23 rfl ?_
      obtain ⟨g1, h⟩ := eu_gd_some h
      refine eg_aald C 2 rfl 4 (by decide) (z := 4) (b := 11) (fun _ => rfl) (eu_in_vp g1) dX4_get_24 ?_
      refine eg_iload_n C 2 dX4_get_25 rfl ?_
      refine eg_iload_n C 3 dX4_get_26 rfl ?_
      refine eg_callNI C (cw_X4_get_X2_findingAt_173 C) (av := [.int a2, .int a3]) (11 + a1.toNatClampNeg) (eu_is0 (eu_is g1)) (kX2_findingAt (eu_is g1) rfl) rfl (eu_weS (eu_is g1)) rfl rfl (st := []) rfl (Nat.le_of_ble_eq_true rfl) dX4_get_27 ?_
      refine eg_istore C [(4, .int (fX2_findingAt σ (11 + a1.toNatClampNeg) a2 a3)), (0, .ref (eu_ad E 0)), (1, .int a1), (2, .int a2), (3, .int a3)] dX4_get_30 (by decide) rfl ?_
      refine eg_iload C 0 dX4_get_32 rfl ?_
      refine eg_if_eq C 46 dX4_get_34 (by decide) (fun c => ?_) (fun c => ?_)
      · rw [if_pos c] at h
        refine eg_aload_n C 1 dX4_get_46 rfl ?_
        refine gf_X4_30 C (by decide) dX4_get_47 ?_
        refine eg_iload_n C 2 dX4_get_50 rfl ?_
        obtain ⟨g2, h⟩ := eu_gd_some h
        refine eg_aald C 2 rfl 4 (by decide) (z := 4) (b := 11) (fun _ => rfl) (eu_in_vp g2) dX4_get_51 ?_
        refine gf_X4_90 C _ (eu_is g2) dX4_get_52 ?_
        refine eg_iload_n C 4 dX4_get_55 rfl ?_
        obtain ⟨g3, h⟩ := eu_gd_some h
        refine eg_iald C ((11 + a1.toNatClampNeg) + 4) (eu_ii0 (eu_i4 (eu_is g2))) (z := 60) (eu_weI (eu_i4 (eu_is g2))) (eu_in_vp g3) dX4_get_56 ?_
        obtain ⟨rfl, rfl⟩ := eu_inj2 h
        exact eg_iret C rfl dX4_get_57
      · rw [if_neg c] at h
        refine eg_aload_n C 1 dX4_get_37 rfl ?_
        refine eg_iload C 0 dX4_get_38 rfl ?_
        refine pf_X4_34 C (by decide) dX4_get_40 ?_
        obtain ⟨σ4, eσ4, h⟩ := eu_lt_x h
        rw [← eσ4]
        refine eg_ldc C (-2147483648 : Int32) dX4_get_43 (List.mem_cons_of_mem _ tw_600) ?_
        obtain ⟨rfl, rfl⟩ := eu_inj2 h
        exact eg_iret C rfl dX4_get_45
    · rw [if_pos c] at h
      refine eg_ldc C (-2147483648 : Int32) dX4_get_16 (List.mem_cons_of_mem _ tw_600) ?_
      obtain ⟨rfl, rfl⟩ := eu_inj2 h
      exact eg_iret C rfl dX4_get_18
theorem kX4_get {l : Launch} {σ : eu_T} {r : Int32} {σ' : eu_T} {a1 : Int32} {a2 : Int32} {a3 : Int32}  (h : fX4_get σ a1 a2 a3 = some (r, σ')) : eu_KI l yX4_get (Cond.code yX4_get cX4_get 5 (some .int) :: eu_TB) ({ frames := 2, cells := 0, slots := 0, locals := 43 } : Room) 0 25 (fun ad => [.ref (ad 0), .int a1, .int a2, .int a3]) σ σ' r :=
  eu_KI_of (by decide) (by decide) rfl (fun _ => Nat.le_of_ble_eq_true rfl) (fun E C => wX4_get C h)
theorem cw_X4_copy_X4_isBelow_39 {E : eu_E} (C : eu_C E ({ frames := 1, cells := 0, slots := 0, locals := 40 } : Room) 0 25 8 cX4_copy RX4 (Cond.code yX4_copy cX4_copy 8 (some .int) :: eu_TB) (some .int)) : CallB (eu_R E) (eu_s E) (eu_a E) RX4 39 yX4_isBelow cX4_isBelow 2 (some .boolean) (Cond.code yX4_isBelow cX4_isBelow 2 (some .boolean) :: eu_TB) ({ frames := 0, cells := 0, slots := 0, locals := 0 } : Room) 0 0 2 ∧ (Cond.static yX4_isBelow).before (eu_a E) (eu_s E) = true := eu_cwS C tw_75 tw_76 tw_2 tw_77 rfl rfl (by decide +kernel) (by decide)
theorem cw_X4_copy_X2_hasItems_183 {E : eu_E} (C : eu_C E ({ frames := 1, cells := 0, slots := 0, locals := 40 } : Room) 0 25 8 cX4_copy RX4 (Cond.code yX4_copy cX4_copy 8 (some .int) :: eu_TB) (some .int)) : va_CN (eu_R E) (eu_s E) (eu_a E) RX4 183 yX2_hasItems "EachUndoes" cX2_hasItems 3 (some .boolean) (Cond.code yX2_hasItems cX2_hasItems 3 (some .boolean) :: eu_TB) ({ frames := 0, cells := 0, slots := 0, locals := 0 } : Room) 0 0 2 ∧ (Cond.instanceMethod yX2_hasItems).before (eu_a E) (eu_s E) = true ∧ (Cond.selects RX2 yX2_hasItems yX2_hasItems).before (eu_a E) (eu_s E) = true := eu_cnV C (List.mem_of_getElem? (i := 64) rfl) tw_614 tw_615 tw_22 tw_616 rfl rfl (by decide +kernel) (by decide)
theorem cw_X4_copy_X4_found_84 {E : eu_E} (C : eu_C E ({ frames := 1, cells := 0, slots := 0, locals := 40 } : Room) 0 25 8 cX4_copy RX4 (Cond.code yX4_copy cX4_copy 8 (some .int) :: eu_TB) (some .int)) : CallW (eu_R E) (eu_s E) (eu_a E) RX4 RX4 84 yX4_found cX4_found 2 (some .int) (Cond.code yX4_found cX4_found 2 (some .int) :: eu_TB) ({ frames := 0, cells := 0, slots := 0, locals := 0 } : Room) 0 0 1 := eu_cwV C tw_191 tw_192 tw_193 tw_2 tw_194 rfl rfl (by decide +kernel) (by decide)
set_option maxHeartbeats 4000000 in
set_option maxRecDepth 100000 in
theorem wX4_copy_J51 {E : eu_E} (C : eu_C E ({ frames := 1, cells := 0, slots := 0, locals := 40 } : Room) 0 25 8 cX4_copy RX4 (Cond.code yX4_copy cX4_copy 8 (some .int) :: eu_TB) (some .int)) {r : Int32} {σ' : eu_T}   (σ : eu_T)  (h : fX4_copy_J51  σ = some (r, σ')) : eu_G E 0 25 8 (eu_QI E 0 25 σ' r) σ 51 [(0, .ref (eu_ad E 0))] [] := by
  unfold fX4_copy_J51 at h
  refine eg_aload_n C 0 dX4_copy_51 rfl ?_
  refine eg_iconst C (1 : Int32) dX4_copy_52 (by decide) ?_
  obtain ⟨r7, σ8, hr7, h⟩ := eu_b2_some h
  refine eg_callI C (cw_X4_copy_X4_found_84 C) (av := [.int (1 : Int32)]) 0 (by decide) (kX4_found hr7) rfl rfl rfl rfl (st := []) rfl (Nat.le_of_ble_eq_true rfl) dX4_copy_53 ?_
  obtain ⟨rfl, rfl⟩ := eu_inj2 h
  exact eg_iret C rfl dX4_copy_56
set_option maxHeartbeats 4000000 in
set_option maxRecDepth 100000 in
theorem wX4_copy_J99 {E : eu_E} (C : eu_C E ({ frames := 1, cells := 0, slots := 0, locals := 40 } : Room) 0 25 8 cX4_copy RX4 (Cond.code yX4_copy cX4_copy 8 (some .int) :: eu_TB) (some .int)) {r : Int32} {σ' : eu_T}   (σ : eu_T)  (h : fX4_copy_J99  σ = some (r, σ')) : eu_G E 0 25 8 (eu_QI E 0 25 σ' r) σ 99 [(0, .ref (eu_ad E 0))] [] := by
  unfold fX4_copy_J99 at h
  refine eg_aload_n C 0 dX4_copy_99 rfl ?_
  refine eg_iconst C (2 : Int32) dX4_copy_100 (by decide) ?_
  obtain ⟨r9, σ10, hr9, h⟩ := eu_b2_some h
  refine eg_callI C (cw_X4_copy_X4_found_84 C) (av := [.int (2 : Int32)]) 0 (by decide) (kX4_found hr9) rfl rfl rfl rfl (st := []) rfl (Nat.le_of_ble_eq_true rfl) dX4_copy_101 ?_
  obtain ⟨rfl, rfl⟩ := eu_inj2 h
  exact eg_iret C rfl dX4_copy_104
set_option maxHeartbeats 4000000 in
set_option maxRecDepth 100000 in
theorem wX4_copy {E : eu_E} (C : eu_C E ({ frames := 1, cells := 0, slots := 0, locals := 40 } : Room) 0 25 8 cX4_copy RX4 (Cond.code yX4_copy cX4_copy 8 (some .int) :: eu_TB) (some .int)) {σ : eu_T} {r : Int32} {σ' : eu_T} {a1 : Int32} {a2 : Int32} {a3 : Int32} {a4 : Int32} {a5 : Int32}  (h : fX4_copy σ a1 a2 a3 a4 a5 = some (r, σ')) : eu_G E 0 25 8 (eu_QI E 0 25 σ' r) σ 0 [(0, .ref (eu_ad E 0)), (1, .int a1), (2, .int a2), (3, .int a3), (4, .int a4), (5, .int a5)] [] := by
  unfold fX4_copy at h
  refine eg_iload_n C 1 dX4_copy_0 rfl ?_
  refine eg_iconst C (4 : Int32) dX4_copy_1 (by decide) ?_
  refine eg_scallI C (cw_X4_copy_X4_isBelow_39 C) (av := [.int a1, .int (4 : Int32)]) (kX4_isBelow rfl) rfl (st := []) rfl (Nat.le_of_ble_eq_true rfl) dX4_copy_2 ?_
  refine eg_if_eq C 16 dX4_copy_5 (by decide) (fun c => ?_) (fun c => ?_)
  · rw [if_pos c] at h
    refine eg_bipush C (-2 : Int32) dX4_copy_16 (by decide) ?_
    obtain ⟨rfl, rfl⟩ := eu_inj2 h
    exact eg_iret C rfl dX4_copy_18
  · rw [if_neg c] at h
    refine eg_iload_n C 3 dX4_copy_8 rfl ?_
    refine eg_iconst C (4 : Int32) dX4_copy_9 (by decide) ?_
    refine eg_scallI C (cw_X4_copy_X4_isBelow_39 C) (av := [.int a3, .int (4 : Int32)]) (kX4_isBelow rfl) rfl (st := []) rfl (Nat.le_of_ble_eq_true rfl) dX4_copy_10 ?_
    refine eg_if_ne C 19 dX4_copy_13 (by decide) (fun c => ?_) (fun c => ?_)
    · rw [if_neg c] at h
      refine eg_aload_n C 0 dX4_copy_19 rfl ?_
      refine gf_X4_30 C (by decide) dX4_copy_20 ?_
      refine eg_iload_n C 1 dX4_copy_23 rfl ?_
      obtain ⟨g1, h⟩ := eu_gd_some h
      refine eg_aald C 2 rfl 4 (by decide) (z := 4) (b := 11) (fun _ => rfl) (eu_in_vp g1) dX4_copy_24 ?_
      refine eg_astore C [(6, .ref (eu_ad E (11 + a1.toNatClampNeg))), (0, .ref (eu_ad E 0)), (1, .int a1), (2, .int a2), (3, .int a3), (4, .int a4), (5, .int a5)] dX4_copy_25 (by decide) rfl ?_
      refine eg_aload_n C 1 dX4_copy_27 rfl ?_
      refine gf_X4_30 C (by decide) dX4_copy_28 ?_
      refine eg_iload_n C 4 dX4_copy_31 rfl ?_
      obtain ⟨g2, h⟩ := eu_gd_some h
      refine eg_aald C 2 rfl 4 (by decide) (z := 4) (b := 11) (fun _ => rfl) (eu_in_vp g2) dX4_copy_32 ?_
      refine eg_astore C [(7, .ref (eu_ad E (11 + a3.toNatClampNeg))), (6, .ref (eu_ad E (11 + a1.toNatClampNeg))), (0, .ref (eu_ad E 0)), (1, .int a1), (2, .int a2), (3, .int a3), (4, .int a4), (5, .int a5)] dX4_copy_33 (by decide) rfl ?_
      refine eg_aload C 1 dX4_copy_35 rfl ?_
      refine gf_X4_80 C _ (eu_is g1) dX4_copy_37 ?_
      refine eg_if_ne C 51 dX4_copy_40 (by decide) (fun c => ?_) (fun c => ?_)
      · rw [if_neg c] at h
        refine eg_sub C [2] rfl ?_
        exact wX4_copy_J51 C _ h
      · rw [if_pos c] at h
        refine eg_aload C 0 dX4_copy_43 rfl ?_
        refine gf_X4_80 C _ (eu_is g2) dX4_copy_45 ?_
        refine eg_if_eq C 57 dX4_copy_48 (by decide) (fun c => ?_) (fun c => ?_)
        · rw [if_pos c] at h
          refine eg_aload C 1 dX4_copy_57 rfl ?_
          refine gf_X4_180 C _ (eu_is g1) dX4_copy_59 ?_
          refine eg_aload C 0 dX4_copy_62 rfl ?_
          refine gf_X4_180 C _ (eu_is g2) dX4_copy_64 ?_
          refine eg_icmp_eq C 76 dX4_copy_67 (by decide) (fun c => ?_) (fun c => ?_)
          · rw [if_pos c] at h
            refine eg_aload C 1 dX4_copy_76 rfl ?_
            refine eg_iload_n C 4 dX4_copy_78 rfl ?_
            refine eg_iload C 7 dX4_copy_79 rfl ?_
            refine eg_callNI C (cw_X4_copy_X2_hasItems_183 C) (av := [.int a2, .int a5]) (11 + a1.toNatClampNeg) (eu_is0 (eu_is g1)) (kX2_hasItems (eu_is g1) rfl) rfl (eu_weS (eu_is g1)) rfl rfl (st := []) rfl (Nat.le_of_ble_eq_true rfl) dX4_copy_81 ?_
            refine eg_if_eq C 99 dX4_copy_84 (by decide) (fun c => ?_) (fun c => ?_)
            · rw [if_pos c] at h
              refine eg_sub C [2] rfl ?_
              exact wX4_copy_J99 C _ h
            · rw [if_neg c] at h
              refine eg_aload C 0 dX4_copy_87 rfl ?_
              refine eg_iload C 6 dX4_copy_89 rfl ?_
              refine eg_iload C 7 dX4_copy_91 rfl ?_
              refine eg_callNI C (cw_X4_copy_X2_hasItems_183 C) (av := [.int a4, .int a5]) (11 + a3.toNatClampNeg) (eu_is0 (eu_is g2)) (kX2_hasItems (eu_is g2) rfl) rfl (eu_weS (eu_is g2)) rfl rfl (st := []) rfl (Nat.le_of_ble_eq_true rfl) dX4_copy_93 ?_
              refine eg_if_ne C 105 dX4_copy_96 (by decide) (fun c => ?_) (fun c => ?_)
              · rw [if_neg c] at h
                refine eg_aload C 1 dX4_copy_105 rfl ?_
                refine gf_X4_90 C _ (eu_is g1) dX4_copy_107 ?_
                refine eg_iload_n C 4 dX4_copy_110 rfl ?_
                refine eg_aload C 0 dX4_copy_111 rfl ?_
                refine gf_X4_90 C _ (eu_is g2) dX4_copy_113 ?_
                refine eg_iload C 6 dX4_copy_116 rfl ?_
                refine eg_iload C 7 dX4_copy_118 rfl ?_
                obtain ⟨g3, h⟩ := eu_gd_some h
                refine eg_copy C _ _ (eu_ii0 (eu_i4 (eu_is g1))) (eu_ii0 (eu_i4 (eu_is g2))) (z1 := 60) (z2 := 60) (eu_weI (eu_i4 (eu_is g1))) (eu_weI (eu_i4 (eu_is g2))) (List.mem_cons_of_mem _ tw_610) (List.mem_cons_of_mem _ tw_611) (List.mem_cons_of_mem _ tw_612) (List.mem_cons_of_mem _ tw_613) g3.1 g3.2.1 g3.2.2.1 g3.2.2.2.1 g3.2.2.2.2 (by decide) (by decide) dX4_copy_120 ?_
                obtain ⟨σ4, eσ4, h⟩ := eu_lt_x h
                rw [← eσ4]
                refine eg_iconst C (1 : Int32) dX4_copy_123 (by decide) ?_
                obtain ⟨rfl, rfl⟩ := eu_inj2 h
                exact eg_iret C rfl dX4_copy_124
              · rw [if_pos c] at h
                refine eg_sub C [2] rfl ?_
                exact wX4_copy_J99 C _ h
          · rw [if_neg c] at h
            refine eg_aload_n C 2 dX4_copy_70 rfl ?_
            refine eg_iconst C (4 : Int32) dX4_copy_71 (by decide) ?_
            obtain ⟨r5, σ6, hr5, h⟩ := eu_b2_some h
            refine eg_callI C (cw_X4_copy_X4_found_84 C) (av := [.int (4 : Int32)]) 0 (by decide) (kX4_found hr5) rfl rfl rfl rfl (st := []) rfl (Nat.le_of_ble_eq_true rfl) dX4_copy_72 ?_
            obtain ⟨rfl, rfl⟩ := eu_inj2 h
            exact eg_iret C rfl dX4_copy_75
        · rw [if_neg c] at h
          refine eg_sub C [2] rfl ?_
          exact wX4_copy_J51 C _ h
    · rw [if_pos c] at h
      refine eg_bipush C (-2 : Int32) dX4_copy_16 (by decide) ?_
      obtain ⟨rfl, rfl⟩ := eu_inj2 h
      exact eg_iret C rfl dX4_copy_18
theorem kX4_copy {l : Launch} {σ : eu_T} {r : Int32} {σ' : eu_T} {a1 : Int32} {a2 : Int32} {a3 : Int32} {a4 : Int32} {a5 : Int32}  (h : fX4_copy σ a1 a2 a3 a4 a5 = some (r, σ')) : eu_KI l yX4_copy (Cond.code yX4_copy cX4_copy 8 (some .int) :: eu_TB) ({ frames := 1, cells := 0, slots := 0, locals := 40 } : Room) 0 25 (fun ad => [.ref (ad 0), .int a1, .int a2, .int a3, .int a4, .int a5]) σ σ' r :=
  eu_KI_of (by decide) (by decide) rfl (fun _ => Nat.le_of_ble_eq_true rfl) (fun E C => wX4_copy C h)
theorem cw_X4_write_X4_isBelow_39 {E : eu_E} (C : eu_C E ({ frames := 2, cells := 0, slots := 0, locals := 50 } : Room) 0 25 6 cX4_write RX4 (Cond.code yX4_write cX4_write 6 (some .int) :: eu_TB) (some .int)) : CallB (eu_R E) (eu_s E) (eu_a E) RX4 39 yX4_isBelow cX4_isBelow 2 (some .boolean) (Cond.code yX4_isBelow cX4_isBelow 2 (some .boolean) :: eu_TB) ({ frames := 0, cells := 0, slots := 0, locals := 0 } : Room) 0 0 2 ∧ (Cond.static yX4_isBelow).before (eu_a E) (eu_s E) = true := eu_cwS C tw_75 tw_76 tw_2 tw_77 rfl rfl (by decide +kernel) (by decide)
theorem cw_X4_write_X3_lawful_97 {E : eu_E} (C : eu_C E ({ frames := 2, cells := 0, slots := 0, locals := 50 } : Room) 0 25 6 cX4_write RX4 (Cond.code yX4_write cX4_write 6 (some .int) :: eu_TB) (some .int)) : va_CN (eu_R E) (eu_s E) (eu_a E) RX4 97 yX3_lawful "EachUndoes" cX3_lawful 7 (some .int) (Cond.code yX3_lawful cX3_lawful 7 (some .int) :: eu_TB) ({ frames := 1, cells := 0, slots := 0, locals := 24 } : Room) 0 0 1 ∧ (Cond.instanceMethod yX3_lawful).before (eu_a E) (eu_s E) = true ∧ (Cond.selects RX3 yX3_lawful yX3_lawful).before (eu_a E) (eu_s E) = true := eu_cnV C (List.mem_of_getElem? (i := 30) rfl) tw_232 tw_233 tw_28 tw_234 rfl rfl (by decide +kernel) (by decide)
theorem cw_X4_write_X3_undone_112 {E : eu_E} (C : eu_C E ({ frames := 2, cells := 0, slots := 0, locals := 50 } : Room) 0 25 6 cX4_write RX4 (Cond.code yX4_write cX4_write 6 (some .int) :: eu_TB) (some .int)) : va_CN (eu_R E) (eu_s E) (eu_a E) RX4 112 yX3_undone "EachUndoes" cX3_undone 5 (some .int) (Cond.code yX3_undone cX3_undone 5 (some .int) :: eu_TB) ({ frames := 1, cells := 0, slots := 0, locals := 24 } : Room) 0 0 1 ∧ (Cond.instanceMethod yX3_undone).before (eu_a E) (eu_s E) = true ∧ (Cond.selects RX3 yX3_undone yX3_undone).before (eu_a E) (eu_s E) = true := eu_cnV C (List.mem_of_getElem? (i := 39) rfl) tw_294 tw_295 tw_28 tw_296 rfl rfl (by decide +kernel) (by decide)
theorem cw_X4_write_X4_found_84 {E : eu_E} (C : eu_C E ({ frames := 2, cells := 0, slots := 0, locals := 50 } : Room) 0 25 6 cX4_write RX4 (Cond.code yX4_write cX4_write 6 (some .int) :: eu_TB) (some .int)) : CallW (eu_R E) (eu_s E) (eu_a E) RX4 RX4 84 yX4_found cX4_found 2 (some .int) (Cond.code yX4_found cX4_found 2 (some .int) :: eu_TB) ({ frames := 0, cells := 0, slots := 0, locals := 0 } : Room) 0 0 1 := eu_cwV C tw_191 tw_192 tw_193 tw_2 tw_194 rfl rfl (by decide +kernel) (by decide)
theorem cw_X4_write_X0_rootOf_115 {E : eu_E} (C : eu_C E ({ frames := 2, cells := 0, slots := 0, locals := 50 } : Room) 0 25 6 cX4_write RX4 (Cond.code yX4_write cX4_write 6 (some .int) :: eu_TB) (some .int)) : va_CN (eu_R E) (eu_s E) (eu_a E) RX4 115 yX0_rootOf "EachUndoes" cX0_rootOf 4 (some .int) (Cond.code yX0_rootOf cX0_rootOf 4 (some .int) :: eu_TB) ({ frames := 1, cells := 0, slots := 0, locals := 23 } : Room) 0 0 2 ∧ (Cond.instanceMethod yX0_rootOf).before (eu_a E) (eu_s E) = true ∧ (Cond.selects RX0 yX0_rootOf yX0_rootOf).before (eu_a E) (eu_s E) = true := eu_cnV C (List.mem_of_getElem? (i := 40) rfl) tw_331 tw_332 tw_39 tw_333 rfl rfl (by decide +kernel) (by decide)
theorem cw_X4_write_X2_put_176 {E : eu_E} (C : eu_C E ({ frames := 2, cells := 0, slots := 0, locals := 50 } : Room) 0 25 6 cX4_write RX4 (Cond.code yX4_write cX4_write 6 (some .int) :: eu_TB) (some .int)) : va_CN (eu_R E) (eu_s E) (eu_a E) RX4 176 yX2_put "EachUndoes" cX2_put 3 none (Cond.code yX2_put cX2_put 3 none :: eu_TB) ({ frames := 1, cells := 0, slots := 0, locals := 21 } : Room) 0 0 2 ∧ (Cond.instanceMethod yX2_put).before (eu_a E) (eu_s E) = true ∧ (Cond.selects RX2 yX2_put yX2_put).before (eu_a E) (eu_s E) = true := eu_cnV C (List.mem_of_getElem? (i := 63) rfl) tw_582 tw_583 tw_22 tw_584 rfl rfl (by decide +kernel) (by decide)
set_option maxHeartbeats 4000000 in
set_option maxRecDepth 100000 in
theorem wX4_write_L66 {E : eu_E} (C : eu_C E ({ frames := 2, cells := 0, slots := 0, locals := 50 } : Room) 0 25 6 cX4_write RX4 (Cond.code yX4_write cX4_write 6 (some .int) :: eu_TB) (some .int)) {r : Int32} {σ' : eu_T}   : ∀ (n : Nat) (σ : eu_T) (v2 : Nat) (v3 : Int32) (v4 : Int32) (v5 : Int32), 11 ≤ v2 ∧ v2 < 15 → fX4_write_L66 n σ v2 v3 v4 v5 = some (r, σ') → eu_G E 0 25 6 (eu_QI E 0 25 σ' r) σ 66 [(0, .ref (eu_ad E 0)), (2, .ref (eu_ad E v2)), (3, .int v3), (4, .int v4), (5, .int v5)] [] := by
  intro n
  induction n with
  | zero =>
    intro σ v2 v3 v4 v5 hk2 h
    rw [fX4_write_L66_z] at h
    cases h
  | succ n ih =>
    intro σ v2 v3 v4 v5 hk2 h
    rw [fX4_write_L66_s] at h
    refine eg_iload C 4 dX4_write_66 rfl ?_
    refine eg_iload C 3 dX4_write_68 rfl ?_
    refine eg_icmp_ge C 95 dX4_write_70 (by decide) (fun c => ?_) (fun c => ?_)
    · rw [if_pos c] at h
      refine eg_iload C 3 dX4_write_95 rfl ?_
      obtain ⟨rfl, rfl⟩ := eu_inj2 h
      exact eg_iret C rfl dX4_write_97
    · rw [if_neg c] at h
      refine eg_aload_n C 1 dX4_write_73 rfl ?_
      refine eg_iload C 4 dX4_write_74 rfl ?_
      refine eg_aload_n C 0 dX4_write_76 rfl ?_
      refine gf_X4_27 C (by decide) dX4_write_77 ?_
      refine eg_iload C 4 dX4_write_80 rfl ?_
      refine eg_iload_n C 2 dX4_write_82 rfl ?_
      obtain ⟨r7, hr7, h⟩ := eu_bd_some h
      refine eg_callNI C (cw_X4_write_X0_rootOf_115 C) (av := [.int v5, .int v3]) 3 (by decide) (kX0_rootOf hr7) rfl rfl rfl rfl (st := [.int v5, .ref (eu_ad E v2)]) rfl (Nat.le_of_ble_eq_true rfl) dX4_write_83 ?_
      obtain ⟨r8, σ9, hr8, h⟩ := eu_b2_some h
      refine eg_callNV C (cw_X4_write_X2_put_176 C) (av := [.int v5, .int r7]) v2 (eu_is0 hk2) (kX2_put hk2 hr8) rfl (eu_weS hk2) rfl rfl (st := []) rfl (Nat.le_of_ble_eq_true rfl) dX4_write_86 ?_
      refine eg_iinc C 4 (v5 + (1 : Int32)) [(5, .int (v5 + (1 : Int32))), (0, .ref (eu_ad E 0)), (2, .ref (eu_ad E v2)), (3, .int v3), (4, .int v4)] dX4_write_89 rfl rfl (by decide) rfl ?_
      refine eg_goto C 66 dX4_write_92 (by decide) ?_
      refine eg_sub C [1, 2, 3, 4, 0] rfl ?_
      exact ih _ _ _ _ _ hk2 h
set_option maxHeartbeats 4000000 in
set_option maxRecDepth 100000 in
theorem wX4_write {E : eu_E} (C : eu_C E ({ frames := 2, cells := 0, slots := 0, locals := 50 } : Room) 0 25 6 cX4_write RX4 (Cond.code yX4_write cX4_write 6 (some .int) :: eu_TB) (some .int)) {σ : eu_T} {r : Int32} {σ' : eu_T} {a1 : Int32}  (h : fX4_write σ a1 = some (r, σ')) : eu_G E 0 25 6 (eu_QI E 0 25 σ' r) σ 0 [(0, .ref (eu_ad E 0)), (1, .int a1)] [] := by
  unfold fX4_write at h
  refine eg_iload_n C 1 dX4_write_0 rfl ?_
  refine eg_iconst C (4 : Int32) dX4_write_1 (by decide) ?_
  refine eg_scallI C (cw_X4_write_X4_isBelow_39 C) (av := [.int a1, .int (4 : Int32)]) (kX4_isBelow rfl) rfl (st := []) rfl (Nat.le_of_ble_eq_true rfl) dX4_write_2 ?_
  refine eg_if_ne C 11 dX4_write_5 (by decide) (fun c => ?_) (fun c => ?_)
  · rw [if_neg c] at h
    refine eg_aload_n C 0 dX4_write_11 rfl ?_
    refine gf_X4_30 C (by decide) dX4_write_12 ?_
    refine eg_iload_n C 1 dX4_write_15 rfl ?_
    obtain ⟨g1, h⟩ := eu_gd_some h
    refine eg_aald C 2 rfl 4 (by decide) (z := 4) (b := 11) (fun _ => rfl) (eu_in_vp g1) dX4_write_16 ?_
    refine eg_astore_n C [(2, .ref (eu_ad E (11 + a1.toNatClampNeg))), (0, .ref (eu_ad E 0)), (1, .int a1)] dX4_write_17 rfl (by decide) rfl ?_
    refine eg_aload_n C 0 dX4_write_18 rfl ?_
    refine gf_X4_80 C _ (eu_is g1) dX4_write_19 ?_
    refine eg_if_eq C 31 dX4_write_22 (by decide) (fun c => ?_) (fun c => ?_)
    · rw [if_pos c] at h
      refine eg_aload_n C 1 dX4_write_31 rfl ?_
      refine gf_X4_20 C (by decide) dX4_write_32 ?_
      refine eg_aload_n C 1 dX4_write_35 rfl ?_
      refine gf_X4_20 C (by decide) dX4_write_36 ?_
      refine eg_iconst C (-1 : Int32) dX4_write_39 (by decide) ?_
      obtain ⟨r2, hr2, h⟩ := eu_bd_some h
      refine eg_callNI C (cw_X4_write_X3_lawful_97 C) (av := [.int (-1 : Int32)]) 2 (by decide) (kX3_lawful hr2) rfl rfl rfl rfl (st := [.ref (eu_ad E 2)]) rfl (Nat.le_of_ble_eq_true rfl) dX4_write_40 ?_
      obtain ⟨r3, hr3, h⟩ := eu_bd_some h
      refine eg_callNI C (cw_X4_write_X3_undone_112 C) (av := [.int r2]) 2 (by decide) (kX3_undone hr3) rfl rfl rfl rfl (st := []) rfl (Nat.le_of_ble_eq_true rfl) dX4_write_43 ?_
      refine eg_istore_n C [(3, .int r3), (2, .ref (eu_ad E (11 + a1.toNatClampNeg))), (0, .ref (eu_ad E 0)), (1, .int a1)] dX4_write_46 rfl (by decide) rfl ?_
      refine eg_aload_n C 1 dX4_write_47 rfl ?_
      refine gf_X4_87 C _ (eu_is g1) dX4_write_48 ?_
      refine eg_aload_n C 2 dX4_write_51 rfl ?_
      refine gf_X4_27 C (by decide) dX4_write_52 ?_
      refine gf_X4_59 C (by decide) dX4_write_55 ?_
      refine eg_mmin C (st := []) (List.mem_cons_of_mem _ tw_625) (List.mem_cons_of_mem _ tw_520) (List.mem_cons_of_mem _ tw_521) (List.mem_cons_of_mem _ tw_522) (by decide) (Nat.le_of_ble_eq_true rfl) dX4_write_58 ?_
      obtain ⟨x4, ex4, h⟩ := eu_lt_x h
      rw [← ex4]
      refine eg_istore C [(4, .int x4), (3, .int r3), (2, .ref (eu_ad E (11 + a1.toNatClampNeg))), (0, .ref (eu_ad E 0)), (1, .int a1)] dX4_write_61 (by decide) rfl ?_
      refine eg_iconst C (0 : Int32) dX4_write_63 (by decide) ?_
      refine eg_istore C [(5, .int (0 : Int32)), (4, .int x4), (3, .int r3), (2, .ref (eu_ad E (11 + a1.toNatClampNeg))), (0, .ref (eu_ad E 0)), (1, .int a1)] dX4_write_64 (by decide) rfl ?_
      refine eg_sub C [4, 3, 2, 1, 0] rfl ?_
      exact wX4_write_L66 C 200 _ _ _ _ _ (eu_is g1) h
    · rw [if_neg c] at h
      refine eg_aload_n C 1 dX4_write_25 rfl ?_
      refine eg_iconst C (1 : Int32) dX4_write_26 (by decide) ?_
      obtain ⟨r5, σ6, hr5, h⟩ := eu_b2_some h
      refine eg_callI C (cw_X4_write_X4_found_84 C) (av := [.int (1 : Int32)]) 0 (by decide) (kX4_found hr5) rfl rfl rfl rfl (st := []) rfl (Nat.le_of_ble_eq_true rfl) dX4_write_27 ?_
      obtain ⟨rfl, rfl⟩ := eu_inj2 h
      exact eg_iret C rfl dX4_write_30
  · rw [if_pos c] at h
    refine eg_bipush C (-2 : Int32) dX4_write_8 (by decide) ?_
    obtain ⟨rfl, rfl⟩ := eu_inj2 h
    exact eg_iret C rfl dX4_write_10
theorem kX4_write {l : Launch} {σ : eu_T} {r : Int32} {σ' : eu_T} {a1 : Int32}  (h : fX4_write σ a1 = some (r, σ')) : eu_KI l yX4_write (Cond.code yX4_write cX4_write 6 (some .int) :: eu_TB) ({ frames := 2, cells := 0, slots := 0, locals := 50 } : Room) 0 25 (fun ad => [.ref (ad 0), .int a1]) σ σ' r :=
  eu_KI_of (by decide) (by decide) rfl (fun _ => Nat.le_of_ble_eq_true rfl) (fun E C => wX4_write C h)
theorem cw_X4_count_X3_lawful_97 {E : eu_E} (C : eu_C E ({ frames := 3, cells := 0, slots := 0, locals := 69 } : Room) 0 25 3 cX4_count RX4 (Cond.code yX4_count cX4_count 3 (some .int) :: eu_TB) (some .int)) : va_CN (eu_R E) (eu_s E) (eu_a E) RX4 97 yX3_lawful "EachUndoes" cX3_lawful 7 (some .int) (Cond.code yX3_lawful cX3_lawful 7 (some .int) :: eu_TB) ({ frames := 1, cells := 0, slots := 0, locals := 24 } : Room) 0 0 1 ∧ (Cond.instanceMethod yX3_lawful).before (eu_a E) (eu_s E) = true ∧ (Cond.selects RX3 yX3_lawful yX3_lawful).before (eu_a E) (eu_s E) = true := eu_cnV C (List.mem_of_getElem? (i := 30) rfl) tw_232 tw_233 tw_28 tw_234 rfl rfl (by decide +kernel) (by decide)
theorem cw_X4_count_J6_bitCount_0f7a4_197 {E : eu_E} (C : eu_C E ({ frames := 3, cells := 0, slots := 0, locals := 69 } : Room) 0 25 3 cX4_count RX4 (Cond.code yX4_count cX4_count 3 (some .int) :: eu_TB) (some .int)) : CallB (eu_R E) (eu_s E) (eu_a E) RX4 197 yJ6_bitCount_0f7a4 cJ6_bitCount_0f7a4 1 (some .int) (Cond.code yJ6_bitCount_0f7a4 cJ6_bitCount_0f7a4 1 (some .int) :: eu_TB) ({ frames := 0, cells := 0, slots := 0, locals := 0 } : Room) 0 0 1 ∧ (Cond.static yJ6_bitCount_0f7a4).before (eu_a E) (eu_s E) = true := eu_cwS C tw_634 tw_97 tw_98 tw_99 rfl rfl (by decide +kernel) (by decide)
theorem cw_X4_count_X3_holding_100 {E : eu_E} (C : eu_C E ({ frames := 3, cells := 0, slots := 0, locals := 69 } : Room) 0 25 3 cX4_count RX4 (Cond.code yX4_count cX4_count 3 (some .int) :: eu_TB) (some .int)) : va_CN (eu_R E) (eu_s E) (eu_a E) RX4 100 yX3_holding "EachUndoes" cX3_holding 5 (some .int) (Cond.code yX3_holding cX3_holding 5 (some .int) :: eu_TB) ({ frames := 0, cells := 0, slots := 0, locals := 0 } : Room) 0 0 1 ∧ (Cond.instanceMethod yX3_holding).before (eu_a E) (eu_s E) = true ∧ (Cond.selects RX3 yX3_holding yX3_holding).before (eu_a E) (eu_s E) = true := eu_cnV C (List.mem_of_getElem? (i := 32) rfl) tw_265 tw_266 tw_28 tw_267 rfl rfl (by decide +kernel) (by decide)
theorem cw_X4_count_X3_standing_118 {E : eu_E} (C : eu_C E ({ frames := 3, cells := 0, slots := 0, locals := 69 } : Room) 0 25 3 cX4_count RX4 (Cond.code yX4_count cX4_count 3 (some .int) :: eu_TB) (some .int)) : va_CN (eu_R E) (eu_s E) (eu_a E) RX4 118 yX3_standing "EachUndoes" cX3_standing 2 (some .int) (Cond.code yX3_standing cX3_standing 2 (some .int) :: eu_TB) ({ frames := 2, cells := 0, slots := 0, locals := 48 } : Room) 0 0 1 ∧ (Cond.instanceMethod yX3_standing).before (eu_a E) (eu_s E) = true ∧ (Cond.selects RX3 yX3_standing yX3_standing).before (eu_a E) (eu_s E) = true := eu_cnV C (List.mem_of_getElem? (i := 35) rfl) tw_290 tw_291 tw_28 tw_292 rfl rfl (by decide +kernel) (by decide)
set_option maxHeartbeats 4000000 in
set_option maxRecDepth 100000 in
theorem wX4_count {E : eu_E} (C : eu_C E ({ frames := 3, cells := 0, slots := 0, locals := 69 } : Room) 0 25 3 cX4_count RX4 (Cond.code yX4_count cX4_count 3 (some .int) :: eu_TB) (some .int)) {σ : eu_T} {r : Int32} {a1 : Int32}  (h : fX4_count σ a1 = some r) : eu_G E 0 25 3 (eu_QI E 0 25 σ r) σ 0 [(0, .ref (eu_ad E 0)), (1, .int a1)] [] := by
  unfold fX4_count at h
  refine eg_aload_n C 0 dX4_count_0 rfl ?_
  refine gf_X4_20 C (by decide) dX4_count_1 ?_
  refine eg_iconst C (-1 : Int32) dX4_count_4 (by decide) ?_
  obtain ⟨r1, hr1, h⟩ := eu_bd_some h
  refine eg_callNI C (cw_X4_count_X3_lawful_97 C) (av := [.int (-1 : Int32)]) 2 (by decide) (kX3_lawful hr1) rfl rfl rfl rfl (st := []) rfl (Nat.le_of_ble_eq_true rfl) dX4_count_5 ?_
  refine eg_istore_n C [(2, .int r1), (0, .ref (eu_ad E 0)), (1, .int a1)] dX4_count_8 rfl (by decide) rfl ?_
  refine eg_iload_n C 2 dX4_count_9 rfl ?_
  by_cases c0 : a1 = 0
  · rw [if_pos c0] at h
    refine eg_tin C 0 60 dX4_count_10 c0 (by decide) (by decide) rfl (by decide) ?_
    refine eg_aload_n C 1 dX4_count_60 rfl ?_
    refine gf_X4_27 C (by decide) dX4_count_61 ?_
    refine gf_X4_59 C (by decide) dX4_count_64 ?_
    obtain rfl := Option.some.inj h
    exact eg_iret C rfl dX4_count_67
  · rw [if_neg c0] at h
    by_cases c1 : a1 = 1
    · rw [if_pos c1] at h
      refine eg_tin C 1 68 dX4_count_10 c1 (by decide) (by decide) rfl (by decide) ?_
      refine eg_aload_n C 1 dX4_count_68 rfl ?_
      refine gf_X4_27 C (by decide) dX4_count_69 ?_
      refine gf_X4_43 C (by decide) dX4_count_72 ?_
      obtain rfl := Option.some.inj h
      exact eg_iret C rfl dX4_count_75
    · rw [if_neg c1] at h
      by_cases c2 : a1 = 2
      · rw [if_pos c2] at h
        refine eg_tin C 2 76 dX4_count_10 c2 (by decide) (by decide) rfl (by decide) ?_
        refine eg_aload_n C 1 dX4_count_76 rfl ?_
        refine gf_X4_20 C (by decide) dX4_count_77 ?_
        refine gf_X4_79 C (by decide) dX4_count_80 ?_
        obtain rfl := Option.some.inj h
        exact eg_iret C rfl dX4_count_83
      · rw [if_neg c2] at h
        by_cases c3 : a1 = 3
        · rw [if_pos c3] at h
          refine eg_tin C 3 84 dX4_count_10 c3 (by decide) (by decide) rfl (by decide) ?_
          refine eg_aload_n C 1 dX4_count_84 rfl ?_
          refine gf_X4_20 C (by decide) dX4_count_85 ?_
          refine gf_X4_79 C (by decide) dX4_count_88 ?_
          refine eg_iload_n C 0 dX4_count_91 rfl ?_
          refine eg_scallI C (cw_X4_count_J6_bitCount_0f7a4_197 C) (av := [.int r1]) (kJ6_bitCount_0f7a4 rfl) rfl (st := [.int (σ 2 3)]) rfl (Nat.le_of_ble_eq_true rfl) dX4_count_92 ?_
          refine eg_isub C dX4_count_95 ?_
          obtain rfl := Option.some.inj h
          exact eg_iret C rfl dX4_count_96
        · rw [if_neg c3] at h
          by_cases c4 : a1 = 4
          · rw [if_pos c4] at h
            refine eg_tin C 4 97 dX4_count_10 c4 (by decide) (by decide) rfl (by decide) ?_
            refine eg_aload_n C 1 dX4_count_97 rfl ?_
            refine gf_X4_20 C (by decide) dX4_count_98 ?_
            refine eg_iload_n C 0 dX4_count_101 rfl ?_
            obtain ⟨r2, hr2, h⟩ := eu_bd_some h
            refine eg_callNI C (cw_X4_count_X3_holding_100 C) (av := [.int r1]) 2 (by decide) (kX3_holding hr2) rfl rfl rfl rfl (st := []) rfl (Nat.le_of_ble_eq_true rfl) dX4_count_102 ?_
            refine eg_scallI C (cw_X4_count_J6_bitCount_0f7a4_197 C) (av := [.int r2]) (kJ6_bitCount_0f7a4 rfl) rfl (st := []) rfl (Nat.le_of_ble_eq_true rfl) dX4_count_105 ?_
            obtain rfl := Option.some.inj h
            exact eg_iret C rfl dX4_count_108
          · rw [if_neg c4] at h
            by_cases c5 : a1 = 5
            · rw [if_pos c5] at h
              refine eg_tin C 5 109 dX4_count_10 c5 (by decide) (by decide) rfl (by decide) ?_
              refine eg_aload_n C 1 dX4_count_109 rfl ?_
              refine gf_X4_20 C (by decide) dX4_count_110 ?_
              refine eg_iload_n C 0 dX4_count_113 rfl ?_
              obtain ⟨r3, hr3, h⟩ := eu_bd_some h
              refine eg_callNI C (cw_X4_count_X3_standing_118 C) (av := [.int r1]) 2 (by decide) (kX3_standing hr3) rfl rfl rfl rfl (st := []) rfl (Nat.le_of_ble_eq_true rfl) dX4_count_114 ?_
              refine eg_scallI C (cw_X4_count_J6_bitCount_0f7a4_197 C) (av := [.int r3]) (kJ6_bitCount_0f7a4 rfl) rfl (st := []) rfl (Nat.le_of_ble_eq_true rfl) dX4_count_117 ?_
              obtain rfl := Option.some.inj h
              exact eg_iret C rfl dX4_count_120
            · rw [if_neg c5] at h
              by_cases c6 : a1 = 6
              · rw [if_pos c6] at h
                refine eg_tin C 6 121 dX4_count_10 c6 (by decide) (by decide) rfl (by decide) ?_
                refine eg_aload_n C 1 dX4_count_121 rfl ?_
                refine gf_X4_150 C (by decide) dX4_count_122 ?_
                obtain rfl := Option.some.inj h
                exact eg_iret C rfl dX4_count_125
              · rw [if_neg c6] at h
                by_cases c7 : a1 = 7
                · rw [if_pos c7] at h
                  refine eg_tin C 7 126 dX4_count_10 c7 (by decide) (by decide) rfl (by decide) ?_
                  refine eg_aload_n C 1 dX4_count_126 rfl ?_
                  refine gf_X4_27 C (by decide) dX4_count_127 ?_
                  refine gf_X4_69 C (by decide) dX4_count_130 ?_
                  refine eg_scallI C (cw_X4_count_J6_bitCount_0f7a4_197 C) (av := [.int (σ 3 5)]) (kJ6_bitCount_0f7a4 rfl) rfl (st := []) rfl (Nat.le_of_ble_eq_true rfl) dX4_count_133 ?_
                  obtain rfl := Option.some.inj h
                  exact eg_iret C rfl dX4_count_136
                · rw [if_neg c7] at h
                  by_cases c8 : a1 = 8
                  · rw [if_pos c8] at h
                    refine eg_tin C 8 137 dX4_count_10 c8 (by decide) (by decide) rfl (by decide) ?_
                    refine eg_aload_n C 1 dX4_count_137 rfl ?_
                    refine gf_X4_34 C (by decide) dX4_count_138 ?_
                    obtain rfl := Option.some.inj h
                    exact eg_iret C rfl dX4_count_141
                  · rw [if_neg c8] at h
                    have n0 := eu_nsw c0 (a := 0) rfl
                    have n1 := eu_nsw c1 (a := 1) rfl
                    have n2 := eu_nsw c2 (a := 2) rfl
                    have n3 := eu_nsw c3 (a := 3) rfl
                    have n4 := eu_nsw c4 (a := 4) rfl
                    have n5 := eu_nsw c5 (a := 5) rfl
                    have n6 := eu_nsw c6 (a := 6) rfl
                    have n7 := eu_nsw c7 (a := 7) rfl
                    have n8 := eu_nsw c8 (a := 8) rfl
                    refine eg_tout C 142 dX4_count_10 (by omega) (by decide) ?_
                    refine eg_bipush C (-2 : Int32) dX4_count_142 (by decide) ?_
                    obtain rfl := Option.some.inj h
                    exact eg_iret C rfl dX4_count_144
theorem kX4_count {l : Launch} {σ : eu_T} {r : Int32} {a1 : Int32}  (h : fX4_count σ a1 = some r) : eu_KI l yX4_count (Cond.code yX4_count cX4_count 3 (some .int) :: eu_TB) ({ frames := 3, cells := 0, slots := 0, locals := 69 } : Room) 0 25 (fun ad => [.ref (ad 0), .int a1]) σ σ r :=
  eu_KI_of (by decide) (by decide) rfl (fun _ => Nat.le_of_ble_eq_true rfl) (fun E C => wX4_count C h)
set_option maxHeartbeats 4000000 in
set_option maxRecDepth 100000 in
theorem wX4_mixed {E : eu_E} (C : eu_C E ({ frames := 0, cells := 0, slots := 0, locals := 0 } : Room) 0 25 4 cX4_mixed RX4 (Cond.code yX4_mixed cX4_mixed 4 (some .long) :: eu_TB) (some .long)) {σ : eu_T} {r : Int64} {a0 : Int64} {a2 : Int64}  (h : fX4_mixed a0 a2 = r) : eu_G E 0 25 4 (eu_QL E 0 25 σ r) σ 0 [(0, .long a0), (2, .long a2)] [] := by
  unfold fX4_mixed at h
  refine eg_ldc2 C (31 : Int64) dX4_mixed_0 (List.mem_cons_of_mem _ tw_648) ?_
  refine eg_lload_n C 0 dX4_mixed_3 rfl ?_
  refine eg_lmul C dX4_mixed_4 ?_
  refine eg_lload_n C 1 dX4_mixed_5 rfl ?_
  refine eg_ladd C dX4_mixed_6 ?_
  subst h
  exact eg_lret C rfl dX4_mixed_7
theorem kX4_mixed {l : Launch} {σ : eu_T} {r : Int64} {a0 : Int64} {a2 : Int64}  (h : fX4_mixed a0 a2 = r) : eu_KL l yX4_mixed (Cond.code yX4_mixed cX4_mixed 4 (some .long) :: eu_TB) ({ frames := 0, cells := 0, slots := 0, locals := 0 } : Room) 0 25 (fun _ => [.long a0, .long a2]) σ σ r :=
  eu_KL_of (by decide) (by decide) rfl (fun _ => Nat.le_of_ble_eq_true rfl) (fun E C => wX4_mixed C h)
theorem cw_X4_withDeeds_X4_root_242 {E : eu_E} (C : eu_C E ({ frames := 3, cells := 0, slots := 0, locals := 71 } : Room) 0 25 7 cX4_withDeeds RX4 (Cond.code yX4_withDeeds cX4_withDeeds 7 (some .long) :: eu_TB) (some .long)) : CallW (eu_R E) (eu_s E) (eu_a E) RX4 RX4 242 yX4_root cX4_root 2 (some .int) (Cond.code yX4_root cX4_root 2 (some .int) :: eu_TB) ({ frames := 2, cells := 0, slots := 0, locals := 50 } : Room) 0 0 1 := eu_cwV C tw_656 tw_328 tw_329 tw_2 tw_330 rfl rfl (by decide +kernel) (by decide)
theorem cw_X4_withDeeds_X4_mixed_207 {E : eu_E} (C : eu_C E ({ frames := 3, cells := 0, slots := 0, locals := 71 } : Room) 0 25 7 cX4_withDeeds RX4 (Cond.code yX4_withDeeds cX4_withDeeds 7 (some .long) :: eu_TB) (some .long)) : CallB (eu_R E) (eu_s E) (eu_a E) RX4 207 yX4_mixed cX4_mixed 4 (some .long) (Cond.code yX4_mixed cX4_mixed 4 (some .long) :: eu_TB) ({ frames := 0, cells := 0, slots := 0, locals := 0 } : Room) 0 0 2 ∧ (Cond.static yX4_mixed).before (eu_a E) (eu_s E) = true := eu_cwS C tw_645 tw_646 tw_2 tw_647 rfl rfl (by decide +kernel) (by decide)
theorem cw_X4_withDeeds_X4_deed_239 {E : eu_E} (C : eu_C E ({ frames := 3, cells := 0, slots := 0, locals := 71 } : Room) 0 25 7 cX4_withDeeds RX4 (Cond.code yX4_withDeeds cX4_withDeeds 7 (some .long) :: eu_TB) (some .long)) : CallW (eu_R E) (eu_s E) (eu_a E) RX4 RX4 239 yX4_deed cX4_deed 3 (some .int) (Cond.code yX4_deed cX4_deed 3 (some .int) :: eu_TB) ({ frames := 1, cells := 0, slots := 0, locals := 21 } : Room) 0 0 2 := eu_cwV C tw_655 tw_154 tw_155 tw_2 tw_156 rfl rfl (by decide +kernel) (by decide)
set_option maxHeartbeats 4000000 in
set_option maxRecDepth 100000 in
theorem wX4_withDeeds_L20 {E : eu_E} (C : eu_C E ({ frames := 3, cells := 0, slots := 0, locals := 71 } : Room) 0 25 7 cX4_withDeeds RX4 (Cond.code yX4_withDeeds cX4_withDeeds 7 (some .long) :: eu_TB) (some .long)) {σ : eu_T} {r : Int64} {k5 : Int64 → Int32 → Option Int64} (hk_5 : ∀ (v3 : Int64) (v5 : Int32), k5 v3 v5 = some r → eu_G E 0 25 7 (eu_QL E 0 25 σ r) σ 5 [(0, .ref (eu_ad E 0)), (3, .long v3), (5, .int v5)] []) : ∀ (n : Nat) (v3 : Int64) (v5 : Int32) (v6 : Int32), fX4_withDeeds_L20 σ k5 n v3 v5 v6 = some r → eu_G E 0 25 7 (eu_QL E 0 25 σ r) σ 20 [(0, .ref (eu_ad E 0)), (3, .long v3), (5, .int v5), (6, .int v6)] [] := by
  intro n
  induction n with
  | zero =>
    intro v3 v5 v6  h
    rw [fX4_withDeeds_L20_z] at h
    cases h
  | succ n ih =>
    intro v3 v5 v6  h
    rw [fX4_withDeeds_L20_s] at h
    refine eg_iload C 3 dX4_withDeeds_20 rfl ?_
    refine eg_iconst C (3 : Int32) dX4_withDeeds_22 (by decide) ?_
    refine eg_icmp_ge C 46 dX4_withDeeds_23 (by decide) (fun c => ?_) (fun c => ?_)
    · rw [if_pos c] at h
      refine eg_lload_n C 1 dX4_withDeeds_46 rfl ?_
      refine eg_aload_n C 0 dX4_withDeeds_47 rfl ?_
      refine eg_iload C 2 dX4_withDeeds_48 rfl ?_
      obtain ⟨r1, hr1, h⟩ := eu_bd_some h
      refine eg_callI C (cw_X4_withDeeds_X4_root_242 C) (av := [.int v5]) 0 (by decide) (kX4_root hr1) rfl rfl rfl rfl (st := [.long v3]) rfl (Nat.le_of_ble_eq_true rfl) dX4_withDeeds_50 ?_
      refine eg_i2l C dX4_withDeeds_53 ?_
      refine eg_scallL C (cw_X4_withDeeds_X4_mixed_207 C) (av := [.long v3, .long r1.toInt64]) (kX4_mixed rfl) rfl (st := []) rfl (Nat.le_of_ble_eq_true rfl) dX4_withDeeds_54 ?_
      refine eg_lstore_n C [(3, .long (fX4_mixed v3 r1.toInt64)), (0, .ref (eu_ad E 0)), (5, .int v5), (6, .int v6)] dX4_withDeeds_57 rfl (by decide) rfl ?_
      refine eg_iinc C 2 (v5 + (1 : Int32)) [(5, .int (v5 + (1 : Int32))), (3, .long (fX4_mixed v3 r1.toInt64)), (0, .ref (eu_ad E 0)), (6, .int v6)] dX4_withDeeds_58 rfl rfl (by decide) rfl ?_
      refine eg_goto C 5 dX4_withDeeds_61 (by decide) ?_
      refine eg_sub C [2, 1, 0] rfl ?_
      exact hk_5 _ _ h
    · rw [if_neg c] at h
      refine eg_lload_n C 1 dX4_withDeeds_26 rfl ?_
      refine eg_aload_n C 0 dX4_withDeeds_27 rfl ?_
      refine eg_iload C 2 dX4_withDeeds_28 rfl ?_
      refine eg_iload C 3 dX4_withDeeds_30 rfl ?_
      obtain ⟨r2, hr2, h⟩ := eu_bd_some h
      refine eg_callI C (cw_X4_withDeeds_X4_deed_239 C) (av := [.int v5, .int v6]) 0 (by decide) (kX4_deed hr2) rfl rfl rfl rfl (st := [.long v3]) rfl (Nat.le_of_ble_eq_true rfl) dX4_withDeeds_32 ?_
      refine eg_i2l C dX4_withDeeds_35 ?_
      refine eg_scallL C (cw_X4_withDeeds_X4_mixed_207 C) (av := [.long v3, .long r2.toInt64]) (kX4_mixed rfl) rfl (st := []) rfl (Nat.le_of_ble_eq_true rfl) dX4_withDeeds_36 ?_
      refine eg_lstore_n C [(3, .long (fX4_mixed v3 r2.toInt64)), (0, .ref (eu_ad E 0)), (5, .int v5), (6, .int v6)] dX4_withDeeds_39 rfl (by decide) rfl ?_
      refine eg_iinc C 3 (v6 + (1 : Int32)) [(6, .int (v6 + (1 : Int32))), (3, .long (fX4_mixed v3 r2.toInt64)), (0, .ref (eu_ad E 0)), (5, .int v5)] dX4_withDeeds_40 rfl rfl (by decide) rfl ?_
      refine eg_goto C 20 dX4_withDeeds_43 (by decide) ?_
      refine eg_sub C [2, 1, 3, 0] rfl ?_
      exact ih _ _ _ h
set_option maxHeartbeats 4000000 in
set_option maxRecDepth 100000 in
theorem wX4_withDeeds_L5 {E : eu_E} (C : eu_C E ({ frames := 3, cells := 0, slots := 0, locals := 71 } : Room) 0 25 7 cX4_withDeeds RX4 (Cond.code yX4_withDeeds cX4_withDeeds 7 (some .long) :: eu_TB) (some .long)) {σ : eu_T} {r : Int64}   : ∀ (n : Nat) (v3 : Int64) (v5 : Int32), fX4_withDeeds_L5 σ n v3 v5 = some r → eu_G E 0 25 7 (eu_QL E 0 25 σ r) σ 5 [(0, .ref (eu_ad E 0)), (3, .long v3), (5, .int v5)] [] := by
  intro n
  induction n with
  | zero =>
    intro v3 v5  h
    rw [fX4_withDeeds_L5_z] at h
    cases h
  | succ n ih =>
    intro v3 v5  h
    rw [fX4_withDeeds_L5_s] at h
    refine eg_iload C 2 dX4_withDeeds_5 rfl ?_
    refine eg_aload_n C 0 dX4_withDeeds_7 rfl ?_
    refine gf_X4_27 C (by decide) dX4_withDeeds_8 ?_
    refine gf_X4_59 C (by decide) dX4_withDeeds_11 ?_
    refine eg_icmp_ge C 64 dX4_withDeeds_14 (by decide) (fun c => ?_) (fun c => ?_)
    · rw [if_pos c] at h
      refine eg_lload_n C 1 dX4_withDeeds_64 rfl ?_
      obtain rfl := Option.some.inj h
      exact eg_lret C rfl dX4_withDeeds_65
    · rw [if_neg c] at h
      refine eg_iconst C (0 : Int32) dX4_withDeeds_17 (by decide) ?_
      refine eg_istore C [(6, .int (0 : Int32)), (0, .ref (eu_ad E 0)), (3, .long v3), (5, .int v5)] dX4_withDeeds_18 (by decide) rfl ?_
      refine eg_sub C [1, 2, 3, 0] rfl ?_
      exact wX4_withDeeds_L20 C ih 200 _ _ _ h
set_option maxHeartbeats 4000000 in
set_option maxRecDepth 100000 in
theorem wX4_withDeeds {E : eu_E} (C : eu_C E ({ frames := 3, cells := 0, slots := 0, locals := 71 } : Room) 0 25 7 cX4_withDeeds RX4 (Cond.code yX4_withDeeds cX4_withDeeds 7 (some .long) :: eu_TB) (some .long)) {σ : eu_T} {r : Int64} {a1 : Int64}  (h : fX4_withDeeds σ a1 = some r) : eu_G E 0 25 7 (eu_QL E 0 25 σ r) σ 0 [(0, .ref (eu_ad E 0)), (1, .long a1)] [] := by
  unfold fX4_withDeeds at h
  refine eg_lload_n C 1 dX4_withDeeds_0 rfl ?_
  refine eg_lstore_n C [(3, .long a1), (0, .ref (eu_ad E 0)), (1, .long a1)] dX4_withDeeds_1 rfl (by decide) rfl ?_
  refine eg_iconst C (0 : Int32) dX4_withDeeds_2 (by decide) ?_
  refine eg_istore C [(5, .int (0 : Int32)), (3, .long a1), (0, .ref (eu_ad E 0)), (1, .long a1)] dX4_withDeeds_3 (by decide) rfl ?_
  refine eg_sub C [2, 1, 0] rfl ?_
  exact wX4_withDeeds_L5 C 200 _ _ h
theorem kX4_withDeeds {l : Launch} {σ : eu_T} {r : Int64} {a1 : Int64}  (h : fX4_withDeeds σ a1 = some r) : eu_KL l yX4_withDeeds (Cond.code yX4_withDeeds cX4_withDeeds 7 (some .long) :: eu_TB) ({ frames := 3, cells := 0, slots := 0, locals := 71 } : Room) 0 25 (fun ad => [.ref (ad 0), .long a1]) σ σ r :=
  eu_KL_of (by decide) (by decide) rfl (fun _ => Nat.le_of_ble_eq_true rfl) (fun E C => wX4_withDeeds C h)
