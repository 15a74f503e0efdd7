theorem cw_X5_struck_X5_holding_147 {E : eu_E} (C : eu_C E ({ frames := 2, cells := 0, slots := 0, locals := 45 } : Room) 25 12 5 cX5_struck RX5 (Cond.code yX5_struck cX5_struck 5 (some .int) :: eu_TB) (some .int)) : CallW (eu_R E) (eu_s E) (eu_a E) RX5 RX5 147 yX5_holding cX5_holding 5 (some .int) (Cond.code yX5_holding cX5_holding 5 (some .int) :: eu_TB) ({ frames := 1, cells := 0, slots := 0, locals := 21 } : Room) 0 0 1 := eu_cwV C tw_272 tw_273 tw_274 tw_5 tw_275 rfl rfl (by decide +kernel) (by decide)
theorem cw_X5_struck_X5_isIn_127 {E : eu_E} (C : eu_C E ({ frames := 2, cells := 0, slots := 0, locals := 45 } : Room) 25 12 5 cX5_struck RX5 (Cond.code yX5_struck cX5_struck 5 (some .int) :: eu_TB) (some .int)) : CallB (eu_R E) (eu_s E) (eu_a E) RX5 127 yX5_isIn cX5_isIn 2 (some .boolean) (Cond.code yX5_isIn cX5_isIn 2 (some .boolean) :: eu_TB) ({ frames := 0, cells := 0, slots := 0, locals := 0 } : Room) 0 0 2 ∧ (Cond.static yX5_isIn).before (eu_a E) (eu_s E) = true := eu_cwS C tw_258 tw_259 tw_5 tw_260 rfl rfl (by decide +kernel) (by decide)
set_option maxHeartbeats 4000000 in
set_option maxRecDepth 100000 in
theorem wX5_struck_J59 {E : eu_E} (C : eu_C E ({ frames := 2, cells := 0, slots := 0, locals := 45 } : Room) 25 12 5 cX5_struck RX5 (Cond.code yX5_struck cX5_struck 5 (some .int) :: eu_TB) (some .int)) {σ : eu_T} {r : Int32} {k11 : Int32 → Int32 → Int32 → Int32 → Option Int32} (hk_11 : ∀ (v1 : Int32) (v2 : Int32) (v3 : Int32) (v4 : Int32), k11 v1 v2 v3 v4 = some r → eu_G E 25 12 5 (eu_QI E 25 12 σ r) σ 11 [(0, .ref (eu_ad E 25)), (1, .int v1), (2, .int v2), (3, .int v3), (4, .int v4)] []) (v1 : Int32) (v2 : Int32) (v4 : Int32) (s0 : Int32)  (h : fX5_struck_J59 σ k11 v1 v2 v4 s0 = some r) : eu_G E 25 12 5 (eu_QI E 25 12 σ r) σ 59 [(0, .ref (eu_ad E 25)), (1, .int v1), (2, .int v2), (4, .int v4)] [.int s0] := by
  unfold fX5_struck_J59 at h
  refine eg_iconst C (0 : Int32) dX5_struck_59 (by decide) ?_
  refine eg_ior C dX5_struck_60 ?_
  refine eg_istore_n C [(3, .int (s0 ||| (0 : Int32))), (0, .ref (eu_ad E 25)), (1, .int v1), (2, .int v2), (4, .int v4)] dX5_struck_61 rfl (by decide) rfl ?_
  refine eg_iinc C 4 (v4 + (1 : Int32)) [(4, .int (v4 + (1 : Int32))), (3, .int (s0 ||| (0 : Int32))), (0, .ref (eu_ad E 25)), (1, .int v1), (2, .int v2)] dX5_struck_62 rfl rfl (by decide) rfl ?_
  refine eg_goto C 11 dX5_struck_65 (by decide) ?_
  refine eg_sub C [2, 3, 4, 1, 0] rfl ?_
  exact hk_11 _ _ _ _ h
set_option maxHeartbeats 4000000 in
set_option maxRecDepth 100000 in
theorem wX5_struck_L11 {E : eu_E} (C : eu_C E ({ frames := 2, cells := 0, slots := 0, locals := 45 } : Room) 25 12 5 cX5_struck RX5 (Cond.code yX5_struck cX5_struck 5 (some .int) :: eu_TB) (some .int)) {σ : eu_T} {r : Int32}   : ∀ (n : Nat) (v1 : Int32) (v2 : Int32) (v3 : Int32) (v4 : Int32), fX5_struck_L11 σ n v1 v2 v3 v4 = some r → eu_G E 25 12 5 (eu_QI E 25 12 σ r) σ 11 [(0, .ref (eu_ad E 25)), (1, .int v1), (2, .int v2), (3, .int v3), (4, .int v4)] [] := by
  intro n
  induction n with
  | zero =>
    intro v1 v2 v3 v4  h
    rw [fX5_struck_L11_z] at h
    cases h
  | succ n ih =>
    intro v1 v2 v3 v4  h
    rw [fX5_struck_L11_s] at h
    refine eg_iload C 4 dX5_struck_11 rfl ?_
    refine eg_iload_n C 1 dX5_struck_13 rfl ?_
    refine eg_icmp_ge C 68 dX5_struck_14 (by decide) (fun c => ?_) (fun c => ?_)
    · rw [if_pos c] at h
      refine eg_iload_n C 3 dX5_struck_68 rfl ?_
      obtain rfl := Option.some.inj h
      exact eg_iret C rfl dX5_struck_69
    · rw [if_neg c] at h
      refine eg_iload_n C 3 dX5_struck_17 rfl ?_
      refine eg_iload_n C 2 dX5_struck_18 rfl ?_
      refine eg_iload C 4 dX5_struck_19 rfl ?_
      refine eg_scallI C (cw_X5_struck_X5_isIn_127 C) (av := [.int v2, .int v4]) (kX5_isIn rfl) rfl (st := [.int v3]) rfl (Nat.le_of_ble_eq_true rfl) dX5_struck_21 ?_
      refine eg_if_eq C 59 dX5_struck_24 (by decide) (fun c => ?_) (fun c => ?_)
      · rw [if_pos c] at h
        refine eg_sub C [0, 1, 2, 4] rfl ?_
        exact wX5_struck_J59 C ih _ _ _ _ h
      · rw [if_neg c] at h
        refine eg_aload_n C 0 dX5_struck_27 rfl ?_
        refine gf_X5_28 C (by decide) dX5_struck_28 ?_
        refine eg_iconst C (2 : Int32) dX5_struck_31 (by decide) ?_
        refine eg_iload C 4 dX5_struck_32 rfl ?_
        refine eg_imul C dX5_struck_34 ?_
        refine eg_iconst C (1 : Int32) dX5_struck_35 (by decide) ?_
        refine eg_iadd C dX5_struck_36 ?_
        obtain ⟨g2, h⟩ := eu_gd_some h
        refine eg_iald C 32 (by decide) (z := 30) (fun _ => rfl) (eu_in_vp g2) dX5_struck_37 ?_
        refine eg_bipush C (12 : Int32) dX5_struck_38 (by decide) ?_
        refine eg_icmp_ge C 59 dX5_struck_40 (by decide) (fun c => ?_) (fun c => ?_)
        · rw [if_pos c] at h
          refine eg_sub C [0, 1, 2, 4] rfl ?_
          exact wX5_struck_J59 C ih _ _ _ _ h
        · rw [if_neg c] at h
          refine eg_iconst C (1 : Int32) dX5_struck_43 (by decide) ?_
          refine eg_aload_n C 0 dX5_struck_44 rfl ?_
          refine gf_X5_28 C (by decide) dX5_struck_45 ?_
          refine eg_iconst C (2 : Int32) dX5_struck_48 (by decide) ?_
          refine eg_iload C 4 dX5_struck_49 rfl ?_
          refine eg_imul C dX5_struck_51 ?_
          refine eg_iconst C (1 : Int32) dX5_struck_52 (by decide) ?_
          refine eg_iadd C dX5_struck_53 ?_
          obtain ⟨g3, h⟩ := eu_gd_some h
          refine eg_iald C 32 (by decide) (z := 30) (fun _ => rfl) (eu_in_vp g3) dX5_struck_54 ?_
          refine eg_ishl C dX5_struck_55 ?_
          refine eg_goto C 60 dX5_struck_56 (by decide) ?_
          refine eg_ior C dX5_struck_60 ?_
          obtain ⟨x4, ex4, h⟩ := eu_lt_x h
          rw [← ex4]
          refine eg_istore_n C [(3, .int x4), (0, .ref (eu_ad E 25)), (1, .int v1), (2, .int v2), (4, .int v4)] dX5_struck_61 rfl (by decide) rfl ?_
          refine eg_iinc C 4 (v4 + (1 : Int32)) [(4, .int (v4 + (1 : Int32))), (3, .int x4), (0, .ref (eu_ad E 25)), (1, .int v1), (2, .int v2)] dX5_struck_62 rfl rfl (by decide) rfl ?_
          refine eg_goto C 11 dX5_struck_65 (by decide) ?_
          refine eg_sub C [2, 3, 4, 1, 0] rfl ?_
          exact ih _ _ _ _ h
set_option maxHeartbeats 4000000 in
set_option maxRecDepth 100000 in
theorem wX5_struck {E : eu_E} (C : eu_C E ({ frames := 2, cells := 0, slots := 0, locals := 45 } : Room) 25 12 5 cX5_struck RX5 (Cond.code yX5_struck cX5_struck 5 (some .int) :: eu_TB) (some .int)) {σ : eu_T} {r : Int32} {a1 : Int32}  (h : fX5_struck σ a1 = some r) : eu_G E 25 12 5 (eu_QI E 25 12 σ r) σ 0 [(0, .ref (eu_ad E 25)), (1, .int a1)] [] := by
  unfold fX5_struck at h
  refine eg_aload_n C 0 dX5_struck_0 rfl ?_
  refine eg_iload_n C 1 dX5_struck_1 rfl ?_
  obtain ⟨r1, hr1, h⟩ := eu_bd_some h
  refine eg_callI C (cw_X5_struck_X5_holding_147 C) (av := [.int a1]) 25 (by decide) (kX5_holding hr1) rfl rfl rfl rfl (st := []) rfl (Nat.le_of_ble_eq_true rfl) dX5_struck_2 ?_
  refine eg_istore_n C [(2, .int r1), (0, .ref (eu_ad E 25)), (1, .int a1)] dX5_struck_5 rfl (by decide) rfl ?_
  refine eg_iconst C (0 : Int32) dX5_struck_6 (by decide) ?_
  refine eg_istore_n C [(3, .int (0 : Int32)), (2, .int r1), (0, .ref (eu_ad E 25)), (1, .int a1)] dX5_struck_7 rfl (by decide) rfl ?_
  refine eg_iconst C (0 : Int32) dX5_struck_8 (by decide) ?_
  refine eg_istore C [(4, .int (0 : Int32)), (3, .int (0 : Int32)), (2, .int r1), (0, .ref (eu_ad E 25)), (1, .int a1)] dX5_struck_9 (by decide) rfl ?_
  refine eg_sub C [3, 4, 2, 1, 0] rfl ?_
  exact wX5_struck_L11 C 200 _ _ _ _ h
theorem kX5_struck {l : Launch} {σ : eu_T} {r : Int32} {a1 : Int32}  (h : fX5_struck σ a1 = some r) : eu_KI l yX5_struck (Cond.code yX5_struck cX5_struck 5 (some .int) :: eu_TB) ({ frames := 2, cells := 0, slots := 0, locals := 45 } : Room) 25 12 (fun ad => [.ref (ad 25), .int a1]) σ σ r :=
  eu_KI_of (by decide) (by decide) rfl (fun _ => Nat.le_of_ble_eq_true rfl) (fun E C => wX5_struck C h)
theorem cw_X5_standing_X5_struck_150 {E : eu_E} (C : eu_C E ({ frames := 3, cells := 0, slots := 0, locals := 69 } : Room) 25 12 4 cX5_standing RX5 (Cond.code yX5_standing cX5_standing 4 (some .int) :: eu_TB) (some .int)) : CallW (eu_R E) (eu_s E) (eu_a E) RX5 RX5 150 yX5_struck cX5_struck 5 (some .int) (Cond.code yX5_struck cX5_struck 5 (some .int) :: eu_TB) ({ frames := 2, cells := 0, slots := 0, locals := 45 } : Room) 0 0 1 := eu_cwV C tw_323 tw_324 tw_325 tw_5 tw_326 rfl rfl (by decide +kernel) (by decide)
set_option maxHeartbeats 4000000 in
set_option maxRecDepth 100000 in
theorem wX5_standing_J51 {E : eu_E} (C : eu_C E ({ frames := 3, cells := 0, slots := 0, locals := 69 } : Room) 25 12 4 cX5_standing RX5 (Cond.code yX5_standing cX5_standing 4 (some .int) :: eu_TB) (some .int)) {σ : eu_T} {r : Int32} {k8 : Int32 → Int32 → Option Int32} (hk_8 : ∀ (v2 : Int32) (v3 : Int32), k8 v2 v3 = some r → eu_G E 25 12 4 (eu_QI E 25 12 σ r) σ 8 [(0, .ref (eu_ad E 25)), (2, .int v2), (3, .int v3)] []) (v3 : Int32) (s0 : Int32)  (h : fX5_standing_J51 σ k8 v3 s0 = some r) : eu_G E 25 12 4 (eu_QI E 25 12 σ r) σ 51 [(0, .ref (eu_ad E 25)), (3, .int v3)] [.int s0] := by
  unfold fX5_standing_J51 at h
  refine eg_iconst C (0 : Int32) dX5_standing_51 (by decide) ?_
  refine eg_ior C dX5_standing_52 ?_
  refine eg_istore_n C [(2, .int (s0 ||| (0 : Int32))), (0, .ref (eu_ad E 25)), (3, .int v3)] dX5_standing_53 rfl (by decide) rfl ?_
  refine eg_iinc C 2 (v3 + (1 : Int32)) [(3, .int (v3 + (1 : Int32))), (2, .int (s0 ||| (0 : Int32))), (0, .ref (eu_ad E 25))] dX5_standing_54 rfl rfl (by decide) rfl ?_
  refine eg_goto C 8 dX5_standing_57 (by decide) ?_
  refine eg_sub C [2, 1, 0] rfl ?_
  exact hk_8 _ _ h
set_option maxHeartbeats 4000000 in
set_option maxRecDepth 100000 in
theorem wX5_standing_L8 {E : eu_E} (C : eu_C E ({ frames := 3, cells := 0, slots := 0, locals := 69 } : Room) 25 12 4 cX5_standing RX5 (Cond.code yX5_standing cX5_standing 4 (some .int) :: eu_TB) (some .int)) {σ : eu_T} {r : Int32}   : ∀ (n : Nat) (v2 : Int32) (v3 : Int32), fX5_standing_L8 σ n v2 v3 = some r → eu_G E 25 12 4 (eu_QI E 25 12 σ r) σ 8 [(0, .ref (eu_ad E 25)), (2, .int v2), (3, .int v3)] [] := by
  intro n
  induction n with
  | zero =>
    intro v2 v3  h
    rw [fX5_standing_L8_z] at h
    cases h
  | succ n ih =>
    intro v2 v3  h
    rw [fX5_standing_L8_s] at h
    refine eg_iload_n C 2 dX5_standing_8 rfl ?_
    refine eg_aload_n C 0 dX5_standing_9 rfl ?_
    refine gf_X5_81 C (by decide) dX5_standing_10 ?_
    refine eg_icmp_ge C 60 dX5_standing_13 (by decide) (fun c => ?_) (fun c => ?_)
    · rw [if_pos c] at h
      refine eg_iconst C (1 : Int32) dX5_standing_60 (by decide) ?_
      refine eg_aload_n C 0 dX5_standing_61 rfl ?_
      refine gf_X5_81 C (by decide) dX5_standing_62 ?_
      refine eg_ishl C dX5_standing_65 ?_
      refine eg_iconst C (1 : Int32) dX5_standing_66 (by decide) ?_
      refine eg_isub C dX5_standing_67 ?_
      refine eg_iload_n C 1 dX5_standing_68 rfl ?_
      refine eg_iconst C (-1 : Int32) dX5_standing_69 (by decide) ?_
      refine eg_ixor C dX5_standing_70 ?_
      refine eg_iand C dX5_standing_71 ?_
      obtain rfl := Option.some.inj h
      exact eg_iret C rfl dX5_standing_72
    · rw [if_neg c] at h
      refine eg_iload_n C 1 dX5_standing_16 rfl ?_
      refine eg_aload_n C 0 dX5_standing_17 rfl ?_
      refine gf_X5_25 C (by decide) dX5_standing_18 ?_
      refine eg_iconst C (3 : Int32) dX5_standing_21 (by decide) ?_
      refine eg_iload_n C 2 dX5_standing_22 rfl ?_
      refine eg_imul C dX5_standing_23 ?_
      refine eg_iconst C (2 : Int32) dX5_standing_24 (by decide) ?_
      refine eg_iadd C dX5_standing_25 ?_
      obtain ⟨g2, h⟩ := eu_gd_some h
      refine eg_iald C 31 (by decide) (z := 36) (fun _ => rfl) (eu_in_vp g2) dX5_standing_26 ?_
      refine eg_if_ne C 51 dX5_standing_27 (by decide) (fun c => ?_) (fun c => ?_)
      · rw [if_neg c] at h
        refine eg_sub C [0, 2] rfl ?_
        exact wX5_standing_J51 C ih _ _ h
      · rw [if_pos c] at h
        refine eg_aload_n C 0 dX5_standing_30 rfl ?_
        refine gf_X5_25 C (by decide) dX5_standing_31 ?_
        refine eg_iconst C (3 : Int32) dX5_standing_34 (by decide) ?_
        refine eg_iload_n C 2 dX5_standing_35 rfl ?_
        refine eg_imul C dX5_standing_36 ?_
        refine eg_iconst C (1 : Int32) dX5_standing_37 (by decide) ?_
        refine eg_iadd C dX5_standing_38 ?_
        obtain ⟨g3, h⟩ := eu_gd_some h
        refine eg_iald C 31 (by decide) (z := 36) (fun _ => rfl) (eu_in_vp g3) dX5_standing_39 ?_
        refine eg_iload_n C 1 dX5_standing_40 rfl ?_
        refine eg_iand C dX5_standing_41 ?_
        refine eg_if_eq C 51 dX5_standing_42 (by decide) (fun c => ?_) (fun c => ?_)
        · rw [if_pos c] at h
          refine eg_sub C [0, 2] rfl ?_
          exact wX5_standing_J51 C ih _ _ h
        · rw [if_neg c] at h
          refine eg_iconst C (1 : Int32) dX5_standing_45 (by decide) ?_
          refine eg_iload_n C 2 dX5_standing_46 rfl ?_
          refine eg_ishl C dX5_standing_47 ?_
          refine eg_goto C 52 dX5_standing_48 (by decide) ?_
          refine eg_ior C dX5_standing_52 ?_
          refine eg_istore_n C [(2, .int (v2 ||| ((1 : Int32) <<< (v3 &&& 31)))), (0, .ref (eu_ad E 25)), (3, .int v3)] dX5_standing_53 rfl (by decide) rfl ?_
          refine eg_iinc C 2 (v3 + (1 : Int32)) [(3, .int (v3 + (1 : Int32))), (2, .int (v2 ||| ((1 : Int32) <<< (v3 &&& 31)))), (0, .ref (eu_ad E 25))] dX5_standing_54 rfl rfl (by decide) rfl ?_
          refine eg_goto C 8 dX5_standing_57 (by decide) ?_
          refine eg_sub C [2, 1, 0] rfl ?_
          exact ih _ _ h
set_option maxHeartbeats 4000000 in
set_option maxRecDepth 100000 in
theorem wX5_standing {E : eu_E} (C : eu_C E ({ frames := 3, cells := 0, slots := 0, locals := 69 } : Room) 25 12 4 cX5_standing RX5 (Cond.code yX5_standing cX5_standing 4 (some .int) :: eu_TB) (some .int)) {σ : eu_T} {r : Int32} {a1 : Int32}  (h : fX5_standing σ a1 = some r) : eu_G E 25 12 4 (eu_QI E 25 12 σ r) σ 0 [(0, .ref (eu_ad E 25)), (1, .int a1)] [] := by
  unfold fX5_standing at h
  refine eg_aload_n C 0 dX5_standing_0 rfl ?_
  refine eg_iload_n C 1 dX5_standing_1 rfl ?_
  obtain ⟨r1, hr1, h⟩ := eu_bd_some h
  refine eg_callI C (cw_X5_standing_X5_struck_150 C) (av := [.int a1]) 25 (by decide) (kX5_struck hr1) rfl rfl rfl rfl (st := []) rfl (Nat.le_of_ble_eq_true rfl) dX5_standing_2 ?_
  refine eg_istore_n C [(2, .int r1), (0, .ref (eu_ad E 25)), (1, .int a1)] dX5_standing_5 rfl (by decide) rfl ?_
  refine eg_iconst C (0 : Int32) dX5_standing_6 (by decide) ?_
  refine eg_istore_n C [(3, .int (0 : Int32)), (2, .int r1), (0, .ref (eu_ad E 25)), (1, .int a1)] dX5_standing_7 rfl (by decide) rfl ?_
  refine eg_sub C [2, 1, 0] rfl ?_
  exact wX5_standing_L8 C 200 _ _ h
theorem kX5_standing {l : Launch} {σ : eu_T} {r : Int32} {a1 : Int32}  (h : fX5_standing σ a1 = some r) : eu_KI l yX5_standing (Cond.code yX5_standing cX5_standing 4 (some .int) :: eu_TB) ({ frames := 3, cells := 0, slots := 0, locals := 69 } : Room) 25 12 (fun ad => [.ref (ad 25), .int a1]) σ σ r :=
  eu_KI_of (by decide) (by decide) rfl (fun _ => Nat.le_of_ble_eq_true rfl) (fun E C => wX5_standing C h)
theorem cw_X5_holds_X5_find_144 {E : eu_E} (C : eu_C E ({ frames := 4, cells := 0, slots := 0, locals := 89 } : Room) 25 12 2 cX5_holds RX5 (Cond.code yX5_holds cX5_holds 2 (some .int) :: eu_TB) (some .int)) : CallW (eu_R E) (eu_s E) (eu_a E) RX5 RX5 144 yX5_find cX5_find 1 none (Cond.code yX5_find cX5_find 1 none :: eu_TB) ({ frames := 3, cells := 0, slots := 0, locals := 69 } : Room) 0 0 0 := eu_cwV C tw_244 tw_245 tw_246 tw_5 tw_247 rfl rfl (by decide +kernel) (by decide)
theorem cw_X5_holds_X5_in_44 {E : eu_E} (C : eu_C E ({ frames := 4, cells := 0, slots := 0, locals := 89 } : Room) 25 12 2 cX5_holds RX5 (Cond.code yX5_holds cX5_holds 2 (some .int) :: eu_TB) (some .int)) : CallB (eu_R E) (eu_s E) (eu_a E) RX5 44 yX5_in cX5_in 6 (some .boolean) (Cond.code yX5_in cX5_in 6 (some .boolean) :: eu_TB) ({ frames := 0, cells := 0, slots := 0, locals := 0 } : Room) 0 0 3 ∧ (Cond.static yX5_in).before (eu_a E) (eu_s E) = true := eu_cwS C tw_109 tw_110 tw_5 tw_111 rfl rfl (by decide +kernel) (by decide)
theorem cw_X5_holds_X5_holding_147 {E : eu_E} (C : eu_C E ({ frames := 4, cells := 0, slots := 0, locals := 89 } : Room) 25 12 2 cX5_holds RX5 (Cond.code yX5_holds cX5_holds 2 (some .int) :: eu_TB) (some .int)) : CallW (eu_R E) (eu_s E) (eu_a E) RX5 RX5 147 yX5_holding cX5_holding 5 (some .int) (Cond.code yX5_holding cX5_holding 5 (some .int) :: eu_TB) ({ frames := 1, cells := 0, slots := 0, locals := 21 } : Room) 0 0 1 := eu_cwV C tw_272 tw_273 tw_274 tw_5 tw_275 rfl rfl (by decide +kernel) (by decide)
set_option maxHeartbeats 4000000 in
set_option maxRecDepth 100000 in
theorem wX5_holds {E : eu_E} (C : eu_C E ({ frames := 4, cells := 0, slots := 0, locals := 89 } : Room) 25 12 2 cX5_holds RX5 (Cond.code yX5_holds cX5_holds 2 (some .int) :: eu_TB) (some .int)) {σ : eu_T} {r : Int32} {σ' : eu_T} {a1 : Int32}  (h : fX5_holds σ a1 = some (r, σ')) : eu_G E 25 12 2 (eu_QI E 25 12 σ' r) σ 0 [(0, .ref (eu_ad E 25)), (1, .int a1)] [] := by
  unfold fX5_holds at h
  refine eg_aload_n C 0 dX5_holds_0 rfl ?_
  obtain ⟨r1, σ2, hr1, h⟩ := eu_b2_some h
  refine eg_callV C (cw_X5_holds_X5_find_144 C) (av := []) 25 (by decide) (kX5_find hr1) rfl rfl rfl rfl (st := []) rfl (Nat.le_of_ble_eq_true rfl) dX5_holds_1 ?_
  refine eg_iload_n C 1 dX5_holds_4 rfl ?_
  refine eg_i2l C dX5_holds_5 ?_
  refine eg_lconst C (0 : Int64) dX5_holds_6 (by decide) ?_
  refine eg_aload_n C 0 dX5_holds_7 rfl ?_
  refine gf_X5_108 C (by decide) dX5_holds_8 ?_
  refine eg_iconst C (1 : Int32) dX5_holds_11 (by decide) ?_
  refine eg_isub C dX5_holds_12 ?_
  refine eg_i2l C dX5_holds_13 ?_
  refine eg_scallI C (cw_X5_holds_X5_in_44 C) (av := [.long a1.toInt64, .long (0 : Int64), .long (((σ2 25 10) - (1 : Int32)).toInt64)]) (kX5_in rfl) rfl (st := []) rfl (Nat.le_of_ble_eq_true rfl) dX5_holds_14 ?_
  refine eg_if_eq C 35 dX5_holds_17 (by decide) (fun c => ?_) (fun c => ?_)
  · rw [if_pos c] at h
    refine eg_bipush C (-2 : Int32) dX5_holds_35 (by decide) ?_
    obtain ⟨rfl, rfl⟩ := eu_inj2 h
    exact eg_iret C rfl dX5_holds_37
  · rw [if_neg c] at h
    refine eg_aload_n C 0 dX5_holds_20 rfl ?_
    refine eg_aload_n C 0 dX5_holds_21 rfl ?_
    refine gf_X5_108 C (by decide) dX5_holds_22 ?_
    obtain ⟨r3, hr3, h⟩ := eu_bd_some h
    refine eg_callI C (cw_X5_holds_X5_holding_147 C) (av := [.int (σ2 25 10)]) 25 (by decide) (kX5_holding hr3) rfl rfl rfl rfl (st := []) rfl (Nat.le_of_ble_eq_true rfl) dX5_holds_25 ?_
    refine eg_iload_n C 1 dX5_holds_28 rfl ?_
    refine eg_ishr C dX5_holds_29 ?_
    refine eg_iconst C (1 : Int32) dX5_holds_30 (by decide) ?_
    refine eg_iand C dX5_holds_31 ?_
    refine eg_goto C 37 dX5_holds_32 (by decide) ?_
    obtain ⟨rfl, rfl⟩ := eu_inj2 h
    exact eg_iret C rfl dX5_holds_37
theorem kX5_holds {l : Launch} {σ : eu_T} {r : Int32} {σ' : eu_T} {a1 : Int32}  (h : fX5_holds σ a1 = some (r, σ')) : eu_KI l yX5_holds (Cond.code yX5_holds cX5_holds 2 (some .int) :: eu_TB) ({ frames := 4, cells := 0, slots := 0, locals := 89 } : Room) 25 12 (fun ad => [.ref (ad 25), .int a1]) σ σ' r :=
  eu_KI_of (by decide) (by decide) rfl (fun _ => Nat.le_of_ble_eq_true rfl) (fun E C => wX5_holds C h)
theorem cw_X5_stateOf_X5_judges_140 {E : eu_E} (C : eu_C E ({ frames := 4, cells := 0, slots := 0, locals := 92 } : Room) 25 12 3 cX5_stateOf RX5 (Cond.code yX5_stateOf cX5_stateOf 3 (some .int) :: eu_TB) (some .int)) : CallW (eu_R E) (eu_s E) (eu_a E) RX5 RX5 140 yX5_judges cX5_judges 4 none (Cond.code yX5_judges cX5_judges 4 none :: eu_TB) ({ frames := 2, cells := 0, slots := 0, locals := 45 } : Room) 0 0 2 := eu_cwV C tw_248 tw_249 tw_250 tw_5 tw_251 rfl rfl (by decide +kernel) (by decide)
theorem cw_X5_stateOf_X5_standing_153 {E : eu_E} (C : eu_C E ({ frames := 4, cells := 0, slots := 0, locals := 92 } : Room) 25 12 3 cX5_stateOf RX5 (Cond.code yX5_stateOf cX5_stateOf 3 (some .int) :: eu_TB) (some .int)) : CallW (eu_R E) (eu_s E) (eu_a E) RX5 RX5 153 yX5_standing cX5_standing 4 (some .int) (Cond.code yX5_standing cX5_standing 4 (some .int) :: eu_TB) ({ frames := 3, cells := 0, slots := 0, locals := 69 } : Room) 0 0 1 := eu_cwV C tw_319 tw_320 tw_321 tw_5 tw_322 rfl rfl (by decide +kernel) (by decide)
set_option maxHeartbeats 4000000 in
set_option maxRecDepth 100000 in
theorem wX5_stateOf {E : eu_E} (C : eu_C E ({ frames := 4, cells := 0, slots := 0, locals := 92 } : Room) 25 12 3 cX5_stateOf RX5 (Cond.code yX5_stateOf cX5_stateOf 3 (some .int) :: eu_TB) (some .int)) {σ : eu_T} {r : Int32} {σ' : eu_T} {a1 : Int32} {a2 : Int32}  (h : fX5_stateOf σ a1 a2 = some (r, σ')) : eu_G E 25 12 3 (eu_QI E 25 12 σ' r) σ 0 [(0, .ref (eu_ad E 25)), (1, .int a1), (2, .int a2)] [] := by
  unfold fX5_stateOf at h
  refine eg_aload_n C 0 dX5_stateOf_0 rfl ?_
  refine eg_iload_n C 1 dX5_stateOf_1 rfl ?_
  refine eg_iconst C (-1 : Int32) dX5_stateOf_2 (by decide) ?_
  obtain ⟨r1, σ2, hr1, h⟩ := eu_b2_some h
  refine eg_callV C (cw_X5_stateOf_X5_judges_140 C) (av := [.int a1, .int (-1 : Int32)]) 25 (by decide) (kX5_judges hr1) rfl rfl rfl rfl (st := []) rfl (Nat.le_of_ble_eq_true rfl) dX5_stateOf_3 ?_
  refine eg_iload_n C 2 dX5_stateOf_6 rfl ?_
  refine eg_if_ne C 18 dX5_stateOf_7 (by decide) (fun c => ?_) (fun c => ?_)
  · rw [if_neg c] at h
    refine eg_bipush C (63 : Int32) dX5_stateOf_18 (by decide) ?_
    refine eg_aload_n C 0 dX5_stateOf_20 rfl ?_
    refine gf_X5_124 C (by decide) dX5_stateOf_21 ?_
    refine eg_iconst C (-1 : Int32) dX5_stateOf_24 (by decide) ?_
    refine eg_ixor C dX5_stateOf_25 ?_
    refine eg_iand C dX5_stateOf_26 ?_
    obtain ⟨rfl, rfl⟩ := eu_inj2 h
    exact eg_iret C rfl dX5_stateOf_27
  · rw [if_pos c] at h
    refine eg_aload_n C 0 dX5_stateOf_10 rfl ?_
    refine eg_iload_n C 1 dX5_stateOf_11 rfl ?_
    obtain ⟨r3, hr3, h⟩ := eu_bd_some h
    refine eg_callI C (cw_X5_stateOf_X5_standing_153 C) (av := [.int a1]) 25 (by decide) (kX5_standing hr3) rfl rfl rfl rfl (st := []) rfl (Nat.le_of_ble_eq_true rfl) dX5_stateOf_12 ?_
    refine eg_goto C 27 dX5_stateOf_15 (by decide) ?_
    obtain ⟨rfl, rfl⟩ := eu_inj2 h
    exact eg_iret C rfl dX5_stateOf_27
theorem kX5_stateOf {l : Launch} {σ : eu_T} {r : Int32} {σ' : eu_T} {a1 : Int32} {a2 : Int32}  (h : fX5_stateOf σ a1 a2 = some (r, σ')) : eu_KI l yX5_stateOf (Cond.code yX5_stateOf cX5_stateOf 3 (some .int) :: eu_TB) ({ frames := 4, cells := 0, slots := 0, locals := 92 } : Room) 25 12 (fun ad => [.ref (ad 25), .int a1, .int a2]) σ σ' r :=
  eu_KI_of (by decide) (by decide) rfl (fun _ => Nat.le_of_ble_eq_true rfl) (fun E C => wX5_stateOf C h)
theorem cw_X5_state_X5_reads_100 {E : eu_E} (C : eu_C E ({ frames := 5, cells := 0, slots := 0, locals := 114 } : Room) 25 12 3 cX5_state RX5 (Cond.code yX5_state cX5_state 3 (some .int) :: eu_TB) (some .int)) : CallW (eu_R E) (eu_s E) (eu_a E) RX5 RX5 100 yX5_reads cX5_reads 2 (some .int) (Cond.code yX5_reads cX5_reads 2 (some .int) :: eu_TB) ({ frames := 2, cells := 0, slots := 0, locals := 48 } : Room) 0 0 0 := eu_cwV C tw_131 tw_132 tw_133 tw_5 tw_134 rfl rfl (by decide +kernel) (by decide)
theorem cw_X5_state_X5_in_44 {E : eu_E} (C : eu_C E ({ frames := 5, cells := 0, slots := 0, locals := 114 } : Room) 25 12 3 cX5_state RX5 (Cond.code yX5_state cX5_state 3 (some .int) :: eu_TB) (some .int)) : CallB (eu_R E) (eu_s E) (eu_a E) RX5 44 yX5_in cX5_in 6 (some .boolean) (Cond.code yX5_in cX5_in 6 (some .boolean) :: eu_TB) ({ frames := 0, cells := 0, slots := 0, locals := 0 } : Room) 0 0 3 ∧ (Cond.static yX5_in).before (eu_a E) (eu_s E) = true := eu_cwS C tw_109 tw_110 tw_5 tw_111 rfl rfl (by decide +kernel) (by decide)
theorem cw_X5_state_X5_isTwo_156 {E : eu_E} (C : eu_C E ({ frames := 5, cells := 0, slots := 0, locals := 114 } : Room) 25 12 3 cX5_state RX5 (Cond.code yX5_state cX5_state 3 (some .int) :: eu_TB) (some .int)) : CallB (eu_R E) (eu_s E) (eu_a E) RX5 156 yX5_isTwo cX5_isTwo 1 (some .boolean) (Cond.code yX5_isTwo cX5_isTwo 1 (some .boolean) :: eu_TB) ({ frames := 1, cells := 0, slots := 0, locals := 25 } : Room) 0 0 1 ∧ (Cond.static yX5_isTwo).before (eu_a E) (eu_s E) = true := eu_cwS C tw_312 tw_313 tw_5 tw_314 rfl rfl (by decide +kernel) (by decide)
theorem cw_X5_state_X5_stateOf_159 {E : eu_E} (C : eu_C E ({ frames := 5, cells := 0, slots := 0, locals := 114 } : Room) 25 12 3 cX5_state RX5 (Cond.code yX5_state cX5_state 3 (some .int) :: eu_TB) (some .int)) : CallW (eu_R E) (eu_s E) (eu_a E) RX5 RX5 159 yX5_stateOf cX5_stateOf 3 (some .int) (Cond.code yX5_stateOf cX5_stateOf 3 (some .int) :: eu_TB) ({ frames := 4, cells := 0, slots := 0, locals := 92 } : Room) 0 0 2 := eu_cwV C tw_315 tw_316 tw_317 tw_5 tw_318 rfl rfl (by decide +kernel) (by decide)
set_option maxHeartbeats 4000000 in
set_option maxRecDepth 100000 in
theorem wX5_state_J35 {E : eu_E} (C : eu_C E ({ frames := 5, cells := 0, slots := 0, locals := 114 } : Room) 25 12 3 cX5_state RX5 (Cond.code yX5_state cX5_state 3 (some .int) :: eu_TB) (some .int)) {r : Int32} {σ' : eu_T}   (σ : eu_T)  (h : fX5_state_J35  σ = some (r, σ')) : eu_G E 25 12 3 (eu_QI E 25 12 σ' r) σ 35 [] [] := by
  unfold fX5_state_J35 at h
  refine eg_bipush C (-2 : Int32) dX5_state_35 (by decide) ?_
  obtain ⟨rfl, rfl⟩ := eu_inj2 h
  exact eg_iret C rfl dX5_state_37
set_option maxHeartbeats 4000000 in
set_option maxRecDepth 100000 in
theorem wX5_state {E : eu_E} (C : eu_C E ({ frames := 5, cells := 0, slots := 0, locals := 114 } : Room) 25 12 3 cX5_state RX5 (Cond.code yX5_state cX5_state 3 (some .int) :: eu_TB) (some .int)) {σ : eu_T} {r : Int32} {σ' : eu_T} {a1 : Int32} {a2 : Int32}  (h : fX5_state σ a1 a2 = some (r, σ')) : eu_G E 25 12 3 (eu_QI E 25 12 σ' r) σ 0 [(0, .ref (eu_ad E 25)), (1, .int a1), (2, .int a2)] [] := by
  unfold fX5_state at h
  refine eg_aload_n C 0 dX5_state_0 rfl ?_
  obtain ⟨r1, σ2, hr1, h⟩ := eu_b2_some h
  refine eg_callI C (cw_X5_state_X5_reads_100 C) (av := []) 25 (by decide) (kX5_reads hr1) rfl rfl rfl rfl (st := []) rfl (Nat.le_of_ble_eq_true rfl) dX5_state_1 ?_
  refine eg_pop C dX5_state_4 rfl ?_
  refine eg_iload_n C 1 dX5_state_5 rfl ?_
  refine eg_i2l C dX5_state_6 ?_
  refine eg_lconst C (0 : Int64) dX5_state_7 (by decide) ?_
  refine eg_aload_n C 0 dX5_state_8 rfl ?_
  refine gf_X5_108 C (by decide) dX5_state_9 ?_
  refine eg_i2l C dX5_state_12 ?_
  refine eg_scallI C (cw_X5_state_X5_in_44 C) (av := [.long a1.toInt64, .long (0 : Int64), .long ((σ2 25 10).toInt64)]) (kX5_in rfl) rfl (st := []) rfl (Nat.le_of_ble_eq_true rfl) dX5_state_13 ?_
  refine eg_if_eq C 35 dX5_state_16 (by decide) (fun c => ?_) (fun c => ?_)
  · rw [if_pos c] at h
    refine eg_sub C [] rfl ?_
    exact wX5_state_J35 C _ h
  · rw [if_neg c] at h
    refine eg_iload_n C 2 dX5_state_19 rfl ?_
    refine eg_scallI C (cw_X5_state_X5_isTwo_156 C) (av := [.int a2]) (kX5_isTwo rfl) rfl (st := []) rfl (Nat.le_of_ble_eq_true rfl) dX5_state_20 ?_
    refine eg_if_eq C 35 dX5_state_23 (by decide) (fun c => ?_) (fun c => ?_)
    · rw [if_pos c] at h
      refine eg_sub C [] rfl ?_
      exact wX5_state_J35 C _ h
    · rw [if_neg c] at h
      refine eg_aload_n C 0 dX5_state_26 rfl ?_
      refine eg_iload_n C 1 dX5_state_27 rfl ?_
      refine eg_iload_n C 2 dX5_state_28 rfl ?_
      obtain ⟨r3, σ4, hr3, h⟩ := eu_b2_some h
      refine eg_callI C (cw_X5_state_X5_stateOf_159 C) (av := [.int a1, .int a2]) 25 (by decide) (kX5_stateOf hr3) rfl rfl rfl rfl (st := []) rfl (Nat.le_of_ble_eq_true rfl) dX5_state_29 ?_
      refine eg_goto C 37 dX5_state_32 (by decide) ?_
      obtain ⟨rfl, rfl⟩ := eu_inj2 h
      exact eg_iret C rfl dX5_state_37
theorem kX5_state {l : Launch} {σ : eu_T} {r : Int32} {σ' : eu_T} {a1 : Int32} {a2 : Int32}  (h : fX5_state σ a1 a2 = some (r, σ')) : eu_KI l yX5_state (Cond.code yX5_state cX5_state 3 (some .int) :: eu_TB) ({ frames := 5, cells := 0, slots := 0, locals := 114 } : Room) 25 12 (fun ad => [.ref (ad 25), .int a1, .int a2]) σ σ' r :=
  eu_KI_of (by decide) (by decide) rfl (fun _ => Nat.le_of_ble_eq_true rfl) (fun E C => wX5_state C h)
theorem cw_X5_rootOf_X5_struck_150 {E : eu_E} (C : eu_C E ({ frames := 3, cells := 0, slots := 0, locals := 69 } : Room) 25 12 6 cX5_rootOf RX5 (Cond.code yX5_rootOf cX5_rootOf 6 (some .int) :: eu_TB) (some .int)) : CallW (eu_R E) (eu_s E) (eu_a E) RX5 RX5 150 yX5_struck cX5_struck 5 (some .int) (Cond.code yX5_struck cX5_struck 5 (some .int) :: eu_TB) ({ frames := 2, cells := 0, slots := 0, locals := 45 } : Room) 0 0 1 := eu_cwV C tw_323 tw_324 tw_325 tw_5 tw_326 rfl rfl (by decide +kernel) (by decide)
theorem cw_X5_rootOf_X5_isIn_127 {E : eu_E} (C : eu_C E ({ frames := 3, cells := 0, slots := 0, locals := 69 } : Room) 25 12 6 cX5_rootOf RX5 (Cond.code yX5_rootOf cX5_rootOf 6 (some .int) :: eu_TB) (some .int)) : CallB (eu_R E) (eu_s E) (eu_a E) RX5 127 yX5_isIn cX5_isIn 2 (some .boolean) (Cond.code yX5_isIn cX5_isIn 2 (some .boolean) :: eu_TB) ({ frames := 0, cells := 0, slots := 0, locals := 0 } : Room) 0 0 2 ∧ (Cond.static yX5_isIn).before (eu_a E) (eu_s E) = true := eu_cwS C tw_258 tw_259 tw_5 tw_260 rfl rfl (by decide +kernel) (by decide)
set_option maxHeartbeats 4000000 in
set_option maxRecDepth 100000 in
theorem wX5_rootOf_J133 {E : eu_E} (C : eu_C E ({ frames := 3, cells := 0, slots := 0, locals := 69 } : Room) 25 12 6 cX5_rootOf RX5 (Cond.code yX5_rootOf cX5_rootOf 6 (some .int) :: eu_TB) (some .int)) {r : Int32} {σ' : eu_T} {k11 : eu_T → Int32 → Int32 → Int32 → Option (Int32 × eu_T)} (hk_11 : ∀ (σ : eu_T) (v1 : Int32) (v2 : Int32) (v3 : Int32), k11 σ v1 v2 v3 = some (r, σ') → eu_G E 25 12 6 (eu_QI E 25 12 σ' r) σ 11 [(0, .ref (eu_ad E 25)), (1, .int v1), (2, .int v2), (3, .int v3)] []) (σ : eu_T) (v1 : Int32) (v2 : Int32) (v3 : Int32) (s0 : Int32) (s1 : Int32)  (h : fX5_rootOf_J133 k11 σ v1 v2 v3 s0 s1 = some (r, σ')) : eu_G E 25 12 6 (eu_QI E 25 12 σ' r) σ 133 [(0, .ref (eu_ad E 25)), (1, .int v1), (2, .int v2), (3, .int v3)] [.int s0, .int s1, .ref (eu_ad E 35)] := by
  unfold fX5_rootOf_J133 at h
  obtain ⟨g8, h⟩ := eu_gd_some h
  refine eg_iast C 35 (by decide) (z := 12) (fun _ => rfl) (eu_in_vp g8) dX5_rootOf_133 ?_
  obtain ⟨σ9, eσ9, h⟩ := eu_lt_x h
  rw [← eσ9]
  refine eg_iinc C 3 (v3 + (1 : Int32)) [(3, .int (v3 + (1 : Int32))), (0, .ref (eu_ad E 25)), (1, .int v1), (2, .int v2)] dX5_rootOf_134 rfl rfl (by decide) rfl ?_
  refine eg_goto C 11 dX5_rootOf_137 (by decide) ?_
  refine eg_sub C [1, 2, 3, 0] rfl ?_
  exact hk_11 _ _ _ _ h
set_option maxHeartbeats 4000000 in
set_option maxRecDepth 100000 in
theorem wX5_rootOf_J115 {E : eu_E} (C : eu_C E ({ frames := 3, cells := 0, slots := 0, locals := 69 } : Room) 25 12 6 cX5_rootOf RX5 (Cond.code yX5_rootOf cX5_rootOf 6 (some .int) :: eu_TB) (some .int)) {r : Int32} {σ' : eu_T} {k11 : eu_T → Int32 → Int32 → Int32 → Option (Int32 × eu_T)} (hk_11 : ∀ (σ : eu_T) (v1 : Int32) (v2 : Int32) (v3 : Int32), k11 σ v1 v2 v3 = some (r, σ') → eu_G E 25 12 6 (eu_QI E 25 12 σ' r) σ 11 [(0, .ref (eu_ad E 25)), (1, .int v1), (2, .int v2), (3, .int v3)] []) (σ : eu_T) (v1 : Int32) (v2 : Int32) (v3 : Int32) (v4 : Int32)  (h : fX5_rootOf_J115 k11 σ v1 v2 v3 v4 = some (r, σ')) : eu_G E 25 12 6 (eu_QI E 25 12 σ' r) σ 115 [(0, .ref (eu_ad E 25)), (1, .int v1), (2, .int v2), (3, .int v3), (4, .int v4)] [] := by
  unfold fX5_rootOf_J115 at h
  refine eg_aload_n C 0 dX5_rootOf_115 rfl ?_
  refine gf_X5_38 C (by decide) dX5_rootOf_116 ?_
  refine eg_iload_n C 3 dX5_rootOf_119 rfl ?_
  refine eg_iload C 4 dX5_rootOf_120 rfl ?_
  refine eg_bipush C (12 : Int32) dX5_rootOf_122 (by decide) ?_
  refine eg_icmp_ne C 131 dX5_rootOf_124 (by decide) (fun c => ?_) (fun c => ?_)
  · rw [if_neg c] at h
    refine eg_iload C 4 dX5_rootOf_131 rfl ?_
    refine eg_sub C [0, 1, 2, 3] rfl ?_
    exact wX5_rootOf_J133 C hk_11 _ _ _ _ _ _ h
  · rw [if_pos c] at h
    refine eg_iconst C (-1 : Int32) dX5_rootOf_127 (by decide) ?_
    refine eg_goto C 133 dX5_rootOf_128 (by decide) ?_
    refine eg_sub C [0, 1, 2, 3] rfl ?_
    exact wX5_rootOf_J133 C hk_11 _ _ _ _ _ _ h
set_option maxHeartbeats 4000000 in
set_option maxRecDepth 100000 in
theorem wX5_rootOf_J105 {E : eu_E} (C : eu_C E ({ frames := 3, cells := 0, slots := 0, locals := 69 } : Room) 25 12 6 cX5_rootOf RX5 (Cond.code yX5_rootOf cX5_rootOf 6 (some .int) :: eu_TB) (some .int)) {r : Int32} {σ' : eu_T} {k11 : eu_T → Int32 → Int32 → Int32 → Option (Int32 × eu_T)} {k35 : eu_T → Int32 → Int32 → Int32 → Int32 → Int32 → Option (Int32 × eu_T)} (hk_11 : ∀ (σ : eu_T) (v1 : Int32) (v2 : Int32) (v3 : Int32), k11 σ v1 v2 v3 = some (r, σ') → eu_G E 25 12 6 (eu_QI E 25 12 σ' r) σ 11 [(0, .ref (eu_ad E 25)), (1, .int v1), (2, .int v2), (3, .int v3)] []) (hk_35 : ∀ (σ : eu_T) (v1 : Int32) (v2 : Int32) (v3 : Int32) (v4 : Int32) (v5 : Int32), k35 σ v1 v2 v3 v4 v5 = some (r, σ') → eu_G E 25 12 6 (eu_QI E 25 12 σ' r) σ 35 [(0, .ref (eu_ad E 25)), (1, .int v1), (2, .int v2), (3, .int v3), (4, .int v4), (5, .int v5)] []) (σ : eu_T) (v1 : Int32) (v2 : Int32) (v3 : Int32) (v4 : Int32) (v5 : Int32)  (h : fX5_rootOf_J105 k11 k35 σ v1 v2 v3 v4 v5 = some (r, σ')) : eu_G E 25 12 6 (eu_QI E 25 12 σ' r) σ 105 [(0, .ref (eu_ad E 25)), (1, .int v1), (2, .int v2), (3, .int v3), (4, .int v4), (5, .int v5)] [] := by
  unfold fX5_rootOf_J105 at h
  refine eg_iload C 4 dX5_rootOf_105 rfl ?_
  refine eg_istore C [(4, .int v4), (0, .ref (eu_ad E 25)), (1, .int v1), (2, .int v2), (3, .int v3), (5, .int v5)] dX5_rootOf_107 (by decide) rfl ?_
  refine eg_iinc C 5 (v5 + (1 : Int32)) [(5, .int (v5 + (1 : Int32))), (4, .int v4), (0, .ref (eu_ad E 25)), (1, .int v1), (2, .int v2), (3, .int v3)] dX5_rootOf_109 rfl rfl (by decide) rfl ?_
  refine eg_goto C 35 dX5_rootOf_112 (by decide) ?_
  refine eg_sub C [2, 3, 4, 5, 1, 0] rfl ?_
  exact hk_35 _ _ _ _ _ _ h
set_option maxHeartbeats 4000000 in
set_option maxRecDepth 100000 in
theorem wX5_rootOf_L35 {E : eu_E} (C : eu_C E ({ frames := 3, cells := 0, slots := 0, locals := 69 } : Room) 25 12 6 cX5_rootOf RX5 (Cond.code yX5_rootOf cX5_rootOf 6 (some .int) :: eu_TB) (some .int)) {r : Int32} {σ' : eu_T} {k11 : eu_T → Int32 → Int32 → Int32 → Option (Int32 × eu_T)} (hk_11 : ∀ (σ : eu_T) (v1 : Int32) (v2 : Int32) (v3 : Int32), k11 σ v1 v2 v3 = some (r, σ') → eu_G E 25 12 6 (eu_QI E 25 12 σ' r) σ 11 [(0, .ref (eu_ad E 25)), (1, .int v1), (2, .int v2), (3, .int v3)] []) : ∀ (n : Nat) (σ : eu_T) (v1 : Int32) (v2 : Int32) (v3 : Int32) (v4 : Int32) (v5 : Int32), fX5_rootOf_L35 k11 n σ v1 v2 v3 v4 v5 = some (r, σ') → eu_G E 25 12 6 (eu_QI E 25 12 σ' r) σ 35 [(0, .ref (eu_ad E 25)), (1, .int v1), (2, .int v2), (3, .int v3), (4, .int v4), (5, .int v5)] [] := by
  intro n
  induction n with
  | zero =>
    intro σ v1 v2 v3 v4 v5  h
    rw [fX5_rootOf_L35_z] at h
    cases h
  | succ n ih =>
    intro σ v1 v2 v3 v4 v5  h
    rw [fX5_rootOf_L35_s] at h
    refine eg_iload C 5 dX5_rootOf_35 rfl ?_
    refine eg_iload_n C 3 dX5_rootOf_37 rfl ?_
    refine eg_icmp_ge C 115 dX5_rootOf_38 (by decide) (fun c => ?_) (fun c => ?_)
    · rw [if_pos c] at h
      refine eg_sub C [0, 1, 2, 3, 4] rfl ?_
      exact wX5_rootOf_J115 C hk_11 _ _ _ _ _ h
    · rw [if_neg c] at h
      refine eg_aload_n C 0 dX5_rootOf_41 rfl ?_
      refine gf_X5_25 C (by decide) dX5_rootOf_42 ?_
      refine eg_iconst C (3 : Int32) dX5_rootOf_45 (by decide) ?_
      refine eg_iload_n C 3 dX5_rootOf_46 rfl ?_
      refine eg_imul C dX5_rootOf_47 ?_
      refine eg_iconst C (2 : Int32) dX5_rootOf_48 (by decide) ?_
      refine eg_iadd C dX5_rootOf_49 ?_
      obtain ⟨g3, h⟩ := eu_gd_some h
      refine eg_iald C 31 (by decide) (z := 36) (fun _ => rfl) (eu_in_vp g3) dX5_rootOf_50 ?_
      refine eg_if_ne C 115 dX5_rootOf_51 (by decide) (fun c => ?_) (fun c => ?_)
      · rw [if_neg c] at h
        refine eg_sub C [0, 1, 2, 3, 4] rfl ?_
        exact wX5_rootOf_J115 C hk_11 _ _ _ _ _ h
      · rw [if_pos c] at h
        refine eg_aload_n C 0 dX5_rootOf_54 rfl ?_
        refine gf_X5_25 C (by decide) dX5_rootOf_55 ?_
        refine eg_iconst C (3 : Int32) dX5_rootOf_58 (by decide) ?_
        refine eg_iload_n C 3 dX5_rootOf_59 rfl ?_
        refine eg_imul C dX5_rootOf_60 ?_
        refine eg_iconst C (1 : Int32) dX5_rootOf_61 (by decide) ?_
        refine eg_iadd C dX5_rootOf_62 ?_
        obtain ⟨g4, h⟩ := eu_gd_some h
        refine eg_iald C 31 (by decide) (z := 36) (fun _ => rfl) (eu_in_vp g4) dX5_rootOf_63 ?_
        refine eg_iload C 5 dX5_rootOf_64 rfl ?_
        refine eg_scallI C (cw_X5_rootOf_X5_isIn_127 C) (av := [.int (σ 31 (((3 : Int32) * v3) + (1 : Int32)).toNatClampNeg), .int v5]) (kX5_isIn rfl) rfl (st := []) rfl (Nat.le_of_ble_eq_true rfl) dX5_rootOf_66 ?_
        refine eg_if_eq C 105 dX5_rootOf_69 (by decide) (fun c => ?_) (fun c => ?_)
        · rw [if_pos c] at h
          refine eg_sub C [0, 1, 2, 3, 4, 5] rfl ?_
          exact wX5_rootOf_J105 C hk_11 ih _ _ _ _ _ _ h
        · rw [if_neg c] at h
          refine eg_aload_n C 0 dX5_rootOf_72 rfl ?_
          refine gf_X5_38 C (by decide) dX5_rootOf_73 ?_
          refine eg_iload C 5 dX5_rootOf_76 rfl ?_
          obtain ⟨g5, h⟩ := eu_gd_some h
          refine eg_iald C 35 (by decide) (z := 12) (fun _ => rfl) (eu_in_vp g5) dX5_rootOf_78 ?_
          refine eg_iconst C (-1 : Int32) dX5_rootOf_79 (by decide) ?_
          refine eg_icmp_eq C 105 dX5_rootOf_80 (by decide) (fun c => ?_) (fun c => ?_)
          · rw [if_pos c] at h
            refine eg_sub C [0, 1, 2, 3, 4, 5] rfl ?_
            exact wX5_rootOf_J105 C hk_11 ih _ _ _ _ _ _ h
          · rw [if_neg c] at h
            refine eg_aload_n C 0 dX5_rootOf_83 rfl ?_
            refine gf_X5_38 C (by decide) dX5_rootOf_84 ?_
            refine eg_iload C 5 dX5_rootOf_87 rfl ?_
            obtain ⟨g6, h⟩ := eu_gd_some h
            refine eg_iald C 35 (by decide) (z := 12) (fun _ => rfl) (eu_in_vp g6) dX5_rootOf_89 ?_
            refine eg_iload C 4 dX5_rootOf_90 rfl ?_
            refine eg_icmp_ge C 105 dX5_rootOf_92 (by decide) (fun c => ?_) (fun c => ?_)
            · rw [if_pos c] at h
              refine eg_sub C [0, 1, 2, 3, 4, 5] rfl ?_
              exact wX5_rootOf_J105 C hk_11 ih _ _ _ _ _ _ h
            · rw [if_neg c] at h
              refine eg_aload_n C 0 dX5_rootOf_95 rfl ?_
              refine gf_X5_38 C (by decide) dX5_rootOf_96 ?_
              refine eg_iload C 5 dX5_rootOf_99 rfl ?_
              obtain ⟨g7, h⟩ := eu_gd_some h
              refine eg_iald C 35 (by decide) (z := 12) (fun _ => rfl) (eu_in_vp g7) dX5_rootOf_101 ?_
              refine eg_goto C 107 dX5_rootOf_102 (by decide) ?_
              refine eg_istore C [(4, .int (σ 35 v5.toNatClampNeg)), (0, .ref (eu_ad E 25)), (1, .int v1), (2, .int v2), (3, .int v3), (5, .int v5)] dX5_rootOf_107 (by decide) rfl ?_
              refine eg_iinc C 5 (v5 + (1 : Int32)) [(5, .int (v5 + (1 : Int32))), (4, .int (σ 35 v5.toNatClampNeg)), (0, .ref (eu_ad E 25)), (1, .int v1), (2, .int v2), (3, .int v3)] dX5_rootOf_109 rfl rfl (by decide) rfl ?_
              refine eg_goto C 35 dX5_rootOf_112 (by decide) ?_
              refine eg_sub C [2, 3, 4, 5, 1, 0] rfl ?_
              exact ih _ _ _ _ _ _ h
set_option maxHeartbeats 4000000 in
set_option maxRecDepth 100000 in
theorem wX5_rootOf_L11 {E : eu_E} (C : eu_C E ({ frames := 3, cells := 0, slots := 0, locals := 69 } : Room) 25 12 6 cX5_rootOf RX5 (Cond.code yX5_rootOf cX5_rootOf 6 (some .int) :: eu_TB) (some .int)) {r : Int32} {σ' : eu_T}   : ∀ (n : Nat) (σ : eu_T) (v1 : Int32) (v2 : Int32) (v3 : Int32), fX5_rootOf_L11 n σ v1 v2 v3 = some (r, σ') → eu_G E 25 12 6 (eu_QI E 25 12 σ' r) σ 11 [(0, .ref (eu_ad E 25)), (1, .int v1), (2, .int v2), (3, .int v3)] [] := by
  intro n
  induction n with
  | zero =>
    intro σ v1 v2 v3  h
    rw [fX5_rootOf_L11_z] at h
    cases h
  | succ n ih =>
    intro σ v1 v2 v3  h
    rw [fX5_rootOf_L11_s] at h
    refine eg_iload_n C 3 dX5_rootOf_11 rfl ?_
    refine eg_iload_n C 1 dX5_rootOf_12 rfl ?_
    refine eg_icmp_gt C 140 dX5_rootOf_13 (by decide) (fun c => ?_) (fun c => ?_)
    · rw [if_pos c] at h
      refine eg_aload_n C 0 dX5_rootOf_140 rfl ?_
      refine gf_X5_38 C (by decide) dX5_rootOf_141 ?_
      refine eg_iload_n C 1 dX5_rootOf_144 rfl ?_
      obtain ⟨g2, h⟩ := eu_gd_some h
      refine eg_iald C 35 (by decide) (z := 12) (fun _ => rfl) (eu_in_vp g2) dX5_rootOf_145 ?_
      obtain ⟨rfl, rfl⟩ := eu_inj2 h
      exact eg_iret C rfl dX5_rootOf_146
    · rw [if_neg c] at h
      refine eg_iload_n C 2 dX5_rootOf_16 rfl ?_
      refine eg_iload_n C 3 dX5_rootOf_17 rfl ?_
      refine eg_scallI C (cw_X5_rootOf_X5_isIn_127 C) (av := [.int v2, .int v3]) (kX5_isIn rfl) rfl (st := []) rfl (Nat.le_of_ble_eq_true rfl) dX5_rootOf_18 ?_
      refine eg_if_eq C 28 dX5_rootOf_21 (by decide) (fun c => ?_) (fun c => ?_)
      · rw [if_pos c] at h
        refine eg_bipush C (12 : Int32) dX5_rootOf_28 (by decide) ?_
        refine eg_istore C [(4, .int (12 : Int32)), (0, .ref (eu_ad E 25)), (1, .int v1), (2, .int v2), (3, .int v3)] dX5_rootOf_30 (by decide) rfl ?_
        refine eg_iconst C (0 : Int32) dX5_rootOf_32 (by decide) ?_
        refine eg_istore C [(5, .int (0 : Int32)), (4, .int (12 : Int32)), (0, .ref (eu_ad E 25)), (1, .int v1), (2, .int v2), (3, .int v3)] dX5_rootOf_33 (by decide) rfl ?_
        refine eg_sub C [2, 3, 4, 5, 1, 0] rfl ?_
        exact wX5_rootOf_L35 C ih 200 _ _ _ _ _ _ h
      · rw [if_neg c] at h
        refine eg_iload_n C 3 dX5_rootOf_24 rfl ?_
        refine eg_goto C 30 dX5_rootOf_25 (by decide) ?_
        refine eg_istore C [(4, .int v3), (0, .ref (eu_ad E 25)), (1, .int v1), (2, .int v2), (3, .int v3)] dX5_rootOf_30 (by decide) rfl ?_
        refine eg_iconst C (0 : Int32) dX5_rootOf_32 (by decide) ?_
        refine eg_istore C [(5, .int (0 : Int32)), (4, .int v3), (0, .ref (eu_ad E 25)), (1, .int v1), (2, .int v2), (3, .int v3)] dX5_rootOf_33 (by decide) rfl ?_
        refine eg_sub C [2, 3, 4, 5, 1, 0] rfl ?_
        exact wX5_rootOf_L35 C ih 200 _ _ _ _ _ _ h
set_option maxHeartbeats 4000000 in
set_option maxRecDepth 100000 in
theorem wX5_rootOf {E : eu_E} (C : eu_C E ({ frames := 3, cells := 0, slots := 0, locals := 69 } : Room) 25 12 6 cX5_rootOf RX5 (Cond.code yX5_rootOf cX5_rootOf 6 (some .int) :: eu_TB) (some .int)) {σ : eu_T} {r : Int32} {σ' : eu_T} {a1 : Int32}  (h : fX5_rootOf σ a1 = some (r, σ')) : eu_G E 25 12 6 (eu_QI E 25 12 σ' r) σ 0 [(0, .ref (eu_ad E 25)), (1, .int a1)] [] := by
  unfold fX5_rootOf at h
  refine eg_aload_n C 0 dX5_rootOf_0 rfl ?_
  refine eg_aload_n C 0 dX5_rootOf_1 rfl ?_
  refine gf_X5_108 C (by decide) dX5_rootOf_2 ?_
  obtain ⟨r1, hr1, h⟩ := eu_bd_some h
  refine eg_callI C (cw_X5_rootOf_X5_struck_150 C) (av := [.int (σ 25 10)]) 25 (by decide) (kX5_struck hr1) rfl rfl rfl rfl (st := []) rfl (Nat.le_of_ble_eq_true rfl) dX5_rootOf_5 ?_
  refine eg_istore_n C [(2, .int r1), (0, .ref (eu_ad E 25)), (1, .int a1)] dX5_rootOf_8 rfl (by decide) rfl ?_
  refine eg_iconst C (0 : Int32) dX5_rootOf_9 (by decide) ?_
  refine eg_istore_n C [(3, .int (0 : Int32)), (2, .int r1), (0, .ref (eu_ad E 25)), (1, .int a1)] dX5_rootOf_10 rfl (by decide) rfl ?_
  refine eg_sub C [2, 3, 1, 0] rfl ?_
  exact wX5_rootOf_L11 C 200 _ _ _ _ h
theorem kX5_rootOf {l : Launch} {σ : eu_T} {r : Int32} {σ' : eu_T} {a1 : Int32}  (h : fX5_rootOf σ a1 = some (r, σ')) : eu_KI l yX5_rootOf (Cond.code yX5_rootOf cX5_rootOf 6 (some .int) :: eu_TB) ({ frames := 3, cells := 0, slots := 0, locals := 69 } : Room) 25 12 (fun ad => [.ref (ad 25), .int a1]) σ σ' r :=
  eu_KI_of (by decide) (by decide) rfl (fun _ => Nat.le_of_ble_eq_true rfl) (fun E C => wX5_rootOf C h)
theorem cw_X5_root_X5_find_144 {E : eu_E} (C : eu_C E ({ frames := 4, cells := 0, slots := 0, locals := 94 } : Room) 25 12 2 cX5_root RX5 (Cond.code yX5_root cX5_root 2 (some .int) :: eu_TB) (some .int)) : CallW (eu_R E) (eu_s E) (eu_a E) RX5 RX5 144 yX5_find cX5_find 1 none (Cond.code yX5_find cX5_find 1 none :: eu_TB) ({ frames := 3, cells := 0, slots := 0, locals := 69 } : Room) 0 0 0 := eu_cwV C tw_244 tw_245 tw_246 tw_5 tw_247 rfl rfl (by decide +kernel) (by decide)
theorem cw_X5_root_X5_in_44 {E : eu_E} (C : eu_C E ({ frames := 4, cells := 0, slots := 0, locals := 94 } : Room) 25 12 2 cX5_root RX5 (Cond.code yX5_root cX5_root 2 (some .int) :: eu_TB) (some .int)) : CallB (eu_R E) (eu_s E) (eu_a E) RX5 44 yX5_in cX5_in 6 (some .boolean) (Cond.code yX5_in cX5_in 6 (some .boolean) :: eu_TB) ({ frames := 0, cells := 0, slots := 0, locals := 0 } : Room) 0 0 3 ∧ (Cond.static yX5_in).before (eu_a E) (eu_s E) = true := eu_cwS C tw_109 tw_110 tw_5 tw_111 rfl rfl (by decide +kernel) (by decide)
theorem cw_X5_root_X5_rootOf_162 {E : eu_E} (C : eu_C E ({ frames := 4, cells := 0, slots := 0, locals := 94 } : Room) 25 12 2 cX5_root RX5 (Cond.code yX5_root cX5_root 2 (some .int) :: eu_TB) (some .int)) : CallW (eu_R E) (eu_s E) (eu_a E) RX5 RX5 162 yX5_rootOf cX5_rootOf 6 (some .int) (Cond.code yX5_rootOf cX5_rootOf 6 (some .int) :: eu_TB) ({ frames := 3, cells := 0, slots := 0, locals := 69 } : Room) 0 0 1 := eu_cwV C tw_338 tw_339 tw_340 tw_5 tw_341 rfl rfl (by decide +kernel) (by decide)
set_option maxHeartbeats 4000000 in
set_option maxRecDepth 100000 in
theorem wX5_root {E : eu_E} (C : eu_C E ({ frames := 4, cells := 0, slots := 0, locals := 94 } : Room) 25 12 2 cX5_root RX5 (Cond.code yX5_root cX5_root 2 (some .int) :: eu_TB) (some .int)) {σ : eu_T} {r : Int32} {σ' : eu_T} {a1 : Int32}  (h : fX5_root σ a1 = some (r, σ')) : eu_G E 25 12 2 (eu_QI E 25 12 σ' r) σ 0 [(0, .ref (eu_ad E 25)), (1, .int a1)] [] := by
  unfold fX5_root at h
  refine eg_aload_n C 0 dX5_root_0 rfl ?_
  obtain ⟨r1, σ2, hr1, h⟩ := eu_b2_some h
  refine eg_callV C (cw_X5_root_X5_find_144 C) (av := []) 25 (by decide) (kX5_find hr1) rfl rfl rfl rfl (st := []) rfl (Nat.le_of_ble_eq_true rfl) dX5_root_1 ?_
  refine eg_iload_n C 1 dX5_root_4 rfl ?_
  refine eg_i2l C dX5_root_5 ?_
  refine eg_lconst C (0 : Int64) dX5_root_6 (by decide) ?_
  refine eg_aload_n C 0 dX5_root_7 rfl ?_
  refine gf_X5_81 C (by decide) dX5_root_8 ?_
  refine eg_iconst C (1 : Int32) dX5_root_11 (by decide) ?_
  refine eg_isub C dX5_root_12 ?_
  refine eg_i2l C dX5_root_13 ?_
  refine eg_scallI C (cw_X5_root_X5_in_44 C) (av := [.long a1.toInt64, .long (0 : Int64), .long (((σ2 25 8) - (1 : Int32)).toInt64)]) (kX5_in rfl) rfl (st := []) rfl (Nat.le_of_ble_eq_true rfl) dX5_root_14 ?_
  refine eg_if_eq C 28 dX5_root_17 (by decide) (fun c => ?_) (fun c => ?_)
  · rw [if_pos c] at h
    refine eg_bipush C (-2 : Int32) dX5_root_28 (by decide) ?_
    obtain ⟨rfl, rfl⟩ := eu_inj2 h
    exact eg_iret C rfl dX5_root_30
  · rw [if_neg c] at h
    refine eg_aload_n C 0 dX5_root_20 rfl ?_
    refine eg_iload_n C 1 dX5_root_21 rfl ?_
    obtain ⟨r3, σ4, hr3, h⟩ := eu_b2_some h
    refine eg_callI C (cw_X5_root_X5_rootOf_162 C) (av := [.int a1]) 25 (by decide) (kX5_rootOf hr3) rfl rfl rfl rfl (st := []) rfl (Nat.le_of_ble_eq_true rfl) dX5_root_22 ?_
    refine eg_goto C 30 dX5_root_25 (by decide) ?_
    obtain ⟨rfl, rfl⟩ := eu_inj2 h
    exact eg_iret C rfl dX5_root_30
theorem kX5_root {l : Launch} {σ : eu_T} {r : Int32} {σ' : eu_T} {a1 : Int32}  (h : fX5_root σ a1 = some (r, σ')) : eu_KI l yX5_root (Cond.code yX5_root cX5_root 2 (some .int) :: eu_TB) ({ frames := 4, cells := 0, slots := 0, locals := 94 } : Room) 25 12 (fun ad => [.ref (ad 25), .int a1]) σ σ' r :=
  eu_KI_of (by decide) (by decide) rfl (fun _ => Nat.le_of_ble_eq_true rfl) (fun E C => wX5_root C h)
theorem cw_X5_byOf_X5_stateOf_159 {E : eu_E} (C : eu_C E ({ frames := 5, cells := 0, slots := 0, locals := 114 } : Room) 25 12 2 cX5_byOf RX5 (Cond.code yX5_byOf cX5_byOf 2 (some .int) :: eu_TB) (some .int)) : CallW (eu_R E) (eu_s E) (eu_a E) RX5 RX5 159 yX5_stateOf cX5_stateOf 3 (some .int) (Cond.code yX5_stateOf cX5_stateOf 3 (some .int) :: eu_TB) ({ frames := 4, cells := 0, slots := 0, locals := 92 } : Room) 0 0 2 := eu_cwV C tw_315 tw_316 tw_317 tw_5 tw_318 rfl rfl (by decide +kernel) (by decide)
set_option maxHeartbeats 4000000 in
set_option maxRecDepth 100000 in
theorem wX5_byOf {E : eu_E} (C : eu_C E ({ frames := 5, cells := 0, slots := 0, locals := 114 } : Room) 25 12 2 cX5_byOf RX5 (Cond.code yX5_byOf cX5_byOf 2 (some .int) :: eu_TB) (some .int)) {σ : eu_T} {r : Int32} {σ' : eu_T} {a1 : Int32}  (h : fX5_byOf σ a1 = some (r, σ')) : eu_G E 25 12 2 (eu_QI E 25 12 σ' r) σ 0 [(0, .ref (eu_ad E 25)), (1, .int a1)] [] := by
  unfold fX5_byOf at h
  refine eg_aload_n C 0 dX5_byOf_0 rfl ?_
  refine eg_iload_n C 1 dX5_byOf_1 rfl ?_
  refine eg_iconst C (0 : Int32) dX5_byOf_2 (by decide) ?_
  obtain ⟨r1, σ2, hr1, h⟩ := eu_b2_some h
  refine eg_callI C (cw_X5_byOf_X5_stateOf_159 C) (av := [.int a1, .int (0 : Int32)]) 25 (by decide) (kX5_stateOf hr1) rfl rfl rfl rfl (st := []) rfl (Nat.le_of_ble_eq_true rfl) dX5_byOf_3 ?_
  refine eg_aload_n C 0 dX5_byOf_6 rfl ?_
  refine eg_iload_n C 1 dX5_byOf_7 rfl ?_
  refine eg_iconst C (1 : Int32) dX5_byOf_8 (by decide) ?_
  refine eg_iadd C dX5_byOf_9 ?_
  refine eg_iconst C (0 : Int32) dX5_byOf_10 (by decide) ?_
  obtain ⟨r3, σ4, hr3, h⟩ := eu_b2_some h
  refine eg_callI C (cw_X5_byOf_X5_stateOf_159 C) (av := [.int (a1 + (1 : Int32)), .int (0 : Int32)]) 25 (by decide) (kX5_stateOf hr3) rfl rfl rfl rfl (st := [.int r1]) rfl (Nat.le_of_ble_eq_true rfl) dX5_byOf_11 ?_
  refine eg_ixor C dX5_byOf_14 ?_
  obtain ⟨rfl, rfl⟩ := eu_inj2 h
  exact eg_iret C rfl dX5_byOf_15
theorem kX5_byOf {l : Launch} {σ : eu_T} {r : Int32} {σ' : eu_T} {a1 : Int32}  (h : fX5_byOf σ a1 = some (r, σ')) : eu_KI l yX5_byOf (Cond.code yX5_byOf cX5_byOf 2 (some .int) :: eu_TB) ({ frames := 5, cells := 0, slots := 0, locals := 114 } : Room) 25 12 (fun ad => [.ref (ad 25), .int a1]) σ σ' r :=
  eu_KI_of (by decide) (by decide) rfl (fun _ => Nat.le_of_ble_eq_true rfl) (fun E C => wX5_byOf C h)
theorem cw_X5_by_X5_reads_100 {E : eu_E} (C : eu_C E ({ frames := 6, cells := 0, slots := 0, locals := 135 } : Room) 25 12 2 cX5_by RX5 (Cond.code yX5_by cX5_by 2 (some .int) :: eu_TB) (some .int)) : CallW (eu_R E) (eu_s E) (eu_a E) RX5 RX5 100 yX5_reads cX5_reads 2 (some .int) (Cond.code yX5_reads cX5_reads 2 (some .int) :: eu_TB) ({ frames := 2, cells := 0, slots := 0, locals := 48 } : Room) 0 0 0 := eu_cwV C tw_131 tw_132 tw_133 tw_5 tw_134 rfl rfl (by decide +kernel) (by decide)
theorem cw_X5_by_X5_in_44 {E : eu_E} (C : eu_C E ({ frames := 6, cells := 0, slots := 0, locals := 135 } : Room) 25 12 2 cX5_by RX5 (Cond.code yX5_by cX5_by 2 (some .int) :: eu_TB) (some .int)) : CallB (eu_R E) (eu_s E) (eu_a E) RX5 44 yX5_in cX5_in 6 (some .boolean) (Cond.code yX5_in cX5_in 6 (some .boolean) :: eu_TB) ({ frames := 0, cells := 0, slots := 0, locals := 0 } : Room) 0 0 3 ∧ (Cond.static yX5_in).before (eu_a E) (eu_s E) = true := eu_cwS C tw_109 tw_110 tw_5 tw_111 rfl rfl (by decide +kernel) (by decide)
theorem cw_X5_by_X5_byOf_165 {E : eu_E} (C : eu_C E ({ frames := 6, cells := 0, slots := 0, locals := 135 } : Room) 25 12 2 cX5_by RX5 (Cond.code yX5_by cX5_by 2 (some .int) :: eu_TB) (some .int)) : CallW (eu_R E) (eu_s E) (eu_a E) RX5 RX5 165 yX5_byOf cX5_byOf 2 (some .int) (Cond.code yX5_byOf cX5_byOf 2 (some .int) :: eu_TB) ({ frames := 5, cells := 0, slots := 0, locals := 114 } : Room) 0 0 1 := eu_cwV C tw_350 tw_351 tw_352 tw_5 tw_353 rfl rfl (by decide +kernel) (by decide)
set_option maxHeartbeats 4000000 in
set_option maxRecDepth 100000 in
theorem wX5_by {E : eu_E} (C : eu_C E ({ frames := 6, cells := 0, slots := 0, locals := 135 } : Room) 25 12 2 cX5_by RX5 (Cond.code yX5_by cX5_by 2 (some .int) :: eu_TB) (some .int)) {σ : eu_T} {r : Int32} {σ' : eu_T} {a1 : Int32}  (h : fX5_by σ a1 = some (r, σ')) : eu_G E 25 12 2 (eu_QI E 25 12 σ' r) σ 0 [(0, .ref (eu_ad E 25)), (1, .int a1)] [] := by
  unfold fX5_by at h
  refine eg_aload_n C 0 dX5_by_0 rfl ?_
  obtain ⟨r1, σ2, hr1, h⟩ := eu_b2_some h
  refine eg_callI C (cw_X5_by_X5_reads_100 C) (av := []) 25 (by decide) (kX5_reads hr1) rfl rfl rfl rfl (st := []) rfl (Nat.le_of_ble_eq_true rfl) dX5_by_1 ?_
  refine eg_pop C dX5_by_4 rfl ?_
  refine eg_iload_n C 1 dX5_by_5 rfl ?_
  refine eg_i2l C dX5_by_6 ?_
  refine eg_lconst C (0 : Int64) dX5_by_7 (by decide) ?_
  refine eg_aload_n C 0 dX5_by_8 rfl ?_
  refine gf_X5_108 C (by decide) dX5_by_9 ?_
  refine eg_iconst C (1 : Int32) dX5_by_12 (by decide) ?_
  refine eg_isub C dX5_by_13 ?_
  refine eg_i2l C dX5_by_14 ?_
  refine eg_scallI C (cw_X5_by_X5_in_44 C) (av := [.long a1.toInt64, .long (0 : Int64), .long (((σ2 25 10) - (1 : Int32)).toInt64)]) (kX5_in rfl) rfl (st := []) rfl (Nat.le_of_ble_eq_true rfl) dX5_by_15 ?_
  refine eg_if_eq C 29 dX5_by_18 (by decide) (fun c => ?_) (fun c => ?_)
  · rw [if_pos c] at h
    refine eg_bipush C (-2 : Int32) dX5_by_29 (by decide) ?_
    obtain ⟨rfl, rfl⟩ := eu_inj2 h
    exact eg_iret C rfl dX5_by_31
  · rw [if_neg c] at h
    refine eg_aload_n C 0 dX5_by_21 rfl ?_
    refine eg_iload_n C 1 dX5_by_22 rfl ?_
    obtain ⟨r3, σ4, hr3, h⟩ := eu_b2_some h
    refine eg_callI C (cw_X5_by_X5_byOf_165 C) (av := [.int a1]) 25 (by decide) (kX5_byOf hr3) rfl rfl rfl rfl (st := []) rfl (Nat.le_of_ble_eq_true rfl) dX5_by_23 ?_
    refine eg_goto C 31 dX5_by_26 (by decide) ?_
    obtain ⟨rfl, rfl⟩ := eu_inj2 h
    exact eg_iret C rfl dX5_by_31
theorem kX5_by {l : Launch} {σ : eu_T} {r : Int32} {σ' : eu_T} {a1 : Int32}  (h : fX5_by σ a1 = some (r, σ')) : eu_KI l yX5_by (Cond.code yX5_by cX5_by 2 (some .int) :: eu_TB) ({ frames := 6, cells := 0, slots := 0, locals := 135 } : Room) 25 12 (fun ad => [.ref (ad 25), .int a1]) σ σ' r :=
  eu_KI_of (by decide) (by decide) rfl (fun _ => Nat.le_of_ble_eq_true rfl) (fun E C => wX5_by C h)
theorem cw_X5_least_X5_isIn_127 {E : eu_E} (C : eu_C E ({ frames := 1, cells := 0, slots := 0, locals := 21 } : Room) 25 12 2 cX5_least RX5 (Cond.code yX5_least cX5_least 2 (some .int) :: eu_TB) (some .int)) : CallB (eu_R E) (eu_s E) (eu_a E) RX5 127 yX5_isIn cX5_isIn 2 (some .boolean) (Cond.code yX5_isIn cX5_isIn 2 (some .boolean) :: eu_TB) ({ frames := 0, cells := 0, slots := 0, locals := 0 } : Room) 0 0 2 ∧ (Cond.static yX5_isIn).before (eu_a E) (eu_s E) = true := eu_cwS C tw_258 tw_259 tw_5 tw_260 rfl rfl (by decide +kernel) (by decide)
set_option maxHeartbeats 4000000 in
set_option maxRecDepth 100000 in
theorem wX5_least_J22 {E : eu_E} (C : eu_C E ({ frames := 1, cells := 0, slots := 0, locals := 21 } : Room) 25 12 2 cX5_least RX5 (Cond.code yX5_least cX5_least 2 (some .int) :: eu_TB) (some .int)) {σ : eu_T} {r : Int32}   (v1 : Int32)  (h : fX5_least_J22  v1 = some r) : eu_G E 25 12 2 (eu_QI E 25 12 σ r) σ 22 [(1, .int v1)] [] := by
  unfold fX5_least_J22 at h
  refine eg_iload_n C 0 dX5_least_22 rfl ?_
  refine eg_bipush C (12 : Int32) dX5_least_23 (by decide) ?_
  refine eg_icmp_ne C 32 dX5_least_25 (by decide) (fun c => ?_) (fun c => ?_)
  · rw [if_neg c] at h
    refine eg_iload_n C 0 dX5_least_32 rfl ?_
    obtain rfl := Option.some.inj h
    exact eg_iret C rfl dX5_least_33
  · rw [if_pos c] at h
    refine eg_iconst C (-1 : Int32) dX5_least_28 (by decide) ?_
    refine eg_goto C 33 dX5_least_29 (by decide) ?_
    obtain rfl := Option.some.inj h
    exact eg_iret C rfl dX5_least_33
set_option maxHeartbeats 4000000 in
set_option maxRecDepth 100000 in
theorem wX5_least_L2 {E : eu_E} (C : eu_C E ({ frames := 1, cells := 0, slots := 0, locals := 21 } : Room) 25 12 2 cX5_least RX5 (Cond.code yX5_least cX5_least 2 (some .int) :: eu_TB) (some .int)) {σ : eu_T} {r : Int32}   : ∀ (n : Nat) (v0 : Int32) (v1 : Int32), fX5_least_L2 n v0 v1 = some r → eu_G E 25 12 2 (eu_QI E 25 12 σ r) σ 2 [(0, .int v0), (1, .int v1)] [] := by
  intro n
  induction n with
  | zero =>
    intro v0 v1  h
    rw [fX5_least_L2_z] at h
    cases h
  | succ n ih =>
    intro v0 v1  h
    rw [fX5_least_L2_s] at h
    refine eg_iload_n C 1 dX5_least_2 rfl ?_
    refine eg_bipush C (12 : Int32) dX5_least_3 (by decide) ?_
    refine eg_icmp_ge C 22 dX5_least_5 (by decide) (fun c => ?_) (fun c => ?_)
    · rw [if_pos c] at h
      refine eg_sub C [1] rfl ?_
      exact wX5_least_J22 C _ h
    · rw [if_neg c] at h
      refine eg_iload_n C 0 dX5_least_8 rfl ?_
      refine eg_iload_n C 1 dX5_least_9 rfl ?_
      refine eg_scallI C (cw_X5_least_X5_isIn_127 C) (av := [.int v0, .int v1]) (kX5_isIn rfl) rfl (st := []) rfl (Nat.le_of_ble_eq_true rfl) dX5_least_10 ?_
      refine eg_if_ne C 22 dX5_least_13 (by decide) (fun c => ?_) (fun c => ?_)
      · rw [if_neg c] at h
        refine eg_sub C [1] rfl ?_
        exact wX5_least_J22 C _ h
      · rw [if_pos c] at h
        refine eg_iinc C 1 (v1 + (1 : Int32)) [(1, .int (v1 + (1 : Int32))), (0, .int v0)] dX5_least_16 rfl rfl (by decide) rfl ?_
        refine eg_goto C 2 dX5_least_19 (by decide) ?_
        refine eg_sub C [1, 0] rfl ?_
        exact ih _ _ h
set_option maxHeartbeats 4000000 in
set_option maxRecDepth 100000 in
theorem wX5_least {E : eu_E} (C : eu_C E ({ frames := 1, cells := 0, slots := 0, locals := 21 } : Room) 25 12 2 cX5_least RX5 (Cond.code yX5_least cX5_least 2 (some .int) :: eu_TB) (some .int)) {σ : eu_T} {r : Int32} {a0 : Int32}  (h : fX5_least a0 = some r) : eu_G E 25 12 2 (eu_QI E 25 12 σ r) σ 0 [(0, .int a0)] [] := by
  unfold fX5_least at h
  refine eg_iconst C (0 : Int32) dX5_least_0 (by decide) ?_
  refine eg_istore_n C [(1, .int (0 : Int32)), (0, .int a0)] dX5_least_1 rfl (by decide) rfl ?_
  refine eg_sub C [1, 0] rfl ?_
  exact wX5_least_L2 C 200 _ _ h
theorem kX5_least {l : Launch} {σ : eu_T} {r : Int32} {a0 : Int32}  (h : fX5_least a0 = some r) : eu_KI l yX5_least (Cond.code yX5_least cX5_least 2 (some .int) :: eu_TB) ({ frames := 1, cells := 0, slots := 0, locals := 21 } : Room) 25 12 (fun _ => [.int a0]) σ σ r :=
  eu_KI_of (by decide) (by decide) rfl (fun _ => Nat.le_of_ble_eq_true rfl) (fun E C => wX5_least C h)
