theorem cw_X5_type_X5_in_44 {E : eu_E} (C : eu_C E ({ frames := 1, cells := 0, slots := 0, locals := 25 } : Room) 25 12 2 cX5_type RX5 (Cond.code yX5_type cX5_type 2 (some .int) :: eu_TB) (some .int)) : CallB (eu_R E) (eu_s E) (eu_a E) RX5 44 yX5_in cX5_in 6 (some .boolean) (Cond.code yX5_in cX5_in 6 (some .boolean) :: eu_TB) ({ frames := 0, cells := 0, slots := 0, locals := 0 } : Room) 0 0 3 ∧ (Cond.static yX5_in).before (eu_a E) (eu_s E) = true := eu_cwS C tw_109 tw_110 tw_5 tw_111 rfl rfl (by decide +kernel) (by decide)
set_option maxHeartbeats 4000000 in
set_option maxRecDepth 100000 in
theorem wX5_type {E : eu_E} (C : eu_C E ({ frames := 1, cells := 0, slots := 0, locals := 25 } : Room) 25 12 2 cX5_type RX5 (Cond.code yX5_type cX5_type 2 (some .int) :: eu_TB) (some .int)) {σ : eu_T} {r : Int32} {σ' : eu_T} {a1 : Int32}  (h : fX5_type σ a1 = some (r, σ')) : eu_G E 25 12 2 (eu_QI E 25 12 σ' r) σ 0 [(0, .ref (eu_ad E 25)), (1, .int a1)] [] := by
  unfold fX5_type at h
  refine eg_iload_n C 1 dX5_type_0 rfl ?_
  refine eg_i2l C dX5_type_1 ?_
  refine eg_lconst C (0 : Int64) dX5_type_2 (by decide) ?_
  refine eg_ldc2 C (255 : Int64) dX5_type_3 (List.mem_cons_of_mem _ tw_107) ?_
  refine eg_scallI C (cw_X5_type_X5_in_44 C) (av := [.long a1.toInt64, .long (0 : Int64), .long (255 : Int64)]) (kX5_in rfl) rfl (st := []) rfl (Nat.le_of_ble_eq_true rfl) dX5_type_6 ?_
  refine eg_if_ne C 15 dX5_type_9 (by decide) (fun c => ?_) (fun c => ?_)
  · rw [if_neg c] at h
    refine eg_aload_n C 0 dX5_type_15 rfl ?_
    refine gf_X5_75 C (by decide) dX5_type_16 ?_
    refine eg_bipush C (60 : Int32) dX5_type_19 (by decide) ?_
    refine eg_icmp_ne C 27 dX5_type_21 (by decide) (fun c => ?_) (fun c => ?_)
    · rw [if_neg c] at h
      refine eg_aload_n C 0 dX5_type_27 rfl ?_
      refine gf_X5_22 C (by decide) dX5_type_28 ?_
      refine eg_aload_n C 0 dX5_type_31 rfl ?_
      refine gf_X5_75 C (by decide) dX5_type_32 ?_
      refine eg_iload_n C 1 dX5_type_35 rfl ?_
      obtain ⟨g1, h⟩ := eu_gd_some h
      refine eg_iast C 30 (by decide) (z := 60) (fun _ => rfl) (eu_in_vp g1) dX5_type_36 ?_
      obtain ⟨σ2, eσ2, h⟩ := eu_lt_x h
      rw [← eσ2]
      refine eg_aload_n C 0 dX5_type_37 rfl ?_
      refine eg_dup C dX5_type_38 rfl ?_
      refine gf_X5_75 C (by decide) dX5_type_39 ?_
      refine eg_iconst C (1 : Int32) dX5_type_42 (by decide) ?_
      refine eg_iadd C dX5_type_43 ?_
      refine pf_X5_75 C (by decide) dX5_type_44 ?_
      obtain ⟨σ3, eσ3, h⟩ := eu_lt_x h
      rw [← eσ3]
      refine eg_aload_n C 0 dX5_type_47 rfl ?_
      refine gf_X5_75 C (by decide) dX5_type_48 ?_
      obtain ⟨rfl, rfl⟩ := eu_inj2 h
      exact eg_iret C rfl dX5_type_51
    · rw [if_pos c] at h
      refine eg_bipush C (-4 : Int32) dX5_type_24 (by decide) ?_
      obtain ⟨rfl, rfl⟩ := eu_inj2 h
      exact eg_iret C rfl dX5_type_26
  · rw [if_pos c] at h
    refine eg_bipush C (-2 : Int32) dX5_type_12 (by decide) ?_
    obtain ⟨rfl, rfl⟩ := eu_inj2 h
    exact eg_iret C rfl dX5_type_14
theorem kX5_type {l : Launch} {σ : eu_T} {r : Int32} {σ' : eu_T} {a1 : Int32}  (h : fX5_type σ a1 = some (r, σ')) : eu_KI l yX5_type (Cond.code yX5_type cX5_type 2 (some .int) :: eu_TB) ({ frames := 1, cells := 0, slots := 0, locals := 25 } : Room) 25 12 (fun ad => [.ref (ad 25), .int a1]) σ σ' r :=
  eu_KI_of (by decide) (by decide) rfl (fun _ => Nat.le_of_ble_eq_true rfl) (fun E C => wX5_type C h)
set_option maxHeartbeats 4000000 in
set_option maxRecDepth 100000 in
theorem wX5_wipe {E : eu_E} (C : eu_C E ({ frames := 0, cells := 0, slots := 0, locals := 0 } : Room) 25 12 2 cX5_wipe RX5 (Cond.code yX5_wipe cX5_wipe 2 (some .int) :: eu_TB) (some .int)) {σ : eu_T} {r : Int32} {σ' : eu_T}   (h : fX5_wipe σ = some (r, σ')) : eu_G E 25 12 2 (eu_QI E 25 12 σ' r) σ 0 [(0, .ref (eu_ad E 25))] [] := by
  unfold fX5_wipe at h
  refine eg_aload_n C 0 dX5_wipe_0 rfl ?_
  refine gf_X5_75 C (by decide) dX5_wipe_1 ?_
  refine eg_istore_n C [(1, .int (σ 25 6)), (0, .ref (eu_ad E 25))] dX5_wipe_4 rfl (by decide) rfl ?_
  refine eg_aload_n C 1 dX5_wipe_5 rfl ?_
  refine eg_iconst C (0 : Int32) dX5_wipe_6 (by decide) ?_
  refine pf_X5_75 C (by decide) dX5_wipe_7 ?_
  obtain ⟨σ1, eσ1, h⟩ := eu_lt_x h
  rw [← eσ1]
  refine eg_iload_n C 0 dX5_wipe_10 rfl ?_
  obtain ⟨rfl, rfl⟩ := eu_inj2 h
  exact eg_iret C rfl dX5_wipe_11
theorem kX5_wipe {l : Launch} {σ : eu_T} {r : Int32} {σ' : eu_T}   (h : fX5_wipe σ = some (r, σ')) : eu_KI l yX5_wipe (Cond.code yX5_wipe cX5_wipe 2 (some .int) :: eu_TB) ({ frames := 0, cells := 0, slots := 0, locals := 0 } : Room) 25 12 (fun ad => [.ref (ad 25)]) σ σ' r :=
  eu_KI_of (by decide) (by decide) rfl (fun _ => Nat.le_of_ble_eq_true rfl) (fun E C => wX5_wipe C h)
set_option maxHeartbeats 4000000 in
set_option maxRecDepth 100000 in
theorem wX5_here {E : eu_E} (C : eu_C E ({ frames := 0, cells := 0, slots := 0, locals := 0 } : Room) 25 12 1 cX5_here RX5 (Cond.code yX5_here cX5_here 1 (some .int) :: eu_TB) (some .int)) {σ : eu_T} {r : Int32}   (h : fX5_here σ = some r) : eu_G E 25 12 1 (eu_QI E 25 12 σ r) σ 0 [(0, .ref (eu_ad E 25))] [] := by
  unfold fX5_here at h
  refine eg_aload_n C 0 dX5_here_0 rfl ?_
  refine gf_X5_78 C (by decide) dX5_here_1 ?_
  refine eg_aload_n C 0 dX5_here_4 rfl ?_
  refine gf_X5_75 C (by decide) dX5_here_5 ?_
  refine eg_icmp_ge C 23 dX5_here_8 (by decide) (fun c => ?_) (fun c => ?_)
  · rw [if_pos c] at h
    refine eg_iconst C (-1 : Int32) dX5_here_23 (by decide) ?_
    obtain rfl := Option.some.inj h
    exact eg_iret C rfl dX5_here_24
  · rw [if_neg c] at h
    refine eg_aload_n C 0 dX5_here_11 rfl ?_
    refine gf_X5_22 C (by decide) dX5_here_12 ?_
    refine eg_aload_n C 0 dX5_here_15 rfl ?_
    refine gf_X5_78 C (by decide) dX5_here_16 ?_
    obtain ⟨g1, h⟩ := eu_gd_some h
    refine eg_iald C 30 (by decide) (z := 60) (fun _ => rfl) (eu_in_vp g1) dX5_here_19 ?_
    refine eg_goto C 24 dX5_here_20 (by decide) ?_
    obtain rfl := Option.some.inj h
    exact eg_iret C rfl dX5_here_24
theorem kX5_here {l : Launch} {σ : eu_T} {r : Int32}   (h : fX5_here σ = some r) : eu_KI l yX5_here (Cond.code yX5_here cX5_here 1 (some .int) :: eu_TB) ({ frames := 0, cells := 0, slots := 0, locals := 0 } : Room) 25 12 (fun ad => [.ref (ad 25)]) σ σ r :=
  eu_KI_of (by decide) (by decide) rfl (fun _ => Nat.le_of_ble_eq_true rfl) (fun E C => wX5_here C h)
set_option maxHeartbeats 4000000 in
set_option maxRecDepth 100000 in
theorem wX5_none {E : eu_E} (C : eu_C E ({ frames := 0, cells := 0, slots := 0, locals := 0 } : Room) 25 12 1 cX5_none RX5 (Cond.code yX5_none cX5_none 1 (some .int) :: eu_TB) (some .int)) {σ : eu_T} {r : Int32} {σ' : eu_T}   (h : fX5_none σ = some (r, σ')) : eu_G E 25 12 1 (eu_QI E 25 12 σ' r) σ 0 [(0, .ref (eu_ad E 25))] [] := by
  unfold fX5_none at h
  refine eg_aload_n C 0 dX5_none_0 rfl ?_
  refine eg_iconst C (0 : Int32) dX5_none_1 (by decide) ?_
  refine pf_X5_81 C (by decide) dX5_none_2 ?_
  obtain ⟨σ1, eσ1, h⟩ := eu_lt_x h
  rw [← eσ1]
  refine eg_aload_n C 0 dX5_none_5 rfl ?_
  refine gf_X5_78 C (by decide) dX5_none_6 ?_
  obtain ⟨rfl, rfl⟩ := eu_inj2 h
  exact eg_iret C rfl dX5_none_9
theorem kX5_none {l : Launch} {σ : eu_T} {r : Int32} {σ' : eu_T}   (h : fX5_none σ = some (r, σ')) : eu_KI l yX5_none (Cond.code yX5_none cX5_none 1 (some .int) :: eu_TB) ({ frames := 0, cells := 0, slots := 0, locals := 0 } : Room) 25 12 (fun ad => [.ref (ad 25)]) σ σ' r :=
  eu_KI_of (by decide) (by decide) rfl (fun _ => Nat.le_of_ble_eq_true rfl) (fun E C => wX5_none C h)
theorem cw_X5_readsPart_X5_here_84 {E : eu_E} (C : eu_C E ({ frames := 1, cells := 0, slots := 0, locals := 25 } : Room) 25 12 4 cX5_readsPart RX5 (Cond.code yX5_readsPart cX5_readsPart 4 (some .boolean) :: eu_TB) (some .boolean)) : CallW (eu_R E) (eu_s E) (eu_a E) RX5 RX5 84 yX5_here cX5_here 1 (some .int) (Cond.code yX5_here cX5_here 1 (some .int) :: eu_TB) ({ frames := 0, cells := 0, slots := 0, locals := 0 } : Room) 0 0 0 := eu_cwV C tw_142 tw_143 tw_144 tw_5 tw_145 rfl rfl (by decide +kernel) (by decide)
theorem cw_X5_readsPart_X5_in_44 {E : eu_E} (C : eu_C E ({ frames := 1, cells := 0, slots := 0, locals := 25 } : Room) 25 12 4 cX5_readsPart RX5 (Cond.code yX5_readsPart cX5_readsPart 4 (some .boolean) :: eu_TB) (some .boolean)) : CallB (eu_R E) (eu_s E) (eu_a E) RX5 44 yX5_in cX5_in 6 (some .boolean) (Cond.code yX5_in cX5_in 6 (some .boolean) :: eu_TB) ({ frames := 0, cells := 0, slots := 0, locals := 0 } : Room) 0 0 3 ∧ (Cond.static yX5_in).before (eu_a E) (eu_s E) = true := eu_cwS C tw_109 tw_110 tw_5 tw_111 rfl rfl (by decide +kernel) (by decide)
theorem cw_X5_readsPart_X5_ones_90 {E : eu_E} (C : eu_C E ({ frames := 1, cells := 0, slots := 0, locals := 25 } : Room) 25 12 4 cX5_readsPart RX5 (Cond.code yX5_readsPart cX5_readsPart 4 (some .boolean) :: eu_TB) (some .boolean)) : CallB (eu_R E) (eu_s E) (eu_a E) RX5 90 yX5_ones cX5_ones 3 (some .int) (Cond.code yX5_ones cX5_ones 3 (some .int) :: eu_TB) ({ frames := 0, cells := 0, slots := 0, locals := 0 } : Room) 0 0 1 ∧ (Cond.static yX5_ones).before (eu_a E) (eu_s E) = true := eu_cwS C tw_146 tw_147 tw_5 tw_148 rfl rfl (by decide +kernel) (by decide)
set_option maxHeartbeats 4000000 in
set_option maxRecDepth 100000 in
theorem wX5_readsPart_J189 {E : eu_E} (C : eu_C E ({ frames := 1, cells := 0, slots := 0, locals := 25 } : Room) 25 12 4 cX5_readsPart RX5 (Cond.code yX5_readsPart cX5_readsPart 4 (some .boolean) :: eu_TB) (some .boolean)) {r : Int32} {σ' : eu_T}   (σ : eu_T) (s0 : Int32) (s1 : Int32)  (h : fX5_readsPart_J189  σ s0 s1 = some (r, σ')) : eu_G E 25 12 4 (eu_QI E 25 12 σ' r) σ 189 [(0, .ref (eu_ad E 25))] [.int s0, .int s1, .ref (eu_ad E 31)] := by
  unfold fX5_readsPart_J189 at h
  obtain ⟨g14, h⟩ := eu_gd_some h
  refine eg_iast C 31 (by decide) (z := 36) (fun _ => rfl) (eu_in_vp g14) dX5_readsPart_189 ?_
  obtain ⟨σ15, eσ15, h⟩ := eu_lt_x h
  rw [← eσ15]
  refine eg_aload_n C 0 dX5_readsPart_190 rfl ?_
  refine eg_dup C dX5_readsPart_191 rfl ?_
  refine gf_X5_81 C (by decide) dX5_readsPart_192 ?_
  refine eg_iconst C (1 : Int32) dX5_readsPart_195 (by decide) ?_
  refine eg_iadd C dX5_readsPart_196 ?_
  refine pf_X5_81 C (by decide) dX5_readsPart_197 ?_
  obtain ⟨σ16, eσ16, h⟩ := eu_lt_x h
  rw [← eσ16]
  refine eg_iconst C (1 : Int32) dX5_readsPart_200 (by decide) ?_
  obtain ⟨rfl, rfl⟩ := eu_inj2 h
  exact eg_zret C rfl (by decide) dX5_readsPart_201
set_option maxHeartbeats 4000000 in
set_option maxRecDepth 100000 in
theorem wX5_readsPart_J150 {E : eu_E} (C : eu_C E ({ frames := 1, cells := 0, slots := 0, locals := 25 } : Room) 25 12 4 cX5_readsPart RX5 (Cond.code yX5_readsPart cX5_readsPart 4 (some .boolean) :: eu_TB) (some .boolean)) {r : Int32} {σ' : eu_T}   (σ : eu_T) (v1 : Int32) (v3 : Int32) (s0 : Int32) (s1 : Int32)  (h : fX5_readsPart_J150  σ v1 v3 s0 s1 = some (r, σ')) : eu_G E 25 12 4 (eu_QI E 25 12 σ' r) σ 150 [(0, .ref (eu_ad E 25)), (1, .int v1), (3, .int v3)] [.int s0, .int s1, .ref (eu_ad E 25)] := by
  unfold fX5_readsPart_J150 at h
  refine eg_iadd C dX5_readsPart_150 ?_
  refine pf_X5_78 C (by decide) dX5_readsPart_151 ?_
  obtain ⟨σ11, eσ11, h⟩ := eu_lt_x h
  rw [← eσ11]
  refine eg_aload_n C 0 dX5_readsPart_154 rfl ?_
  refine gf_X5_25 C (by decide) dX5_readsPart_155 ?_
  refine eg_iconst C (3 : Int32) dX5_readsPart_158 (by decide) ?_
  refine eg_aload_n C 0 dX5_readsPart_159 rfl ?_
  refine gf_X5_81 C (by decide) dX5_readsPart_160 ?_
  refine eg_imul C dX5_readsPart_163 ?_
  refine eg_iconst C (1 : Int32) dX5_readsPart_164 (by decide) ?_
  refine eg_iadd C dX5_readsPart_165 ?_
  refine eg_iload_n C 1 dX5_readsPart_166 rfl ?_
  obtain ⟨g12, h⟩ := eu_gd_some h
  refine eg_iast C 31 (by decide) (z := 36) (fun _ => rfl) (eu_in_vp g12) dX5_readsPart_167 ?_
  obtain ⟨σ13, eσ13, h⟩ := eu_lt_x h
  rw [← eσ13]
  refine eg_aload_n C 0 dX5_readsPart_168 rfl ?_
  refine gf_X5_25 C (by decide) dX5_readsPart_169 ?_
  refine eg_iconst C (3 : Int32) dX5_readsPart_172 (by decide) ?_
  refine eg_aload_n C 0 dX5_readsPart_173 rfl ?_
  refine gf_X5_81 C (by decide) dX5_readsPart_174 ?_
  refine eg_imul C dX5_readsPart_177 ?_
  refine eg_iconst C (2 : Int32) dX5_readsPart_178 (by decide) ?_
  refine eg_iadd C dX5_readsPart_179 ?_
  refine eg_iload_n C 2 dX5_readsPart_180 rfl ?_
  refine eg_if_eq C 188 dX5_readsPart_181 (by decide) (fun c => ?_) (fun c => ?_)
  · rw [if_pos c] at h
    refine eg_iconst C (0 : Int32) dX5_readsPart_188 (by decide) ?_
    refine eg_sub C [0] rfl ?_
    exact wX5_readsPart_J189 C _ _ _ h
  · rw [if_neg c] at h
    refine eg_iconst C (1 : Int32) dX5_readsPart_184 (by decide) ?_
    refine eg_goto C 189 dX5_readsPart_185 (by decide) ?_
    refine eg_sub C [0] rfl ?_
    exact wX5_readsPart_J189 C _ _ _ h
set_option maxHeartbeats 4000000 in
set_option maxRecDepth 100000 in
theorem wX5_readsPart_J135 {E : eu_E} (C : eu_C E ({ frames := 1, cells := 0, slots := 0, locals := 25 } : Room) 25 12 4 cX5_readsPart RX5 (Cond.code yX5_readsPart cX5_readsPart 4 (some .boolean) :: eu_TB) (some .boolean)) {r : Int32} {σ' : eu_T}   (σ : eu_T) (v1 : Int32) (s0 : Int32)  (h : fX5_readsPart_J135  σ v1 s0 = some (r, σ')) : eu_G E 25 12 4 (eu_QI E 25 12 σ' r) σ 135 [(0, .ref (eu_ad E 25)), (1, .int v1)] [.int s0] := by
  unfold fX5_readsPart_J135 at h
  refine eg_istore_n C [(3, .int s0), (0, .ref (eu_ad E 25)), (1, .int v1)] dX5_readsPart_135 rfl (by decide) rfl ?_
  refine eg_aload_n C 1 dX5_readsPart_136 rfl ?_
  refine eg_dup C dX5_readsPart_137 rfl ?_
  refine gf_X5_78 C (by decide) dX5_readsPart_138 ?_
  refine eg_iload_n C 0 dX5_readsPart_141 rfl ?_
  refine eg_if_eq C 149 dX5_readsPart_142 (by decide) (fun c => ?_) (fun c => ?_)
  · rw [if_pos c] at h
    refine eg_iconst C (0 : Int32) dX5_readsPart_149 (by decide) ?_
    refine eg_sub C [1, 2, 0] rfl ?_
    exact wX5_readsPart_J150 C _ _ _ _ _ h
  · rw [if_neg c] at h
    refine eg_iconst C (1 : Int32) dX5_readsPart_145 (by decide) ?_
    refine eg_goto C 150 dX5_readsPart_146 (by decide) ?_
    refine eg_sub C [1, 2, 0] rfl ?_
    exact wX5_readsPart_J150 C _ _ _ _ _ h
set_option maxHeartbeats 4000000 in
set_option maxRecDepth 100000 in
theorem wX5_readsPart_J121 {E : eu_E} (C : eu_C E ({ frames := 1, cells := 0, slots := 0, locals := 25 } : Room) 25 12 4 cX5_readsPart RX5 (Cond.code yX5_readsPart cX5_readsPart 4 (some .boolean) :: eu_TB) (some .boolean)) {r : Int32} {σ' : eu_T}   (σ : eu_T) (v1 : Int32)  (h : fX5_readsPart_J121  σ v1 = some (r, σ')) : eu_G E 25 12 4 (eu_QI E 25 12 σ' r) σ 121 [(0, .ref (eu_ad E 25)), (1, .int v1)] [] := by
  unfold fX5_readsPart_J121 at h
  refine eg_aload_n C 0 dX5_readsPart_121 rfl ?_
  obtain ⟨r10, hr10, h⟩ := eu_bd_some h
  refine eg_callI C (cw_X5_readsPart_X5_here_84 C) (av := []) 25 (by decide) (kX5_here hr10) rfl rfl rfl rfl (st := []) rfl (Nat.le_of_ble_eq_true rfl) dX5_readsPart_122 ?_
  refine eg_bipush C (33 : Int32) dX5_readsPart_125 (by decide) ?_
  refine eg_icmp_ne C 134 dX5_readsPart_127 (by decide) (fun c => ?_) (fun c => ?_)
  · rw [if_neg c] at h
    refine eg_iconst C (0 : Int32) dX5_readsPart_134 (by decide) ?_
    refine eg_sub C [0, 1] rfl ?_
    exact wX5_readsPart_J135 C _ _ _ h
  · rw [if_pos c] at h
    refine eg_iconst C (1 : Int32) dX5_readsPart_130 (by decide) ?_
    refine eg_goto C 135 dX5_readsPart_131 (by decide) ?_
    refine eg_sub C [0, 1] rfl ?_
    exact wX5_readsPart_J135 C _ _ _ h
set_option maxHeartbeats 4000000 in
set_option maxRecDepth 100000 in
theorem wX5_readsPart_L61 {E : eu_E} (C : eu_C E ({ frames := 1, cells := 0, slots := 0, locals := 25 } : Room) 25 12 4 cX5_readsPart RX5 (Cond.code yX5_readsPart cX5_readsPart 4 (some .boolean) :: eu_TB) (some .boolean)) {r : Int32} {σ' : eu_T}   : ∀ (n : Nat) (σ : eu_T) (v1 : Int32) (v2 : Int32), fX5_readsPart_L61 n σ v1 v2 = some (r, σ') → eu_G E 25 12 4 (eu_QI E 25 12 σ' r) σ 61 [(0, .ref (eu_ad E 25)), (1, .int v1), (2, .int v2)] [] := by
  intro n
  induction n with
  | zero =>
    intro σ v1 v2  h
    rw [fX5_readsPart_L61_z] at h
    cases h
  | succ n ih =>
    intro σ v1 v2  h
    rw [fX5_readsPart_L61_s] at h
    refine eg_aload_n C 0 dX5_readsPart_61 rfl ?_
    obtain ⟨r6, hr6, h⟩ := eu_bd_some h
    refine eg_callI C (cw_X5_readsPart_X5_here_84 C) (av := []) 25 (by decide) (kX5_here hr6) rfl rfl rfl rfl (st := []) rfl (Nat.le_of_ble_eq_true rfl) dX5_readsPart_62 ?_
    refine eg_bipush C (97 : Int32) dX5_readsPart_65 (by decide) ?_
    refine eg_isub C dX5_readsPart_67 ?_
    refine eg_i2l C dX5_readsPart_68 ?_
    refine eg_iload_n C 2 dX5_readsPart_69 rfl ?_
    refine eg_iconst C (1 : Int32) dX5_readsPart_70 (by decide) ?_
    refine eg_iadd C dX5_readsPart_71 ?_
    refine eg_i2l C dX5_readsPart_72 ?_
    refine eg_aload_n C 0 dX5_readsPart_73 rfl ?_
    refine gf_X5_81 C (by decide) dX5_readsPart_74 ?_
    refine eg_iconst C (1 : Int32) dX5_readsPart_77 (by decide) ?_
    refine eg_isub C dX5_readsPart_78 ?_
    refine eg_i2l C dX5_readsPart_79 ?_
    refine eg_scallI C (cw_X5_readsPart_X5_in_44 C) (av := [.long ((r6 - (97 : Int32)).toInt64), .long ((v2 + (1 : Int32)).toInt64), .long (((σ 25 8) - (1 : Int32)).toInt64)]) (kX5_in rfl) rfl (st := []) rfl (Nat.le_of_ble_eq_true rfl) dX5_readsPart_80 ?_
    refine eg_if_eq C 121 dX5_readsPart_83 (by decide) (fun c => ?_) (fun c => ?_)
    · rw [if_pos c] at h
      refine eg_sub C [0, 1] rfl ?_
      exact wX5_readsPart_J121 C _ _ h
    · rw [if_neg c] at h
      refine eg_iload_n C 1 dX5_readsPart_86 rfl ?_
      obtain ⟨r7, hr7, h⟩ := eu_bd_some h
      refine eg_scallI C (cw_X5_readsPart_X5_ones_90 C) (av := [.int v1]) (kX5_ones hr7) rfl (st := []) rfl (Nat.le_of_ble_eq_true rfl) dX5_readsPart_87 ?_
      refine eg_iconst C (3 : Int32) dX5_readsPart_90 (by decide) ?_
      refine eg_icmp_ge C 121 dX5_readsPart_91 (by decide) (fun c => ?_) (fun c => ?_)
      · rw [if_pos c] at h
        refine eg_sub C [0, 1] rfl ?_
        exact wX5_readsPart_J121 C _ _ h
      · rw [if_neg c] at h
        refine eg_aload_n C 0 dX5_readsPart_94 rfl ?_
        obtain ⟨r8, hr8, h⟩ := eu_bd_some h
        refine eg_callI C (cw_X5_readsPart_X5_here_84 C) (av := []) 25 (by decide) (kX5_here hr8) rfl rfl rfl rfl (st := []) rfl (Nat.le_of_ble_eq_true rfl) dX5_readsPart_95 ?_
        refine eg_bipush C (97 : Int32) dX5_readsPart_98 (by decide) ?_
        refine eg_isub C dX5_readsPart_100 ?_
        refine eg_istore_n C [(2, .int (r8 - (97 : Int32))), (0, .ref (eu_ad E 25)), (1, .int v1)] dX5_readsPart_101 rfl (by decide) rfl ?_
        refine eg_iload_n C 2 dX5_readsPart_102 rfl ?_
        refine eg_iconst C (1 : Int32) dX5_readsPart_103 (by decide) ?_
        refine eg_iload_n C 0 dX5_readsPart_104 rfl ?_
        refine eg_ishl C dX5_readsPart_105 ?_
        refine eg_ior C dX5_readsPart_106 ?_
        refine eg_istore_n C [(1, .int (v1 ||| ((1 : Int32) <<< ((r8 - (97 : Int32)) &&& 31)))), (2, .int (r8 - (97 : Int32))), (0, .ref (eu_ad E 25))] dX5_readsPart_107 rfl (by decide) rfl ?_
        refine eg_aload_n C 2 dX5_readsPart_108 rfl ?_
        refine eg_dup C dX5_readsPart_109 rfl ?_
        refine gf_X5_78 C (by decide) dX5_readsPart_110 ?_
        refine eg_iconst C (1 : Int32) dX5_readsPart_113 (by decide) ?_
        refine eg_iadd C dX5_readsPart_114 ?_
        refine pf_X5_78 C (by decide) dX5_readsPart_115 ?_
        obtain ⟨σ9, eσ9, h⟩ := eu_lt_x h
        rw [← eσ9]
        refine eg_goto C 61 dX5_readsPart_118 (by decide) ?_
        refine eg_sub C [2, 0, 1] rfl ?_
        exact ih _ _ _ h
set_option maxHeartbeats 4000000 in
set_option maxRecDepth 100000 in
theorem wX5_readsPart {E : eu_E} (C : eu_C E ({ frames := 1, cells := 0, slots := 0, locals := 25 } : Room) 25 12 4 cX5_readsPart RX5 (Cond.code yX5_readsPart cX5_readsPart 4 (some .boolean) :: eu_TB) (some .boolean)) {σ : eu_T} {r : Int32} {σ' : eu_T}   (h : fX5_readsPart σ = some (r, σ')) : eu_G E 25 12 4 (eu_QI E 25 12 σ' r) σ 0 [(0, .ref (eu_ad E 25))] [] := by
  unfold fX5_readsPart at h
  refine eg_aload_n C 0 dX5_readsPart_0 rfl ?_
  refine gf_X5_81 C (by decide) dX5_readsPart_1 ?_
  refine eg_bipush C (12 : Int32) dX5_readsPart_4 (by decide) ?_
  refine eg_icmp_eq C 27 dX5_readsPart_6 (by decide) (fun c => ?_) (fun c => ?_)
  · rw [if_pos c] at h
    refine eg_iconst C (0 : Int32) dX5_readsPart_27 (by decide) ?_
    obtain ⟨rfl, rfl⟩ := eu_inj2 h
    exact eg_zret C rfl (by decide) dX5_readsPart_28
  · rw [if_neg c] at h
    refine eg_aload_n C 0 dX5_readsPart_9 rfl ?_
    obtain ⟨r1, hr1, h⟩ := eu_bd_some h
    refine eg_callI C (cw_X5_readsPart_X5_here_84 C) (av := []) 25 (by decide) (kX5_here hr1) rfl rfl rfl rfl (st := []) rfl (Nat.le_of_ble_eq_true rfl) dX5_readsPart_10 ?_
    refine eg_bipush C (48 : Int32) dX5_readsPart_13 (by decide) ?_
    refine eg_isub C dX5_readsPart_15 ?_
    refine eg_i2l C dX5_readsPart_16 ?_
    refine eg_lconst C (0 : Int64) dX5_readsPart_17 (by decide) ?_
    refine eg_ldc2 C (5 : Int64) dX5_readsPart_18 (List.mem_cons_of_mem _ tw_141) ?_
    refine eg_scallI C (cw_X5_readsPart_X5_in_44 C) (av := [.long ((r1 - (48 : Int32)).toInt64), .long (0 : Int64), .long (5 : Int64)]) (kX5_in rfl) rfl (st := []) rfl (Nat.le_of_ble_eq_true rfl) dX5_readsPart_21 ?_
    refine eg_if_ne C 29 dX5_readsPart_24 (by decide) (fun c => ?_) (fun c => ?_)
    · rw [if_neg c] at h
      refine eg_iconst C (0 : Int32) dX5_readsPart_29 (by decide) ?_
      refine eg_istore_n C [(1, .int (0 : Int32)), (0, .ref (eu_ad E 25))] dX5_readsPart_30 rfl (by decide) rfl ?_
      refine eg_iconst C (-1 : Int32) dX5_readsPart_31 (by decide) ?_
      refine eg_istore_n C [(2, .int (-1 : Int32)), (1, .int (0 : Int32)), (0, .ref (eu_ad E 25))] dX5_readsPart_32 rfl (by decide) rfl ?_
      refine eg_aload_n C 2 dX5_readsPart_33 rfl ?_
      refine gf_X5_25 C (by decide) dX5_readsPart_34 ?_
      refine eg_iconst C (3 : Int32) dX5_readsPart_37 (by decide) ?_
      refine eg_aload_n C 2 dX5_readsPart_38 rfl ?_
      refine gf_X5_81 C (by decide) dX5_readsPart_39 ?_
      refine eg_imul C dX5_readsPart_42 ?_
      refine eg_aload_n C 2 dX5_readsPart_43 rfl ?_
      obtain ⟨r2, hr2, h⟩ := eu_bd_some h
      refine eg_callI C (cw_X5_readsPart_X5_here_84 C) (av := []) 25 (by decide) (kX5_here hr2) rfl rfl rfl rfl (st := [.int ((3 : Int32) * (σ 25 8)), .ref (eu_ad E 31)]) rfl (Nat.le_of_ble_eq_true rfl) dX5_readsPart_44 ?_
      refine eg_bipush C (48 : Int32) dX5_readsPart_47 (by decide) ?_
      refine eg_isub C dX5_readsPart_49 ?_
      obtain ⟨g3, h⟩ := eu_gd_some h
      refine eg_iast C 31 (by decide) (z := 36) (fun _ => rfl) (eu_in_vp g3) dX5_readsPart_50 ?_
      obtain ⟨σ4, eσ4, h⟩ := eu_lt_x h
      rw [← eσ4]
      refine eg_aload_n C 2 dX5_readsPart_51 rfl ?_
      refine eg_dup C dX5_readsPart_52 rfl ?_
      refine gf_X5_78 C (by decide) dX5_readsPart_53 ?_
      refine eg_iconst C (1 : Int32) dX5_readsPart_56 (by decide) ?_
      refine eg_iadd C dX5_readsPart_57 ?_
      refine pf_X5_78 C (by decide) dX5_readsPart_58 ?_
      obtain ⟨σ5, eσ5, h⟩ := eu_lt_x h
      rw [← eσ5]
      refine eg_sub C [2, 1, 0] rfl ?_
      exact wX5_readsPart_L61 C 200 _ _ _ h
    · rw [if_pos c] at h
      refine eg_iconst C (0 : Int32) dX5_readsPart_27 (by decide) ?_
      obtain ⟨rfl, rfl⟩ := eu_inj2 h
      exact eg_zret C rfl (by decide) dX5_readsPart_28
theorem kX5_readsPart {l : Launch} {σ : eu_T} {r : Int32} {σ' : eu_T}   (h : fX5_readsPart σ = some (r, σ')) : eu_KI l yX5_readsPart (Cond.code yX5_readsPart cX5_readsPart 4 (some .boolean) :: eu_TB) ({ frames := 1, cells := 0, slots := 0, locals := 25 } : Room) 25 12 (fun ad => [.ref (ad 25)]) σ σ' r :=
  eu_KI_of (by decide) (by decide) rfl (fun _ => Nat.le_of_ble_eq_true rfl) (fun E C => wX5_readsPart C h)
theorem cw_X5_reads_X5_readsPart_93 {E : eu_E} (C : eu_C E ({ frames := 2, cells := 0, slots := 0, locals := 48 } : Room) 25 12 2 cX5_reads RX5 (Cond.code yX5_reads cX5_reads 2 (some .int) :: eu_TB) (some .int)) : CallW (eu_R E) (eu_s E) (eu_a E) RX5 RX5 93 yX5_readsPart cX5_readsPart 4 (some .boolean) (Cond.code yX5_readsPart cX5_readsPart 4 (some .boolean) :: eu_TB) ({ frames := 1, cells := 0, slots := 0, locals := 25 } : Room) 0 0 0 := eu_cwV C tw_137 tw_138 tw_139 tw_5 tw_140 rfl rfl (by decide +kernel) (by decide)
theorem cw_X5_reads_X5_none_97 {E : eu_E} (C : eu_C E ({ frames := 2, cells := 0, slots := 0, locals := 48 } : Room) 25 12 2 cX5_reads RX5 (Cond.code yX5_reads cX5_reads 2 (some .int) :: eu_TB) (some .int)) : CallW (eu_R E) (eu_s E) (eu_a E) RX5 RX5 97 yX5_none cX5_none 1 (some .int) (Cond.code yX5_none cX5_none 1 (some .int) :: eu_TB) ({ frames := 0, cells := 0, slots := 0, locals := 0 } : Room) 0 0 0 := eu_cwV C tw_149 tw_150 tw_151 tw_5 tw_152 rfl rfl (by decide +kernel) (by decide)
theorem cw_X5_reads_X5_here_84 {E : eu_E} (C : eu_C E ({ frames := 2, cells := 0, slots := 0, locals := 48 } : Room) 25 12 2 cX5_reads RX5 (Cond.code yX5_reads cX5_reads 2 (some .int) :: eu_TB) (some .int)) : CallW (eu_R E) (eu_s E) (eu_a E) RX5 RX5 84 yX5_here cX5_here 1 (some .int) (Cond.code yX5_here cX5_here 1 (some .int) :: eu_TB) ({ frames := 0, cells := 0, slots := 0, locals := 0 } : Room) 0 0 0 := eu_cwV C tw_142 tw_143 tw_144 tw_5 tw_145 rfl rfl (by decide +kernel) (by decide)
set_option maxHeartbeats 4000000 in
set_option maxRecDepth 100000 in
theorem wX5_reads_J88 {E : eu_E} (C : eu_C E ({ frames := 2, cells := 0, slots := 0, locals := 48 } : Room) 25 12 2 cX5_reads RX5 (Cond.code yX5_reads cX5_reads 2 (some .int) :: eu_TB) (some .int)) {r : Int32} {σ' : eu_T} {k23 : eu_T → Int32 → Option (Int32 × eu_T)} (hk_23 : ∀ (σ : eu_T) (v1 : Int32), k23 σ v1 = some (r, σ') → eu_G E 25 12 2 (eu_QI E 25 12 σ' r) σ 23 [(0, .ref (eu_ad E 25)), (1, .int v1)] []) (σ : eu_T) (v1 : Int32) (s0 : Int32) (s1 : Int32)  (h : fX5_reads_J88 k23 σ v1 s0 s1 = some (r, σ')) : eu_G E 25 12 2 (eu_QI E 25 12 σ' r) σ 88 [(0, .ref (eu_ad E 25)), (1, .int v1)] [.int s0, .int s1, .ref (eu_ad E 25)] := by
  unfold fX5_reads_J88 at h
  refine eg_iadd C dX5_reads_88 ?_
  refine pf_X5_78 C (by decide) dX5_reads_89 ?_
  obtain ⟨σ10, eσ10, h⟩ := eu_lt_x h
  rw [← eσ10]
  refine eg_goto C 23 dX5_reads_92 (by decide) ?_
  refine eg_sub C [0, 1] rfl ?_
  exact hk_23 _ _ h
set_option maxHeartbeats 4000000 in
set_option maxRecDepth 100000 in
theorem wX5_reads_J74 {E : eu_E} (C : eu_C E ({ frames := 2, cells := 0, slots := 0, locals := 48 } : Room) 25 12 2 cX5_reads RX5 (Cond.code yX5_reads cX5_reads 2 (some .int) :: eu_TB) (some .int)) {r : Int32} {σ' : eu_T} {k23 : eu_T → Int32 → Option (Int32 × eu_T)} (hk_23 : ∀ (σ : eu_T) (v1 : Int32), k23 σ v1 = some (r, σ') → eu_G E 25 12 2 (eu_QI E 25 12 σ' r) σ 23 [(0, .ref (eu_ad E 25)), (1, .int v1)] []) (σ : eu_T) (v1 : Int32)  (h : fX5_reads_J74 k23 σ v1 = some (r, σ')) : eu_G E 25 12 2 (eu_QI E 25 12 σ' r) σ 74 [(0, .ref (eu_ad E 25)), (1, .int v1)] [] := by
  unfold fX5_reads_J74 at h
  refine eg_aload_n C 0 dX5_reads_74 rfl ?_
  refine eg_dup C dX5_reads_75 rfl ?_
  refine gf_X5_78 C (by decide) dX5_reads_76 ?_
  refine eg_iload_n C 1 dX5_reads_79 rfl ?_
  refine eg_if_eq C 87 dX5_reads_80 (by decide) (fun c => ?_) (fun c => ?_)
  · rw [if_pos c] at h
    refine eg_iconst C (0 : Int32) dX5_reads_87 (by decide) ?_
    refine eg_sub C [0, 1] rfl ?_
    exact wX5_reads_J88 C hk_23 _ _ _ _ h
  · rw [if_neg c] at h
    refine eg_iconst C (1 : Int32) dX5_reads_83 (by decide) ?_
    refine eg_goto C 88 dX5_reads_84 (by decide) ?_
    refine eg_sub C [0, 1] rfl ?_
    exact wX5_reads_J88 C hk_23 _ _ _ _ h
set_option maxHeartbeats 4000000 in
set_option maxRecDepth 100000 in
theorem wX5_reads_J55 {E : eu_E} (C : eu_C E ({ frames := 2, cells := 0, slots := 0, locals := 48 } : Room) 25 12 2 cX5_reads RX5 (Cond.code yX5_reads cX5_reads 2 (some .int) :: eu_TB) (some .int)) {r : Int32} {σ' : eu_T} {k23 : eu_T → Int32 → Option (Int32 × eu_T)} (hk_23 : ∀ (σ : eu_T) (v1 : Int32), k23 σ v1 = some (r, σ') → eu_G E 25 12 2 (eu_QI E 25 12 σ' r) σ 23 [(0, .ref (eu_ad E 25)), (1, .int v1)] []) (σ : eu_T) (s0 : Int32)  (h : fX5_reads_J55 k23 σ s0 = some (r, σ')) : eu_G E 25 12 2 (eu_QI E 25 12 σ' r) σ 55 [(0, .ref (eu_ad E 25))] [.int s0] := by
  unfold fX5_reads_J55 at h
  refine eg_istore_n C [(1, .int s0), (0, .ref (eu_ad E 25))] dX5_reads_55 rfl (by decide) rfl ?_
  refine eg_iload_n C 0 dX5_reads_56 rfl ?_
  refine eg_if_eq C 74 dX5_reads_57 (by decide) (fun c => ?_) (fun c => ?_)
  · rw [if_pos c] at h
    refine eg_sub C [1, 0] rfl ?_
    exact wX5_reads_J74 C hk_23 _ _ h
  · rw [if_neg c] at h
    refine eg_aload_n C 1 dX5_reads_60 rfl ?_
    obtain ⟨r7, hr7, h⟩ := eu_bd_some h
    refine eg_callI C (cw_X5_reads_X5_here_84 C) (av := []) 25 (by decide) (kX5_here hr7) rfl rfl rfl rfl (st := []) rfl (Nat.le_of_ble_eq_true rfl) dX5_reads_61 ?_
    refine eg_bipush C (59 : Int32) dX5_reads_64 (by decide) ?_
    refine eg_icmp_eq C 74 dX5_reads_66 (by decide) (fun c => ?_) (fun c => ?_)
    · rw [if_pos c] at h
      refine eg_sub C [1, 0] rfl ?_
      exact wX5_reads_J74 C hk_23 _ _ h
    · rw [if_neg c] at h
      refine eg_aload_n C 1 dX5_reads_69 rfl ?_
      obtain ⟨r8, σ9, hr8, h⟩ := eu_b2_some h
      refine eg_callI C (cw_X5_reads_X5_none_97 C) (av := []) 25 (by decide) (kX5_none hr8) rfl rfl rfl rfl (st := []) rfl (Nat.le_of_ble_eq_true rfl) dX5_reads_70 ?_
      obtain ⟨rfl, rfl⟩ := eu_inj2 h
      exact eg_iret C rfl dX5_reads_73
set_option maxHeartbeats 4000000 in
set_option maxRecDepth 100000 in
theorem wX5_reads_L23 {E : eu_E} (C : eu_C E ({ frames := 2, cells := 0, slots := 0, locals := 48 } : Room) 25 12 2 cX5_reads RX5 (Cond.code yX5_reads cX5_reads 2 (some .int) :: eu_TB) (some .int)) {r : Int32} {σ' : eu_T}   : ∀ (n : Nat) (σ : eu_T) (v1 : Int32), fX5_reads_L23 n σ v1 = some (r, σ') → eu_G E 25 12 2 (eu_QI E 25 12 σ' r) σ 23 [(0, .ref (eu_ad E 25)), (1, .int v1)] [] := by
  intro n
  induction n with
  | zero =>
    intro σ v1  h
    rw [fX5_reads_L23_z] at h
    cases h
  | succ n ih =>
    intro σ v1  h
    rw [fX5_reads_L23_s] at h
    refine eg_iload_n C 1 dX5_reads_23 rfl ?_
    refine eg_if_eq C 95 dX5_reads_24 (by decide) (fun c => ?_) (fun c => ?_)
    · rw [if_pos c] at h
      refine eg_iconst C (-1 : Int32) dX5_reads_95 (by decide) ?_
      obtain ⟨rfl, rfl⟩ := eu_inj2 h
      exact eg_iret C rfl dX5_reads_96
    · rw [if_neg c] at h
      refine eg_aload_n C 0 dX5_reads_27 rfl ?_
      obtain ⟨r3, σ4, hr3, h⟩ := eu_b2_some h
      refine eg_callI C (cw_X5_reads_X5_readsPart_93 C) (av := []) 25 (by decide) (kX5_readsPart hr3) rfl rfl rfl rfl (st := []) rfl (Nat.le_of_ble_eq_true rfl) dX5_reads_28 ?_
      refine eg_if_ne C 39 dX5_reads_31 (by decide) (fun c => ?_) (fun c => ?_)
      · rw [if_neg c] at h
        refine eg_aload_n C 0 dX5_reads_39 rfl ?_
        refine gf_X5_78 C (by decide) dX5_reads_40 ?_
        refine eg_aload_n C 0 dX5_reads_43 rfl ?_
        refine gf_X5_75 C (by decide) dX5_reads_44 ?_
        refine eg_icmp_ge C 54 dX5_reads_47 (by decide) (fun c => ?_) (fun c => ?_)
        · rw [if_pos c] at h
          refine eg_iconst C (0 : Int32) dX5_reads_54 (by decide) ?_
          refine eg_sub C [0] rfl ?_
          exact wX5_reads_J55 C ih _ _ h
        · rw [if_neg c] at h
          refine eg_iconst C (1 : Int32) dX5_reads_50 (by decide) ?_
          refine eg_goto C 55 dX5_reads_51 (by decide) ?_
          refine eg_sub C [0] rfl ?_
          exact wX5_reads_J55 C ih _ _ h
      · rw [if_pos c] at h
        refine eg_aload_n C 0 dX5_reads_34 rfl ?_
        obtain ⟨r5, σ6, hr5, h⟩ := eu_b2_some h
        refine eg_callI C (cw_X5_reads_X5_none_97 C) (av := []) 25 (by decide) (kX5_none hr5) rfl rfl rfl rfl (st := []) rfl (Nat.le_of_ble_eq_true rfl) dX5_reads_35 ?_
        obtain ⟨rfl, rfl⟩ := eu_inj2 h
        exact eg_iret C rfl dX5_reads_38
set_option maxHeartbeats 4000000 in
set_option maxRecDepth 100000 in
theorem wX5_reads {E : eu_E} (C : eu_C E ({ frames := 2, cells := 0, slots := 0, locals := 48 } : Room) 25 12 2 cX5_reads RX5 (Cond.code yX5_reads cX5_reads 2 (some .int) :: eu_TB) (some .int)) {σ : eu_T} {r : Int32} {σ' : eu_T}   (h : fX5_reads σ = some (r, σ')) : eu_G E 25 12 2 (eu_QI E 25 12 σ' r) σ 0 [(0, .ref (eu_ad E 25))] [] := by
  unfold fX5_reads at h
  refine eg_aload_n C 0 dX5_reads_0 rfl ?_
  refine eg_iconst C (0 : Int32) dX5_reads_1 (by decide) ?_
  refine pf_X5_78 C (by decide) dX5_reads_2 ?_
  obtain ⟨σ1, eσ1, h⟩ := eu_lt_x h
  rw [← eσ1]
  refine eg_aload_n C 0 dX5_reads_5 rfl ?_
  refine eg_iconst C (0 : Int32) dX5_reads_6 (by decide) ?_
  refine pf_X5_81 C (by decide) dX5_reads_7 ?_
  obtain ⟨σ2, eσ2, h⟩ := eu_lt_x h
  rw [← eσ2]
  refine eg_aload_n C 0 dX5_reads_10 rfl ?_
  refine gf_X5_75 C (by decide) dX5_reads_11 ?_
  refine eg_if_le C 21 dX5_reads_14 (by decide) (fun c => ?_) (fun c => ?_)
  · rw [if_pos c] at h
    refine eg_iconst C (0 : Int32) dX5_reads_21 (by decide) ?_
    refine eg_istore_n C [(1, .int (0 : Int32)), (0, .ref (eu_ad E 25))] dX5_reads_22 rfl (by decide) rfl ?_
    refine eg_sub C [1, 0] rfl ?_
    exact wX5_reads_L23 C 200 _ _ h
  · rw [if_neg c] at h
    refine eg_iconst C (1 : Int32) dX5_reads_17 (by decide) ?_
    refine eg_goto C 22 dX5_reads_18 (by decide) ?_
    refine eg_istore_n C [(1, .int (1 : Int32)), (0, .ref (eu_ad E 25))] dX5_reads_22 rfl (by decide) rfl ?_
    refine eg_sub C [1, 0] rfl ?_
    exact wX5_reads_L23 C 200 _ _ h
theorem kX5_reads {l : Launch} {σ : eu_T} {r : Int32} {σ' : eu_T}   (h : fX5_reads σ = some (r, σ')) : eu_KI l yX5_reads (Cond.code yX5_reads cX5_reads 2 (some .int) :: eu_TB) ({ frames := 2, cells := 0, slots := 0, locals := 48 } : Room) 25 12 (fun ad => [.ref (ad 25)]) σ σ' r :=
  eu_KI_of (by decide) (by decide) rfl (fun _ => Nat.le_of_ble_eq_true rfl) (fun E C => wX5_reads C h)
theorem cw_X5_fault_X5_reads_100 {E : eu_E} (C : eu_C E ({ frames := 3, cells := 0, slots := 0, locals := 69 } : Room) 25 12 1 cX5_fault RX5 (Cond.code yX5_fault cX5_fault 1 (some .int) :: eu_TB) (some .int)) : CallW (eu_R E) (eu_s E) (eu_a E) RX5 RX5 100 yX5_reads cX5_reads 2 (some .int) (Cond.code yX5_reads cX5_reads 2 (some .int) :: eu_TB) ({ frames := 2, cells := 0, slots := 0, locals := 48 } : Room) 0 0 0 := eu_cwV C tw_131 tw_132 tw_133 tw_5 tw_134 rfl rfl (by decide +kernel) (by decide)
set_option maxHeartbeats 4000000 in
set_option maxRecDepth 100000 in
theorem wX5_fault {E : eu_E} (C : eu_C E ({ frames := 3, cells := 0, slots := 0, locals := 69 } : Room) 25 12 1 cX5_fault RX5 (Cond.code yX5_fault cX5_fault 1 (some .int) :: eu_TB) (some .int)) {σ : eu_T} {r : Int32} {σ' : eu_T}   (h : fX5_fault σ = some (r, σ')) : eu_G E 25 12 1 (eu_QI E 25 12 σ' r) σ 0 [(0, .ref (eu_ad E 25))] [] := by
  unfold fX5_fault at h
  refine eg_aload_n C 0 dX5_fault_0 rfl ?_
  obtain ⟨r1, σ2, hr1, h⟩ := eu_b2_some h
  refine eg_callI C (cw_X5_fault_X5_reads_100 C) (av := []) 25 (by decide) (kX5_reads hr1) rfl rfl rfl rfl (st := []) rfl (Nat.le_of_ble_eq_true rfl) dX5_fault_1 ?_
  obtain ⟨rfl, rfl⟩ := eu_inj2 h
  exact eg_iret C rfl dX5_fault_4
theorem kX5_fault {l : Launch} {σ : eu_T} {r : Int32} {σ' : eu_T}   (h : fX5_fault σ = some (r, σ')) : eu_KI l yX5_fault (Cond.code yX5_fault cX5_fault 1 (some .int) :: eu_TB) ({ frames := 3, cells := 0, slots := 0, locals := 69 } : Room) 25 12 (fun ad => [.ref (ad 25)]) σ σ' r :=
  eu_KI_of (by decide) (by decide) rfl (fun _ => Nat.le_of_ble_eq_true rfl) (fun E C => wX5_fault C h)
theorem cw_X5_isDeed_X5_reads_100 {E : eu_E} (C : eu_C E ({ frames := 3, cells := 0, slots := 0, locals := 69 } : Room) 25 12 2 cX5_isDeed RX5 (Cond.code yX5_isDeed cX5_isDeed 2 (some .boolean) :: eu_TB) (some .boolean)) : CallW (eu_R E) (eu_s E) (eu_a E) RX5 RX5 100 yX5_reads cX5_reads 2 (some .int) (Cond.code yX5_reads cX5_reads 2 (some .int) :: eu_TB) ({ frames := 2, cells := 0, slots := 0, locals := 48 } : Room) 0 0 0 := eu_cwV C tw_131 tw_132 tw_133 tw_5 tw_134 rfl rfl (by decide +kernel) (by decide)
theorem cw_X5_isDeed_X5_in_44 {E : eu_E} (C : eu_C E ({ frames := 3, cells := 0, slots := 0, locals := 69 } : Room) 25 12 2 cX5_isDeed RX5 (Cond.code yX5_isDeed cX5_isDeed 2 (some .boolean) :: eu_TB) (some .boolean)) : CallB (eu_R E) (eu_s E) (eu_a E) RX5 44 yX5_in cX5_in 6 (some .boolean) (Cond.code yX5_in cX5_in 6 (some .boolean) :: eu_TB) ({ frames := 0, cells := 0, slots := 0, locals := 0 } : Room) 0 0 3 ∧ (Cond.static yX5_in).before (eu_a E) (eu_s E) = true := eu_cwS C tw_109 tw_110 tw_5 tw_111 rfl rfl (by decide +kernel) (by decide)
set_option maxHeartbeats 4000000 in
set_option maxRecDepth 100000 in
theorem wX5_isDeed {E : eu_E} (C : eu_C E ({ frames := 3, cells := 0, slots := 0, locals := 69 } : Room) 25 12 2 cX5_isDeed RX5 (Cond.code yX5_isDeed cX5_isDeed 2 (some .boolean) :: eu_TB) (some .boolean)) {σ : eu_T} {r : Int32} {σ' : eu_T} {a1 : Int32}  (h : fX5_isDeed σ a1 = some (r, σ')) : eu_G E 25 12 2 (eu_QI E 25 12 σ' r) σ 0 [(0, .ref (eu_ad E 25)), (1, .int a1)] [] := by
  unfold fX5_isDeed at h
  refine eg_aload_n C 0 dX5_isDeed_0 rfl ?_
  obtain ⟨r1, σ2, hr1, h⟩ := eu_b2_some h
  refine eg_callI C (cw_X5_isDeed_X5_reads_100 C) (av := []) 25 (by decide) (kX5_reads hr1) rfl rfl rfl rfl (st := []) rfl (Nat.le_of_ble_eq_true rfl) dX5_isDeed_1 ?_
  refine eg_pop C dX5_isDeed_4 rfl ?_
  refine eg_iload_n C 1 dX5_isDeed_5 rfl ?_
  refine eg_i2l C dX5_isDeed_6 ?_
  refine eg_lconst C (0 : Int64) dX5_isDeed_7 (by decide) ?_
  refine eg_aload_n C 0 dX5_isDeed_8 rfl ?_
  refine gf_X5_81 C (by decide) dX5_isDeed_9 ?_
  refine eg_iconst C (1 : Int32) dX5_isDeed_12 (by decide) ?_
  refine eg_isub C dX5_isDeed_13 ?_
  refine eg_i2l C dX5_isDeed_14 ?_
  refine eg_scallI C (cw_X5_isDeed_X5_in_44 C) (av := [.long a1.toInt64, .long (0 : Int64), .long (((σ2 25 8) - (1 : Int32)).toInt64)]) (kX5_in rfl) rfl (st := []) rfl (Nat.le_of_ble_eq_true rfl) dX5_isDeed_15 ?_
  obtain ⟨rfl, rfl⟩ := eu_inj2 h
  exact eg_zret C rfl (bX5_in a1.toInt64 (0 : Int64) (((σ2 25 8) - (1 : Int32)).toInt64)) dX5_isDeed_18
theorem kX5_isDeed {l : Launch} {σ : eu_T} {r : Int32} {σ' : eu_T} {a1 : Int32}  (h : fX5_isDeed σ a1 = some (r, σ')) : eu_KI l yX5_isDeed (Cond.code yX5_isDeed cX5_isDeed 2 (some .boolean) :: eu_TB) ({ frames := 3, cells := 0, slots := 0, locals := 69 } : Room) 25 12 (fun ad => [.ref (ad 25), .int a1]) σ σ' r :=
  eu_KI_of (by decide) (by decide) rfl (fun _ => Nat.le_of_ble_eq_true rfl) (fun E C => wX5_isDeed C h)
theorem cw_X5_deed_X5_isDeed_103 {E : eu_E} (C : eu_C E ({ frames := 4, cells := 0, slots := 0, locals := 90 } : Room) 25 12 3 cX5_deed RX5 (Cond.code yX5_deed cX5_deed 3 (some .int) :: eu_TB) (some .int)) : CallW (eu_R E) (eu_s E) (eu_a E) RX5 RX5 103 yX5_isDeed cX5_isDeed 2 (some .boolean) (Cond.code yX5_isDeed cX5_isDeed 2 (some .boolean) :: eu_TB) ({ frames := 3, cells := 0, slots := 0, locals := 69 } : Room) 0 0 1 := eu_cwV C tw_165 tw_166 tw_167 tw_5 tw_168 rfl rfl (by decide +kernel) (by decide)
theorem cw_X5_deed_X5_in_44 {E : eu_E} (C : eu_C E ({ frames := 4, cells := 0, slots := 0, locals := 90 } : Room) 25 12 3 cX5_deed RX5 (Cond.code yX5_deed cX5_deed 3 (some .int) :: eu_TB) (some .int)) : CallB (eu_R E) (eu_s E) (eu_a E) RX5 44 yX5_in cX5_in 6 (some .boolean) (Cond.code yX5_in cX5_in 6 (some .boolean) :: eu_TB) ({ frames := 0, cells := 0, slots := 0, locals := 0 } : Room) 0 0 3 ∧ (Cond.static yX5_in).before (eu_a E) (eu_s E) = true := eu_cwS C tw_109 tw_110 tw_5 tw_111 rfl rfl (by decide +kernel) (by decide)
set_option maxHeartbeats 4000000 in
set_option maxRecDepth 100000 in
theorem wX5_deed_J33 {E : eu_E} (C : eu_C E ({ frames := 4, cells := 0, slots := 0, locals := 90 } : Room) 25 12 3 cX5_deed RX5 (Cond.code yX5_deed cX5_deed 3 (some .int) :: eu_TB) (some .int)) {r : Int32} {σ' : eu_T}   (σ : eu_T)  (h : fX5_deed_J33  σ = some (r, σ')) : eu_G E 25 12 3 (eu_QI E 25 12 σ' r) σ 33 [] [] := by
  unfold fX5_deed_J33 at h
  refine eg_bipush C (-2 : Int32) dX5_deed_33 (by decide) ?_
  obtain ⟨rfl, rfl⟩ := eu_inj2 h
  exact eg_iret C rfl dX5_deed_35
set_option maxHeartbeats 4000000 in
set_option maxRecDepth 100000 in
theorem wX5_deed {E : eu_E} (C : eu_C E ({ frames := 4, cells := 0, slots := 0, locals := 90 } : Room) 25 12 3 cX5_deed RX5 (Cond.code yX5_deed cX5_deed 3 (some .int) :: eu_TB) (some .int)) {σ : eu_T} {r : Int32} {σ' : eu_T} {a1 : Int32} {a2 : Int32}  (h : fX5_deed σ a1 a2 = some (r, σ')) : eu_G E 25 12 3 (eu_QI E 25 12 σ' r) σ 0 [(0, .ref (eu_ad E 25)), (1, .int a1), (2, .int a2)] [] := by
  unfold fX5_deed at h
  refine eg_aload_n C 0 dX5_deed_0 rfl ?_
  refine eg_iload_n C 1 dX5_deed_1 rfl ?_
  obtain ⟨r1, σ2, hr1, h⟩ := eu_b2_some h
  refine eg_callI C (cw_X5_deed_X5_isDeed_103 C) (av := [.int a1]) 25 (by decide) (kX5_isDeed hr1) rfl rfl rfl rfl (st := []) rfl (Nat.le_of_ble_eq_true rfl) dX5_deed_2 ?_
  refine eg_if_eq C 33 dX5_deed_5 (by decide) (fun c => ?_) (fun c => ?_)
  · rw [if_pos c] at h
    refine eg_sub C [] rfl ?_
    exact wX5_deed_J33 C _ h
  · rw [if_neg c] at h
    refine eg_iload_n C 2 dX5_deed_8 rfl ?_
    refine eg_i2l C dX5_deed_9 ?_
    refine eg_lconst C (0 : Int64) dX5_deed_10 (by decide) ?_
    refine eg_ldc2 C (2 : Int64) dX5_deed_11 (List.mem_cons_of_mem _ tw_164) ?_
    refine eg_scallI C (cw_X5_deed_X5_in_44 C) (av := [.long a2.toInt64, .long (0 : Int64), .long (2 : Int64)]) (kX5_in rfl) rfl (st := []) rfl (Nat.le_of_ble_eq_true rfl) dX5_deed_14 ?_
    refine eg_if_eq C 33 dX5_deed_17 (by decide) (fun c => ?_) (fun c => ?_)
    · rw [if_pos c] at h
      refine eg_sub C [] rfl ?_
      exact wX5_deed_J33 C _ h
    · rw [if_neg c] at h
      refine eg_aload_n C 0 dX5_deed_20 rfl ?_
      refine gf_X5_25 C (by decide) dX5_deed_21 ?_
      refine eg_iconst C (3 : Int32) dX5_deed_24 (by decide) ?_
      refine eg_iload_n C 1 dX5_deed_25 rfl ?_
      refine eg_imul C dX5_deed_26 ?_
      refine eg_iload_n C 2 dX5_deed_27 rfl ?_
      refine eg_iadd C dX5_deed_28 ?_
      obtain ⟨g3, h⟩ := eu_gd_some h
      refine eg_iald C 31 (by decide) (z := 36) (fun _ => rfl) (eu_in_vp g3) dX5_deed_29 ?_
      refine eg_goto C 35 dX5_deed_30 (by decide) ?_
      obtain ⟨rfl, rfl⟩ := eu_inj2 h
      exact eg_iret C rfl dX5_deed_35
theorem kX5_deed {l : Launch} {σ : eu_T} {r : Int32} {σ' : eu_T} {a1 : Int32} {a2 : Int32}  (h : fX5_deed σ a1 a2 = some (r, σ')) : eu_KI l yX5_deed (Cond.code yX5_deed cX5_deed 3 (some .int) :: eu_TB) ({ frames := 4, cells := 0, slots := 0, locals := 90 } : Room) 25 12 (fun ad => [.ref (ad 25), .int a1, .int a2]) σ σ' r :=
  eu_KI_of (by decide) (by decide) rfl (fun _ => Nat.le_of_ble_eq_true rfl) (fun E C => wX5_deed C h)
set_option maxHeartbeats 4000000 in
set_option maxRecDepth 100000 in
theorem wX5_tells {E : eu_E} (C : eu_C E ({ frames := 0, cells := 0, slots := 0, locals := 0 } : Room) 25 12 4 cX5_tells RX5 (Cond.code yX5_tells cX5_tells 4 none :: eu_TB) none) {σ : eu_T} {r : Int32} {σ' : eu_T} {a1 : Int32} {a2 : Int32} {a3 : Int32}  (h : fX5_tells σ a1 a2 a3 = some (r, σ')) : eu_G E 25 12 4 (eu_QV E 25 12 σ' r) σ 0 [(0, .ref (eu_ad E 25)), (1, .int a1), (2, .int a2), (3, .int a3)] [] := by
  unfold fX5_tells at h
  refine eg_aload_n C 0 dX5_tells_0 rfl ?_
  refine gf_X5_28 C (by decide) dX5_tells_1 ?_
  refine eg_iconst C (2 : Int32) dX5_tells_4 (by decide) ?_
  refine eg_iload_n C 1 dX5_tells_5 rfl ?_
  refine eg_imul C dX5_tells_6 ?_
  refine eg_iload_n C 2 dX5_tells_7 rfl ?_
  obtain ⟨g1, h⟩ := eu_gd_some h
  refine eg_iast C 32 (by decide) (z := 30) (fun _ => rfl) (eu_in_vp g1) dX5_tells_8 ?_
  obtain ⟨σ2, eσ2, h⟩ := eu_lt_x h
  rw [← eσ2]
  refine eg_aload_n C 0 dX5_tells_9 rfl ?_
  refine gf_X5_28 C (by decide) dX5_tells_10 ?_
  refine eg_iconst C (2 : Int32) dX5_tells_13 (by decide) ?_
  refine eg_iload_n C 1 dX5_tells_14 rfl ?_
  refine eg_imul C dX5_tells_15 ?_
  refine eg_iconst C (1 : Int32) dX5_tells_16 (by decide) ?_
  refine eg_iadd C dX5_tells_17 ?_
  refine eg_iload_n C 3 dX5_tells_18 rfl ?_
  obtain ⟨g3, h⟩ := eu_gd_some h
  refine eg_iast C 32 (by decide) (z := 30) (fun _ => rfl) (eu_in_vp g3) dX5_tells_19 ?_
  obtain ⟨σ4, eσ4, h⟩ := eu_lt_x h
  rw [← eσ4]
  obtain ⟨rfl, rfl⟩ := eu_inj2 h
  exact eg_vret C rfl _ dX5_tells_20
theorem kX5_tells {l : Launch} {σ : eu_T} {r : Int32} {σ' : eu_T} {a1 : Int32} {a2 : Int32} {a3 : Int32}  (h : fX5_tells σ a1 a2 a3 = some (r, σ')) : eu_KV l yX5_tells (Cond.code yX5_tells cX5_tells 4 none :: eu_TB) ({ frames := 0, cells := 0, slots := 0, locals := 0 } : Room) 25 12 (fun ad => [.ref (ad 25), .int a1, .int a2, .int a3]) σ σ' r :=
  eu_KV_of (by decide) (by decide) rfl (fun _ => Nat.le_of_ble_eq_true rfl) (fun E C => wX5_tells C h)
theorem cw_X5_undoes_X5_in_44 {E : eu_E} (C : eu_C E ({ frames := 1, cells := 0, slots := 0, locals := 25 } : Room) 25 12 3 cX5_undoes RX5 (Cond.code yX5_undoes cX5_undoes 3 (some .int) :: eu_TB) (some .int)) : CallB (eu_R E) (eu_s E) (eu_a E) RX5 44 yX5_in cX5_in 6 (some .boolean) (Cond.code yX5_in cX5_in 6 (some .boolean) :: eu_TB) ({ frames := 0, cells := 0, slots := 0, locals := 0 } : Room) 0 0 3 ∧ (Cond.static yX5_in).before (eu_a E) (eu_s E) = true := eu_cwS C tw_109 tw_110 tw_5 tw_111 rfl rfl (by decide +kernel) (by decide)
theorem cw_X5_undoes_X5_tells_111 {E : eu_E} (C : eu_C E ({ frames := 1, cells := 0, slots := 0, locals := 25 } : Room) 25 12 3 cX5_undoes RX5 (Cond.code yX5_undoes cX5_undoes 3 (some .int) :: eu_TB) (some .int)) : CallW (eu_R E) (eu_s E) (eu_a E) RX5 RX5 111 yX5_tells cX5_tells 4 none (Cond.code yX5_tells cX5_tells 4 none :: eu_TB) ({ frames := 0, cells := 0, slots := 0, locals := 0 } : Room) 0 0 3 := eu_cwV C tw_183 tw_184 tw_185 tw_5 tw_186 rfl rfl (by decide +kernel) (by decide)
set_option maxHeartbeats 4000000 in
set_option maxRecDepth 100000 in
theorem wX5_undoes {E : eu_E} (C : eu_C E ({ frames := 1, cells := 0, slots := 0, locals := 25 } : Room) 25 12 3 cX5_undoes RX5 (Cond.code yX5_undoes cX5_undoes 3 (some .int) :: eu_TB) (some .int)) {σ : eu_T} {r : Int32} {σ' : eu_T} {a1 : Int32} {a2 : Int32}  (h : fX5_undoes σ a1 a2 = some (r, σ')) : eu_G E 25 12 3 (eu_QI E 25 12 σ' r) σ 0 [(0, .ref (eu_ad E 25)), (1, .int a1), (2, .int a2)] [] := by
  unfold fX5_undoes at h
  refine eg_iload_n C 1 dX5_undoes_0 rfl ?_
  refine eg_i2l C dX5_undoes_1 ?_
  refine eg_lconst C (0 : Int64) dX5_undoes_2 (by decide) ?_
  refine eg_ldc2 C (5 : Int64) dX5_undoes_3 (List.mem_cons_of_mem _ tw_141) ?_
  refine eg_scallI C (cw_X5_undoes_X5_in_44 C) (av := [.long a1.toInt64, .long (0 : Int64), .long (5 : Int64)]) (kX5_in rfl) rfl (st := []) rfl (Nat.le_of_ble_eq_true rfl) dX5_undoes_6 ?_
  refine eg_if_eq C 24 dX5_undoes_9 (by decide) (fun c => ?_) (fun c => ?_)
  · rw [if_pos c] at h
    refine eg_bipush C (-2 : Int32) dX5_undoes_24 (by decide) ?_
    obtain ⟨rfl, rfl⟩ := eu_inj2 h
    exact eg_iret C rfl dX5_undoes_26
  · rw [if_neg c] at h
    refine eg_iload_n C 2 dX5_undoes_12 rfl ?_
    refine eg_i2l C dX5_undoes_13 ?_
    refine eg_lconst C (0 : Int64) dX5_undoes_14 (by decide) ?_
    refine eg_ldc2 C (23 : Int64) dX5_undoes_15 (List.mem_cons_of_mem _ tw_181) ?_
    refine eg_scallI C (cw_X5_undoes_X5_in_44 C) (av := [.long a2.toInt64, .long (0 : Int64), .long (23 : Int64)]) (kX5_in rfl) rfl (st := []) rfl (Nat.le_of_ble_eq_true rfl) dX5_undoes_18 ?_
    refine eg_if_ne C 27 dX5_undoes_21 (by decide) (fun c => ?_) (fun c => ?_)
    · rw [if_neg c] at h
      refine eg_aload_n C 0 dX5_undoes_27 rfl ?_
      refine gf_X5_108 C (by decide) dX5_undoes_28 ?_
      refine eg_bipush C (12 : Int32) dX5_undoes_31 (by decide) ?_
      refine eg_icmp_ne C 39 dX5_undoes_33 (by decide) (fun c => ?_) (fun c => ?_)
      · rw [if_neg c] at h
        refine eg_aload_n C 0 dX5_undoes_39 rfl ?_
        refine eg_aload_n C 0 dX5_undoes_40 rfl ?_
        refine gf_X5_108 C (by decide) dX5_undoes_41 ?_
        refine eg_iload_n C 1 dX5_undoes_44 rfl ?_
        refine eg_iload_n C 2 dX5_undoes_45 rfl ?_
        obtain ⟨r1, σ2, hr1, h⟩ := eu_b2_some h
        refine eg_callV C (cw_X5_undoes_X5_tells_111 C) (av := [.int (σ 25 10), .int a1, .int a2]) 25 (by decide) (kX5_tells hr1) rfl rfl rfl rfl (st := []) rfl (Nat.le_of_ble_eq_true rfl) dX5_undoes_46 ?_
        refine eg_aload_n C 0 dX5_undoes_49 rfl ?_
        refine eg_dup C dX5_undoes_50 rfl ?_
        refine gf_X5_108 C (by decide) dX5_undoes_51 ?_
        refine eg_iconst C (1 : Int32) dX5_undoes_54 (by decide) ?_
        refine eg_iadd C dX5_undoes_55 ?_
        refine pf_X5_108 C (by decide) dX5_undoes_56 ?_
        obtain ⟨σ3, eσ3, h⟩ := eu_lt_x h
        rw [← eσ3]
        refine eg_aload_n C 0 dX5_undoes_59 rfl ?_
        refine gf_X5_108 C (by decide) dX5_undoes_60 ?_
        obtain ⟨rfl, rfl⟩ := eu_inj2 h
        exact eg_iret C rfl dX5_undoes_63
      · rw [if_pos c] at h
        refine eg_bipush C (-4 : Int32) dX5_undoes_36 (by decide) ?_
        obtain ⟨rfl, rfl⟩ := eu_inj2 h
        exact eg_iret C rfl dX5_undoes_38
    · rw [if_pos c] at h
      refine eg_bipush C (-2 : Int32) dX5_undoes_24 (by decide) ?_
      obtain ⟨rfl, rfl⟩ := eu_inj2 h
      exact eg_iret C rfl dX5_undoes_26
theorem kX5_undoes {l : Launch} {σ : eu_T} {r : Int32} {σ' : eu_T} {a1 : Int32} {a2 : Int32}  (h : fX5_undoes σ a1 a2 = some (r, σ')) : eu_KI l yX5_undoes (Cond.code yX5_undoes cX5_undoes 3 (some .int) :: eu_TB) ({ frames := 1, cells := 0, slots := 0, locals := 25 } : Room) 25 12 (fun ad => [.ref (ad 25), .int a1, .int a2]) σ σ' r :=
  eu_KI_of (by decide) (by decide) rfl (fun _ => Nat.le_of_ble_eq_true rfl) (fun E C => wX5_undoes C h)
