/-! the law's world: the class's cells beside the reference's ===== -/
theorem eu_Dc {A : Nat → Prop} {w w' : va_W} (e : w.map Prod.fst = w'.map Prod.fst) (h : va_D A w) : va_D A w' := by
  have key : ∀ (k : Nat) (q : Nat × va_E), w'[k]? = some q → ∃ q0, w[k]? = some q0 ∧ q0.1 = q.1 := by
    intro k q hq
    have h1 : (w'.map Prod.fst)[k]? = some q.1 := by rw [List.getElem?_map, hq]; rfl
    rw [← e, List.getElem?_map] at h1
    cases h2 : w[k]? with
    | none => rw [h2] at h1; cases h1
    | some q0 => rw [h2] at h1; exact ⟨q0, rfl, Option.some.inj h1⟩
  refine ⟨fun i j x y hi hj hxy => ?_, fun k q hk => ?_⟩
  · obtain ⟨x0, h1, h2⟩ := key i x hi
    obtain ⟨y0, h3, h4⟩ := key j y hj
    exact h.1 i j x0 y0 h1 h3 (h2.trans (hxy.trans h4.symm))
  · obtain ⟨q0, h1, h2⟩ := key k q hk
    rw [← h2]
    exact h.2 k q0 h1
theorem eu_wd_fst (lo n : Nat) (cy : Nat → ClassId) (ad : Nat → Nat) (σ σ' : eu_T) : (eu_wd lo n cy ad σ).map Prod.fst = (eu_wd lo n cy ad σ').map Prod.fst := by
  simp [eu_wd]
theorem eu_Pl {D : va_G} {cl : List vw_C} {x y : va_W} {H : Heap} (h : va_P D cl (x ++ y) H) : va_P D cl x H := fun k q hk => h k q (by
  rw [List.getElem?_append_left (List.getElem?_eq_some_iff.mp hk).1]
  exact hk)
theorem eu_Pr {D : va_G} {cl : List vw_C} {x y : va_W} {H : Heap} (h : va_P D cl (x ++ y) H) : va_P D cl y H := fun k q hk => h (x.length + k) q (by
  rw [List.getElem?_append_right (by omega), Nat.add_sub_cancel_left]
  exact hk)
theorem eu_Dl {A : Nat → Prop} {x y : va_W} (h : va_D A (x ++ y)) : va_D A x := ⟨fun i j p q hi hj e => h.1 i j p q (by rw [List.getElem?_append_left (List.getElem?_eq_some_iff.mp hi).1]; exact hi) (by rw [List.getElem?_append_left (List.getElem?_eq_some_iff.mp hj).1]; exact hj) e, fun k q hk => h.2 k q (by rw [List.getElem?_append_left (List.getElem?_eq_some_iff.mp hk).1]; exact hk)⟩
theorem eu_Dr {A : Nat → Prop} {x y : va_W} (h : va_D A (x ++ y)) : va_D A y := by
  refine ⟨fun i j p q hi hj e => ?_, fun k q hk => h.2 (x.length + k) q (by rw [List.getElem?_append_right (by omega), Nat.add_sub_cancel_left]; exact hk)⟩
  have := h.1 (x.length + i) (x.length + j) p q (by rw [List.getElem?_append_right (by omega), Nat.add_sub_cancel_left]; exact hi) (by rw [List.getElem?_append_right (by omega), Nat.add_sub_cancel_left]; exact hj) e
  omega
theorem eu_Dx {A : Nat → Prop} {x y : va_W} (h : va_D A (x ++ y)) (i j : Nat) (p q : Nat × va_E) (hi : x[i]? = some p) (hj : y[j]? = some q) : p.1 ≠ q.1 := by
  intro e
  have hl := (List.getElem?_eq_some_iff.mp hi).1
  have := h.1 i (x.length + j) p q (by rw [List.getElem?_append_left hl]; exact hi) (by rw [List.getElem?_append_right (by omega), Nat.add_sub_cancel_left]; exact hj) e
  omega
theorem eu_okD {A : Nat → Prop} {lo n : Nat} {cy : Nat → ClassId} {ad : Nat → Nat} {σ : eu_T} (h : va_D A (eu_wd lo n cy ad σ)) : eu_ok lo n ad := fun i j hi hj e => h.1 i j _ _ (eu_wd_ix lo n cy ad σ i hi) (eu_wd_ix lo n cy ad σ j hj) e
theorem eu_AA {A : Nat → Prop} {lo n : Nat} {cy : Nat → ClassId} {ad : Nat → Nat} {σ : eu_T} (h : va_D A (eu_wd lo n cy ad σ)) : ∀ q, eu_A lo n ad q → A q := by
  rintro q ⟨k, hk, rfl⟩
  exact h.2 (k - lo) _ (eu_wd_get hk)
theorem eu_joinL {A : Nat → Prop} {D : va_G} {cl : List vw_C} {lo n : Nat} {cy : Nat → ClassId} {ad : Nat → Nat} {σ σ' : eu_T} {y : va_W} {H H1 : Heap} (hP : va_P D cl (eu_wd lo n cy ad σ ++ y) H) (hD : va_D A (eu_wd lo n cy ad σ ++ y)) (hk : ∀ q : Nat, q < H.size → ¬ eu_A lo n ad q → H1[q]? = H[q]?) (hP1 : va_P D cl (eu_wd lo n cy ad σ') H1) : va_P D cl (eu_wd lo n cy ad σ' ++ y) H1 ∧ va_D A (eu_wd lo n cy ad σ' ++ y) := by
  refine ⟨hP1.app ((eu_Pr hP).kept fun k q hq => hk q.1 (((eu_Pr hP) k q hq).lt) ?_), eu_Dc (by rw [List.map_append, List.map_append, eu_wd_fst lo n cy ad σ σ']) hD⟩
  rintro ⟨k', hk', e⟩
  exact eu_Dx hD (k' - lo) k _ q (eu_wd_get hk') hq e.symm
theorem eu_joinR {A : Nat → Prop} {D : va_G} {cl : List vw_C} {lo n : Nat} {cy : Nat → ClassId} {ad : Nat → Nat} {σ σ' : eu_T} {x : va_W} {H H1 : Heap} (hP : va_P D cl (x ++ eu_wd lo n cy ad σ) H) (hD : va_D A (x ++ eu_wd lo n cy ad σ)) (hk : ∀ q : Nat, q < H.size → ¬ eu_A lo n ad q → H1[q]? = H[q]?) (hP1 : va_P D cl (eu_wd lo n cy ad σ') H1) : va_P D cl (x ++ eu_wd lo n cy ad σ') H1 ∧ va_D A (x ++ eu_wd lo n cy ad σ') := by
  refine ⟨((eu_Pl hP).kept fun k q hq => hk q.1 (((eu_Pl hP) k q hq).lt) ?_).app hP1, eu_Dc (by rw [List.map_append, List.map_append, eu_wd_fst lo n cy ad σ σ']) hD⟩
  rintro ⟨k', hk', e⟩
  exact eu_Dx hD k (k' - lo) q _ hq (eu_wd_get hk') e
theorem el_callLI {E : eu_E} {rm : Room} {nL : Nat} {cc : ByteArray} {own : String} {ret : Option FieldType} {A : Nat → Prop} (C : eu_M E rm nL cc own eu_TB ret A) {Q : State → Prop} {ce sl : Nat} {pc : Nat} {lv : List (Nat × Value)} {st : List Value} {ad1 ad2 : Nat → Nat} {σ τ : eu_T} {y : MethodName} {bytes : ByteArray} {maxL idx na : Nat} {retY : Option FieldType} {wsy : List Cond} {rmy : Room} {Cn : String} (cw : CallW (eu_R E) (eu_s E) (eu_a E) own Cn idx y bytes maxL retY wsy rmy 0 0 na) {av : List Value} {x' : eu_T} {r : Int32} (hM : eu_KI (eu_l E) y wsy rmy 0 25 (fun ad => .ref (ad 0) :: av) σ x' r) (hna : av.length = na) {fs : List Value} {q : vw_C} (he : eu_we (eu_cy E) ad1 (σ 0) 0 = .inr (4, fs)) (hc : vwCl[4]? = some q) (hq : q.1 = Cn) {stk : List Value} (hst : stk = av.reverse ++ .ref (ad1 0) :: st) (hroom : (st.map fun v => v.category).sum ≤ 8) (hf : ce + 0 ≤ rm.cells ∧ sl + 0 ≤ rm.slots) (hd : decode cc pc = .ok (.invokevirtual idx, 3)) (kk : eu_H E nL A Q (eu_wd 0 25 (eu_cy E) ad1 x' ++ eu_wd 25 12 (eu_cy E) ad2 τ) ce sl (pc + 3) lv (.int r :: st)) : eu_H E nL A Q (eu_wd 0 25 (eu_cy E) ad1 σ ++ eu_wd 25 12 (eu_cy E) ad2 τ) ce sl pc lv stk := by
  intro H locs ls hP hD hS hl
  have hPc := eu_Pl hP
  have hDc := eu_Dl hD
  have hok := eu_okD hDc
  have hAA := eu_AA hDc
  refine va_calli (va_runV (As := av) (rest := st) ⟨C.1, C.2.1, C.2.2.1, C.2.2.2.1, C.2.2.2.2.1⟩ (hM (eu_D E) (eu_cy E) ad1 hok) cw ⟨eu_blind 0 25 (fun ad => .ref (ad 0) :: av) σ (eu_D E) (eu_cy E) ad1, by rw [← hq]; exact va_recv C.2.2.2.2.2.2.1 hPc hc (q0 := 0) (ci := 4) (fs := fs) (by rw [eu_wd_ix 0 25 (eu_cy E) ad1 σ 0 (by decide)]; exact congrArg (fun z => some (ad1 0, z)) he), fun U hU hW => ⟨rfl, by rw [hU]; exact hPc, va_K.moved hW.alike C.2.2.2.2.2.2.1, eu_N_warm hW C.2.2.2.2.2.2.2.1⟩⟩ rfl hna hl.1 hst (lv_room hroom) hd ⟨by rw [C.2.2.2.2.2.2.2.2.2.1]; exact hf.1, by rw [C.2.2.2.2.2.2.2.2.2.1]; exact hf.2⟩) hS (fun q _ h => hAA q h) (fun q h => hAA q h) (fun r' u t H1 locs1 ht hvm hp hB hz hk hS1 => ?_)
  have e : r' = r := hp
  subst e
  have hB' : va_P (eu_D E) vwCl (eu_wd 0 25 (eu_cy E) ad1 x') H1 := by rw [← ht]; exact hB
  obtain ⟨hP2, hD2⟩ := eu_joinL hP hD hk hB'
  exact kk H1 locs1 ls hP2 hD2 hS1 hl
theorem el_callLL {E : eu_E} {rm : Room} {nL : Nat} {cc : ByteArray} {own : String} {ret : Option FieldType} {A : Nat → Prop} (C : eu_M E rm nL cc own eu_TB ret A) {Q : State → Prop} {ce sl : Nat} {pc : Nat} {lv : List (Nat × Value)} {st : List Value} {ad1 ad2 : Nat → Nat} {σ τ : eu_T} {y : MethodName} {bytes : ByteArray} {maxL idx na : Nat} {retY : Option FieldType} {wsy : List Cond} {rmy : Room} {Cn : String} (cw : CallW (eu_R E) (eu_s E) (eu_a E) own Cn idx y bytes maxL retY wsy rmy 0 0 na) {av : List Value} {x' : eu_T} {r : Int64} (hM : eu_KL (eu_l E) y wsy rmy 0 25 (fun ad => .ref (ad 0) :: av) σ x' r) (hna : av.length = na) {fs : List Value} {q : vw_C} (he : eu_we (eu_cy E) ad1 (σ 0) 0 = .inr (4, fs)) (hc : vwCl[4]? = some q) (hq : q.1 = Cn) {stk : List Value} (hst : stk = av.reverse ++ .ref (ad1 0) :: st) (hroom : (st.map fun v => v.category).sum ≤ 8) (hf : ce + 0 ≤ rm.cells ∧ sl + 0 ≤ rm.slots) (hd : decode cc pc = .ok (.invokevirtual idx, 3)) (kk : eu_H E nL A Q (eu_wd 0 25 (eu_cy E) ad1 x' ++ eu_wd 25 12 (eu_cy E) ad2 τ) ce sl (pc + 3) lv (.long r :: st)) : eu_H E nL A Q (eu_wd 0 25 (eu_cy E) ad1 σ ++ eu_wd 25 12 (eu_cy E) ad2 τ) ce sl pc lv stk := by
  intro H locs ls hP hD hS hl
  have hPc := eu_Pl hP
  have hDc := eu_Dl hD
  have hok := eu_okD hDc
  have hAA := eu_AA hDc
  refine va_calll (va_runV (As := av) (rest := st) ⟨C.1, C.2.1, C.2.2.1, C.2.2.2.1, C.2.2.2.2.1⟩ (hM (eu_D E) (eu_cy E) ad1 hok) cw ⟨eu_blind 0 25 (fun ad => .ref (ad 0) :: av) σ (eu_D E) (eu_cy E) ad1, by rw [← hq]; exact va_recv C.2.2.2.2.2.2.1 hPc hc (q0 := 0) (ci := 4) (fs := fs) (by rw [eu_wd_ix 0 25 (eu_cy E) ad1 σ 0 (by decide)]; exact congrArg (fun z => some (ad1 0, z)) he), fun U hU hW => ⟨rfl, by rw [hU]; exact hPc, va_K.moved hW.alike C.2.2.2.2.2.2.1, eu_N_warm hW C.2.2.2.2.2.2.2.1⟩⟩ rfl hna hl.1 hst (lv_room hroom) hd ⟨by rw [C.2.2.2.2.2.2.2.2.2.1]; exact hf.1, by rw [C.2.2.2.2.2.2.2.2.2.1]; exact hf.2⟩) hS (fun q _ h => hAA q h) (fun q h => hAA q h) (fun r' u t H1 locs1 ht hvm hp hB hz hk hS1 => ?_)
  have e : r' = r := hp
  subst e
  have hB' : va_P (eu_D E) vwCl (eu_wd 0 25 (eu_cy E) ad1 x') H1 := by rw [← ht]; exact hB
  obtain ⟨hP2, hD2⟩ := eu_joinL hP hD hk hB'
  exact kk H1 locs1 ls hP2 hD2 hS1 hl
theorem el_callRI {E : eu_E} {rm : Room} {nL : Nat} {cc : ByteArray} {own : String} {ret : Option FieldType} {A : Nat → Prop} (C : eu_M E rm nL cc own eu_TB ret A) {Q : State → Prop} {ce sl : Nat} {pc : Nat} {lv : List (Nat × Value)} {st : List Value} {ad1 ad2 : Nat → Nat} {σ τ : eu_T} {y : MethodName} {bytes : ByteArray} {maxL idx na : Nat} {retY : Option FieldType} {wsy : List Cond} {rmy : Room} {Cn : String} (cw : CallW (eu_R E) (eu_s E) (eu_a E) own Cn idx y bytes maxL retY wsy rmy 0 0 na) {av : List Value} {x' : eu_T} {r : Int32} (hM : eu_KI (eu_l E) y wsy rmy 25 12 (fun ad => .ref (ad 25) :: av) τ x' r) (hna : av.length = na) {fs : List Value} {q : vw_C} (he : eu_we (eu_cy E) ad2 (τ 25) 25 = .inr (5, fs)) (hc : vwCl[5]? = some q) (hq : q.1 = Cn) {stk : List Value} (hst : stk = av.reverse ++ .ref (ad2 25) :: st) (hroom : (st.map fun v => v.category).sum ≤ 8) (hf : ce + 0 ≤ rm.cells ∧ sl + 0 ≤ rm.slots) (hd : decode cc pc = .ok (.invokevirtual idx, 3)) (kk : eu_H E nL A Q (eu_wd 0 25 (eu_cy E) ad1 σ ++ eu_wd 25 12 (eu_cy E) ad2 x') ce sl (pc + 3) lv (.int r :: st)) : eu_H E nL A Q (eu_wd 0 25 (eu_cy E) ad1 σ ++ eu_wd 25 12 (eu_cy E) ad2 τ) ce sl pc lv stk := by
  intro H locs ls hP hD hS hl
  have hPc := eu_Pr hP
  have hDc := eu_Dr hD
  have hok := eu_okD hDc
  have hAA := eu_AA hDc
  refine va_calli (va_runV (As := av) (rest := st) ⟨C.1, C.2.1, C.2.2.1, C.2.2.2.1, C.2.2.2.2.1⟩ (hM (eu_D E) (eu_cy E) ad2 hok) cw ⟨eu_blind 25 12 (fun ad => .ref (ad 25) :: av) τ (eu_D E) (eu_cy E) ad2, by rw [← hq]; exact va_recv C.2.2.2.2.2.2.1 hPc hc (q0 := 0) (ci := 5) (fs := fs) (by rw [eu_wd_ix 25 12 (eu_cy E) ad2 τ 0 (by decide)]; exact congrArg (fun z => some (ad2 25, z)) he), fun U hU hW => ⟨rfl, by rw [hU]; exact hPc, va_K.moved hW.alike C.2.2.2.2.2.2.1, eu_N_warm hW C.2.2.2.2.2.2.2.1⟩⟩ rfl hna hl.1 hst (lv_room hroom) hd ⟨by rw [C.2.2.2.2.2.2.2.2.2.1]; exact hf.1, by rw [C.2.2.2.2.2.2.2.2.2.1]; exact hf.2⟩) hS (fun q _ h => hAA q h) (fun q h => hAA q h) (fun r' u t H1 locs1 ht hvm hp hB hz hk hS1 => ?_)
  have e : r' = r := hp
  subst e
  have hB' : va_P (eu_D E) vwCl (eu_wd 25 12 (eu_cy E) ad2 x') H1 := by rw [← ht]; exact hB
  obtain ⟨hP2, hD2⟩ := eu_joinR hP hD hk hB'
  exact kk H1 locs1 ls hP2 hD2 hS1 hl
theorem el_callRL {E : eu_E} {rm : Room} {nL : Nat} {cc : ByteArray} {own : String} {ret : Option FieldType} {A : Nat → Prop} (C : eu_M E rm nL cc own eu_TB ret A) {Q : State → Prop} {ce sl : Nat} {pc : Nat} {lv : List (Nat × Value)} {st : List Value} {ad1 ad2 : Nat → Nat} {σ τ : eu_T} {y : MethodName} {bytes : ByteArray} {maxL idx na : Nat} {retY : Option FieldType} {wsy : List Cond} {rmy : Room} {Cn : String} (cw : CallW (eu_R E) (eu_s E) (eu_a E) own Cn idx y bytes maxL retY wsy rmy 0 0 na) {av : List Value} {x' : eu_T} {r : Int64} (hM : eu_KL (eu_l E) y wsy rmy 25 12 (fun ad => .ref (ad 25) :: av) τ x' r) (hna : av.length = na) {fs : List Value} {q : vw_C} (he : eu_we (eu_cy E) ad2 (τ 25) 25 = .inr (5, fs)) (hc : vwCl[5]? = some q) (hq : q.1 = Cn) {stk : List Value} (hst : stk = av.reverse ++ .ref (ad2 25) :: st) (hroom : (st.map fun v => v.category).sum ≤ 8) (hf : ce + 0 ≤ rm.cells ∧ sl + 0 ≤ rm.slots) (hd : decode cc pc = .ok (.invokevirtual idx, 3)) (kk : eu_H E nL A Q (eu_wd 0 25 (eu_cy E) ad1 σ ++ eu_wd 25 12 (eu_cy E) ad2 x') ce sl (pc + 3) lv (.long r :: st)) : eu_H E nL A Q (eu_wd 0 25 (eu_cy E) ad1 σ ++ eu_wd 25 12 (eu_cy E) ad2 τ) ce sl pc lv stk := by
  intro H locs ls hP hD hS hl
  have hPc := eu_Pr hP
  have hDc := eu_Dr hD
  have hok := eu_okD hDc
  have hAA := eu_AA hDc
  refine va_calll (va_runV (As := av) (rest := st) ⟨C.1, C.2.1, C.2.2.1, C.2.2.2.1, C.2.2.2.2.1⟩ (hM (eu_D E) (eu_cy E) ad2 hok) cw ⟨eu_blind 25 12 (fun ad => .ref (ad 25) :: av) τ (eu_D E) (eu_cy E) ad2, by rw [← hq]; exact va_recv C.2.2.2.2.2.2.1 hPc hc (q0 := 0) (ci := 5) (fs := fs) (by rw [eu_wd_ix 25 12 (eu_cy E) ad2 τ 0 (by decide)]; exact congrArg (fun z => some (ad2 25, z)) he), fun U hU hW => ⟨rfl, by rw [hU]; exact hPc, va_K.moved hW.alike C.2.2.2.2.2.2.1, eu_N_warm hW C.2.2.2.2.2.2.2.1⟩⟩ rfl hna hl.1 hst (lv_room hroom) hd ⟨by rw [C.2.2.2.2.2.2.2.2.2.1]; exact hf.1, by rw [C.2.2.2.2.2.2.2.2.2.1]; exact hf.2⟩) hS (fun q _ h => hAA q h) (fun q h => hAA q h) (fun r' u t H1 locs1 ht hvm hp hB hz hk hS1 => ?_)
  have e : r' = r := hp
  subst e
  have hB' : va_P (eu_D E) vwCl (eu_wd 25 12 (eu_cy E) ad2 x') H1 := by rw [← ht]; exact hB
  obtain ⟨hP2, hD2⟩ := eu_joinR hP hD hk hB'
  exact kk H1 locs1 ls hP2 hD2 hS1 hl
theorem el_cwV {E : eu_E} {rm : Room} {nL : Nat} {cc : ByteArray} {own : String} {ret : Option FieldType} {A : Nat → Prop} {y : MethodName} {bytes : ByteArray} {maxL idx na mc ms : Nat} {rt : Option FieldType} {rmy : Room} {Cn : String} (C : eu_M E rm nL cc own eu_TB ret A) (h1 : Cond.methodLink own idx y ∈ eu_TB) (h2 : Cond.instanceMethod y ∈ eu_TB) (h3 : Cond.selects Cn y y ∈ eu_TB) (h4 : Cond.initialized Cn ∈ eu_TB) (h5 : Cond.code y bytes maxL rt ∈ eu_TB) (hrc : rmy.cells = mc) (hrs : rmy.slots = ms)
    (hd : y.cls = Cn ∧ y.cls ≠ "java/lang/invoke/MethodHandle" ∧ y.cls ≠ "java/lang/invoke/VarHandle" ∧ (parseMethodDescriptor y.desc).map (fun d => d.parameters.length) = some na) (hR : rmy.frames + 1 ≤ rm.frames ∧ 8 + (maxL + 11) + rmy.locals ≤ rm.locals) :
    CallW (eu_R E) (eu_s E) (eu_a E) own Cn idx y bytes maxL rt (Cond.code y bytes maxL rt :: eu_TB) rmy mc ms na := by
  have hR' : rmy.frames + 1 ≤ (eu_R E).frames ∧ 8 + (maxL + 11) + rmy.locals ≤ (eu_R E).locals := by rw [C.2.2.2.2.2.2.2.2.2.1]; exact hR
  have hG : ∀ w ∈ Cond.code y bytes maxL rt :: eu_TB, w ∈ eu_TB := fun w hw => by
    rcases List.mem_cons.mp hw with e | e
    · subst e; exact h5
    · exact e
  have hg : ∀ w ∈ eu_TB, w ∈ eu_TB ∧ ((w.onTables && w.keeps) = true ∨ ∃ ty, w = .arrayClass ty) := fun w hw => ⟨hw, good_of_word (eu_TB_ok w hw)⟩
  refine cwV na C.2.2.2.2.1 (fun w hw => ?_) rfl hrc hrs hd hR'
  unfold wsV at hw
  rcases List.mem_append.mp hw with h | h
  · simp only [List.mem_cons, List.not_mem_nil, or_false] at h
    rcases h with e | e | e | e <;> subst e
    · exact hg _ h1
    · exact hg _ h2
    · exact hg _ h3
    · exact hg _ h4
  · exact hg _ (hG w h)
theorem el_cwI {E : eu_E} {rm : Room} {nL : Nat} {cc : ByteArray} {own : String} {ret : Option FieldType} {A : Nat → Prop} {y : MethodName} {bytes : ByteArray} {maxL idx mc ms : Nat} {rmy : Room} (C : eu_M E rm nL cc own eu_TB ret A) (h1 : Cond.methodLink own idx y ∈ eu_TB) (h2 : Cond.instanceMethod y ∈ eu_TB) (h4 : Cond.initialized y.cls ∈ eu_TB) (h5 : Cond.code y bytes maxL none ∈ eu_TB) (hrc : rmy.cells = mc) (hrs : rmy.slots = ms) (hyn : y.name = "<init>")
    (hd : y.cls ≠ "java/lang/invoke/MethodHandle" ∧ y.cls ≠ "java/lang/invoke/VarHandle" ∧ (parseMethodDescriptor y.desc).map (fun d => d.parameters.length) = some 0) (hR : rmy.frames + 1 ≤ rm.frames ∧ 8 + (maxL + 11) + rmy.locals ≤ rm.locals) :
    CallB (eu_R E) (eu_s E) (eu_a E) own idx y bytes maxL none (Cond.code y bytes maxL none :: eu_TB) rmy mc ms 0 ∧ y.name = "<init>" ∧ (Cond.instanceMethod y).before (eu_a E) (eu_s E) = true := by
  have hR' : rmy.frames + 1 ≤ (eu_R E).frames ∧ 8 + (maxL + 11) + rmy.locals ≤ (eu_R E).locals := by rw [C.2.2.2.2.2.2.2.2.2.1]; exact hR
  have hG : GoodIn eu_TB (Cond.code y bytes maxL none :: eu_TB) := fun w hw => by
    have hm : w ∈ eu_TB := by
      rcases List.mem_cons.mp hw with e | e
      · subst e; exact h5
      · exact e
    exact ⟨hm, good_of_word (eu_TB_ok w hm)⟩
  exact ⟨callB_of 0 C.2.2.2.2.1 hG rfl hrc hrs (C.2.2.2.2.1 _ h4) (C.2.2.2.2.1 _ h1) hd hR', hyn, C.2.2.2.2.1 _ h2⟩
theorem el_sld {E : eu_E} {rm : Room} {nL : Nat} {cc : ByteArray} {own : String} {ret : Option FieldType} {A : Nat → Prop} (C : eu_M E rm nL cc own eu_TB ret A) {Q : State → Prop} {ce sl : Nat} {pc : Nat} {lv : List (Nat × Value)} {st : List Value} {w : va_W} {b L : Nat} {xs : Nat → Int32} (hX : va_X b L xs (eu_s E) (eu_s E).heap) (hbl : b < (eu_s E).heap.size) (hbA : ¬ A b) {i : Int32} (hin : vp_in i L) (hd : decode cc pc = .ok (.iaload, 1)) (kk : eu_H E nL A Q w ce sl (pc + 1) lv (.int (xs i.toNatClampNeg) :: st)) : eu_H E nL A Q w ce sl pc lv (.int i :: .ref b :: st) :=
  fun H locs ls hP hD hS hl => va_sld C.1 C.2.1 hX hbl hbA hS hin hd (kk H locs ls hP hD hS hl)
theorem el_slen {E : eu_E} {rm : Room} {nL : Nat} {cc : ByteArray} {own : String} {ret : Option FieldType} {A : Nat → Prop} (C : eu_M E rm nL cc own eu_TB ret A) {Q : State → Prop} {ce sl : Nat} {pc : Nat} {lv : List (Nat × Value)} {st : List Value} {w : va_W} {b L : Nat} {xs : Nat → Int32} (hX : va_X b L xs (eu_s E) (eu_s E).heap) (hbl : b < (eu_s E).heap.size) (hbA : ¬ A b) (hd : decode cc pc = .ok (.arraylength, 1)) (kk : eu_H E nL A Q w ce sl (pc + 1) lv (.int (nI L) :: st)) : eu_H E nL A Q w ce sl pc lv (.ref b :: st) :=
  fun H locs ls hP hD hS hl => va_slen C.1 C.2.1 hX hbl hbA hS hd (kk H locs ls hP hD hS hl)
theorem el_cmp (x : Int64) : lg_cmp x x = 0 := by
  unfold lg_cmp
  simp
theorem eu_xin {i L k : Nat} {z : Int32} (hz : z = nI i + nI k) (h : i + k < L) (hL : L ≤ 384) : vp_in z L := by
  rw [hz, nI_add]
  exact vp_in_nI h (by omega)
theorem eu_xle {i L : Nat} (hi : i ≤ 390) (hL : L ≤ 384) (h : ¬ nI L - 6 < nI i) : i + 5 < L := by
  have h1 : (nI L - 6).toInt = (L : Int) - 6 := by
    have := pk_sub_toInt (a := L) (b := 6) (by omega) (by omega)
    exact this
  have h2 : (nI i).toInt = (i : Int) := nI_toInt (by omega)
  rw [Int32.lt_iff_toInt_lt, h1, h2] at h
  omega
