/-! ===== BEGIN words of one list among another's, by their places ===== -/
theorem goodIn_r {big : List Cond} (ws : List Cond) (ps : List Nat) (hp : ws = ps.filterMap (fun i => big[i]?)) (h : ws.all goodWord = true) : GoodIn big ws := by
  intro w hw
  have h1 := List.all_eq_true.mp h w hw
  rw [hp] at hw
  obtain ⟨i, -, hi⟩ := List.mem_filterMap.mp hw
  have hm : w ∈ big := by first | exact List.mem_of_getElem? hi | exact List.getElem?_mem hi
  exact ⟨hm, good_of_word h1⟩
theorem goodIn_app {big a b : List Cond} (ha : GoodIn big a) (hb : GoodIn big b) : GoodIn big (a ++ b) := fun w h => (List.mem_append.mp h).elim (ha w) (hb w)
theorem goodIn_ca {big a b : List Cond} {c : Cond} (ha : GoodIn big (c :: a)) (hb : GoodIn big b) : GoodIn big (c :: (a ++ b)) := fun w h => (List.mem_cons.mp h).elim (fun e => ha w (List.mem_cons.mpr (Or.inl e))) (fun h => (List.mem_append.mp h).elim (fun h => ha w (List.mem_cons.mpr (Or.inr h))) (hb w))
theorem goodIn_sub {big ws : List Cond} (hm : ∀ w ∈ ws, w ∈ big) (h : ws.all goodWord = true) : GoodIn big ws := fun w hw => ⟨hm w hw, good_of_word (List.all_eq_true.mp h w hw)⟩
/-! ===== END ===== -/

/-! ===== BEGIN new T[n][m]: the outer array a place, the inner ones among the pooled ===== -/
/-- f, but v at every address of l -/
def vr_up {α : Type} (f : Nat → α) (l : List Nat) (v : α) : Nat → α := fun a => if a ∈ l then v else f a
theorem vr_up_in {α : Type} {f : Nat → α} {l : List Nat} {v : α} {a : Nat} (h : a ∈ l) : vr_up f l v a = v := if_pos h
theorem vr_up_ne {α : Type} {f : Nat → α} {l : List Nat} {v : α} {a : Nat} (h : a ∉ l) : vr_up f l v a = f a := if_neg h
theorem vr_rows {L l : List Nat} {f : Nat → va_E} {e : va_E} (h : ∀ a, a ∈ l → a ∉ L) : va_pl L f ++ l.map (fun a => (a, e)) = va_pl (L ++ l) (vr_up f l e) := by
  unfold va_pl
  rw [List.map_append]
  congr 1
  · apply List.map_congr_left
    intro a ha
    rw [vr_up_ne (fun q => h a q ha)]
  · apply List.map_congr_left
    intro a ha
    rw [vr_up_in ha]
theorem vr_lay {X rows : va_W} {x : Nat × va_E} {pl : va_W} {D : va_G} {cl : List vw_C} {H : Heap} (hP : va_P D cl (((X ++ pl) ++ [x]) ++ rows) H) : va_P D cl ((X ++ [x]) ++ (pl ++ rows)) H := by
  rw [List.append_assoc (X ++ pl)] at hP
  have h := va_P.swap hP
  rw [← List.append_assoc X] at h
  have h2 := va_P.swap h
  rw [List.append_assoc (X ++ [x])] at h2
  exact h2
theorem vr_layD {X rows : va_W} {x : Nat × va_E} {pl : va_W} {A : Nat → Prop} (hD : va_D A (((X ++ pl) ++ [x]) ++ rows)) : va_D A ((X ++ [x]) ++ (pl ++ rows)) := by
  rw [List.append_assoc (X ++ pl)] at hD
  have h := va_D.swap hD
  rw [← List.append_assoc X] at h
  have h2 := va_D.swap h
  rw [List.append_assoc (X ++ [x])] at h2
  exact h2
theorem vr_outer (c : ClassId) (N h0 : Nat) : ∀ i : Nat, Jvm.Free.Multi.outerC c N h0 i = arrV c N (fun j => va_rf (if j < i then some (h0 + 1 + j) else none))
  | 0 => by
    show ({ cls := c, slots := Array.replicate N .null, vm := .none } : Cell) = _
    rw [arrV_new]
    refine congrArg (arrV c N) (funext fun j => ?_)
    simp [va_rf]
  | i + 1 => by
    show (Jvm.Free.Multi.outerC c N h0 i).setSlot i (.ref (h0 + 1 + i)) = _
    rw [vr_outer c N h0 i, arrV_store]
    refine congrArg (arrV c N) (funext fun j => ?_)
    by_cases e : j = i
    · subst e
      simp [updV, va_rf]
    · by_cases h : j < i
      · simp [updV, e, h, Nat.lt_succ_of_lt h]
      · simp [updV, e, h, show ¬ j < i + 1 by omega]
def va_AOA (t : FieldType) (U : State) : Prop := (Cond.arrayOver (.array t)).before #[] U = true
theorem va_AOA.of {t : FieldType} {A : Array Value} {U : State} (h : (Cond.arrayOver (.array t)).before A U = true) : va_AOA t U := h
theorem va_AOA.use {t : FieldType} {A : Array Value} {U : State} (h : va_AOA t U) : (Cond.arrayOver (.array t)).before A U = true := h
section VGM
variable {p : Program} {l : Launch} {e : Env} {R : Room} {s : State} {m : MethodId} {args : Array Value} {below : List Frame} {meth : Method} {c : Code} {H : Heap} {locs : List Loc} {cells slots : Nat} {Q : State → Prop}
variable {cc : ByteArray} {pc : Nat} {ls : Array Slot} {rest : List Value} {D : va_G} {cl : List vw_C} {A : Nat → Prop} {a : Nat} {tys : List (ClassId × FieldType)} {ws : va_W} {H0 : Heap}
theorem va_mna {X : va_W} {L : List Nat} {f : Nat → va_E} {cc : ByteArray} (hexec : p.tables.exec = Jvm.exec) (hb : c.code = cc) {own : String} {index : Nat} {ty : FieldType} {cy : ClassId} (hown : s.vm.findClass own = some m.cls) (hclink : (Cond.classLink own index ("[" ++ (FieldType.array ty).toString)).before args s = true) (hover : va_AOA ty s) (harr : (Cond.arrayClass ty).before args s = true) (hcy : s.vm.findClass (FieldType.array ty).toString = some cy)
    (hK : va_K D cl tys s) (hP : va_P D cl (X ++ va_pl L f) H) (hD : va_D A (X ++ va_pl L f)) (hS : va_S A H0 H locs) (hA : ∀ q, H0.size ≤ q → A q) {n k : Int32} {N' K' : Nat} {z : vp_A} (hn : ¬ n < 0) (hk : ¬ k < 0) (hN : n.toNatClampNeg = N') (hM : k.toNatClampNeg = K')
    (hb1 : N' * 4 ≤ 536870912) (hb2 : K' * componentBytes ty ≤ 536870912) (hb3 : K' ≤ 536870912) (hdf : fits ty (defaultValue ty) = true) (hdd : (defaultValue ty).isDefault = true) (hcells : cells + (1 + N') ≤ R.cells) (hslots : slots + (N' + N' * K') ≤ R.slots) (hz : ∀ c : ClassId, Jvm.Free.Multi.innerC c K' (defaultValue ty) = vp_cell c z) (hdg : decode cc pc = .ok (.multianewarray index 2, 4))
    (kk : ∀ (q : Nat) (r : Nat → Nat) (cA : ClassId) (H1 : Heap), (∀ i j : Nat, i < N' → j < N' → r i = r j → i = j) → (∀ i : Nat, i < N' → r i ∉ L) → va_K D cl (tys ++ [(cA, .array ty)]) s →
      va_P D cl ((X ++ [(q, .inl (cA, N', .inr (.inr (.inr (.inr (fun i => if i < N' then some (r i) else none))))))]) ++ va_pl (L ++ (List.range N').map r) (vr_up f ((List.range N').map r) (.inl (cy, z)))) H1 → va_D A ((X ++ [(q, .inl (cA, N', .inr (.inr (.inr (.inr (fun i => if i < N' then some (r i) else none))))))]) ++ va_pl (L ++ (List.range N').map r) (vr_up f ((List.range N').map r) (.inl (cy, z)))) → va_S A H0 H1 locs →
      W p l e R s m args below meth c H1 locs (cells + 1 + N') (slots + N' + N' * K') Q (F0 m (pc + 4) ls (.ref q :: rest))) : W p l e R s m args below meth c H locs cells slots Q (F0 m pc ls (.int k :: .int n :: rest)) := by
  subst hN
  subst hM
  intro T hT Xs
  obtain ⟨vm₁, cA, comp, -, fA, fC, hO, -, X', step⟩ := Xs.multianewarray2F hexec hown hclink (va_AOA.use hover) harr (g := F0 m pc ls (.int k :: .int n :: rest)) rfl (by rw [hb]; exact hdg) rfl hn hk hb1 hb2 hb3 hdf hdd hcells hslots
  have ec : some cy = some comp := hcy.symm.trans fC
  cases ec
  generalize hF : Jvm.Free.Multi.fill (T.setVm vm₁) cA cy n.toNatClampNeg k.toNatClampNeg (defaultValue ty) n.toNatClampNeg = F at X' step
  have hTh : (T.setVm vm₁).heap = H := hT
  obtain ⟨f1, f2, -, -⟩ := Jvm.Free.Multi.fill_facts (T.setVm vm₁) cA cy n.toNatClampNeg k.toNatClampNeg (defaultValue ty) n.toNatClampNeg
  rw [hF, hTh] at f1 f2
  have hold : ∀ x : Nat, x < H.size → F.heap[x]? = H[x]? := fun x hx => by
    have := Jvm.Free.Multi.fill_old (T.setVm vm₁) cA cy n.toNatClampNeg k.toNatClampNeg (defaultValue ty) (a := x) (by rw [hTh]; exact hx) n.toNatClampNeg
    rw [hF, hTh] at this
    exact this
  have hrow : ∀ j : Nat, j < n.toNatClampNeg → F.heap[H.size + 1 + j]? = some (vp_cell cy z) := fun j hj => by
    have := Jvm.Free.Multi.fill_inner (T.setVm vm₁) cA cy n.toNatClampNeg k.toNatClampNeg (defaultValue ty) n.toNatClampNeg j hj
    rw [hF, hTh, hz] at this
    exact this
  have hout : Jvm.Free.Multi.outerC cA n.toNatClampNeg H.size n.toNatClampNeg = vp_cell cA (n.toNatClampNeg, .inr (.inr (.inr (.inr (fun i => if i < n.toNatClampNeg then some (H.size + 1 + i) else none))))) := by
    rw [vp_cell_q]
    exact vr_outer cA n.toNatClampNeg H.size n.toNatClampNeg
  rw [hout] at f2
  have hlt : ∀ a, a ∈ L → a < H.size := fun a ha => by
    obtain ⟨k9, hk9⟩ := va_pl_get (X := X) (f := f) ha
    exact (hP k9 _ hk9).lt
  have hnl : ∀ i : Nat, i < n.toNatClampNeg → H.size + 1 + i ∉ L := fun i _ h => by
    have := hlt _ h
    omega
  have hnm : ∀ a, a ∈ (List.range n.toNatClampNeg).map (fun i => H.size + 1 + i) → a ∉ L := fun a ha h => by
    obtain ⟨i, -, rfl⟩ := List.mem_map.mp ha
    have := hlt _ h
    omega
  have hP0 : va_P D cl (X ++ va_pl L f) F.heap := hP.kept (fun k9 x hx => hold x.1 ((hP k9 x hx).lt))
  have hP1 : va_P D cl ((X ++ va_pl L f) ++ [(H.size, .inl (cA, n.toNatClampNeg, .inr (.inr (.inr (.inr (fun i => if i < n.toNatClampNeg then some (H.size + 1 + i) else none))))))]) F.heap := hP0.app (fun k9 x hx => by
    have h0 : k9 < 1 := (List.getElem?_eq_some_iff.mp hx).1
    rw [show k9 = 0 by omega] at hx
    cases hx
    exact f2)
  have hP2 : va_P D cl (((X ++ va_pl L f) ++ [(H.size, .inl (cA, n.toNatClampNeg, .inr (.inr (.inr (.inr (fun i => if i < n.toNatClampNeg then some (H.size + 1 + i) else none))))))]) ++ ((List.range n.toNatClampNeg).map (fun i => H.size + 1 + i)).map (fun a => (a, .inl (cy, z)))) F.heap := hP1.app (fun k9 x hx => by
    obtain ⟨a, ha, rfl⟩ := List.mem_map.mp (List.mem_of_getElem? hx)
    obtain ⟨i, hi, rfl⟩ := List.mem_map.mp ha
    exact hrow i (List.mem_range.mp hi))
  have hD2 : va_D A (((X ++ va_pl L f) ++ [(H.size, .inl (cA, n.toNatClampNeg, .inr (.inr (.inr (.inr (fun i => if i < n.toNatClampNeg then some (H.size + 1 + i) else none))))))]) ++ ((List.range n.toNatClampNeg).map (fun i => H.size + 1 + i)).map (fun a => (a, .inl (cy, z)))) := by
    have hD1 := hD.push (e := .inl (cA, n.toNatClampNeg, .inr (.inr (.inr (.inr (fun i => if i < n.toNatClampNeg then some (H.size + 1 + i) else none)))))) hP rfl (hA _ hS.1)
    generalize hW1 : (X ++ va_pl L f) ++ [(H.size, .inl (cA, n.toNatClampNeg, .inr (.inr (.inr (.inr (fun i => if i < n.toNatClampNeg then some (H.size + 1 + i) else none))))))] = W1 at hD1 hP1 ⊢
    have hle : ∀ (k9 : Nat) (x : Nat × va_E), W1[k9]? = some x → x.1 ≤ H.size := fun k9 x hx => by
      rw [← hW1] at hx
      by_cases hl : k9 < (X ++ va_pl L f).length
      · rw [List.getElem?_append_left hl] at hx
        exact Nat.le_of_lt ((hP k9 x hx).lt)
      · rw [List.getElem?_append_right (by omega)] at hx
        have h0 : k9 - (X ++ va_pl L f).length < 1 := (List.getElem?_eq_some_iff.mp hx).1
        rw [show k9 - (X ++ va_pl L f).length = 0 by omega] at hx
        cases hx
        exact Nat.le_refl _
    have hr : ∀ (k9 : Nat) (x : Nat × va_E), (((List.range n.toNatClampNeg).map (fun i => H.size + 1 + i)).map (fun a => ((a, .inl (cy, z)) : Nat × va_E)))[k9]? = some x → x.1 = H.size + 1 + k9 := fun k9 x hx => by
      rw [List.getElem?_map, List.getElem?_map] at hx
      by_cases h9 : k9 < n.toNatClampNeg
      · rw [List.getElem?_range h9] at hx
        cases hx
        rfl
      · have hn0 : (List.range n.toNatClampNeg)[k9]? = none := List.getElem?_eq_none (by rw [List.length_range]; omega)
        rw [hn0] at hx
        cases hx
    refine ⟨fun i j x y hi hj hxy => ?_, fun k9 x hx => ?_⟩
    · by_cases h1 : i < W1.length <;> by_cases h2 : j < W1.length
      · rw [List.getElem?_append_left h1] at hi
        rw [List.getElem?_append_left h2] at hj
        exact hD1.1 i j x y hi hj hxy
      · rw [List.getElem?_append_left h1] at hi
        rw [List.getElem?_append_right (by omega)] at hj
        have := hle _ _ hi
        have := hr _ _ hj
        omega
      · rw [List.getElem?_append_right (by omega)] at hi
        rw [List.getElem?_append_left h2] at hj
        have := hle _ _ hj
        have := hr _ _ hi
        omega
      · rw [List.getElem?_append_right (by omega)] at hi hj
        have := hr _ _ hi
        have := hr _ _ hj
        omega
    · by_cases h1 : k9 < W1.length
      · rw [List.getElem?_append_left h1] at hx
        exact hD1.2 k9 x hx
      · rw [List.getElem?_append_right (by omega)] at hx
        have := hr _ _ hx
        exact hA _ (by have := hS.1; omega)
  have hAr : ArrOfT s cA (.array ty) := fun N9 z9 => by
    obtain ⟨-, k9, hk9, cm9, hkk9⟩ := (hO 0 0 0).1
    exact ⟨(fun q hq => by cases hq), k9, hk9, cm9, hkk9⟩
  have hK2 : va_K D cl (tys ++ [(cA, .array ty)]) s := ⟨hK.1, fun k9 x hx => by
    by_cases hl : k9 < tys.length
    · rw [List.getElem?_append_left hl] at hx
      exact hK.2 k9 x hx
    · rw [List.getElem?_append_right (by omega)] at hx
      have h0 : k9 - tys.length < 1 := (List.getElem?_eq_some_iff.mp hx).1
      rw [show k9 - tys.length = 0 by omega] at hx
      cases hx
      exact ⟨hAr, fA⟩⟩
  obtain ⟨t, a1, b1⟩ := kk H.size (fun i => H.size + 1 + i) cA F.heap (fun i j _ _ h => by have h9 : H.size + 1 + i = H.size + 1 + j := h; omega) hnl hK2 (by rw [← vr_rows hnm]; exact vr_lay hP2) (by rw [← vr_rows hnm]; exact vr_layD hD2) ⟨by rw [f1]; have := hS.1; omega, fun x h1 h2 => (hold x (Nat.lt_of_lt_of_le h1 hS.1)).trans (hS.2.1 x h1 h2), hS.2.2⟩ F rfl X'
  refine ⟨t, step t ?_, b1⟩
  have e : T.heap.size = H.size := by rw [hT]
  rw [e]
  exact a1
end VGM
/-! ===== END ===== -/

/-! ===== BEGIN printed: names, fields, word lists, decode rows ===== -/
def RX0 : String := "EachUndoes$Deeds"
def TX0 : u_T := fun k => match k with
  | 0 => ("EachUndoes$Deeds", "bytes", "[I", true)
  | 1 => ("EachUndoes$Deeds", "doers", "[I", true)
  | 2 => ("EachUndoes$Deeds", "sources", "[I", true)
  | 3 => ("EachUndoes$Deeds", "length", "I", false)
  | 4 => ("EachUndoes$Deeds", "total", "I", false)
  | 5 => ("EachUndoes$Deeds", "own", "I", false)
  | _ => ("EachUndoes$Deeds", "fault", "I", false)
def tyX0 : Nat → FieldType := fun k => match k with
  | 0 => .array .int
  | 1 => .array .int
  | 2 => .array .int
  | 3 => .int
  | 4 => .int
  | 5 => .int
  | _ => .int
abbrev wsX00 : List Cond := u_ws RX0 TX0 7
theorem nmX0 : ∀ a, a < 7 → ∀ b, b < 7 → a ≠ b → (TX0 a).2.1 ≠ (TX0 b).2.1 := by decide +kernel
theorem tyX0_ok : ∀ k, k < 7 → parseFieldDescriptor (TX0 k).2.2.1 = some (tyX0 k) := by decide +kernel
abbrev cX0_init : ByteArray := prog_2_method_1_code
def yX0_init : MethodName := ⟨RX0, "<init>", "()V"⟩
abbrev cX0_append : ByteArray := prog_2_method_2_code
def yX0_append : MethodName := ⟨RX0, "append", "(I)I"⟩
abbrev cX0_clear : ByteArray := prog_2_method_3_code
def yX0_clear : MethodName := ⟨RX0, "clear", "()I"⟩
abbrev cX0_parse : ByteArray := prog_2_method_4_code
def yX0_parse : MethodName := ⟨RX0, "parse", "()V"⟩
abbrev cX0_begin : ByteArray := prog_2_method_5_code
def yX0_begin : MethodName := ⟨RX0, "begin", "(I)I"⟩
abbrev cX0_goOn : ByteArray := prog_2_method_6_code
def yX0_goOn : MethodName := ⟨RX0, "goOn", "(II)I"⟩
abbrev cX0_standing : ByteArray := prog_2_method_7_code
def yX0_standing : MethodName := ⟨RX0, "standing", "(I)I"⟩
abbrev cX0_fallen : ByteArray := prog_2_method_8_code
def yX0_fallen : MethodName := ⟨RX0, "fallen", "(I)I"⟩
abbrev cX0_rootOf : ByteArray := prog_2_method_9_code
def yX0_rootOf : MethodName := ⟨RX0, "rootOf", "(II)I"⟩
abbrev cX0_doneBy : ByteArray := prog_2_method_10_code
def yX0_doneBy : MethodName := ⟨RX0, "doneBy", "(I)I"⟩
def RX1 : String := "EachUndoes$Outlook"
def TX1 : u_T := fun k => match k with
  | 0 => ("EachUndoes$Outlook", "undoings", "LEachUndoes$Undoings;", true)
  | 1 => ("EachUndoes$Outlook", "deeds", "LEachUndoes$Deeds;", true)
  | 2 => ("EachUndoes$Outlook", "worths", "[[I", true)
  | 3 => ("EachUndoes$Outlook", "law", "I", false)
  | 4 => ("EachUndoes$Outlook", "unspent", "I", false)
  | 5 => ("EachUndoes$Outlook", "drawnDeeds", "I", false)
  | 6 => ("EachUndoes$Outlook", "drawnTotal", "I", false)
  | _ => ("EachUndoes$Outlook", "seed", "I", false)
def tyX1 : Nat → FieldType := fun k => match k with
  | 0 => .object "EachUndoes$Undoings"
  | 1 => .object "EachUndoes$Deeds"
  | 2 => .array (.array .int)
  | 3 => .int
  | 4 => .int
  | 5 => .int
  | 6 => .int
  | _ => .int
abbrev wsX10 : List Cond := u_ws RX1 TX1 8
theorem nmX1 : ∀ a, a < 8 → ∀ b, b < 8 → a ≠ b → (TX1 a).2.1 ≠ (TX1 b).2.1 := by decide +kernel
theorem tyX1_ok : ∀ k, k < 8 → parseFieldDescriptor (TX1 k).2.2.1 = some (tyX1 k) := by decide +kernel
abbrev cX1_init : ByteArray := prog_3_method_1_code
def yX1_init : MethodName := ⟨RX1, "<init>", "()V"⟩
abbrev cX1_renew : ByteArray := prog_3_method_2_code
def yX1_renew : MethodName := ⟨RX1, "renew", "()V"⟩
abbrev cX1_standingWith : ByteArray := prog_3_method_3_code
def yX1_standingWith : MethodName := ⟨RX1, "standingWith", "(II)I"⟩
abbrev cX1_isAsTold : ByteArray := prog_3_method_4_code
def yX1_isAsTold : MethodName := ⟨RX1, "isAsTold", "(III)Z"⟩
abbrev cX1_takersOf : ByteArray := prog_3_method_5_code
def yX1_takersOf : MethodName := ⟨RX1, "takersOf", "(I)I"⟩
abbrev cX1_leastTaker : ByteArray := prog_3_method_6_code
def yX1_leastTaker : MethodName := ⟨RX1, "leastTaker", "(II)I"⟩
abbrev cX1_leastFirst : ByteArray := prog_3_method_7_code
def yX1_leastFirst : MethodName := ⟨RX1, "leastFirst", "(III)I"⟩
abbrev cX1_lasting : ByteArray := prog_3_method_8_code
def yX1_lasting : MethodName := ⟨RX1, "lasting", "(I)I"⟩
abbrev cX1_bestMove : ByteArray := prog_3_method_9_code
def yX1_bestMove : MethodName := ⟨RX1, "bestMove", "(II)I"⟩
abbrev cX1_bestReply : ByteArray := prog_3_method_10_code
def yX1_bestReply : MethodName := ⟨RX1, "bestReply", "(II)I"⟩
abbrev cX1_canTake : ByteArray := prog_3_method_11_code
def yX1_canTake : MethodName := ⟨RX1, "canTake", "(III)Z"⟩
abbrev cX1_worthOf : ByteArray := prog_3_method_12_code
def yX1_worthOf : MethodName := ⟨RX1, "worthOf", "(II)I"⟩
abbrev cX1_draw : ByteArray := prog_3_method_13_code
def yX1_draw : MethodName := ⟨RX1, "draw", "(II)V"⟩
abbrev cX1_lotOf : ByteArray := prog_3_method_14_code
def yX1_lotOf : MethodName := ⟨RX1, "lotOf", "(I)I"⟩
def RX2 : String := "EachUndoes$Sheet"
def TX2 : u_T := fun k => match k with
  | 0 => ("EachUndoes$Sheet", "items", "[I", true)
  | 1 => ("EachUndoes$Sheet", "isLost", "Z", false)
  | 2 => ("EachUndoes$Sheet", "form", "I", false)
  | _ => ("EachUndoes$Sheet", "size", "I", false)
def tyX2 : Nat → FieldType := fun k => match k with
  | 0 => .array .int
  | 1 => .boolean
  | 2 => .int
  | _ => .int
abbrev wsX20 : List Cond := u_ws RX2 TX2 4
theorem nmX2 : ∀ a, a < 4 → ∀ b, b < 4 → a ≠ b → (TX2 a).2.1 ≠ (TX2 b).2.1 := by decide +kernel
theorem tyX2_ok : ∀ k, k < 4 → parseFieldDescriptor (TX2 k).2.2.1 = some (tyX2 k) := by decide +kernel
abbrev cX2_init : ByteArray := prog_4_method_1_code
def yX2_init : MethodName := ⟨RX2, "<init>", "()V"⟩
abbrev cX2_begin : ByteArray := prog_4_method_2_code
def yX2_begin : MethodName := ⟨RX2, "begin", "(II)V"⟩
abbrev cX2_findingAt : ByteArray := prog_4_method_3_code
def yX2_findingAt : MethodName := ⟨RX2, "findingAt", "(II)I"⟩
abbrev cX2_hasItems : ByteArray := prog_4_method_4_code
def yX2_hasItems : MethodName := ⟨RX2, "hasItems", "(II)Z"⟩
abbrev cX2_put : ByteArray := prog_4_method_5_code
def yX2_put : MethodName := ⟨RX2, "put", "(II)V"⟩
def RX3 : String := "EachUndoes$Undoings"
def TX3 : u_T := fun k => match k with
  | 0 => ("EachUndoes$Undoings", "deeds", "LEachUndoes$Deeds;", true)
  | 1 => ("EachUndoes$Undoings", "persons", "[I", true)
  | 2 => ("EachUndoes$Undoings", "things", "[I", true)
  | _ => ("EachUndoes$Undoings", "total", "I", false)
def tyX3 : Nat → FieldType := fun k => match k with
  | 0 => .object "EachUndoes$Deeds"
  | 1 => .array .int
  | 2 => .array .int
  | _ => .int
abbrev wsX30 : List Cond := u_ws RX3 TX3 4
theorem nmX3 : ∀ a, a < 4 → ∀ b, b < 4 → a ≠ b → (TX3 a).2.1 ≠ (TX3 b).2.1 := by decide +kernel
theorem tyX3_ok : ∀ k, k < 4 → parseFieldDescriptor (TX3 k).2.2.1 = some (tyX3 k) := by decide +kernel
abbrev cX3_init : ByteArray := prog_5_method_1_code
def yX3_init : MethodName := ⟨RX3, "<init>", "()V"⟩
abbrev cX3_tell : ByteArray := prog_5_method_2_code
def yX3_tell : MethodName := ⟨RX3, "tell", "(II)Z"⟩
abbrev cX3_lawful : ByteArray := prog_5_method_3_code
def yX3_lawful : MethodName := ⟨RX3, "lawful", "(I)I"⟩
abbrev cX3_lawfulOfFirst : ByteArray := prog_5_method_4_code
def yX3_lawfulOfFirst : MethodName := ⟨RX3, "lawfulOfFirst", "(I)I"⟩
abbrev cX3_ownerOf : ByteArray := prog_5_method_5_code
def yX3_ownerOf : MethodName := ⟨RX3, "ownerOf", "(II)I"⟩
abbrev cX3_unspent : ByteArray := prog_5_method_6_code
def yX3_unspent : MethodName := ⟨RX3, "unspent", "(I)I"⟩
abbrev cX3_holding : ByteArray := prog_5_method_7_code
def yX3_holding : MethodName := ⟨RX3, "holding", "(I)I"⟩
abbrev cX3_undone : ByteArray := prog_5_method_8_code
def yX3_undone : MethodName := ⟨RX3, "undone", "(I)I"⟩
abbrev cX3_standing : ByteArray := prog_5_method_9_code
def yX3_standing : MethodName := ⟨RX3, "standing", "(I)I"⟩
def RX4 : String := "EachUndoes"
def TX4 : u_T := fun k => match k with
  | 0 => ("EachUndoes", "outlook", "LEachUndoes$Outlook;", true)
  | 1 => ("EachUndoes", "undoings", "LEachUndoes$Undoings;", true)
  | 2 => ("EachUndoes", "deeds", "LEachUndoes$Deeds;", true)
  | 3 => ("EachUndoes", "sheets", "[LEachUndoes$Sheet;", true)
  | 4 => ("EachUndoes", "seenTotal", "I", false)
  | 5 => ("EachUndoes", "seenStanding", "I", false)
  | 6 => ("EachUndoes", "seenMissing", "I", false)
  | _ => ("EachUndoes", "finding", "I", false)
def tyX4 : Nat → FieldType := fun k => match k with
  | 0 => .object "EachUndoes$Outlook"
  | 1 => .object "EachUndoes$Undoings"
  | 2 => .object "EachUndoes$Deeds"
  | 3 => .array (.object "EachUndoes$Sheet")
  | 4 => .int
  | 5 => .int
  | 6 => .int
  | _ => .int
abbrev wsX40 : List Cond := u_ws RX4 TX4 8
theorem nmX4 : ∀ a, a < 8 → ∀ b, b < 8 → a ≠ b → (TX4 a).2.1 ≠ (TX4 b).2.1 := by decide +kernel
theorem tyX4_ok : ∀ k, k < 8 → parseFieldDescriptor (TX4 k).2.2.1 = some (tyX4 k) := by decide +kernel
abbrev cX4_init : ByteArray := prog_1_method_1_code
def yX4_init : MethodName := ⟨RX4, "<init>", "()V"⟩
abbrev cX4_type : ByteArray := prog_1_method_2_code
def yX4_type : MethodName := ⟨RX4, "type", "(I)I"⟩
abbrev cX4_wipe : ByteArray := prog_1_method_3_code
def yX4_wipe : MethodName := ⟨RX4, "wipe", "()I"⟩
abbrev cX4_fault : ByteArray := prog_1_method_4_code
def yX4_fault : MethodName := ⟨RX4, "fault", "()I"⟩
abbrev cX4_deed : ByteArray := prog_1_method_5_code
def yX4_deed : MethodName := ⟨RX4, "deed", "(II)I"⟩
abbrev cX4_undoes : ByteArray := prog_1_method_6_code
def yX4_undoes : MethodName := ⟨RX4, "undoes", "(II)I"⟩
abbrev cX4_read : ByteArray := prog_1_method_7_code
def yX4_read : MethodName := ⟨RX4, "read", "(I)I"⟩
abbrev cX4_undo : ByteArray := prog_1_method_8_code
def yX4_undo : MethodName := ⟨RX4, "undo", "()I"⟩
abbrev cX4_worth : ByteArray := prog_1_method_9_code
def yX4_worth : MethodName := ⟨RX4, "worth", "(III)I"⟩
abbrev cX4_judged : ByteArray := prog_1_method_10_code
def yX4_judged : MethodName := ⟨RX4, "judged", "()I"⟩
abbrev cX4_holds : ByteArray := prog_1_method_11_code
def yX4_holds : MethodName := ⟨RX4, "holds", "(I)I"⟩
abbrev cX4_state : ByteArray := prog_1_method_12_code
def yX4_state : MethodName := ⟨RX4, "state", "(II)I"⟩
abbrev cX4_root : ByteArray := prog_1_method_13_code
def yX4_root : MethodName := ⟨RX4, "root", "(I)I"⟩
abbrev cX4_by : ByteArray := prog_1_method_14_code
def yX4_by : MethodName := ⟨RX4, "by", "(I)I"⟩
abbrev cX4_without : ByteArray := prog_1_method_15_code
def yX4_without : MethodName := ⟨RX4, "without", "(II)I"⟩
abbrev cX4_standingBehind : ByteArray := prog_1_method_16_code
def yX4_standingBehind : MethodName := ⟨RX4, "standingBehind", "(I)I"⟩
abbrev cX4_fewest : ByteArray := prog_1_method_17_code
def yX4_fewest : MethodName := ⟨RX4, "fewest", "(IIII)I"⟩
abbrev cX4_safe : ByteArray := prog_1_method_18_code
def yX4_safe : MethodName := ⟨RX4, "safe", "(I)I"⟩
abbrev cX4_last : ByteArray := prog_1_method_19_code
def yX4_last : MethodName := ⟨RX4, "last", "(III)I"⟩
abbrev cX4_seen : ByteArray := prog_1_method_20_code
def yX4_seen : MethodName := ⟨RX4, "seen", "(II)I"⟩
abbrev cX4_forget : ByteArray := prog_1_method_21_code
def yX4_forget : MethodName := ⟨RX4, "forget", "()I"⟩
abbrev cX4_often : ByteArray := prog_1_method_22_code
def yX4_often : MethodName := ⟨RX4, "often", "()I"⟩
abbrev cX4_drawn : ByteArray := prog_1_method_23_code
def yX4_drawn : MethodName := ⟨RX4, "drawn", "(III)I"⟩
abbrev cX4_sheet : ByteArray := prog_1_method_24_code
def yX4_sheet : MethodName := ⟨RX4, "sheet", "(III)I"⟩
abbrev cX4_lose : ByteArray := prog_1_method_25_code
def yX4_lose : MethodName := ⟨RX4, "lose", "(I)I"⟩
abbrev cX4_lay : ByteArray := prog_1_method_26_code
def yX4_lay : MethodName := ⟨RX4, "lay", "(IIII)I"⟩
abbrev cX4_get : ByteArray := prog_1_method_27_code
def yX4_get : MethodName := ⟨RX4, "get", "(III)I"⟩
abbrev cX4_copy : ByteArray := prog_1_method_28_code
def yX4_copy : MethodName := ⟨RX4, "copy", "(IIIII)I"⟩
abbrev cX4_write : ByteArray := prog_1_method_29_code
def yX4_write : MethodName := ⟨RX4, "write", "(I)I"⟩
abbrev cX4_count : ByteArray := prog_1_method_30_code
def yX4_count : MethodName := ⟨RX4, "count", "(I)I"⟩
abbrev cX4_digest : ByteArray := prog_1_method_31_code
def yX4_digest : MethodName := ⟨RX4, "digest", "()J"⟩
abbrev cX4_withDeeds : ByteArray := prog_1_method_32_code
def yX4_withDeeds : MethodName := ⟨RX4, "withDeeds", "(J)J"⟩
abbrev cX4_withUndoings : ByteArray := prog_1_method_33_code
def yX4_withUndoings : MethodName := ⟨RX4, "withUndoings", "(J)J"⟩
abbrev cX4_found : ByteArray := prog_1_method_34_code
def yX4_found : MethodName := ⟨RX4, "found", "(I)I"⟩
abbrev cX4_mixed : ByteArray := prog_1_method_35_code
def yX4_mixed : MethodName := ⟨RX4, "mixed", "(JJ)J"⟩
abbrev cX4_isBelow : ByteArray := prog_1_method_36_code
def yX4_isBelow : MethodName := ⟨RX4, "isBelow", "(II)Z"⟩
abbrev cX4_bitOf : ByteArray := prog_1_method_37_code
def yX4_bitOf : MethodName := ⟨RX4, "bitOf", "(II)I"⟩
abbrev cX4_firstBits : ByteArray := prog_1_method_38_code
def yX4_firstBits : MethodName := ⟨RX4, "firstBits", "(I)I"⟩
abbrev cX4_leastOf : ByteArray := prog_1_method_39_code
def yX4_leastOf : MethodName := ⟨RX4, "leastOf", "(I)I"⟩
def RX5 : String := "EachUndoesModel"
def TX5 : u_T := fun k => match k with
  | 0 => ("EachUndoesModel", "forms", "[I", true)
  | 1 => ("EachUndoesModel", "sizes", "[I", true)
  | 2 => ("EachUndoesModel", "items", "[I", true)
  | 3 => ("EachUndoesModel", "moved", "[I", true)
  | 4 => ("EachUndoesModel", "latest", "I", false)
  | 5 => ("EachUndoesModel", "text", "[I", true)
  | 6 => ("EachUndoesModel", "typed", "I", false)
  | 7 => ("EachUndoesModel", "at", "I", false)
  | 8 => ("EachUndoesModel", "deeds", "I", false)
  | 9 => ("EachUndoesModel", "deed", "[I", true)
  | 10 => ("EachUndoesModel", "undoings", "I", false)
  | 11 => ("EachUndoesModel", "told", "[I", true)
  | 12 => ("EachUndoesModel", "worths", "[I", true)
  | 13 => ("EachUndoesModel", "lawful", "[Z", true)
  | 14 => ("EachUndoesModel", "against", "I", false)
  | 15 => ("EachUndoesModel", "firstAgainst", "I", false)
  | 16 => ("EachUndoesModel", "spent", "I", false)
  | 17 => ("EachUndoesModel", "roots", "[I", true)
  | 18 => ("EachUndoesModel", "answer", "I", false)
  | 19 => ("EachUndoesModel", "answered", "I", false)
  | 20 => ("EachUndoesModel", "sights", "I", false)
  | 21 => ("EachUndoesModel", "seen", "[I", true)
  | _ => ("EachUndoesModel", "now", "I", false)
def tyX5 : Nat → FieldType := fun k => match k with
  | 0 => .array .int
  | 1 => .array .int
  | 2 => .array .int
  | 3 => .array .int
  | 4 => .int
  | 5 => .array .int
  | 6 => .int
  | 7 => .int
  | 8 => .int
  | 9 => .array .int
  | 10 => .int
  | 11 => .array .int
  | 12 => .array .int
  | 13 => .array .boolean
  | 14 => .int
  | 15 => .int
  | 16 => .int
  | 17 => .array .int
  | 18 => .int
  | 19 => .int
  | 20 => .int
  | 21 => .array .int
  | _ => .int
abbrev wsX50 : List Cond := u_ws RX5 TX5 23
theorem nmX5 : ∀ a, a < 23 → ∀ b, b < 23 → a ≠ b → (TX5 a).2.1 ≠ (TX5 b).2.1 := by decide +kernel
theorem tyX5_ok : ∀ k, k < 23 → parseFieldDescriptor (TX5 k).2.2.1 = some (tyX5 k) := by decide +kernel
abbrev cX5_init : ByteArray := prog_7_method_1_code
def yX5_init : MethodName := ⟨RX5, "<init>", "()V"⟩
abbrev cX5_in : ByteArray := prog_7_method_3_code
def yX5_in : MethodName := ⟨RX5, "in", "(JJJ)Z"⟩
abbrev cX5_isTwo : ByteArray := prog_7_method_4_code
def yX5_isTwo : MethodName := ⟨RX5, "isTwo", "(I)Z"⟩
abbrev cX5_isIn : ByteArray := prog_7_method_5_code
def yX5_isIn : MethodName := ⟨RX5, "isIn", "(II)Z"⟩
abbrev cX5_ones : ByteArray := prog_7_method_6_code
def yX5_ones : MethodName := ⟨RX5, "ones", "(I)I"⟩
abbrev cX5_met : ByteArray := prog_7_method_7_code
def yX5_met : MethodName := ⟨RX5, "met", "(I)I"⟩
abbrev cX5_isSheet : ByteArray := prog_7_method_8_code
def yX5_isSheet : MethodName := ⟨RX5, "isSheet", "(I)Z"⟩
abbrev cX5_sheet : ByteArray := prog_7_method_9_code
def yX5_sheet : MethodName := ⟨RX5, "sheet", "(III)I"⟩
abbrev cX5_lose : ByteArray := prog_7_method_10_code
def yX5_lose : MethodName := ⟨RX5, "lose", "(I)I"⟩
abbrev cX5_lacks : ByteArray := prog_7_method_11_code
def yX5_lacks : MethodName := ⟨RX5, "lacks", "(III)I"⟩
abbrev cX5_cut : ByteArray := prog_7_method_12_code
def yX5_cut : MethodName := ⟨RX5, "cut", "(II)I"⟩
abbrev cX5_lay : ByteArray := prog_7_method_13_code
def yX5_lay : MethodName := ⟨RX5, "lay", "(IIII)I"⟩
abbrev cX5_get : ByteArray := prog_7_method_14_code
def yX5_get : MethodName := ⟨RX5, "get", "(III)I"⟩
abbrev cX5_copy : ByteArray := prog_7_method_15_code
def yX5_copy : MethodName := ⟨RX5, "copy", "(IIIII)I"⟩
abbrev cX5_type : ByteArray := prog_7_method_16_code
def yX5_type : MethodName := ⟨RX5, "type", "(I)I"⟩
abbrev cX5_wipe : ByteArray := prog_7_method_17_code
def yX5_wipe : MethodName := ⟨RX5, "wipe", "()I"⟩
abbrev cX5_here : ByteArray := prog_7_method_18_code
def yX5_here : MethodName := ⟨RX5, "here", "()I"⟩
abbrev cX5_none : ByteArray := prog_7_method_19_code
def yX5_none : MethodName := ⟨RX5, "none", "()I"⟩
abbrev cX5_readsPart : ByteArray := prog_7_method_20_code
def yX5_readsPart : MethodName := ⟨RX5, "readsPart", "()Z"⟩
abbrev cX5_reads : ByteArray := prog_7_method_21_code
def yX5_reads : MethodName := ⟨RX5, "reads", "()I"⟩
abbrev cX5_fault : ByteArray := prog_7_method_22_code
def yX5_fault : MethodName := ⟨RX5, "fault", "()I"⟩
abbrev cX5_isDeed : ByteArray := prog_7_method_23_code
def yX5_isDeed : MethodName := ⟨RX5, "isDeed", "(I)Z"⟩
abbrev cX5_deed : ByteArray := prog_7_method_24_code
def yX5_deed : MethodName := ⟨RX5, "deed", "(II)I"⟩
abbrev cX5_undoes : ByteArray := prog_7_method_25_code
def yX5_undoes : MethodName := ⟨RX5, "undoes", "(II)I"⟩
abbrev cX5_tells : ByteArray := prog_7_method_26_code
def yX5_tells : MethodName := ⟨RX5, "tells", "(III)V"⟩
abbrev cX5_read : ByteArray := prog_7_method_27_code
def yX5_read : MethodName := ⟨RX5, "read", "(I)I"⟩
abbrev cX5_undo : ByteArray := prog_7_method_28_code
def yX5_undo : MethodName := ⟨RX5, "undo", "()I"⟩
abbrev cX5_worth : ByteArray := prog_7_method_29_code
def yX5_worth : MethodName := ⟨RX5, "worth", "(III)I"⟩
abbrev cX5_isLawful : ByteArray := prog_7_method_30_code
def yX5_isLawful : MethodName := ⟨RX5, "isLawful", "(I)Z"⟩
abbrev cX5_judges : ByteArray := prog_7_method_31_code
def yX5_judges : MethodName := ⟨RX5, "judges", "(II)V"⟩
abbrev cX5_find : ByteArray := prog_7_method_32_code
def yX5_find : MethodName := ⟨RX5, "find", "()V"⟩
abbrev cX5_judged : ByteArray := prog_7_method_33_code
def yX5_judged : MethodName := ⟨RX5, "judged", "()I"⟩
abbrev cX5_holding : ByteArray := prog_7_method_34_code
def yX5_holding : MethodName := ⟨RX5, "holding", "(I)I"⟩
abbrev cX5_struck : ByteArray := prog_7_method_35_code
def yX5_struck : MethodName := ⟨RX5, "struck", "(I)I"⟩
abbrev cX5_standing : ByteArray := prog_7_method_36_code
def yX5_standing : MethodName := ⟨RX5, "standing", "(I)I"⟩
abbrev cX5_holds : ByteArray := prog_7_method_37_code
def yX5_holds : MethodName := ⟨RX5, "holds", "(I)I"⟩
abbrev cX5_stateOf : ByteArray := prog_7_method_38_code
def yX5_stateOf : MethodName := ⟨RX5, "stateOf", "(II)I"⟩
abbrev cX5_state : ByteArray := prog_7_method_39_code
def yX5_state : MethodName := ⟨RX5, "state", "(II)I"⟩
abbrev cX5_rootOf : ByteArray := prog_7_method_40_code
def yX5_rootOf : MethodName := ⟨RX5, "rootOf", "(I)I"⟩
abbrev cX5_root : ByteArray := prog_7_method_41_code
def yX5_root : MethodName := ⟨RX5, "root", "(I)I"⟩
abbrev cX5_byOf : ByteArray := prog_7_method_42_code
def yX5_byOf : MethodName := ⟨RX5, "byOf", "(I)I"⟩
abbrev cX5_by : ByteArray := prog_7_method_43_code
def yX5_by : MethodName := ⟨RX5, "by", "(I)I"⟩
abbrev cX5_least : ByteArray := prog_7_method_44_code
def yX5_least : MethodName := ⟨RX5, "least", "(I)I"⟩
abbrev cX5_withoutOf : ByteArray := prog_7_method_45_code
def yX5_withoutOf : MethodName := ⟨RX5, "withoutOf", "(II)I"⟩
abbrev cX5_without : ByteArray := prog_7_method_46_code
def yX5_without : MethodName := ⟨RX5, "without", "(II)I"⟩
abbrev cX5_adds : ByteArray := prog_7_method_47_code
def yX5_adds : MethodName := ⟨RX5, "adds", "(II)Z"⟩
abbrev cX5_isSo : ByteArray := prog_7_method_48_code
def yX5_isSo : MethodName := ⟨RX5, "isSo", "(III)Z"⟩
abbrev cX5_canBe : ByteArray := prog_7_method_49_code
def yX5_canBe : MethodName := ⟨RX5, "canBe", "(III)Z"⟩
abbrev cX5_fewestOf : ByteArray := prog_7_method_50_code
def yX5_fewestOf : MethodName := ⟨RX5, "fewestOf", "(IIII)I"⟩
abbrev cX5_fewest : ByteArray := prog_7_method_51_code
def yX5_fewest : MethodName := ⟨RX5, "fewest", "(IIII)I"⟩
abbrev cX5_afterAny : ByteArray := prog_7_method_52_code
def yX5_afterAny : MethodName := ⟨RX5, "afterAny", "(II)I"⟩
abbrev cX5_safeOf : ByteArray := prog_7_method_53_code
def yX5_safeOf : MethodName := ⟨RX5, "safeOf", "(I)I"⟩
abbrev cX5_safe : ByteArray := prog_7_method_54_code
def yX5_safe : MethodName := ⟨RX5, "safe", "(I)I"⟩
abbrev cX5_worthOf : ByteArray := prog_7_method_55_code
def yX5_worthOf : MethodName := ⟨RX5, "worthOf", "(II)I"⟩
abbrev cX5_answers : ByteArray := prog_7_method_56_code
def yX5_answers : MethodName := ⟨RX5, "answers", "(II)V"⟩
abbrev cX5_lastOf : ByteArray := prog_7_method_57_code
def yX5_lastOf : MethodName := ⟨RX5, "lastOf", "(III)I"⟩
abbrev cX5_last : ByteArray := prog_7_method_58_code
def yX5_last : MethodName := ⟨RX5, "last", "(III)I"⟩
abbrev cX5_seen : ByteArray := prog_7_method_59_code
def yX5_seen : MethodName := ⟨RX5, "seen", "(II)I"⟩
abbrev cX5_forget : ByteArray := prog_7_method_60_code
def yX5_forget : MethodName := ⟨RX5, "forget", "()I"⟩
abbrev cX5_oftenNow : ByteArray := prog_7_method_61_code
def yX5_oftenNow : MethodName := ⟨RX5, "oftenNow", "()I"⟩
abbrev cX5_often : ByteArray := prog_7_method_62_code
def yX5_often : MethodName := ⟨RX5, "often", "()I"⟩
abbrev cX5_lot : ByteArray := prog_7_method_63_code
def yX5_lot : MethodName := ⟨RX5, "lot", "(I)I"⟩
abbrev cX5_among : ByteArray := prog_7_method_64_code
def yX5_among : MethodName := ⟨RX5, "among", "(II)I"⟩
abbrev cX5_ofOthers : ByteArray := prog_7_method_65_code
def yX5_ofOthers : MethodName := ⟨RX5, "ofOthers", "(I)I"⟩
abbrev cX5_drawnOf : ByteArray := prog_7_method_66_code
def yX5_drawnOf : MethodName := ⟨RX5, "drawnOf", "(III)I"⟩
abbrev cX5_drawn : ByteArray := prog_7_method_67_code
def yX5_drawn : MethodName := ⟨RX5, "drawn", "(III)I"⟩
abbrev cX5_write : ByteArray := prog_7_method_68_code
def yX5_write : MethodName := ⟨RX5, "write", "(I)I"⟩
abbrev cX5_count : ByteArray := prog_7_method_69_code
def yX5_count : MethodName := ⟨RX5, "count", "(I)I"⟩
abbrev cX5_digest : ByteArray := prog_7_method_70_code
def yX5_digest : MethodName := ⟨RX5, "digest", "()J"⟩
def RJ6 : String := "java/lang/Integer"
def TJ6 : u_T := fun k => match k with
  | _ => ("", "", "", false)
def tyJ6 : Nat → FieldType := fun k => match k with
  | _ => .int
abbrev wsJ60 : List Cond := u_ws RJ6 TJ6 0
theorem nmJ6 : ∀ a, a < 0 → ∀ b, b < 0 → a ≠ b → (TJ6 a).2.1 ≠ (TJ6 b).2.1 := by decide +kernel
theorem tyJ6_ok : ∀ k, k < 0 → parseFieldDescriptor (TJ6 k).2.2.1 = some (tyJ6 k) := by decide +kernel
abbrev cJ6_bitCount_0f7a4 : ByteArray := prog_8_method_49_code
def yJ6_bitCount_0f7a4 : MethodName := ⟨RJ6, "bitCount", "(I)I"⟩
def RJ9 : String := "java/lang/Math"
def TJ9 : u_T := fun k => match k with
  | _ => ("", "", "", false)
def tyJ9 : Nat → FieldType := fun k => match k with
  | _ => .int
abbrev wsJ90 : List Cond := u_ws RJ9 TJ9 0
theorem nmJ9 : ∀ a, a < 0 → ∀ b, b < 0 → a ≠ b → (TJ9 a).2.1 ≠ (TJ9 b).2.1 := by decide +kernel
theorem tyJ9_ok : ∀ k, k < 0 → parseFieldDescriptor (TJ9 k).2.2.1 = some (tyJ9 k) := by decide +kernel
abbrev cJ9_min_7cf53 : ByteArray := prog_9_method_69_code
def yJ9_min_7cf53 : MethodName := ⟨RJ9, "min", "(II)I"⟩
def RJ10 : String := "java/lang/System"
def TJ10 : u_T := fun k => match k with
  | _ => ("", "", "", false)
def tyJ10 : Nat → FieldType := fun k => match k with
  | _ => .int
abbrev wsJ100 : List Cond := u_ws RJ10 TJ10 0
theorem nmJ10 : ∀ a, a < 0 → ∀ b, b < 0 → a ≠ b → (TJ10 a).2.1 ≠ (TJ10 b).2.1 := by decide +kernel
theorem tyJ10_ok : ∀ k, k < 0 → parseFieldDescriptor (TJ10 k).2.2.1 = some (tyJ10 k) := by decide +kernel
def RL : String := "EachUndoesLaw"
abbrev cL_law : ByteArray := code
def yL_law : MethodName := ⟨RL, "law", "([I)Z"⟩
abbrev vwCl : List vw_C := [(RX0, TX0, 7), (RX1, TX1, 8), (RX2, TX2, 4), (RX3, TX3, 4), (RX4, TX4, 8), (RX5, TX5, 23)]
