/-! THE CLAIM OUT OF ONE WALK OF THE LAW'S BODY. Your part is whole_start (and what it stands on); all else here is the same for every law, but numbers. -/
def R_law : String := "EachUndoesLaw"
def lw_P (b : Addr) (xs : List Int32) (args : Array Value) (s : State) : Prop := args = #[.ref b] ∧ s.IntsAt b xs ∧ xs.length ≤ 384 ∧ (Jvm.Cond.and given_1 narrow_1).before args s = true
def lw_Q (_ : Array Value) (s : State) (o : Outcome) (t : State) : Prop := o = .returned (some (.int 1)) ∧ Framed s o t [] 600000 7302250
def lw_Z (below : List Frame) (a : Array Value) (s : State) : State → Prop := fun t => ∃ o, t.status = .running ∧ Ended t below o ∧ lw_Q a s o t
/-- the law's own end, with 1 on the stack, nothing written that was there before, its room as the claim has it -/
theorem lw_ret {p : Program} {l : Launch} {e : Env} {s : State} {m : MethodId} {below : List Frame} {meth : Method} {c : Code} {b : Nat} (hx : p.tables.exec = Jvm.exec) (hb : c.code = code) (hr : meth.sig.returnType = ret) (hlocks : meth.locks = false) {pc : Nat} {H : Heap} {ls : Array Slot} (hdg : decode code pc = .ok (.ireturn, 1)) : W p l e room_1 s m #[Value.ref b] below meth c H [] 600000 7302250 (lw_Z below #[Value.ref b] s) (F0 m pc ls [.int 1]) := by
  intro T hT X
  obtain ⟨fs, hret, hrun, hended, hW, hframe⟩ := X.leave (v := some (.int 1)) (hlocks := hlocks) (fun h => by rw [hr] at h; cases h)
  have hmeth' : T.vm.method? m = some meth := X.method'
  refine ⟨T.setFrames fs, ?_, .returned (some (.int 1)), hrun, hended, rfl, ⟨_, rfl⟩, hW, hframe⟩
  jvm_step X.here [X.here.top, hx, hb, hdg, hmeth', hr, ret, narrow_b1]
  (try refine ⟨rfl, ?_⟩); (try refine ⟨rfl, ?_⟩)
  first | (intro acts; rw [hret _ acts rfl rfl rfl]) | rw [hret _ _ rfl rfl rfl]
  exact Steps.refl _
/-- what holds at the law's entry: the machine, the code, the tables' words (any of lw_tbl by 'hts w (by decide +kernel)'), the script of L ints xs at the cell b, what the Statement gives of the start (any of its parts by flat_of_before) -/
def lw_At (p : Program) (s : State) (m : MethodId) (meth : Method) (c : Code) (b L : Nat) (xs : Nat → Int32) : Prop :=
  p.tables.exec = Jvm.exec ∧ c.code = code ∧ meth.sig.returnType = ret ∧ c.maxLocals = 4 ∧ s.vm.findClass R_law = some m.cls ∧ (∀ w ∈ lw_tbl, w.before #[Value.ref b] s = true) ∧ va_X b L xs s s.heap ∧ b < s.heap.size ∧ meth.locks = false ∧ (Jvm.Cond.and given_1 narrow_1).before #[Value.ref b] s = true

theorem eu_nl_in : ∀ w ∈ eu_nl, w ∈ lw_tbl := by
  unfold eu_nl
  refine List.forall_mem_cons.mpr ⟨List.mem_append_right _ (List.mem_append_left _ (List.mem_of_getElem? (i := 20) rfl)), ?_⟩
  refine List.forall_mem_cons.mpr ⟨List.mem_append_right _ (List.mem_append_left _ (List.mem_of_getElem? (i := 26) rfl)), ?_⟩
  refine List.forall_mem_cons.mpr ⟨List.mem_append_right _ (List.mem_append_left _ (List.mem_of_getElem? (i := 32) rfl)), ?_⟩
  refine List.forall_mem_cons.mpr ⟨List.mem_append_right _ (List.mem_append_left _ (List.mem_of_getElem? (i := 38) rfl)), ?_⟩
  refine List.forall_mem_cons.mpr ⟨List.mem_append_right _ (List.mem_append_left _ (List.mem_of_getElem? (i := 39) rfl)), ?_⟩
  refine List.forall_mem_cons.mpr ⟨List.mem_append_right _ (List.mem_append_left _ (List.mem_of_getElem? (i := 41) rfl)), ?_⟩
  refine List.forall_mem_cons.mpr ⟨List.mem_append_right _ (List.mem_append_left _ (List.mem_of_getElem? (i := 43) rfl)), ?_⟩
  refine List.forall_mem_cons.mpr ⟨List.mem_append_right _ (List.mem_append_left _ (List.mem_of_getElem? (i := 45) rfl)), ?_⟩
  refine List.forall_mem_cons.mpr ⟨List.mem_append_right _ (List.mem_append_left _ (List.mem_of_getElem? (i := 46) rfl)), ?_⟩
  refine List.forall_mem_cons.mpr ⟨List.mem_append_right _ (List.mem_append_left _ (List.mem_of_getElem? (i := 47) rfl)), ?_⟩
  refine List.forall_mem_cons.mpr ⟨List.mem_append_right _ (List.mem_append_left _ (List.mem_of_getElem? (i := 49) rfl)), ?_⟩
  refine List.forall_mem_cons.mpr ⟨List.mem_append_right _ (List.mem_append_left _ (List.mem_of_getElem? (i := 51) rfl)), ?_⟩
  refine List.forall_mem_cons.mpr ⟨List.mem_append_right _ (List.mem_append_left _ (List.mem_of_getElem? (i := 69) rfl)), ?_⟩
  refine List.forall_mem_cons.mpr ⟨List.mem_append_right _ (List.mem_append_left _ (List.mem_of_getElem? (i := 70) rfl)), ?_⟩
  refine List.forall_mem_cons.mpr ⟨List.mem_append_right _ (List.mem_append_left _ (List.mem_of_getElem? (i := 73) rfl)), ?_⟩
  refine List.forall_mem_cons.mpr ⟨List.mem_append_right _ (List.mem_append_left _ (List.mem_of_getElem? (i := 75) rfl)), ?_⟩
  refine List.forall_mem_cons.mpr ⟨List.mem_append_right _ (List.mem_append_left _ (List.mem_of_getElem? (i := 76) rfl)), ?_⟩
  refine List.forall_mem_cons.mpr ⟨List.mem_append_right _ (List.mem_append_left _ (List.mem_of_getElem? (i := 89) rfl)), ?_⟩
  refine List.forall_mem_cons.mpr ⟨List.mem_append_right _ (List.mem_append_left _ (List.mem_of_getElem? (i := 92) rfl)), ?_⟩
  refine List.forall_mem_cons.mpr ⟨List.mem_append_right _ (List.mem_append_left _ (List.mem_of_getElem? (i := 96) rfl)), ?_⟩
  refine List.forall_mem_cons.mpr ⟨List.mem_append_right _ (List.mem_append_left _ (List.mem_of_getElem? (i := 98) rfl)), ?_⟩
  refine List.forall_mem_cons.mpr ⟨List.mem_append_right _ (List.mem_append_left _ (List.mem_of_getElem? (i := 120) rfl)), ?_⟩
  refine List.forall_mem_cons.mpr ⟨List.mem_append_right _ (List.mem_append_left _ (List.mem_of_getElem? (i := 125) rfl)), ?_⟩
  refine List.forall_mem_cons.mpr ⟨List.mem_append_right _ (List.mem_append_left _ (List.mem_of_getElem? (i := 127) rfl)), ?_⟩
  refine List.forall_mem_cons.mpr ⟨List.mem_append_right _ (List.mem_append_left _ (List.mem_of_getElem? (i := 129) rfl)), ?_⟩
  refine List.forall_mem_cons.mpr ⟨List.mem_append_right _ (List.mem_append_left _ (List.mem_of_getElem? (i := 131) rfl)), ?_⟩
  refine List.forall_mem_cons.mpr ⟨List.mem_append_right _ (List.mem_append_left _ (List.mem_of_getElem? (i := 173) rfl)), ?_⟩
  refine List.forall_mem_cons.mpr ⟨List.mem_append_right _ (List.mem_append_left _ (List.mem_of_getElem? (i := 185) rfl)), ?_⟩
  refine List.forall_mem_cons.mpr ⟨List.mem_append_right _ (List.mem_append_left _ (List.mem_of_getElem? (i := 200) rfl)), ?_⟩
  refine List.forall_mem_cons.mpr ⟨List.mem_append_right _ (List.mem_append_left _ (List.mem_of_getElem? (i := 219) rfl)), ?_⟩
  refine List.forall_mem_cons.mpr ⟨List.mem_append_right _ (List.mem_append_right _ (List.mem_append_left _ (List.mem_of_getElem? (i := 3) rfl))), ?_⟩
  refine List.forall_mem_cons.mpr ⟨List.mem_append_right _ (List.mem_append_right _ (List.mem_append_left _ (List.mem_of_getElem? (i := 11) rfl))), ?_⟩
  refine List.forall_mem_cons.mpr ⟨List.mem_append_right _ (List.mem_append_right _ (List.mem_append_left _ (List.mem_of_getElem? (i := 16) rfl))), ?_⟩
  refine List.forall_mem_cons.mpr ⟨List.mem_append_right _ (List.mem_append_right _ (List.mem_append_left _ (List.mem_of_getElem? (i := 28) rfl))), ?_⟩
  refine List.forall_mem_cons.mpr ⟨List.mem_append_right _ (List.mem_append_right _ (List.mem_append_left _ (List.mem_of_getElem? (i := 33) rfl))), ?_⟩
  refine List.forall_mem_cons.mpr ⟨List.mem_append_right _ (List.mem_append_right _ (List.mem_append_left _ (List.mem_of_getElem? (i := 36) rfl))), ?_⟩
  refine List.forall_mem_cons.mpr ⟨List.mem_append_right _ (List.mem_append_right _ (List.mem_append_left _ (List.mem_of_getElem? (i := 45) rfl))), ?_⟩
  refine List.forall_mem_cons.mpr ⟨List.mem_append_right _ (List.mem_append_right _ (List.mem_append_left _ (List.mem_of_getElem? (i := 49) rfl))), ?_⟩
  refine List.forall_mem_cons.mpr ⟨List.mem_append_right _ (List.mem_append_right _ (List.mem_append_left _ (List.mem_of_getElem? (i := 54) rfl))), ?_⟩
  refine List.forall_mem_cons.mpr ⟨List.mem_append_right _ (List.mem_append_right _ (List.mem_append_left _ (List.mem_of_getElem? (i := 62) rfl))), ?_⟩
  refine List.forall_mem_cons.mpr ⟨List.mem_append_right _ (List.mem_append_right _ (List.mem_append_left _ (List.mem_of_getElem? (i := 63) rfl))), ?_⟩
  refine List.forall_mem_cons.mpr ⟨List.mem_append_right _ (List.mem_append_right _ (List.mem_append_left _ (List.mem_of_getElem? (i := 67) rfl))), ?_⟩
  refine List.forall_mem_cons.mpr ⟨List.mem_append_right _ (List.mem_append_right _ (List.mem_append_left _ (List.mem_of_getElem? (i := 83) rfl))), ?_⟩
  refine List.forall_mem_cons.mpr ⟨List.mem_append_right _ (List.mem_append_right _ (List.mem_append_left _ (List.mem_of_getElem? (i := 87) rfl))), ?_⟩
  refine List.forall_mem_cons.mpr ⟨List.mem_append_right _ (List.mem_append_right _ (List.mem_append_left _ (List.mem_of_getElem? (i := 88) rfl))), ?_⟩
  refine List.forall_mem_cons.mpr ⟨List.mem_append_right _ (List.mem_append_right _ (List.mem_append_left _ (List.mem_of_getElem? (i := 89) rfl))), ?_⟩
  refine List.forall_mem_cons.mpr ⟨List.mem_append_right _ (List.mem_append_right _ (List.mem_append_left _ (List.mem_of_getElem? (i := 93) rfl))), ?_⟩
  refine List.forall_mem_cons.mpr ⟨List.mem_append_right _ (List.mem_append_right _ (List.mem_append_left _ (List.mem_of_getElem? (i := 94) rfl))), ?_⟩
  refine List.forall_mem_cons.mpr ⟨List.mem_append_right _ (List.mem_append_right _ (List.mem_append_left _ (List.mem_of_getElem? (i := 95) rfl))), ?_⟩
  refine List.forall_mem_cons.mpr ⟨List.mem_append_right _ (List.mem_append_right _ (List.mem_append_left _ (List.mem_of_getElem? (i := 99) rfl))), ?_⟩
  refine List.forall_mem_cons.mpr ⟨List.mem_append_right _ (List.mem_append_right _ (List.mem_append_left _ (List.mem_of_getElem? (i := 100) rfl))), ?_⟩
  refine List.forall_mem_cons.mpr ⟨List.mem_append_right _ (List.mem_append_right _ (List.mem_append_left _ (List.mem_of_getElem? (i := 112) rfl))), ?_⟩
  refine List.forall_mem_cons.mpr ⟨List.mem_append_right _ (List.mem_append_right _ (List.mem_append_left _ (List.mem_of_getElem? (i := 113) rfl))), ?_⟩
  refine List.forall_mem_cons.mpr ⟨List.mem_append_right _ (List.mem_append_right _ (List.mem_append_left _ (List.mem_of_getElem? (i := 120) rfl))), ?_⟩
  refine List.forall_mem_cons.mpr ⟨List.mem_append_right _ (List.mem_append_right _ (List.mem_append_left _ (List.mem_of_getElem? (i := 128) rfl))), ?_⟩
  refine List.forall_mem_cons.mpr ⟨List.mem_append_right _ (List.mem_append_right _ (List.mem_append_left _ (List.mem_of_getElem? (i := 144) rfl))), ?_⟩
  refine List.forall_mem_cons.mpr ⟨List.mem_append_right _ (List.mem_append_right _ (List.mem_append_left _ (List.mem_of_getElem? (i := 145) rfl))), ?_⟩
  refine List.forall_mem_cons.mpr ⟨List.mem_append_right _ (List.mem_append_right _ (List.mem_append_left _ (List.mem_of_getElem? (i := 162) rfl))), ?_⟩
  refine List.forall_mem_cons.mpr ⟨List.mem_append_right _ (List.mem_append_right _ (List.mem_append_left _ (List.mem_of_getElem? (i := 175) rfl))), ?_⟩
  refine List.forall_mem_cons.mpr ⟨List.mem_append_right _ (List.mem_append_right _ (List.mem_append_left _ (List.mem_of_getElem? (i := 179) rfl))), ?_⟩
  refine List.forall_mem_cons.mpr ⟨List.mem_append_right _ (List.mem_append_right _ (List.mem_append_left _ (List.mem_of_getElem? (i := 184) rfl))), ?_⟩
  refine List.forall_mem_cons.mpr ⟨List.mem_append_right _ (List.mem_append_right _ (List.mem_append_left _ (List.mem_of_getElem? (i := 196) rfl))), ?_⟩
  refine List.forall_mem_cons.mpr ⟨List.mem_append_right _ (List.mem_append_right _ (List.mem_append_left _ (List.mem_of_getElem? (i := 200) rfl))), ?_⟩
  refine List.forall_mem_cons.mpr ⟨List.mem_append_right _ (List.mem_append_right _ (List.mem_append_left _ (List.mem_of_getElem? (i := 201) rfl))), ?_⟩
  refine List.forall_mem_cons.mpr ⟨List.mem_append_right _ (List.mem_append_right _ (List.mem_append_left _ (List.mem_of_getElem? (i := 214) rfl))), ?_⟩
  exact fun _ h => absurd h List.not_mem_nil
theorem el_w1 : Cond.arrayOver (.object "EachUndoes$Sheet") ∈ lw_tbl := List.mem_append_right _ (List.mem_append_left _ (List.mem_of_getElem? (i := 118) rfl))
theorem el_w2 : Cond.arrayOver (.array .int) ∈ lw_tbl := List.mem_append_right _ (List.mem_append_left _ (List.mem_of_getElem? (i := 87) rfl))
theorem el_w3 : Cond.arrayClass .int ∈ lw_tbl := List.mem_append_right _ (List.mem_append_left _ (List.mem_of_getElem? (i := 67) rfl))
theorem el_w4 : Cond.arrayClass .boolean ∈ lw_tbl := List.mem_append_right _ (List.mem_append_right _ (List.mem_append_right _ (List.mem_append_left _ (List.mem_of_getElem? (i := 98) rfl))))
theorem el_tys {s : State} {args : Array Value} (hts : ∀ w ∈ lw_tbl, w.before args s = true) : ∃ cy : Nat → ClassId, ∀ (k : Nat) (q : ClassId × FieldType), (eu_ty cy)[k]? = some q → ArrOfT s q.1 q.2 ∧ va_RA s q.1 q.2 := by
  obtain ⟨c0, k0, m0, a1, a2, a3⟩ := Cond.arrayClass_spec (hts _ el_w3)
  obtain ⟨c1, k1, m1, b1, b2, b3⟩ := Cond.arrayClass_spec (hts _ el_w4)
  obtain ⟨m2, c2, k2, d1, d2, d3, d4, d5⟩ := Cond.arrayOver_spec (hts _ el_w1)
  obtain ⟨m3, c3, k3, f1, f2, f3, f4, f5⟩ := Stand.arrayOver_specB (hts _ el_w2)
  refine ⟨fun k => if k = 0 then c0 else if k = 1 then c1 else if k = 2 then c2 else c3, ?_⟩
  intro k q hq
  match k, hq with
  | 0, hq => cases hq; exact ⟨fun N z => ⟨(fun k h => by cases h), k0, a2, m0, a3⟩, a1⟩
  | 1, hq => cases hq; exact ⟨fun N z => ⟨(fun k h => by cases h), k1, b2, m1, b3⟩, b1⟩
  | 2, hq => cases hq; exact ⟨fun N z => ⟨(fun k h => by cases h), k2, d3, m2, d4⟩, k2, m2, d3, d4, d1, d5⟩
  | 3, hq => cases hq; exact ⟨fun N z => ⟨(fun k h => by cases h), k3, f3, m3, f4⟩, f5⟩
  | k + 4, hq => simp [eu_ty] at hq
theorem el_cls {s : State} {args : Array Value} (hts : ∀ w ∈ lw_tbl, w.before args s = true) : ∃ D : va_G, ∀ (k : Nat) (q : vw_C), vwCl[k]? = some q → u_Kn s q.1 q.2.1 q.2.2 (D.1 k) (D.2 k) := by
  obtain ⟨d0, i0, hKn0⟩ := u_known (C := RX0) (T := TX0) (N := 7) (n := 7) hts (fun w h => eu_TB_in w (tb_wsX00 w h)) (hts _ (eu_TB_in _ tw_38))
  obtain ⟨d1, i1, hKn1⟩ := u_known (C := RX1) (T := TX1) (N := 8) (n := 8) hts (fun w h => eu_TB_in w (tb_wsX10 w h)) (hts _ (eu_TB_in _ tw_13))
  obtain ⟨d2, i2, hKn2⟩ := u_known (C := RX2) (T := TX2) (N := 4) (n := 4) hts (fun w h => eu_TB_in w (tb_wsX20 w h)) (hts _ (eu_TB_in _ tw_21))
  obtain ⟨d3, i3, hKn3⟩ := u_known (C := RX3) (T := TX3) (N := 4) (n := 4) hts (fun w h => eu_TB_in w (tb_wsX30 w h)) (hts _ (eu_TB_in _ tw_27))
  obtain ⟨d4, i4, hKn4⟩ := u_known (C := RX4) (T := TX4) (N := 8) (n := 8) hts (fun w h => eu_TB_in w (tb_wsX40 w h)) (hts _ (eu_TB_in _ tw_1))
  obtain ⟨d5, i5, hKn5⟩ := u_known (C := RX5) (T := TX5) (N := 23) (n := 23) hts (fun w h => eu_TB_in w (tb_wsX50 w h)) (hts _ (eu_TB_in _ tw_4))
  refine ⟨(fun k => if k = 0 then d0 else if k = 1 then d1 else if k = 2 then d2 else if k = 3 then d3 else if k = 4 then d4 else d5, fun k => if k = 0 then i0 else if k = 1 then i1 else if k = 2 then i2 else if k = 3 then i3 else if k = 4 then i4 else i5), ?_⟩
  intro k q hq
  match k, hq with
  | 0, hq => cases hq; exact hKn0
  | 1, hq => cases hq; exact hKn1
  | 2, hq => cases hq; exact hKn2
  | 3, hq => cases hq; exact hKn3
  | 4, hq => cases hq; exact hKn4
  | 5, hq => cases hq; exact hKn5
  | k + 6, hq => simp [vwCl] at hq
theorem cwl_X4_init {E : eu_E} {A : Nat → Prop} (C : eu_M E room_1 4 cL_law RL eu_TB ret A) : CallB (eu_R E) (eu_s E) (eu_a E) RL 9 yX4_init cX4_init 2 none (Cond.code yX4_init cX4_init 2 none :: eu_TB) ({ frames := 4, cells := 24, slots := 465, locals := 80 } : Room) 24 465 0 ∧ (yX4_init).name = "<init>" ∧ (Cond.instanceMethod yX4_init).before (eu_a E) (eu_s E) = true := el_cwI C tw_6 tw_7 tw_2 tw_8 rfl rfl rfl (by decide +kernel) (by decide)
theorem cwl_X5_init {E : eu_E} {A : Nat → Prop} (C : eu_M E room_1 4 cL_law RL eu_TB ret A) : CallB (eu_R E) (eu_s E) (eu_a E) RL 12 yX5_init cX5_init 2 none (Cond.code yX5_init cX5_init 2 none :: eu_TB) ({ frames := 1, cells := 11, slots := 549, locals := 20 } : Room) 11 549 0 ∧ (yX5_init).name = "<init>" ∧ (Cond.instanceMethod yX5_init).before (eu_a E) (eu_s E) = true := el_cwI C tw_55 tw_56 tw_5 tw_57 rfl rfl rfl (by decide +kernel) (by decide)
set_option maxHeartbeats 4000000 in
set_option maxRecDepth 100000 in
theorem whole_start_open {Rel : eu_T → eu_T → Prop} (hs0 : Rel eu_s0 eu_t0) (h_type : ∀ (σ τ : eu_T) (a1 : Int32), Rel σ τ → ∃ (r : Int32) (σ' τ' : eu_T), fX4_type σ a1 = some (r, σ') ∧ fX5_type τ a1 = some (r, τ') ∧ Rel σ' τ') (h_wipe : ∀ (σ τ : eu_T), Rel σ τ → ∃ (r : Int32) (σ' τ' : eu_T), fX4_wipe σ = some (r, σ') ∧ fX5_wipe τ = some (r, τ') ∧ Rel σ' τ') (h_fault : ∀ (σ τ : eu_T), Rel σ τ → ∃ (τ' : eu_T), fX5_fault τ = some (fX4_fault σ, τ') ∧ Rel σ τ') (h_deed : ∀ (σ τ : eu_T) (a1 a2 : Int32), Rel σ τ → ∃ (r : Int32) (τ' : eu_T), fX4_deed σ a1 a2 = some r ∧ fX5_deed τ a1 a2 = some (r, τ') ∧ Rel σ τ') (h_undoes : ∀ (σ τ : eu_T) (a1 a2 : Int32), Rel σ τ → ∃ (r : Int32) (σ' τ' : eu_T), fX4_undoes σ a1 a2 = some (r, σ') ∧ fX5_undoes τ a1 a2 = some (r, τ') ∧ Rel σ' τ') (h_read : ∀ (σ τ : eu_T) (a1 : Int32), Rel σ τ → ∃ (r : Int32) (σ' τ' : eu_T), fX4_read σ a1 = some (r, σ') ∧ fX5_read τ a1 = some (r, τ') ∧ Rel σ' τ') (h_undo : ∀ (σ τ : eu_T), Rel σ τ → ∃ (r : Int32) (σ' τ' : eu_T), fX4_undo σ = some (r, σ') ∧ fX5_undo τ = some (r, τ') ∧ Rel σ' τ') (h_worth : ∀ (σ τ : eu_T) (a1 a2 a3 : Int32), Rel σ τ → ∃ (r : Int32) (σ' τ' : eu_T), fX4_worth σ a1 a2 a3 = some (r, σ') ∧ fX5_worth τ a1 a2 a3 = some (r, τ') ∧ Rel σ' τ') (h_judged : ∀ (σ τ : eu_T), Rel σ τ → ∃ (r : Int32) (τ' : eu_T), fX4_judged σ = some r ∧ fX5_judged τ = some (r, τ') ∧ Rel σ τ') (h_holds : ∀ (σ τ : eu_T) (a1 : Int32), Rel σ τ → ∃ (r : Int32) (τ' : eu_T), fX4_holds σ a1 = some r ∧ fX5_holds τ a1 = some (r, τ') ∧ Rel σ τ') (h_state : ∀ (σ τ : eu_T) (a1 a2 : Int32), Rel σ τ → ∃ (r : Int32) (τ' : eu_T), fX4_state σ a1 a2 = some r ∧ fX5_state τ a1 a2 = some (r, τ') ∧ Rel σ τ') (h_root : ∀ (σ τ : eu_T) (a1 : Int32), Rel σ τ → ∃ (r : Int32) (τ' : eu_T), fX4_root σ a1 = some r ∧ fX5_root τ a1 = some (r, τ') ∧ Rel σ τ') (h_by : ∀ (σ τ : eu_T) (a1 : Int32), Rel σ τ → ∃ (r : Int32) (τ' : eu_T), fX4_by σ a1 = some r ∧ fX5_by τ a1 = some (r, τ') ∧ Rel σ τ') (h_without : ∀ (σ τ : eu_T) (a1 a2 : Int32), Rel σ τ → ∃ (r : Int32) (τ' : eu_T), fX4_without σ a1 a2 = some r ∧ fX5_without τ a1 a2 = some (r, τ') ∧ Rel σ τ') (h_fewest : ∀ (σ τ : eu_T) (a1 a2 a3 a4 : Int32), Rel σ τ → ∃ (r : Int32) (σ' τ' : eu_T), fX4_fewest σ a1 a2 a3 a4 = some (r, σ') ∧ fX5_fewest τ a1 a2 a3 a4 = some (r, τ') ∧ Rel σ' τ') (h_safe : ∀ (σ τ : eu_T) (a1 : Int32), Rel σ τ → ∃ (r : Int32) (σ' τ' : eu_T), fX4_safe σ a1 = some (r, σ') ∧ fX5_safe τ a1 = some (r, τ') ∧ Rel σ' τ') (h_last : ∀ (σ τ : eu_T) (a1 a2 a3 : Int32), Rel σ τ → ∃ (r : Int32) (σ' τ' : eu_T), fX4_last σ a1 a2 a3 = some (r, σ') ∧ fX5_last τ a1 a2 a3 = some (r, τ') ∧ Rel σ' τ') (h_seen : ∀ (σ τ : eu_T) (a1 a2 : Int32), Rel σ τ → ∃ (r : Int32) (σ' τ' : eu_T), fX4_seen σ a1 a2 = some (r, σ') ∧ fX5_seen τ a1 a2 = some (r, τ') ∧ Rel σ' τ') (h_forget : ∀ (σ τ : eu_T), Rel σ τ → ∃ (r : Int32) (σ' τ' : eu_T), fX4_forget σ = some (r, σ') ∧ fX5_forget τ = some (r, τ') ∧ Rel σ' τ') (h_often : ∀ (σ τ : eu_T), Rel σ τ → ∃ (r : Int32) (τ' : eu_T), fX4_often σ = some r ∧ fX5_often τ = some (r, τ') ∧ Rel σ τ') (h_drawn : ∀ (σ τ : eu_T) (a1 a2 a3 : Int32), Rel σ τ → ∃ (r : Int32) (σ' τ' : eu_T), fX4_drawn σ a1 a2 a3 = some (r, σ') ∧ fX5_drawn τ a1 a2 a3 = some (r, τ') ∧ Rel σ' τ') (h_sheet : ∀ (σ τ : eu_T) (a1 a2 a3 : Int32), Rel σ τ → ∃ (r : Int32) (σ' τ' : eu_T), fX4_sheet σ a1 a2 a3 = some (r, σ') ∧ fX5_sheet τ a1 a2 a3 = some (r, τ') ∧ Rel σ' τ') (h_lose : ∀ (σ τ : eu_T) (a1 : Int32), Rel σ τ → ∃ (r : Int32) (σ' τ' : eu_T), fX4_lose σ a1 = some (r, σ') ∧ fX5_lose τ a1 = some (r, τ') ∧ Rel σ' τ') (h_lay : ∀ (σ τ : eu_T) (a1 a2 a3 a4 : Int32), Rel σ τ → ∃ (r : Int32) (σ' τ' : eu_T), fX4_lay σ a1 a2 a3 a4 = some (r, σ') ∧ fX5_lay τ a1 a2 a3 a4 = some (r, τ') ∧ Rel σ' τ') (h_get : ∀ (σ τ : eu_T) (a1 a2 a3 : Int32), Rel σ τ → ∃ (r : Int32) (σ' τ' : eu_T), fX4_get σ a1 a2 a3 = some (r, σ') ∧ fX5_get τ a1 a2 a3 = some (r, τ') ∧ Rel σ' τ') (h_copy : ∀ (σ τ : eu_T) (a1 a2 a3 a4 a5 : Int32), Rel σ τ → ∃ (r : Int32) (σ' τ' : eu_T), fX4_copy σ a1 a2 a3 a4 a5 = some (r, σ') ∧ fX5_copy τ a1 a2 a3 a4 a5 = some (r, τ') ∧ Rel σ' τ') (h_write : ∀ (σ τ : eu_T) (a1 : Int32), Rel σ τ → ∃ (r : Int32) (σ' τ' : eu_T), fX4_write σ a1 = some (r, σ') ∧ fX5_write τ a1 = some (r, τ') ∧ Rel σ' τ') (h_count : ∀ (σ τ : eu_T) (a1 : Int32), Rel σ τ → ∃ (r : Int32) (τ' : eu_T), fX4_count σ a1 = some r ∧ fX5_count τ a1 = some (r, τ') ∧ Rel σ τ') (h_digest : ∀ (σ τ : eu_T), Rel σ τ → ∃ (r : Int64) (σ' τ' : eu_T), fX4_digest σ = some (r, σ') ∧ fX5_digest τ = some (r, τ') ∧ Rel σ' τ') {p : Program} {e : Env} {s : State} {m : MethodId} {below : List Frame} {meth : Method} {c : Code} (l : Launch) {b L : Nat} {xs : Nat → Int32} (hL : L ≤ 384) (C0 : lw_At p s m meth c b L xs) : W p l e room_1 s m #[Value.ref b] below meth c s.heap [] 0 0 (lw_Z below #[Value.ref b] s) (entryFrame m ([Value.ref b] : List Value).toArray 4) := by
  obtain ⟨hx, hb, hr, hml, hown, hts, hX, hbl, hlocks, hgv⟩ := id C0
  have hbA : ¬ (fun q : Nat => s.heap.size ≤ q) b := Nat.not_le.mpr hbl
  obtain ⟨cy, hty⟩ := el_tys hts
  obtain ⟨D, hcl⟩ := el_cls hts
  have hl := lv_entry ([.ref b]) (n := 4) (Nat.le_of_ble_eq_true rfl)
  rw [lg_entry_eq]
  have hgo : ∀ (E : eu_E), E = (p, l, e, room_1, s, m, #[Value.ref b], below, meth, c, D, cy, fun _ => 0) → eu_M E room_1 4 cL_law RL eu_TB ret (fun q => s.heap.size ≤ q) → eu_H E 4 (fun q => s.heap.size ≤ q) (lw_Z below #[Value.ref b] s) [] 0 0 0 [(0, .ref b)] [] := by
    intro E eE C
    have hX' : va_X b L xs (eu_s E) (eu_s E).heap := by rw [eE]; exact hX
    have hbl' : b < (eu_s E).heap.size := by rw [eE]; exact hbl
    have hend : ∀ (w : va_W) (lv : List (Nat × Value)), eu_H E 4 (fun q => s.heap.size ≤ q) (lw_Z below #[Value.ref b] s) w 37 1045 1019 lv [.int 1] := by
      intro w lv H locs ls hP hD hS hl
      subst eE
      refine va_forget (fun q hq => hS.2.2 q hq) ?_
      refine W.widen (k := 600000) (n := 7302250) (Nat.le_of_ble_eq_true rfl) (Nat.le_of_ble_eq_true rfl) ?_
      exact lw_ret hx hb hr hlocks dL_law_1019
    refine eh_new C (ci := 4) (fun w h => tb_wsX40 w h) tyX4_ok tw_0 tw_1 tw_2 rfl [.null, .null, .null, .null, .int 0, .int 0, .int 0, .int 0] (fun j hj => by rcases (show j = 0 ∨ j = 1 ∨ j = 2 ∨ j = 3 ∨ j = 4 ∨ j = 5 ∨ j = 6 ∨ j = 7 by omega) with rfl | rfl | rfl | rfl | rfl | rfl | rfl | rfl <;> rfl) (Nat.le_of_ble_eq_true rfl) (Nat.le_of_ble_eq_true rfl) dL_law_0 (fun q1 => ?_)
    refine eh_w C (w' := [(q1, .inr (4, [.null, .null, .null, .null, .int 0, .int 0, .int 0, .int 0]))]) rfl ?_
    refine eh_room C 1 8 rfl rfl ?_
    refine eh_dup C dL_law_3 rfl ?_
    refine eh_init C (cwl_X4_init C) kX4_init 0 [] [] rfl rfl rfl (by decide) (by decide) (Nat.le_of_ble_eq_true rfl) dL_law_4 (Nat.le_of_ble_eq_true rfl) (Nat.le_of_ble_eq_true rfl) (fun w1 hw1 => ?_)
    obtain ⟨ad1, rfl, rfl⟩ := hw1
    refine eh_w C (w' := eu_wd 0 25 (eu_cy E) ad1 eu_s0) rfl ?_
    refine eh_room C 25 473 rfl rfl ?_
    refine eh_astore_n C [(1, .ref (ad1 0)), (0, .ref b)] dL_law_7 rfl (by decide) rfl ?_
    refine eh_new C (ci := 5) (fun w h => tb_wsX50 w h) tyX5_ok tw_3 tw_4 tw_5 rfl [.null, .null, .null, .null, .int 0, .null, .int 0, .int 0, .int 0, .null, .int 0, .null, .null, .null, .int 0, .int 0, .int 0, .null, .int 0, .int 0, .int 0, .null, .int 0] (fun j hj => by rcases (show j = 0 ∨ j = 1 ∨ j = 2 ∨ j = 3 ∨ j = 4 ∨ j = 5 ∨ j = 6 ∨ j = 7 ∨ j = 8 ∨ j = 9 ∨ j = 10 ∨ j = 11 ∨ j = 12 ∨ j = 13 ∨ j = 14 ∨ j = 15 ∨ j = 16 ∨ j = 17 ∨ j = 18 ∨ j = 19 ∨ j = 20 ∨ j = 21 ∨ j = 22 by omega) with rfl | rfl | rfl | rfl | rfl | rfl | rfl | rfl | rfl | rfl | rfl | rfl | rfl | rfl | rfl | rfl | rfl | rfl | rfl | rfl | rfl | rfl | rfl <;> rfl) (Nat.le_of_ble_eq_true rfl) (Nat.le_of_ble_eq_true rfl) dL_law_8 (fun q2 => ?_)
    refine eh_room C 26 496 rfl rfl ?_
    refine eh_dup C dL_law_11 rfl ?_
    refine eh_init C (cwl_X5_init C) kX5_init 25 [0, 1, 2, 3, 4, 5, 6, 7, 8, 9, 10, 11, 12, 13, 14, 15, 16, 17, 18, 19, 20, 21, 22, 23, 24] (eu_wd 0 25 (eu_cy E) ad1 eu_s0) rfl rfl rfl (by decide) (by decide) (Nat.le_of_ble_eq_true rfl) dL_law_12 (Nat.le_of_ble_eq_true rfl) (Nat.le_of_ble_eq_true rfl) (fun w1 hw1 => ?_)
    obtain ⟨ad2, rfl, rfl⟩ := hw1
    refine eh_room C 37 1045 rfl rfl ?_
    refine eh_astore_n C [(2, .ref (ad2 25)), (1, .ref (ad1 0)), (0, .ref b)] dL_law_15 rfl (by decide) rfl ?_
    refine eh_iconst C 0 dL_law_16 (by decide) ?_
    refine eh_istore_n C [(3, .int 0), (2, .ref (ad2 25)), (1, .ref (ad1 0)), (0, .ref b)] dL_law_17 rfl (by decide) rfl ?_
    refine eh_sub C [3, 2, 1, 0] rfl ?_
    exact law_loop_open h_type h_wipe h_fault h_deed h_undoes h_read h_undo h_worth h_judged h_holds h_state h_root h_by h_without h_fewest h_safe h_last h_seen h_forget h_often h_drawn h_sheet h_lose h_lay h_get h_copy h_write h_count h_digest C rfl rfl hL hX' hbl' hbA hend 70 0 eu_s0 eu_t0 0 (by decide) (by decide) rfl hs0
  exact hgo _ rfl ⟨hx, hb, hml, hown, fun w hw => hts w (eu_TB_in w hw), hlocks, ⟨hcl, hty⟩, fun w hw => va_Nw.of (hnw w hw) (hts w (eu_nl_in w hw)), fun q h => h, rfl, ⟨va_AO.of (hts _ el_w1), va_AOA.of (hts _ el_w2)⟩, hr⟩ s.heap [] _ (fun k q h => by simp at h) ⟨fun i j p q h => by simp at h, fun k q h => by simp at h⟩ va_S.rf hl
