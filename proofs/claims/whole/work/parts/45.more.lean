/-! ===== one more, two more ===== -/
def zfW (U : Nat) (σ σ' : eu_T) : Prop := (∀ k, k ≠ 10 → σ' k = σ k) ∧ ∀ i, i < U → σ' 10 i = σ 10 i
theorem zfW.rf {U : Nat} {σ : eu_T} : zfW U σ σ := ⟨fun _ _ => rfl, fun _ _ => rfl⟩
theorem zfW.tr {U : Nat} {a b c : eu_T} (h1 : zfW U a b) (h2 : zfW U b c) : zfW U a c := ⟨fun k q => (h2.1 k q).trans (h1.1 k q), fun j q => (h2.2 j q).trans (h1.2 j q)⟩
theorem zfW.s {U : Nat} {σ σ' : eu_T} (h : zfW U σ σ') : zfs U σ σ' := ⟨fun k _ q => h.1 k q, h.2⟩
/-- the outlook is renewed -/
def zOl (D : zD) (U : Nat) (pe th : Nat → Nat) (σ : eu_T) : Prop := zDd D σ ∧ zUd U pe th σ ∧ σ 1 3 = (sL D pe th 99 U).1 ∧ σ 1 4 = sSp D pe th 99 U
theorem zOl.W {D : zD} {U : Nat} {pe th : Nat → Nat} {σ σ' : eu_T} (h : zOl D U pe th σ) (hf : zfW U σ σ') : zOl D U pe th σ' := ⟨hf.s.D h.1, hf.s.U h.2.1, by rw [hf.1 1 (by decide)]; exact h.2.2.1, by rw [hf.1 1 (by decide)]; exact h.2.2.2⟩
theorem d_renew {D : zD} {U : Nat} {pe th : Nat → Nat} {σ : eu_T} (hD : zDd D σ) (hU : zUd U pe th σ) : ∃ σ', fX1_renew σ = some (0, σ') ∧ zfs U σ σ' ∧ zOl D U pe th σ' := by
  have f1 : zfs U σ (eu_up σ 1 3 (sL D pe th 99 U).1) := ⟨fun k q _ => eu_up_n q, fun i _ => by rw [eu_up_n (by decide)]⟩
  have hU1 := f1.U hU
  have f2 : zfs U σ (eu_up (eu_up σ 1 3 (sL D pe th 99 U).1) 1 4 (sSp D pe th 99 U)) := f1.tr ⟨fun k q _ => eu_up_n q, fun i _ => by rw [eu_up_n (by decide)]⟩
  refine ⟨_, ?_, f2, f2.D hD, f2.U hU, by rw [up_i _ _ (by decide), up_s], up_s _ _ _ _⟩
  unfold fX1_renew
  rw [d_lawful hD hU z_sk1, eu_bd_t, z_lt_i, up_s, d_unspent hU1 (Nat.le_refl U), eu_bd_t, z_lt_i]
def sW1 (D : zD) (U : Nat) (pe th : Nat → Nat) (t : Nat) : Int32 := sStand D (sUn ((sL D pe th 99 U).1 ||| zb U) (nup th U t))
def sW2 (D : zD) (U : Nat) (pe th : Nat → Nat) (t t2 : Nat) : Int32 := sStand D (sUn (((sL D pe th 99 U).1 ||| zb U) ||| zb (U + 1)) (nup (nup th U t) (U + 1) t2))
theorem d_J77 {D : zD} {th : Nat → Nat} {σ : eu_T} (hD : zDd D σ) {law : Int32} (hT : ∀ i, i < 12 → bt law i = true → σ 10 i = nI (th i) ∧ th i < 24) : fX1_standingWith_J77 σ law = some (sStand D (sUn law th), σ) := by
  unfold fX1_standingWith_J77
  rw [d_undone hT, eu_bd_t, d_standing0 hD, eu_bd_t]
theorem d_W0 {D : zD} {U : Nat} {pe th : Nat → Nat} {σ : eu_T} (h : zOl D U pe th σ) : fX1_standingWith σ (-1) (-1) = some (sSt D pe th 99 U, σ) := by
  unfold fX1_standingWith fX1_standingWith_J47
  rw [if_pos rfl, if_pos rfl, h.2.2.1, d_J77 h.1 (d_lawT h.2.1 99 U (Nat.le_refl U))]
theorem nup_n {α : Type} (f : Nat → α) (k : Nat) (v : α) {j : Nat} (h : ¬ j = k) : nup f k v j = f j := if_neg h
theorem d_T1 {D : zD} {U : Nat} {pe th : Nat → Nat} {σ : eu_T} (h : zOl D U pe th σ) {t : Nat} (ht : t < 24) : ∀ i, i < 12 → bt ((sL D pe th 99 U).1 ||| zb U) i = true → eu_up σ 10 U (nI t) 10 i = nI (nup th U t i) ∧ nup th U t i < 24 := fun i hi hb => by
  have hU12 := h.2.1.1
  rw [eu_up_r, if_pos rfl]
  by_cases c : i = U
  · rw [if_pos c, c, nup_s]
    exact ⟨rfl, ht⟩
  · rw [if_neg c, nup_n _ _ _ c]
    rw [show bt ((sL D pe th 99 U).1 ||| zb U) i = (bt (sL D pe th 99 U).1 i || decide (i = U)) from z_or1 (by omega) (by omega), decide_eq_false c, Bool.or_false] at hb
    exact d_lawT h.2.1 99 U (Nat.le_refl U) i hi hb
theorem up_W {U k : Nat} {σ : eu_T} {x : Int32} (hk : U ≤ k) : zfW U σ (eu_up σ 10 k x) := ⟨fun q hq => eu_up_n hq, fun i hi => up_i _ _ (by omega)⟩
theorem d_W1 {D : zD} {U : Nat} {pe th : Nat → Nat} {σ : eu_T} (h : zOl D U pe th σ) (hU : U < 12) {t : Nat} (ht : t < 24) : ∃ σ', fX1_standingWith σ (nI t) (-1) = some (sW1 D U pe th t, σ') ∧ zfW U σ σ' := by
  have f := up_W (σ := σ) (x := nI t) (Nat.le_refl U)
  refine ⟨_, ?_, f⟩
  unfold fX1_standingWith fX1_standingWith_J47
  rw [if_neg (z_nm1 (by omega)), h.2.1.2.1, show (12 : Int32) = nI 12 from rfl, if_neg (le_n (show ¬ 12 ≤ U by omega) (by omega)), z_gd (by omega) hU, z_cl (by omega), z_lt_i, if_pos rfl, h.2.2.1, d_J77 (h.W f).1 (d_T1 h ht)]
  rfl
theorem d_W1b {D : zD} {U : Nat} {pe th : Nat → Nat} {σ : eu_T} (h : zOl D U pe th σ) (hU : U < 12) {t : Nat} (ht : t < 24) : ∃ σ', fX1_standingWith σ (-1) (nI t) = some (sW1 D U pe th t, σ') ∧ zfW U σ σ' := by
  have f := up_W (σ := σ) (x := nI t) (Nat.le_refl U)
  refine ⟨_, ?_, f⟩
  unfold fX1_standingWith fX1_standingWith_J47
  rw [if_pos rfl, if_neg (z_nm1 (by omega)), h.2.1.2.1, show (12 : Int32) = nI 12 from rfl, if_neg (le_n (show ¬ 12 ≤ U by omega) (by omega)), z_gd (by omega) hU, z_cl (by omega), z_lt_i, h.2.2.1, d_J77 (h.W f).1 (d_T1 h ht)]
  rfl
theorem d_W2 {D : zD} {U : Nat} {pe th : Nat → Nat} {σ : eu_T} (h : zOl D U pe th σ) (hU : U + 1 < 12) {t t2 : Nat} (ht : t < 24) (ht2 : t2 < 24) : ∃ σ', fX1_standingWith σ (nI t) (nI t2) = some (sW2 D U pe th t t2, σ') ∧ zfW U σ σ' := by
  have f := up_W (σ := σ) (x := nI t) (Nat.le_refl U)
  have f2 := f.tr (up_W (σ := eu_up σ 10 U (nI t)) (x := nI t2) (Nat.le_succ U))
  refine ⟨_, ?_, f2⟩
  have hT : ∀ i, i < 12 → bt (((sL D pe th 99 U).1 ||| zb U) ||| zb (U + 1)) i = true → eu_up (eu_up σ 10 U (nI t)) 10 (U + 1) (nI t2) 10 i = nI (nup (nup th U t) (U + 1) t2 i) ∧ nup (nup th U t) (U + 1) t2 i < 24 := fun i hi hb => by
    rw [eu_up_r _ 10 (U + 1), if_pos rfl]
    by_cases c : i = U + 1
    · rw [if_pos c, c, nup_s]
      exact ⟨rfl, ht2⟩
    · rw [if_neg c, nup_n _ _ _ c]
      rw [show bt (((sL D pe th 99 U).1 ||| zb U) ||| zb (U + 1)) i = (bt ((sL D pe th 99 U).1 ||| zb U) i || decide (i = U + 1)) from z_or1 (by omega) (by omega), decide_eq_false c, Bool.or_false] at hb
      exact d_T1 h ht i hi hb
  unfold fX1_standingWith fX1_standingWith_J47
  rw [if_neg (z_nm1 (by omega)), h.2.1.2.1, show (12 : Int32) = nI 12 from rfl, if_neg (le_n (show ¬ 12 ≤ U by omega) (by omega)), z_gd (by omega) (by omega), z_cl (by omega), z_lt_i, if_neg (z_nm1 (by omega)), z_p1, if_neg (le_n (show ¬ 12 ≤ U + 1 by omega) (by omega)), z_gd (by omega) hU, z_cl (by omega), z_lt_i, h.2.2.1, d_J77 (h.W f2).1 hT]
  rfl
/-- who can take a thing as the next -/
def sTk (D : zD) (U : Nat) (pe th : Nat → Nat) (t : Nat) : Int32 := match sOwn D pe (sL D pe th 99 U).1 t with
  | some o => sSp D pe th 99 U &&& (zb o ^^^ (-1))
  | none => 0
theorem sOwn_lt {D : zD} {U : Nat} {pe th : Nat → Nat} {t o : Nat} (ht : t < 24) (hU : U ≤ 12) (hp : ∀ i, i < U → pe i < 6) (hd : ∀ d, d < D.1 → D.2.1 d < 6) (h : sOwn D pe (sL D pe th 99 U).1 t = some o) : o < 6 := by
  unfold sOwn at h
  by_cases c : t < 12
  · rw [if_pos c] at h
    by_cases c2 : t < D.1
    · rw [if_pos c2] at h
      have := hd t c2
      injection h with h
      omega
    · rw [if_neg c2] at h
      exact absurd h (by simp)
  · rw [if_neg c] at h
    by_cases c2 : bt (sL D pe th 99 U).1 (t - 12) = true
    · rw [if_pos c2] at h
      have := sL_lt D pe th 99 U (by omega) _ (by omega) c2
      have := hp _ this
      injection h with h
      omega
    · rw [if_neg c2] at h
      exact absurd h (by simp)
theorem d_takers {D : zD} {U : Nat} {pe th : Nat → Nat} {σ : eu_T} (h : zOl D U pe th σ) {t : Nat} (ht : t < 24) : fX1_takersOf σ (nI t) = some (sTk D U pe th t) := by
  have hU12 := h.2.1.1
  unfold fX1_takersOf sTk
  rw [h.2.2.1, d_ownerOf h.1 h.2.1 ht (sL_ltb D pe th 99 U hU12), eu_bd_t, h.2.2.2]
  cases e : sOwn D pe (sL D pe th 99 U).1 t with
  | none => exact if_pos rfl
  | some o =>
    have := sOwn_lt ht hU12 (fun i hi => (h.2.1.2.2 i hi).2.2.1) (fun d hd => (h.1.2.2.1 d hd).2.1) e
    exact if_neg (z_nm1 (by omega))
theorem z_63 : ∀ p, p < 32 → bt 63 p = decide (p < 6) := by decide +kernel
theorem sSp_bt {D : zD} {U : Nat} {pe th : Nat → Nat} {p : Nat} (hp : p < 32) : bt (sSp D pe th 99 U) p = (decide (p < 6) && !bt (sL D pe th 99 U).2 p) := by
  show bt ((63 : Int32) &&& ((sL D pe th 99 U).2 ^^^ (-1))) p = _
  rw [b_and, z_not hp, z_63 p hp]
theorem sTk_bt {D : zD} {U : Nat} {pe th : Nat → Nat} {t p : Nat} (hp : p < 32) (ho : ∀ o, sOwn D pe (sL D pe th 99 U).1 t = some o → o < 6) : bt (sTk D U pe th t) p = (bt (sSp D pe th 99 U) p && (match sOwn D pe (sL D pe th 99 U).1 t with
  | some o => decide (¬ o = p)
  | none => false)) := by
  unfold sTk
  cases e : sOwn D pe (sL D pe th 99 U).1 t with
  | none => simp [b_0]
  | some o =>
    have := ho o e
    show bt (sSp D pe th 99 U &&& (zb o ^^^ (-1))) p = (bt (sSp D pe th 99 U) p && decide (¬ o = p))
    rw [b_and, z_not hp, show bt (zb o) p = decide (p = o) from z_bit (by omega) hp]
    congr 1
    by_cases c : p = o
    · rw [decide_eq_true c, decide_eq_false (show ¬ ¬ o = p from fun q => q c.symm)]; rfl
    · rw [decide_eq_false c, decide_eq_true (show ¬ o = p from fun q => c q.symm)]; rfl
theorem sOwn_c {D : zD} {pe pe' : Nat → Nat} {law : Int32} {n t : Nat} (ht : t < 24) (hl : ∀ j, j < 12 → bt law j = true → j < n) (h : ∀ i, i < n → pe i = pe' i) : sOwn D pe law t = sOwn D pe' law t := by
  unfold sOwn
  by_cases c : t < 12
  · rw [if_pos c, if_pos c]
  · rw [if_neg c, if_neg c]
    by_cases c2 : bt law (t - 12) = true
    · rw [if_pos c2, if_pos c2, h _ (hl _ (by omega) c2)]
    · rw [if_neg c2, if_neg c2]
theorem sL_c {D : zD} {pe pe' th th' : Nat → Nat} {skip : Nat} : ∀ n, n ≤ 14 → (∀ i, i < n → pe i = pe' i ∧ th i = th' i ∧ th i < 24) → sL D pe th skip n = sL D pe' th' skip n
  | 0, _, _ => rfl
  | n + 1, hn, h => by
    have ih := sL_c (D := D) (skip := skip) n (by omega) (fun i hi => h i (by omega))
    obtain ⟨h1, h2, h3⟩ := h n (by omega)
    have e : sLw D pe th skip n = sLw D pe' th' skip n := by
      unfold sLw sOk
      rw [← ih, h1, ← h2]
      rw [sOwn_c (pe := pe) (pe' := pe') h3 (fun j hj q => sL_lt D pe th skip n (by omega) j (by omega) q) (fun i hi => (h i (by omega)).1)]
    rw [sL_s, sL_s, ← e, ← ih, h1]
/-- the next, told as code 24 p + t, is lawful -/
theorem sLw_1 {D : zD} {U : Nat} {pe th : Nat → Nat} (hU : U ≤ 12) (hok : ∀ i, i < U → pe i < 6 ∧ th i < 24) (hd : ∀ d, d < D.1 → D.2.1 d < 6) {p t : Nat} (hp : p < 6) (ht : t < 24) : sLw D (nup pe U p) (nup th U t) 99 U = bt (sTk D U pe th t) p := by
  have e : sL D (nup pe U p) (nup th U t) 99 U = sL D pe th 99 U := (sL_c U (by omega) (fun i hi => ⟨(nup_n _ _ _ (by omega)).symm, (nup_n _ _ _ (by omega)).symm, (hok i hi).2⟩)).symm
  rw [sTk_bt (by omega) (fun o q => sOwn_lt ht hU (fun i hi => (hok i hi).1) hd q), sSp_bt (by omega), decide_eq_true hp, Bool.true_and]
  unfold sLw sOk
  rw [e, nup_s, nup_s, decide_eq_true (show ¬ U = 99 by omega), Bool.true_and, sOwn_c (pe := nup pe U p) (pe' := pe) ht (sL_ltb D pe th 99 U hU) (fun i hi => nup_n _ _ _ (by omega))]
  cases sOwn D pe (sL D pe th 99 U).1 t <;> rfl
theorem sL_1 {D : zD} {U : Nat} {pe th : Nat → Nat} (hU : U ≤ 12) (hok : ∀ i, i < U → pe i < 6 ∧ th i < 24) {p t : Nat} (h : sLw D (nup pe U p) (nup th U t) 99 U = true) : sL D (nup pe U p) (nup th U t) 99 (U + 1) = ((sL D pe th 99 U).1 ||| zb U, (sL D pe th 99 U).2 ||| zb p) := by
  have e : sL D (nup pe U p) (nup th U t) 99 U = sL D pe th 99 U := (sL_c U (by omega) (fun i hi => ⟨(nup_n _ _ _ (by omega)).symm, (nup_n _ _ _ (by omega)).symm, (hok i hi).2⟩)).symm
  rw [sL_s, h, if_pos rfl, e, nup_s]
/-! ===== the reference tells one more ===== -/
def zfA (n : Nat) (τ τ' : eu_T) : Prop := (∀ k, k ≠ 25 → k ≠ 32 → k ≠ 34 → τ' k = τ k) ∧ (∀ j, j ≠ 14 → j ≠ 15 → j ≠ 16 → τ' 25 j = τ 25 j) ∧ ∀ j, j < 2 * n → τ' 32 j = τ 32 j
theorem zfA.rf {n : Nat} {τ : eu_T} : zfA n τ τ := ⟨fun _ _ _ _ => rfl, fun _ _ _ _ => rfl, fun _ _ => rfl⟩
theorem zfA.tr {n : Nat} {a b c : eu_T} (h1 : zfA n a b) (h2 : zfA n b c) : zfA n a c := ⟨fun k q r s => (h2.1 k q r s).trans (h1.1 k q r s), fun j q r s => (h2.2.1 j q r s).trans (h1.2.1 j q r s), fun j q => (h2.2.2 j q).trans (h1.2.2 j q)⟩
theorem zfA.le {n m : Nat} {a b : eu_T} (h : zfA n a b) (hm : m ≤ n) : zfA m a b := ⟨h.1, h.2.1, fun j q => h.2.2 j (by omega)⟩
theorem zfA.D {n : Nat} {D : zD} {τ τ' : eu_T} (h : zfA n τ τ') (hD : zDm D τ) : zDm D τ' := hD.c (h.2.1 8 (by decide) (by decide) (by decide)) (h.1 31 (by decide) (by decide) (by decide))
theorem zfA.U {n : Nat} {pe th : Nat → Nat} {τ τ' : eu_T} (h : zfA n τ τ') (hU : zUm n pe th τ) : zUm n pe th τ' := ⟨hU.1, fun i hi => by rw [h.2.2 _ (by omega), h.2.2 _ (by omega)]; exact hU.2 i hi⟩
theorem zfA.P {n : Nat} {τ τ' : eu_T} (h : zfA n τ τ') : zP τ τ' := ⟨h.1 26 (by decide) (by decide) (by decide), h.1 27 (by decide) (by decide) (by decide), h.1 28 (by decide) (by decide) (by decide), h.1 30 (by decide) (by decide) (by decide), h.1 33 (by decide) (by decide) (by decide), h.1 36 (by decide) (by decide) (by decide), h.2.1 4 (by decide) (by decide) (by decide), h.2.1 6 (by decide) (by decide) (by decide), h.2.1 10 (by decide) (by decide) (by decide), h.2.1 20 (by decide) (by decide) (by decide)⟩
theorem zM.A {τ0 : eu_T} {D : zD} {U : Nat} {pe th : Nat → Nat} {τ τ' : eu_T} (h : zM τ0 D U pe th τ) (hf : zfA U τ τ') : zM τ0 D U pe th τ' := ⟨h.1.tr hf.P, hf.D h.2.1, hf.U h.2.2.1, h.2.2.2.1, by rw [hf.2.1 10 (by decide) (by decide) (by decide)]; exact h.2.2.2.2⟩
theorem zfJ.A {n : Nat} {τ τ' : eu_T} (h : zfJ τ τ') : zfA n τ τ' := ⟨fun k q _ s => h.1 k q s, h.2, fun j _ => by rw [h.1 32 (by decide) (by decide)]⟩
theorem z_code : ∀ c, c < 144 → nI c / 24 = nI (c / 24) ∧ nI c - nI c / 24 * 24 = nI (c % 24) := by decide +kernel
theorem m_adds {D : zD} {n : Nat} {pe th : Nat → Nat} {τ : eu_T} (hD : zDm D τ) (hU : zUm n pe th τ) (hn : n < 12) {c : Nat} (hc : c < 144) : ∃ τ', fX5_adds τ (nI n) (nI c) = some (if sLw D (nup pe n (c / 24)) (nup th n (c % 24)) 99 n = true then 1 else 0, τ') ∧ zfA n τ τ' ∧ zUm (n + 1) (nup pe n (c / 24)) (nup th n (c % 24)) τ' ∧ zLm (sL D (nup pe n (c / 24)) (nup th n (c % 24)) 99 (n + 1)).1 (n + 1) τ' := by
  obtain ⟨e1, e2⟩ := z_code c hc
  have hp : c / 24 < 6 := by omega
  have ht : c % 24 < 24 := by omega
  generalize c / 24 = p at *
  generalize c % 24 = t at *
  have f1 : zfA n τ (eu_up (eu_up τ 32 (2 * n) (nI p)) 32 (2 * n + 1) (nI t)) := ⟨fun k q r s => by rw [eu_up_n r, eu_up_n r], fun j q r s => by rw [eu_up_n (by decide), eu_up_n (by decide)], fun j q => by rw [up_i _ _ (by omega), up_i _ _ (by omega)]⟩
  have hU1 : zUm (n + 1) (nup pe n p) (nup th n t) (eu_up (eu_up τ 32 (2 * n) (nI p)) 32 (2 * n + 1) (nI t)) := ⟨by omega, fun i hi => by
    by_cases w : i = n
    · rw [w, nup_s, nup_s, up_s, up_i _ _ (by omega), up_s]
      exact ⟨rfl, rfl, hp, ht⟩
    · rw [nup_n _ _ _ w, nup_n _ _ _ w, up_i _ _ (by omega), up_i _ _ (by omega), up_i _ _ (by omega), up_i _ _ (by omega)]
      exact hU.2 i (by omega)⟩
  obtain ⟨τ2, g1, g2, g3, g4, -⟩ := m_judges (n := n) z_sk2 (f1.D hD) (hU1.le (Nat.le_succ n))
  have hl := m_isLawful (g2.D (f1.D hD)) (g2.U hU1) (skip := 99) (Nat.lt_succ_self n) g3 g4
  have es : sLw D (nup pe n p) (nup th n t) 99 n = sOk D (nup pe n p) (nup th n t) (sL D (nup pe n p) (nup th n t) 99 n).1 (sL D (nup pe n p) (nup th n t) 99 n).2 n := by
    unfold sLw
    rw [decide_eq_true (show ¬ n = 99 by omega), Bool.true_and]
  rw [← es] at hl
  refine ⟨eu_up τ2 34 n (if sLw D (nup pe n p) (nup th n t) 99 n = true then 1 else 0), ?_, (f1.tr g2.A).tr ⟨fun k q r s => eu_up_n s, fun j q r s => by rw [eu_up_n (by decide)], fun j q => by rw [eu_up_n (by decide)]⟩, ?_, fun i hi => ?_⟩
  · unfold fX5_adds fX5_tells
    rw [show (12 : Int32) = nI 12 from rfl, if_pos (lt_p hn (by omega)), e2, e1, z_n2, z_gd (by omega) (by omega), z_cl (by omega), z_lt_i, z_p1, z_gd (by omega) (by omega), z_cl (by omega), z_lt_i, eu_b2_t, g1, eu_b2_t, hl, eu_bd_t, eu_gd_t ⟨z_in (by omega) (by omega), by cases sLw D (nup pe n p) (nup th n t) 99 n <;> first | exact Or.inl rfl | exact Or.inr rfl⟩, z_lt_i, z_gd (by omega) (by omega), z_cl (by omega), up_s, eu_gd_t (by cases sLw D (nup pe n p) (nup th n t) 99 n <;> first | exact Or.inl rfl | exact Or.inr rfl)]
  · exact (g2.U hU1).c (eu_up_n (by decide))
  · rw [eu_up_r, if_pos rfl, sL_bt D _ _ 99 (n + 1) (by omega) i (by omega), decide_eq_true hi, Bool.true_and]
    by_cases w : i = n
    · rw [if_pos w, w]
    · rw [if_neg w, g3 i (by omega), sL_bt D _ _ 99 n (by omega) i (by omega), decide_eq_true (show i < n by omega), Bool.true_and]
