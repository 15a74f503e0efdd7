/-! ===== without and often ===== -/
theorem z_least (x : Int32) : ∀ (k i n : Nat), i + k = 12 → k < n → ∃ r, fX4_leastOf_L2 n x (nI i) = some r ∧ fX5_least_L2 n x (nI i) = some r
  | 0, i, 0, _, hn => by omega
  | k + 1, i, 0, _, hn => by omega
  | 0, i, n + 1, hi, _ => by
    refine ⟨-1, ?_, ?_⟩
    · rw [fX4_leastOf_L2_s, show (12 : Int32) = nI 12 from rfl, if_pos (le_p (show 12 ≤ i by omega) (by omega))]
    · rw [fX5_least_L2_s, show (12 : Int32) = nI 12 from rfl, if_pos (le_p (show 12 ≤ i by omega) (by omega)), show i = 12 by omega]
      rfl
  | k + 1, i, n + 1, hi, hn => by
    obtain ⟨r, g1, g2⟩ := z_least x k (i + 1) n (by omega) (by omega)
    rw [fX4_leastOf_L2_s, fX5_least_L2_s, show (12 : Int32) = nI 12 from rfl, if_neg (le_n (show ¬ 12 ≤ i by omega) (by omega)), if_neg (le_n (show ¬ 12 ≤ i by omega) (by omega)), z_bitOf (by omega), z_isIn (by omega), z_p1, g1, g2]
    cases hb : bt x i
    · rw [if_neg (show ¬ (if false = true then (1 : Int32) else 0) = 1 by decide), if_pos (show (if false = true then (1 : Int32) else 0) = 0 by decide)]
      exact ⟨r, rfl, rfl⟩
    · rw [if_pos (show (if true = true then (1 : Int32) else 0) = 1 by decide), if_neg (show ¬ (if true = true then (1 : Int32) else 0) = 0 by decide)]
      unfold fX5_least_J22
      rw [show (12 : Int32) = nI 12 from rfl, if_neg (eq_n (show ¬ i = 12 by omega) (by omega) (by omega))]
      exact ⟨_, rfl, rfl⟩
theorem z_leastA (x : Int32) : ∃ r, fX4_leastOf x = some r ∧ fX5_least x = some r := by
  have h := z_least x 12 0 200 (by omega) (by omega)
  rw [nI_0] at h
  exact h
theorem sSt_now {D : zD} {pe th : Nat → Nat} {k : Nat} : sSt D pe th 99 k = sStand D (sUn (sL D pe th 99 k).1 th) := rfl
theorem m_withoutOf {τ0 : eu_T} {D : zD} {U : Nat} {pe th : Nat → Nat} {σ τ : eu_T} (hD : zDd D σ) (hU : zUd U pe th σ) (h : zM τ0 D U pe th τ) {x : Nat} (hx : x < U) {w : Int32} (hw : ¬ fX4_isBelow w (2 : Int32) = 0) : ∃ r τ', fX4_without σ (nI x) w = some r ∧ fX5_withoutOf τ (nI x) w = some (r, τ') ∧ zM τ0 D U pe th τ' := by
  have hU12 := hU.1
  have hsk : ∀ i, i < 14 → (nI i = nI x ↔ i = x) := fun i hi => by rw [z_eq (by omega) (by omega)]
  obtain ⟨τ1, f1, f2⟩ := m_stateOf h (k := U) (Nat.le_refl U) 0
  obtain ⟨τ2, g1, g2, g3, -⟩ := m_judges hsk f2.2.1 f2.2.2.1
  have h2 := f2.J g2
  obtain ⟨r, e1, e2⟩ := z_leastA (sStand D (sUn (sL D pe th x U).1 th) ^^^ sSt D pe th 99 U)
  refine ⟨if w = 0 then sStand D (sUn (sL D pe th x U).1 th) else r, τ2, ?_, ?_, h2⟩
  · unfold fX4_without
    rw [hU.2.1, z_below (by omega) (by omega), if_pos hx, if_neg (show ¬ (1 : Int32) = 0 by decide), if_neg hw, d_lawful hD hU (fun i hi => hsk i (by omega)), eu_bd_t, d_standing hD (d_lawT hU x U (Nat.le_refl U)), eu_bd_t]
    by_cases c : w = 0
    · rw [if_pos c, if_pos c]
    · rw [if_neg c, if_neg c, d_standingBehind hD hU (Nat.le_refl U), eu_bd_t, e1, eu_bd_t]
  · unfold fX5_withoutOf
    rw [h.2.2.2.2, f1, eu_b2_t, f2.2.2.2.2, g1, eu_b2_t, h2.2.2.2.2, m_standing h2.2.1 h2.2.2.1 (Nat.le_refl U) hU12 g3 (sL_ltb D pe th x U hU12), eu_bd_t, if_pos rfl]
    by_cases c : w = 0
    · rw [if_pos c, if_pos c]
    · rw [if_neg c, if_neg c, Int32.xor_comm, e2, eu_bd_t]
theorem sim_without : ∀ (σ τ : eu_T) (a1 a2 : Int32), eu_Rel σ τ → ∃ (r : Int32) (τ' : eu_T), fX4_without σ a1 a2 = some r ∧ fX5_without τ a1 a2 = some (r, τ') ∧ eu_Rel σ τ' := by
  rintro σ τ a1 a2 ⟨L, tx, U, pe, th, S, sd, si, h⟩
  have hU12 := h.U12
  obtain ⟨τ1, g1, g2⟩ := h.reads
  have hR := h.M g2
  unfold fX5_without fX5_without_J37
  rw [g1, eu_b2_t, g2.2.2.2.2, z_iD a1 U (by omega), z_i1]
  rcases z_below2 a1 U (by omega) with ⟨e, -⟩ | ⟨x, hx, ex, e⟩
  · rw [e, if_pos rfl]
    refine ⟨_, τ1, ?_, rfl, L, tx, U, pe, th, S, sd, si, hR⟩
    unfold fX4_without
    rw [h.Ud.2.1, e, if_pos rfl]
  · rw [e, if_neg (show ¬ (1 : Int32) = 0 by decide)]
    by_cases c : fX4_isBelow a2 (2 : Int32) = 0
    · rw [if_pos c]
      refine ⟨_, τ1, ?_, rfl, L, tx, U, pe, th, S, sd, si, hR⟩
      unfold fX4_without
      rw [h.Ud.2.1, e, if_neg (show ¬ (1 : Int32) = 0 by decide), if_pos c]
    · obtain ⟨r, τ2, f1, f2, f3⟩ := m_withoutOf h.D h.Ud g2 hx c
      rw [if_neg c, ex, f2, eu_b2_t]
      exact ⟨_, τ2, f1, rfl, L, tx, U, pe, th, S, sd, si, h.M f3⟩
/-! ===== often ===== -/
def sFit (S : Nat) (sd si : Nat → Nat) (s : Int32) (i : Nat) : Bool := (List.range S).all (fun f => decide (f < i) || (bt s (sd f) == decide (si f = 1)))
theorem sFit_iff {S : Nat} {sd si : Nat → Nat} {s : Int32} {i : Nat} : sFit S sd si s i = true ↔ ∀ f, f < S → i ≤ f → bt s (sd f) = decide (si f = 1) := by
  unfold sFit
  rw [List.all_eq_true]
  constructor
  · intro h f hf hi
    have := h f (List.mem_range.mpr hf)
    rw [decide_eq_false (show ¬ f < i by omega), Bool.false_or] at this
    exact eq_of_beq this
  · intro h f hf
    by_cases c : f < i
    · rw [decide_eq_true c, Bool.true_or]
    · rw [h f (List.mem_range.mp hf) (by omega)]
      simp
theorem m_fits {k4 : eu_T → Int32 → Int32 → Option (Int32 × eu_T)} {S : Nat} {sd si : Nat → Nat} {τ : eu_T} (hS : S ≤ 8) (hf : ∀ f, f < S → sd f < 12 ∧ si f < 2) (hm : zSm S sd si τ) {v1 v3 : Int32} {c : Nat} : ∀ (k i n : Nat) (fl : Bool), i + k = S → k < n → fX5_oftenNow_L25 k4 n τ v1 (nI c) v3 (if fl = true then 1 else 0) (nI i) = k4 τ (v1 ||| (if (fl && sFit S sd si v3 i) = true then zb c else 0)) (nI (c + 1))
  | 0, i, 0, fl, _, hn => by omega
  | k + 1, i, 0, fl, _, hn => by omega
  | 0, i, n + 1, fl, hi, _ => by
    have e : sFit S sd si v3 i = true := sFit_iff.mpr (fun f hf hi2 => by omega)
    rw [fX5_oftenNow_L25_s, hm.1, if_pos (le_p (show S ≤ i by omega) (by omega)), e, z_p1]
    cases fl
    · rw [if_pos (show (if false = true then (1 : Int32) else 0) = 0 by decide)]
      rfl
    · rw [if_neg (show ¬ (if true = true then (1 : Int32) else 0) = 0 by decide)]
      rfl
  | k + 1, i, n + 1, fl, hi, hn => by
    rw [fX5_oftenNow_L25_s, hm.1, if_neg (le_n (show ¬ S ≤ i by omega) (by omega)), z_n2, z_p1, z_p1]
    cases fl
    · have ih := m_fits hS hf hm (k4 := k4) (v1 := v1) (v3 := v3) (c := c) k (i + 1) n false (by omega) (by omega)
      rw [if_pos (show (if false = true then (1 : Int32) else 0) = 0 by decide)]
      unfold fX5_oftenNow_J70
      rw [z_p1]
      exact ih
    · have hs := hf i (by omega)
      have hm2 := hm.2 i (by omega)
      rw [if_neg (show ¬ (if true = true then (1 : Int32) else 0) = 0 by decide), z_gd (by omega) (by omega), z_gd (by omega) (by omega), z_cl (by omega), z_cl (by omega), hm2.1, hm2.2, z_get (by omega)]
      have e : (((if bt v3 (sd i) = true then (1 : Int32) else 0) = nI (si i)) ↔ bt v3 (sd i) = decide (si i = 1)) := by
        rcases (show si i = 0 ∨ si i = 1 by omega) with w | w <;> rw [w] <;> cases bt v3 (sd i) <;> decide
      by_cases w : bt v3 (sd i) = decide (si i = 1)
      · have ih := m_fits hS hf hm (k4 := k4) (v1 := v1) (v3 := v3) (c := c) k (i + 1) n true (by omega) (by omega)
        rw [if_pos (e.mpr w)]
        have e2 : sFit S sd si v3 i = sFit S sd si v3 (i + 1) := by
          rw [Bool.eq_iff_iff, sFit_iff, sFit_iff]
          constructor
          · intro h f hf hi2
            exact h f hf (by omega)
          · intro h f hf hi2
            by_cases c2 : f = i
            · rw [c2]; exact w
            · exact h f hf (by omega)
        rw [e2]
        exact ih
      · have ih := m_fits hS hf hm (k4 := k4) (v1 := v1) (v3 := v3) (c := c) k (i + 1) n false (by omega) (by omega)
        rw [if_neg (fun q => w (e.mp q))]
        have e2 : sFit S sd si v3 i = false := by
          cases q : sFit S sd si v3 i
          · rfl
          · exact absurd (sFit_iff.mp q i (by omega) (Nat.le_refl i)) w
        rw [e2]
        unfold fX5_oftenNow_J70
        rw [z_p1]
        exact ih
theorem z_fits {S : Nat} {sd si : Nat → Nat} {σ : eu_T} (h : zSd S sd si σ) (s : Int32) : sFit S sd si s 0 = true ↔ (s &&& σ 0 5) = σ 0 5 ∧ (s &&& σ 0 6) = 0 := by
  obtain ⟨-, -, hf, h5, h6⟩ := h
  rw [sFit_iff]
  constructor
  · intro q
    constructor
    · apply b_ext
      intro d hd
      rw [b_and]
      cases c : bt (σ 0 5) d
      · rw [Bool.and_false]
      · obtain ⟨f, hf1, e1, e2⟩ := (h5 d hd).mp c
        have := q f hf1 (by omega)
        rw [e1, e2] at this
        rw [this]; rfl
    · rw [z_eq0]
      intro d hd
      rw [b_and]
      cases c : bt (σ 0 6) d
      · rw [Bool.and_false]
      · obtain ⟨f, hf1, e1, e2⟩ := (h6 d hd).mp c
        have := q f hf1 (by omega)
        rw [e1, e2] at this
        rw [this]; rfl
  · rintro ⟨q1, q2⟩ f hf1 -
    have hs := hf f hf1
    rcases (show si f = 0 ∨ si f = 1 by omega) with w | w
    · have b := (h6 (sd f) (by omega)).mpr ⟨f, hf1, rfl, w⟩
      have := z_eq0.mp q2 (sd f) (by omega)
      rw [b_and, b, Bool.and_true] at this
      rw [this, w]; rfl
    · have b := (h5 (sd f) (by omega)).mpr ⟨f, hf1, rfl, w⟩
      have : bt (s &&& σ 0 5) (sd f) = bt (σ 0 5) (sd f) := by rw [q1]
      rw [b_and, b, Bool.and_true] at this
      rw [this, w]; rfl
theorem z_often_L {τ0 : eu_T} {D : zD} {U : Nat} {pe th : Nat → Nat} {S : Nat} {sd si : Nat → Nat} {σ : eu_T} (hD : zDd D σ) (hU : zUd U pe th σ) (hS : zSd S sd si σ) (hm0 : zSm S sd si τ0) : ∀ (k i n : Nat) (v : Int32) (τ : eu_T), i + k = U + 1 → k < n → zM τ0 D U pe th τ → ∃ r τ', fX4_often_L4 σ n v (nI i) = some r ∧ fX5_oftenNow_L4 n τ v (nI i) = some (r, τ') ∧ zM τ0 D U pe th τ'
  | 0, i, 0, v, τ, _, hn, _ => by omega
  | k + 1, i, 0, v, τ, _, hn, _ => by omega
  | 0, i, n + 1, v, τ, hi, _, h => by
    have hU12 := hU.1
    refine ⟨v, τ, ?_, ?_, h⟩
    · rw [fX4_often_L4_s, hU.2.1, if_pos (lt_p (show U < i by omega) (by omega))]
    · rw [fX5_oftenNow_L4_s, h.2.2.2.2, if_pos (lt_p (show U < i by omega) (by omega))]
  | k + 1, i, n + 1, v, τ, hi, hn, h => by
    have hU12 := hU.1
    obtain ⟨τ1, f1, f2⟩ := m_stateOf h (k := i) (by omega) 0
    have hm : zSm S sd si τ1 := hm0.c f2.1.2.2.2.2.2.2.2.2.2 f2.1.2.2.2.2.2.1
    obtain ⟨r, τ', g1, g2, g3⟩ := z_often_L hD hU hS hm0 k (i + 1) n (v ||| (if sFit S sd si (sSt D pe th 99 i) 0 = true then zb i else 0)) τ1 (by omega) (by omega) f2
    refine ⟨r, τ', ?_, ?_, g3⟩
    · rw [fX4_often_L4_s, hU.2.1, if_neg (lt_n (show ¬ U < i by omega) (by omega)), d_standingBehind hD hU (by omega), eu_bd_t, z_p1, ← g1]
      by_cases c : sFit S sd si (sSt D pe th 99 i) 0 = true
      · obtain ⟨c1, c2⟩ := (z_fits hS _).mp c
        rw [if_pos c1, if_pos c2, if_pos c]
      · rw [if_neg c, z_o0]
        by_cases c1 : (sSt D pe th 99 i &&& σ 0 5) = σ 0 5
        · rw [if_pos c1, if_neg (fun c2 => c ((z_fits hS _).mpr ⟨c1, c2⟩))]
        · rw [if_neg c1]
    · have e := m_fits (k4 := fX5_oftenNow_L4 n) hS.1 hS.2.2.1 hm (v1 := v) (v3 := sSt D pe th 99 i) (c := i) S 0 200 true (by omega) (by have := hS.1; omega)
      rw [if_pos (show true = true from rfl), nI_0, Bool.true_and] at e
      rw [fX5_oftenNow_L4_s, h.2.2.2.2, if_neg (lt_n (show ¬ U < i by omega) (by omega)), f1, eu_b2_t, if_pos rfl, e, g2]
theorem z_often {τ0 : eu_T} {D : zD} {U : Nat} {pe th : Nat → Nat} {S : Nat} {sd si : Nat → Nat} {σ τ : eu_T} (hD : zDd D σ) (hU : zUd U pe th σ) (hS : zSd S sd si σ) (hm0 : zSm S sd si τ0) (h : zM τ0 D U pe th τ) : ∃ r τ', fX4_often σ = some r ∧ fX5_oftenNow τ = some (r, τ') ∧ zM τ0 D U pe th τ' := by
  have := z_often_L hD hU hS hm0 (U + 1) 0 200 0 τ (by omega) (by have := hU.1; omega) h
  rw [nI_0] at this
  exact this
theorem sim_often : ∀ (σ τ : eu_T), eu_Rel σ τ → ∃ (r : Int32) (τ' : eu_T), fX4_often σ = some r ∧ fX5_often τ = some (r, τ') ∧ eu_Rel σ τ' := by
  rintro σ τ ⟨L, tx, U, pe, th, S, sd, si, h⟩
  obtain ⟨τ1, g1, g2⟩ := h.reads
  have a5 := h.2.2.2.2.1
  have b4 := h.2.2.2.2.2.2.2.2.1
  obtain ⟨r, τ2, f1, f2, f3⟩ := z_often h.D h.Ud a5 b4 g2
  unfold fX5_often
  rw [g1, eu_b2_t, f2, eu_b2_t]
  exact ⟨r, τ2, f1, rfl, L, tx, U, pe, th, S, sd, si, h.M f3⟩
