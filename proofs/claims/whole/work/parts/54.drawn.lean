/-! ===== drawn ===== -/
theorem sUn_app {law : Int32} {th : Nat → Nat} {n d : Nat} (hl : ∀ j, j < 32 → bt law j = true → j < n) (hn : n < 12) (hd : d < 12) (hth : ∀ i, i < n → th i < 24) : sUn (law ||| zb n) (nup th n d) = sUn law th ||| zb d := by
  have hb : ∀ j, j < 32 → bt (law ||| zb n) j = (bt law j || decide (j = n)) := fun j hj => z_or1 (by omega) hj
  have hf : ∀ j, j < 32 → n ≤ j → bt law j = false := fun j hj h => by
    cases q : bt law j
    · rfl
    · have := hl j hj q; omega
  have hh : sH (law ||| zb n) (nup th n d) 12 0 0 = sH law th 12 0 0 ||| zb n := by
    have a1 := sH_ext (law := law ||| zb n) (th := nup th n d) (n := n + 1) (11 - n) 0 0 (fun j h1 h2 => by rw [hb j (by omega), hf j (by omega) (by omega), decide_eq_false (show ¬ j = n by omega)]; rfl)
    rw [show n + 1 + (11 - n) = 12 by omega] at a1
    have a2 := sH_ext (law := law) (th := th) (n := n) (12 - n) 0 0 (fun j h1 h2 => hf j (by omega) (by omega))
    rw [show n + (12 - n) = 12 by omega] at a2
    rw [a1, a2]
    show (if bt (law ||| zb n) n = true ∧ bt 0 n = false then sH (law ||| zb n) (nup th n d) n (0 ||| zb n) (if nup th n d n < 12 then 0 else 0 ||| zb (nup th n d n - 12)) else sH (law ||| zb n) (nup th n d) n 0 0) = _
    rw [if_pos ⟨by rw [hb n (by omega), decide_eq_true (show n = n from rfl), Bool.or_true], b_0 _⟩, nup_s, if_pos hd]
    exact sH_cmp n 0 (zb n) 0 0 (by omega) (fun i hi => ⟨by rw [hb i (by omega), decide_eq_false (show ¬ i = n by omega), Bool.or_false], by rw [nup_n _ _ _ (by omega)], hth i hi⟩) (fun j hj => rfl)
  have hsub : ∀ j, j < 32 → n ≤ j → bt (sH law th 12 0 0) j = false := fun j hj h => by
    cases q : bt (sH law th 12 0 0) j
    · rfl
    · rcases sH_sub law th 12 0 0 (by omega) j hj q with w | w
      · rw [b_0] at w; exact absurd w (by decide)
      · rw [hf j hj h] at w; exact absurd w.2 (by decide)
  have hb2 : ∀ j, j < 32 → bt (sH law th 12 0 0 ||| zb n) j = (bt (sH law th 12 0 0) j || decide (j = n)) := fun j hj => z_or1 (by omega) hj
  unfold sUn
  rw [hh]
  have e1 := sU_add (h := sH law th 12 0 0) (th := th) n (12 - n) 0 0
  rw [show n + (12 - n) = 12 by omega, sU_ext (12 - n) (0 + n) _ (fun j h1 h2 => hsub j (by omega) (by omega))] at e1
  have e2 := sU_add (h := sH law th 12 0 0 ||| zb n) (th := nup th n d) n (12 - n) 0 0
  rw [show n + (12 - n) = 12 by omega, show 12 - n = (11 - n) + 1 by omega] at e2
  rw [e1, e2]
  have e3 : sU (sH law th 12 0 0 ||| zb n) (nup th n d) n 0 0 = sU (sH law th 12 0 0) th n 0 0 := (sU_cmp n 0 0 (fun j _ hj => by
    rw [hb2 j (by omega), decide_eq_false (show ¬ j = n by omega), Bool.or_false, nup_n _ _ _ (show ¬ j = n by omega)]
    exact ⟨Iff.rfl, fun _ => rfl⟩)).symm
  rw [e3]
  show sU (sH law th 12 0 0 ||| zb n) (nup th n d) (11 - n) (0 + n + 1) (if bt (sH law th 12 0 0 ||| zb n) (0 + n) = true ∧ nup th n d (0 + n) < 12 then sU (sH law th 12 0 0) th n 0 0 ||| zb (nup th n d (0 + n)) else sU (sH law th 12 0 0) th n 0 0) = _
  rw [Nat.zero_add, nup_s, if_pos ⟨by rw [hb2 n (by omega), decide_eq_true (show n = n from rfl), Bool.or_true], hd⟩, sU_ext (11 - n) (n + 1) _ (fun j h1 h2 => by rw [hb2 j (by omega), hsub j (by omega) (by omega), decide_eq_false (show ¬ j = n by omega)]; rfl)]
theorem d_doneBy_L {D : zD} {σ : eu_T} (hD : zDd D σ) {p : Nat} (hp : p < 6) : ∀ (k i n : Nat) (v : Int32), i + k = D.1 → k < n → (∀ j, j < 32 → bt v j = (decide (j < i) && decide (D.2.1 j = p))) → ∃ r, fX0_doneBy_L4 σ n (zb p) v (nI i) = some r ∧ ∀ j, j < 32 → bt r j = (decide (j < D.1) && decide (D.2.1 j = p))
  | 0, i, 0, v, _, hn, _ => by omega
  | k + 1, i, 0, v, _, hn, _ => by omega
  | 0, i, n + 1, v, hi, _, h => by
    have h12 := hD.1
    refine ⟨v, ?_, by rw [show D.1 = i by omega]; exact h⟩
    rw [fX0_doneBy_L4_s, hD.2.1, if_pos (le_p (show D.1 ≤ i by omega) (by omega))]
  | k + 1, i, n + 1, v, hi, hn, h => by
    have h12 := hD.1
    obtain ⟨e7, h6, -⟩ := hD.2.2.1 i (by omega)
    rw [fX0_doneBy_L4_s, hD.2.1, if_neg (le_n (show ¬ D.1 ≤ i by omega) (by omega)), z_gd (by omega) (by omega), z_cl (by omega), z_lt_i, e7, z_bitOf (by omega), show bt (zb p) (D.2.1 i) = decide (D.2.1 i = p) from z_bit (by omega) (by omega), z_p1]
    refine d_doneBy_L hD hp k (i + 1) n _ (by omega) (by omega) (fun j hj => ?_)
    by_cases c : D.2.1 i = p
    · rw [decide_eq_true c, if_pos rfl, z_or1 (by omega) hj, h j hj]
      by_cases w : j = i
      · rw [w, c, decide_eq_true (show i = i from rfl), decide_eq_true (show i < i + 1 by omega), Bool.or_true, decide_eq_true (show p = p from rfl)]; rfl
      · rw [decide_eq_false w, Bool.or_false]
        congr 1
        rw [decide_eq_decide]
        omega
    · rw [decide_eq_false c, if_neg (by decide), b_or, b_shl i (by omega) 0 hj, b_0, Bool.and_false, Bool.or_false, h j hj]
      by_cases w : j = i
      · rw [w, decide_eq_false c, Bool.and_false, Bool.and_false]
      · congr 1
        rw [decide_eq_decide]
        omega
theorem m_others_L {D : zD} {τ : eu_T} (hD : zDm D τ) {p : Nat} (hp : p < 6) : ∀ (k i n : Nat) (v : Int32), i + k = D.1 → k < n → (∀ j, j < 32 → bt v j = (decide (j < i) && !decide (D.2.1 j = p))) → ∃ r, fX5_ofOthers_L4 τ n (nI p) v (nI i) = some r ∧ ∀ j, j < 32 → bt r j = (decide (j < D.1) && !decide (D.2.1 j = p))
  | 0, i, 0, v, _, hn, _ => by omega
  | k + 1, i, 0, v, _, hn, _ => by omega
  | 0, i, n + 1, v, hi, _, h => by
    have h12 := hD.1
    refine ⟨v, ?_, by rw [show D.1 = i by omega]; exact h⟩
    rw [fX5_ofOthers_L4_s, hD.2.1, if_pos (le_p (show D.1 ≤ i by omega) (by omega))]
  | k + 1, i, n + 1, v, hi, hn, h => by
    have h12 := hD.1
    obtain ⟨e7, h6, -⟩ := hD.2.2 i (by omega)
    rw [fX5_ofOthers_L4_s, hD.2.1, if_neg (le_n (show ¬ D.1 ≤ i by omega) (by omega)), z_n3, z_gd (by omega) (by omega), z_cl (by omega), e7, z_p1]
    by_cases c : D.2.1 i = p
    · rw [if_pos (show nI (D.2.1 i) = nI p by rw [c]), z_o0]
      refine m_others_L hD hp k (i + 1) n _ (by omega) (by omega) (fun j hj => ?_)
      rw [h j hj]
      by_cases w : j = i
      · rw [w, decide_eq_true c]
        exact (Bool.and_false _).trans (Bool.and_false _).symm
      · congr 1
        rw [decide_eq_decide]
        omega
    · rw [if_neg (eq_n c (by omega) (by omega))]
      refine m_others_L hD hp k (i + 1) n _ (by omega) (by omega) (fun j hj => ?_)
      rw [z_or1 (by omega) hj, h j hj]
      by_cases w : j = i
      · rw [w, decide_eq_false c, decide_eq_true (show i = i from rfl), decide_eq_true (show i < i + 1 by omega), Bool.or_true]; rfl
      · rw [decide_eq_false w, Bool.or_false]
        congr 1
        rw [decide_eq_decide]
        omega
theorem z_others {D : zD} {σ τ : eu_T} (hD : zDd D σ) (hM : zDm D τ) {p : Nat} (hp : p < 6) (w : Int32) (hw : ∀ j, j < 32 → bt w j = true → j < D.1) : ∃ r9 r12, fX0_doneBy σ (zb p) = some r9 ∧ fX5_ofOthers τ (nI p) = some r12 ∧ (w &&& (r9 ^^^ (-1))) = (w &&& r12) ∧ ∀ j, j < 32 → bt (w &&& r12) j = true → bt w j = true ∧ j < D.1 ∧ ¬ D.2.1 j = p := by
  have h12 := hD.1
  obtain ⟨r9, g1, g2⟩ := d_doneBy_L hD hp D.1 0 200 0 (by omega) (by omega) (fun j hj => by rw [b_0, decide_eq_false (Nat.not_lt_zero j), Bool.false_and])
  obtain ⟨r12, f1, f2⟩ := m_others_L hM hp D.1 0 200 0 (by omega) (by omega) (fun j hj => by rw [b_0, decide_eq_false (Nat.not_lt_zero j), Bool.false_and])
  rw [nI_0] at g1 f1
  refine ⟨r9, r12, g1, f1, b_ext (fun j hj => ?_), fun j hj q => ?_⟩
  · rw [b_and, b_and, z_not hj, g2 j hj, f2 j hj]
    cases q : bt w j
    · rfl
    · rw [decide_eq_true (hw j hj q)]; rfl
  · rw [b_and, Bool.and_eq_true, f2 j hj, Bool.and_eq_true, decide_eq_true_iff, Bool.not_eq_true', decide_eq_false_iff_not] at q
    exact ⟨q.1, q.2.1, q.2.2⟩
theorem m_J160 {τ0 : eu_T} {D : zD} {U : Nat} {pe th : Nat → Nat} {τ : eu_T} (h : zM τ0 D U pe th τ) {k : Nat} {pek thk : Nat → Nat} (hk : U + k ≤ 12) (hU : zUm (U + k) pek thk τ) (what : Int32) : ∃ τ', fX5_drawnOf_J160 τ what (nI k) = some (if what = 0 then sStand D (sUn (sL D pek thk 99 (U + k)).1 thk) else nI k, τ') ∧ zM τ0 D U pe th τ' := by
  obtain ⟨τ1, g1, g2, g3, -⟩ := m_judges z_sk2 h.2.1 hU
  have h1 := h.J g2
  refine ⟨τ1, ?_, h1⟩
  unfold fX5_drawnOf_J160
  rw [h.2.2.2.2, nI_add, g1, eu_b2_t, h1.2.2.2.2, nI_add, m_standing h1.2.1 (g2.U hU) (Nat.le_refl _) hk g3 (sL_ltb D _ _ 99 (U + k) hk), eu_bd_t]
  by_cases c : what = 0
  · rw [if_pos c, if_pos c]
  · rw [if_neg c, if_neg c]
