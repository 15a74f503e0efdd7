theorem d_move_L {D : zD} {U : Nat} {pe th : Nat → Nat} {wo : Nat → Nat → Int32} {a b : Nat} (ha : a < 6) (hb : b < 6) : ∀ (k i n : Nat) (s : Int32 × Int32 × Int32) (σ : eu_T), i + k = 24 → k < n → zOw D U pe th wo σ → ∃ σ', fX1_bestMove_L23 n σ (nI a) (nI b) s.1 (sWo wo a s.2.1) (nI i) = some ((sMv D U pe th wo a b k i s).1, σ') ∧ zfW U σ σ'
  | 0, i, 0, s, σ, _, hn, _ => by omega
  | k + 1, i, 0, s, σ, _, hn, _ => by omega
  | 0, i, n + 1, s, σ, hi, _, h => by
    refine ⟨σ, ?_, zfW.rf⟩
    rw [fX1_bestMove_L23_s, show (24 : Int32) = nI 24 from rfl, if_pos (le_p (show 24 ≤ i by omega) (by omega))]
    rfl
  | k + 1, i, n + 1, s, σ, hi, hn, h => by
    have h12 := h.1.1.1
    rw [fX1_bestMove_L23_s, show (24 : Int32) = nI 24 from rfl, if_neg (le_n (show ¬ 24 ≤ i by omega) (by omega)), d_can1 h.1 ha (show i < 24 by omega), eu_bd_t, z_p1]
    have er : sMv D U pe th wo a b (k + 1) i s = sMv D U pe th wo a b k (i + 1) (if (decide (U < 12) && bt (sTk D U pe th i) a) = true ∧ ¬ sWo wo a (sR1 D U pe th wo b i).2 ≤ sWo wo a s.2.1 then (nI i, (sR1 D U pe th wo b i).2, (sR1 D U pe th wo b i).1) else s) := rfl
    rw [er]
    by_cases c : (decide (U < 12) && bt (sTk D U pe th i) a) = true
    · have c1 := c
      rw [Bool.and_eq_true, decide_eq_true_iff] at c1
      obtain ⟨σ1, e1, e2⟩ := d_reply1 h hb (show i < 24 by omega) c1.1
      have h1 := h.W e2
      obtain ⟨σ2, e3, e4⟩ := d_both1 h1 (b := b) (show i < 24 by omega) c1.1
      have h2 := h1.W e4
      have hst : ∀ j, j < 32 → bt (sR1 D U pe th wo b i).2 j = true → j < D.1 := by
        rcases sRp_in (can := sC2 D U pe th b) (W := sW2 D U pe th i) (wt := sWo wo b) (W0 := sW1 D U pe th i) 24 0 (-1, sW1 D U pe th i) (Or.inl ⟨rfl, rfl⟩) (by omega) with ⟨-, q⟩ | ⟨j, -, -, -, q⟩
        · unfold sR1
          rw [q]
          exact z_stD h12
        · unfold sR1
          rw [q]
          exact z_stD h12
      rw [if_pos c, if_neg (show ¬ (1 : Int32) = 0 by decide), e1, eu_b2_t, e3, eu_b2_t, d_worth h2.1.1 ha h2.2 hst, eu_bd_t]
      by_cases c2 : sWo wo a (sR1 D U pe th wo b i).2 ≤ sWo wo a s.2.1
      · obtain ⟨σ', f1, f2⟩ := d_move_L ha hb k (i + 1) n s σ2 (by omega) (by omega) h2
        rw [if_pos c2, if_neg (fun q => q.2 c2)]
        exact ⟨σ', f1, (e2.tr e4).tr f2⟩
      · obtain ⟨σ', f1, f2⟩ := d_move_L ha hb k (i + 1) n (nI i, (sR1 D U pe th wo b i).2, (sR1 D U pe th wo b i).1) σ2 (by omega) (by omega) h2
        rw [if_neg c2, if_pos ⟨c, c2⟩]
        exact ⟨σ', f1, (e2.tr e4).tr f2⟩
    · obtain ⟨σ', f1, f2⟩ := d_move_L ha hb k (i + 1) n s σ (by omega) (by omega) h
      rw [if_neg c, if_pos (show (0 : Int32) = 0 from rfl), if_neg (fun q => c q.1)]
      exact ⟨σ', f1, f2⟩
def sM (D : zD) (U : Nat) (pe th : Nat → Nat) (wo : Nat → Nat → Int32) (a b : Nat) : Int32 × Int32 × Int32 := sMv D U pe th wo a b 24 0 (-1, (sR0 D U pe th wo b).2, (sR0 D U pe th wo b).1)
theorem z_R0 {D : zD} {U : Nat} {pe th : Nat → Nat} {wo : Nat → Nat → Int32} {b : Nat} (h12 : D.1 ≤ 12) : ∀ j, j < 32 → bt (sR0 D U pe th wo b).2 j = true → j < D.1 := by
  rcases sRp_in (can := fun i => decide (U < 12) && bt (sTk D U pe th i) b) (W := sW1 D U pe th) (wt := sWo wo b) (W0 := sSt D pe th 99 U) 24 0 (-1, sSt D pe th 99 U) (Or.inl ⟨rfl, rfl⟩) (by omega) with ⟨-, q⟩ | ⟨j, -, -, -, q⟩
  · unfold sR0
    rw [q]
    exact z_stD h12
  · unfold sR0
    rw [q]
    exact z_stD h12
theorem z_R1 {D : zD} {U : Nat} {pe th : Nat → Nat} {wo : Nat → Nat → Int32} {b t : Nat} (h12 : D.1 ≤ 12) : ∀ j, j < 32 → bt (sR1 D U pe th wo b t).2 j = true → j < D.1 := by
  rcases sRp_in (can := sC2 D U pe th b) (W := sW2 D U pe th t) (wt := sWo wo b) (W0 := sW1 D U pe th t) 24 0 (-1, sW1 D U pe th t) (Or.inl ⟨rfl, rfl⟩) (by omega) with ⟨-, q⟩ | ⟨j, -, -, -, q⟩
  · unfold sR1
    rw [q]
    exact z_stD h12
  · unfold sR1
    rw [q]
    exact z_stD h12
theorem d_move {D : zD} {U : Nat} {pe th : Nat → Nat} {wo : Nat → Nat → Int32} {σ : eu_T} (h : zOw D U pe th wo σ) {a b : Nat} (ha : a < 6) (hb : b < 6) : ∃ σ', fX1_bestMove σ (nI a) (nI b) = some ((sM D U pe th wo a b).1, σ') ∧ zfW U σ σ' := by
  have h12 := h.1.1.1
  obtain ⟨σ1, e1, e2⟩ := d_reply0 h hb
  have h1 := h.W e2
  obtain ⟨σ2, e3, e4⟩ := d_both0 h1 (b := b)
  have h2 := h1.W e4
  obtain ⟨σ3, e5, e6⟩ := d_move_L ha hb 24 0 200 (-1, (sR0 D U pe th wo b).2, (sR0 D U pe th wo b).1) σ2 (by omega) (by omega) h2
  rw [nI_0] at e5
  refine ⟨σ3, ?_, (e2.tr e4).tr e6⟩
  unfold fX1_bestMove
  rw [e1, eu_b2_t, e3, eu_b2_t, d_worth h2.1.1 ha h2.2 (z_R0 h12), eu_bd_t]
  exact e5
/-! ===== the reference's side of last ===== -/
theorem m_adds_f {D : zD} {n : Nat} {pe th : Nat → Nat} {τ τ' : eu_T} {r : Int32} (hD : zDm D τ) (hU : zUm n pe th τ) {c : Nat} (hc : c < 144) (h : fX5_adds τ (nI n) (nI c) = some (r, τ')) : zfA n τ τ' := by
  have h14 := hU.1
  by_cases c1 : n < 12
  · obtain ⟨τ2, g1, g2, -⟩ := m_adds hD hU c1 hc
    rw [g1] at h
    injection h with h
    injection h with _ h
    rw [← h]
    exact g2
  · unfold fX5_adds at h
    rw [show (12 : Int32) = nI 12 from rfl, if_neg (lt_n c1 (by omega))] at h
    injection h with h
    injection h with _ h
    rw [← h]
    exact zfA.rf
theorem zM.up {τ0 : eu_T} {D : zD} {U : Nat} {pe th : Nat → Nat} {τ : eu_T} (h : zM τ0 D U pe th τ) (x : Int32) {i : Nat} (hi : i = 18 ∨ i = 19 ∨ i = 22) : zM τ0 D U pe th (eu_up τ 25 i x) := by
  obtain ⟨⟨p1, p2, p3, p4, p5, p6, p7, p8, p9, p10⟩, h2, h3, h4, h5⟩ := h
  exact ⟨⟨by rw [eu_up_n (by decide)]; exact p1, by rw [eu_up_n (by decide)]; exact p2, by rw [eu_up_n (by decide)]; exact p3, by rw [eu_up_n (by decide)]; exact p4, by rw [eu_up_n (by decide)]; exact p5, by rw [eu_up_n (by decide)]; exact p6, by rw [up_i _ _ (by omega)]; exact p7, by rw [up_i _ _ (by omega)]; exact p8, by rw [up_i _ _ (by omega)]; exact p9, by rw [up_i _ _ (by omega)]; exact p10⟩, h2.c (by rw [up_i _ _ (by omega)]) (eu_up_n (by decide)), h3.c (eu_up_n (by decide)), h4, by rw [up_i _ _ (by omega)]; exact h5⟩
theorem m_answers_L {Inv : eu_T → Prop} {wo : Nat → Nat → Int32} {n b : Nat} {can : Nat → Bool} {W : Nat → Int32} (hb : b < 6) (hA : ∀ τ, Inv τ → ∀ i, i < 24 → ∃ τ', fX5_adds τ (nI n) (nI (24 * b + i)) = some (if can i = true then 1 else 0, τ') ∧ Inv τ' ∧ (τ' 25 18 = τ 25 18 ∧ τ' 25 19 = τ 25 19) ∧ (can i = true → fX5_standing τ' (nI (n + 1)) = some (W i))) (hU : ∀ τ x y, Inv τ → Inv (eu_up (eu_up τ 25 19 x) 25 18 y)) (h33 : ∀ τ, Inv τ → ∀ p, p < 6 → ∀ d, d < 12 → τ 33 (12 * p + d) = wo p d) : ∀ (k i m : Nat) (s : Int32 × Int32) (τ : eu_T), i + k = 24 → k < m → Inv τ → τ 25 18 = s.1 → τ 25 19 = s.2 → ∃ τ', fX5_answers_L22 m τ (nI n) (nI b) (nI i) = some (0, τ') ∧ Inv τ' ∧ τ' 25 18 = (sRp can W (sWo wo b) k i s).1 ∧ τ' 25 19 = (sRp can W (sWo wo b) k i s).2
  | 0, i, 0, s, τ, _, hm, _, _, _ => by omega
  | k + 1, i, 0, s, τ, _, hm, _, _, _ => by omega
  | 0, i, m + 1, s, τ, hi, _, h, e1, e2 => by
    refine ⟨τ, ?_, h, e1, e2⟩
    rw [fX5_answers_L22_s, show (24 : Int32) = nI 24 from rfl, if_pos (le_p (show 24 ≤ i by omega) (by omega))]
  | k + 1, i, m + 1, s, τ, hi, hm, h, e1, e2 => by
    obtain ⟨τ1, g1, g2, g3, g4⟩ := hA τ h i (by omega)
    have er : sRp can W (sWo wo b) (k + 1) i s = sRp can W (sWo wo b) k (i + 1) (if can i = true ∧ ¬ sWo wo b (W i) ≤ sWo wo b s.2 then (nI i, W i) else s) := rfl
    rw [fX5_answers_L22_s, z_n24, nI_add, show (24 : Int32) = nI 24 from rfl, if_neg (le_n (show ¬ 24 ≤ i by omega) (by omega)), g1, eu_b2_t, er, z_p1, z_p1]
    by_cases c : can i = true
    · rw [if_pos c, if_neg (show ¬ (1 : Int32) = 0 by decide), g4 c, eu_bd_t, m_worth _ hb (h33 τ1 g2), eu_bd_t, g3.2, e2, m_worth _ hb (h33 τ1 g2), eu_bd_t]
      by_cases c2 : sWo wo b (W i) ≤ sWo wo b s.2
      · rw [if_pos c2, if_neg (fun q => q.2 c2)]
        exact m_answers_L hb hA hU h33 k (i + 1) m s τ1 (by omega) (by omega) g2 (by rw [g3.1]; exact e1) (by rw [g3.2]; exact e2)
      · rw [if_neg c2, if_pos ⟨c, c2⟩, z_lt_i, z_lt_i]
        exact m_answers_L hb hA hU h33 k (i + 1) m (nI i, W i) _ (by omega) (by omega) (hU τ1 _ _ g2) (up_s _ _ _ _) (by rw [up_i _ _ (by decide), up_s])
    · rw [if_neg c, if_pos (show (0 : Int32) = 0 from rfl), if_neg (fun q => c q.1)]
      exact m_answers_L hb hA hU h33 k (i + 1) m s τ1 (by omega) (by omega) g2 (by rw [g3.1]; exact e1) (by rw [g3.2]; exact e2)
theorem m_reply0 {τ0 : eu_T} {D : zD} {U : Nat} {pe th : Nat → Nat} {wo : Nat → Nat → Int32} {τ : eu_T} (h : zM τ0 D U pe th τ) (h33 : ∀ p, p < 6 → ∀ d, d < 12 → τ0 33 (12 * p + d) = wo p d) {b : Nat} (hb : b < 6) : ∃ τ', fX5_answers τ (nI U) (nI b) = some (0, τ') ∧ zM τ0 D U pe th τ' ∧ τ' 25 18 = (sR0 D U pe th wo b).1 ∧ τ' 25 19 = (sR0 D U pe th wo b).2 := by
  have hU12 := h.2.2.2.1
  obtain ⟨τ1, g1, g2, g3, -⟩ := m_judges z_sk2 h.2.1 h.2.2.1
  have h1 := h.J g2
  have hs := m_standing h1.2.1 h1.2.2.1 (Nat.le_refl U) hU12 g3 (sL_ltb D pe th 99 U hU12)
  have key := m_answers_L (Inv := zM τ0 D U pe th) (wo := wo) (n := U) (b := b) (can := fun i => decide (U < 12) && bt (sTk D U pe th i) b) (W := sW1 D U pe th) hb (fun τ hτ i hi => by
    obtain ⟨τ', a1, a2, a3⟩ := m_add1 hτ (show 24 * b + i < 144 by omega)
    have fr := m_adds_f hτ.2.1 hτ.2.2.1 (show 24 * b + i < 144 by omega) a1
    rw [show (24 * b + i) / 24 = b by omega, show (24 * b + i) % 24 = i by omega] at a1 a3
    refine ⟨τ', a1, a2, ⟨fr.2.1 18 (by decide) (by decide) (by decide), fr.2.1 19 (by decide) (by decide) (by decide)⟩, fun c => ?_⟩
    rw [Bool.and_eq_true, decide_eq_true_iff] at c
    exact ((a3 c.1).2 c.2).2) (fun τ x y hτ => (hτ.up x (by omega)).up y (by omega)) (fun τ hτ p hp d hd => by rw [hτ.1.2.2.2.2.1]; exact h33 p hp d hd) 24 0 200 (-1, sSt D pe th 99 U) (eu_up (eu_up τ1 25 19 (sSt D pe th 99 U)) 25 18 (-1)) (by omega) (by omega) ((h1.up _ (by omega)).up _ (by omega)) (up_s _ _ _ _) (by rw [up_i _ _ (by decide), up_s])
  obtain ⟨τ2, f1, f2, f3, f4⟩ := key
  rw [nI_0] at f1
  refine ⟨τ2, ?_, f2, f3, f4⟩
  unfold fX5_answers
  rw [g1, eu_b2_t, hs, eu_bd_t, z_lt_i, z_lt_i]
  exact f1
theorem m_reply1 {τ0 : eu_T} {D : zD} {U : Nat} {pe th : Nat → Nat} {wo : Nat → Nat → Int32} {τ : eu_T} (h : zM τ0 D U pe th τ) (h33 : ∀ p, p < 6 → ∀ d, d < 12 → τ0 33 (12 * p + d) = wo p d) {a b t : Nat} (ha : a < 6) (hb : b < 6) (hab : ¬ b = a) (ht : t < 24) (hU : U < 12) (hU1 : zUm (U + 1) (nup pe U a) (nup th U t) τ) (hl : sLw D (nup pe U a) (nup th U t) 99 U = true) : ∃ τ', fX5_answers τ (nI (U + 1)) (nI b) = some (0, τ') ∧ zM τ0 D U pe th τ' ∧ τ' 25 18 = (sR1 D U pe th wo b t).1 ∧ τ' 25 19 = (sR1 D U pe th wo b t).2 := by
  have hU12 := h.2.2.2.1
  obtain ⟨τ1, g1, g2, g3, -⟩ := m_judges z_sk2 h.2.1 hU1
  have h1 := h.J g2
  have hU2 := g2.U hU1
  have e2 := sL_1 hU12 (fun i hi => (h.2.2.1.2 i hi).2.2) hl
  have hs := m_standing h1.2.1 hU2 (Nat.le_refl (U + 1)) (by omega) g3 (sL_ltb D _ _ 99 (U + 1) (by omega))
  rw [e2] at hs
  have key := m_answers_L (Inv := fun τ => zM τ0 D U pe th τ ∧ zUm (U + 1) (nup pe U a) (nup th U t) τ) (wo := wo) (n := U + 1) (b := b) (can := sC2 D U pe th b) (W := sW2 D U pe th t) hb (fun τ hτ i hi => by
    obtain ⟨τ', a1, a2, fr, a4, a5⟩ := m_add2 hτ.1 ha ht hU hτ.2 hl (show 24 * b + i < 144 by omega)
    have ec : (decide (U + 1 < 12) && sL2 D U pe th a (24 * b + i)) = sC2 D U pe th b i := by
      unfold sL2 sC2
      rw [show (24 * b + i) / 24 = b by omega, show (24 * b + i) % 24 = i by omega, decide_eq_true hab, Bool.true_and]
    rw [ec] at a1 a5
    rw [show (24 * b + i) % 24 = i by omega] at a5
    exact ⟨τ', a1, ⟨a2, a4⟩, ⟨fr.2.1 18 (by decide) (by decide) (by decide), fr.2.1 19 (by decide) (by decide) (by decide)⟩, a5⟩) (fun τ x y hτ => ⟨(hτ.1.up x (by omega)).up y (by omega), (hτ.2.c (by rw [eu_up_n (by decide), eu_up_n (by decide)]))⟩) (fun τ hτ p hp d hd => by rw [hτ.1.1.2.2.2.2.1]; exact h33 p hp d hd) 24 0 200 (-1, sW1 D U pe th t) (eu_up (eu_up τ1 25 19 (sW1 D U pe th t)) 25 18 (-1)) (by omega) (by omega) ⟨(h1.up _ (by omega)).up _ (by omega), hU2.c (by rw [eu_up_n (by decide), eu_up_n (by decide)])⟩ (up_s _ _ _ _) (by rw [up_i _ _ (by decide), up_s])
  obtain ⟨τ2, f1, f2, f3, f4⟩ := key
  rw [nI_0] at f1
  refine ⟨τ2, ?_, f2.1, f3, f4⟩
  unfold fX5_answers
  rw [g1, eu_b2_t, hs, eu_bd_t, z_lt_i, z_lt_i]
  exact f1
/-- the last answer, of what is asked -/
def sLa (wo : Nat → Nat → Int32) (a b w : Nat) (s : Int32 × Int32 × Int32) : Int32 := if w = 0 then sWo wo a s.2.1 else if w = 1 then sWo wo b s.2.1 else if w = 2 then s.1 else s.2.2
theorem m_last_L {τ0 : eu_T} {D : zD} {U : Nat} {pe th : Nat → Nat} {wo : Nat → Nat → Int32} (h33 : ∀ p, p < 6 → ∀ d, d < 12 → τ0 33 (12 * p + d) = wo p d) {a b w : Nat} (ha : a < 6) (hb : b < 6) (hab : ¬ b = a) (hw : w < 4) : ∀ (k i n : Nat) (s : Int32 × Int32 × Int32) (τ : eu_T), i + k = 24 → k < n → zM τ0 D U pe th τ → ∃ τ', fX5_lastOf_L27 n τ (nI a) (nI b) (nI w) s.2.1 s.1 s.2.2 (nI i) = some (sLa wo a b w (sMv D U pe th wo a b k i s), τ') ∧ zM τ0 D U pe th τ'
  | 0, i, 0, s, τ, _, hn, _ => by omega
  | k + 1, i, 0, s, τ, _, hn, _ => by omega
  | 0, i, n + 1, s, τ, hi, _, h => by
    have h33' : ∀ p, p < 6 → ∀ d, d < 12 → τ 33 (12 * p + d) = wo p d := fun p hp d hd => by rw [h.1.2.2.2.2.1]; exact h33 p hp d hd
    refine ⟨τ, ?_, h⟩
    rw [fX5_lastOf_L27_s, show (24 : Int32) = nI 24 from rfl, if_pos (le_p (show 24 ≤ i by omega) (by omega)), m_worth _ ha h33', m_worth _ hb h33', eu_bd_t, eu_bd_t]
    show _ = some (sLa wo a b w s, τ)
    unfold sLa
    rcases (show w = 0 ∨ w = 1 ∨ w = 2 ∨ w = 3 by omega) with rfl | rfl | rfl | rfl <;> rfl
  | k + 1, i, n + 1, s, τ, hi, hn, h => by
    obtain ⟨τ1, g1, g2, g3⟩ := m_add1 h (show 24 * a + i < 144 by omega)
    rw [show (24 * a + i) / 24 = a by omega, show (24 * a + i) % 24 = i by omega] at g1 g3
    have er : sMv D U pe th wo a b (k + 1) i s = sMv D U pe th wo a b k (i + 1) (if (decide (U < 12) && bt (sTk D U pe th i) a) = true ∧ ¬ sWo wo a (sR1 D U pe th wo b i).2 ≤ sWo wo a s.2.1 then (nI i, (sR1 D U pe th wo b i).2, (sR1 D U pe th wo b i).1) else s) := rfl
    rw [fX5_lastOf_L27_s, z_n24, nI_add, show (24 : Int32) = nI 24 from rfl, if_neg (le_n (show ¬ 24 ≤ i by omega) (by omega)), h.2.2.2.2, g1, eu_b2_t, er, g2.2.2.2.2, z_p1, z_p1]
    by_cases c : (decide (U < 12) && bt (sTk D U pe th i) a) = true
    · have c1 := c
      rw [Bool.and_eq_true, decide_eq_true_iff] at c1
      obtain ⟨k1, k2⟩ := g3 c1.1
      obtain ⟨τ2, f1, f2, f3, f4⟩ := m_reply1 g2 h33 ha hb hab (show i < 24 by omega) c1.1 k1 (k2 c1.2).1
      have h33' : ∀ p, p < 6 → ∀ d, d < 12 → τ2 33 (12 * p + d) = wo p d := fun p hp d hd => by rw [f2.1.2.2.2.2.1]; exact h33 p hp d hd
      rw [if_pos c, if_neg (show ¬ (1 : Int32) = 0 by decide), f1, eu_b2_t, m_worth _ ha h33', m_worth _ ha h33', eu_bd_t, eu_bd_t, f3, f4]
      by_cases c2 : sWo wo a (sR1 D U pe th wo b i).2 ≤ sWo wo a s.2.1
      · rw [if_pos c2, if_neg (fun q => q.2 c2)]
        exact m_last_L h33 ha hb hab hw k (i + 1) n s τ2 (by omega) (by omega) f2
      · rw [if_neg c2, if_pos ⟨c, c2⟩]
        exact m_last_L h33 ha hb hab hw k (i + 1) n (nI i, (sR1 D U pe th wo b i).2, (sR1 D U pe th wo b i).1) τ2 (by omega) (by omega) f2
    · rw [if_neg c, if_pos (show (0 : Int32) = 0 from rfl), if_neg (fun q => c q.1)]
      exact m_last_L h33 ha hb hab hw k (i + 1) n s τ1 (by omega) (by omega) g2
theorem z_lastOf {τ0 : eu_T} {D : zD} {U : Nat} {pe th : Nat → Nat} {σ τ : eu_T} {wo : Nat → Nat → Int32} (hD : zDd D σ) (hU : zUd U pe th σ) (h : zM τ0 D U pe th τ) (hwo : ∀ p, p < 6 → ∀ d, d < 12 → σ (19 + p) d = wo p d) (h33 : ∀ p, p < 6 → ∀ d, d < 12 → τ0 33 (12 * p + d) = wo p d) {a b w : Nat} (ha : a < 6) (hb : b < 6) (hab : ¬ b = a) (hw : w < 4) : ∃ r σ' τ', fX4_last σ (nI a) (nI b) (nI w) = some (r, σ') ∧ fX5_lastOf τ (nI a) (nI b) (nI w) = some (r, τ') ∧ zfs U σ σ' ∧ zM τ0 D U pe th τ' := by
  have h12 := hD.1
  obtain ⟨σ1, f1, f2, f3⟩ := d_renew hD hU
  have o1 : zOw D U pe th wo σ1 := ⟨f3, fun p hp d hd => by rw [f2.1 _ (by omega) (by omega)]; exact hwo p hp d hd⟩
  obtain ⟨σ2, f4, f5⟩ := d_move o1 ha hb
  have o2 := o1.W f5
  have hrep : ∃ σ3 σ4, fX1_bestReply σ2 (nI b) (sM D U pe th wo a b).1 = some ((sM D U pe th wo a b).2.2, σ3) ∧ zfW U σ2 σ3 ∧ fX1_standingWith σ3 (sM D U pe th wo a b).1 (sM D U pe th wo a b).2.2 = some ((sM D U pe th wo a b).2.1, σ4) ∧ zfW U σ3 σ4 ∧ ∀ j, j < 32 → bt (sM D U pe th wo a b).2.1 j = true → j < D.1 := by
    rcases sMv_in (D := D) (U := U) (pe := pe) (th := th) (wo := wo) (a := a) (b := b) 24 0 (-1, (sR0 D U pe th wo b).2, (sR0 D U pe th wo b).1) (by omega) (Or.inl ⟨rfl, rfl, rfl⟩) with ⟨e1, e2, e3⟩ | ⟨t, ht, hU2, e1, e2, e3⟩
    · obtain ⟨σ3, g1, g2⟩ := d_reply0 o2 hb
      obtain ⟨σ4, g3, g4⟩ := d_both0 (o2.W g2) (b := b)
      unfold sM
      rw [e1, e2, e3]
      exact ⟨σ3, σ4, g1, g2, g3, g4, z_R0 h12⟩
    · obtain ⟨σ3, g1, g2⟩ := d_reply1 o2 hb ht hU2
      obtain ⟨σ4, g3, g4⟩ := d_both1 (o2.W g2) (b := b) ht hU2
      unfold sM
      rw [e1, e2, e3]
      exact ⟨σ3, σ4, g1, g2, g3, g4, z_R1 h12⟩
  obtain ⟨σ3, σ4, g1, g2, g3, g4, g5⟩ := hrep
  have o3 := o2.W g2
  have o4 := o3.W g4
  obtain ⟨τ1, k1, k2, k3, k4⟩ := m_reply0 h h33 hb
  obtain ⟨τ2, k5, k6⟩ := m_last_L h33 ha hb hab hw 24 0 200 (-1, (sR0 D U pe th wo b).2, (sR0 D U pe th wo b).1) τ1 (by omega) (by omega) k2
  rw [nI_0] at k5
  have hm : fX5_lastOf τ (nI a) (nI b) (nI w) = some (sLa wo a b w (sM D U pe th wo a b), τ2) := by
    unfold fX5_lastOf
    rw [h.2.2.2.2, k1, eu_b2_t, k3, k4]
    exact k5
  have pre : ∀ X : eu_T → Option (Int32 × eu_T), (eu_b2 (fX1_renew σ) (fun (r1 : Int32) (σ2 : eu_T) => X σ2)) = X σ1 := fun X => by rw [f1, eu_b2_t]
  have hd : fX4_last σ (nI a) (nI b) (nI w) = (if nI w < (2 : Int32) then (eu_b2 (fX1_standingWith σ3 (sM D U pe th wo a b).1 (sM D U pe th wo a b).2.2) (fun (r7 : Int32) (σ8 : eu_T) => if nI w = 0 then (fX4_last_J107 σ8 (nI a) r7) else (fX4_last_J107 σ8 (nI b) r7))) else (if nI w = (2 : Int32) then (some ((sM D U pe th wo a b).1, σ3)) else (some ((sM D U pe th wo a b).2.2, σ3)))) := by
    unfold fX4_last
    rw [show (6 : Int32) = nI 6 from rfl, show (4 : Int32) = nI 4 from rfl, z_below (by omega) (by omega), z_below (by omega) (by omega), z_below (by omega) (by omega), if_pos ha, if_pos hb, if_pos hw, if_neg (show ¬ (1 : Int32) = 0 by decide), if_neg (show ¬ (1 : Int32) = 0 by decide), if_neg (show ¬ nI a = nI b from eq_n (fun q => hab q.symm) (by omega) (by omega)), if_neg (show ¬ (1 : Int32) = 0 by decide), f1, eu_b2_t, f4, eu_b2_t, g1, eu_b2_t]
  rcases (show w = 0 ∨ w = 1 ∨ w = 2 ∨ w = 3 by omega) with rfl | rfl | rfl | rfl
  · refine ⟨_, σ4, τ2, ?_, hm, f2.tr ((f5.tr g2).tr g4).s, k6⟩
    rw [hd, if_pos (show nI 0 < 2 by decide), g3, eu_b2_t, if_pos (show nI 0 = 0 from rfl)]
    unfold fX4_last_J107
    rw [d_worth o4.1.1 ha o4.2 g5, eu_bd_t]
    rfl
  · refine ⟨_, σ4, τ2, ?_, hm, f2.tr ((f5.tr g2).tr g4).s, k6⟩
    rw [hd, if_pos (show nI 1 < 2 by decide), g3, eu_b2_t, if_neg (show ¬ nI 1 = 0 by decide)]
    unfold fX4_last_J107
    rw [d_worth o4.1.1 hb o4.2 g5, eu_bd_t]
    rfl
  · refine ⟨_, σ3, τ2, ?_, hm, f2.tr (f5.tr g2).s, k6⟩
    rw [hd, if_neg (show ¬ nI 2 < 2 by decide), if_pos (show nI 2 = 2 from rfl)]
    rfl
  · refine ⟨_, σ3, τ2, ?_, hm, f2.tr (f5.tr g2).s, k6⟩
    rw [hd, if_neg (show ¬ nI 3 < 2 by decide), if_neg (show ¬ nI 3 = 2 by decide)]
    rfl
theorem zR.Wo {L : Nat} {tx : Nat → Nat} {U : Nat} {pe th : Nat → Nat} {S : Nat} {sd si : Nat → Nat} {σ τ : eu_T} (h : zR L tx U pe th S sd si σ τ) : zWo σ τ := h.2.2.2.2.2.2.2.2.2.1
theorem sim_last : ∀ (σ τ : eu_T) (a1 a2 a3 : Int32), eu_Rel σ τ → ∃ (r : Int32) (σ' τ' : eu_T), fX4_last σ a1 a2 a3 = some (r, σ') ∧ fX5_last τ a1 a2 a3 = some (r, τ') ∧ eu_Rel σ' τ' := by
  rintro σ τ a1 a2 a3 ⟨L, tx, U, pe, th, S, sd, si, h⟩
  obtain ⟨τ1, g1, g2⟩ := h.reads
  have bad : ∀ X : Option (Int32 × eu_T), X = some (-1002, τ1) → fX4_last σ a1 a2 a3 = some (-1002, σ) → ∃ (r : Int32) (σ' τ' : eu_T), fX4_last σ a1 a2 a3 = some (r, σ') ∧ X = some (r, τ') ∧ eu_Rel σ' τ' := fun X e1 e2 => ⟨-1002, σ, τ1, e2, e1, L, tx, U, pe, th, S, sd, si, h.M g2⟩
  unfold fX5_last fX5_last_J56
  rw [g1, eu_b2_t, z_i5, z_i5, z_i3b]
  by_cases q1 : fX4_isBelow a1 (6 : Int32) = 0
  · rw [if_pos q1]
    exact bad _ rfl (by unfold fX4_last; rw [if_pos q1])
  by_cases q2 : fX4_isBelow a2 (6 : Int32) = 0
  · rw [if_neg q1, if_pos q2]
    exact bad _ rfl (by unfold fX4_last; rw [if_neg q1, if_pos q2])
  by_cases q3 : a1 = a2
  · rw [if_neg q1, if_neg q2, if_pos q3]
    exact bad _ rfl (by unfold fX4_last; rw [if_neg q1, if_neg q2, if_pos q3])
  by_cases q4 : fX4_isBelow a3 (4 : Int32) = 0
  · rw [if_neg q1, if_neg q2, if_neg q3, if_pos q4]
    exact bad _ rfl (by unfold fX4_last; rw [if_neg q1, if_neg q2, if_neg q3, if_pos q4])
  rcases z_below2 a1 6 (by omega) with ⟨e, -⟩ | ⟨a, ha, ea, -⟩
  · exact absurd e q1
  rcases z_below2 a2 6 (by omega) with ⟨e, -⟩ | ⟨b, hb, eb, -⟩
  · exact absurd e q2
  rcases z_below2 a3 4 (by omega) with ⟨e, -⟩ | ⟨w, hw, ew, -⟩
  · exact absurd e q4
  obtain ⟨r, σ2, τ2, k1, k2, k3, k4⟩ := z_lastOf h.D h.Ud g2 (wo := fun p d => σ (19 + p) d) (fun _ _ _ _ => rfl) (fun p hp d hd => (h.Wo p hp d hd).symm) ha hb (fun q => q3 (by rw [ea, eb, q])) hw
  rw [if_neg q1, if_neg q2, if_neg q3, if_neg q4, ea, eb, ew, k2, eu_b2_t]
  exact ⟨r, σ2, τ2, k1, rfl, L, tx, U, pe, th, S, sd, si, (h.M k4).dev k3⟩
