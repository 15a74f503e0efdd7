/-! ===== telling: type, wipe, deed, undoes, undo, worth, seen, forget ===== -/
theorem up_s (σ : eu_T) (k i : Nat) (x : Int32) : eu_up σ k i x k i = x := by rw [eu_up_r, if_pos rfl, if_pos rfl]
theorem up_i (σ : eu_T) {k i i' : Nat} (x : Int32) (h : ¬ i' = i) : eu_up σ k i x k i' = σ k i' := by rw [eu_up_r, if_pos rfl, if_neg h]
theorem lt_p {a b : Nat} (h : a < b) (hb : b < 1000) : nI a < nI b := by rw [z_lt (by omega) hb]; exact h
theorem lt_n {a b : Nat} (h : ¬ a < b) (ha : a < 1000) : ¬ nI a < nI b := by rw [z_lt ha (by omega)]; exact h
theorem le_p {a b : Nat} (h : a ≤ b) (hb : b < 1000) : nI a ≤ nI b := by rw [z_le (by omega) hb]; exact h
theorem le_n {a b : Nat} (h : ¬ a ≤ b) (ha : a < 1000) : ¬ nI a ≤ nI b := by rw [z_le ha (by omega)]; exact h
theorem eq_n {a b : Nat} (h : ¬ a = b) (ha : a < 1000) (hb : b < 1000) : ¬ nI a = nI b := by rw [z_eq ha hb]; exact h
section ZC
variable {L : Nat} {tx : Nat → Nat} {U : Nat} {pe th : Nat → Nat} {S : Nat} {sd si : Nat → Nat} {σ τ σ' τ' : eu_T} {D : zD}
theorem zTx.c (h : zTx L tx σ) (e3 : σ' 3 3 = σ 3 3) (e6 : σ' 6 = σ 6) : zTx L tx σ' := ⟨h.1, by rw [e3]; exact h.2.1, fun i hi => by rw [e6]; exact h.2.2 i hi⟩
theorem zDd.c (h : zDd D σ) (e4 : σ' 3 4 = σ 3 4) (e5 : σ' 3 5 = σ 3 5) (e7 : σ' 7 = σ 7) (e8 : σ' 8 = σ 8) : zDd D σ' := ⟨h.1, by rw [e4]; exact h.2.1, fun d hd => by rw [e7, e8]; exact h.2.2.1 d hd, by rw [e5]; exact h.2.2.2⟩
theorem zUd.c (h : zUd U pe th σ) (e2 : σ' 2 3 = σ 2 3) (e9 : σ' 9 = σ 9) (e10 : σ' 10 = σ 10) : zUd U pe th σ' := ⟨h.1, by rw [e2]; exact h.2.1, fun d hd => by rw [e9, e10]; exact h.2.2 d hd⟩
theorem zSd.c (h : zSd S sd si σ) (e4 : σ' 0 4 = σ 0 4) (e5 : σ' 0 5 = σ 0 5) (e6 : σ' 0 6 = σ 0 6) : zSd S sd si σ' := by
  unfold zSd
  rw [e4, e5, e6]
  exact h
theorem zTm.c (h : zTm L tx τ) (e3 : τ' 25 6 = τ 25 6) (e6 : τ' 30 = τ 30) : zTm L tx τ' := ⟨h.1, by rw [e3]; exact h.2.1, fun i hi => by rw [e6]; exact h.2.2 i hi⟩
theorem zUm.c (h : zUm U pe th τ) (e : τ' 32 = τ 32) : zUm U pe th τ' := ⟨h.1, fun i hi => by rw [e]; exact h.2 i hi⟩
theorem zSm.c (h : zSm S sd si τ) (e3 : τ' 25 20 = τ 25 20) (e6 : τ' 36 = τ 36) : zSm S sd si τ' := ⟨by rw [e3]; exact h.1, fun i hi => by rw [e6]; exact h.2 i hi⟩
theorem zWo.c (h : zWo σ τ) (e : ∀ p, p < 6 → σ' (19 + p) = σ (19 + p)) (e' : τ' 33 = τ 33) : zWo σ' τ' := fun p hp d hd => by rw [e p hp, e']; exact h p hp d hd
theorem zSh.c (h : zSh σ τ) (e : ∀ k, 11 ≤ k → k < 19 → σ' k = σ k) (e1 : τ' 26 = τ 26) (e2 : τ' 27 = τ 27) (e3 : τ' 28 = τ 28) : zSh σ' τ' := fun s hs => by
  rw [e (11 + s) (by omega) (by omega), e (15 + s) (by omega) (by omega), e1, e2, e3]
  exact h s hs
theorem zR.met (h : zR L tx U pe th S sd si σ τ) (x : Int32) : zR L tx U pe th S sd si (eu_up σ 0 7 x) (eu_up τ 25 4 x) := by
  obtain ⟨a1, a2, a3, a4, a5, b1, b2, b3, b4, c1, c2, c3⟩ := h
  refine ⟨a1.c (by rw [eu_up_n (by decide)]) (eu_up_n (by decide)), a2.c (by rw [eu_up_n (by decide)]) (by rw [eu_up_n (by decide)]) (eu_up_n (by decide)) (eu_up_n (by decide)), by rw [eu_up_n (by decide)]; exact a3, a4.c (by rw [eu_up_n (by decide)]) (eu_up_n (by decide)) (eu_up_n (by decide)), a5.c (up_i _ _ (by decide)) (up_i _ _ (by decide)) (up_i _ _ (by decide)), b1.c (up_i _ _ (by decide)) (eu_up_n (by decide)), b2.c (eu_up_n (by decide)), by rw [up_i _ _ (by decide)]; exact b3, b4.c (up_i _ _ (by decide)) (eu_up_n (by decide)), c1.c (fun p hp => eu_up_n (by omega)) (eu_up_n (by decide)), c2.c (fun k h1 h2 => eu_up_n (by omega)) (eu_up_n (by decide)) (eu_up_n (by decide)) (eu_up_n (by decide)), by rw [up_s, up_s]⟩
theorem zR.retext (h : zR L tx U pe th S sd si σ τ) {σ1 σ2 τ' : eu_T} {L' : Nat} {tx' : Nat → Nat} (e1 : ∀ k, k ≠ 3 → k ≠ 6 → σ1 k = σ k) (hT : zTx L' tx' σ1) (hp : σ2 3 6 = (pAll L' tx').1) (hD : zDd (pAll L' tx').2 σ2) (hf : zfP σ1 σ2) (hm : zTm L' tx' τ') (f1 : ∀ k, k ≠ 25 → k ≠ 30 → τ' k = τ k) (f2 : ∀ j, j ≠ 6 → τ' 25 j = τ 25 j) : zR L' tx' U pe th S sd si σ2 τ' := by
  obtain ⟨a1, a2, a3, a4, a5, b1, b2, b3, b4, c1, c2, c3⟩ := h
  have e : ∀ k, k ≠ 3 → k ≠ 6 → k ≠ 7 → k ≠ 8 → σ2 k = σ k := fun k q r s t => (hf.1 k q s t).trans (e1 k q r)
  have e0 := e 0 (by decide) (by decide) (by decide) (by decide)
  refine ⟨hf.T hT, hD, hp, a4.c (by rw [e 2 (by decide) (by decide) (by decide) (by decide)]) (e 9 (by decide) (by decide) (by decide) (by decide)) (e 10 (by decide) (by decide) (by decide) (by decide)), a5.c (by rw [e0]) (by rw [e0]) (by rw [e0]), hm, b2.c (f1 32 (by decide) (by decide)), by rw [f2 10 (by decide)]; exact b3, b4.c (f2 20 (by decide)) (f1 36 (by decide) (by decide)), c1.c (fun p hp => e _ (by omega) (by omega) (by omega) (by omega)) (f1 33 (by decide) (by decide)), c2.c (fun k h1 h2 => e k (by omega) (by omega) (by omega) (by omega)) (f1 26 (by decide) (by decide)) (f1 27 (by decide) (by decide)) (f1 28 (by decide) (by decide)), by rw [e0, f2 4 (by decide)]; exact c3⟩
end ZC
theorem sim_type : ∀ (σ τ : eu_T) (a1 : Int32), eu_Rel σ τ → ∃ (r : Int32) (σ' τ' : eu_T), fX4_type σ a1 = some (r, σ') ∧ fX5_type τ a1 = some (r, τ') ∧ eu_Rel σ' τ' := by
  rintro σ τ a1 ⟨L, tx, U, pe, th, S, sd, si, h⟩
  have hT := h.1
  have hM := h.2.2.2.2.2.1
  have hL := hT.1
  unfold fX4_type fX5_type
  rw [z_i255]
  rcases z_below2 a1 256 (by omega) with ⟨e, -⟩ | ⟨b, hb, eb, e⟩
  · rw [show (256 : Int32) = nI 256 from rfl, if_pos e, if_pos e]
    exact ⟨_, σ, τ, rfl, rfl, L, tx, U, pe, th, S, sd, si, h⟩
  · rw [show (256 : Int32) = nI 256 from rfl, e, if_neg (show ¬ (1 : Int32) = 0 by decide), if_neg (show ¬ (1 : Int32) = 0 by decide), hT.2.1, hM.2.1, show (60 : Int32) = nI 60 from rfl]
    by_cases c : L < 60
    · rw [if_pos (lt_p c (by omega)), if_neg (eq_n (show ¬ L = 60 by omega) (by omega) (by omega)), z_gd (by omega) c, z_cl (by omega), z_lt_i, z_lt_i]
      unfold fX0_append fX0_append_J29
      rw [hT.2.1, show (60 : Int32) = nI 60 from rfl, if_neg (le_n (show ¬ 60 ≤ L by omega) (by omega)), z_gd (by omega) c, z_cl (by omega), z_lt_i, z_lt_i, eu_up_n (k := 30) (by decide), hM.2.1, eu_up_n (k := 6) (by decide), hT.2.1, z_p1, eb]
      have hT' : zTx (L + 1) (nup tx L b) (eu_up (eu_up σ 6 L (nI b)) 3 3 (nI (L + 1))) := ⟨by omega, up_s _ _ _ _, fun i hi => by
        rw [eu_up_n (by decide), eu_up_r, if_pos rfl]
        unfold nup
        by_cases hi2 : i = L
        · rw [if_pos hi2, if_pos hi2]
          exact ⟨rfl, hb⟩
        · rw [if_neg hi2, if_neg hi2]
          exact hT.2.2 i (by omega)⟩
      obtain ⟨σ2, g1, g2, g3, g4⟩ := d_parse hT'
      rw [g1, eu_b2_t, g4.2 3 (by decide) (by decide) (by decide), up_s, eu_b2_t]
      rw [up_s]
      refine ⟨_, σ2, _, rfl, rfl, L + 1, nup tx L b, U, pe, th, S, sd, si, h.retext (fun k q r => by rw [eu_up_n q, eu_up_n r]) hT' g2 g3 g4 ⟨by omega, up_s _ _ _ _, fun i hi => ?_⟩ (fun k q r => by rw [eu_up_n q, eu_up_n r]) (fun j q => by rw [up_i _ _ q, eu_up_n (by decide)])⟩
      rw [eu_up_n (by decide), eu_up_r, if_pos rfl]
      unfold nup
      by_cases hi2 : i = L
      · rw [if_pos hi2, if_pos hi2]
        exact ⟨rfl, hb⟩
      · rw [if_neg hi2, if_neg hi2]
        exact hM.2.2 i (by omega)
    · rw [if_neg (lt_n c (by omega)), if_pos (show nI L = nI 60 by rw [show L = 60 by omega])]
      exact ⟨_, σ, τ, rfl, rfl, L, tx, U, pe, th, S, sd, si, h⟩
theorem sim_wipe : ∀ (σ τ : eu_T), eu_Rel σ τ → ∃ (r : Int32) (σ' τ' : eu_T), fX4_wipe σ = some (r, σ') ∧ fX5_wipe τ = some (r, τ') ∧ eu_Rel σ' τ' := by
  rintro σ τ ⟨L, tx, U, pe, th, S, sd, si, h⟩
  have hT := h.1
  have hM := h.2.2.2.2.2.1
  have hT' : zTx 0 tx (eu_up σ 3 3 0) := ⟨by omega, up_s _ _ _ _, fun i hi => absurd hi (Nat.not_lt_zero i)⟩
  obtain ⟨σ2, g1, g2, g3, g4⟩ := d_parse hT'
  unfold fX4_wipe fX5_wipe fX0_clear
  rw [z_lt_i, z_lt_i, g1, eu_b2_t, eu_b2_t, hT.2.1, hM.2.1]
  exact ⟨_, σ2, _, rfl, rfl, 0, tx, U, pe, th, S, sd, si, h.retext (fun k q r => by rw [eu_up_n q]) hT' g2 g3 g4 ⟨by omega, up_s _ _ _ _, fun i hi => absurd hi (Nat.not_lt_zero i)⟩ (fun k q r => by rw [eu_up_n q]) (fun j q => up_i _ _ q)⟩
theorem sim_deed : ∀ (σ τ : eu_T) (a1 a2 : Int32), eu_Rel σ τ → ∃ (r : Int32) (τ' : eu_T), fX4_deed σ a1 a2 = some r ∧ fX5_deed τ a1 a2 = some (r, τ') ∧ eu_Rel σ τ' := by
  rintro σ τ a1 a2 ⟨L, tx, U, pe, th, S, sd, si, h⟩
  obtain ⟨τ1, g1, g2⟩ := h.reads
  have hR := h.M g2
  have hD := h.D
  have h12 := hD.1
  unfold fX4_deed fX5_deed fX5_isDeed fX5_deed_J33
  rw [g1, eu_b2_t, eu_b2_t, g2.2.1.2.1, z_iD a1 _ (by omega), hD.2.1, z_i2]
  rcases z_below2 a1 (pAll L tx).2.1 (by omega) with ⟨e, -⟩ | ⟨x, hx, ex, e⟩
  · rw [e, if_pos rfl, if_pos rfl]
    exact ⟨_, τ1, rfl, rfl, L, tx, U, pe, th, S, sd, si, hR⟩
  · rw [e, if_neg (show ¬ (1 : Int32) = 0 by decide), if_neg (show ¬ (1 : Int32) = 0 by decide)]
    rcases z_below2 a2 3 (by omega) with ⟨e, -⟩ | ⟨y, hy, ey, e⟩
    · rw [show (3 : Int32) = nI 3 from rfl, if_pos e, if_pos e]
      exact ⟨_, τ1, rfl, rfl, L, tx, U, pe, th, S, sd, si, hR⟩
    · rw [show (3 : Int32) = nI 3 from rfl, e, if_neg (show ¬ (1 : Int32) = 0 by decide), if_neg (show ¬ (1 : Int32) = 0 by decide), show nI 3 = (3 : Int32) from rfl, ex, ey, z_n3, nI_add, z_gd (by omega) (by omega), z_cl (by omega), z_cl (by omega), z_gd (by omega) (by omega), z_gd (by omega) (by omega)]
      obtain ⟨m1, m2, m3, m4⟩ := g2.2.1.2.2 x hx
      obtain ⟨d1, d2, d3⟩ := hD.2.2.1 x hx
      rcases (show y = 0 ∨ y = 1 ∨ y = 2 by omega) with rfl | rfl | rfl
      · rw [if_pos (show nI 0 = (0 : Int32) from rfl), d1]
        exact ⟨_, τ1, rfl, by rw [Nat.add_zero, m1], L, tx, U, pe, th, S, sd, si, hR⟩
      · rw [if_neg (show ¬ nI 1 = (0 : Int32) by decide), if_pos (show nI 1 = (1 : Int32) from rfl), d3]
        exact ⟨_, τ1, rfl, by rw [m3], L, tx, U, pe, th, S, sd, si, hR⟩
      · rw [if_neg (show ¬ nI 2 = (0 : Int32) by decide), if_neg (show ¬ nI 2 = (1 : Int32) by decide), hD.2.2.2, z_bitOf (by omega)]
        exact ⟨_, τ1, rfl, by rw [m4], L, tx, U, pe, th, S, sd, si, hR⟩
theorem zR.tell {L : Nat} {tx : Nat → Nat} {U : Nat} {pe th : Nat → Nat} {S : Nat} {sd si : Nat → Nat} {σ τ : eu_T} (h : zR L tx U pe th S sd si σ τ) (hU : U < 12) {p t : Nat} (hp : p < 6) (ht : t < 24) : ∃ σ' τ', fX3_tell σ (nI p) (nI t) = some (1, σ') ∧ σ' 2 3 = nI (U + 1) ∧ fX5_undoes τ (nI p) (nI t) = some (nI (U + 1), τ') ∧ zR L tx (U + 1) (nup pe U p) (nup th U t) S sd si σ' τ' := by
  obtain ⟨a1, a2, a3, a4, a5, b1, b2, b3, b4, c1, c2, c3⟩ := h
  refine ⟨eu_up (eu_up (eu_up σ 9 U (nI p)) 10 U (nI t)) 2 3 (nI (U + 1)), eu_up (eu_up (eu_up τ 32 (2 * U) (nI p)) 32 (2 * U + 1) (nI t)) 25 10 (nI (U + 1)), ?_, up_s _ _ _ _, ?_, ?_⟩
  · unfold fX3_tell
    rw [a4.2.1, show (12 : Int32) = nI 12 from rfl, if_pos (lt_p hU (by omega)), z_gd (by omega) hU, z_cl (by omega), z_lt_i, eu_up_n (by decide), a4.2.1, z_gd (by omega) hU, z_cl (by omega), z_lt_i, eu_up_n (by decide), eu_up_n (by decide), a4.2.1, z_p1, z_lt_i]
  · unfold fX5_undoes fX5_tells
    rw [z_i5, z_i23, b3, show (6 : Int32) = nI 6 from rfl, show (24 : Int32) = nI 24 from rfl, z_below (by omega) (by omega), z_below (by omega) (by omega), if_pos hp, if_pos ht, if_neg (show ¬ (1 : Int32) = 0 by decide), if_neg (show ¬ (1 : Int32) = 0 by decide), show (12 : Int32) = nI 12 from rfl, if_neg (eq_n (show ¬ U = 12 by omega) (by omega) (by omega)), z_n2, z_gd (by omega) (by omega), z_cl (by omega), z_lt_i, z_p1, z_gd (by omega) (by omega), z_cl (by omega), z_lt_i, eu_b2_t, z_lt_i, up_s, eu_up_n (by decide), eu_up_n (by decide), b3, z_p1]
  · refine ⟨a1.c (by rw [eu_up_n (by decide), eu_up_n (by decide), eu_up_n (by decide)]) (by rw [eu_up_n (by decide), eu_up_n (by decide), eu_up_n (by decide)]), a2.c (by rw [eu_up_n (by decide), eu_up_n (by decide), eu_up_n (by decide)]) (by rw [eu_up_n (by decide), eu_up_n (by decide), eu_up_n (by decide)]) (by rw [eu_up_n (by decide), eu_up_n (by decide), eu_up_n (by decide)]) (by rw [eu_up_n (by decide), eu_up_n (by decide), eu_up_n (by decide)]), by rw [eu_up_n (by decide), eu_up_n (by decide), eu_up_n (by decide)]; exact a3, ⟨by omega, up_s _ _ _ _, fun i hi => ?_⟩, a5.c (by rw [eu_up_n (by decide), eu_up_n (by decide), eu_up_n (by decide)]) (by rw [eu_up_n (by decide), eu_up_n (by decide), eu_up_n (by decide)]) (by rw [eu_up_n (by decide), eu_up_n (by decide), eu_up_n (by decide)]), b1.c (by rw [up_i _ _ (by decide), eu_up_n (by decide), eu_up_n (by decide)]) (by rw [eu_up_n (by decide), eu_up_n (by decide), eu_up_n (by decide)]), ⟨by omega, fun i hi => ?_⟩, up_s _ _ _ _, b4.c (by rw [up_i _ _ (by decide), eu_up_n (by decide), eu_up_n (by decide)]) (by rw [eu_up_n (by decide), eu_up_n (by decide), eu_up_n (by decide)]), c1.c (fun p hp => by rw [eu_up_n (by omega), eu_up_n (by omega), eu_up_n (by omega)]) (by rw [eu_up_n (by decide), eu_up_n (by decide), eu_up_n (by decide)]), c2.c (fun k h1 h2 => by rw [eu_up_n (by omega), eu_up_n (by omega), eu_up_n (by omega)]) (by rw [eu_up_n (by decide), eu_up_n (by decide), eu_up_n (by decide)]) (by rw [eu_up_n (by decide), eu_up_n (by decide), eu_up_n (by decide)]) (by rw [eu_up_n (by decide), eu_up_n (by decide), eu_up_n (by decide)]), by rw [eu_up_n (by decide), eu_up_n (by decide), eu_up_n (by decide), up_i _ _ (by decide), eu_up_n (by decide), eu_up_n (by decide)]; exact c3⟩
    · rw [eu_up_n (by decide), eu_up_n (by decide), eu_up_n (show (10 : Nat) ≠ 2 by decide), eu_up_r, eu_up_r, if_pos rfl, if_pos rfl]
      unfold nup
      by_cases hi2 : i = U
      · rw [if_pos hi2, if_pos hi2, if_pos hi2, if_pos hi2]
        exact ⟨rfl, rfl, hp, ht⟩
      · rw [if_neg hi2, if_neg hi2, if_neg hi2, if_neg hi2, eu_up_n (by decide)]
        exact a4.2.2 i (by omega)
    · rw [eu_up_n (by decide), eu_up_r, eu_up_r, eu_up_r, eu_up_r, if_pos rfl, if_pos rfl, if_pos rfl, if_pos rfl, if_neg (show ¬ 2 * i = 2 * U + 1 by omega), if_neg (show ¬ 2 * i + 1 = 2 * U by omega)]
      unfold nup
      by_cases hi2 : i = U
      · rw [if_pos (show 2 * i = 2 * U by omega), if_pos (show 2 * i + 1 = 2 * U + 1 by omega), if_pos hi2, if_pos hi2]
        exact ⟨rfl, rfl, hp, ht⟩
      · rw [if_neg (show ¬ 2 * i = 2 * U by omega), if_neg (show ¬ 2 * i + 1 = 2 * U + 1 by omega), if_neg hi2, if_neg hi2]
        exact b2.2 i (by omega)
theorem d_tellF {U : Nat} {pe th : Nat → Nat} {σ : eu_T} (h : zUd U pe th σ) (hU : ¬ U < 12) (a b : Int32) : fX3_tell σ a b = some (0, σ) := by
  unfold fX3_tell
  rw [h.2.1, show (12 : Int32) = nI 12 from rfl, if_neg (lt_n hU (by have := h.1; omega))]
theorem m_undoesF {L : Nat} {tx : Nat → Nat} {U : Nat} {pe th : Nat → Nat} {S : Nat} {sd si : Nat → Nat} {σ τ : eu_T} (h : zR L tx U pe th S sd si σ τ) (a b : Int32) (c : fX4_isBelow a (6 : Int32) = 0 ∨ fX4_isBelow b (24 : Int32) = 0 ∨ ¬ U < 12) : ∃ r, r < 0 ∧ fX5_undoes τ a b = some (r, τ) := by
  have hU12 := h.U12
  have b3 := h.2.2.2.2.2.2.2.1
  unfold fX5_undoes
  rw [z_i5, z_i23]
  by_cases c1 : fX4_isBelow a (6 : Int32) = 0
  · rw [if_pos c1]
    exact ⟨_, by decide, rfl⟩
  · rw [if_neg c1]
    by_cases c2 : fX4_isBelow b (24 : Int32) = 0
    · rw [if_pos c2]
      exact ⟨_, by decide, rfl⟩
    · rw [if_neg c2, b3, show (12 : Int32) = nI 12 from rfl, if_pos (show nI U = nI 12 by rw [show U = 12 by rcases c with c | c | c; exact absurd c c1; exact absurd c c2; omega])]
      exact ⟨_, by decide, rfl⟩
theorem sim_undoes : ∀ (σ τ : eu_T) (a1 a2 : Int32), eu_Rel σ τ → ∃ (r : Int32) (σ' τ' : eu_T), fX4_undoes σ a1 a2 = some (r, σ') ∧ fX5_undoes τ a1 a2 = some (r, τ') ∧ eu_Rel σ' τ' := by
  rintro σ τ a1 a2 ⟨L, tx, U, pe, th, S, sd, si, h⟩
  have hU12 := h.U12
  have b3 := h.2.2.2.2.2.2.2.1
  unfold fX4_undoes
  rcases z_below2 a1 6 (by omega) with ⟨e, -⟩ | ⟨p, hp, ep, e⟩
  · refine ⟨-2, σ, τ, by rw [show (6 : Int32) = nI 6 from rfl, if_pos e], ?_, L, tx, U, pe, th, S, sd, si, h⟩
    unfold fX5_undoes
    rw [z_i5, show (6 : Int32) = nI 6 from rfl, if_pos e]
  · rcases z_below2 a2 24 (by omega) with ⟨e', -⟩ | ⟨t, ht, et, e'⟩
    · refine ⟨-2, σ, τ, by rw [show (6 : Int32) = nI 6 from rfl, show (24 : Int32) = nI 24 from rfl, e, if_neg (show ¬ (1 : Int32) = 0 by decide), if_pos e'], ?_, L, tx, U, pe, th, S, sd, si, h⟩
      unfold fX5_undoes
      rw [z_i5, z_i23, show (6 : Int32) = nI 6 from rfl, show (24 : Int32) = nI 24 from rfl, e, if_neg (show ¬ (1 : Int32) = 0 by decide), if_pos e']
    · by_cases hU : U < 12
      · obtain ⟨σ', τ', g1, g2, g3, g4⟩ := h.tell hU hp ht
        refine ⟨_, σ', τ', ?_, by rw [ep, et]; exact g3, L, tx, _, _, _, S, sd, si, g4⟩
        rw [show (6 : Int32) = nI 6 from rfl, show (24 : Int32) = nI 24 from rfl, e, e', if_neg (show ¬ (1 : Int32) = 0 by decide), if_neg (show ¬ (1 : Int32) = 0 by decide), ep, et, g1, eu_b2_t, if_neg (show ¬ (1 : Int32) = 0 by decide), g2]
      · refine ⟨-4, σ, τ, ?_, ?_, L, tx, U, pe, th, S, sd, si, h⟩
        · rw [show (6 : Int32) = nI 6 from rfl, show (24 : Int32) = nI 24 from rfl, e, e', if_neg (show ¬ (1 : Int32) = 0 by decide), if_neg (show ¬ (1 : Int32) = 0 by decide), d_tellF h.Ud hU, eu_b2_t, if_pos rfl]
        · unfold fX5_undoes
          rw [z_i5, z_i23, show (6 : Int32) = nI 6 from rfl, show (24 : Int32) = nI 24 from rfl, e, e', if_neg (show ¬ (1 : Int32) = 0 by decide), if_neg (show ¬ (1 : Int32) = 0 by decide), b3, show (12 : Int32) = nI 12 from rfl, if_pos (show nI U = nI 12 by rw [show U = 12 by omega])]
theorem sim_undo : ∀ (σ τ : eu_T), eu_Rel σ τ → ∃ (r : Int32) (σ' τ' : eu_T), fX4_undo σ = some (r, σ') ∧ fX5_undo τ = some (r, τ') ∧ eu_Rel σ' τ' := by
  rintro σ τ ⟨L, tx, U, pe, th, S, sd, si, h⟩
  have hU12 := h.U12
  have h0 := h
  obtain ⟨a1, a2, a3, a4, a5, b1, b2, b3, b4, c1, c2, c3⟩ := h0
  unfold fX4_undo fX5_undo
  rw [a4.2.1, b3]
  by_cases hU : U = 0
  · rw [if_pos (show nI U = 0 by rw [hU]; rfl), if_pos (show nI U = 0 by rw [hU]; rfl)]
    exact ⟨_, σ, τ, rfl, rfl, L, tx, U, pe, th, S, sd, si, h⟩
  · rw [if_neg (show ¬ nI U = 0 from eq_n (b := 0) hU (by omega) (by omega)), if_neg (show ¬ nI U = 0 from eq_n (b := 0) hU (by omega) (by omega)), show (1 : Int32) = nI 1 from rfl, z_sub (by omega), z_lt_i, z_lt_i, up_s, up_s]
    refine ⟨_, _, _, rfl, rfl, L, tx, U - 1, pe, th, S, sd, si, a1.c (by rw [eu_up_n (by decide)]) (eu_up_n (by decide)), a2.c (by rw [eu_up_n (by decide)]) (by rw [eu_up_n (by decide)]) (eu_up_n (by decide)) (eu_up_n (by decide)), by rw [eu_up_n (by decide)]; exact a3, ⟨by omega, up_s _ _ _ _, fun i hi => ?_⟩, a5.c (by rw [eu_up_n (by decide)]) (by rw [eu_up_n (by decide)]) (by rw [eu_up_n (by decide)]), b1.c (up_i _ _ (by decide)) (eu_up_n (by decide)), (b2.le (by omega)).c (eu_up_n (by decide)), up_s _ _ _ _, b4.c (up_i _ _ (by decide)) (eu_up_n (by decide)), c1.c (fun p hp => eu_up_n (by omega)) (eu_up_n (by decide)), c2.c (fun k h1 h2 => eu_up_n (by omega)) (eu_up_n (by decide)) (eu_up_n (by decide)) (eu_up_n (by decide)), by rw [eu_up_n (by decide), up_i _ _ (by decide)]; exact c3⟩
    rw [eu_up_n (by decide), eu_up_n (by decide)]
    exact a4.2.2 i (by omega)
theorem sim_worth : ∀ (σ τ : eu_T) (a1 a2 a3 : Int32), eu_Rel σ τ → ∃ (r : Int32) (σ' τ' : eu_T), fX4_worth σ a1 a2 a3 = some (r, σ') ∧ fX5_worth τ a1 a2 a3 = some (r, τ') ∧ eu_Rel σ' τ' := by
  rintro σ τ x1 x2 x3 ⟨L, tx, U, pe, th, S, sd, si, h⟩
  have h0 := h
  obtain ⟨a1, a2, a3, a4, a5, b1, b2, b3, b4, c1, c2, c3⟩ := h0
  unfold fX4_worth fX5_worth
  rw [z_i5, z_i11, z_inE, z_w]
  by_cases q1 : fX4_isBelow x1 (6 : Int32) = 0
  · rw [if_pos q1, if_pos q1]
    exact ⟨_, σ, τ, rfl, rfl, L, tx, U, pe, th, S, sd, si, h⟩
  rcases z_below2 x1 6 (by omega) with ⟨e, -⟩ | ⟨p, hp, ep, -⟩
  · exact absurd e q1
  rw [if_neg q1, if_neg q1]
  by_cases q2 : fX4_isBelow x2 (12 : Int32) = 0
  · rw [if_pos q2, if_pos q2]
    exact ⟨_, σ, τ, rfl, rfl, L, tx, U, pe, th, S, sd, si, h⟩
  rcases z_below2 x2 12 (by omega) with ⟨e, -⟩ | ⟨d, hd, ed, -⟩
  · exact absurd e q2
  rw [if_neg q2, if_neg q2]
  have v1 : x3 < (-9 : Int32) ↔ x3.toInt < -9 := by rw [Int32.lt_iff_toInt_lt, show (-9 : Int32).toInt = -9 by decide]
  have v2 : x3 ≤ (9 : Int32) ↔ x3.toInt ≤ 9 := by rw [Int32.le_iff_toInt_le, show (9 : Int32).toInt = 9 by decide]
  have v3 : ((-9 : Int64).toInt ≤ x3.toInt ∧ x3.toInt ≤ (9 : Int64).toInt) ↔ (-9 ≤ x3.toInt ∧ x3.toInt ≤ 9) := by rw [show (-9 : Int64).toInt = -9 by decide, show (9 : Int64).toInt = 9 by decide]
  by_cases q3 : -9 ≤ x3.toInt ∧ x3.toInt ≤ 9
  · rw [if_neg (show ¬ x3 < (-9 : Int32) by rw [v1]; omega), if_pos (v2.mpr q3.2), if_pos (v3.mpr q3), if_neg (show ¬ (1 : Int32) = 0 by decide), ep, ed, z_n12, nI_add, z_gd (by omega) hp, z_gd (by omega) hd, z_gd (by omega) hp, z_gd (by omega) hd, z_gd (by omega) (by omega), z_gd (by omega) (by omega), z_lt_i, z_lt_i, z_cl (by omega), z_cl (by omega), z_cl (by omega), c1 p hp d hd]
    refine ⟨_, _, _, rfl, rfl, L, tx, U, pe, th, S, sd, si, a1.c (by rw [eu_up_n (by omega)]) (eu_up_n (by omega)), a2.c (by rw [eu_up_n (by omega)]) (by rw [eu_up_n (by omega)]) (eu_up_n (by omega)) (eu_up_n (by omega)), by rw [eu_up_n (by omega)]; exact a3, a4.c (by rw [eu_up_n (by omega)]) (eu_up_n (by omega)) (eu_up_n (by omega)), a5.c (by rw [eu_up_n (by omega)]) (by rw [eu_up_n (by omega)]) (by rw [eu_up_n (by omega)]), b1.c (by rw [eu_up_n (by decide)]) (eu_up_n (by decide)), b2.c (eu_up_n (by decide)), by rw [eu_up_n (by decide)]; exact b3, b4.c (by rw [eu_up_n (by decide)]) (eu_up_n (by decide)), fun p' hp' d' hd' => ?_, c2.c (fun k h1 h2 => eu_up_n (by omega)) (eu_up_n (by decide)) (eu_up_n (by decide)) (eu_up_n (by decide)), by rw [eu_up_n (by omega), eu_up_n (by decide)]; exact c3⟩
    rw [eu_up_r, eu_up_r, if_pos rfl]
    by_cases w : p' = p
    · rw [if_pos (show 19 + p' = 19 + p by omega)]
      by_cases w2 : d' = d
      · rw [if_pos w2, if_pos (show 12 * p' + d' = 12 * p + d by omega)]
      · rw [if_neg w2, if_neg (show ¬ 12 * p' + d' = 12 * p + d by omega), ← w]
        exact c1 p' hp' d' hd'
    · rw [if_neg (show ¬ 19 + p' = 19 + p by omega), if_neg (show ¬ 12 * p' + d' = 12 * p + d by omega)]
      exact c1 p' hp' d' hd'
  · rw [if_neg (fun q => q3 (v3.mp q)), if_pos (show (0 : Int32) = 0 from rfl)]
    by_cases w : x3.toInt < -9
    · rw [if_pos (v1.mpr w)]
      exact ⟨_, σ, τ, rfl, rfl, L, tx, U, pe, th, S, sd, si, h⟩
    · rw [if_neg (show ¬ x3 < (-9 : Int32) by rw [v1]; exact w), if_neg (show ¬ x3 ≤ (9 : Int32) by rw [v2]; omega)]
      exact ⟨_, σ, τ, rfl, rfl, L, tx, U, pe, th, S, sd, si, h⟩
theorem sim_forget : ∀ (σ τ : eu_T), eu_Rel σ τ → ∃ (r : Int32) (σ' τ' : eu_T), fX4_forget σ = some (r, σ') ∧ fX5_forget τ = some (r, τ') ∧ eu_Rel σ' τ' := by
  rintro σ τ ⟨L, tx, U, pe, th, S, sd, si, a1, a2, a3, a4, a5, b1, b2, b3, b4, c1, c2, c3⟩
  unfold fX4_forget fX5_forget
  rw [z_lt_i, z_lt_i, z_lt_i, z_lt_i, a5.2.1, b4.1]
  refine ⟨_, _, _, rfl, rfl, L, tx, U, pe, th, 0, sd, si, a1.c (by rw [eu_up_n (by decide), eu_up_n (by decide), eu_up_n (by decide)]) (by rw [eu_up_n (by decide), eu_up_n (by decide), eu_up_n (by decide)]), a2.c (by rw [eu_up_n (by decide), eu_up_n (by decide), eu_up_n (by decide)]) (by rw [eu_up_n (by decide), eu_up_n (by decide), eu_up_n (by decide)]) (by rw [eu_up_n (by decide), eu_up_n (by decide), eu_up_n (by decide)]) (by rw [eu_up_n (by decide), eu_up_n (by decide), eu_up_n (by decide)]), by rw [eu_up_n (by decide), eu_up_n (by decide), eu_up_n (by decide)]; exact a3, a4.c (by rw [eu_up_n (by decide), eu_up_n (by decide), eu_up_n (by decide)]) (by rw [eu_up_n (by decide), eu_up_n (by decide), eu_up_n (by decide)]) (by rw [eu_up_n (by decide), eu_up_n (by decide), eu_up_n (by decide)]), ⟨by omega, by rw [up_i _ _ (by decide), up_i _ _ (by decide), up_s]; rfl, fun f hf => absurd hf (Nat.not_lt_zero f), fun d hd => ?_, fun d hd => ?_⟩, b1.c (up_i _ _ (by decide)) (eu_up_n (by decide)), b2.c (eu_up_n (by decide)), by rw [up_i _ _ (by decide)]; exact b3, ⟨up_s _ _ _ _, fun f hf => absurd hf (Nat.not_lt_zero f)⟩, c1.c (fun p hp => by rw [eu_up_n (by omega), eu_up_n (by omega), eu_up_n (by omega)]) (eu_up_n (by decide)), c2.c (fun k h1 h2 => by rw [eu_up_n (by omega), eu_up_n (by omega), eu_up_n (by omega)]) (eu_up_n (by decide)) (eu_up_n (by decide)) (eu_up_n (by decide)), by rw [up_i _ _ (by decide), up_i _ _ (by decide), up_i _ _ (by decide), up_i _ _ (by decide)]; exact c3⟩
  · rw [up_i _ _ (by decide), up_s, b_0]
    exact ⟨fun q => absurd q (by decide), fun ⟨f, hf, _⟩ => absurd hf (Nat.not_lt_zero f)⟩
  · rw [up_s, b_0]
    exact ⟨fun q => absurd q (by decide), fun ⟨f, hf, _⟩ => absurd hf (Nat.not_lt_zero f)⟩
theorem z_seen1 {S : Nat} {sd si : Nat → Nat} {m : Int32} {x d w : Nat} (hd : d < 12) {is : Nat} (hx : x < 32) (h : bt m x = true ↔ ∃ f, f < S ∧ sd f = x ∧ si f = w) : bt (if is = w then m ||| ((1 : Int32) <<< (nI d &&& 31)) else m) x = true ↔ ∃ f, f < S + 1 ∧ nup sd S d f = x ∧ nup si S is f = w := by
  unfold nup
  constructor
  · intro q
    have q2 : bt m x = true ∨ (is = w ∧ x = d) := by
      by_cases c : is = w
      · rw [if_pos c, z_or1 (by omega) hx] at q
        cases hb : bt m x
        · rw [hb] at q
          exact Or.inr ⟨c, by simpa using q⟩
        · exact Or.inl rfl
      · rw [if_neg c] at q
        exact Or.inl q
    rcases q2 with q2 | ⟨c, q2⟩
    · obtain ⟨f, h1, h2, h3⟩ := h.mp q2
      exact ⟨f, by omega, by rw [if_neg (show ¬ f = S by omega)]; exact h2, by rw [if_neg (show ¬ f = S by omega)]; exact h3⟩
    · exact ⟨S, by omega, by rw [if_pos rfl]; exact q2.symm, by rw [if_pos rfl]; exact c⟩
  · rintro ⟨f, h1, h2, h3⟩
    have q2 : bt m x = true ∨ (is = w ∧ x = d) := by
      by_cases c : f = S
      · rw [if_pos c] at h2 h3
        exact Or.inr ⟨h3, h2.symm⟩
      · rw [if_neg c] at h2 h3
        exact Or.inl (h.mpr ⟨f, by omega, h2, h3⟩)
    by_cases c : is = w
    · rw [if_pos c, z_or1 (by omega) hx]
      rcases q2 with q2 | ⟨-, q2⟩
      · rw [q2]; rfl
      · simp [q2]
    · rw [if_neg c]
      rcases q2 with q2 | ⟨q, -⟩
      · exact q2
      · exact absurd q c
theorem sim_seen : ∀ (σ τ : eu_T) (a1 a2 : Int32), eu_Rel σ τ → ∃ (r : Int32) (σ' τ' : eu_T), fX4_seen σ a1 a2 = some (r, σ') ∧ fX5_seen τ a1 a2 = some (r, τ') ∧ eu_Rel σ' τ' := by
  rintro σ τ x1 x2 ⟨L, tx, U, pe, th, S, sd, si, h⟩
  have h0 := h
  obtain ⟨a1, a2, a3, a4, a5, b1, b2, b3, b4, c1, c2, c3⟩ := h0
  have hS := a5.1
  unfold fX4_seen fX5_seen fX4_seen_J64
  rw [z_i11, z_i1]
  by_cases q1 : fX4_isBelow x1 (12 : Int32) = 0
  · rw [if_pos q1, if_pos q1]
    exact ⟨_, σ, τ, rfl, rfl, L, tx, U, pe, th, S, sd, si, h⟩
  rcases z_below2 x1 12 (by omega) with ⟨e, -⟩ | ⟨d, hd, ed, -⟩
  · exact absurd e q1
  rw [if_neg q1, if_neg q1]
  by_cases q2 : fX4_isBelow x2 (2 : Int32) = 0
  · rw [if_pos q2, if_pos q2]
    exact ⟨_, σ, τ, rfl, rfl, L, tx, U, pe, th, S, sd, si, h⟩
  rcases z_below2 x2 2 (by omega) with ⟨e, -⟩ | ⟨is, his, eis, -⟩
  · exact absurd e q2
  rw [if_neg q2, if_neg q2, a5.2.1, b4.1, show (8 : Int32) = nI 8 from rfl]
  by_cases q3 : S < 8
  · rw [if_pos (lt_p q3 (by omega)), if_neg (eq_n (show ¬ S = 8 by omega) (by omega) (by omega)), ed, eis, z_n2, z_gd (by omega) (by omega), z_cl (by omega)]
    simp only [z_lt_i]
    rw [eu_up_n (k := 36) (by decide), eu_up_n (k := 36) (by decide), eu_up_n (k := 36) (by decide), b4.1, z_n2, z_p1, z_gd (by omega) (by omega), z_cl (by omega), z_p1]
    have key : ∀ (σ' : eu_T), (∀ k, k ≠ 0 → σ' k = σ k) → σ' 0 4 = nI (S + 1) → σ' 0 5 = (if is = 1 then σ 0 5 ||| ((1 : Int32) <<< (nI d &&& 31)) else σ 0 5) → σ' 0 6 = (if is = 0 then σ 0 6 ||| ((1 : Int32) <<< (nI d &&& 31)) else σ 0 6) → σ' 0 7 = σ 0 7 → zR L tx U pe th (S + 1) (nup sd S d) (nup si S is) σ' (eu_up (eu_up (eu_up τ 36 (2 * S) (nI d)) 36 (2 * S + 1) (nI is)) 25 20 (nI (S + 1))) := by
      intro σ' f1 f2 f3 f4 f5
      refine ⟨a1.c (by rw [f1 3 (by decide)]) (f1 6 (by decide)), a2.c (by rw [f1 3 (by decide)]) (by rw [f1 3 (by decide)]) (f1 7 (by decide)) (f1 8 (by decide)), by rw [f1 3 (by decide)]; exact a3, a4.c (by rw [f1 2 (by decide)]) (f1 9 (by decide)) (f1 10 (by decide)), ⟨by omega, f2, fun f hf => ?_, fun x hx => ?_, fun x hx => ?_⟩, b1.c (by rw [up_i _ _ (by decide), eu_up_n (by decide), eu_up_n (by decide)]) (by rw [eu_up_n (by decide), eu_up_n (by decide), eu_up_n (by decide)]), b2.c (by rw [eu_up_n (by decide), eu_up_n (by decide), eu_up_n (by decide)]), by rw [up_i _ _ (by decide), eu_up_n (by decide), eu_up_n (by decide)]; exact b3, ⟨up_s _ _ _ _, fun f hf => ?_⟩, c1.c (fun p hp => f1 _ (by omega)) (by rw [eu_up_n (by decide), eu_up_n (by decide), eu_up_n (by decide)]), c2.c (fun k h1 h2 => f1 _ (by omega)) (by rw [eu_up_n (by decide), eu_up_n (by decide), eu_up_n (by decide)]) (by rw [eu_up_n (by decide), eu_up_n (by decide), eu_up_n (by decide)]) (by rw [eu_up_n (by decide), eu_up_n (by decide), eu_up_n (by decide)]), by rw [f5, up_i _ _ (by decide), eu_up_n (by decide), eu_up_n (by decide)]; exact c3⟩
      · unfold nup
        by_cases c : f = S
        · rw [if_pos c, if_pos c]
          exact ⟨hd, his⟩
        · rw [if_neg c, if_neg c]
          exact a5.2.2.1 f (by omega)
      · rw [f3]
        exact z_seen1 hd hx (a5.2.2.2.1 x hx)
      · rw [f4]
        exact z_seen1 hd hx (a5.2.2.2.2 x hx)
      · rw [eu_up_n (by decide), eu_up_r, eu_up_r, eu_up_r, eu_up_r, if_pos rfl, if_pos rfl, if_pos rfl, if_pos rfl, if_neg (show ¬ 2 * f = 2 * S + 1 by omega), if_neg (show ¬ 2 * f + 1 = 2 * S by omega)]
        unfold nup
        by_cases c : f = S
        · rw [if_pos (show 2 * f = 2 * S by omega), if_pos (show 2 * f + 1 = 2 * S + 1 by omega), if_pos c, if_pos c]
          exact ⟨rfl, rfl⟩
        · rw [if_neg (show ¬ 2 * f = 2 * S by omega), if_neg (show ¬ 2 * f + 1 = 2 * S + 1 by omega), if_neg c, if_neg c]
          exact b4.2 f (by omega)
    rcases (show is = 0 ∨ is = 1 by omega) with rfl | rfl
    · rw [if_neg (show ¬ nI 0 = (1 : Int32) by decide), up_i (k := 0) (i := 6) (i' := 4) _ _ (by decide), a5.2.1, z_p1, up_s, up_s]
      exact ⟨_, _, _, rfl, rfl, L, tx, U, pe, th, S + 1, _, _, key _ (fun k q => by rw [eu_up_n q, eu_up_n q]) (up_s _ _ _ _) (by rw [up_i _ _ (by decide), up_i _ _ (by decide)]; rfl) (by rw [up_i _ _ (by decide), up_s]; rfl) (by rw [up_i _ _ (by decide), up_i _ _ (by decide)])⟩
    · rw [if_pos (show nI 1 = (1 : Int32) from rfl), up_i (k := 0) (i := 5) (i' := 4) _ _ (by decide), a5.2.1, z_p1, up_s, up_s]
      exact ⟨_, _, _, rfl, rfl, L, tx, U, pe, th, S + 1, _, _, key _ (fun k q => by rw [eu_up_n q, eu_up_n q]) (up_s _ _ _ _) (by rw [up_i _ _ (by decide), up_s]; rfl) (by rw [up_i _ _ (by decide), up_i _ _ (by decide)]; rfl) (by rw [up_i _ _ (by decide), up_i _ _ (by decide)])⟩
  · rw [if_neg (lt_n q3 (by omega)), if_pos (show nI S = nI 8 by rw [show S = 8 by omega])]
    exact ⟨_, σ, τ, rfl, rfl, L, tx, U, pe, th, S, sd, si, h⟩
theorem rel_0 : eu_Rel eu_s0 eu_t0 := by
  refine ⟨0, fun _ => 0, 0, fun _ => 0, fun _ => 0, 0, fun _ => 0, fun _ => 0, ⟨by omega, rfl, fun i hi => absurd hi (Nat.not_lt_zero i)⟩, ⟨by decide, rfl, fun i hi => absurd hi (Nat.not_lt_zero i), rfl⟩, rfl, ⟨by omega, rfl, fun i hi => absurd hi (Nat.not_lt_zero i)⟩, ⟨by omega, rfl, fun i hi => absurd hi (Nat.not_lt_zero i), fun d hd => ⟨fun q => absurd (show bt 0 d = true from q) (by rw [b_0]; decide), fun ⟨f, hf, _⟩ => absurd hf (Nat.not_lt_zero f)⟩, fun d hd => ⟨fun q => absurd (show bt 0 d = true from q) (by rw [b_0]; decide), fun ⟨f, hf, _⟩ => absurd hf (Nat.not_lt_zero f)⟩⟩, ⟨by omega, rfl, fun i hi => absurd hi (Nat.not_lt_zero i)⟩, ⟨by omega, fun i hi => absurd hi (Nat.not_lt_zero i)⟩, rfl, ⟨rfl, fun i hi => absurd hi (Nat.not_lt_zero i)⟩, fun p hp d hd => ?_, fun s hs => ?_, rfl⟩
  · rcases (show p = 0 ∨ p = 1 ∨ p = 2 ∨ p = 3 ∨ p = 4 ∨ p = 5 by omega) with rfl | rfl | rfl | rfl | rfl | rfl <;> rfl
  · rcases (show s = 0 ∨ s = 1 ∨ s = 2 ∨ s = 3 by omega) with rfl | rfl | rfl | rfl <;> exact ⟨Or.inl ⟨rfl, rfl⟩, 0, by omega, rfl, rfl, fun i hi => absurd hi (Nat.not_lt_zero i)⟩
