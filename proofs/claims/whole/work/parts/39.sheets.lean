/-! ===== sheets ===== -/
section SHT
variable {L : Nat} {tx : Nat → Nat} {U : Nat} {pe th : Nat → Nat} {S : Nat} {sd si : Nat → Nat} {σ τ σ' τ' : eu_T}
theorem zR.sheets (h : zR L tx U pe th S sd si σ τ) (e : ∀ k, k < 11 ∨ 19 ≤ k → σ' k = σ k) (e' : ∀ k, k ≠ 26 → k ≠ 27 → k ≠ 28 → k ≠ 29 → τ' k = τ k) (hS : zSh σ' τ') : zR L tx U pe th S sd si σ' τ' := by
  obtain ⟨a1, a2, a3, a4, a5, b1, b2, b3, b4, c1, c2, c3⟩ := h
  have e3 := e 3 (by omega)
  have e0 := e 0 (by omega)
  have e2 := e 2 (by omega)
  have e25 := e' 25 (by decide) (by decide) (by decide) (by decide)
  exact ⟨a1.c (by rw [e3]) (e 6 (by omega)), a2.c (by rw [e3]) (by rw [e3]) (e 7 (by omega)) (e 8 (by omega)), by rw [e3]; exact a3, a4.c (by rw [e2]) (e 9 (by omega)) (e 10 (by omega)), a5.c (by rw [e0]) (by rw [e0]) (by rw [e0]), b1.c (by rw [e25]) (e' 30 (by decide) (by decide) (by decide) (by decide)), b2.c (e' 32 (by decide) (by decide) (by decide) (by decide)), by rw [e25]; exact b3, b4.c (by rw [e25]) (e' 36 (by decide) (by decide) (by decide) (by decide)), c1.c (fun p hp => e _ (by omega)) (e' 33 (by decide) (by decide) (by decide) (by decide)), hS, by rw [e0, e25]; exact c3⟩
theorem zR.Sh (h : zR L tx U pe th S sd si σ τ) : zSh σ τ := h.2.2.2.2.2.2.2.2.2.2.1
end SHT
theorem d_begin_L {k : Nat} : ∀ (m i n : Nat) (σ : eu_T), i + m = 60 → m < n → ∃ σ', fX2_begin_L17 n σ k (nI i) = some (0, σ') ∧ (∀ k', k' ≠ k + 4 → σ' k' = σ k') ∧ ∀ j, j < 60 → σ' (k + 4) j = (if i ≤ j then 0 else σ (k + 4) j)
  | 0, i, 0, σ, _, hn => by omega
  | m + 1, i, 0, σ, _, hn => by omega
  | 0, i, n + 1, σ, hi, _ => by
    refine ⟨σ, by rw [fX2_begin_L17_s, show (60 : Int32) = nI 60 from rfl, if_pos (le_p (by omega) (by omega))], fun _ _ => rfl, fun j hj => by rw [if_neg (show ¬ i ≤ j by omega)]⟩
  | m + 1, i, n + 1, σ, hi, hn => by
    obtain ⟨σ', g1, g2, g3⟩ := d_begin_L (k := k) m (i + 1) n (eu_up σ (k + 4) i 0) (by omega) (by omega)
    refine ⟨σ', ?_, fun k' hk' => by rw [g2 k' hk', eu_up_n hk'], fun j hj => ?_⟩
    · rw [fX2_begin_L17_s, show (60 : Int32) = nI 60 from rfl, if_neg (le_n (show ¬ 60 ≤ i by omega) (by omega)), z_gd (by omega) (by omega), z_cl (by omega), z_lt_i, z_p1]
      exact g1
    · rw [g3 j hj]
      by_cases c : i + 1 ≤ j
      · rw [if_pos c, if_pos (show i ≤ j by omega)]
      · rw [if_neg c, eu_up_r, if_pos rfl]
        by_cases c2 : j = i
        · rw [if_pos c2, if_pos (show i ≤ j by omega)]
        · rw [if_neg c2, if_neg (show ¬ i ≤ j by omega)]
theorem m_begin_L {s z : Nat} (hs : s < 4) (hz : z ≤ 60) : ∀ (m i n : Nat) (τ : eu_T), i + m = z → m < n → ∃ τ', fX5_sheet_L55 n τ (nI s) (nI z) (nI i) = some (nI z, τ') ∧ (∀ k', k' ≠ 28 → τ' k' = τ k') ∧ ∀ j, τ' 28 j = (if 60 * s + i ≤ j ∧ j < 60 * s + z then 0 else τ 28 j)
  | 0, i, 0, τ, _, hn => by omega
  | m + 1, i, 0, τ, _, hn => by omega
  | 0, i, n + 1, τ, hi, _ => by
    refine ⟨τ, by rw [fX5_sheet_L55_s, if_pos (le_p (by omega) (by omega))], fun _ _ => rfl, fun j => by rw [if_neg (show ¬ (60 * s + i ≤ j ∧ j < 60 * s + z) by omega)]⟩
  | m + 1, i, n + 1, τ, hi, hn => by
    obtain ⟨τ', g1, g2, g3⟩ := m_begin_L hs hz m (i + 1) n (eu_up τ 28 (60 * s + i) 0) (by omega) (by omega)
    refine ⟨τ', ?_, fun k' hk' => by rw [g2 k' hk', eu_up_n hk'], fun j => ?_⟩
    · rw [fX5_sheet_L55_s, if_neg (le_n (show ¬ z ≤ i by omega) (by omega)), z_n60, nI_add, z_gd (by omega) (by omega), z_cl (by omega), z_lt_i, z_p1]
      exact g1
    · rw [g3 j]
      by_cases c : 60 * s + (i + 1) ≤ j ∧ j < 60 * s + z
      · rw [if_pos c, if_pos (show 60 * s + i ≤ j ∧ j < 60 * s + z by omega)]
      · rw [if_neg c, eu_up_r, if_pos rfl]
        by_cases c2 : j = 60 * s + i
        · rw [if_pos c2, if_pos (show 60 * s + i ≤ j ∧ j < 60 * s + z by omega)]
        · rw [if_neg c2, if_neg (show ¬ (60 * s + i ≤ j ∧ j < 60 * s + z) by omega)]
theorem sim_sheet : ∀ (σ τ : eu_T) (a1 a2 a3 : Int32), eu_Rel σ τ → ∃ (r : Int32) (σ' τ' : eu_T), fX4_sheet σ a1 a2 a3 = some (r, σ') ∧ fX5_sheet τ a1 a2 a3 = some (r, τ') ∧ eu_Rel σ' τ' := by
  rintro σ τ x1 x2 x3 ⟨L, tx, U, pe, th, S, sd, si, h⟩
  unfold fX4_sheet fX5_sheet
  rw [z_i3, z_i2]
  by_cases q1 : fX4_isBelow x1 (4 : Int32) = 0
  · rw [if_pos q1, if_pos q1]
    exact ⟨_, σ, τ, rfl, rfl, L, tx, U, pe, th, S, sd, si, h⟩
  rcases z_below2 x1 4 (by omega) with ⟨e, -⟩ | ⟨s, hs, es, -⟩
  · exact absurd e q1
  rw [if_neg q1, if_neg q1]
  by_cases q2 : fX4_isBelow x2 (3 : Int32) = 0
  · rw [if_pos q2, if_pos q2]
    exact ⟨_, σ, τ, rfl, rfl, L, tx, U, pe, th, S, sd, si, h⟩
  rcases z_below2 x2 3 (by omega) with ⟨e, -⟩ | ⟨fm, hfm, efm, -⟩
  · exact absurd e q2
  rw [if_neg q2, if_neg q2]
  by_cases q3 : x3 ≤ (60 : Int32)
  · rw [if_pos q3, if_pos q3]
    by_cases q4 : 0 ≤ x3
    · rw [if_pos q4, if_pos q4]
      obtain ⟨z, hz, ez⟩ : ∃ z, z ≤ 60 ∧ x3 = nI z := by
        rcases z_below2 x3 61 (by omega) with ⟨e, -⟩ | ⟨z, hz, ez, -⟩
        · exfalso
          unfold fX4_isBelow fX4_isBelow_J13 at e
          rw [if_neg (show ¬ x3 < 0 by rw [Int32.lt_iff_toInt_lt]; rw [Int32.le_iff_toInt_le] at q4; omega), if_neg (show ¬ nI 61 ≤ x3 by rw [Int32.le_iff_toInt_le, show (nI 61).toInt = 61 by decide]; rw [Int32.le_iff_toInt_le, show (60 : Int32).toInt = 60 by decide] at q3; omega)] at e
          exact absurd e (by decide)
        · exact ⟨z, by omega, ez⟩
      rw [es, efm, ez, z_gd (by omega) hs, z_gd (by omega) hs, z_cl (by omega), z_lt_i, z_gd (by omega) hs, z_lt_i]
      obtain ⟨σ', g1, g2, g3⟩ := d_begin_L (k := 11 + s) 60 0 200 (eu_up (eu_up (eu_up σ (11 + s) 1 0) (11 + s) 2 (nI fm)) (11 + s) 3 (nI z)) (by omega) (by omega)
      obtain ⟨τ', f1, f2, f3⟩ := m_begin_L hs hz z 0 200 (eu_up (eu_up τ 26 s (nI fm)) 27 s (nI z)) (by omega) (by omega)
      rw [nI_0] at g1 f1
      refine ⟨nI z, σ', τ', ?_, f1, L, tx, U, pe, th, S, sd, si, h.sheets (fun k q => ?_) (fun k q1 q2 q3 q4 => by rw [f2 k q3, eu_up_n q2, eu_up_n q1]) (fun s' hs' => ?_)⟩
      · unfold fX2_begin
        rw [z_lt_i, z_lt_i, z_lt_i, g1, eu_b2_t]
      · rw [g2 k (by omega), eu_up_n (by omega), eu_up_n (by omega), eu_up_n (by omega)]
      · rw [g2 (11 + s') (by omega), f2 26 (by decide), f2 27 (by decide), eu_up_n (k := 27) (k' := 26) (by decide), eu_up_r _ 26, eu_up_r _ 27, if_pos rfl, if_pos rfl, eu_up_n (k := 26) (k' := 27) (by decide)]
        by_cases c : s' = s
        · rw [c, if_pos rfl, if_pos rfl]
          refine ⟨Or.inr ⟨?_, fm, hfm, ?_, rfl⟩, z, hz, up_s _ _ _ _, rfl, fun i hi => ?_⟩
          · rw [up_i _ _ (by decide), up_i _ _ (by decide), up_s]
          · rw [up_i _ _ (by decide), up_s]
          · rw [show 15 + s = 11 + s + 4 by omega, g3 i (by omega), f3, if_pos (show 0 ≤ i by omega), if_pos (by omega)]
        · rw [if_neg c, if_neg c, eu_up_n (show 11 + s' ≠ 11 + s by omega), eu_up_n (show 11 + s' ≠ 11 + s by omega), eu_up_n (show 11 + s' ≠ 11 + s by omega)]
          obtain ⟨w1, z', hz', w2, w3, w4⟩ := h.Sh s' hs'
          refine ⟨w1, z', hz', w2, w3, fun i hi => ?_⟩
          rw [g2 (15 + s') (by omega), f3, if_neg (show ¬ (60 * s + 0 ≤ 60 * s' + i ∧ 60 * s' + i < 60 * s + z) by omega), eu_up_n (by omega), eu_up_n (by omega), eu_up_n (by omega), eu_up_n (by decide), eu_up_n (by decide)]
          exact w4 i hi
    · rw [if_neg q4, if_neg q4]
      unfold fX4_found fX5_met
      rw [z_lt_i, z_lt_i, eu_b2_t, eu_b2_t]
      exact ⟨_, _, _, rfl, rfl, L, tx, U, pe, th, S, sd, si, h.met _⟩
  · rw [if_neg q3, if_neg q3]
    exact ⟨_, σ, τ, rfl, rfl, L, tx, U, pe, th, S, sd, si, h⟩
theorem z_lost {n : Nat} (h : n < 1000) : (0 : Int32) ≤ nI n := le_p (a := 0) (by omega) h
theorem sim_lose : ∀ (σ τ : eu_T) (a1 : Int32), eu_Rel σ τ → ∃ (r : Int32) (σ' τ' : eu_T), fX4_lose σ a1 = some (r, σ') ∧ fX5_lose τ a1 = some (r, τ') ∧ eu_Rel σ' τ' := by
  rintro σ τ x1 ⟨L, tx, U, pe, th, S, sd, si, h⟩
  unfold fX4_lose fX5_lose
  rw [z_i3]
  by_cases q1 : fX4_isBelow x1 (4 : Int32) = 0
  · rw [if_pos q1, if_pos q1]
    exact ⟨_, σ, τ, rfl, rfl, L, tx, U, pe, th, S, sd, si, h⟩
  rcases z_below2 x1 4 (by omega) with ⟨e, -⟩ | ⟨s, hs, es, -⟩
  · exact absurd e q1
  obtain ⟨w1, z, hz, w2, w3, w4⟩ := h.Sh s hs
  rw [if_neg q1, if_neg q1, es, z_gd (by omega) hs, z_gd (by omega) hs, z_cl (by omega)]
  rcases w1 with ⟨v1, v2⟩ | ⟨v1, fm, hfm, v2, v3⟩
  · rw [v1, v2, if_neg (show ¬ (1 : Int32) = 0 by decide), if_neg (show ¬ (0 : Int32) ≤ -1 by decide)]
    unfold fX4_found fX5_met
    rw [z_lt_i, z_lt_i, eu_b2_t, eu_b2_t]
    exact ⟨_, _, _, rfl, rfl, L, tx, U, pe, th, S, sd, si, h.met _⟩
  · rw [v1, v3, if_pos (show (0 : Int32) = 0 from rfl), if_pos (z_lost (by omega)), z_lt_i, z_gd (by omega) hs, z_lt_i, z_gd (by omega) hs, up_i _ _ (by decide), w2, eu_up_n (by decide), w3]
    refine ⟨_, _, _, rfl, rfl, L, tx, U, pe, th, S, sd, si, h.sheets (fun k q => eu_up_n (by omega)) (fun k q1 q2 q3 q4 => eu_up_n q1) (fun s' hs' => ?_)⟩
    rw [eu_up_n (k := 26) (k' := 27) (by decide), eu_up_n (k := 26) (k' := 28) (by decide), eu_up_r _ 26, if_pos rfl, eu_up_n (show 15 + s' ≠ 11 + s by omega)]
    obtain ⟨u1, z', hz', u2, u3, u4⟩ := h.Sh s' hs'
    by_cases c : s' = s
    · subst c
      rw [if_pos rfl, up_s, up_i (i' := 3) _ _ (by decide)]
      exact ⟨Or.inl ⟨rfl, rfl⟩, z', hz', u2, u3, u4⟩
    · rw [if_neg c, eu_up_n (show 11 + s' ≠ 11 + s by omega)]
      exact ⟨u1, z', hz', u2, u3, u4⟩
theorem z_lacks {σ τ : eu_T} (h : zSh σ τ) {s : Nat} (hs : s < 4) (a2 a3 : Int32) : (∃ i z fm, i < z ∧ z ≤ 60 ∧ fm < 3 ∧ a3 = nI i ∧ a2 = nI fm ∧ σ (11 + s) 2 = nI fm ∧ τ 26 s = nI fm ∧ σ (11 + s) 3 = nI z ∧ fX2_findingAt σ (11 + s) a2 a3 = 0 ∧ fX5_lacks τ (nI s) a2 a3 = some (0, τ) ∧ σ (15 + s) i = τ 28 (60 * s + i)) ∨ ∃ x, ¬ x = 0 ∧ ¬ (-10 : Int32) - x = 0 ∧ fX2_findingAt σ (11 + s) a2 a3 = x ∧ fX5_lacks τ (nI s) a2 a3 = some (-10 - x, eu_up τ 25 4 x) := by
  obtain ⟨w1, z, hz, w2, w3, w4⟩ := h s hs
  unfold fX2_findingAt fX5_lacks fX5_met
  rw [z_gd (by omega) hs, z_cl (by omega)]
  rcases w1 with ⟨v1, v2⟩ | ⟨v1, fm, hfm, v2, v3⟩
  · rw [v1, v2, if_neg (show ¬ (1 : Int32) = 0 by decide), if_neg (show ¬ (0 : Int32) ≤ -1 by decide), z_lt_i, eu_b2_t]
    exact Or.inr ⟨1, by decide, by decide, rfl, rfl⟩
  · rw [v1, v3, if_pos (show (0 : Int32) = 0 from rfl), if_pos (z_lost (by omega)), z_gd (by omega) hs, v2]
    by_cases c : a2 = nI fm
    · rw [if_pos c, if_pos c.symm, z_gd (by omega) hs, w3, z_iD a3 z (by omega), w2]
      rcases z_below2 a3 z (by omega) with ⟨e, -⟩ | ⟨i, hi, ei, e⟩
      · rw [e, if_pos rfl, if_pos rfl, z_lt_i, eu_b2_t]
        exact Or.inr ⟨2, by decide, by decide, rfl, rfl⟩
      · rw [e, if_neg (show ¬ (1 : Int32) = 0 by decide), if_neg (show ¬ (1 : Int32) = 0 by decide)]
        exact Or.inl ⟨i, z, fm, hi, hz, hfm, ei, c, rfl, rfl, rfl, rfl, rfl, w4 i hi⟩
    · rw [if_neg c, if_neg (fun q => c q.symm), z_lt_i, eu_b2_t]
      exact Or.inr ⟨3, by decide, by decide, rfl, rfl⟩
theorem d_put {σ : eu_T} {k i z fm : Nat} (hi : i < z) (hz : z ≤ 60) (hfm : fm < 3) (e2 : σ k 2 = nI fm) (e3 : σ k 3 = nI z) (v : Int32) : fX2_put σ k (nI i) v = some (0, eu_up σ (k + 4) i (fX5_cut (nI fm) v)) := by
  unfold fX2_put fX5_cut
  rw [e2, e3, z_below (by omega) (by omega), if_pos hi, if_neg (show ¬ (1 : Int32) = 0 by decide), z_gd (by omega) (by omega), z_gd (by omega) (by omega), z_gd (by omega) (by omega), z_cl (by omega), z_lt_i, z_lt_i, z_lt_i]
  rcases (show fm = 0 ∨ fm = 1 ∨ fm = 2 by omega) with rfl | rfl | rfl
  · rw [if_pos (show nI 0 = 0 from rfl), if_pos (show nI 0 = 0 from rfl)]
  · rw [if_neg (show ¬ nI 1 = 0 by decide), if_neg (show ¬ nI 1 = 0 by decide), if_pos (show nI 1 = 1 from rfl), if_pos (show nI 1 = 1 from rfl)]
  · rw [if_neg (show ¬ nI 2 = 0 by decide), if_neg (show ¬ nI 2 = 0 by decide), if_neg (show ¬ nI 2 = 1 by decide), if_neg (show ¬ nI 2 = 1 by decide)]
theorem zSh.put {σ τ : eu_T} (h : zSh σ τ) {s i : Nat} (hs : s < 4) (hi : i < 60) (v : Int32) : zSh (eu_up σ (15 + s) i v) (eu_up τ 28 (60 * s + i) v) := fun s' hs' => by
  obtain ⟨u1, z', hz', u2, u3, u4⟩ := h s' hs'
  rw [eu_up_n (show 11 + s' ≠ 15 + s by omega), eu_up_n (show 26 ≠ 28 by decide), eu_up_n (show 27 ≠ 28 by decide)]
  refine ⟨u1, z', hz', u2, u3, fun j hj => ?_⟩
  rw [eu_up_r, eu_up_r, if_pos rfl]
  by_cases c : s' = s
  · rw [if_pos (show 15 + s' = 15 + s by omega)]
    by_cases c2 : j = i
    · rw [if_pos c2, if_pos (show 60 * s' + j = 60 * s + i by omega)]
    · rw [if_neg c2, if_neg (show ¬ 60 * s' + j = 60 * s + i by omega), ← c]
      exact u4 j hj
  · rw [if_neg (show ¬ 15 + s' = 15 + s by omega), if_neg (show ¬ 60 * s' + j = 60 * s + i by omega)]
    exact u4 j hj
theorem sim_lay : ∀ (σ τ : eu_T) (a1 a2 a3 a4 : Int32), eu_Rel σ τ → ∃ (r : Int32) (σ' τ' : eu_T), fX4_lay σ a1 a2 a3 a4 = some (r, σ') ∧ fX5_lay τ a1 a2 a3 a4 = some (r, τ') ∧ eu_Rel σ' τ' := by
  rintro σ τ x1 x2 x3 x4 ⟨L, tx, U, pe, th, S, sd, si, h⟩
  unfold fX4_lay fX5_lay
  rw [z_i3, z_i2]
  by_cases q1 : fX4_isBelow x1 (4 : Int32) = 0
  · rw [if_pos q1, if_pos q1]
    exact ⟨_, σ, τ, rfl, rfl, L, tx, U, pe, th, S, sd, si, h⟩
  rcases z_below2 x1 4 (by omega) with ⟨e, -⟩ | ⟨s, hs, es, -⟩
  · exact absurd e q1
  rw [if_neg q1, if_neg q1]
  by_cases q2 : fX4_isBelow x2 (3 : Int32) = 0
  · rw [if_pos q2, if_pos q2]
    exact ⟨_, σ, τ, rfl, rfl, L, tx, U, pe, th, S, sd, si, h⟩
  rw [if_neg q2, if_neg q2, es, z_gd (by omega) hs, z_gd (by omega) hs, z_cl (by omega)]
  rcases z_lacks h.Sh hs x2 x3 with ⟨i, z, fm, hi, hz, hfm, e3, e2, w2, w3, w4, g1, g2, -⟩ | ⟨x, hx, hx2, g1, g2⟩
  · rw [g1, g2, if_pos rfl, eu_b2_t, if_pos rfl, e3, d_put hi hz hfm w2 w4, eu_b2_t, z_n60, nI_add, z_gd (by omega) (by omega), z_cl (by omega), z_lt_i, e2, show 11 + s + 4 = 15 + s by omega]
    exact ⟨_, _, _, rfl, rfl, L, tx, U, pe, th, S, sd, si, h.sheets (fun k q => eu_up_n (by omega)) (fun k q1 q2 q3 q4 => eu_up_n q3) (h.Sh.put hs (by omega) _)⟩
  · rw [g1, g2, if_neg hx, eu_b2_t, if_neg hx2]
    unfold fX4_found
    rw [z_lt_i, eu_b2_t]
    exact ⟨_, _, _, rfl, rfl, L, tx, U, pe, th, S, sd, si, h.met _⟩
theorem sim_get : ∀ (σ τ : eu_T) (a1 a2 a3 : Int32), eu_Rel σ τ → ∃ (r : Int32) (σ' τ' : eu_T), fX4_get σ a1 a2 a3 = some (r, σ') ∧ fX5_get τ a1 a2 a3 = some (r, τ') ∧ eu_Rel σ' τ' := by
  rintro σ τ x1 x2 x3 ⟨L, tx, U, pe, th, S, sd, si, h⟩
  unfold fX4_get fX5_get
  rw [z_i3, z_i2]
  by_cases q1 : fX4_isBelow x1 (4 : Int32) = 0
  · rw [if_pos q1, if_pos q1]
    exact ⟨_, σ, τ, rfl, rfl, L, tx, U, pe, th, S, sd, si, h⟩
  rcases z_below2 x1 4 (by omega) with ⟨e, -⟩ | ⟨s, hs, es, -⟩
  · exact absurd e q1
  rw [if_neg q1, if_neg q1]
  by_cases q2 : fX4_isBelow x2 (3 : Int32) = 0
  · rw [if_pos q2, if_pos q2]
    exact ⟨_, σ, τ, rfl, rfl, L, tx, U, pe, th, S, sd, si, h⟩
  rw [if_neg q2, if_neg q2, es, z_gd (by omega) hs, z_gd (by omega) hs, z_cl (by omega)]
  rcases z_lacks h.Sh hs x2 x3 with ⟨i, z, fm, hi, hz, hfm, e3, e2, w2, w3, w4, g1, g2, g3⟩ | ⟨x, hx, hx2, g1, g2⟩
  · rw [g1, g2, if_pos rfl, eu_b2_t, if_pos rfl, e3, z_gd (by omega) (by omega), z_n60, nI_add, z_gd (by omega) (by omega), z_cl (by omega), z_cl (by omega), show 11 + s + 4 = 15 + s by omega, g3]
    exact ⟨_, _, _, rfl, rfl, L, tx, U, pe, th, S, sd, si, h⟩
  · rw [g1, g2, if_neg hx, eu_b2_t, if_neg hx2, z_lt_i]
    exact ⟨_, _, _, rfl, rfl, L, tx, U, pe, th, S, sd, si, h.met _⟩
theorem sim_read_L {L : Nat} {tx : Nat → Nat} {S : Nat} {sd si : Nat → Nat} {s : Nat} (hs : s < 4) : ∀ (m v n1 n2 : Nat) (U : Nat) (pe th : Nat → Nat) (σ τ : eu_T), 12 - U = m → m < n1 → m + 1 < n2 → v ≤ U → zR L tx U pe th S sd si σ τ → ∃ r σ' τ', fX4_read_L33 n1 σ (11 + s) (nI v) = some (r, σ') ∧ fX5_read_L29 n2 τ (nI s) (nI v) 1 = some (r, τ') ∧ eu_Rel σ' τ'
  | m, v, 0, _, U, pe, th, σ, τ, _, h1, _, _, _ => by omega
  | m, v, _, 0, U, pe, th, σ, τ, _, _, h1, _, _ => by omega
  | m, v, _, 1, U, pe, th, σ, τ, _, _, h1, _, _ => by omega
  | m, v, n1 + 1, n2 + 2, U, pe, th, σ, τ, hm, h1, h2, hv, h => by
    have hU12 := h.U12
    obtain ⟨w1, z, hz, w2, w3, w4⟩ := h.Sh s hs
    rw [fX4_read_L33_s, fX5_read_L29_s, if_neg (show ¬ (1 : Int32) = 0 by decide), z_gd (by omega) hs, z_cl (by omega), w2, w3, z_n2, z_p1, z_p2, z_n60, nI_add, z_p1, z_p1]
    by_cases c : z < 2 * v + 2
    · rw [if_pos (lt_p c (by omega))]
      by_cases c2 : 12 ≤ v
      · rw [show (12 : Int32) = nI 12 from rfl, if_pos (le_p c2 (by omega))]
        exact ⟨_, σ, τ, rfl, rfl, L, tx, U, pe, th, S, sd, si, h⟩
      · rw [show (12 : Int32) = nI 12 from rfl, if_neg (le_n c2 (by omega)), if_pos (le_p (show z ≤ 2 * v + 1 by omega) (by omega))]
        exact ⟨_, σ, τ, rfl, rfl, L, tx, U, pe, th, S, sd, si, h⟩
    · rw [if_neg (lt_n c (by omega)), z_gd (by omega) (by omega), z_gd (by omega) (by omega), z_gd (by omega) (by omega), z_gd (by omega) (by omega), z_cl (by omega), z_cl (by omega), z_cl (by omega), z_cl (by omega)]
      have stop : ∀ a b : Int32, (fX4_isBelow a (6 : Int32) = 0 ∨ fX4_isBelow b (24 : Int32) = 0 ∨ ¬ U < 12) → eu_b2 (fX5_undoes τ a b) (fun (r7 : Int32) (σ8 : eu_T) => if r7 < 0 then (fX5_read_J87 (fX5_read_L29 (n2 + 1)) σ8 (nI s) (nI v) (0 : Int32)) else (fX5_read_J87 (fX5_read_L29 (n2 + 1)) σ8 (nI s) (nI v) (1 : Int32))) = some (nI v, τ) := by
        intro a b hc
        obtain ⟨r, hr, g⟩ := m_undoesF h a b hc
        rw [g, eu_b2_t, if_pos hr]
        unfold fX5_read_J87
        rw [if_pos rfl, z_p0, fX5_read_L29_s, if_pos rfl]
      by_cases c2 : 12 ≤ v
      · rw [show (12 : Int32) = nI 12 from rfl, if_pos (le_p c2 (by omega)), stop _ _ (Or.inr (Or.inr (by omega)))]
        exact ⟨_, σ, τ, rfl, rfl, L, tx, U, pe, th, S, sd, si, h⟩
      · rw [show (12 : Int32) = nI 12 from rfl, if_neg (le_n c2 (by omega)), if_neg (le_n (show ¬ z ≤ 2 * v + 1 by omega) (by omega)), show 11 + s + 4 = 15 + s by omega, w4 _ (show 2 * v < z by omega), w4 _ (show 2 * v + 1 < z by omega), ← Nat.add_assoc]
        generalize τ 28 (60 * s + 2 * v) = a
        generalize τ 28 (60 * s + 2 * v + 1) = b
        by_cases c3 : fX4_isBelow a (6 : Int32) = 0
        · rw [if_pos c3, stop _ _ (Or.inl c3)]
          exact ⟨_, σ, τ, rfl, rfl, L, tx, U, pe, th, S, sd, si, h⟩
        rcases z_below2 a 6 (by omega) with ⟨e, -⟩ | ⟨p, hp, ep, -⟩
        · exact absurd e c3
        rw [if_neg c3]
        by_cases c4 : fX4_isBelow b (24 : Int32) = 0
        · rw [if_pos c4, stop _ _ (Or.inr (Or.inl c4))]
          exact ⟨_, σ, τ, rfl, rfl, L, tx, U, pe, th, S, sd, si, h⟩
        rcases z_below2 b 24 (by omega) with ⟨e, -⟩ | ⟨t, ht, et, -⟩
        · exact absurd e c4
        rw [if_neg c4]
        by_cases c5 : U < 12
        · obtain ⟨σ', τ', g1, g2, g3, g4⟩ := h.tell c5 hp ht
          rw [ep, et, g1, g3, eu_b2_t, eu_b2_t, if_neg (show ¬ (1 : Int32) = 0 by decide), if_neg (z_neg (by omega))]
          unfold fX5_read_J87
          rw [if_neg (show ¬ (1 : Int32) = 0 by decide), z_p1]
          exact sim_read_L hs (m - 1) (v + 1) n1 (n2 + 1) (U + 1) _ _ σ' τ' (by omega) (by omega) (by omega) (by omega) g4
        · rw [d_tellF h.Ud c5, eu_b2_t, if_pos rfl, stop _ _ (Or.inr (Or.inr c5))]
          exact ⟨_, σ, τ, rfl, rfl, L, tx, U, pe, th, S, sd, si, h⟩
theorem sim_read : ∀ (σ τ : eu_T) (a1 : Int32), eu_Rel σ τ → ∃ (r : Int32) (σ' τ' : eu_T), fX4_read σ a1 = some (r, σ') ∧ fX5_read τ a1 = some (r, τ') ∧ eu_Rel σ' τ' := by
  rintro σ τ x1 ⟨L, tx, U, pe, th, S, sd, si, h⟩
  unfold fX4_read fX5_read
  rw [z_i3]
  by_cases q1 : fX4_isBelow x1 (4 : Int32) = 0
  · rw [if_pos q1, if_pos q1]
    exact ⟨_, σ, τ, rfl, rfl, L, tx, U, pe, th, S, sd, si, h⟩
  rcases z_below2 x1 4 (by omega) with ⟨e, -⟩ | ⟨s, hs, es, -⟩
  · exact absurd e q1
  obtain ⟨w1, -⟩ := h.Sh s hs
  rw [if_neg q1, if_neg q1, es, z_gd (by omega) hs, z_gd (by omega) hs, z_cl (by omega)]
  rcases w1 with ⟨v1, v2⟩ | ⟨v1, fm, hfm, v2, v3⟩
  · rw [v1, v2, if_neg (show ¬ (1 : Int32) = 0 by decide), if_neg (show ¬ (0 : Int32) ≤ -1 by decide)]
    unfold fX4_found fX5_met
    rw [z_lt_i, z_lt_i, eu_b2_t, eu_b2_t]
    exact ⟨_, _, _, rfl, rfl, L, tx, U, pe, th, S, sd, si, h.met _⟩
  · rw [v1, v3, if_pos (show (0 : Int32) = 0 from rfl), if_pos (z_lost (by omega))]
    have := sim_read_L hs (12 - U) 0 200 200 U pe th σ τ rfl (by omega) (by omega) (by omega) h
    rw [nI_0] at this
    exact this
