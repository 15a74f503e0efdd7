theorem z_pop {x : Int32} (h : ∀ j, j < 32 → bt x j = true → j < 12) : fJ6_bitCount_0f7a4 x = nI (zct (bt x) 12) := by
  obtain ⟨m, hm, e⟩ := z_small h
  rw [e]
  exact z_pop0 m hm
theorem zct_le (f : Nat → Bool) : ∀ n, zct f n ≤ n
  | 0 => Nat.le_refl 0
  | n + 1 => by
    have := zct_le f n
    show zct f n + (if f n = true then 1 else 0) ≤ n + 1
    by_cases c : f n = true
    · rw [if_pos c]; omega
    · rw [if_neg c]; omega
theorem zct_ext {f g : Nat → Bool} : ∀ n, (∀ j, j < n → f j = g j) → zct f n = zct g n
  | 0, _ => rfl
  | n + 1, h => by
    show zct f n + (if f n = true then 1 else 0) = zct g n + (if g n = true then 1 else 0)
    rw [zct_ext n (fun j hj => h j (by omega)), h n (by omega)]
theorem zct_cut {f : Nat → Bool} {n : Nat} : ∀ d, (∀ j, n ≤ j → j < n + d → f j = false) → zct f (n + d) = zct f n
  | 0, _ => rfl
  | d + 1, h => by
    show zct f (n + d) + (if f (n + d) = true then 1 else 0) = zct f n
    rw [zct_cut d (fun j h1 h2 => h j h1 (by omega)), h (n + d) (by omega) (by omega), if_neg (by decide)]
    omega
theorem zct_ag (f : Nat → Bool) : ∀ n, zct f n + sAg f n = n
  | 0 => rfl
  | n + 1 => by
    have := zct_ag f n
    show (zct f n + (if f n = true then 1 else 0)) + (sAg f n + (if f n = true then 0 else 1)) = n + 1
    by_cases c : f n = true
    · rw [if_pos c, if_pos c]; omega
    · rw [if_neg c, if_neg c]; omega
theorem z_against {D : zD} {pe th : Nat → Nat} {U : Nat} (hU : U ≤ 12) : nI U - fJ6_bitCount_0f7a4 (sL D pe th 99 U).1 = nI (sAg (sLw D pe th 99) U) := by
  have hb := sL_bt D pe th 99 U (by omega)
  have e : zct (bt (sL D pe th 99 U).1) 12 = zct (sLw D pe th 99) U := by
    rw [show (12 : Nat) = U + (12 - U) by omega, zct_cut (12 - U) (fun j h1 h2 => by rw [hb j (by omega), decide_eq_false (show ¬ j < U by omega), Bool.false_and])]
    exact zct_ext U (fun j hj => by rw [hb j (by omega), decide_eq_true hj, Bool.true_and])
  have := zct_ag (sLw D pe th 99) U
  rw [z_pop (fun j hj h => by
    rw [hb j hj, Bool.and_eq_true, decide_eq_true_iff] at h
    omega), e, z_sub (zct_le _ _), show U - zct (sLw D pe th 99) U = sAg (sLw D pe th 99) U by omega]
theorem m_own {D : zD} {τ : eu_T} (hD : zDm D τ) : ∀ (k i n : Nat), i + k = D.1 → k < n → fX5_count_L107 n τ (nI (zct (bt D.2.2.2) i)) (nI i) = some (nI (zct (bt D.2.2.2) D.1), τ)
  | 0, i, 0, _, hn => by omega
  | k + 1, i, 0, _, hn => by omega
  | 0, i, n + 1, hi, _ => by
    have h12 := hD.1
    rw [fX5_count_L107_s, hD.2.1, if_pos (le_p (show D.1 ≤ i by omega) (by omega)), show D.1 = i by omega]
  | k + 1, i, n + 1, hi, hn => by
    have h12 := hD.1
    have hz := zct_le (bt D.2.2.2) i
    rw [fX5_count_L107_s, hD.2.1, if_neg (le_n (show ¬ D.1 ≤ i by omega) (by omega)), z_n3, z_p2, z_gd (by omega) (by omega), z_cl (by omega), (hD.2.2 i (by omega)).2.2.2, z_p1, show (if bt D.2.2.2 i = true then (1 : Int32) else 0) = nI (if bt D.2.2.2 i = true then 1 else 0) by cases bt D.2.2.2 i <;> rfl, nI_add]
    exact m_own hD k (i + 1) n (by omega) (by omega)
theorem z_std {D : zD} {u : Int32} (h12 : D.1 ≤ 12) : ∀ j, j < 32 → bt (sStand D u) j = true → j < 12 := fun j hj h => by
  unfold sStand at h
  rw [b_and, Bool.and_eq_true, z_first (by omega) hj, decide_eq_true_iff] at h
  omega
theorem z_hold {law : Int32} {th : Nat → Nat} : ∀ j, j < 32 → bt (sH law th 12 0 0) j = true → j < 12 := fun j hj h => by
  rcases sH_sub law th 12 0 0 (by omega) j hj h with q | q
  · rw [b_0] at q; exact absurd q (by decide)
  · exact q.1
theorem sim_count : ∀ (σ τ : eu_T) (a1 : Int32), eu_Rel σ τ → ∃ (r : Int32) (τ' : eu_T), fX4_count σ a1 = some r ∧ fX5_count τ a1 = some (r, τ') ∧ eu_Rel σ τ' := by
  rintro σ τ a1 ⟨L, tx, U, pe, th, S, sd, si, h⟩
  have hU12 := h.U12
  have h12 := h.D.1
  have hok := h.ok
  obtain ⟨τ1, g1, g2, g3, -, g5, -⟩ := h.find
  have hR := h.M g2
  have e6 := g2.1.2.2.2.2.2.2.2.1
  have e20 := g2.1.2.2.2.2.2.2.2.2.2
  have e4 := g2.1.2.2.2.2.2.2.1
  have hR2 := h
  obtain ⟨a1', a2, a3, a4, a5, b1, b2, b3, b4, c1, c2, c3⟩ := hR2
  unfold fX4_count fX5_count
  rw [d_lawful h.D h.Ud z_sk1, eu_bd_t, g1, eu_b2_t, d_holding (d_lawT h.Ud 99 U (Nat.le_refl U)), d_standing h.D (d_lawT h.Ud 99 U (Nat.le_refl U)), eu_bd_t, eu_bd_t, g2.2.2.2.2, m_holding g2.2.2.1 (Nat.le_refl U) hU12 g3 (sL_ltb _ pe th 99 U hU12), m_standing g2.2.1 g2.2.2.1 (Nat.le_refl U) hU12 g3 (sL_ltb _ pe th 99 U hU12), eu_bd_t, eu_bd_t, z_ones z_hold, z_ones (z_std h12), eu_bd_t, eu_bd_t, h.D.2.1, g2.2.1.2.1, a1'.2.1, e6, b1.2.1, h.Ud.2.1, g5, z_against hU12, a5.2.1, e20, b4.1, h.D.2.2.2, c3, e4]
  have own := m_own g2.2.1 (pAll L tx).2.1 0 200 (by omega) (by omega)
  rw [show zct (bt (pAll L tx).2.2.2.2) 0 = 0 from rfl, nI_0] at own
  have pop : fJ6_bitCount_0f7a4 (pAll L tx).2.2.2.2 = nI (zct (bt (pAll L tx).2.2.2.2) (pAll L tx).2.1) := by
    rw [z_pop (fun j hj q => by have := hok.2.2 j hj q; omega)]
    congr 1
    have := zct_cut (f := bt (pAll L tx).2.2.2.2) (n := (pAll L tx).2.1) (12 - (pAll L tx).2.1) (fun j h1 h2 => by
      cases q : bt (pAll L tx).2.2.2.2 j
      · rfl
      · have := hok.2.2 j (by omega) q; omega)
    rw [show (pAll L tx).2.1 + (12 - (pAll L tx).2.1) = 12 by omega] at this
    exact this
  rw [own, pop]
  by_cases q0 : a1 = 0
  · rw [if_pos q0, if_pos q0]; exact ⟨_, τ1, rfl, rfl, L, tx, U, pe, th, S, sd, si, hR⟩
  rw [if_neg q0, if_neg q0]
  by_cases q1 : a1 = 1
  · rw [if_pos q1, if_pos q1]; exact ⟨_, τ1, rfl, rfl, L, tx, U, pe, th, S, sd, si, hR⟩
  rw [if_neg q1, if_neg q1]
  by_cases q2 : a1 = 2
  · rw [if_pos q2, if_pos q2]; exact ⟨_, τ1, rfl, rfl, L, tx, U, pe, th, S, sd, si, hR⟩
  rw [if_neg q2, if_neg q2]
  by_cases q3 : a1 = 3
  · rw [if_pos q3, if_pos q3]; exact ⟨_, τ1, rfl, rfl, L, tx, U, pe, th, S, sd, si, hR⟩
  rw [if_neg q3, if_neg q3]
  by_cases q4 : a1 = 4
  · rw [if_pos q4, if_pos q4]; exact ⟨_, τ1, rfl, rfl, L, tx, U, pe, th, S, sd, si, hR⟩
  rw [if_neg q4, if_neg q4]
  by_cases q5 : a1 = 5
  · rw [if_pos q5, if_pos q5]; exact ⟨_, τ1, rfl, rfl, L, tx, U, pe, th, S, sd, si, hR⟩
  rw [if_neg q5, if_neg q5]
  by_cases q6 : a1 = 6
  · rw [if_pos q6, if_pos q6]; exact ⟨_, τ1, rfl, rfl, L, tx, U, pe, th, S, sd, si, hR⟩
  rw [if_neg q6, if_neg q6]
  by_cases q7 : a1 = 7
  · rw [if_pos q7, if_pos q7]; exact ⟨_, τ1, rfl, rfl, L, tx, U, pe, th, S, sd, si, hR⟩
  rw [if_neg q7, if_neg q7]
  by_cases q8 : a1 = 8
  · rw [if_pos q8, if_pos q8]; exact ⟨_, τ1, rfl, rfl, L, tx, U, pe, th, S, sd, si, hR⟩
  rw [if_neg q8, if_neg q8]
  exact ⟨_, τ1, rfl, rfl, L, tx, U, pe, th, S, sd, si, hR⟩
/-! ===== write ===== -/
theorem z_write_L {L : Nat} {tx : Nat → Nat} {U : Nat} {pe th : Nat → Nat} {S : Nat} {sd si : Nat → Nat} {s z fm m : Nat} (hs : s < 4) (hz : z ≤ 60) (hfm : fm < 3) (hm1 : m ≤ (pAll L tx).2.1) (hm2 : m ≤ z) : ∀ (c i n1 n2 : Nat) (σ τ : eu_T), i + c = m → c < n1 → c < n2 → zR L tx U pe th S sd si σ τ → zM τ (pAll L tx).2 U pe th τ → zLm (sL (pAll L tx).2 pe th 99 U).1 U τ → σ (11 + s) 2 = nI fm → σ (11 + s) 3 = nI z → τ 26 s = nI fm → ∃ σ' τ', fX4_write_L66 n1 σ (11 + s) (sUn (sL (pAll L tx).2 pe th 99 U).1 th) (nI m) (nI i) = some (nI m, σ') ∧ fX5_write_L58 n2 τ (nI s) (nI m) (nI i) = some (nI m, τ') ∧ eu_Rel σ' τ'
  | 0, i, 0, _, σ, τ, _, h1, _, _, _, _, _, _, _ => by omega
  | c + 1, i, 0, _, σ, τ, _, h1, _, _, _, _, _, _, _ => by omega
  | 0, i, _, 0, σ, τ, _, _, h1, _, _, _, _, _, _ => by omega
  | c + 1, i, _, 0, σ, τ, _, _, h1, _, _, _, _, _, _ => by omega
  | 0, i, n1 + 1, n2 + 1, σ, τ, hi, _, _, h, _, _, _, _, _ => by
    refine ⟨σ, τ, ?_, ?_, L, tx, U, pe, th, S, sd, si, h⟩
    · rw [fX4_write_L66_s, if_pos (le_p (show m ≤ i by omega) (by omega))]
    · rw [fX5_write_L58_s, if_pos (le_p (show m ≤ i by omega) (by omega))]
  | c + 1, i, n1 + 1, n2 + 1, σ, τ, hi, hn1, hn2, h, hM, hL, w2, w3, w4 => by
    have h12 := h.D.1
    obtain ⟨r, τ1, f1, f2, f3, f4, f5⟩ := z_root h.D h.ok hM hL (show i < (pAll L tx).2.1 by omega)
    have h1 := h.M f4
    have h2 : zR L tx U pe th S sd si (eu_up σ (15 + s) i (fX5_cut (nI fm) r)) (eu_up τ1 28 (60 * s + i) (fX5_cut (nI fm) r)) := h1.sheets (fun k q => eu_up_n (by omega)) (fun k q1 q2 q3 q4 => eu_up_n q3) (h1.Sh.put hs (by omega) _)
    have hM2 : zM (eu_up τ1 28 (60 * s + i) (fX5_cut (nI fm) r)) (pAll L tx).2 U pe th (eu_up τ1 28 (60 * s + i) (fX5_cut (nI fm) r)) := ⟨zP.rf, f4.2.1.c (by rw [eu_up_n (by decide)]) (eu_up_n (by decide)), f4.2.2.1.c (eu_up_n (by decide)), f4.2.2.2.1, by rw [eu_up_n (by decide)]; exact f4.2.2.2.2⟩
    obtain ⟨σ', τ', g1, g2, g3⟩ := z_write_L hs hz hfm hm1 hm2 c (i + 1) n1 n2 _ _ (by omega) (by omega) (by omega) h2 hM2 (fun j hj => by rw [eu_up_n (by decide)]; exact f5 j hj) (by rw [eu_up_n (by omega)]; exact w2) (by rw [eu_up_n (by omega)]; exact w3) (by rw [eu_up_n (by decide), f3 26 (by decide)]; exact w4)
    refine ⟨σ', τ', ?_, ?_, g3⟩
    · rw [fX4_write_L66_s, if_neg (le_n (show ¬ m ≤ i by omega) (by omega)), f1, eu_bd_t, d_put (show i < z by omega) hz hfm w2 w3, eu_b2_t, z_p1, show 11 + s + 4 = 15 + s by omega]
      exact g1
    · rw [fX5_write_L58_s, if_neg (le_n (show ¬ m ≤ i by omega) (by omega)), z_gd (by omega) hs, f2, eu_b2_t, z_n60, nI_add, z_gd (by omega) (by omega), z_cl (by omega), z_cl (by omega), z_lt_i, w4, z_p1]
      exact g2
theorem sim_write : ∀ (σ τ : eu_T) (a1 : Int32), eu_Rel σ τ → ∃ (r : Int32) (σ' τ' : eu_T), fX4_write σ a1 = some (r, σ') ∧ fX5_write τ a1 = some (r, τ') ∧ eu_Rel σ' τ' := by
  rintro σ τ x1 ⟨L, tx, U, pe, th, S, sd, si, h⟩
  have h12 := h.D.1
  unfold fX4_write fX5_write
  rw [z_i3]
  by_cases q1 : fX4_isBelow x1 (4 : Int32) = 0
  · rw [if_pos q1, if_pos q1]
    exact ⟨_, σ, τ, rfl, rfl, L, tx, U, pe, th, S, sd, si, h⟩
  rcases z_below2 x1 4 (by omega) with ⟨e, -⟩ | ⟨s, hs, es, -⟩
  · exact absurd e q1
  obtain ⟨w1, z, hz, w2, w3, -⟩ := h.Sh s hs
  rw [if_neg q1, if_neg q1, es, z_gd (by omega) hs, z_gd (by omega) hs, z_cl (by omega)]
  rcases w1 with ⟨v1, v2⟩ | ⟨v1, fm, hfm, v2, v3⟩
  · rw [v1, v2, if_neg (show ¬ (1 : Int32) = 0 by decide), if_neg (show ¬ (0 : Int32) ≤ -1 by decide)]
    unfold fX4_found fX5_met
    rw [z_lt_i, z_lt_i, eu_b2_t, eu_b2_t]
    exact ⟨_, _, _, rfl, rfl, L, tx, U, pe, th, S, sd, si, h.met _⟩
  · obtain ⟨τ1, g1, g2, g3, -⟩ := h.find
    have hM : zM τ1 (pAll L tx).2 U pe th τ1 := ⟨zP.rf, g2.2⟩
    rw [v1, v3, if_pos (show (0 : Int32) = 0 from rfl), if_pos (z_lost (by omega)), g1, eu_b2_t, d_lawful h.D h.Ud z_sk1, eu_bd_t, d_undone (d_lawT h.Ud 99 U (Nat.le_refl U)), eu_bd_t, z_lt_i, z_gd (by omega) hs, z_gd (by omega) hs, g2.2.1.2.1, h.D.2.1, w2, g2.1.2.1, w3]
    have key := fun m hm1 hm2 => z_write_L (S := S) (sd := sd) (si := si) hs hz hfm (m := m) hm1 hm2 m 0 200 200 σ τ1 (by omega) (by omega) (by omega) (h.M g2) hM g3 v2 w2 (by rw [g2.1.1]; exact v3)
    rw [nI_0] at key
    by_cases c : (pAll L tx).2.1 ≤ z
    · rw [if_pos (le_p c (by omega))]
      have e : (if nI (pAll L tx).2.1 < nI z then nI (pAll L tx).2.1 else nI z) = nI (pAll L tx).2.1 := by
        by_cases c2 : (pAll L tx).2.1 < z
        · rw [if_pos (lt_p c2 (by omega))]
        · rw [if_neg (lt_n c2 (by omega)), show z = (pAll L tx).2.1 by omega]
      rw [e]
      obtain ⟨σ', τ', k1, k2, k3⟩ := key (pAll L tx).2.1 (Nat.le_refl _) c
      exact ⟨_, σ', τ', k1, k2, k3⟩
    · rw [if_neg (le_n c (by omega)), if_neg (lt_n (show ¬ (pAll L tx).2.1 < z by omega) (by omega))]
      obtain ⟨σ', τ', k1, k2, k3⟩ := key z (by omega) (Nat.le_refl _)
      exact ⟨_, σ', τ', k1, k2, k3⟩
