/-! ===== digest ===== -/
theorem z_deedv {D : zD} {σ τ : eu_T} (hD : zDd D σ) (hM : zDm D τ) {x y : Nat} (hx : x < D.1) (hy : y < 3) : ∃ r, fX4_deed σ (nI x) (nI y) = some r ∧ τ 31 (3 * x + y) = r := by
  have h12 := hD.1
  obtain ⟨m1, m2, m3, m4⟩ := hM.2.2 x hx
  obtain ⟨d1, d2, d3⟩ := hD.2.2.1 x hx
  unfold fX4_deed
  rw [hD.2.1, z_below (by omega) (by omega), if_pos hx, if_neg (show ¬ (1 : Int32) = 0 by decide), show (3 : Int32) = nI 3 from rfl, z_below (by omega) (by omega), if_pos hy, if_neg (show ¬ (1 : Int32) = 0 by decide), z_gd (by omega) (by omega), z_gd (by omega) (by omega), z_cl (by omega)]
  rcases (show y = 0 ∨ y = 1 ∨ y = 2 by omega) with rfl | rfl | rfl
  · rw [if_pos (show nI 0 = (0 : Int32) from rfl), d1]
    exact ⟨_, rfl, m1⟩
  · rw [if_neg (show ¬ nI 1 = (0 : Int32) by decide), if_pos (show nI 1 = (1 : Int32) from rfl), d3]
    exact ⟨_, rfl, m3⟩
  · rw [if_neg (show ¬ nI 2 = (0 : Int32) by decide), if_neg (show ¬ nI 2 = (1 : Int32) by decide), hD.2.2.2, z_bitOf (by omega)]
    exact ⟨_, rfl, m4⟩
theorem dg_in {k5 : Int64 → Int32 → Option Int64} {k57 : eu_T → Int64 → Int32 → Option (Int64 × eu_T)} {D : zD} {σ τ : eu_T} (hD : zDd D σ) (hM : zDm D τ) {x : Nat} (hx : x < D.1) : ∀ (k y n1 n2 : Nat) (v : Int64), y + k = 3 → k < n1 → k < n2 → ∃ v', fX4_withDeeds_L20 σ k5 n1 v (nI x) (nI y) = eu_bd (fX4_root σ (nI x)) (fun (r1 : Int32) => k5 (31 * v' + r1.toInt64) (nI x + 1)) ∧ fX5_digest_L68 k57 n2 τ v (nI x) (nI y) = eu_b2 (fX5_rootOf τ (nI x)) (fun (r18 : Int32) (σ19 : eu_T) => k57 σ19 (31 * v' + r18.toInt64) (nI x + 1))
  | 0, y, 0, _, v, _, h, _ => by omega
  | k + 1, y, 0, _, v, _, h, _ => by omega
  | 0, y, _, 0, v, _, _, h => by omega
  | k + 1, y, _, 0, v, _, _, h => by omega
  | 0, y, n1 + 1, n2 + 1, v, hy, _, _ => by
    refine ⟨v, ?_, ?_⟩
    · rw [fX4_withDeeds_L20_s, show (3 : Int32) = nI 3 from rfl, if_pos (le_p (show 3 ≤ y by omega) (by omega))]
      rfl
    · rw [fX5_digest_L68_s, show (3 : Int32) = nI 3 from rfl, if_pos (le_p (show 3 ≤ y by omega) (by omega))]
  | k + 1, y, n1 + 1, n2 + 1, v, hy, h1, h2 => by
    have h12 := hD.1
    obtain ⟨r, g1, g2⟩ := z_deedv hD hM hx (show y < 3 by omega)
    obtain ⟨v', f1, f2⟩ := dg_in (k5 := k5) (k57 := k57) hD hM hx k (y + 1) n1 n2 (31 * v + r.toInt64) (by omega) (by omega) (by omega)
    refine ⟨v', ?_, ?_⟩
    · rw [fX4_withDeeds_L20_s, g1, show (3 : Int32) = nI 3 from rfl, if_neg (le_n (show ¬ 3 ≤ y by omega) (by omega)), eu_bd_t, z_p1 y]
      exact f1
    · rw [fX5_digest_L68_s, z_n3, nI_add, show (3 : Int32) = nI 3 from rfl, if_neg (le_n (show ¬ 3 ≤ y by omega) (by omega)), z_gd (by omega) (by omega), z_cl (by omega), g2, z_lt_i, z_p1 y]
      exact f2
theorem dg_deeds {τ0 : eu_T} {D : zD} {U : Nat} {pe th : Nat → Nat} {σ : eu_T} (hD : zDd D σ) (hU : zUd U pe th σ) (hok : zDok D) : ∀ (k i n1 n2 : Nat) (v : Int64) (τ : eu_T), i + k = D.1 → k < n1 → k < n2 → zM τ0 D U pe th τ → zLm (sL D pe th 99 U).1 U τ → ∃ v' τ', fX4_withDeeds_L5 σ n1 v (nI i) = some v' ∧ fX5_digest_L57 n2 τ v (nI i) = fX5_digest_L120 200 τ' v' 0 ∧ zM τ0 D U pe th τ'
  | 0, i, 0, _, v, τ, _, h, _, _, _ => by omega
  | k + 1, i, 0, _, v, τ, _, h, _, _, _ => by omega
  | 0, i, _, 0, v, τ, _, _, h, _, _ => by omega
  | k + 1, i, _, 0, v, τ, _, _, h, _, _ => by omega
  | 0, i, n1 + 1, n2 + 1, v, τ, hi, _, _, h, _ => by
    have h12 := hD.1
    refine ⟨v, τ, ?_, ?_, h⟩
    · rw [fX4_withDeeds_L5_s, hD.2.1, if_pos (le_p (show D.1 ≤ i by omega) (by omega))]
    · rw [fX5_digest_L57_s, h.2.1.2.1, if_pos (le_p (show D.1 ≤ i by omega) (by omega))]
  | k + 1, i, n1 + 1, n2 + 1, v, τ, hi, hn1, hn2, h, hL => by
    have h12 := hD.1
    obtain ⟨v1, f1, f2⟩ := dg_in (k5 := fX4_withDeeds_L5 σ n1) (k57 := fX5_digest_L57 n2) hD h.2.1 (show i < D.1 by omega) 3 0 200 200 v (by omega) (by omega) (by omega)
    obtain ⟨r, τ1, g1, g2, -, g4, g5⟩ := z_root hD hok h hL (show i < D.1 by omega)
    obtain ⟨v2, τ2, k1, k2, k3⟩ := dg_deeds hD hU hok k (i + 1) n1 n2 (31 * v1 + r.toInt64) τ1 (by omega) (by omega) (by omega) g4 g5
    rw [nI_0] at f1 f2
    refine ⟨v2, τ2, ?_, ?_, k3⟩
    · rw [fX4_withDeeds_L5_s, hD.2.1, if_neg (le_n (show ¬ D.1 ≤ i by omega) (by omega)), f1, d_root hD hU (show i < D.1 by omega) g1, eu_bd_t, z_p1, k1]
    · rw [fX5_digest_L57_s, h.2.1.2.1, if_neg (le_n (show ¬ D.1 ≤ i by omega) (by omega)), f2, g2, eu_b2_t, z_p1, k2]
theorem zM.tr0 {τ0 τ τ1 : eu_T} {D : zD} {U : Nat} {pe th : Nat → Nat} (h : zM τ0 D U pe th τ) (g : zM τ D U pe th τ1) : zM τ0 D U pe th τ1 := ⟨h.1.tr g.1, g.2⟩
theorem z_holds {L : Nat} {tx : Nat → Nat} {U : Nat} {pe th : Nat → Nat} {S : Nat} {sd si : Nat → Nat} {σ τ : eu_T} (h : zR L tx U pe th S sd si σ τ) {x : Nat} (hx : x < U) : ∃ r τ1, fX4_holds σ (nI x) = some r ∧ fX5_holds τ (nI x) = some (r, τ1) ∧ zM τ (pAll L tx).2 U pe th τ1 := by
  have hU12 := h.U12
  obtain ⟨τ1, g1, g2, g3, -⟩ := h.find
  unfold fX4_holds fX5_holds
  rw [g1, eu_b2_t, g2.2.2.2.2, z_iD (nI x) U (by omega), h.Ud.2.1, z_below (by omega) (by omega), if_pos hx, if_neg (show ¬ (1 : Int32) = 0 by decide), if_neg (show ¬ (1 : Int32) = 0 by decide), d_lawful h.D h.Ud z_sk1, eu_bd_t, d_holding (d_lawT h.Ud 99 U (Nat.le_refl U)), eu_bd_t, m_holding g2.2.2.1 (Nat.le_refl U) hU12 g3 (sL_ltb _ pe th 99 U hU12), eu_bd_t]
  exact ⟨_, τ1, rfl, rfl, g2⟩
theorem dg_undo {L : Nat} {tx : Nat → Nat} {U : Nat} {pe th : Nat → Nat} {S : Nat} {sd si : Nat → Nat} {σ τ0 : eu_T} (h0 : zR L tx U pe th S sd si σ τ0) : ∀ (k i n1 n2 : Nat) (v : Int64) (τ : eu_T), i + k = U → k < n1 → k < n2 → zM τ0 (pAll L tx).2 U pe th τ → ∃ v' τ', fX4_withUndoings_L5 σ n1 v (nI i) = fX4_withUndoings_L76 σ 200 v' 0 ∧ fX5_digest_L120 n2 τ v (nI i) = fX5_digest_L190 200 τ' v' 0 ∧ zM τ0 (pAll L tx).2 U pe th τ'
  | 0, i, 0, _, v, τ, _, h, _, _ => by omega
  | k + 1, i, 0, _, v, τ, _, h, _, _ => by omega
  | 0, i, _, 0, v, τ, _, _, h, _ => by omega
  | k + 1, i, _, 0, v, τ, _, _, h, _ => by omega
  | 0, i, n1 + 1, n2 + 1, v, τ, hi, _, _, h => by
    have hU12 := h0.U12
    refine ⟨v, τ, ?_, ?_, h⟩
    · rw [fX4_withUndoings_L5_s, h0.Ud.2.1, if_pos (le_p (show U ≤ i by omega) (by omega))]
    · rw [fX5_digest_L120_s, h.2.2.2.2, if_pos (le_p (show U ≤ i by omega) (by omega))]
  | k + 1, i, n1 + 1, n2 + 1, v, τ, hi, hn1, hn2, h => by
    have hU12 := h0.U12
    have hi2 : i < U := by omega
    obtain ⟨r1, τ1, a1, a2, a3⟩ := z_holds (h0.M h) hi2
    have b3 := h.tr0 a3
    obtain ⟨τ2, c1, c2⟩ := m_byOf b3 hi2
    obtain ⟨r3, τ3, e1, e2, e3⟩ := m_withoutOf h0.D h0.Ud c2 hi2 (w := 0) (by decide)
    obtain ⟨r4, τ4, f1, f2, f3⟩ := m_withoutOf h0.D h0.Ud e3 hi2 (w := 1) (by decide)
    have hby : fX4_by σ (nI i) = some (sSt (pAll L tx).2 pe th 99 i ^^^ sSt (pAll L tx).2 pe th 99 (i + 1)) := by
      unfold fX4_by
      rw [h0.Ud.2.1, z_below (by omega) (by omega), if_pos hi2, if_neg (show ¬ (1 : Int32) = 0 by decide), z_p1, d_standingBehind h0.D h0.Ud (by omega), eu_bd_t, d_standingBehind h0.D h0.Ud (by omega), eu_bd_t]
    obtain ⟨v', τ', k1, k2, k3⟩ := dg_undo h0 k (i + 1) n1 n2 (31 * (31 * (31 * (31 * v + r1.toInt64) + (sSt (pAll L tx).2 pe th 99 i ^^^ sSt (pAll L tx).2 pe th 99 (i + 1)).toInt64) + r3.toInt64) + r4.toInt64) τ4 (by omega) (by omega) (by omega) f3
    refine ⟨v', τ', ?_, ?_, k3⟩
    · rw [fX4_withUndoings_L5_s, h0.Ud.2.1, if_neg (le_n (show ¬ U ≤ i by omega) (by omega)), a1, eu_bd_t, hby, eu_bd_t, e1, eu_bd_t, z_lt_i, f1, eu_bd_t, z_p1]
      exact k1
    · rw [fX5_digest_L120_s, h.2.2.2.2, if_neg (le_n (show ¬ U ≤ i by omega) (by omega)), a2, eu_b2_t, c1, eu_b2_t, z_lt_i, e2, eu_b2_t, f2, eu_b2_t, z_lt_i, z_p1]
      exact k2
theorem dg_states {τ0 : eu_T} {D : zD} {U : Nat} {pe th : Nat → Nat} {σ : eu_T} (hD : zDd D σ) (hU : zUd U pe th σ) : ∀ (k i n1 n2 : Nat) (v : Int64) (τ : eu_T), i + k = U + 1 → k < n1 → k < n2 → zM τ0 D U pe th τ → ∃ v' τ', fX4_withUndoings_L76 σ n1 v (nI i) = some v' ∧ fX5_digest_L190 n2 τ v (nI i) = fX5_digest_L190 1 τ' v' (nI (U + 1)) ∧ zM τ0 D U pe th τ'
  | 0, i, 0, _, v, τ, _, h, _, _ => by omega
  | k + 1, i, 0, _, v, τ, _, h, _, _ => by omega
  | 0, i, _, 0, v, τ, _, _, h, _ => by omega
  | k + 1, i, _, 0, v, τ, _, _, h, _ => by omega
  | 0, i, n1 + 1, n2 + 1, v, τ, hi, _, _, h => by
    have hU12 := hU.1
    refine ⟨v, τ, ?_, ?_, h⟩
    · rw [fX4_withUndoings_L76_s, hU.2.1, if_pos (lt_p (show U < i by omega) (by omega))]
    · rw [show i = U + 1 by omega, fX5_digest_L190_s, fX5_digest_L190_s, h.2.2.2.2, if_pos (lt_p (show U < U + 1 by omega) (by omega)), if_pos (lt_p (show U < U + 1 by omega) (by omega))]
  | k + 1, i, n1 + 1, n2 + 1, v, τ, hi, hn1, hn2, h => by
    have hU12 := hU.1
    obtain ⟨τ1, a1, a2⟩ := m_stateOf h (k := i) (by omega) 0
    obtain ⟨τ2, b1, b2⟩ := m_stateOf a2 (k := i) (by omega) 1
    rw [if_pos rfl] at a1
    rw [if_neg (show ¬ (1 : Int32) = 0 by decide)] at b1
    have s0 : fX4_state σ (nI i) 0 = some (sSt D pe th 99 i) := by
      unfold fX4_state
      rw [hU.2.1, z_p1, z_below (by omega) (by omega), if_pos (show i < U + 1 by omega), if_neg (show ¬ (1 : Int32) = 0 by decide), if_neg (show ¬ fX4_isBelow 0 2 = 0 by decide), if_pos rfl, d_standingBehind hD hU (by omega), eu_bd_t]
    have s1 : fX4_state σ (nI i) 1 = some (sSp D pe th 99 i) := by
      unfold fX4_state
      rw [hU.2.1, z_p1, z_below (by omega) (by omega), if_pos (show i < U + 1 by omega), if_neg (show ¬ (1 : Int32) = 0 by decide), if_neg (show ¬ fX4_isBelow 1 2 = 0 by decide), if_neg (show ¬ (1 : Int32) = 0 by decide), d_lawfulOfFirst hD hU (by omega), eu_bd_t, d_unspent hU (by omega), eu_bd_t]
    obtain ⟨v', τ', k1, k2, k3⟩ := dg_states hD hU k (i + 1) n1 n2 (31 * (31 * v + (sSt D pe th 99 i).toInt64) + (sSp D pe th 99 i).toInt64) τ2 (by omega) (by omega) (by omega) b2
    refine ⟨v', τ', ?_, ?_, k3⟩
    · rw [fX4_withUndoings_L76_s, hU.2.1, if_neg (lt_n (show ¬ U < i by omega) (by omega)), s0, eu_bd_t, s1, eu_bd_t, z_p1]
      exact k1
    · rw [fX5_digest_L190_s, h.2.2.2.2, if_neg (lt_n (show ¬ U < i by omega) (by omega)), a1, eu_b2_t, b1, eu_b2_t, z_lt_i, z_p1]
      exact k2
