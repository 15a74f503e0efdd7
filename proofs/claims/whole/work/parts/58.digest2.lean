theorem dg_safe {τ0 : eu_T} {D : zD} {U : Nat} {pe th : Nat → Nat} : ∀ (k i n1 n2 : Nat) (v : Int64) (σ τ : eu_T), i + k = 3 → k < n1 → k < n2 → zDd D σ → zUd U pe th σ → zM τ0 D U pe th τ → ∃ v' σ' τ', fX4_digest_L91 n1 σ v (nI i) = fX4_digest_L115 200 σ' v' 0 ∧ fX5_digest_L266 n2 τ v (nI i) = fX5_digest_L292 200 τ' v' 0 ∧ zfs U σ σ' ∧ zM τ0 D U pe th τ'
  | 0, i, 0, _, v, σ, τ, _, h, _, _, _, _ => by omega
  | k + 1, i, 0, _, v, σ, τ, _, h, _, _, _, _ => by omega
  | 0, i, _, 0, v, σ, τ, _, _, h, _, _, _ => by omega
  | k + 1, i, _, 0, v, σ, τ, _, _, h, _, _, _ => by omega
  | 0, i, n1 + 1, n2 + 1, v, σ, τ, hi, _, _, hD, hU, h => by
    refine ⟨v, σ, τ, ?_, ?_, zfs.rf, h⟩
    · rw [fX4_digest_L91_s, show (2 : Int32) = nI 2 from rfl, if_pos (lt_p (show 2 < i by omega) (by omega))]
    · rw [fX5_digest_L266_s, show (3 : Int32) = nI 3 from rfl, if_pos (le_p (show 3 ≤ i by omega) (by omega))]
  | k + 1, i, n1 + 1, n2 + 1, v, σ, τ, hi, hn1, hn2, hD, hU, h => by
    obtain ⟨r, σ1, τ1, a1, a2, a3, a4⟩ := z_safeOf hD hU h (show i < 3 by omega)
    obtain ⟨v', σ', τ', k1, k2, k3, k4⟩ := dg_safe k (i + 1) n1 n2 (31 * v + r.toInt64) σ1 τ1 (by omega) (by omega) (by omega) (a3.D hD) (a3.U hU) a4
    refine ⟨v', σ', τ', ?_, ?_, a3.tr k3, k4⟩
    · rw [fX4_digest_L91_s, show (2 : Int32) = nI 2 from rfl, if_neg (lt_n (show ¬ 2 < i by omega) (by omega)), a1, eu_b2_t, z_p1]
      exact k1
    · rw [fX5_digest_L266_s, show (3 : Int32) = nI 3 from rfl, if_neg (le_n (show ¬ 3 ≤ i by omega) (by omega)), a2, eu_b2_t, z_p1]
      exact k2
theorem dg_last {τ0 : eu_T} {D : zD} {U : Nat} {pe th : Nat → Nat} {wo : Nat → Nat → Int32} (h33 : ∀ p, p < 6 → ∀ d, d < 12 → τ0 33 (12 * p + d) = wo p d) : ∀ (k i n1 n2 : Nat) (v : Int64) (σ τ : eu_T), i + k = 4 → k < n1 → k < n2 → zDd D σ → zUd U pe th σ → (∀ p, p < 6 → ∀ d, d < 12 → σ (19 + p) d = wo p d) → zM τ0 D U pe th τ → ∃ v' σ' τ', fX4_digest_L115 n1 σ v (nI i) = fX4_digest_L115 1 σ' v' 4 ∧ fX5_digest_L292 n2 τ v (nI i) = fX5_digest_L292 1 τ' v' 4 ∧ zfs U σ σ' ∧ zM τ0 D U pe th τ'
  | 0, i, 0, _, v, σ, τ, _, h, _, _, _, _, _ => by omega
  | k + 1, i, 0, _, v, σ, τ, _, h, _, _, _, _, _ => by omega
  | 0, i, _, 0, v, σ, τ, _, _, h, _, _, _, _ => by omega
  | k + 1, i, _, 0, v, σ, τ, _, _, h, _, _, _, _ => by omega
  | 0, i, n1 + 1, n2 + 1, v, σ, τ, hi, _, _, hD, hU, _, h => by
    refine ⟨v, σ, τ, ?_, ?_, zfs.rf, h⟩
    · rw [show i = 4 by omega, show nI 4 = (4 : Int32) from rfl, fX4_digest_L115_s, fX4_digest_L115_s, if_pos (show (4 : Int32) ≤ 4 by decide), if_pos (show (4 : Int32) ≤ 4 by decide)]
    · rw [show i = 4 by omega, show nI 4 = (4 : Int32) from rfl, fX5_digest_L292_s, fX5_digest_L292_s, if_pos (show (4 : Int32) ≤ 4 by decide), if_pos (show (4 : Int32) ≤ 4 by decide)]
  | k + 1, i, n1 + 1, n2 + 1, v, σ, τ, hi, hn1, hn2, hD, hU, hwo, h => by
    obtain ⟨r, σ1, τ1, a1, a2, a3, a4⟩ := z_lastOf hD hU h hwo h33 (a := 0) (b := 1) (by omega) (by omega) (by omega) (show i < 4 by omega)
    have a1' : fX4_last σ 0 1 (nI i) = some (r, σ1) := a1
    have a2' : fX5_lastOf τ 0 1 (nI i) = some (r, τ1) := a2
    obtain ⟨v', σ', τ', k1, k2, k3, k4⟩ := dg_last h33 k (i + 1) n1 n2 (31 * v + r.toInt64) σ1 τ1 (by omega) (by omega) (by omega) (a3.D hD) (a3.U hU) (fun p hp d hd => by rw [a3.1 _ (by omega) (by omega)]; exact hwo p hp d hd) a4
    refine ⟨v', σ', τ', ?_, ?_, a3.tr k3, k4⟩
    · rw [fX4_digest_L115_s, if_neg (show ¬ (4 : Int32) ≤ nI i from le_n (a := 4) (show ¬ 4 ≤ i by omega) (by omega)), a1', eu_b2_t, z_p1]
      exact k1
    · rw [fX5_digest_L292_s, if_neg (show ¬ (4 : Int32) ≤ nI i from le_n (a := 4) (show ¬ 4 ≤ i by omega) (by omega)), a2', eu_b2_t, z_p1]
      exact k2
theorem dg_draw (n : Nat) {τ : eu_T} {v : Int64} : fX5_digest_L332 (n + 3) τ v 0 = eu_b2 (fX5_drawnOf τ 7 3 0) (fun (r38 : Int32) (σ39 : eu_T) => eu_b2 (fX5_drawnOf σ39 7 3 1) (fun (r : Int32) (σ40 : eu_T) => some (31 * (31 * v + r38.toInt64) + r.toInt64, σ40))) := by
  rw [fX5_digest_L332_s, if_neg (show ¬ (2 : Int32) ≤ 0 by decide)]
  congr 1
theorem dg_count : ∀ (k i n1 n2 : Nat) (v : Int64) (σ τ : eu_T), i + k = 8 → k < n1 → k < n2 → eu_Rel σ τ → ∃ v' τ', fX4_digest_L6 n1 σ v (nI i) = fX4_digest_L6 1 σ v' 8 ∧ fX5_digest_L6 n2 τ v (nI i) = fX5_digest_L6 1 τ' v' 8 ∧ eu_Rel σ τ'
  | 0, i, 0, _, v, σ, τ, _, h, _, _ => by omega
  | k + 1, i, 0, _, v, σ, τ, _, h, _, _ => by omega
  | 0, i, _, 0, v, σ, τ, _, _, h, _ => by omega
  | k + 1, i, _, 0, v, σ, τ, _, _, h, _ => by omega
  | 0, i, n1 + 1, n2 + 1, v, σ, τ, hi, _, _, h => by
    refine ⟨v, τ, ?_, ?_, h⟩
    · rw [show i = 8 by omega, show nI 8 = (8 : Int32) from rfl, fX4_digest_L6_s, fX4_digest_L6_s, if_pos (show (8 : Int32) ≤ 8 by decide), if_pos (show (8 : Int32) ≤ 8 by decide)]
    · rw [show i = 8 by omega, show nI 8 = (8 : Int32) from rfl, fX5_digest_L6_s, fX5_digest_L6_s, if_pos (show (8 : Int32) ≤ 8 by decide), if_pos (show (8 : Int32) ≤ 8 by decide)]
  | k + 1, i, n1 + 1, n2 + 1, v, σ, τ, hi, hn1, hn2, h => by
    obtain ⟨r, τ1, a1, a2, a3⟩ := sim_count σ τ (nI i) h
    obtain ⟨v', τ', k1, k2, k3⟩ := dg_count k (i + 1) n1 n2 (31 * v + r.toInt64) σ τ1 (by omega) (by omega) (by omega) a3
    refine ⟨v', τ', ?_, ?_, k3⟩
    · rw [fX4_digest_L6_s, if_neg (show ¬ (8 : Int32) ≤ nI i from le_n (a := 8) (show ¬ 8 ≤ i by omega) (by omega)), a1, eu_bd_t, z_p1]
      exact k1
    · rw [fX5_digest_L6_s, if_neg (show ¬ (8 : Int32) ≤ nI i from le_n (a := 8) (show ¬ 8 ≤ i by omega) (by omega)), a2, eu_b2_t, z_p1]
      exact k2
theorem sim_digest : ∀ (σ τ : eu_T), eu_Rel σ τ → ∃ (r : Int64) (σ' τ' : eu_T), fX4_digest σ = some (r, σ') ∧ fX5_digest τ = some (r, τ') ∧ eu_Rel σ' τ' := by
  intro σ τc hc
  obtain ⟨v1, τ, c1, c2, L, tx, U, pe, th, S, sd, si, h⟩ := dg_count 8 0 200 200 17 σ τc (by omega) (by omega) (by omega) hc
  have hU12 := h.U12
  have h12 := h.D.1
  obtain ⟨τ1, a1, a2⟩ := h.reads
  have hR1 := h.M a2
  obtain ⟨τ2, b1, b2, b3, -, -, b6⟩ := hR1.find
  have m2 := a2.tr0 b2
  obtain ⟨v2, τ3, d1, d2, d3⟩ := dg_deeds h.D h.Ud h.ok (pAll L tx).2.1 0 200 200 (31 * (31 * v1 + (σ 3 6).toInt64) + (sFi (sLw (pAll L tx).2 pe th 99) U).toInt64) τ2 (by omega) (by omega) (by omega) m2 b3
  obtain ⟨v3, τ4, e1, e2, e3⟩ := dg_undo h U 0 200 200 v2 τ3 (by omega) (by omega) (by omega) d3
  obtain ⟨v4, τ5, f1, f2, f3⟩ := dg_states h.D h.Ud (U + 1) 0 200 200 v3 τ4 (by omega) (by omega) (by omega) e3
  obtain ⟨r5, σ6, τ6, g1, g2, g3, g4⟩ := z_fewestOf h.D h.Ud f3 (st := 1) (fe := 2) (a4 := 0) (nn := 2) (by decide) (by decide) (by decide) (by omega) (by decide)
  obtain ⟨r7, σ7, τ7, i1, i2, i3, i4⟩ := z_fewestOf (g3.D h.D) (g3.U h.Ud) g4 (st := 1) (fe := 2) (a4 := 1) (nn := 2) (by decide) (by decide) (by decide) (by omega) (by decide)
  have z7 := g3.tr i3
  obtain ⟨v8, σ8, τ8, j1, j2, j3, j4⟩ := dg_safe 3 0 200 200 (31 * (31 * v4 + r5.toInt64) + r7.toInt64) σ7 τ7 (by omega) (by omega) (by omega) (z7.D h.D) (z7.U h.Ud) i4
  have z8 := z7.tr j3
  obtain ⟨v9, σ9, τ9, k1, k2, k3, k4⟩ := dg_last (wo := fun p d => σ (19 + p) d) (fun p hp d hd => (h.Wo p hp d hd).symm) 4 0 200 200 v8 σ8 τ8 (by omega) (by omega) (by omega) (z8.D h.D) (z8.U h.Ud) (fun p hp d hd => by rw [z8.1 _ (by omega) (by omega)]) j4
  have z9 := z8.tr k3
  have a5 := h.2.2.2.2.1
  have b4 := h.2.2.2.2.2.2.2.2.1
  have e0 := z9.1 0 (by decide) (by decide)
  obtain ⟨r10, τ10, l1, l2, l3⟩ := z_often (z9.D h.D) (z9.U h.Ud) (a5.c (by rw [e0]) (by rw [e0]) (by rw [e0])) b4 k4
  obtain ⟨r11, σ11, τ11, o1, o2, o3, o4⟩ := z_drawnOf (z9.D h.D) h.ok (z9.U h.Ud) l3 7 (N := 3) (w := 0) (by omega) (by decide)
  have z11 := z9.tr o3
  obtain ⟨r12, σ12, τ12, p1, p2, p3, p4⟩ := z_drawnOf (z11.D h.D) h.ok (z11.U h.Ud) o4 7 (N := 3) (w := 1) (by omega) (by decide)
  have z12 := z11.tr p3
  rw [nI_0] at c1 c2 d1 d2 e1 e2 f1 f2 j1 j2 k1 k2
  have g1' : fX4_fewest σ 1 2 2 0 = some (r5, σ6) := g1
  have g2' : fX5_fewestOf τ5 1 2 2 0 = some (r5, τ6) := g2
  have i1' : fX4_fewest σ6 1 2 2 1 = some (r7, σ7) := i1
  have i2' : fX5_fewestOf τ6 1 2 2 1 = some (r7, τ7) := i2
  have o1' : fX4_drawn σ9 7 3 0 = some (r11, σ11) := o1
  have o2' : fX5_drawnOf τ10 7 3 0 = some (r11, τ11) := o2
  have p1' : fX4_drawn σ11 7 3 1 = some (r12, σ12) := p1
  have p2' : fX5_drawnOf τ11 7 3 1 = some (r12, τ12) := p2
  refine ⟨31 * (31 * (31 * v9 + r10.toInt64) + r11.toInt64) + r12.toInt64, σ12, τ12, ?_, ?_, L, tx, U, pe, th, S, sd, si, (h.M p4).dev z12⟩
  · unfold fX4_digest
    rw [c1, fX4_digest_L6_s, if_pos (show (8 : Int32) ≤ 8 by decide), d_judged h.D h.Ud, eu_bd_t]
    unfold fX4_withDeeds fX4_withUndoings fX4_fault fX4_mixed
    rw [d1, eu_bd_t, e1, f1, eu_bd_t, g1', eu_b2_t, i1', eu_b2_t, j1, k1, fX4_digest_L115_s, if_pos (show (4 : Int32) ≤ 4 by decide), l1, eu_bd_t, o1', eu_b2_t, p1', eu_b2_t]
    rfl
  · have hj : fX5_judged τ1 = some (sFi (sLw (pAll L tx).2 pe th 99) U, τ2) := by
      unfold fX5_judged
      rw [b1, eu_b2_t, b6]
    unfold fX5_digest
    rw [c2, fX5_digest_L6_s, if_pos (show (8 : Int32) ≤ 8 by decide), a1, eu_b2_t, hj, eu_b2_t, z_lt_i, d2, e2, f2, fX5_digest_L190_s, f3.2.2.2.2, if_pos (lt_p (show U < U + 1 by omega) (by omega)), g2', eu_b2_t, i2', eu_b2_t, z_lt_i, j2, k2, fX5_digest_L292_s, if_pos (show (4 : Int32) ≤ 4 by decide), l2, eu_b2_t]
    have q := dg_draw 197 (τ := τ10) (v := 31 * v9 + r10.toInt64)
    rw [o2', eu_b2_t, p2', eu_b2_t] at q
    exact q
