theorem z_drawnOf {τ0 : eu_T} {D : zD} {U : Nat} {pe th : Nat → Nat} {σ τ : eu_T} (hD : zDd D σ) (hok : zDok D) (hU : zUd U pe th σ) (h : zM τ0 D U pe th τ) (a1 : Int32) {N : Nat} (hN : N < 7) {w : Int32} (hw : ¬ fX4_isBelow w (2 : Int32) = 0) : ∃ r σ' τ', fX4_drawn σ a1 (nI N) w = some (r, σ') ∧ fX5_drawnOf τ a1 (nI N) w = some (r, τ') ∧ zfs U σ σ' ∧ zM τ0 D U pe th τ' := by
  have hU12 := hU.1
  obtain ⟨σ1, f1, f2, f3⟩ := d_renew hD hU
  have fz : ∀ x, zfs U σ1 (eu_up σ1 1 7 x) := fun x => ⟨fun k q _ => eu_up_n q, fun i _ => by rw [eu_up_n (by decide)]⟩
  have hU1 := (fz a1).U f3.2.1
  have hund := d_undone (d_lawT hU1 99 U (Nat.le_refl U) (D := D))
  have eM : ∃ M, (if nI (12 - U) < nI N then nI (12 - U) else nI N) = nI M ∧ M ≤ N ∧ M + U ≤ 12 ∧ (M = N ∨ M + U = 12) := by
    by_cases c : 12 - U < N
    · exact ⟨12 - U, by rw [if_pos (lt_p c (by omega))], by omega, by omega, Or.inr (by omega)⟩
    · exact ⟨N, by rw [if_neg (lt_n c (by omega))], by omega, by omega, Or.inl rfl⟩
  obtain ⟨M, e0, m1, m2, m3⟩ := eM
  obtain ⟨σ', τ', k1, k2, k3, k4⟩ := z_draw_L (what := w) (τ0 := τ0) (U := U) (pe := pe) (th := th) hok m1 m2 m3 (by omega) M 0 200 200 pe th (eu_up (eu_up (eu_up σ1 1 7 a1) 1 5 (sUn (sL D pe th 99 U).1 th)) 1 6 0) (eu_up τ 25 22 a1) (by omega) (by omega) (by omega) (f3.1.c (by simp only [eu_up_n (show (3 : Nat) ≠ 1 by decide)]) (by simp only [eu_up_n (show (3 : Nat) ≠ 1 by decide)]) (by simp only [eu_up_n (show (7 : Nat) ≠ 1 by decide)]) (by simp only [eu_up_n (show (8 : Nat) ≠ 1 by decide)])) (by rw [up_i _ _ (by decide), up_s]; rfl) (up_s _ _ _ _) (by rw [up_i _ _ (by decide), up_i _ _ (by decide), up_s, up_s]) (h.up _ (by omega)) (h.2.2.1.c (eu_up_n (by decide)))
  have k1' : fX1_draw_L46 200 (eu_up (eu_up (eu_up σ1 1 7 a1) 1 5 (sUn (sL D pe th 99 U).1 th)) 1 6 0) (sSp D pe th 99 U) (nI M) = some (0, σ') := k1
  have hD' : zDd D σ' := f3.1.c (by rw [k3 3 (by decide), eu_up_n (by decide), eu_up_n (by decide), eu_up_n (by decide)]) (by rw [k3 3 (by decide), eu_up_n (by decide), eu_up_n (by decide), eu_up_n (by decide)]) (by rw [k3 7 (by decide), eu_up_n (by decide), eu_up_n (by decide), eu_up_n (by decide)]) (by rw [k3 8 (by decide), eu_up_n (by decide), eu_up_n (by decide), eu_up_n (by decide)])
  rw [nI_0] at k2
  refine ⟨if w = 0 then sStand D (σ' 1 5) else σ' 1 6, σ', τ', ?_, ?_, f2.tr ⟨fun q r _ => by rw [k3 q r, eu_up_n r, eu_up_n r, eu_up_n r], fun i _ => by rw [k3 10 (by decide), eu_up_n (by decide), eu_up_n (by decide), eu_up_n (by decide)]⟩, k4⟩
  · unfold fX4_drawn fX1_draw
    rw [show (7 : Int32) = nI 7 from rfl, z_below (by omega) (by omega), if_pos hN, if_neg (show ¬ (1 : Int32) = 0 by decide), if_neg hw, f1, eu_b2_t, z_lt_i, up_i (k := 1) (i := 7) (i' := 3) _ _ (by decide), f3.2.2.1, hund, eu_bd_t]
    simp only [z_lt_i]
    rw [eu_up_n (k := 1) (k' := 2) (by decide), eu_up_n (k := 1) (k' := 2) (by decide), eu_up_n (k := 1) (k' := 2) (by decide), f3.2.1.2.1, show (12 : Int32) - nI U = nI (12 - U) from z_sub (a := 12) (by omega), e0, up_i (k := 1) (i := 6) (i' := 4) _ _ (by decide), up_i (k := 1) (i := 5) (i' := 4) _ _ (by decide), up_i (k := 1) (i := 7) (i' := 4) _ _ (by decide), f3.2.2.2, k1', eu_b2_t, d_standing0 hD', eu_bd_t]
    by_cases c : w = 0
    · rw [if_pos c, if_pos c]
    · rw [if_neg c, if_neg c]
  · unfold fX5_drawnOf
    rw [z_lt_i]
    exact k2
theorem sim_drawn : ∀ (σ τ : eu_T) (a1 a2 a3 : Int32), eu_Rel σ τ → ∃ (r : Int32) (σ' τ' : eu_T), fX4_drawn σ a1 a2 a3 = some (r, σ') ∧ fX5_drawn τ a1 a2 a3 = some (r, τ') ∧ eu_Rel σ' τ' := by
  rintro σ τ a1 a2 a3 ⟨L, tx, U, pe, th, S, sd, si, h⟩
  obtain ⟨τ1, g1, g2⟩ := h.reads
  unfold fX5_drawn fX5_drawn_J34
  rw [g1, eu_b2_t, z_i6, z_i1]
  by_cases q1 : fX4_isBelow a2 (7 : Int32) = 0
  · rw [if_pos q1]
    exact ⟨-2, σ, τ1, by unfold fX4_drawn; rw [if_pos q1], rfl, L, tx, U, pe, th, S, sd, si, h.M g2⟩
  by_cases q2 : fX4_isBelow a3 (2 : Int32) = 0
  · rw [if_neg q1, if_pos q2]
    exact ⟨-2, σ, τ1, by unfold fX4_drawn; rw [if_neg q1, if_pos q2], rfl, L, tx, U, pe, th, S, sd, si, h.M g2⟩
  rcases z_below2 a2 7 (by omega) with ⟨e, -⟩ | ⟨N, hN, eN, -⟩
  · exact absurd e q1
  obtain ⟨r, σ2, τ2, k1, k2, k3, k4⟩ := z_drawnOf h.D h.ok h.Ud g2 a1 hN q2
  rw [if_neg q1, if_neg q2, eN, k2, eu_b2_t]
  exact ⟨r, σ2, τ2, k1, rfl, L, tx, U, pe, th, S, sd, si, (h.M k4).dev k3⟩
