theorem z_tell {D : zD} {n p d : Nat} {pek thk : Nat → Nat} (hn : n < 12) (hok : ∀ i, i < n → pek i < 6 ∧ thk i < 24) (hd6 : ∀ d, d < D.1 → D.2.1 d < 6) (h12 : D.1 ≤ 12) (hp : p < 6) (hd : d < D.1) (hne : ¬ D.2.1 d = p) (hs : bt (sSp D pek thk 99 n) p = true) : sL D (nup pek n p) (nup thk n d) 99 (n + 1) = ((sL D pek thk 99 n).1 ||| zb n, (sL D pek thk 99 n).2 ||| zb p) := by
  refine sL_1 (by omega) hok ?_
  have eo : sOwn D pek (sL D pek thk 99 n).1 d = some (D.2.1 d) := by
    unfold sOwn
    rw [if_pos (show d < 12 by omega), if_pos hd]
  rw [sLw_1 (by omega) hok hd6 hp (show d < 24 by omega)]
  unfold sTk
  rw [eo]
  show bt (sSp D pek thk 99 n &&& (zb (D.2.1 d) ^^^ (-1))) p = true
  have := hd6 d hd
  rw [b_and, z_not (by omega), show bt (zb (D.2.1 d)) p = decide (p = D.2.1 d) from z_bit (by omega) (by omega), hs, decide_eq_false (fun q => hne q.symm)]
  rfl
theorem z_draw_L {τ0 : eu_T} {D : zD} {U M N : Nat} {pe th : Nat → Nat} {what : Int32} (hok : zDok D) (hMN : M ≤ N) (hMU : M + U ≤ 12) (hor : M = N ∨ M + U = 12) (hN : N ≤ 6) : ∀ (m k n1 n2 : Nat) (pek thk : Nat → Nat) (σ τ : eu_T), k + m = M → m < n1 → m + 2 < n2 → zDd D σ → σ 1 5 = sUn (sL D pek thk 99 (U + k)).1 thk → σ 1 6 = nI k → σ 1 7 = τ 25 22 → zM τ0 D U pe th τ → zUm (U + k) pek thk τ → ∃ σ' τ', fX1_draw_L46 n1 σ (sSp D pek thk 99 (U + k)) (nI M) = some (0, σ') ∧ fX5_drawnOf_L11 n2 τ (nI N) what (nI k) 1 = some (if what = 0 then sStand D (σ' 1 5) else σ' 1 6, τ') ∧ (∀ q, q ≠ 1 → σ' q = σ q) ∧ zM τ0 D U pe th τ'
  | m, k, 0, _, pek, thk, σ, τ, _, h, _, _, _, _, _, _, _ => by omega
  | m, k, _, 0, pek, thk, σ, τ, _, _, h, _, _, _, _, _, _ => by omega
  | 0, k, n1 + 1, n2 + 1, pek, thk, σ, τ, hk, _, _, hD, e5, e6, e7, h, hU => by
    obtain ⟨τ', f1, f2⟩ := m_J160 h (show U + k ≤ 12 by omega) hU what
    refine ⟨σ, τ', ?_, ?_, fun _ _ => rfl, f2⟩
    · rw [fX1_draw_L46_s, e6, if_pos (le_p (show M ≤ k by omega) (by omega))]
    · rw [fX5_drawnOf_L11_s, if_neg (show ¬ (1 : Int32) = 0 by decide), f1, e5, e6, h.2.2.2.2, nI_add, show (12 : Int32) = nI 12 from rfl]
      by_cases c : N ≤ k
      · rw [if_pos (le_p c (by omega))]
      · rw [if_neg (le_n c (by omega)), if_pos (le_p (show 12 ≤ U + k by omega) (by omega))]
  | m + 1, k, n1 + 1, n2 + 1, pek, thk, σ, τ, hk, hn1, hn2, hD, e5, e6, e7, h, hU => by
    have h12 := hD.1
    have hU12 := h.2.2.2.1
    have hd6 : ∀ d, d < D.1 → D.2.1 d < 6 := fun d hd => (h.2.1.2.2 d hd).2.1
    obtain ⟨τ1, g1, g2, g3, g4, -⟩ := m_judges (n := U + k) z_sk2 h.2.1 hU
    have h1 := h.J g2
    have hU1 := g2.U hU
    have e22 : τ1 25 22 = τ 25 22 := g2.2 22 (by decide) (by decide) (by decide)
    have stop : ∀ τ2, zM τ0 D U pe th τ2 → zUm (U + k) pek thk τ2 → ∃ τ', fX5_drawnOf_L11 n2 τ2 (nI N) what (nI k) 0 = some (if what = 0 then sStand D (σ 1 5) else σ 1 6, τ') ∧ zM τ0 D U pe th τ' := fun τ2 a b => by
      obtain ⟨τ', f1, f2⟩ := m_J160 a (show U + k ≤ 12 by omega) b what
      obtain ⟨n3, rfl⟩ : ∃ n3, n2 = n3 + 1 := ⟨n2 - 1, by omega⟩
      refine ⟨τ', ?_, f2⟩
      rw [fX5_drawnOf_L11_s, if_pos (show (0 : Int32) = 0 from rfl), f1, e5, e6]
    rw [fX1_draw_L46_s, fX5_drawnOf_L11_s, if_neg (show ¬ (1 : Int32) = 0 by decide), e6, if_neg (le_n (show ¬ M ≤ k by omega) (by omega)), h.2.2.2.2, nI_add, show (12 : Int32) = nI 12 from rfl, if_neg (le_n (show ¬ N ≤ k by omega) (by omega)), if_neg (le_n (show ¬ 12 ≤ U + k by omega) (by omega)), g1, eu_b2_t, g4]
    have eS : (63 : Int32) &&& ((sL D pek thk 99 (U + k)).2 ^^^ (-1)) = sSp D pek thk 99 (U + k) := rfl
    rw [eS]
    unfold fX5_drawnOf_J67
    by_cases c0 : sSp D pek thk 99 (U + k) = 0
    · obtain ⟨τ', f1, f2⟩ := stop τ1 h1 hU1
      rw [if_pos c0, if_pos c0, if_pos (show (0 : Int32) = 0 from rfl), f1]
      exact ⟨σ, τ', rfl, rfl, fun _ _ => rfl, f2⟩
    · rw [if_neg c0, if_neg c0, if_neg (show ¬ (1 : Int32) = 0 by decide)]
      obtain ⟨p, s, c, R, hp12, hbp, l1, l2, l3, l4⟩ := z_lot (m := sSp D pek thk 99 (U + k)) (σ := σ) (τ := τ1) (fun j hj q => by rw [sSp_bt hj, Bool.and_eq_true, decide_eq_true_iff] at q; omega) c0 (by rw [e22]; exact e7)
      have hp : p < 6 := by
        rw [sSp_bt (by omega), Bool.and_eq_true, decide_eq_true_iff] at hbp
        exact hbp.1
      have h2 := h1.up (i := 22) s (by omega)
      have hU2 : zUm (U + k) pek thk (eu_up τ1 25 22 s) := hU1.c (eu_up_n (by decide))
      have hstd := m_standing h2.2.1 hU2 (Nat.le_refl _) (show U + k ≤ 12 by omega) (fun i hi => by rw [eu_up_n (by decide)]; exact g3 i hi) (sL_ltb D pek thk 99 (U + k) (by omega))
      have hD7 : zDd D (eu_up σ 1 7 s) := hD.c (by rw [eu_up_n (by decide)]) (by rw [eu_up_n (by decide)]) (eu_up_n (by decide)) (eu_up_n (by decide))
      obtain ⟨r9, r12, o1, o2, o3, o4⟩ := z_others hD7 h2.2.1 hp (sStand D (sUn (sL D pek thk 99 (U + k)).1 thk)) (z_stD h12)
      have e57 : eu_up σ 1 7 s 1 5 = sUn (sL D pek thk 99 (U + k)).1 thk := by rw [up_i _ _ (by decide)]; exact e5
      rw [l1, eu_b2_t, e57, d_standing0 hD7, eu_bd_t, o1, eu_bd_t, o3, l2, eu_bd_t, l3, eu_b2_t, l4, eu_bd_t, h2.2.2.2.2, nI_add, hstd, eu_bd_t, o2, eu_bd_t]
      unfold fX5_drawnOf_J120
      by_cases c1 : (sStand D (sUn (sL D pek thk 99 (U + k)).1 thk) &&& r12) = 0
      · obtain ⟨τ', f1, f2⟩ := stop _ h2 hU2
        rw [if_pos c1, if_pos c1, if_pos (show (0 : Int32) = 0 from rfl), f1]
        refine ⟨_, τ', rfl, ?_, fun q hq => eu_up_n hq, f2⟩
        rw [up_i _ _ (by decide), up_i _ _ (by decide)]
      · rw [if_neg c1, if_neg c1, if_neg (show ¬ (1 : Int32) = 0 by decide)]
        obtain ⟨d, s2, c', R', hd12, hbd, j1, j2, j3, j4⟩ := z_lot (m := sStand D (sUn (sL D pek thk 99 (U + k)).1 thk) &&& r12) (σ := eu_up σ 1 7 s) (τ := eu_up τ1 25 22 s) (fun j hj q => by have := (o4 j hj q).2.1; omega) c1 (by rw [up_s, up_s])
        obtain ⟨-, hdD, hdne⟩ := o4 d (by omega) hbd
        have hL := z_tell (show U + k < 12 by omega) (fun i hi => (hU.2 i hi).2.2) hd6 h12 hp hdD hdne hbp
        rw [j1, eu_b2_t, z_lt_i, z_lt_i, j2, eu_bd_t, j3, eu_b2_t, j4, eu_bd_t]
        unfold fX5_tells
        rw [h2.2.2.2.2, nI_add, z_n2, z_p1, z_p1, z_gd (by omega) (by omega), z_cl (by omega), z_lt_i, z_gd (by omega) (by omega), z_cl (by omega), z_lt_i, eu_b2_t]
        have h3 := h2.up (i := 22) s2 (by omega)
        have fA : zfA U (eu_up (eu_up τ1 25 22 s) 25 22 s2) (eu_up (eu_up (eu_up (eu_up τ1 25 22 s) 25 22 s2) 32 (2 * (U + k)) (nI p)) 32 (2 * (U + k) + 1) (nI d)) := ⟨fun q _ r _ => by rw [eu_up_n r, eu_up_n r], fun j _ _ _ => by rw [eu_up_n (k := 32) (by decide), eu_up_n (k := 32) (by decide)], fun j q => by rw [up_i _ _ (by omega), up_i _ _ (by omega)]⟩
        have key := z_draw_L (what := what) hok hMN hMU hor hN m (k + 1) n1 n2 (nup pek (U + k) p) (nup thk (U + k) d) (eu_up (eu_up (eu_up (eu_up σ 1 7 s) 1 7 s2) 1 5 (sUn (sL D pek thk 99 (U + k)).1 thk ||| zb d)) 1 6 (nI (k + 1))) (eu_up (eu_up (eu_up (eu_up τ1 25 22 s) 25 22 s2) 32 (2 * (U + k)) (nI p)) 32 (2 * (U + k) + 1) (nI d)) (by omega) (by omega) (by omega) (hD.c (by simp only [eu_up_n (show (3 : Nat) ≠ 1 by decide)]) (by simp only [eu_up_n (show (3 : Nat) ≠ 1 by decide)]) (by simp only [eu_up_n (show (7 : Nat) ≠ 1 by decide)]) (by simp only [eu_up_n (show (8 : Nat) ≠ 1 by decide)])) (by
          rw [up_i _ _ (by decide), up_s, show U + (k + 1) = U + k + 1 by omega, hL]
          exact (sUn_app (fun j hj q => sL_lt D pek thk 99 (U + k) (by omega) j hj q) (by omega) (by omega) (fun i hi => (hU.2 i hi).2.2.2)).symm) (up_s _ _ _ _) (by
          rw [up_i _ _ (by decide), up_i _ _ (by decide), up_s, eu_up_n (by decide), eu_up_n (by decide), up_s]) (h3.A fA) ⟨by omega, fun i hi => by
            by_cases w : i = U + k
            · rw [w, nup_s, nup_s, up_s, up_i _ _ (by omega), up_s]
              exact ⟨rfl, rfl, hp, by omega⟩
            · rw [nup_n _ _ _ w, nup_n _ _ _ w, up_i _ _ (by omega), up_i _ _ (by omega), up_i _ _ (by omega), up_i _ _ (by omega), eu_up_n (by decide), eu_up_n (by decide)]
              exact hU1.2 i (by omega)⟩
        obtain ⟨σ', τ', k1, k2, k3, k4⟩ := key
        have eP : sSp D (nup pek (U + k) p) (nup thk (U + k) d) 99 (U + (k + 1)) = sSp D pek thk 99 (U + k) &&& (zb p ^^^ (-1)) := by
          show (63 : Int32) &&& ((sL D (nup pek (U + k) p) (nup thk (U + k) d) 99 (U + (k + 1))).2 ^^^ (-1)) = (63 : Int32) &&& ((sL D pek thk 99 (U + k)).2 ^^^ (-1)) &&& (zb p ^^^ (-1))
          rw [show U + (k + 1) = U + k + 1 by omega, hL]
          apply b_ext
          intro j hj
          show bt ((63 : Int32) &&& (((sL D pek thk 99 (U + k)).2 ||| zb p) ^^^ (-1))) j = _
          rw [b_and, b_and, b_and, z_not hj, z_not hj, z_not hj, b_or]
          cases bt 63 j <;> cases bt (sL D pek thk 99 (U + k)).2 j <;> cases bt (zb p) j <;> rfl
        rw [eP] at k1
        have e613 : eu_up (eu_up (eu_up σ 1 7 s) 1 7 s2) 1 5 (sUn (sL D pek thk 99 (U + k)).1 thk ||| zb d) 1 6 + 1 = nI (k + 1) := by
          rw [up_i _ _ (by decide), up_i _ _ (by decide), up_i _ _ (by decide), e6, z_p1]
        rw [e613]
        refine ⟨σ', τ', k1, k2, fun q hq => ?_, k4⟩
        rw [k3 q hq, eu_up_n hq, eu_up_n hq, eu_up_n hq, eu_up_n hq]
