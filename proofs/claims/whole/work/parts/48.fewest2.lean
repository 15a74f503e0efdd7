theorem d_sec1 {k31 : eu_T → Int32 → Int32 → Int32 → Int32 → Int32 → Int32 → Option (Int32 × eu_T)} {D : zD} {U : Nat} {pe th : Nat → Nat} {σ : eu_T} (h : zOl D U pe th σ) {t n m : Nat} (ht : t < 24) (hn : 2 ≤ n) {st fe : Int32} {P0 : Nat → Prop} (hm : isLn 144 P0 m) : ∃ σ' m', zfW U σ σ' ∧ isLn 144 (fun c => P0 c ∨ (c % 24 = t ∧ (U < 12 ∧ bt (sTk D U pe th t) (c / 24) = true) ∧ sTold D st fe (sW1 D U pe th t) = true)) m' ∧ fX1_leastFirst_L42 k31 n σ st fe (-1) 0 (znc 144 m) (nI t) (-1) = k31 σ' st fe (-1) 0 (znc 144 m') (nI (t + 1)) := by
  obtain ⟨n', rfl⟩ : ∃ n', n = n' + 1 + 1 := ⟨n - 2, by omega⟩
  obtain ⟨r, g1, g2⟩ := d_taker1 h ht
  obtain ⟨σ', m', f1, f2, f3⟩ := d_step (k31 := k31) (n := n' + 1) (v4 := -1) (v5 := 0) (st := st) (fe := fe) h ht (show ¬ (0 : Int32) ≤ -1 by decide) g1 g2 (fun q => d_W1 h (g1.2.1 (by have := g1.1; omega)).1 ht) hm
  refine ⟨σ', m', f1, f2, ?_⟩
  rw [f3, show (-1 : Int32) + 1 = 0 by decide, fX1_leastFirst_L42_s, if_pos (show (0 : Int32) ≤ 0 by decide), z_p1]
theorem d_first1 {D : zD} {U : Nat} {pe th : Nat → Nat} {st fe : Int32} : ∀ (k t n m : Nat) (σ : eu_T) (P0 : Nat → Prop), t + k = 24 → k < n → zOl D U pe th σ → isLn 144 P0 m → ∃ σ' m', zfW U σ σ' ∧ isLn 144 (fun c => P0 c ∨ (t ≤ c % 24 ∧ (U < 12 ∧ bt (sTk D U pe th (c % 24)) (c / 24) = true) ∧ sTold D st fe (sW1 D U pe th (c % 24)) = true)) m' ∧ fX1_leastFirst_L31 n σ st fe (-1) 0 (znc 144 m) (nI t) = some (znc 144 m', σ')
  | 0, t, 0, m, σ, P0, _, hn, _, _ => by omega
  | k + 1, t, 0, m, σ, P0, _, hn, _, _ => by omega
  | 0, t, n + 1, m, σ, P0, ht, _, h, hm => by
    refine ⟨σ, m, zfW.rf, hm.c (fun d hd => ⟨Or.inl, fun q => q.elim id (fun q => by omega)⟩), ?_⟩
    rw [fX1_leastFirst_L31_s, show (24 : Int32) = nI 24 from rfl, if_pos (le_p (show 24 ≤ t by omega) (by omega))]
  | k + 1, t, n + 1, m, σ, P0, ht, hn, h, hm => by
    obtain ⟨σ1, m1, f1, f2, f3⟩ := d_sec1 (k31 := fX1_leastFirst_L31 n) (n := 200) (st := st) (fe := fe) h (show t < 24 by omega) (by omega) hm
    obtain ⟨σ2, m2, g1, g2, g3⟩ := d_first1 k (t + 1) n m1 σ1 _ (by omega) (by omega) (h.W f1) f2
    refine ⟨σ2, m2, f1.tr g1, g2.c (fun d hd => ?_), ?_⟩
    · constructor
      · rintro ((q | ⟨q1, q2, q3⟩) | ⟨q1, q2⟩)
        · exact Or.inl q
        · exact Or.inr ⟨by omega, by rw [q1]; exact q2, by rw [q1]; exact q3⟩
        · exact Or.inr ⟨by omega, q2⟩
      · rintro (q | ⟨q1, q2, q3⟩)
        · exact Or.inl (Or.inl q)
        · by_cases w : d % 24 = t
          · rw [w] at q2 q3; exact Or.inl (Or.inr ⟨w, q2, q3⟩)
          · exact Or.inr ⟨by omega, q2, q3⟩
    · rw [fX1_leastFirst_L31_s, show (24 : Int32) = nI 24 from rfl, if_neg (le_n (show ¬ 24 ≤ t by omega) (by omega)), f3, g3]
def sQ2 (D : zD) (U : Nat) (pe th : Nat → Nat) (t t2 p : Nat) : Prop := U + 1 < 12 ∧ bt (sTk D U pe th t) p = true ∧ ∃ q, q < 32 ∧ bt (sTk D U pe th t2) q = true ∧ ¬ q = p
theorem d_sec2 {k31 : eu_T → Int32 → Int32 → Int32 → Int32 → Int32 → Int32 → Option (Int32 × eu_T)} {D : zD} {U : Nat} {pe th : Nat → Nat} {st fe : Int32} {t : Nat} (ht : t < 24) : ∀ (k j n m : Nat) (σ : eu_T) (P0 : Nat → Prop), j + k = 24 → k < n → zOl D U pe th σ → isLn 144 P0 m → ∃ σ' m', zfW U σ σ' ∧ isLn 144 (fun c => P0 c ∨ (c % 24 = t ∧ ∃ t2, j ≤ t2 ∧ t2 < 24 ∧ sQ2 D U pe th t t2 (c / 24) ∧ sTold D st fe (sW2 D U pe th t t2) = true)) m' ∧ fX1_leastFirst_L42 k31 n σ st fe 0 24 (znc 144 m) (nI t) (nI j) = k31 σ' st fe 0 24 (znc 144 m') (nI (t + 1))
  | 0, j, 0, m, σ, P0, _, hn, _, _ => by omega
  | k + 1, j, 0, m, σ, P0, _, hn, _, _ => by omega
  | 0, j, n + 1, m, σ, P0, hj, _, h, hm => by
    refine ⟨σ, m, zfW.rf, hm.c (fun d hd => ⟨Or.inl, fun q => q.elim id (fun ⟨_, t2, q1, q2, _⟩ => by omega)⟩), ?_⟩
    rw [fX1_leastFirst_L42_s, show (24 : Int32) = nI 24 from rfl, if_pos (le_p (show 24 ≤ j by omega) (by omega)), z_p1]
  | k + 1, j, n + 1, m, σ, P0, hj, hn, h, hm => by
    obtain ⟨r, r1, r2⟩ := d_taker2 h ht (show j < 24 by omega)
    obtain ⟨σ1, m1, f1, f2, f3⟩ := d_step (k31 := k31) (n := n) (v4 := 0) (v5 := 24) (st := st) (fe := fe) h ht (show ¬ (24 : Int32) ≤ nI j from le_n (a := 24) (show ¬ 24 ≤ j by omega) (by omega)) r1 r2 (fun q => d_W2 h (r1.2.1 (by have := r1.1; omega)).1 ht (show j < 24 by omega)) hm
    obtain ⟨σ2, m2, g1, g2, g3⟩ := d_sec2 ht k (j + 1) n m1 σ1 _ (by omega) (by omega) (h.W f1) f2
    refine ⟨σ2, m2, f1.tr g1, g2.c (fun d hd => ?_), ?_⟩
    · constructor
      · rintro ((q | ⟨q1, q2, q3⟩) | ⟨q1, t2, q2, q3⟩)
        · exact Or.inl q
        · exact Or.inr ⟨q1, j, by omega, by omega, q2, q3⟩
        · exact Or.inr ⟨q1, t2, by omega, q3⟩
      · rintro (q | ⟨q1, t2, q2, q3, q4, q5⟩)
        · exact Or.inl (Or.inl q)
        · by_cases w : t2 = j
          · rw [w] at q4 q5; exact Or.inl (Or.inr ⟨q1, q4, q5⟩)
          · exact Or.inr ⟨q1, t2, by omega, q3, q4, q5⟩
    · rw [f3, z_p1, g3]
theorem d_first2 {D : zD} {U : Nat} {pe th : Nat → Nat} {st fe : Int32} : ∀ (k t n m : Nat) (σ : eu_T) (P0 : Nat → Prop), t + k = 24 → k < n → zOl D U pe th σ → isLn 144 P0 m → ∃ σ' m', zfW U σ σ' ∧ isLn 144 (fun c => P0 c ∨ (t ≤ c % 24 ∧ ∃ t2, t2 < 24 ∧ sQ2 D U pe th (c % 24) t2 (c / 24) ∧ sTold D st fe (sW2 D U pe th (c % 24) t2) = true)) m' ∧ fX1_leastFirst_L31 n σ st fe 0 24 (znc 144 m) (nI t) = some (znc 144 m', σ')
  | 0, t, 0, m, σ, P0, _, hn, _, _ => by omega
  | k + 1, t, 0, m, σ, P0, _, hn, _, _ => by omega
  | 0, t, n + 1, m, σ, P0, ht, _, h, hm => by
    refine ⟨σ, m, zfW.rf, hm.c (fun d hd => ⟨Or.inl, fun q => q.elim id (fun q => by omega)⟩), ?_⟩
    rw [fX1_leastFirst_L31_s, show (24 : Int32) = nI 24 from rfl, if_pos (le_p (show 24 ≤ t by omega) (by omega))]
  | k + 1, t, n + 1, m, σ, P0, ht, hn, h, hm => by
    obtain ⟨σ1, m1, f1, f2, f3⟩ := d_sec2 (k31 := fX1_leastFirst_L31 n) (st := st) (fe := fe) (show t < 24 by omega) 24 0 200 m σ P0 (by omega) (by omega) h hm
    obtain ⟨σ2, m2, g1, g2, g3⟩ := d_first2 k (t + 1) n m1 σ1 _ (by omega) (by omega) (h.W f1) f2
    refine ⟨σ2, m2, f1.tr g1, g2.c (fun d hd => ?_), ?_⟩
    · constructor
      · rintro ((q | ⟨q1, t2, -, q2⟩) | ⟨q1, q2⟩)
        · exact Or.inl q
        · exact Or.inr ⟨by omega, t2, by rw [q1]; exact q2⟩
        · exact Or.inr ⟨by omega, q2⟩
      · rintro (q | ⟨q1, t2, q2⟩)
        · exact Or.inl (Or.inl q)
        · by_cases w : d % 24 = t
          · rw [w] at q2; exact Or.inl (Or.inr ⟨w, t2, by omega, q2⟩)
          · exact Or.inr ⟨by omega, t2, q2⟩
    · rw [nI_0] at f3
      rw [fX1_leastFirst_L31_s, show (24 : Int32) = nI 24 from rfl, if_neg (le_n (show ¬ 24 ≤ t by omega) (by omega))]
      rw [show nI 24 = (24 : Int32) from rfl, f3, g3]
theorem sTk_own {D : zD} {U : Nat} {pe th : Nat → Nat} (hU : U < 12) : sTk D U pe th (12 + U) = 0 := by
  have e : bt (sL D pe th 99 U).1 U = false := by
    cases q : bt (sL D pe th 99 U).1 U
    · rfl
    · have := sL_lt D pe th 99 U (by omega) U (by omega) q; omega
  have e2 : sOwn D pe (sL D pe th 99 U).1 (12 + U) = none := by
    unfold sOwn
    rw [if_neg (show ¬ 12 + U < 12 by omega), show 12 + U - 12 = U by omega, e, if_neg (by decide)]
  unfold sTk
  rw [e2]
theorem sTk_6 {D : zD} {U : Nat} {pe th : Nat → Nat} {t q : Nat} (hq : q < 32) (h : bt (sTk D U pe th t) q = true) : q < 6 := by
  unfold sTk at h
  cases e : sOwn D pe (sL D pe th 99 U).1 t with
  | none => rw [e] at h; rw [b_0] at h; exact absurd h (by decide)
  | some o =>
    rw [e] at h
    have h2 : bt (sSp D pe th 99 U &&& (zb o ^^^ (-1))) q = true := h
    rw [b_and, Bool.and_eq_true, sSp_bt hq, Bool.and_eq_true, decide_eq_true_iff] at h2
    exact h2.1.1
/-- two by one law: the second that undoes the first brings nothing new -/
theorem sV_2 {D : zD} {U : Nat} {pe th : Nat → Nat} {st fe : Int32} (hok : ∀ i, i < U → th i < 24) (hno : ¬ sTold D st fe (sSt D pe th 99 U) = true) (c : Nat) : sV D U pe th st fe 2 c ↔ ∃ t2, t2 < 24 ∧ sQ2 D U pe th (c % 24) t2 (c / 24) ∧ sTold D st fe (sW2 D U pe th (c % 24) t2) = true := by
  unfold sV sQ2 sP2 sL2
  constructor
  · rintro ⟨q1, -, q2⟩
    obtain ⟨c2, hc2, q3, q4⟩ := q2 (by decide)
    rw [Bool.and_eq_true, decide_eq_true_iff] at q1
    rw [Bool.and_eq_true, decide_eq_true_iff, Bool.and_eq_true, decide_eq_true_iff] at q3
    by_cases w : c2 % 24 = 12 + U
    · rw [w, sW2_back q3.1 hok] at q4
      exact absurd q4 hno
    · rw [if_neg w] at q3
      exact ⟨c2 % 24, by omega, ⟨q3.1, q1.2, c2 / 24, by omega, q3.2.2, q3.2.1⟩, q4⟩
  · rintro ⟨t2, ht2, ⟨q1, q2, q, hq, q3, q4⟩, q5⟩
    have h6 := sTk_6 hq q3
    have w : ¬ t2 = 12 + U := fun w => by
      rw [w, sTk_own (by omega), b_0] at q3
      exact absurd q3 (by decide)
    refine ⟨by rw [q2, decide_eq_true (show U < 12 by omega)]; rfl, fun q => absurd q (by decide), fun _ => ⟨24 * q + t2, by omega, ?_, ?_⟩⟩
    · rw [show (24 * q + t2) / 24 = q by omega, show (24 * q + t2) % 24 = t2 by omega, if_neg w, q3, decide_eq_true q4, decide_eq_true q1]
      rfl
    · rw [show (24 * q + t2) % 24 = t2 by omega]
      exact q5
theorem sV_1 {D : zD} {U : Nat} {pe th : Nat → Nat} {st fe : Int32} (c : Nat) : sV D U pe th st fe 1 c ↔ (U < 12 ∧ bt (sTk D U pe th (c % 24)) (c / 24) = true) ∧ sTold D st fe (sW1 D U pe th (c % 24)) = true := by
  unfold sV
  rw [Bool.and_eq_true, decide_eq_true_iff]
  exact ⟨fun q => ⟨q.1, q.2.1 rfl⟩, fun q => ⟨q.1, fun _ => q.2, fun w => absurd rfl w⟩⟩
theorem d_leastFirst {D : zD} {U : Nat} {pe th : Nat → Nat} {st fe : Int32} {σ : eu_T} (h : zOl D U pe th σ) (hno : ¬ sTold D st fe (sSt D pe th 99 U) = true) {e : Nat} (he : e = 1 ∨ e = 2) : ∃ σ' r, zfW U σ σ' ∧ isLn 144 (sV D U pe th st fe e) r ∧ fX1_leastFirst σ st fe (nI e) = some (znc 144 r, σ') := by
  have h0 : isLn 144 (fun _ => False) 144 := ⟨by omega, fun q => by omega, fun _ _ q => q⟩
  unfold fX1_leastFirst fX1_leastFirst_J10 fX1_leastFirst_J23
  rcases he with rfl | rfl
  · obtain ⟨σ', r, f1, f2, f3⟩ := d_first1 (st := st) (fe := fe) 24 0 200 144 σ _ (by omega) (by omega) h h0
    rw [nI_0, show znc 144 144 = -1 from rfl] at f3
    refine ⟨σ', r, f1, f2.c (fun c hc => ?_), ?_⟩
    · rw [sV_1]
      exact ⟨fun q => q.elim False.elim (fun q => q.2), fun q => Or.inr ⟨by omega, q⟩⟩
    · rw [if_pos (show nI 1 = (1 : Int32) from rfl), if_pos (show nI 1 = (1 : Int32) from rfl), f3]
  · obtain ⟨σ', r, f1, f2, f3⟩ := d_first2 (st := st) (fe := fe) 24 0 200 144 σ _ (by omega) (by omega) h h0
    rw [nI_0, show znc 144 144 = -1 from rfl] at f3
    refine ⟨σ', r, f1, f2.c (fun c hc => ?_), ?_⟩
    · rw [sV_2 (fun i hi => (h.2.1.2.2 i hi).2.2.2) hno]
      exact ⟨fun q => q.elim False.elim (fun q => q.2), fun q => Or.inr ⟨by omega, q⟩⟩
    · rw [if_neg (show ¬ nI 2 = (1 : Int32) by decide), if_neg (show ¬ nI 2 = (1 : Int32) by decide), f3]
theorem z_few_L {τ0 : eu_T} {D : zD} {U : Nat} {pe th : Nat → Nat} {st fe a4 : Int32} (hno : ¬ sTold D st fe (sSt D pe th 99 U) = true) {nn : Nat} (hnn : nn < 3) : ∀ (k e n1 n2 : Nat) (σ τ : eu_T), e + k = nn + 1 → 1 ≤ e → k < n1 → k < n2 → zOl D U pe th σ → zM τ0 D U pe th τ → ∃ r σ' τ', fX4_fewest_L91 n1 σ st fe (nI nn) a4 (nI e) = some (r, σ') ∧ fX5_fewestOf_L36 n2 τ st fe (nI nn) a4 (nI e) = some (r, τ') ∧ zfW U σ σ' ∧ zM τ0 D U pe th τ'
  | 0, e, 0, _, σ, τ, _, _, h1, _, _, _ => by omega
  | k + 1, e, 0, _, σ, τ, _, _, h1, _, _, _ => by omega
  | 0, e, _, 0, σ, τ, _, _, _, h1, _, _ => by omega
  | k + 1, e, _, 0, σ, τ, _, _, _, h1, _, _ => by omega
  | 0, e, n1 + 1, n2 + 1, σ, τ, he, _, _, _, h, hM => by
    refine ⟨-1, σ, τ, ?_, ?_, zfW.rf, hM⟩
    · rw [fX4_fewest_L91_s, if_pos (lt_p (show nn < e by omega) (by omega))]
    · rw [fX5_fewestOf_L36_s, if_pos (lt_p (show nn < e by omega) (by omega))]
  | k + 1, e, n1 + 1, n2 + 1, σ, τ, he, he1, hn1, hn2, h, hM => by
    obtain ⟨σ1, r, f1, f2, f3⟩ := d_leastFirst h hno (show e = 1 ∨ e = 2 by omega)
    obtain ⟨r', τ1, g1, g2, g3⟩ := m_few_in (k36 := fX5_fewestOf_L36 n2) (st := st) (fe := fe) (v3 := nI nn) (v4 := a4) (show e < 10 by omega) 144 0 200 τ (by omega) (by omega) hM (fun c hc => absurd hc (Nat.not_lt_zero c))
    rw [nI_0] at g3
    have er : r' = r := g1.u f2 (fun _ _ => Iff.rfl)
    have hr := f2.1
    subst er
    rw [fX4_fewest_L91_s, fX5_fewestOf_L36_s, if_neg (lt_n (show ¬ nn < e by omega) (by omega)), if_neg (lt_n (show ¬ nn < e by omega) (by omega)), f3, eu_b2_t, g3, z_p1]
    by_cases c : r' = 144
    · obtain ⟨r2, σ2, τ2, k1, k2, k3, k4⟩ := z_few_L (a4 := a4) hno hnn k (e + 1) n1 n2 σ1 τ1 (by omega) (by omega) (by omega) (by omega) (h.W f1) g2
      rw [show znc 144 r' = -1 by unfold znc; rw [if_pos c], if_pos rfl, if_pos c]
      exact ⟨r2, σ2, τ2, k1, k2, f1.tr k3, k4⟩
    · rw [show znc 144 r' = nI r' by unfold znc; rw [if_neg c], if_neg (z_nm1 (by omega)), if_neg c]
      by_cases c2 : a4 = 0
      · rw [if_pos c2, if_pos c2]
        exact ⟨_, σ1, τ1, rfl, rfl, f1, g2⟩
      · rw [if_neg c2, if_neg c2]
        exact ⟨_, σ1, τ1, rfl, rfl, f1, g2⟩
theorem z_fewestOf {τ0 : eu_T} {D : zD} {U : Nat} {pe th : Nat → Nat} {σ τ : eu_T} (hD : zDd D σ) (hU : zUd U pe th σ) (h : zM τ0 D U pe th τ) {st fe a4 : Int32} {nn : Nat} (q1 : ¬ fX4_isBelow st (4096 : Int32) = 0) (q2 : ¬ fX4_isBelow fe (4096 : Int32) = 0) (q3 : (st &&& fe) = 0) (hnn : nn < 3) (q4 : ¬ fX4_isBelow a4 (2 : Int32) = 0) : ∃ r σ' τ', fX4_fewest σ st fe (nI nn) a4 = some (r, σ') ∧ fX5_fewestOf τ st fe (nI nn) a4 = some (r, τ') ∧ zfs U σ σ' ∧ zM τ0 D U pe th τ' := by
  have hU12 := hU.1
  obtain ⟨σ1, f1, f2, f3⟩ := d_renew hD hU
  obtain ⟨τ1, g1, g2, g3, -⟩ := m_judges z_sk2 h.2.1 h.2.2.1
  have h1 := h.J g2
  have hs := m_standing h1.2.1 h1.2.2.1 (Nat.le_refl U) hU12 g3 (sL_ltb D pe th 99 U hU12)
  unfold fX4_fewest fX5_fewestOf
  rw [if_neg q1, if_neg q2, if_pos q3, show (3 : Int32) = nI 3 from rfl, z_below (by omega) (by omega), if_pos hnn, if_neg (show ¬ (1 : Int32) = 0 by decide), if_neg q4, f1, eu_b2_t, d_W0 f3, eu_b2_t, d_told f3.1, h.2.2.2.2, g1, eu_b2_t, h1.2.2.2.2, m_told h1.2.1 hs, eu_bd_t]
  by_cases c : sTold D st fe (sSt D pe th 99 U) = true
  · rw [if_pos c, if_neg (show ¬ (1 : Int32) = 0 by decide), if_neg (show ¬ (1 : Int32) = 0 by decide)]
    by_cases c2 : a4 = 0
    · rw [if_pos c2, if_pos c2]
      exact ⟨_, σ1, τ1, rfl, rfl, f2, h1⟩
    · rw [if_neg c2, if_neg c2]
      exact ⟨_, σ1, τ1, rfl, rfl, f2, h1⟩
  · rw [if_neg c, if_pos (show (0 : Int32) = 0 from rfl), if_pos (show (0 : Int32) = 0 from rfl)]
    obtain ⟨r, σ2, τ2, k1, k2, k3, k4⟩ := z_few_L (a4 := a4) c hnn nn 1 200 200 σ1 τ1 (by omega) (by omega) (by omega) (by omega) f3 h1
    exact ⟨r, σ2, τ2, k1, k2, f2.tr k3.s, k4⟩
theorem z_i4095 (a : Int32) : fX5_in a.toInt64 (0 : Int64) (4095 : Int64) = fX4_isBelow a (4096 : Int32) := z_inb a 4096 (by omega) _ (by decide)
theorem sim_fewest : ∀ (σ τ : eu_T) (a1 a2 a3 a4 : Int32), eu_Rel σ τ → ∃ (r : Int32) (σ' τ' : eu_T), fX4_fewest σ a1 a2 a3 a4 = some (r, σ') ∧ fX5_fewest τ a1 a2 a3 a4 = some (r, τ') ∧ eu_Rel σ' τ' := by
  rintro σ τ a1 a2 a3 a4 ⟨L, tx, U, pe, th, S, sd, si, h⟩
  obtain ⟨τ1, g1, g2⟩ := h.reads
  have bad : ∀ X : Option (Int32 × eu_T), X = some (-2, τ1) → fX4_fewest σ a1 a2 a3 a4 = some (-2, σ) → ∃ (r : Int32) (σ' τ' : eu_T), fX4_fewest σ a1 a2 a3 a4 = some (r, σ') ∧ X = some (r, τ') ∧ eu_Rel σ' τ' := fun X e1 e2 => ⟨-2, σ, τ1, e2, e1, L, tx, U, pe, th, S, sd, si, h.M g2⟩
  unfold fX5_fewest fX5_fewest_J51 fX5_fewest_J52 fX5_fewest_J79
  rw [g1, eu_b2_t, z_i4095, z_i4095, z_i2, z_i1]
  by_cases q1 : fX4_isBelow a1 (4096 : Int32) = 0
  · rw [if_pos q1]
    exact bad _ rfl (by unfold fX4_fewest; rw [if_pos q1])
  by_cases q2 : fX4_isBelow a2 (4096 : Int32) = 0
  · rw [if_neg q1, if_pos q2]
    exact bad _ rfl (by unfold fX4_fewest; rw [if_neg q1, if_pos q2])
  by_cases q3 : (a1 &&& a2) = 0
  · by_cases q4 : fX4_isBelow a3 (3 : Int32) = 0
    · rw [if_neg q1, if_neg q2, if_pos q3, if_pos q4]
      exact bad _ rfl (by unfold fX4_fewest; rw [if_neg q1, if_neg q2, if_pos q3, if_pos q4])
    · rcases z_below2 a3 3 (by omega) with ⟨e, -⟩ | ⟨nn, hnn, en, -⟩
      · exact absurd e q4
      by_cases q5 : fX4_isBelow a4 (2 : Int32) = 0
      · rw [if_neg q1, if_neg q2, if_pos q3, if_neg q4, if_neg (show ¬ (1 : Int32) = 0 by decide), if_pos q5]
        exact bad _ rfl (by unfold fX4_fewest; rw [if_neg q1, if_neg q2, if_pos q3, if_neg q4, if_pos q5])
      · obtain ⟨r, σ2, τ2, k1, k2, k3, k4⟩ := z_fewestOf h.D h.Ud g2 q1 q2 q3 hnn q5
        rw [if_neg q1, if_neg q2, if_pos q3, if_neg q4, if_neg (show ¬ (1 : Int32) = 0 by decide), if_neg q5, en, k2, eu_b2_t]
        exact ⟨r, σ2, τ2, k1, rfl, L, tx, U, pe, th, S, sd, si, (h.M k4).dev k3⟩
  · rw [if_neg q1, if_neg q2, if_neg q3]
    exact bad _ rfl (by unfold fX4_fewest; rw [if_neg q1, if_neg q2, if_neg q3])
