/-! ===== copy ===== -/
theorem z_add64 {x m : Nat} (hx : x < 2 ^ 31) (hm : m < 2 ^ 31) : ((nI x).toInt64 + (nI m).toInt64).toInt = (x : Int) + m := by
  rw [Int64.toInt_add, z_w, z_w, nI_toInt hx, nI_toInt hm]
  exact Int.bmod_eq_of_le (by omega) (by omega)
theorem z_fit {x m z : Nat} (hx : x < 2 ^ 31) (hm : m < 2 ^ 31) (hz : z ≤ 60) : (0 < lg_cmp ((nI x).toInt64 + (nI m).toInt64) (nI z).toInt64 ↔ ¬ x + m ≤ z) ∧ (lg_cmp ((nI x).toInt64 + (nI m).toInt64) (nI z).toInt64 ≤ 0 ↔ x + m ≤ z) := by
  obtain ⟨-, c2, c3⟩ := z_cmp ((nI x).toInt64 + (nI m).toInt64) (nI z).toInt64
  constructor
  · rw [c2, Int64.lt_iff_toInt_lt, z_add64 hx hm, z_w, nI_toInt (by omega)]
    omega
  · rw [c3, Int64.le_iff_toInt_le, z_add64 hx hm, z_w, nI_toInt (by omega)]
    omega
theorem d_hasItems {σ : eu_T} {k z x m : Nat} (hx : x < 2 ^ 31) (hm : m < 2 ^ 31) (hz : z ≤ 60) (e : σ k 3 = nI z) : fX2_hasItems σ k (nI x) (nI m) = if x + m ≤ z then 1 else 0 := by
  unfold fX2_hasItems fX2_hasItems_J30
  rw [e, if_neg (nI_pos (by omega)), if_neg (nI_pos (by omega))]
  by_cases c : z < x
  · rw [if_pos (show nI z < nI x from (nI_ltI (by omega) (by omega)).mpr c), if_neg (show ¬ x + m ≤ z by omega)]
  · rw [if_neg (show ¬ nI z < nI x from fun q => c ((nI_ltI (by omega) (by omega)).mp q)), z_sub (by omega)]
    by_cases c2 : z - x < m
    · rw [if_pos (show nI (z - x) < nI m from (nI_ltI (by omega) (by omega)).mpr c2), if_neg (show ¬ x + m ≤ z by omega)]
    · rw [if_neg (show ¬ nI (z - x) < nI m from fun q => c2 ((nI_ltI (by omega) (by omega)).mp q)), if_pos (show x + m ≤ z by omega)]
theorem m_copy2 {s2 y m : Nat} (hs : s2 < 4) (hy : y + m ≤ 60) : ∀ (c i n : Nat) (τ : eu_T), i + c = m → c < n → ∃ τ', fX5_copy_L157 n τ (nI s2) (nI y) (nI m) (nI i) = some (1, τ') ∧ (∀ q, q ≠ 28 → τ' q = τ q) ∧ ∀ j, τ' 28 j = if 60 * s2 + y + i ≤ j ∧ j < 60 * s2 + y + m then τ 29 (j - (60 * s2 + y)) else τ 28 j
  | 0, i, 0, τ, _, hn => by omega
  | c + 1, i, 0, τ, _, hn => by omega
  | 0, i, n + 1, τ, hi, _ => by
    refine ⟨τ, by rw [fX5_copy_L157_s, if_pos (le_p (show m ≤ i by omega) (by omega))], fun _ _ => rfl, fun j => by rw [if_neg (by omega)]⟩
  | c + 1, i, n + 1, τ, hi, hn => by
    obtain ⟨τ', g1, g2, g3⟩ := m_copy2 hs hy c (i + 1) n (eu_up τ 28 (60 * s2 + y + i) (τ 29 i)) (by omega) (by omega)
    refine ⟨τ', ?_, fun q hq => by rw [g2 q hq, eu_up_n hq], fun j => ?_⟩
    · rw [fX5_copy_L157_s, if_neg (le_n (show ¬ m ≤ i by omega) (by omega)), z_gd (by omega) (by omega), z_n60, nI_add, nI_add, z_gd (by omega) (by omega), z_cl (by omega), z_cl (by omega), z_lt_i, z_p1]
      exact g1
    · rw [g3 j, eu_up_n (by decide), eu_up_r, if_pos rfl]
      by_cases w : 60 * s2 + y + (i + 1) ≤ j ∧ j < 60 * s2 + y + m
      · rw [if_pos w, if_pos (show 60 * s2 + y + i ≤ j ∧ j < 60 * s2 + y + m by omega)]
      · rw [if_neg w]
        by_cases w2 : j = 60 * s2 + y + i
        · rw [if_pos w2, if_pos (show 60 * s2 + y + i ≤ j ∧ j < 60 * s2 + y + m by omega), show j - (60 * s2 + y) = i by omega]
        · rw [if_neg w2, if_neg (show ¬ (60 * s2 + y + i ≤ j ∧ j < 60 * s2 + y + m) by omega)]
theorem m_copy1 {s1 s2 x y m : Nat} (hs : s1 < 4) (hx : x + m ≤ 60) : ∀ (c i n : Nat) (τ : eu_T), i + c = m → c < n → ∃ τ', fX5_copy_L120 n τ (nI s1) (nI x) (nI s2) (nI y) (nI m) (nI i) = fX5_copy_L157 200 τ' (nI s2) (nI y) (nI m) 0 ∧ (∀ q, q ≠ 29 → τ' q = τ q) ∧ ∀ j, τ' 29 j = if i ≤ j ∧ j < m then τ 28 (60 * s1 + x + j) else τ 29 j
  | 0, i, 0, τ, _, hn => by omega
  | c + 1, i, 0, τ, _, hn => by omega
  | 0, i, n + 1, τ, hi, _ => by
    refine ⟨τ, by rw [fX5_copy_L120_s, if_pos (le_p (show m ≤ i by omega) (by omega))], fun _ _ => rfl, fun j => by rw [if_neg (by omega)]⟩
  | c + 1, i, n + 1, τ, hi, hn => by
    obtain ⟨τ', g1, g2, g3⟩ := m_copy1 (s2 := s2) (y := y) hs hx c (i + 1) n (eu_up τ 29 i (τ 28 (60 * s1 + x + i))) (by omega) (by omega)
    refine ⟨τ', ?_, fun q hq => by rw [g2 q hq, eu_up_n hq], fun j => ?_⟩
    · rw [fX5_copy_L120_s, if_neg (le_n (show ¬ m ≤ i by omega) (by omega)), z_n60, nI_add, nI_add, z_gd (by omega) (by omega), z_gd (by omega) (by omega), z_cl (by omega), z_cl (by omega), z_lt_i, z_p1]
      exact g1
    · rw [g3 j, eu_up_n (k := 29) (k' := 28) (by decide), eu_up_r, if_pos rfl]
      by_cases w : i + 1 ≤ j ∧ j < m
      · rw [if_pos w, if_pos (show i ≤ j ∧ j < m by omega)]
      · rw [if_neg w]
        by_cases w2 : j = i
        · rw [if_pos w2, if_pos (show i ≤ j ∧ j < m by omega), w2]
        · rw [if_neg w2, if_neg (show ¬ (i ≤ j ∧ j < m) by omega)]
theorem z_copy {L : Nat} {tx : Nat → Nat} {U : Nat} {pe th : Nat → Nat} {S : Nat} {sd si : Nat → Nat} {σ τ : eu_T} (h : zR L tx U pe th S sd si σ τ) {s1 s2 x y m z1 z2 : Nat} (h1 : s1 < 4) (h2 : s2 < 4) (e1 : σ (11 + s1) 3 = nI z1) (e2 : σ (11 + s2) 3 = nI z2) (hz1 : z1 ≤ 60) (hz2 : z2 ≤ 60) (hx : x + m ≤ z1) (hy : y + m ≤ z2) : ∃ τ', fX5_copy_L120 200 τ (nI s1) (nI x) (nI s2) (nI y) (nI m) 0 = some (1, τ') ∧ zR L tx U pe th S sd si (eu_sk σ (15 + s2) (va_cpy (σ (15 + s1)) (σ (15 + s2)) x y m)) τ' := by
  obtain ⟨τ1, f1, f2, f3⟩ := m_copy1 (s2 := s2) (y := y) h1 (show x + m ≤ 60 by omega) m 0 200 τ (by omega) (by omega)
  obtain ⟨τ2, g1, g2, g3⟩ := m_copy2 h2 (show y + m ≤ 60 by omega) m 0 200 τ1 (by omega) (by omega)
  rw [nI_0] at f1 g1
  have sn : ∀ k, k ≠ 15 + s2 → eu_sk σ (15 + s2) (va_cpy (σ (15 + s1)) (σ (15 + s2)) x y m) k = σ k := fun k hk => by
    unfold eu_sk
    rw [if_neg hk]
  refine ⟨τ2, by rw [f1, g1], h.sheets (fun k q => sn k (by omega)) (fun k q1 q2 q3 q4 => by rw [g2 k q3, f2 k q4]) (fun s' hs' => ?_)⟩
  obtain ⟨w1, z', hz', w2, w3, w4⟩ := h.Sh s' hs'
  rw [sn (11 + s') (by omega), g2 26 (by decide), f2 26 (by decide), g2 27 (by decide), f2 27 (by decide)]
  refine ⟨w1, z', hz', w2, w3, fun i hi => ?_⟩
  rw [g3, f2 28 (by decide)]
  by_cases c : s' = s2
  · subst c
    have ez : z' = z2 := by
      rw [e2] at w2
      exact ((nI_eq (by omega) (by omega)).mp w2).symm
    unfold eu_sk va_cpy
    rw [if_pos rfl]
    by_cases c2 : y ≤ i ∧ i < y + m
    · rw [if_pos c2, if_pos (show 60 * s' + y + 0 ≤ 60 * s' + i ∧ 60 * s' + i < 60 * s' + y + m by omega), f3, if_pos (by omega)]
      obtain ⟨-, zz, hzz, u2, u3, u4⟩ := h.Sh s1 h1
      have ez1 : zz = z1 := by
        rw [e1] at u2
        exact ((nI_eq (by omega) (by omega)).mp u2).symm
      rw [u4 _ (by omega)]
      congr 1
      omega
    · rw [if_neg c2, if_neg (show ¬ (60 * s' + y + 0 ≤ 60 * s' + i ∧ 60 * s' + i < 60 * s' + y + m) by omega)]
      exact w4 i hi
  · rw [sn (15 + s') (by omega), if_neg (show ¬ (60 * s2 + y + 0 ≤ 60 * s' + i ∧ 60 * s' + i < 60 * s2 + y + m) by omega)]
    exact w4 i hi
theorem sim_copy : ∀ (σ τ : eu_T) (a1 a2 a3 a4 a5 : Int32), eu_Rel σ τ → ∃ (r : Int32) (σ' τ' : eu_T), fX4_copy σ a1 a2 a3 a4 a5 = some (r, σ') ∧ fX5_copy τ a1 a2 a3 a4 a5 = some (r, τ') ∧ eu_Rel σ' τ' := by
  rintro σ τ x1 x2 x3 x4 x5 ⟨L, tx, U, pe, th, S, sd, si, h⟩
  unfold fX4_copy fX5_copy fX4_copy_J51 fX4_copy_J99 fX5_copy_J35 fX5_copy_J111 fX4_found fX5_met
  simp only [z_lt_i, eu_b2_t]
  rw [z_i3, z_i3]
  by_cases q1 : fX4_isBelow x1 (4 : Int32) = 0
  · rw [if_pos q1, if_pos q1]
    exact ⟨_, σ, τ, rfl, rfl, L, tx, U, pe, th, S, sd, si, h⟩
  rcases z_below2 x1 4 (by omega) with ⟨e, -⟩ | ⟨s, hs, es, -⟩
  · exact absurd e q1
  rw [if_neg q1, if_neg q1]
  by_cases q2 : fX4_isBelow x3 (4 : Int32) = 0
  · rw [if_pos q2, if_pos q2]
    exact ⟨_, σ, τ, rfl, rfl, L, tx, U, pe, th, S, sd, si, h⟩
  rcases z_below2 x3 4 (by omega) with ⟨e, -⟩ | ⟨s2, hs2, es2, -⟩
  · exact absurd e q2
  rw [if_neg q2, if_neg q2, es, es2]
  simp only [z_gd (show s < 1000 by omega) hs, z_gd (show s2 < 1000 by omega) hs2, z_cl (show s < 1000 by omega), z_cl (show s2 < 1000 by omega)]
  obtain ⟨w1, z, hz, w2, w3, w4⟩ := h.Sh s hs
  obtain ⟨u1, z2, hz2, u2, u3, u4⟩ := h.Sh s2 hs2
  rcases w1 with ⟨v1, v2⟩ | ⟨v1, fm, hfm, v2, v3⟩
  · rw [v1, v2, if_neg (show ¬ (1 : Int32) = 0 by decide), if_pos (show (-1 : Int32) < 0 by decide)]
    exact ⟨_, _, _, rfl, rfl, L, tx, U, pe, th, S, sd, si, h.met _⟩
  rw [v1, v3, if_pos (show (0 : Int32) = 0 from rfl), if_neg (z_neg (by omega))]
  rcases u1 with ⟨y1, y2⟩ | ⟨y1, fm2, hfm2, y2, y3⟩
  · rw [y1, y2, if_neg (show ¬ (1 : Int32) = 0 by decide), if_neg (show ¬ (0 : Int32) ≤ -1 by decide)]
    exact ⟨_, _, _, rfl, rfl, L, tx, U, pe, th, S, sd, si, h.met _⟩
  rw [y1, y3, if_pos (show (0 : Int32) = 0 from rfl), if_pos (z_lost (by omega)), v2, y2]
  by_cases c : nI fm = nI fm2
  · rw [if_pos c, if_pos c, w3, u3]
    by_cases n2 : x2 < 0
    · have e : fX2_hasItems σ (11 + s) x2 x5 = 0 := by
        unfold fX2_hasItems fX2_hasItems_J30
        rw [if_pos n2]
      rw [e, if_pos rfl, if_pos n2]
      exact ⟨_, _, _, rfl, rfl, L, tx, U, pe, th, S, sd, si, h.met _⟩
    by_cases n4 : x4 < 0
    · have e : fX2_hasItems σ (11 + s2) x4 x5 = 0 := by
        unfold fX2_hasItems fX2_hasItems_J30
        rw [if_pos n4]
      rw [e, if_pos (show (0 : Int32) = 0 from rfl), if_neg n2, if_pos n4]
      by_cases e1 : fX2_hasItems σ (11 + s) x2 x5 = 0
      · rw [if_pos e1]
        exact ⟨_, _, _, rfl, rfl, L, tx, U, pe, th, S, sd, si, h.met _⟩
      · rw [if_neg e1]
        exact ⟨_, _, _, rfl, rfl, L, tx, U, pe, th, S, sd, si, h.met _⟩
    by_cases n5 : x5 < 0
    · have e : fX2_hasItems σ (11 + s) x2 x5 = 0 := by
        unfold fX2_hasItems fX2_hasItems_J30
        rw [if_neg n2, if_pos n5]
      rw [e, if_pos rfl, if_neg n2, if_neg n4, if_pos n5]
      exact ⟨_, _, _, rfl, rfl, L, tx, U, pe, th, S, sd, si, h.met _⟩
    rw [if_neg n2, if_neg n4, if_neg n5]
    obtain ⟨x, hx, ex⟩ := nI_of n2
    obtain ⟨y, hy, ey⟩ := nI_of n4
    obtain ⟨m, hm, em⟩ := nI_of n5
    rw [ex, ey, em, d_hasItems hx hm hz w2, d_hasItems hy hm hz2 u2]
    have t1 := z_fit hx hm hz
    have t2 := z_fit hy hm hz2
    by_cases k1 : x + m ≤ z
    · rw [if_pos k1, if_neg (show ¬ (1 : Int32) = 0 by decide), if_neg (fun q => t1.1.mp q k1)]
      by_cases k2 : y + m ≤ z2
      · obtain ⟨τ', g1, g2⟩ := z_copy h hs hs2 w2 u2 hz hz2 k1 k2
        rw [if_pos k2, if_neg (show ¬ (1 : Int32) = 0 by decide), if_pos (t2.2.mpr k2), eu_gd_t (by rw [z_cl (by omega), z_cl (by omega), z_cl (by omega)]; exact ⟨z_neg (by omega), z_neg (by omega), z_neg (by omega), by omega, by omega⟩), z_cl (by omega), z_cl (by omega), z_cl (by omega), show 11 + s2 + 4 = 15 + s2 by omega, show 11 + s + 4 = 15 + s by omega]
        exact ⟨_, _, τ', rfl, g1, L, tx, U, pe, th, S, sd, si, g2⟩
      · rw [if_neg k2, if_pos (show (0 : Int32) = 0 from rfl), if_neg (fun q => k2 (t2.2.mp q))]
        exact ⟨_, _, _, rfl, rfl, L, tx, U, pe, th, S, sd, si, h.met _⟩
    · rw [if_neg k1, if_pos (show (0 : Int32) = 0 from rfl), if_pos (t1.1.mpr k1)]
      exact ⟨_, _, _, rfl, rfl, L, tx, U, pe, th, S, sd, si, h.met _⟩
  · rw [if_neg c, if_neg c]
    exact ⟨_, _, _, rfl, rfl, L, tx, U, pe, th, S, sd, si, h.met _⟩
