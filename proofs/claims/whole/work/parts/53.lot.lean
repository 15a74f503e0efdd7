theorem sLb_lt {x : Int32} : ∀ (k i j : Nat), i ≤ j → j < sLb x k i → bt x j = false
  | 0, i, j, h1, h2 => by
    have : j < i := h2
    omega
  | k + 1, i, j, h1, h2 => by
    have h3 : j < if bt x i = true then i else sLb x k (i + 1) := h2
    by_cases c : bt x i = true
    · rw [if_pos c] at h3; omega
    · rw [if_neg c] at h3
      by_cases w : j = i
      · rw [w]
        cases q : bt x i
        · rfl
        · exact absurd q c
      · exact sLb_lt k (i + 1) j (by omega) h3
theorem z_low {x : Int32} (h : ∀ j, j < 32 → bt x j = true → j < 12) {i : Nat} (hi : i < 12) (hb : bt x i = true) (hl : ∀ j, j < i → bt x j = false) : (x &&& (-x)) = zb i ∧ (x &&& (x - 1)) = (x &&& (zb i ^^^ (-1))) := by
  obtain ⟨m, hm, e⟩ := z_small h
  subst e
  have := z_low1 (m / 64) (by omega) (m % 64) (by omega)
  rw [show 64 * (m / 64) + m % 64 = m by omega] at this
  rcases this with h0 | ⟨h1, h2, h3, h4⟩
  · rw [h0, nI_0, b_0] at hb
    exact absurd hb (by decide)
  · have e : sLb (nI m) 12 0 = i := by
      rcases Nat.lt_trichotomy (sLb (nI m) 12 0) i with c | c | c
      · rw [hl _ c] at h2; exact absurd h2 (by decide)
      · exact c
      · rw [sLb_lt 12 0 i (by omega) c] at hb; exact absurd hb (by decide)
    rw [e] at h3 h4
    exact ⟨h3, h4⟩
theorem z_lot_L {m : Int32} {σ : eu_T} (hm : ∀ j, j < 32 → bt m j = true → j < 12) : ∀ (k i n1 n2 c r : Nat) (left : Int32), i + k = 12 → k < n1 → r < n2 → c + r < 500 → (∀ j, j < 32 → bt left j = (decide (i ≤ j) && bt m j)) → zct (bt m) i + r < zct (bt m) 12 → ∃ p, p < 12 ∧ bt m p = true ∧ fX5_among_L4 n1 m (nI r) (nI i) = some (nI p) ∧ fX1_lotOf_L42 n2 σ (nI (c + r)) left (nI c) = some (zb p, σ)
  | 0, i, n1, n2, c, r, left, hi, _, _, _, _, h => by
    rw [show i = 12 by omega] at h
    omega
  | k + 1, i, 0, n2, c, r, left, hi, h1, _, _, _, h => by omega
  | k + 1, i, n1 + 1, 0, c, r, left, hi, _, h1, _, _, h => by omega
  | k + 1, i, n1 + 1, n2 + 1, c, r, left, hi, hn1, hn2, hc, hl, h => by
    have hz : zct (bt m) (i + 1) = zct (bt m) i + (if bt m i = true then 1 else 0) := rfl
    have hlm : ∀ j, j < 32 → bt left j = true → j < 12 := fun j hj q => by
      rw [hl j hj, Bool.and_eq_true] at q
      exact hm j hj q.2
    rw [fX5_among_L4_s, z_isIn (by omega)]
    unfold fX5_among_J16
    rw [z_isIn (by omega), z_p1]
    by_cases b : bt m i = true
    · rw [if_pos b] at hz
      rw [if_pos b, if_neg (show ¬ (1 : Int32) = 0 by decide), if_neg (show ¬ (1 : Int32) = 0 by decide)]
      obtain ⟨l1, l2⟩ := z_low hlm (show i < 12 by omega) (by rw [hl i (by omega), b, decide_eq_true (Nat.le_refl i)]; rfl) (fun j hj => by rw [hl j (by omega), decide_eq_false (show ¬ i ≤ j by omega), Bool.false_and])
      cases r with
      | zero =>
        refine ⟨i, by omega, b, ?_, ?_⟩
        · rw [if_pos (show nI 0 ≤ 0 by decide)]
        · rw [fX1_lotOf_L42_s, if_pos (le_p (show c + 0 ≤ c by omega) (by omega)), l1]
      | succ r =>
        obtain ⟨p, g1, g2, g3, g4⟩ := z_lot_L (σ := σ) hm k (i + 1) n1 n2 (c + 1) r (left &&& (left - 1)) (by omega) (by omega) (by omega) (by omega) (fun j hj => by
          rw [l2, b_and, z_not hj, z_bit (by omega) hj, hl j hj]
          by_cases w : j = i
          · rw [w, decide_eq_true (show i = i from rfl), decide_eq_false (show ¬ i + 1 ≤ i by omega), Bool.false_and]
            exact Bool.and_false _
          · rw [decide_eq_false w]
            by_cases w2 : i ≤ j
            · rw [decide_eq_true w2, decide_eq_true (show i + 1 ≤ j by omega)]
              exact Bool.and_true _
            · rw [decide_eq_false w2, decide_eq_false (show ¬ i + 1 ≤ j by omega)]
              rfl) (by omega)
        refine ⟨p, g1, g2, ?_, ?_⟩
        · rw [if_neg (show ¬ nI (r + 1) ≤ 0 from le_n (b := 0) (by omega) (by omega)), nI_pred]
          exact g3
        · rw [fX1_lotOf_L42_s, if_neg (le_n (show ¬ c + (r + 1) ≤ c by omega) (by omega)), z_p1, show c + (r + 1) = c + 1 + r by omega]
          exact g4
    · rw [if_neg b] at hz
      rw [if_neg b, if_pos (show (0 : Int32) = 0 from rfl), if_pos (show (0 : Int32) = 0 from rfl), Int32.sub_zero]
      have bf : bt m i = false := by
        cases q : bt m i
        · rfl
        · exact absurd q b
      exact z_lot_L hm k (i + 1) n1 (n2 + 1) c r left (by omega) (by omega) (by omega) (by omega) (fun j hj => by
        rw [hl j hj]
        by_cases w : j = i
        · rw [w, bf, Bool.and_false, Bool.and_false]
        · congr 1
          rw [decide_eq_decide]
          omega) (by omega)
theorem z_ush (x : Int32) : ∃ n, n < 2 ^ 31 ∧ (x.toUInt32 >>> ((16 : Int32).toUInt32 &&& Int32.toUInt32 31)).toInt32 = nI n := by
  have h := pk_ushr x 16 16 (by decide)
  have hx := x.toBitVec.isLt
  refine ⟨(x.toUInt32 >>> ((16 : Int32).toUInt32 &&& Int32.toUInt32 31)).toInt32.toBitVec.toNat, by rw [h]; omega, ?_⟩
  apply Int32.toBitVec_inj.mp
  apply BitVec.eq_of_toNat_eq
  rw [pk_tn (by rw [h]; omega)]
theorem zct_pos {f : Nat → Bool} : ∀ (n j : Nat), j < n → f j = true → 0 < zct f n
  | 0, j, h, _ => by omega
  | n + 1, j, h, hf => by
    show 0 < zct f n + (if f n = true then 1 else 0)
    by_cases c : j = n
    · rw [← c, if_pos hf]; omega
    · have := zct_pos n j (by omega) hf
      omega
theorem z_lot {m : Int32} {σ τ : eu_T} (hm : ∀ j, j < 32 → bt m j = true → j < 12) (h0 : ¬ m = 0) (hs : σ 1 7 = τ 25 22) : ∃ p s c R, p < 12 ∧ bt m p = true ∧ fX1_lotOf σ m = some (zb p, eu_up σ 1 7 s) ∧ fX5_ones m = some c ∧ fX5_lot τ c = some (R, eu_up τ 25 22 s) ∧ fX5_among m R = some (nI p) := by
  obtain ⟨j0, hj0, hb0⟩ := z_ne0.mp h0
  have hpos := zct_pos 12 j0 (hm j0 hj0 hb0) hb0
  have hle := zct_le (bt m) 12
  obtain ⟨x, hx, ex⟩ := z_ush (1103515245 * σ 1 7 + 12345)
  have er := pk_rem hx hpos (show zct (bt m) 12 < 2 ^ 31 by omega)
  have hmod := Nat.mod_lt x hpos
  obtain ⟨p, g1, g2, g3, g4⟩ := z_lot_L (σ := eu_up σ 1 7 (1103515245 * σ 1 7 + 12345)) hm 12 0 200 200 0 (x % zct (bt m) 12) m (by omega) (by omega) (by omega) (by omega) (fun j hj => by rw [decide_eq_true (Nat.zero_le j), Bool.true_and]) (by rw [show zct (bt m) 0 = 0 from rfl]; omega)
  rw [nI_0] at g3 g4
  rw [Nat.zero_add] at g4
  have hc : ¬ nI (zct (bt m) 12) = 0 := nI_ne0 hpos (by omega)
  refine ⟨p, 1103515245 * σ 1 7 + 12345, nI (zct (bt m) 12), nI (x % zct (bt m) 12), g1, g2, ?_, by rw [z_ones hm, z_pop hm], ?_, g3⟩
  · unfold fX1_lotOf
    rw [z_pop hm, if_neg hc, z_lt_i, eu_gd_t hc, z_lt_i, up_s, ex, er]
    exact g4
  · unfold fX5_lot
    rw [z_lt_i, eu_gd_t hc, up_s, ← hs, ex, er]
