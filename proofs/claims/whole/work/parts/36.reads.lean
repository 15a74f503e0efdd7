/-! ===== the reference's reading of the text ===== -/
def zTm (L : Nat) (tx : Nat → Nat) (τ : eu_T) : Prop := L ≤ 60 ∧ τ 25 6 = nI L ∧ ∀ i, i < L → τ 30 i = nI (tx i) ∧ tx i < 256
def zfR (τ τ' : eu_T) : Prop := (∀ k, k ≠ 25 → k ≠ 31 → τ' k = τ k) ∧ ∀ j, j ≠ 7 → j ≠ 8 → τ' 25 j = τ 25 j
theorem zfR.rf {τ : eu_T} : zfR τ τ := ⟨fun _ _ _ => rfl, fun _ _ _ => rfl⟩
theorem zfR.tr {a b c : eu_T} (h1 : zfR a b) (h2 : zfR b c) : zfR a c := ⟨fun k q r => (h2.1 k q r).trans (h1.1 k q r), fun j q r => (h2.2 j q r).trans (h1.2 j q r)⟩
theorem zfR.up {a b : eu_T} {k i : Nat} {x : Int32} (h : zfR a b) (hk : k = 31 ∨ (k = 25 ∧ (i = 7 ∨ i = 8))) : zfR a (eu_up b k i x) := by
  refine h.tr ⟨fun k' h1 h2 => ?_, fun j h1 h2 => ?_⟩
  · exact eu_up_n (by omega)
  · rw [eu_up_r]
    rcases hk with e | ⟨e, e2⟩
    · rw [if_neg (by omega)]
    · rw [if_pos (by omega), if_neg (by omega), e]
theorem zfR.T {L : Nat} {tx : Nat → Nat} {τ τ' : eu_T} (h : zfR τ τ') (hT : zTm L tx τ) : zTm L tx τ' := ⟨hT.1, by rw [h.2 6 (by decide) (by decide)]; exact hT.2.1, fun i hi => by rw [h.1 30 (by decide) (by decide)]; exact hT.2.2 i hi⟩
theorem m_here {L a : Nat} {tx : Nat → Nat} {τ : eu_T} (hT : zTm L tx τ) (ha : τ 25 7 = nI a) (hl : a ≤ L) : fX5_here τ = some (if a < L then nI (tx a) else -1) := by
  have hL := hT.1
  unfold fX5_here
  rw [hT.2.1, ha]
  by_cases h : a < L
  · rw [if_neg (by rw [z_le (by omega) (by omega)]; omega), z_gd (by omega) (by omega), z_cl (by omega), if_pos h, (hT.2.2 a h).1]
  · rw [if_pos (by rw [z_le (by omega) (by omega)]; omega), if_neg h]
theorem z_inN {x : Int32} {a b : Int32} : fX5_in x.toInt64 a.toInt64 b.toInt64 = if a.toInt ≤ x.toInt ∧ x.toInt ≤ b.toInt then 1 else 0 := by
  rw [z_inE, z_w, z_w, z_w]
theorem z_toS {a b : Nat} (ha : a < 1000) (hb : b < 1000) : (nI a - nI b).toInt = (a : Int) - b := pk_sub_toInt (by omega) (by omega)
theorem nup_nup {α : Type} (f : Nat → α) (k : Nat) (v w : α) : nup (nup f k v) k w = nup f k w := by
  funext j
  unfold nup
  by_cases h : j = k
  · rw [if_pos h, if_pos h]
  · rw [if_neg h, if_neg h, if_neg h]
theorem nup_s {α : Type} (f : Nat → α) (k : Nat) (v : α) : nup f k v k = v := if_pos rfl
theorem z_shr0 {c : Int32} {lastN : Nat} (hc : ∀ j, j < 32 → bt c j = true → j < lastN) (hl : lastN = 0 ∨ bt c (lastN - 1) = true) {s : Nat} (hs : s < 31) (hl2 : lastN < 31) : (c >>> (nI s &&& 31)) = 0 ↔ lastN ≤ s := by
  rw [z_eq0]
  constructor
  · intro h
    rcases hl with e | e
    · omega
    · refine Classical.byContradiction fun hn => ?_
      have h2 := h (lastN - 1 - s) (by omega)
      rw [b_sshr s (by omega) c (by omega), if_pos (by omega), show s + (lastN - 1 - s) = lastN - 1 by omega, e] at h2
      cases h2
  · intro h i hi
    rw [b_sshr s (by omega) c hi]
    split
    · cases hb : bt c (s + i)
      · rfl
      · have := hc _ (by omega) hb
        omega
    · cases hb : bt c 31
      · rfl
      · have := hc _ (by omega) hb
        omega
/-- the letters of a deed: from j on, c told so far -/
theorem m_letters {L n : Nat} {tx : Nat → Nat} {doer : Nat → Nat} {src : Nat → Int32} {own : Int32} (hn : n < 12) : ∀ (k j fu : Nat) (τ : eu_T) (c v2 : Int32) (lastN : Nat), j + k = L → k < fu → zTm L tx τ → τ 25 7 = nI j → τ 25 8 = nI n → v2 + 1 = nI lastN → lastN ≤ n → (∀ i, i < 32 → bt c i = true → i < lastN) → (lastN = 0 ∨ bt c (lastN - 1) = true) →
    ∃ (c' : Int32) (j' : Nat) (τ1 : eu_T), fX5_readsPart_L61 fu τ c v2 = fX5_readsPart_J121 τ1 c' ∧ zfR τ τ1 ∧ τ1 31 = τ 31 ∧ τ1 25 8 = nI n ∧ τ1 25 7 = nI j' ∧ j ≤ j' ∧ j' ≤ L ∧ (∀ i, i < 32 → bt c' i = true → i < n) ∧ pRun tx (L - j) j (1, n + 1, doer, nup src n c, own) = pRun tx (L - j') j' (1, n + 1, doer, nup src n c', own) ∧ (j' < L → ¬ (97 ≤ tx j' ∧ tx j' - 97 < n ∧ (c' >>> (nI (tx j' - 97) &&& 31)) = 0 ∧ fJ6_bitCount_0f7a4 c' < 3))
  | k, j, 0, τ, c, v2, lastN, _, hf, _, _, _, _, _, _, _ => by omega
  | k, j, fu + 1, τ, c, v2, lastN, hj, hf, hT, h7, h8, hv, hl, hc, hc2 => by
    have hL := hT.1
    have hcn : ∀ i, i < 32 → bt c i = true → i < n := fun i h1 h2 => Nat.lt_of_lt_of_le (hc i h1 h2) hl
    have stop : ∀ (hs : j < L → ¬ (97 ≤ tx j ∧ tx j - 97 < n ∧ (c >>> (nI (tx j - 97) &&& 31)) = 0 ∧ fJ6_bitCount_0f7a4 c < 3)), fX5_readsPart_L61 (fu + 1) τ c v2 = fX5_readsPart_J121 τ c → ∃ (c' : Int32) (j' : Nat) (τ1 : eu_T), fX5_readsPart_L61 (fu + 1) τ c v2 = fX5_readsPart_J121 τ1 c' ∧ zfR τ τ1 ∧ τ1 31 = τ 31 ∧ τ1 25 8 = nI n ∧ τ1 25 7 = nI j' ∧ j ≤ j' ∧ j' ≤ L ∧ (∀ i, i < 32 → bt c' i = true → i < n) ∧ pRun tx (L - j) j (1, n + 1, doer, nup src n c, own) = pRun tx (L - j') j' (1, n + 1, doer, nup src n c', own) ∧ (j' < L → ¬ (97 ≤ tx j' ∧ tx j' - 97 < n ∧ (c' >>> (nI (tx j' - 97) &&& 31)) = 0 ∧ fJ6_bitCount_0f7a4 c' < 3)) := fun hs he => ⟨c, j, τ, he, zfR.rf, rfl, h8, h7, Nat.le_refl j, by omega, hcn, rfl, hs⟩
    by_cases hjL : j < L
    · have hb := (hT.2.2 j hjL).2
      have here := m_here hT h7 (by omega)
      rw [if_pos hjL] at here
      have hin : fX5_in ((nI (tx j) - (97 : Int32)).toInt64) ((v2 + (1 : Int32)).toInt64) ((τ 25 8 - (1 : Int32)).toInt64) = if 97 + lastN ≤ tx j ∧ tx j - 97 < n then 1 else 0 := by
        rw [z_inN, hv, h8, show (97 : Int32) = nI 97 from rfl, show (1 : Int32) = nI 1 from rfl, z_toS (by omega) (by omega), z_toS (by omega) (by omega), z_ti (by omega)]
        by_cases q : 97 + lastN ≤ tx j ∧ tx j - 97 < n
        · rw [if_pos q, if_pos (by omega)]
        · rw [if_neg q, if_neg (by omega)]
      by_cases q : 97 + lastN ≤ tx j ∧ tx j - 97 < n
      · by_cases q3 : (3 : Int32) ≤ fJ6_bitCount_0f7a4 c
        · refine stop (fun _ h => ?_) ?_
          · have := h.2.2.2
            rw [Int32.lt_iff_toInt_lt] at this
            rw [Int32.le_iff_toInt_le] at q3
            omega
          · rw [fX5_readsPart_L61_s, here, eu_bd_t, hin, if_pos q, if_neg (show ¬ (1 : Int32) = 0 by decide), z_ones (fun i h1 h2 => by have := hcn i h1 h2; omega), eu_bd_t, if_pos q3]
        · have q3' : fJ6_bitCount_0f7a4 c < 3 := by
            rw [Int32.lt_iff_toInt_lt]
            rw [Int32.le_iff_toInt_le] at q3
            omega
          have e97 : nI (tx j) - (97 : Int32) = nI (tx j - 97) := z_sub (b := 97) (by omega)
          have hstep : fX5_readsPart_L61 (fu + 1) τ c v2 = fX5_readsPart_L61 fu (eu_up τ 25 7 (nI (j + 1))) (c ||| zb (tx j - 97)) (nI (tx j - 97)) := by
            rw [fX5_readsPart_L61_s, here, eu_bd_t, hin, if_pos q, if_neg (show ¬ (1 : Int32) = 0 by decide), z_ones (fun i h1 h2 => by have := hcn i h1 h2; omega), eu_bd_t, if_neg q3, eu_bd_t, z_lt_i, h7, z_p1, e97]
          have hfr : zfR τ (eu_up τ 25 7 (nI (j + 1))) := zfR.rf.up (by omega)
          obtain ⟨k', hk'⟩ : ∃ k', k = k' + 1 := ⟨k - 1, by omega⟩
          subst hk'
          obtain ⟨c', j', τ1, g1, g2, g3, g4, g5, g6, g7, g8, g9, g10⟩ := m_letters hn k' (j + 1) fu (eu_up τ 25 7 (nI (j + 1))) (c ||| zb (tx j - 97)) (nI (tx j - 97)) (tx j - 97 + 1) (by omega) (by omega) (hfr.T hT) (by simp [eu_up_r]) (by simp [eu_up_r, h8]) (z_p1 _) (by omega) (fun i h1 h2 => by
            rw [z_or1 (by omega) h1] at h2
            simp at h2
            rcases h2 with h2 | h2
            · have := hc i h1 h2; omega
            · omega) (Or.inr (by rw [z_or1 (by omega) (by omega)]; simp))
          refine ⟨c', j', τ1, hstep.trans g1, hfr.tr g2, by rw [g3, eu_up_n (by decide)], g4, g5, by omega, g7, g8, ?_, g10⟩
          rw [← g9, show L - j = (L - (j + 1)) + 1 by omega]
          show (match pStep (tx j) (1, n + 1, doer, nup src n c, own) with
            | none => _
            | some q' => _) = _
          have hp : pStep (tx j) (1, n + 1, doer, nup src n c, own) = some (1, n + 1, doer, nup src n (c ||| zb (tx j - 97)), own) := by
            unfold pStep
            rw [if_neg (show ¬ (1 : Nat) = 0 by decide), if_neg (show ¬ tx j = 59 by omega), if_neg (show ¬ (1 : Nat) = 2 by decide), if_neg (show ¬ tx j = 33 by omega), if_pos]
            · show some (1, n + 1, doer, nup (nup src n c) (n + 1 - 1) (nup src n c (n + 1 - 1) ||| zb (tx j - 97)), own) = _
              rw [show n + 1 - 1 = n by omega, nup_s, nup_nup]
            · show 97 ≤ tx j ∧ tx j - 97 < n + 1 - 1 ∧ (nup src n c (n + 1 - 1) >>> _) = 0 ∧ fJ6_bitCount_0f7a4 (nup src n c (n + 1 - 1)) < 3
              rw [show n + 1 - 1 = n by omega, nup_s]
              exact ⟨by omega, q.2, (z_shr0 hc hc2 (by omega) (by omega)).mpr (by omega), q3'⟩
          rw [hp]
      · refine stop (fun _ h => ?_) ?_
        · have := (z_shr0 hc hc2 (s := tx j - 97) (by omega) (by omega)).mp h.2.2.1
          omega
        · rw [fX5_readsPart_L61_s, here, eu_bd_t, hin, if_neg q, if_pos rfl]
    · refine stop (fun h => absurd h hjL) ?_
      have here := m_here hT h7 (by omega)
      rw [if_neg hjL] at here
      have hin0 : fX5_in (((-1 : Int32) - (97 : Int32)).toInt64) ((v2 + (1 : Int32)).toInt64) ((τ 25 8 - (1 : Int32)).toInt64) = 0 := by
        rw [z_inN, if_neg]
        rw [hv, z_ti (by omega)]
        have : ((-1 : Int32) - 97).toInt = -98 := by decide
        omega
      rw [fX5_readsPart_L61_s, here, eu_bd_t, hin0, if_pos rfl]
theorem m_part {L i : Nat} {tx : Nat → Nat} {D : zD} {τ : eu_T} (hT : zTm L tx τ) (hD : zDm D τ) (hok : zDok D) (h7 : τ 25 7 = nI i) (hi : i ≤ L) (hi0 : L = i → 0 < i) : (fX5_readsPart τ = some (0, τ) ∧ pRun tx (L - i) i (0, D) = (nI i, zD0)) ∨ ∃ (τ' : eu_T) (D' : zD) (st j : Nat), fX5_readsPart τ = some (1, τ') ∧ zDm D' τ' ∧ pQok (st, D') ∧ ¬ st = 0 ∧ τ' 25 7 = nI j ∧ i < j ∧ j ≤ L ∧ pRun tx (L - i) i (0, D) = pRun tx (L - j) j (st, D') ∧ (j < L → pStep (tx j) (st, D') = if tx j = 59 then some (0, D') else none) ∧ zfR τ τ' := by
  have hL := hT.1
  have h12 := hD.1
  unfold fX5_readsPart
  rw [hD.2.1]
  by_cases c1 : D.1 = 12
  · left
    rw [if_pos (show nI D.1 = (12 : Int32) by rw [c1]; rfl)]
    refine ⟨rfl, ?_⟩
    by_cases e : L = i
    · rw [show L - i = 0 by omega]
      unfold pRun
      rw [if_pos ⟨rfl, hi0 e⟩]
    · rw [show L - i = (L - i - 1) + 1 by omega]
      unfold pRun
      have hp : pStep (tx i) (0, D) = none := by
        unfold pStep
        rw [if_pos rfl, if_neg (fun h => by have := h.1; dsimp only at this; omega)]
      rw [hp]
  · rw [if_neg (show ¬ nI D.1 = (12 : Int32) by rw [show (12 : Int32) = nI 12 from rfl, z_eq (by omega) (by omega)]; exact c1), m_here hT h7 hi, eu_bd_t]
    by_cases c2 : i < L
    · obtain ⟨-, hb⟩ := hT.2.2 i c2
      rw [if_pos c2, z_i5, show (48 : Int32) = nI 48 from rfl, show (6 : Int32) = nI 6 from rfl, z_belowS (by omega) (by omega) (by omega)]
      by_cases c3 : 48 ≤ tx i ∧ tx i < 54
      · right
        rw [if_pos (show 48 ≤ tx i ∧ tx i - 48 < 6 by omega), if_neg (show ¬ (1 : Int32) = 0 by decide), eu_bd_t, z_n3, z_gd (by omega) (by omega), z_lt_i, z_lt_i, z_cl (by omega), z_sub c3.1]
        obtain ⟨τ2, e2⟩ : ∃ τ2, τ2 = eu_up (eu_up τ 31 (3 * D.1) (nI (tx i - 48))) 25 7 (nI (i + 1)) := ⟨_, rfl⟩
        have e3 : eu_up (eu_up τ 31 (3 * D.1) (nI (tx i - 48))) 25 7 (eu_up τ 31 (3 * D.1) (nI (tx i - 48)) 25 7 + 1) = τ2 := by
          rw [e2, eu_up_n (show (25 : Nat) ≠ 31 by decide), h7, z_p1]
        rw [e3]
        have hf2 : zfR τ τ2 := by rw [e2]; exact (zfR.rf.up (by omega)).up (by omega)
        have h82 : τ2 25 8 = nI D.1 := by rw [e2]; simp [eu_up_r, hD.2.1]
        obtain ⟨c', j', τ1, g1, g2, g3, g4, g5, g6, g7, g8, g9, g10⟩ := m_letters (n := D.1) (doer := nup D.2.1 D.1 (tx i - 48)) (src := D.2.2.1) (own := D.2.2.2) (by omega) (L - (i + 1)) (i + 1) 200 τ2 0 (-1) 0 (by omega) (by omega) (hf2.T hT) (by rw [e2]; simp [eu_up_r]) h82 (by decide) (by omega) (fun i _ h => by rw [b_0] at h; cases h) (Or.inl rfl)
        have hT1 := g2.T (hf2.T hT)
        have hd0 : τ1 31 (3 * D.1) = nI (tx i - 48) := by rw [g3, e2]; simp [eu_up_r]
        have hdo : ∀ d, d < 3 * D.1 → τ1 31 d = τ 31 d := by
          intro d hd
          rw [g3, e2]
          simp [eu_up_r]
          intro h
          omega
        -- the end of the deed, with or without a !
        have fin : ∀ (o : Bool), ∃ τ', fX5_readsPart_J135 τ1 c' (if o = true then 1 else 0) = some (1, τ') ∧ zDm (D.1 + 1, nup D.2.1 D.1 (tx i - 48), nup D.2.2.1 D.1 c', if o = true then D.2.2.2 ||| zb D.1 else D.2.2.2) τ' ∧ τ' 25 7 = nI (j' + (if o = true then 1 else 0)) ∧ zfR τ1 τ' := by
          intro o
          have key : ∀ (so : Int32), so = (if o = true then 1 else 0) → fX5_readsPart_J150 τ1 c' so so (τ1 25 7) = some (1, eu_up (eu_up (eu_up (eu_up τ1 25 7 (nI (j' + (if o = true then 1 else 0)))) 31 (3 * D.1 + 1) c') 31 (3 * D.1 + 2) (if o = true then 1 else 0)) 25 8 (nI (D.1 + 1))) := by
            intro so hso
            unfold fX5_readsPart_J150 fX5_readsPart_J189
            rw [z_lt_i, g5, show nI j' + so = nI (j' + (if o = true then 1 else 0)) by rw [hso]; cases o <;> simp [z_p1]]
            have e8 : eu_up τ1 25 7 (nI (j' + (if o = true then 1 else 0))) 25 8 = nI D.1 := by rw [eu_up_r]; simp [g4]
            rw [e8, z_n3, z_p1, z_gd (by omega) (by omega), z_lt_i, z_cl (by omega)]
            have e9 : ∀ x, eu_up (eu_up τ1 25 7 (nI (j' + (if o = true then 1 else 0)))) 31 (3 * D.1 + 1) x 25 8 = nI D.1 := by intro x; rw [eu_up_n (by decide)]; exact e8
            have e10 : ∀ x y, eu_up (eu_up (eu_up τ1 25 7 (nI (j' + (if o = true then 1 else 0)))) 31 (3 * D.1 + 1) x) 31 (3 * D.1 + 2) y 25 8 = nI D.1 := by intro x y; rw [eu_up_n (by decide)]; exact e9 x
            rw [e9, z_n3, z_p2, z_gd (by omega) (by omega), z_gd (by omega) (by omega), z_cl (by omega), z_lt_i, z_lt_i, z_lt_i, z_lt_i, e10, e10, z_p1, hso]
            cases o <;> simp
          have hzd : zDm (D.1 + 1, nup D.2.1 D.1 (tx i - 48), nup D.2.2.1 D.1 c', if o = true then D.2.2.2 ||| zb D.1 else D.2.2.2) (eu_up (eu_up (eu_up (eu_up τ1 25 7 (nI (j' + (if o = true then 1 else 0)))) 31 (3 * D.1 + 1) c') 31 (3 * D.1 + 2) (if o = true then 1 else 0)) 25 8 (nI (D.1 + 1))) := by
            refine ⟨by show D.1 + 1 ≤ 12; omega, by simp [eu_up_r], fun d hd => ?_⟩
            have hd' : d < D.1 + 1 := hd
            show _ = nI (nup D.2.1 D.1 (tx i - 48) d) ∧ nup D.2.1 D.1 (tx i - 48) d < 6 ∧ _ = nup D.2.2.1 D.1 c' d ∧ _ = if bt (if o = true then D.2.2.2 ||| zb D.1 else D.2.2.2) d = true then 1 else 0
            unfold nup
            by_cases e : d = D.1
            · subst e
              simp only [if_true, eu_up_r]
              refine ⟨?_, by omega, ?_, ?_⟩
              · simp [hd0]
              · simp
              · cases o
                · simp
                  cases hb : bt D.2.2.2 D.1
                  · rfl
                  · have := hok.2.2 D.1 (by omega) hb
                    omega
                · simp [z_or1 (show D.1 < 32 by omega) (show D.1 < 32 by omega)]
            · have hlt : d < D.1 := by omega
              obtain ⟨a1, a2, a3, a4⟩ := hD.2.2 d hlt
              rw [if_neg e, if_neg e]
              simp only [eu_up_r]
              refine ⟨?_, a2, ?_, ?_⟩
              · simp [show ¬ 3 * d = 3 * D.1 + 1 by omega, show ¬ 3 * d = 3 * D.1 + 2 by omega]
                rw [hdo _ (by omega)]
                exact a1
              · simp [show ¬ 3 * d + 1 = 3 * D.1 + 2 by omega, show ¬ 3 * d = 3 * D.1 by omega, show ¬ 3 * d = 3 * D.1 + 1 by omega, e]
                rw [hdo _ (by omega)]
                exact a3
              · simp [show ¬ 3 * d + 2 = 3 * D.1 + 1 by omega, show ¬ 3 * d + 1 = 3 * D.1 by omega, show ¬ 3 * d = 3 * D.1 by omega, e]
                rw [hdo _ (by omega), a4]
                cases o
                · simp
                · simp [z_or1 (show D.1 < 32 by omega) (show d < 32 by omega), e]
          refine ⟨_, ?_, hzd, by simp [eu_up_r], (((zfR.rf.up (by omega)).up (by omega)).up (by omega)).up (by omega)⟩
          unfold fX5_readsPart_J135
          cases o
          · rw [if_pos (by simp), ← key 0 rfl]
            simp
          · rw [if_neg (by simp), ← key 1 rfl]
            simp
        rw [g1]
        unfold fX5_readsPart_J121
        rw [m_here hT1 g5 g7, eu_bd_t]
        have hp0 : pStep (tx i) (0, D) = some (1, D.1 + 1, nup D.2.1 D.1 (tx i - 48), nup D.2.2.1 D.1 0, D.2.2.2) := by
          unfold pStep
          rw [if_pos rfl, if_pos ⟨by show D.1 < 12; omega, c3.1, c3.2⟩]
        have hrun : pRun tx (L - i) i (0, D) = pRun tx (L - j') j' (1, D.1 + 1, nup D.2.1 D.1 (tx i - 48), nup D.2.2.1 D.1 c', D.2.2.2) := by
          rw [← g9, show L - i = (L - (i + 1)) + 1 by omega]
          show (match pStep (tx i) (0, D) with
            | none => _
            | some q' => _) = _
          rw [hp0]
        have hq1 : pQok (1, D.1 + 1, nup D.2.1 D.1 (tx i - 48), nup D.2.2.1 D.1 c', D.2.2.2) := by
          refine ⟨⟨by show D.1 + 1 ≤ 12; omega, fun d hd => ?_, fun j hj hb => ?_⟩, by show 1 ≤ 2; omega, fun _ => by show 0 < D.1 + 1; omega⟩
          · show nup D.2.1 D.1 (tx i - 48) d < 6 ∧ ∀ j, j < 32 → bt (nup D.2.2.1 D.1 c' d) j = true → j < d
            have hd' : d < D.1 + 1 := hd
            unfold nup
            by_cases e : d = D.1
            · rw [if_pos e, if_pos e, e]
              exact ⟨by omega, g8⟩
            · rw [if_neg e, if_neg e]
              exact hok.2.1 d (by omega)
          · show j < D.1 + 1
            have := hok.2.2 j hj hb
            omega
        by_cases c5 : j' < L ∧ tx j' = 33
        · obtain ⟨τ', f1, f2, f3, f4⟩ := fin true
          have e33 : (if j' < L then nI (tx j') else -1) = (33 : Int32) := by rw [if_pos c5.1, c5.2]; rfl
          rw [e33, if_pos rfl]
          have hp1 : pStep (tx j') (1, D.1 + 1, nup D.2.1 D.1 (tx i - 48), nup D.2.2.1 D.1 c', D.2.2.2) = some (2, D.1 + 1, nup D.2.1 D.1 (tx i - 48), nup D.2.2.1 D.1 c', D.2.2.2 ||| zb D.1) := by
            unfold pStep
            rw [if_neg (show ¬ (1 : Nat) = 0 by decide), if_neg (show ¬ tx j' = 59 by omega), if_neg (show ¬ (1 : Nat) = 2 by decide), if_pos c5.2]
            rfl
          refine ⟨τ', _, 2, j' + 1, f1, f2, pStep_ok hq1 hp1, by decide, f3, by omega, by omega, ?_, fun _ => ?_, hf2.tr (g2.tr f4)⟩
          · rw [hrun, show L - j' = (L - (j' + 1)) + 1 by omega]
            show (match pStep (tx j') _ with
              | none => _
              | some q' => _) = _
            rw [hp1]
            rfl
          · unfold pStep
            rw [if_neg (show ¬ (2 : Nat) = 0 by decide), if_pos (show (2 : Nat) = 2 from rfl)]
        · obtain ⟨τ', f1, f2, f3, f4⟩ := fin false
          have e33 : ¬ (if j' < L then nI (tx j') else -1) = (33 : Int32) := by
            by_cases h : j' < L
            · have hb' := (hT.2.2 j' h).2
              rw [if_pos h, show (33 : Int32) = nI 33 from rfl, z_eq (by omega) (by omega)]
              exact fun q => c5 ⟨h, q⟩
            · rw [if_neg h]
              decide
          rw [if_neg e33]
          refine ⟨τ', _, 1, j', f1, f2, hq1, by decide, f3, by omega, g7, hrun, fun hj' => ?_, hf2.tr (g2.tr f4)⟩
          unfold pStep
          rw [if_neg (show ¬ (1 : Nat) = 0 by decide)]
          by_cases h59 : tx j' = 59
          · rw [if_pos h59, if_pos h59]
          · rw [if_neg h59, if_neg h59, if_neg (show ¬ (1 : Nat) = 2 by decide), if_neg (fun q => c5 ⟨hj', q⟩), if_neg]
            intro h
            apply g10 hj'
            have h' : 97 ≤ tx j' ∧ tx j' - 97 < D.1 + 1 - 1 ∧ (nup D.2.2.1 D.1 c' (D.1 + 1 - 1) >>> (nI (tx j' - 97) &&& 31)) = 0 ∧ fJ6_bitCount_0f7a4 (nup D.2.2.1 D.1 c' (D.1 + 1 - 1)) < 3 := h
            rw [show D.1 + 1 - 1 = D.1 by omega, nup_s] at h'
            exact h'
      · left
        rw [if_neg (show ¬ (48 ≤ tx i ∧ tx i - 48 < 6) by omega), if_pos rfl]
        refine ⟨rfl, ?_⟩
        rw [show L - i = (L - i - 1) + 1 by omega]
        unfold pRun
        have hp : pStep (tx i) (0, D) = none := by
          unfold pStep
          rw [if_pos rfl, if_neg (fun h => c3 h.2)]
        rw [hp]
    · left
      have e : L = i := by omega
      rw [if_neg c2, show fX5_in (((-1 : Int32) - 48).toInt64) (0 : Int64) (5 : Int64) = 0 by decide, if_pos rfl]
      refine ⟨rfl, ?_⟩
      rw [show L - i = 0 by omega]
      unfold pRun
      rw [if_pos ⟨rfl, hi0 e⟩]
theorem m_reads_L {L : Nat} {tx : Nat → Nat} : ∀ (m i fu : Nat) (τ : eu_T) (D : zD), L - i ≤ m → m < fu → zTm L tx τ → zDm D τ → zDok D → τ 25 7 = nI i → i ≤ L → (L = i → 0 < i) → ∃ τ', fX5_reads_L23 (fu + 1) τ 1 = some ((pRun tx (L - i) i (0, D)).1, τ') ∧ zDm (pRun tx (L - i) i (0, D)).2 τ' ∧ zfR τ τ'
  | m, i, 0, τ, D, _, hf, _, _, _, _, _, _ => by omega
  | m, i, fu + 1, τ, D, hm, hf, hT, hD, hok, h7, hi, hi0 => by
    have hL := hT.1
    have hnone : ∀ (σ4 : eu_T) (a : Nat), σ4 25 7 = nI a → ∃ τ', (eu_b2 (fX5_none σ4) (fun (r5 : Int32) (σ6 : eu_T) => some (r5, σ6))) = some (nI a, τ') ∧ zDm zD0 τ' ∧ zfR σ4 τ' := by
      intro σ4 a ha
      unfold fX5_none
      rw [z_lt_i, eu_b2_t]
      refine ⟨eu_up σ4 25 8 0, ?_, ⟨by decide, by simp [eu_up_r]; rfl, fun d hd => absurd hd (Nat.not_lt_zero d)⟩, zfR.rf.up (by omega)⟩
      rw [show eu_up σ4 25 8 0 25 7 = nI a by simp [eu_up_r, ha]]
    rw [fX5_reads_L23_s, if_neg (show ¬ (1 : Int32) = 0 by decide)]
    rcases m_part hT hD hok h7 hi hi0 with ⟨g1, g2⟩ | ⟨τ1, D1, st, j, g1, g2, g3, g4, g5, g6, g7, g8, g9, g10⟩
    · rw [g1, eu_b2_t, if_pos rfl, g2]
      exact hnone τ i h7
    · have hT1 := g10.T hT
      rw [g1, eu_b2_t, if_neg (show ¬ (1 : Int32) = 0 by decide), hT1.2.1, g5, g8]
      unfold fX5_reads_J55 fX5_reads_J74 fX5_reads_J88
      by_cases hj : j < L
      · have hb := (hT.2.2 j hj).2
        rw [if_neg (by rw [z_le (by omega) (by omega)]; omega), if_neg (show ¬ (1 : Int32) = 0 by decide), m_here hT1 g5 g7, eu_bd_t, if_pos hj]
        have hrun : pRun tx (L - j) j (st, D1) = if tx j = 59 then pRun tx (L - (j + 1)) (j + 1) (0, D1) else (nI j, zD0) := by
          rw [show L - j = (L - (j + 1)) + 1 by omega]
          show (match pStep (tx j) (st, D1) with
            | none => _
            | some q' => _) = _
          rw [g9 hj]
          by_cases h59 : tx j = 59
          · rw [if_pos h59, if_pos h59]
          · rw [if_neg h59, if_neg h59]
        rw [hrun]
        by_cases h59 : tx j = 59
        · rw [if_pos (show nI (tx j) = (59 : Int32) by rw [h59]; rfl), if_neg (show ¬ (1 : Int32) = 0 by decide), g5, z_p1, z_lt_i, if_pos h59]
          have hfr : zfR τ1 (eu_up τ1 25 7 (nI (j + 1))) := zfR.rf.up (by omega)
          obtain ⟨m', hm'⟩ : ∃ m', m = m' + 1 := ⟨m - 1, by omega⟩
          subst hm'
          obtain ⟨fu', hfu'⟩ : ∃ fu', fu = fu' + 1 := ⟨fu - 1, by omega⟩
          subst hfu'
          obtain ⟨τ', f1, f2, f3⟩ := m_reads_L m' (j + 1) (fu' + 1) (eu_up τ1 25 7 (nI (j + 1))) D1 (by omega) (by omega) (hfr.T hT1) ⟨g2.1, by simp [eu_up_r, g2.2.1], fun d hd => by rw [eu_up_n (by decide)]; exact g2.2.2 d hd⟩ g3.1 (by simp [eu_up_r]) (by omega) (by omega)
          exact ⟨τ', f1, f2, g10.tr (hfr.tr f3)⟩
        · rw [if_neg (show ¬ nI (tx j) = (59 : Int32) by rw [show (59 : Int32) = nI 59 from rfl, z_eq (by omega) (by omega)]; exact h59), if_neg h59]
          obtain ⟨τ', f1, f2, f3⟩ := hnone τ1 j g5
          exact ⟨τ', f1, f2, g10.tr f3⟩
      · rw [if_pos (by rw [z_le (by omega) (by omega)]; omega), if_pos rfl, if_pos rfl, z_lt_i, fX5_reads_L23_s, if_pos rfl]
        have hfr : zfR τ1 (eu_up τ1 25 7 (τ1 25 7 + 0)) := zfR.rf.up (by omega)
        rw [show L - j = 0 by omega]
        unfold pRun
        rw [if_neg (fun h => g4 h.1)]
        exact ⟨_, rfl, ⟨g2.1, by simp [eu_up_r, g2.2.1], fun d hd => by rw [eu_up_n (by decide)]; exact g2.2.2 d hd⟩, g10.tr hfr⟩
theorem m_reads {L : Nat} {tx : Nat → Nat} {τ : eu_T} (hT : zTm L tx τ) : ∃ τ', fX5_reads τ = some ((pAll L tx).1, τ') ∧ zDm (pAll L tx).2 τ' ∧ zfR τ τ' := by
  have hL := hT.1
  have hfr : zfR τ (eu_up (eu_up τ 25 7 0) 25 8 0) := (zfR.rf.up (by omega)).up (by omega)
  have hT2 := hfr.T hT
  have hD2 : zDm zD0 (eu_up (eu_up τ 25 7 0) 25 8 0) := ⟨by decide, by simp [eu_up_r]; rfl, fun d hd => absurd hd (Nat.not_lt_zero d)⟩
  unfold fX5_reads pAll
  rw [z_lt_i, z_lt_i, hT2.2.1]
  by_cases h0 : L = 0
  · subst h0
    rw [if_pos (show nI 0 ≤ 0 by decide), fX5_reads_L23_s, if_pos rfl]
    exact ⟨_, rfl, hD2, hfr⟩
  · rw [if_neg (show ¬ nI L ≤ 0 by rw [← nI_0, z_le (by omega) (by omega)]; omega)]
    obtain ⟨τ', g1, g2, g3⟩ := m_reads_L L 0 199 (eu_up (eu_up τ 25 7 0) 25 8 0) zD0 (by omega) (by omega) hT2 hD2 zD0_ok (by simp [eu_up_r]; rfl) (by omega) (by omega)
    exact ⟨τ', g1, g2, hfr.tr g3⟩
