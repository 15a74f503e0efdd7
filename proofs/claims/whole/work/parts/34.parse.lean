/-! ===== the text of the deeds: spec, and the class's parse ===== -/
def zDok (D : zD) : Prop := D.1 ≤ 12 ∧ (∀ d, d < D.1 → D.2.1 d < 6 ∧ ∀ j, j < 32 → bt (D.2.2.1 d) j = true → j < d) ∧ ∀ j, j < 32 → bt D.2.2.2 j = true → j < D.1
def zD0 : zD := (0, fun _ => 0, fun _ => 0, 0)
def nup {α : Type} (f : Nat → α) (k : Nat) (v : α) : Nat → α := fun j => if j = k then v else f j
/-- one byte b, behind the deeds q.2 at the stage q.1 (0 a figure is due, 1 in a deed, 2 behind a !) -/
def pStep (b : Nat) (q : Nat × zD) : Option (Nat × zD) :=
  if q.1 = 0 then (if q.2.1 < 12 ∧ 48 ≤ b ∧ b < 54 then some (1, q.2.1 + 1, nup q.2.2.1 q.2.1 (b - 48), nup q.2.2.2.1 q.2.1 0, q.2.2.2.2) else none)
  else if b = 59 then some (0, q.2)
  else if q.1 = 2 then none
  else if b = 33 then some (2, q.2.1, q.2.2.1, q.2.2.2.1, q.2.2.2.2 ||| zb (q.2.1 - 1))
  else if 97 ≤ b ∧ b - 97 < q.2.1 - 1 ∧ (q.2.2.2.1 (q.2.1 - 1) >>> (nI (b - 97) &&& 31)) = 0 ∧ fJ6_bitCount_0f7a4 (q.2.2.2.1 (q.2.1 - 1)) < 3 then some (1, q.2.1, q.2.2.1, nup q.2.2.2.1 (q.2.1 - 1) (q.2.2.2.1 (q.2.1 - 1) ||| zb (b - 97)), q.2.2.2.2)
  else none
/-- the FAULT and the deeds: k bytes from i on -/
def pRun (tx : Nat → Nat) : Nat → Nat → Nat × zD → Int32 × zD
  | 0, i, q => if q.1 = 0 ∧ 0 < i then (nI i, zD0) else (-1, q.2)
  | k + 1, i, q => match pStep (tx i) q with
    | none => (nI i, zD0)
    | some q' => pRun tx k (i + 1) q'
def pQok (q : Nat × zD) : Prop := zDok q.2 ∧ q.1 ≤ 2 ∧ (¬ q.1 = 0 → 0 < q.2.1)
theorem zD0_ok : zDok zD0 := ⟨by decide, fun d h => absurd h (Nat.not_lt_zero d), fun j hj h => by
  rw [show zD0.2.2.2 = 0 from rfl, b_0] at h
  cases h⟩
theorem pStep_ok {b : Nat} {q q' : Nat × zD} (h : pQok q) (hs : pStep b q = some q') : pQok q' := by
  obtain ⟨⟨h1, h2, h3⟩, h4, h5⟩ := h
  unfold pStep at hs
  split at hs
  · split at hs
    · rename_i hc
      cases hs
      refine ⟨⟨by show q.2.1 + 1 ≤ 12; omega, fun d hd => ?_, fun j hj hb => ?_⟩, by show 1 ≤ 2; omega, fun _ => by show 0 < q.2.1 + 1; omega⟩
      · show nup q.2.2.1 q.2.1 (b - 48) d < 6 ∧ ∀ j, j < 32 → bt (nup q.2.2.2.1 q.2.1 0 d) j = true → j < d
        unfold nup
        by_cases e : d = q.2.1
        · rw [if_pos e, if_pos e]
          exact ⟨by omega, fun j _ hb => by rw [b_0] at hb; cases hb⟩
        · rw [if_neg e, if_neg e]
          exact h2 d (by have : d < q.2.1 + 1 := hd; omega)
      · show j < q.2.1 + 1
        have := h3 j hj hb
        omega
    · cases hs
  · rename_i h0
    have hn := h5 h0
    split at hs
    · cases hs
      exact ⟨⟨h1, h2, h3⟩, by show 0 ≤ 2; omega, fun h => absurd rfl h⟩
    · split at hs
      · cases hs
      · split at hs
        · cases hs
          refine ⟨⟨h1, h2, fun j hj hb => ?_⟩, by show 2 ≤ 2; omega, fun _ => hn⟩
          have hb' : bt (q.2.2.2.2 ||| zb (q.2.1 - 1)) j = true := hb
          rw [z_or1 (by omega) hj] at hb'
          simp at hb'
          rcases hb' with e | e
          · exact h3 j hj e
          · show j < q.2.1
            omega
        · split at hs
          · rename_i hc
            cases hs
            refine ⟨⟨h1, fun d hd => ?_, h3⟩, by show 1 ≤ 2; omega, fun _ => hn⟩
            refine ⟨(h2 d hd).1, fun j hj hb => ?_⟩
            have hb' : bt (nup q.2.2.2.1 (q.2.1 - 1) (q.2.2.2.1 (q.2.1 - 1) ||| zb (b - 97)) d) j = true := hb
            unfold nup at hb'
            by_cases e : d = q.2.1 - 1
            · rw [if_pos e, z_or1 (by omega) hj] at hb'
              simp at hb'
              rcases hb' with e2 | e2
              · rw [← e] at e2; exact (h2 d hd).2 j hj e2
              · omega
            · rw [if_neg e] at hb'
              exact (h2 d hd).2 j hj hb'
          · cases hs
theorem pRun_ok {tx : Nat → Nat} : ∀ (k i : Nat) (q : Nat × zD), pQok q → zDok (pRun tx k i q).2
  | 0, i, q, h => by
    unfold pRun
    split
    · exact zD0_ok
    · exact h.1
  | k + 1, i, q, h => by
    unfold pRun
    split
    · exact zD0_ok
    · rename_i q' hs
      exact pRun_ok k (i + 1) q' (pStep_ok h hs)
theorem z_belowS {b c m : Nat} (hb : b < 1000) (hc : c < 1000) (hm : m < 1000) : fX4_isBelow (nI b - nI c) (nI m) = if c ≤ b ∧ b - c < m then 1 else 0 := by
  by_cases h : c ≤ b
  · rw [z_sub h, z_below (by omega) hm]
    by_cases h2 : b - c < m
    · rw [if_pos h2, if_pos ⟨h, h2⟩]
    · rw [if_neg h2, if_neg (fun q => h2 q.2)]
  · unfold fX4_isBelow fX4_isBelow_J13
    rw [if_pos (pk_sneg (by omega) (by omega)), if_neg (fun q => h q.1)]
/-- the class's parse changes these alone -/
def zfP (σ σ' : eu_T) : Prop := (∀ k, k ≠ 3 → k ≠ 7 → k ≠ 8 → σ' k = σ k) ∧ ∀ j, j ≠ 4 → j ≠ 5 → j ≠ 6 → σ' 3 j = σ 3 j
theorem zfP.rf {σ : eu_T} : zfP σ σ := ⟨fun _ _ _ _ => rfl, fun _ _ _ _ => rfl⟩
theorem zfP.tr {a b c : eu_T} (h1 : zfP a b) (h2 : zfP b c) : zfP a c := ⟨fun k q r s => (h2.1 k q r s).trans (h1.1 k q r s), fun j q r s => (h2.2 j q r s).trans (h1.2 j q r s)⟩
theorem zfP.up {a b : eu_T} {k i : Nat} {x : Int32} (h : zfP a b) (hk : k = 7 ∨ k = 8 ∨ (k = 3 ∧ (i = 4 ∨ i = 5 ∨ i = 6))) : zfP a (eu_up b k i x) := by
  refine h.tr ⟨fun k' h1 h2 h3 => ?_, fun j h1 h2 h3 => ?_⟩
  · exact eu_up_n (by omega)
  · rw [eu_up_r]
    rcases hk with e | e | ⟨e, e2⟩
    · rw [if_neg (by omega)]
    · rw [if_neg (by omega)]
    · rw [if_pos (by omega), if_neg (by omega), e]
theorem d_begin {q : Nat × zD} {σ : eu_T} (hq : pQok q) (hD : zDd q.2 σ) (h0 : q.1 = 0) {b : Nat} (hb : b < 256) : (pStep b q = none ∧ fX0_begin σ (nI b) = some (3, σ)) ∨ ∃ q' σ', pStep b q = some q' ∧ fX0_begin σ (nI b) = some (nI q'.1, σ') ∧ zDd q'.2 σ' ∧ σ' 3 6 = σ 3 6 ∧ zfP σ σ' := by
  have h12 := hD.1
  unfold fX0_begin pStep
  rw [if_pos h0, hD.2.1, show (48 : Int32) = nI 48 from rfl, show (6 : Int32) = nI 6 from rfl, z_belowS (by omega) (by omega) (by omega)]
  by_cases c1 : q.2.1 < 12
  · rw [if_neg (show ¬ (12 : Int32) ≤ nI q.2.1 by rw [show (12 : Int32) = nI 12 from rfl, z_le (by omega) (by omega)]; omega)]
    by_cases c2 : 48 ≤ b ∧ b < 54
    · right
      rw [if_pos ⟨c1, c2⟩, if_pos (show 48 ≤ b ∧ b - 48 < 6 by omega), if_neg (by decide), z_gd (by omega) (by omega), z_lt_i, z_cl (by omega)]
      have e1 : eu_up σ 7 q.2.1 (nI b - nI 48) 3 4 = nI q.2.1 := by rw [eu_up_n (by decide)]; exact hD.2.1
      rw [e1, z_gd (by omega) (by omega), z_lt_i, z_lt_i, z_cl (by omega), eu_up_n (σ := eu_up σ 7 q.2.1 (nI b - nI 48)) (by decide), e1, z_p1]
      refine ⟨_, _, rfl, rfl, ⟨by show q.2.1 + 1 ≤ 12; omega, ?_, fun d hd => ?_, ?_⟩, ?_, ?_⟩
      · rw [eu_up_r]; simp
      · show eu_up (eu_up (eu_up σ 7 q.2.1 (nI b - nI 48)) 8 q.2.1 0) 3 4 (nI (q.2.1 + 1)) 7 d = nI (nup q.2.2.1 q.2.1 (b - 48) d) ∧ nup q.2.2.1 q.2.1 (b - 48) d < 6 ∧ eu_up (eu_up (eu_up σ 7 q.2.1 (nI b - nI 48)) 8 q.2.1 0) 3 4 (nI (q.2.1 + 1)) 8 d = nup q.2.2.2.1 q.2.1 0 d
        unfold nup
        simp only [eu_up_r]
        by_cases e : d = q.2.1
        · simp [e, z_sub (show 48 ≤ b by omega)]
          omega
        · have hd' : d < q.2.1 := by have : d < q.2.1 + 1 := hd; omega
          simp [e, hD.2.2.1 d hd']
      · show _ = q.2.2.2.2
        simp [eu_up_r, hD.2.2.2]
      · simp [eu_up_r]
      · exact ((zfP.rf.up (by omega)).up (by omega)).up (by omega)
    · left
      rw [if_neg (fun h => c2 h.2), if_neg (show ¬ (48 ≤ b ∧ b - 48 < 6) by omega), if_pos rfl]
      exact ⟨rfl, rfl⟩
  · left
    rw [if_neg (fun h => c1 h.1), if_pos (show (12 : Int32) ≤ nI q.2.1 by rw [show (12 : Int32) = nI 12 from rfl, z_le (by omega) (by omega)]; omega)]
    exact ⟨rfl, rfl⟩
theorem d_goOn {q : Nat × zD} {σ : eu_T} (hq : pQok q) (hD : zDd q.2 σ) (h0 : ¬ q.1 = 0) {b : Nat} (hb : b < 256) : (pStep b q = none ∧ fX0_goOn σ (nI b) (nI q.1) = some (3, σ)) ∨ ∃ q' σ', pStep b q = some q' ∧ fX0_goOn σ (nI b) (nI q.1) = some (nI q'.1, σ') ∧ zDd q'.2 σ' ∧ σ' 3 6 = σ 3 6 ∧ zfP σ σ' := by
  have h12 := hD.1
  have hn := hq.2.2 h0
  have h2 := hq.2.1
  have e59 : nI b = (59 : Int32) ↔ b = 59 := by rw [show (59 : Int32) = nI 59 from rfl, z_eq (by omega) (by omega)]
  have e2 : nI q.1 = (2 : Int32) ↔ q.1 = 2 := by rw [show (2 : Int32) = nI 2 from rfl, z_eq (by omega) (by omega)]
  have e33 : nI b = (33 : Int32) ↔ b = 33 := by rw [show (33 : Int32) = nI 33 from rfl, z_eq (by omega) (by omega)]
  unfold fX0_goOn pStep
  rw [if_neg h0, hD.2.1, show nI q.2.1 - 1 = nI (q.2.1 - 1) from z_sub (b := 1) (by omega)]
  by_cases c1 : b = 59
  · right
    rw [if_pos c1, if_pos (e59.mpr c1)]
    exact ⟨_, σ, rfl, rfl, hD, rfl, zfP.rf⟩
  · rw [if_neg c1, if_neg (fun h => c1 (e59.mp h))]
    by_cases c2 : q.1 = 2
    · left
      rw [if_pos c2, if_pos (e2.mpr c2)]
      exact ⟨rfl, rfl⟩
    · rw [if_neg c2, if_neg (fun h => c2 (e2.mp h)), show (12 : Int32) = nI 12 from rfl, z_below (by omega) (by omega), if_pos (show q.2.1 - 1 < 12 by omega), if_neg (show ¬ (1 : Int32) = 0 by decide)]
      by_cases c3 : b = 33
      · right
        rw [if_pos c3, if_pos (e33.mpr c3), z_lt_i, hD.2.2.2]
        refine ⟨_, _, rfl, rfl, ⟨h12, ?_, fun d hd => ?_, ?_⟩, ?_, ?_⟩
        · simp [eu_up_r, hD.2.1]
        · simp only [eu_up_n (show (7 : Nat) ≠ 3 by decide), eu_up_n (show (8 : Nat) ≠ 3 by decide)]
          exact hD.2.2.1 d hd
        · simp [eu_up_r]
        · simp [eu_up_r]
        · exact zfP.rf.up (by omega)
      · rw [if_neg c3, if_neg (fun h => c3 (e33.mp h)), show (97 : Int32) = nI 97 from rfl, z_belowS (by omega) (by omega) (by omega)]
        unfold fX0_goOn_J82 fX0_goOn_J83
        by_cases c4 : 97 ≤ b ∧ b - 97 < q.2.1 - 1
        · have e8 := (hD.2.2.1 (q.2.1 - 1) (by omega)).2.2
          rw [if_pos c4, if_neg (show ¬ (1 : Int32) = 0 by decide), z_gd (by omega) (by omega), z_cl (by omega), z_sub c4.1, e8]
          by_cases c5 : (q.2.2.2.1 (q.2.1 - 1) >>> (nI (b - 97) &&& 31)) = 0
          · rw [if_pos c5, if_neg (show ¬ (1 : Int32) = 0 by decide), z_gd (by omega) (by omega)]
            by_cases c6 : fJ6_bitCount_0f7a4 (q.2.2.2.1 (q.2.1 - 1)) < 3
            · right
              rw [if_pos c6, if_pos ⟨c4.1, c4.2, c5, c6⟩, z_gd (by omega) (by omega), z_gd (by omega) (by omega), z_lt_i]
              refine ⟨_, _, rfl, rfl, ⟨h12, ?_, fun d hd => ?_, ?_⟩, ?_, ?_⟩
              · simp [eu_up_r, hD.2.1]
              · show eu_up σ 8 (q.2.1 - 1) _ 7 d = nI (q.2.2.1 d) ∧ q.2.2.1 d < 6 ∧ eu_up σ 8 (q.2.1 - 1) _ 8 d = nup q.2.2.2.1 (q.2.1 - 1) (q.2.2.2.1 (q.2.1 - 1) ||| zb (b - 97)) d
                obtain ⟨a1, a2, a3⟩ := hD.2.2.1 d hd
                refine ⟨by rw [eu_up_n (by decide)]; exact a1, a2, ?_⟩
                unfold nup
                rw [eu_up_r, if_pos rfl]
                by_cases e : d = q.2.1 - 1
                · rw [if_pos e, if_pos e]
                · rw [if_neg e, if_neg e]; exact a3
              · show _ = q.2.2.2.2
                simp [eu_up_r, hD.2.2.2]
              · simp [eu_up_r]
              · exact zfP.rf.up (by omega)
            · left
              rw [if_neg c6, if_neg (fun h => c6 h.2.2.2)]
              exact ⟨rfl, rfl⟩
          · left
            rw [if_neg c5, if_pos rfl, if_neg (fun h => c5 h.2.2.1)]
            exact ⟨rfl, rfl⟩
        · left
          rw [if_neg c4, if_pos rfl, if_pos rfl, if_neg (fun h => c4 ⟨h.1, h.2.1⟩)]
          exact ⟨rfl, rfl⟩
def zTx (L : Nat) (tx : Nat → Nat) (σ : eu_T) : Prop := L ≤ 60 ∧ σ 3 3 = nI L ∧ ∀ i, i < L → σ 6 i = nI (tx i) ∧ tx i < 256
theorem zfP.T {L : Nat} {tx : Nat → Nat} {σ σ' : eu_T} (h : zfP σ σ') (hT : zTx L tx σ) : zTx L tx σ' := ⟨hT.1, by rw [h.2 3 (by decide) (by decide) (by decide)]; exact hT.2.1, fun i hi => by rw [h.1 6 (by decide) (by decide) (by decide)]; exact hT.2.2 i hi⟩
theorem d_fault {σ : eu_T} {L : Nat} {tx : Nat → Nat} (hT : zTx L tx σ) {i : Nat} : ∃ σ', fX0_parse_J86 σ (nI i) = some (0, σ') ∧ σ' 3 6 = nI i ∧ zDd zD0 σ' ∧ zfP σ σ' := by
  unfold fX0_parse_J86
  rw [z_lt_i, z_lt_i, z_lt_i]
  refine ⟨_, rfl, ?_, ⟨by decide, ?_, fun d hd => absurd hd (Nat.not_lt_zero d), ?_⟩, ((zfP.rf.up (by omega)).up (by omega)).up (by omega)⟩
  · simp [eu_up_r]
  · simp [eu_up_r]; rfl
  · simp [eu_up_r]; rfl
theorem d_parse_L {L : Nat} {tx : Nat → Nat} : ∀ (k i n : Nat) (q : Nat × zD) (σ : eu_T), i + k = L → k < n → pQok q → zDd q.2 σ → zTx L tx σ → σ 3 6 = -1 → ∃ σ', fX0_parse_L19 n σ (nI i) (nI q.1) = some (0, σ') ∧ σ' 3 6 = (pRun tx k i q).1 ∧ zDd (pRun tx k i q).2 σ' ∧ zfP σ σ'
  | 0, i, 0, q, σ, _, hn, _, _, _, _ => by omega
  | k + 1, i, 0, q, σ, _, hn, _, _, _, _ => by omega
  | 0, i, n + 1, q, σ, hi, _, hq, hD, hT, h6 => by
    have hL := hT.1
    have h2 := hq.2.1
    rw [fX0_parse_L19_s, hT.2.1, if_pos (by rw [z_le (by omega) (by omega)]; omega)]
    unfold fX0_parse_J70 pRun
    rw [if_neg (show ¬ nI q.1 = (3 : Int32) by rw [show (3 : Int32) = nI 3 from rfl, z_eq (by omega) (by omega)]; omega)]
    by_cases c : q.1 = 0
    · rw [if_pos (show nI q.1 = 0 by rw [c, nI_0]), hT.2.1]
      by_cases c2 : 0 < i
      · rw [if_neg (show ¬ nI L ≤ 0 by rw [← nI_0, z_le (by omega) (by omega)]; omega), if_pos ⟨c, c2⟩]
        exact d_fault hT
      · rw [if_pos (show nI L ≤ 0 by rw [← nI_0, z_le (by omega) (by omega)]; omega), if_neg (fun h => c2 h.2)]
        exact ⟨σ, rfl, h6, hD, zfP.rf⟩
    · rw [if_neg (show ¬ nI q.1 = 0 by rw [← nI_0, z_eq (by omega) (by omega)]; exact c), if_neg (fun h => c h.1)]
      exact ⟨σ, rfl, h6, hD, zfP.rf⟩
  | k + 1, i, n + 1, q, σ, hi, hn, hq, hD, hT, h6 => by
    have hL := hT.1
    have h2 := hq.2.1
    obtain ⟨e6, hb⟩ := hT.2.2 i (by omega)
    rw [fX0_parse_L19_s, hT.2.1, if_neg (by rw [z_le (by omega) (by omega)]; omega), z_gd (by omega) (by omega), z_gd (by omega) (by omega), z_cl (by omega), e6]
    have goon : ∀ (o : Option (Int32 × eu_T)), ((pStep (tx i) q = none ∧ o = some (3, σ)) ∨ ∃ q' σ', pStep (tx i) q = some q' ∧ o = some (nI q'.1, σ') ∧ zDd q'.2 σ' ∧ σ' 3 6 = σ 3 6 ∧ zfP σ σ') → ∃ σ', eu_b2 o (fun (r : Int32) (σ9 : eu_T) => fX0_parse_J55 (fX0_parse_L19 n) σ9 (nI i) r) = some (0, σ') ∧ σ' 3 6 = (pRun tx (k + 1) i q).1 ∧ zDd (pRun tx (k + 1) i q).2 σ' ∧ zfP σ σ' := by
      intro o ho
      unfold pRun
      rcases ho with ⟨hs, ho⟩ | ⟨q', σ1, hs, ho, hD1, h61, hf⟩
      · rw [hs, ho, eu_b2_t]
        unfold fX0_parse_J55 fX0_parse_J70
        rw [if_pos rfl, if_pos rfl]
        exact d_fault hT
      · have hq' := pStep_ok hq hs
        rw [hs, ho, eu_b2_t]
        unfold fX0_parse_J55
        rw [if_neg (show ¬ nI q'.1 = (3 : Int32) by have := hq'.2.1; rw [show (3 : Int32) = nI 3 from rfl, z_eq (by omega) (by omega)]; omega), z_p1]
        obtain ⟨σ', g1, g2, g3, g4⟩ := d_parse_L k (i + 1) n q' σ1 (by omega) (by omega) hq' hD1 (hf.T hT) (h61.trans h6)
        exact ⟨σ', g1, g2, g3, hf.tr g4⟩
    by_cases c : q.1 = 0
    · rw [if_pos (show nI q.1 = 0 by rw [c, nI_0])]
      exact goon _ (d_begin hq hD c hb)
    · rw [if_neg (show ¬ nI q.1 = 0 by rw [← nI_0, z_eq (by omega) (by omega)]; exact c)]
      exact goon _ (d_goOn hq hD c hb)
def pAll (L : Nat) (tx : Nat → Nat) : Int32 × zD := pRun tx L 0 (0, zD0)
theorem pAll_ok (L : Nat) (tx : Nat → Nat) : zDok (pAll L tx).2 := pRun_ok L 0 _ ⟨zD0_ok, by decide, fun h => absurd rfl h⟩
theorem d_parse {L : Nat} {tx : Nat → Nat} {σ : eu_T} (hT : zTx L tx σ) : ∃ σ', fX0_parse σ = some (0, σ') ∧ σ' 3 6 = (pAll L tx).1 ∧ zDd (pAll L tx).2 σ' ∧ zfP σ σ' := by
  have hf : zfP σ (eu_up (eu_up (eu_up σ 3 4 0) 3 5 0) 3 6 (-1)) := ((zfP.rf.up (by omega)).up (by omega)).up (by omega)
  obtain ⟨σ', g1, g2, g3, g4⟩ := d_parse_L L 0 200 (0, zD0) (eu_up (eu_up (eu_up σ 3 4 0) 3 5 0) 3 6 (-1)) (by omega) (by have := hT.1; omega) ⟨zD0_ok, by decide, fun h => absurd rfl h⟩ ⟨by decide, by simp [eu_up_r]; rfl, fun d hd => absurd hd (Nat.not_lt_zero d), by simp [eu_up_r]; rfl⟩ (hf.T hT) (by simp [eu_up_r])
  refine ⟨σ', ?_, g2, g3, hf.tr g4⟩
  rw [nI_0] at g1
  unfold fX0_parse
  rw [z_lt_i, z_lt_i, z_lt_i]
  exact g1
