/-! ===== the reference's functions for the core ===== -/
def zDm (D : zD) (τ : eu_T) : Prop := D.1 ≤ 12 ∧ τ 25 8 = nI D.1 ∧ ∀ d, d < D.1 → τ 31 (3 * d) = nI (D.2.1 d) ∧ D.2.1 d < 6 ∧ τ 31 (3 * d + 1) = D.2.2.1 d ∧ τ 31 (3 * d + 2) = (if bt D.2.2.2 d = true then 1 else 0)
def zUm (N : Nat) (pe th : Nat → Nat) (τ : eu_T) : Prop := N ≤ 14 ∧ ∀ i, i < N → τ 32 (2 * i) = nI (pe i) ∧ τ 32 (2 * i + 1) = nI (th i) ∧ pe i < 6 ∧ th i < 24
def zLm (law : Int32) (n : Nat) (τ : eu_T) : Prop := ∀ i, i < n → τ 34 i = (if bt law i = true then 1 else 0)
def zfJ (τ τ' : eu_T) : Prop := (∀ k, k ≠ 25 → k ≠ 34 → τ' k = τ k) ∧ ∀ j, j ≠ 14 → j ≠ 15 → j ≠ 16 → τ' 25 j = τ 25 j
theorem zfJ.rf {τ : eu_T} : zfJ τ τ := ⟨fun _ _ _ => rfl, fun _ _ _ _ => rfl⟩
theorem zfJ.tr {a b c : eu_T} (h1 : zfJ a b) (h2 : zfJ b c) : zfJ a c := ⟨fun k q r => (h2.1 k q r).trans (h1.1 k q r), fun j q r s => (h2.2 j q r s).trans (h1.2 j q r s)⟩
theorem zfJ.D {D : zD} {τ τ' : eu_T} (h : zfJ τ τ') (hD : zDm D τ) : zDm D τ' := by
  obtain ⟨h1, h2, h3⟩ := hD
  refine ⟨h1, by rw [h.2 8 (by decide) (by decide) (by decide)]; exact h2, fun d hd => ?_⟩
  rw [h.1 31 (by decide) (by decide)]
  exact h3 d hd
theorem zfJ.U {N : Nat} {pe th : Nat → Nat} {τ τ' : eu_T} (h : zfJ τ τ') (hU : zUm N pe th τ) : zUm N pe th τ' := by
  refine ⟨hU.1, fun i hi => ?_⟩
  rw [h.1 32 (by decide) (by decide)]
  exact hU.2 i hi
theorem eu_up_r (σ : eu_T) (k i k' i' : Nat) (x : Int32) : eu_up σ k i x k' i' = if k' = k then (if i' = i then x else σ k i') else σ k' i' := by
  unfold eu_up eu_sk upd
  by_cases h : k' = k
  · rw [if_pos h, if_pos h]
  · rw [if_neg h, if_neg h]
theorem eu_up_n {σ : eu_T} {k i k' : Nat} {x : Int32} (h : k' ≠ k) : eu_up σ k i x k' = σ k' := by
  unfold eu_up eu_sk
  rw [if_neg h]
theorem m_isLawful {D : zD} {N : Nat} {pe th : Nat → Nat} {τ : eu_T} (hD : zDm D τ) (hU : zUm N pe th τ) {skip i : Nat} (hi : i < N) (hL : zLm (sL D pe th skip i).1 i τ) (hS : τ 25 16 = (sL D pe th skip i).2) : fX5_isLawful τ (nI i) = some (if sOk D pe th (sL D pe th skip i).1 (sL D pe th skip i).2 i = true then 1 else 0) := by
  have h14 := hU.1
  have h12 := hD.1
  obtain ⟨e0, e1, hp, ht⟩ := hU.2 i hi
  unfold fX5_isLawful fX5_isLawful_J104 fX5_isLawful_J63
  rw [z_n2, z_p1, z_gd (by omega) (by omega), z_gd (by omega) (by omega), z_cl (by omega), z_cl (by omega), e0, e1, hS, z_isIn (by omega)]
  unfold sOk
  cases hb : bt (sL D pe th skip i).2 (pe i)
  · rw [if_pos (by simp)]
    unfold sOwn
    by_cases h : th i < 12
    · rw [if_neg (show ¬ (12 : Int32) ≤ nI (th i) by rw [show (12 : Int32) = nI 12 from rfl, z_le (by omega) (by omega)]; omega), hD.2.1, if_pos h]
      by_cases h2 : th i < D.1
      · obtain ⟨f0, f1, -, -⟩ := hD.2.2 (th i) h2
        rw [if_neg (by rw [z_le (by omega) (by omega)]; omega), z_n3, z_gd (by omega) (by omega), z_cl (by omega), f0, if_pos h2]
        by_cases q : D.2.1 (th i) = pe i
        · rw [if_pos (by rw [q])]; simp [q]
        · rw [if_neg (by rw [z_eq (by omega) (by omega)]; exact q)]; simp [q]
      · rw [if_pos (by rw [z_le (by omega) (by omega)]; omega), if_neg h2]; simp
    · rw [if_pos (show (12 : Int32) ≤ nI (th i) by rw [show (12 : Int32) = nI 12 from rfl, z_le (by omega) (by omega)]; omega), if_neg h, show nI (th i) - 12 = nI (th i - 12) from z_sub (b := 12) (by omega), z_lt_i]
      by_cases h2 : i ≤ th i - 12
      · rw [if_pos (by rw [z_le (by omega) (by omega)]; exact h2)]
        have hf : ¬ bt (sL D pe th skip i).1 (th i - 12) = true := fun q => by have := sL_lt D pe th skip i (by omega) _ (by omega) q; omega
        rw [if_neg hf]; simp
      · rw [if_neg (by rw [z_le (by omega) (by omega)]; exact h2), z_gd (by omega) (by omega), z_cl (by omega), hL _ (by omega)]
        by_cases hf : bt (sL D pe th skip i).1 (th i - 12) = true
        · rw [if_pos hf, if_neg (by decide), z_n2, z_gd (by omega) (by omega), z_cl (by omega), (hU.2 (th i - 12) (by omega)).1, if_pos hf]
          have hp2 := (hU.2 (th i - 12) (by omega)).2.2.1
          by_cases q : pe (th i - 12) = pe i
          · rw [if_pos (by rw [q])]; simp [q]
          · rw [if_neg (by rw [z_eq (by omega) (by omega)]; exact q)]; simp [q]
        · rw [if_neg hf, if_pos rfl, if_neg hf]; simp
  · rw [if_neg (by simp)]; simp
def zJ (τ : eu_T) (k : Nat) (l : Bool) : eu_T := eu_up (eu_up (eu_up (eu_up τ 34 k (if l = true then 1 else 0)) 25 16 (τ 25 16 ||| (if l = true then (1 : Int32) <<< (τ 32 (2 * k) &&& 31) else 0))) 25 14 (τ 25 14 + (if l = true then 0 else 1))) 25 15 (if τ 25 15 = -1 ∧ l = false then nI k else τ 25 15)
theorem m_J45 {kk : eu_T → Int32 → Int32 → Int32 → Option (Int32 × eu_T)} {τ : eu_T} {v1 v2 : Int32} {k : Nat} (hk : k < 15) (l : Bool) : fX5_judges_J45 kk τ v1 v2 (nI k) (if l = true then 1 else 0) (nI k) = kk (zJ τ k l) v1 v2 (nI (k + 1)) := by
  unfold fX5_judges_J45
  rw [eu_gd_t ⟨z_in (by omega) hk, by cases l; exact Or.inl rfl; exact Or.inr rfl⟩, z_lt_i, z_cl (by omega), z_gd (by omega) hk]
  have key : ∀ (σ9 : eu_T) (x : Int32), σ9 34 k = (if l = true then 1 else 0) → eu_up σ9 25 14 (σ9 25 14 + x) 34 k = (if l = true then 1 else 0) := by
    intro σ9 x h
    rw [eu_up_n (by decide)]
    exact h
  have h74 : ∀ (σ6 : eu_T) (s0 : Int32), σ6 34 k = (if l = true then 1 else 0) → fX5_judges_J74 kk σ6 v1 v2 (nI k) s0 (σ6 25 16) = kk (eu_up (eu_up (eu_up σ6 25 16 (σ6 25 16 ||| s0)) 25 14 (σ6 25 14 + (if l = true then 0 else 1))) 25 15 (if σ6 25 15 = -1 ∧ l = false then nI k else σ6 25 15)) v1 v2 (nI (k + 1)) := by
    intro σ6 s0 h6
    unfold fX5_judges_J74
    rw [z_lt_i, z_gd (by omega) hk, z_cl (by omega)]
    have e1 : eu_up σ6 25 16 (σ6 25 16 ||| s0) 34 k = (if l = true then 1 else 0) := by rw [eu_up_n (by decide)]; exact h6
    have e2 : eu_up σ6 25 16 (σ6 25 16 ||| s0) 25 14 = σ6 25 14 := by rw [eu_up_r]; simp
    have e3 : ∀ x, eu_up (eu_up σ6 25 16 (σ6 25 16 ||| s0)) 25 14 x 25 15 = σ6 25 15 := by intro x; rw [eu_up_r, eu_up_r]; simp
    have e4 : ∀ x, eu_up (eu_up σ6 25 16 (σ6 25 16 ||| s0)) 25 14 x 34 k = (if l = true then 1 else 0) := by intro x; rw [eu_up_n (by decide)]; exact e1
    rw [e1, e2]
    unfold fX5_judges_J97 fX5_judges_J123 fX5_judges_J127
    cases l
    · simp only [Bool.false_eq_true, if_false, if_true, z_lt_i, e3, e4, z_gd (show k < 1000 by omega) hk, z_cl (show k < 1000 by omega), z_p1, and_true]
      by_cases q : σ6 25 15 = -1
      · simp only [q, if_true]
      · simp only [q, if_false]
    · have h10 : ¬ (1 : Int32) = 0 := by decide
      simp only [if_true, h10, if_false, z_lt_i, e3, e4, z_gd (show k < 1000 by omega) hk, z_cl (show k < 1000 by omega), z_p1, Bool.true_eq_false, and_false]
      by_cases q : σ6 25 15 = -1
      · simp only [q, if_true]
      · simp only [q, if_false]
  have h34 : eu_up τ 34 k (if l = true then 1 else 0) 34 k = (if l = true then 1 else 0) := by rw [eu_up_r]; simp
  rw [h34]
  unfold zJ
  cases l
  · rw [if_pos (by simp), h74 _ _ h34]
    simp [eu_up_r]
  · rw [if_neg (by simp), z_n2, z_gd (by omega) (by omega), z_cl (by omega), h74 _ _ h34]
    simp [eu_up_r]
theorem zJ_f (τ : eu_T) (k : Nat) (l : Bool) : zfJ τ (zJ τ k l) := by
  refine ⟨fun j h1 h2 => ?_, fun j h1 h2 h3 => ?_⟩
  · unfold zJ
    rw [eu_up_n h1, eu_up_n h1, eu_up_n h1, eu_up_n h2]
  · unfold zJ
    simp [eu_up_r, h1, h2, h3]
def sLw (D : zD) (pe th : Nat → Nat) (skip i : Nat) : Bool := decide (¬ i = skip) && sOk D pe th (sL D pe th skip i).1 (sL D pe th skip i).2 i
theorem sL_s (D : zD) (pe th : Nat → Nat) (skip i : Nat) : sL D pe th skip (i + 1) = if sLw D pe th skip i = true then ((sL D pe th skip i).1 ||| zb i, (sL D pe th skip i).2 ||| zb (pe i)) else sL D pe th skip i := rfl
theorem sL_bt (D : zD) (pe th : Nat → Nat) (skip : Nat) : ∀ n, n ≤ 31 → ∀ j, j < 32 → bt (sL D pe th skip n).1 j = (decide (j < n) && sLw D pe th skip j)
  | 0, _, j, _ => by rw [show (sL D pe th skip 0).1 = 0 from rfl, b_0]; simp
  | n + 1, hn, j, hj => by
    have ih := sL_bt D pe th skip n (by omega) j hj
    rw [sL_s]
    by_cases h : sLw D pe th skip n = true
    · rw [if_pos h, z_or1 (by omega) hj, ih]
      by_cases e : j = n
      · subst e; simp [h]
      · by_cases h2 : j < n
        · simp [h2, show j < n + 1 by omega, e]
        · simp [h2, show ¬ j < n + 1 by omega, e]
    · rw [if_neg h, ih]
      by_cases e : j = n
      · subst e; simp [h]
      · by_cases h2 : j < n
        · simp [h2, show j < n + 1 by omega]
        · simp [h2, show ¬ j < n + 1 by omega]
/-- how many of the first n are against the law; the first of them -/
def sAg (f : Nat → Bool) : Nat → Nat
  | 0 => 0
  | n + 1 => sAg f n + (if f n = true then 0 else 1)
def sFi (f : Nat → Bool) : Nat → Int32
  | 0 => -1
  | n + 1 => if sFi f n = -1 ∧ f n = false then nI n else sFi f n
theorem m_judges_L {D : zD} {n : Nat} {pe th : Nat → Nat} {skip : Nat} {sk : Int32} (hsk : ∀ i, i < 14 → (nI i = sk ↔ i = skip)) : ∀ (k i fu : Nat) (τ : eu_T), i + k = n → k < fu → zDm D τ → zUm n pe th τ → zLm (sL D pe th skip i).1 i τ → τ 25 16 = (sL D pe th skip i).2 → τ 25 14 = nI (sAg (sLw D pe th skip) i) → τ 25 15 = sFi (sLw D pe th skip) i →
    ∃ τ', fX5_judges_L17 fu τ (nI n) sk (nI i) = some (0, τ') ∧ zfJ τ τ' ∧ zLm (sL D pe th skip n).1 n τ' ∧ τ' 25 16 = (sL D pe th skip n).2 ∧ τ' 25 14 = nI (sAg (sLw D pe th skip) n) ∧ τ' 25 15 = sFi (sLw D pe th skip) n
  | 0, i, 0, _, _, hn, _, _, _, _, _, _ => by omega
  | k + 1, i, 0, _, _, hn, _, _, _, _, _, _ => by omega
  | 0, i, fu + 1, τ, hi, _, hD, hU, h1, h2, h3, h4 => by
    have h14 := hU.1
    have e : i = n := by omega
    subst e
    rw [fX5_judges_L17_s, if_pos (by rw [z_le (by omega) (by omega)]; omega)]
    exact ⟨τ, rfl, zfJ.rf, h1, h2, h3, h4⟩
  | k + 1, i, fu + 1, τ, hi, hf, hD, hU, h1, h2, h3, h4 => by
    have h14 := hU.1
    have step : ∃ τ1, fX5_judges_L17 (fu + 1) τ (nI n) sk (nI i) = fX5_judges_L17 fu τ1 (nI n) sk (nI (i + 1)) ∧ τ1 = zJ τ i (sLw D pe th skip i) := by
      refine ⟨_, ?_, rfl⟩
      rw [fX5_judges_L17_s, if_neg (by rw [z_le (by omega) (by omega)]; omega)]
      by_cases hs : i = skip
      · have e : sLw D pe th skip i = false := by unfold sLw; simp [hs]
        rw [if_pos ((hsk i (by omega)).mpr hs), e]
        have := m_J45 (kk := fX5_judges_L17 fu) (τ := τ) (v1 := nI n) (v2 := sk) (k := i) (by omega) false
        rw [if_neg (by simp)] at this
        exact this
      · have e : sLw D pe th skip i = sOk D pe th (sL D pe th skip i).1 (sL D pe th skip i).2 i := by unfold sLw; simp [hs]
        rw [if_neg (fun q => hs ((hsk i (by omega)).mp q)), m_isLawful hD hU (by omega) h1 h2, eu_bd_t, ← e]
        have := m_J45 (kk := fX5_judges_L17 fu) (τ := τ) (v1 := nI n) (v2 := sk) (k := i) (by omega) (sLw D pe th skip i)
        cases hb : sLw D pe th skip i
        · rw [hb] at this
          rw [show (if false = true then (1 : Int32) else 0) = 0 from rfl] at this ⊢
          rw [if_pos rfl]
          exact this
        · rw [hb] at this
          rw [show (if true = true then (1 : Int32) else 0) = 1 from rfl] at this ⊢
          rw [if_neg (by decide)]
          exact this
    obtain ⟨τ1, hs1, e1⟩ := step
    have hfr : zfJ τ τ1 := by rw [e1]; exact zJ_f τ i _
    have hb1 : τ1 34 i = (if sLw D pe th skip i = true then 1 else 0) := by rw [e1]; unfold zJ; simp [eu_up_r]
    have hb2 : ∀ j, j ≠ i → τ1 34 j = τ 34 j := by intro j hj; rw [e1]; unfold zJ; simp [eu_up_r, hj]
    obtain ⟨τ', g1, g2, g3⟩ := m_judges_L hsk k (i + 1) fu τ1 (by omega) (by omega) (hfr.D hD) (hfr.U hU) (fun j hj => by
        rw [sL_bt D pe th skip (i + 1) (by omega) j (by omega)]
        by_cases ej : j = i
        · subst ej
          rw [hb1]
          simp
        · rw [hb2 j ej, h1 j (by omega), sL_bt D pe th skip i (by omega) j (by omega)]
          simp [show j < i by omega, show j < i + 1 by omega]) (by
        rw [e1]
        unfold zJ
        rw [sL_s]
        have e0 := (hU.2 i (by omega)).1
        cases hb : sLw D pe th skip i
        · simp [eu_up_r, h2]
        · simp [eu_up_r, h2, e0]) (by
        rw [e1]
        unfold zJ sAg
        cases hb : sLw D pe th skip i
        · simp [eu_up_r, h3, z_p1]
        · simp [eu_up_r, h3]) (by
        rw [e1]
        unfold zJ
        rw [show sFi (sLw D pe th skip) (i + 1) = if sFi (sLw D pe th skip) i = -1 ∧ sLw D pe th skip i = false then nI i else sFi (sLw D pe th skip) i from rfl, ← h4]
        simp [eu_up_r])
    exact ⟨τ', hs1.trans g1, hfr.tr g2, g3⟩
theorem m_judges {D : zD} {n : Nat} {pe th : Nat → Nat} {skip : Nat} {sk : Int32} (hsk : ∀ i, i < 14 → (nI i = sk ↔ i = skip)) {τ : eu_T} (hD : zDm D τ) (hU : zUm n pe th τ) : ∃ τ', fX5_judges τ (nI n) sk = some (0, τ') ∧ zfJ τ τ' ∧ zLm (sL D pe th skip n).1 n τ' ∧ τ' 25 16 = (sL D pe th skip n).2 ∧ τ' 25 14 = nI (sAg (sLw D pe th skip) n) ∧ τ' 25 15 = sFi (sLw D pe th skip) n := by
  have h14 := hU.1
  obtain ⟨τ3, e3⟩ : ∃ τ3, τ3 = eu_up (eu_up (eu_up τ 25 14 0) 25 15 (-1)) 25 16 0 := ⟨_, rfl⟩
  have hfr : zfJ τ τ3 := by
    rw [e3]
    refine ⟨fun j h1 h2 => ?_, fun j h1 h2 h3 => ?_⟩
    · rw [eu_up_n h1, eu_up_n h1, eu_up_n h1]
    · simp [eu_up_r, h1, h2, h3]
  obtain ⟨τ', g1, g2, g3⟩ := m_judges_L hsk n 0 200 τ3 (by omega) (by omega) (hfr.D hD) (hfr.U hU) (fun j hj => by omega) (by rw [e3]; simp [eu_up_r]; rfl) (by rw [e3]; simp [eu_up_r]; rfl) (by rw [e3]; simp [eu_up_r]; rfl)
  refine ⟨τ', ?_, hfr.tr g2, g3⟩
  rw [nI_0, e3] at g1
  unfold fX5_judges
  rw [z_lt_i, z_lt_i, z_lt_i]
  exact g1
