/-! ===== what ties the class's state to the reference's ===== -/
def zSd (S : Nat) (sd si : Nat → Nat) (σ : eu_T) : Prop := S ≤ 8 ∧ σ 0 4 = nI S ∧ (∀ f, f < S → sd f < 12 ∧ si f < 2) ∧ (∀ d, d < 32 → (bt (σ 0 5) d = true ↔ ∃ f, f < S ∧ sd f = d ∧ si f = 1)) ∧ ∀ d, d < 32 → (bt (σ 0 6) d = true ↔ ∃ f, f < S ∧ sd f = d ∧ si f = 0)
def zSm (S : Nat) (sd si : Nat → Nat) (τ : eu_T) : Prop := τ 25 20 = nI S ∧ ∀ f, f < S → τ 36 (2 * f) = nI (sd f) ∧ τ 36 (2 * f + 1) = nI (si f)
def zWo (σ τ : eu_T) : Prop := ∀ p, p < 6 → ∀ d, d < 12 → σ (19 + p) d = τ 33 (12 * p + d)
def zSh (σ τ : eu_T) : Prop := ∀ s, s < 4 → ((σ (11 + s) 1 = 1 ∧ τ 26 s = -1) ∨ (σ (11 + s) 1 = 0 ∧ ∃ fm, fm < 3 ∧ σ (11 + s) 2 = nI fm ∧ τ 26 s = nI fm)) ∧ ∃ z, z ≤ 60 ∧ σ (11 + s) 3 = nI z ∧ τ 27 s = nI z ∧ ∀ i, i < z → σ (15 + s) i = τ 28 (60 * s + i)
def zR (L : Nat) (tx : Nat → Nat) (U : Nat) (pe th : Nat → Nat) (S : Nat) (sd si : Nat → Nat) (σ τ : eu_T) : Prop :=
  zTx L tx σ ∧ zDd (pAll L tx).2 σ ∧ σ 3 6 = (pAll L tx).1 ∧ zUd U pe th σ ∧ zSd S sd si σ ∧ zTm L tx τ ∧ zUm U pe th τ ∧ τ 25 10 = nI U ∧ zSm S sd si τ ∧ zWo σ τ ∧ zSh σ τ ∧ σ 0 7 = τ 25 4
def eu_Rel (σ τ : eu_T) : Prop := ∃ (L : Nat) (tx : Nat → Nat) (U : Nat) (pe th : Nat → Nat) (S : Nat) (sd si : Nat → Nat), zR L tx U pe th S sd si σ τ
/-- what the class's calls write on the side -/
def zfs (U : Nat) (σ σ' : eu_T) : Prop := (∀ k, k ≠ 1 → k ≠ 10 → σ' k = σ k) ∧ ∀ i, i < U → σ' 10 i = σ 10 i
theorem zfs.rf {U : Nat} {σ : eu_T} : zfs U σ σ := ⟨fun _ _ _ => rfl, fun _ _ => rfl⟩
theorem zfs.tr {U : Nat} {a b c : eu_T} (h1 : zfs U a b) (h2 : zfs U b c) : zfs U a c := ⟨fun k q r => (h2.1 k q r).trans (h1.1 k q r), fun j q => (h2.2 j q).trans (h1.2 j q)⟩
theorem zfs.D {U : Nat} {D : zD} {σ σ' : eu_T} (h : zfs U σ σ') (hD : zDd D σ) : zDd D σ' := ⟨hD.1, by rw [h.1 3 (by decide) (by decide)]; exact hD.2.1, fun d hd => by rw [h.1 7 (by decide) (by decide), h.1 8 (by decide) (by decide)]; exact hD.2.2.1 d hd, by rw [h.1 3 (by decide) (by decide)]; exact hD.2.2.2⟩
theorem zfs.U {U : Nat} {pe th : Nat → Nat} {σ σ' : eu_T} (h : zfs U σ σ') (hU : zUd U pe th σ) : zUd U pe th σ' := ⟨hU.1, by rw [h.1 2 (by decide) (by decide)]; exact hU.2.1, fun i hi => by rw [h.1 9 (by decide) (by decide), h.2 i hi]; exact hU.2.2 i hi⟩
section ZR
variable {L : Nat} {tx : Nat → Nat} {U : Nat} {pe th : Nat → Nat} {S : Nat} {sd si : Nat → Nat} {σ τ σ' τ' : eu_T}
theorem zR.dev (h : zR L tx U pe th S sd si σ τ) (hf : zfs U σ σ') : zR L tx U pe th S sd si σ' τ := by
  obtain ⟨a1, a2, a3, a4, a5, b1, b2, b3, b4, c1, c2, c3⟩ := h
  have e3 := hf.1 3 (by decide) (by decide)
  have e0 := hf.1 0 (by decide) (by decide)
  have e6 := hf.1 6 (by decide) (by decide)
  refine ⟨⟨a1.1, by rw [e3]; exact a1.2.1, fun i hi => by rw [e6]; exact a1.2.2 i hi⟩, hf.D a2, by rw [e3]; exact a3, hf.U a4, ?_, b1, b2, b3, b4, fun p hp d hd => ?_, fun s hs => ?_, by rw [e0]; exact c3⟩
  · unfold zSd
    rw [e0]
    exact a5
  · rw [hf.1 (19 + p) (by omega) (by omega)]
    exact c1 p hp d hd
  · rw [hf.1 (11 + s) (by omega) (by omega), hf.1 (15 + s) (by omega) (by omega)]
    exact c2 s hs
theorem zR.mod (h : zR L tx U pe th S sd si σ τ) (hP : zP τ τ') (hU : zUm U pe th τ') : zR L tx U pe th S sd si σ τ' := by
  obtain ⟨a1, a2, a3, a4, a5, b1, b2, b3, b4, c1, c2, c3⟩ := h
  obtain ⟨p1, p2, p3, p4, p5, p6, p7, p8, p9, p10⟩ := hP
  refine ⟨a1, a2, a3, a4, a5, ⟨b1.1, by rw [p8]; exact b1.2.1, fun i hi => by rw [p4]; exact b1.2.2 i hi⟩, hU, by rw [p9]; exact b3, ⟨by rw [p10]; exact b4.1, fun f hf => by rw [p6]; exact b4.2 f hf⟩, fun p hp d hd => by rw [p5]; exact c1 p hp d hd, fun s hs => ?_, by rw [p7]; exact c3⟩
  rw [p1, p2, p3]
  exact c2 s hs
theorem zR.M (h : zR L tx U pe th S sd si σ τ) (hM : zM τ (pAll L tx).2 U pe th τ') : zR L tx U pe th S sd si σ τ' := h.mod hM.1 hM.2.2.1
theorem zR.reads (h : zR L tx U pe th S sd si σ τ) : ∃ τ1, fX5_reads τ = some (σ 3 6, τ1) ∧ zM τ (pAll L tx).2 U pe th τ1 := by
  obtain ⟨a1, a2, a3, a4, a5, b1, b2, b3, b4, c1, c2, c3⟩ := h
  obtain ⟨τ1, g1, g2, g3⟩ := m_reads b1
  refine ⟨τ1, by rw [a3]; exact g1, ⟨g3.1 26 (by decide) (by decide), g3.1 27 (by decide) (by decide), g3.1 28 (by decide) (by decide), g3.1 30 (by decide) (by decide), g3.1 33 (by decide) (by decide), g3.1 36 (by decide) (by decide), g3.2 4 (by decide) (by decide), g3.2 6 (by decide) (by decide), g3.2 10 (by decide) (by decide), g3.2 20 (by decide) (by decide)⟩, g2, ⟨b2.1, fun i hi => by rw [g3.1 32 (by decide) (by decide)]; exact b2.2 i hi⟩, a4.1, by rw [g3.2 10 (by decide) (by decide)]; exact b3⟩
theorem zR.find (h : zR L tx U pe th S sd si σ τ) : ∃ τ1, fX5_find τ = some (0, τ1) ∧ zM τ (pAll L tx).2 U pe th τ1 ∧ zLm (sL (pAll L tx).2 pe th 99 U).1 U τ1 ∧ τ1 25 16 = (sL (pAll L tx).2 pe th 99 U).2 ∧ τ1 25 14 = nI (sAg (sLw (pAll L tx).2 pe th 99) U) ∧ τ1 25 15 = sFi (sLw (pAll L tx).2 pe th 99) U := by
  obtain ⟨τ1, g1, g2⟩ := h.reads
  obtain ⟨τ2, f1, f2, f3⟩ := m_judges z_sk2 g2.2.1 g2.2.2.1
  refine ⟨τ2, ?_, g2.J f2, f3⟩
  unfold fX5_find
  rw [g1, eu_b2_t, g2.2.2.2.2, f1, eu_b2_t]
theorem zR.ok (h : zR L tx U pe th S sd si σ τ) : zDok (pAll L tx).2 := pAll_ok L tx
theorem zR.U12 (h : zR L tx U pe th S sd si σ τ) : U ≤ 12 := h.2.2.2.1.1
theorem zR.D (h : zR L tx U pe th S sd si σ τ) : zDd (pAll L tx).2 σ := h.2.1
theorem zR.Ud (h : zR L tx U pe th S sd si σ τ) : zUd U pe th σ := h.2.2.2.1
end ZR
theorem d_lawfulOfFirst {D : zD} {U : Nat} {pe th : Nat → Nat} {σ : eu_T} (hD : zDd D σ) (hU : zUd U pe th σ) {k : Nat} (hk : k ≤ U) : fX3_lawfulOfFirst σ (nI k) = some (sL D pe th 99 k).1 := by
  have hU12 := hU.1
  unfold fX3_lawfulOfFirst
  rw [d_lawful hD hU z_sk1, eu_bd_t]
  congr 1
  apply b_ext
  intro i hi
  rw [b_and, z_first (by omega) hi, sL_bt D pe th 99 U (by omega) i hi, sL_bt D pe th 99 k (by omega) i hi]
  by_cases h : i < k
  · simp [h, show i < U by omega]
  · simp [h]
theorem d_lawT {D : zD} {U : Nat} {pe th : Nat → Nat} {σ : eu_T} (hU : zUd U pe th σ) (skip k : Nat) (hk : k ≤ U) : ∀ i, i < 12 → bt (sL D pe th skip k).1 i = true → σ 10 i = nI (th i) ∧ th i < 24 := fun i hi hb => by
  have := sL_ltb D pe th skip k (by have := hU.1; omega) i hi hb
  obtain ⟨-, e, -, ht⟩ := hU.2.2 i (by omega)
  exact ⟨e, ht⟩
theorem d_standingBehind {D : zD} {U : Nat} {pe th : Nat → Nat} {σ : eu_T} (hD : zDd D σ) (hU : zUd U pe th σ) {k : Nat} (hk : k ≤ U) : fX4_standingBehind σ (nI k) = some (sSt D pe th 99 k) := by
  unfold fX4_standingBehind
  rw [d_lawfulOfFirst hD hU hk, eu_bd_t, d_standing hD (d_lawT hU 99 k hk), eu_bd_t]
theorem d_unspent_L {D : zD} {U : Nat} {pe th : Nat → Nat} {σ : eu_T} (hU : zUd U pe th σ) {k0 : Nat} (hk0 : k0 ≤ U) : ∀ (k i n : Nat), i + k = U → k < n → fX3_unspent_L5 σ n (sL D pe th 99 k0).1 (63 &&& ((sL D pe th 99 (if i ≤ k0 then i else k0)).2 ^^^ (-1))) (nI i) = some (sSp D pe th 99 k0)
  | 0, i, 0, _, hn => by omega
  | k + 1, i, 0, _, hn => by omega
  | 0, i, n + 1, hi, _ => by
    have hU12 := hU.1
    rw [fX3_unspent_L5_s, hU.2.1, if_pos (by rw [z_le (by omega) (by omega)]; omega)]
    by_cases h : i ≤ k0
    · rw [if_pos h, show i = k0 by omega]
    · rw [if_neg h]
  | k + 1, i, n + 1, hi, hn => by
    have hU12 := hU.1
    obtain ⟨e9, -, hp, -⟩ := hU.2.2 i (by omega)
    have ih := d_unspent_L (D := D) hU hk0 k (i + 1) n (by omega) (by omega)
    rw [fX3_unspent_L5_s, hU.2.1, if_neg (by rw [z_le (by omega) (by omega)]; omega), z_bitOf (by omega), sL_bt D pe th 99 k0 (by omega) i (by omega)]
    by_cases h : i < k0
    · rw [if_pos (show i + 1 ≤ k0 by omega), sL_s] at ih
      rw [if_pos (show i ≤ k0 by omega)]
      cases hb : sLw D pe th 99 i
      · rw [hb, if_neg (by simp)] at ih
        rw [if_neg (by simp), z_p1]
        exact ih
      · rw [hb, if_pos rfl] at ih
        rw [if_pos (by simp [h]), z_gd (by omega) (by omega), z_lt_i, z_cl (by omega), e9, z_p1]
        have e : 63 &&& ((sL D pe th 99 i).2 ^^^ (-1)) &&& (((1 : Int32) <<< (nI (pe i) &&& 31)) ^^^ (-1)) = 63 &&& (((sL D pe th 99 i).2 ||| zb (pe i)) ^^^ (-1)) := by
          apply b_ext
          intro j hj
          rw [b_and, b_and, b_and, z_not hj, z_not hj, z_not hj, b_or]
          cases bt 63 j <;> cases bt (sL D pe th 99 i).2 j <;> cases bt (zb (pe i)) j <;> rfl
        rw [e]
        exact ih
    · rw [if_neg (show ¬ i + 1 ≤ k0 by omega)] at ih
      rw [if_neg (by simp [h]), z_p1]
      by_cases h2 : i ≤ k0
      · rw [if_pos h2, show i = k0 by omega]
        rw [show i = k0 by omega] at ih
        exact ih
      · rw [if_neg h2]
        exact ih
theorem d_unspent {D : zD} {U : Nat} {pe th : Nat → Nat} {σ : eu_T} (hU : zUd U pe th σ) {k0 : Nat} (hk0 : k0 ≤ U) : fX3_unspent σ (sL D pe th 99 k0).1 = some (sSp D pe th 99 k0) := by
  have h := d_unspent_L (D := D) hU hk0 U 0 200 (by omega) (by have := hU.1; omega)
  rw [if_pos (Nat.zero_le k0), nI_0, show (sL D pe th 99 0).2 = 0 from rfl, show (63 : Int32) &&& ((0 : Int32) ^^^ (-1)) = 63 by decide] at h
  unfold fX3_unspent
  rw [h]
theorem d_judged_L {U : Nat} {pe th : Nat → Nat} {σ : eu_T} {D : zD} (hU : zUd U pe th σ) : ∀ (k i n : Nat), i + k = U → k < n → sFi (sLw D pe th 99) i = -1 → fX4_judged_L11 σ n (sL D pe th 99 U).1 (nI i) = some (sFi (sLw D pe th 99) U)
  | 0, i, 0, _, hn, _ => by omega
  | k + 1, i, 0, _, hn, _ => by omega
  | 0, i, n + 1, hi, _, h1 => by
    have hU12 := hU.1
    rw [fX4_judged_L11_s, hU.2.1, if_pos (by rw [z_le (by omega) (by omega)]; omega), show U = i by omega, h1]
  | k + 1, i, n + 1, hi, hn, h1 => by
    have hU12 := hU.1
    rw [fX4_judged_L11_s, hU.2.1, if_neg (by rw [z_le (by omega) (by omega)]; omega), z_bitOf (by omega), sL_bt D pe th 99 U (by omega) i (by omega)]
    have hs : sFi (sLw D pe th 99) (i + 1) = if sFi (sLw D pe th 99) i = -1 ∧ sLw D pe th 99 i = false then nI i else sFi (sLw D pe th 99) i := rfl
    cases hb : sLw D pe th 99 i
    · rw [show (if (decide (i < U) && false) = true then (1 : Int32) else 0) = 0 by simp, if_pos rfl]
      rw [hb, if_pos ⟨h1, rfl⟩] at hs
      congr 1
      have key : ∀ d, i + 1 + d ≤ U → sFi (sLw D pe th 99) (i + 1 + d) = nI i := by
        intro d
        induction d with
        | zero => intro _; exact hs
        | succ d ihd =>
          intro hd
          have e : sFi (sLw D pe th 99) (i + 1 + d + 1) = if sFi (sLw D pe th 99) (i + 1 + d) = -1 ∧ sLw D pe th 99 (i + 1 + d) = false then nI (i + 1 + d) else sFi (sLw D pe th 99) (i + 1 + d) := rfl
          rw [show i + 1 + (d + 1) = i + 1 + d + 1 from rfl, e, ihd (by omega), if_neg (fun q => z_nm1 (by omega) q.1)]
      have := key (U - (i + 1)) (by omega)
      rw [show i + 1 + (U - (i + 1)) = U by omega] at this
      exact this.symm
    · rw [show (if (decide (i < U) && true) = true then (1 : Int32) else 0) = 1 by simp [show i < U by omega], if_neg (show ¬ (1 : Int32) = 0 by decide), z_p1]
      exact d_judged_L hU k (i + 1) n (by omega) (by omega) (by rw [hs, hb, if_neg (by simp)]; exact h1)
theorem d_judged {D : zD} {U : Nat} {pe th : Nat → Nat} {σ : eu_T} (hD : zDd D σ) (hU : zUd U pe th σ) : fX4_judged σ = some (sFi (sLw D pe th 99) U) := by
  have h := d_judged_L (D := D) hU U 0 200 (by omega) (by have := hU.1; omega) rfl
  rw [nI_0] at h
  unfold fX4_judged
  rw [d_lawful hD hU z_sk1, eu_bd_t, h]
theorem sim_fault : ∀ (σ τ : eu_T), eu_Rel σ τ → ∃ (τ' : eu_T), fX5_fault τ = some (fX4_fault σ, τ') ∧ eu_Rel σ τ' := by
  rintro σ τ ⟨L, tx, U, pe, th, S, sd, si, h⟩
  obtain ⟨τ1, g1, g2⟩ := h.reads
  refine ⟨τ1, ?_, L, tx, U, pe, th, S, sd, si, h.M g2⟩
  unfold fX5_fault fX4_fault
  rw [g1, eu_b2_t]
theorem sim_judged : ∀ (σ τ : eu_T), eu_Rel σ τ → ∃ (r : Int32) (τ' : eu_T), fX4_judged σ = some r ∧ fX5_judged τ = some (r, τ') ∧ eu_Rel σ τ' := by
  rintro σ τ ⟨L, tx, U, pe, th, S, sd, si, h⟩
  obtain ⟨τ1, g1, g2, -, -, -, g6⟩ := h.find
  refine ⟨_, τ1, d_judged h.D h.Ud, ?_, L, tx, U, pe, th, S, sd, si, h.M g2⟩
  unfold fX5_judged
  rw [g1, eu_b2_t, g6]
theorem sim_holds : ∀ (σ τ : eu_T) (a1 : Int32), eu_Rel σ τ → ∃ (r : Int32) (τ' : eu_T), fX4_holds σ a1 = some r ∧ fX5_holds τ a1 = some (r, τ') ∧ eu_Rel σ τ' := by
  rintro σ τ a1 ⟨L, tx, U, pe, th, S, sd, si, h⟩
  have hU12 := h.U12
  obtain ⟨τ1, g1, g2, g3, -⟩ := h.find
  have hR := h.M g2
  unfold fX4_holds fX5_holds
  rw [g1, eu_b2_t, g2.2.2.2.2, z_iD a1 U (by omega), h.Ud.2.1]
  rcases z_below2 a1 U (by omega) with ⟨e, -⟩ | ⟨x, hx, ex, e⟩
  · rw [e, if_pos rfl, if_pos rfl]
    exact ⟨_, τ1, rfl, rfl, L, tx, U, pe, th, S, sd, si, hR⟩
  · rw [e, if_neg (show ¬ (1 : Int32) = 0 by decide), if_neg (show ¬ (1 : Int32) = 0 by decide), d_lawful h.D h.Ud z_sk1, eu_bd_t, d_holding (d_lawT h.Ud 99 U (Nat.le_refl U)), eu_bd_t, m_holding g2.2.2.1 (Nat.le_refl U) hU12 g3 (sL_ltb _ pe th 99 U hU12), eu_bd_t]
    exact ⟨_, τ1, rfl, rfl, L, tx, U, pe, th, S, sd, si, hR⟩
theorem sim_state : ∀ (σ τ : eu_T) (a1 a2 : Int32), eu_Rel σ τ → ∃ (r : Int32) (τ' : eu_T), fX4_state σ a1 a2 = some r ∧ fX5_state τ a1 a2 = some (r, τ') ∧ eu_Rel σ τ' := by
  rintro σ τ a1 a2 ⟨L, tx, U, pe, th, S, sd, si, h⟩
  have hU12 := h.U12
  obtain ⟨τ1, g1, g2⟩ := h.reads
  have hR := h.M g2
  unfold fX4_state fX5_state fX5_state_J35
  rw [g1, eu_b2_t, g2.2.2.2.2, z_iU a1 U (by omega), z_i1, h.Ud.2.1, z_p1]
  rcases z_below2 a1 (U + 1) (by omega) with ⟨e, -⟩ | ⟨x, hx, ex, e⟩
  · rw [e, if_pos rfl, if_pos rfl]
    exact ⟨_, τ1, rfl, rfl, L, tx, U, pe, th, S, sd, si, hR⟩
  · rw [e, if_neg (show ¬ (1 : Int32) = 0 by decide), if_neg (show ¬ (1 : Int32) = 0 by decide)]
    by_cases c : fX4_isBelow a2 (2 : Int32) = 0
    · rw [if_pos c, if_pos c]
      exact ⟨_, τ1, rfl, rfl, L, tx, U, pe, th, S, sd, si, hR⟩
    · rw [if_neg c, if_neg c, ex]
      obtain ⟨τ2, f1, f2⟩ := m_stateOf g2 (k := x) (by omega) a2
      rw [f1, eu_b2_t]
      refine ⟨_, τ2, ?_, rfl, L, tx, U, pe, th, S, sd, si, h.M f2⟩
      by_cases w : a2 = 0
      · rw [if_pos w, if_pos w, d_standingBehind h.D h.Ud (by omega), eu_bd_t]
      · rw [if_neg w, if_neg w, d_lawfulOfFirst h.D h.Ud (by omega), eu_bd_t, d_unspent h.Ud (by omega), eu_bd_t]
theorem m_byOf {τ0 : eu_T} {D : zD} {U : Nat} {pe th : Nat → Nat} {τ : eu_T} (h : zM τ0 D U pe th τ) {k : Nat} (hk : k < U) : ∃ τ', fX5_byOf τ (nI k) = some (sSt D pe th 99 k ^^^ sSt D pe th 99 (k + 1), τ') ∧ zM τ0 D U pe th τ' := by
  obtain ⟨τ1, f1, f2⟩ := m_stateOf h (k := k) (by omega) 0
  obtain ⟨τ2, g1, g2⟩ := m_stateOf f2 (k := k + 1) (by omega) 0
  refine ⟨τ2, ?_, g2⟩
  unfold fX5_byOf
  rw [f1, eu_b2_t, z_p1, g1, eu_b2_t, if_pos rfl, if_pos rfl]
theorem sim_by : ∀ (σ τ : eu_T) (a1 : Int32), eu_Rel σ τ → ∃ (r : Int32) (τ' : eu_T), fX4_by σ a1 = some r ∧ fX5_by τ a1 = some (r, τ') ∧ eu_Rel σ τ' := by
  rintro σ τ a1 ⟨L, tx, U, pe, th, S, sd, si, h⟩
  have hU12 := h.U12
  obtain ⟨τ1, g1, g2⟩ := h.reads
  unfold fX4_by fX5_by
  rw [g1, eu_b2_t, g2.2.2.2.2, z_iD a1 U (by omega), h.Ud.2.1]
  rcases z_below2 a1 U (by omega) with ⟨e, -⟩ | ⟨x, hx, ex, e⟩
  · rw [e, if_pos rfl, if_pos rfl]
    exact ⟨_, τ1, rfl, rfl, L, tx, U, pe, th, S, sd, si, h.M g2⟩
  · rw [e, if_neg (show ¬ (1 : Int32) = 0 by decide), if_neg (show ¬ (1 : Int32) = 0 by decide), ex, z_p1, d_standingBehind h.D h.Ud (by omega), eu_bd_t, d_standingBehind h.D h.Ud (by omega), eu_bd_t]
    obtain ⟨τ2, f1, f2⟩ := m_byOf g2 hx
    rw [f1, eu_b2_t]
    exact ⟨_, τ2, rfl, rfl, L, tx, U, pe, th, S, sd, si, h.M f2⟩
