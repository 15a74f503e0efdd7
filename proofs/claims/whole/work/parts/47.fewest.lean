/-! ===== fewest ===== -/
theorem m_add1 {τ0 : eu_T} {D : zD} {U : Nat} {pe th : Nat → Nat} {τ : eu_T} (h : zM τ0 D U pe th τ) {c : Nat} (hc : c < 144) : ∃ τ', fX5_adds τ (nI U) (nI c) = some (if (decide (U < 12) && bt (sTk D U pe th (c % 24)) (c / 24)) = true then 1 else 0, τ') ∧ zM τ0 D U pe th τ' ∧ (U < 12 → zUm (U + 1) (nup pe U (c / 24)) (nup th U (c % 24)) τ' ∧ (bt (sTk D U pe th (c % 24)) (c / 24) = true → sLw D (nup pe U (c / 24)) (nup th U (c % 24)) 99 U = true ∧ fX5_standing τ' (nI (U + 1)) = some (sW1 D U pe th (c % 24)))) := by
  have hU12 := h.2.2.2.1
  have hok : ∀ i, i < U → pe i < 6 ∧ th i < 24 := fun i hi => (h.2.2.1.2 i hi).2.2
  have hd : ∀ d, d < D.1 → D.2.1 d < 6 := fun d hd => (h.2.1.2.2 d hd).2.1
  by_cases c1 : U < 12
  · obtain ⟨τ', g1, g2, g3, g4⟩ := m_adds h.2.1 h.2.2.1 c1 hc
    have e := sLw_1 hU12 hok hd (show c / 24 < 6 by omega) (show c % 24 < 24 by omega)
    refine ⟨τ', by rw [g1, e, decide_eq_true c1, Bool.true_and], h.A g2, fun _ => ⟨g3, fun q => ?_⟩⟩
    have hl : sLw D (nup pe U (c / 24)) (nup th U (c % 24)) 99 U = true := by rw [e]; exact q
    have e2 := sL_1 hU12 hok hl
    refine ⟨hl, ?_⟩
    rw [m_standing (g2.D h.2.1) g3 (Nat.le_refl (U + 1)) (by omega) g4 (sL_ltb D _ _ 99 (U + 1) (by omega)), e2]
    rfl
  · refine ⟨τ, ?_, h, fun q => absurd q c1⟩
    unfold fX5_adds
    rw [show (12 : Int32) = nI 12 from rfl, if_neg (lt_n c1 (by omega)), decide_eq_false c1, Bool.false_and]
    rfl
/-- the second, by code, is lawful behind a first by p -/
def sL2 (D : zD) (U : Nat) (pe th : Nat → Nat) (p c : Nat) : Bool := decide (¬ c / 24 = p) && (if c % 24 = 12 + U then bt (sSp D pe th 99 U) (c / 24) else bt (sTk D U pe th (c % 24)) (c / 24))
theorem m_add2 {τ0 : eu_T} {D : zD} {U : Nat} {pe th : Nat → Nat} {τ : eu_T} (h : zM τ0 D U pe th τ) {p t : Nat} (hp : p < 6) (ht : t < 24) (hU : U < 12) (hU1 : zUm (U + 1) (nup pe U p) (nup th U t) τ) (hl : sLw D (nup pe U p) (nup th U t) 99 U = true) {c : Nat} (hc : c < 144) : ∃ τ', fX5_adds τ (nI (U + 1)) (nI c) = some (if (decide (U + 1 < 12) && sL2 D U pe th p c) = true then 1 else 0, τ') ∧ zM τ0 D U pe th τ' ∧ zfA (U + 1) τ τ' ∧ zUm (U + 1) (nup pe U p) (nup th U t) τ' ∧ ((decide (U + 1 < 12) && sL2 D U pe th p c) = true → fX5_standing τ' (nI (U + 2)) = some (sW2 D U pe th t (c % 24))) := by
  have hU12 := h.2.2.2.1
  have hok : ∀ i, i < U → pe i < 6 ∧ th i < 24 := fun i hi => (h.2.2.1.2 i hi).2.2
  have hd : ∀ d, d < D.1 → D.2.1 d < 6 := fun d hd => (h.2.1.2.2 d hd).2.1
  by_cases c1 : U + 1 < 12
  · obtain ⟨τ', g1, g2, g3, g4⟩ := m_adds h.2.1 hU1 c1 hc
    have e := sLw_2 (by omega) hok hd hp ht (show c / 24 < 6 by omega) (show c % 24 < 24 by omega) hl
    rw [decide_eq_true c1, Bool.true_and]
    refine ⟨τ', by rw [g1, e]; rfl, h.A (g2.le (by omega)), g2, g2.U hU1, fun q => ?_⟩
    have hl2 : sLw D (nup (nup pe U p) (U + 1) (c / 24)) (nup (nup th U t) (U + 1) (c % 24)) 99 (U + 1) = true := by rw [e]; exact q
    have e2 := sL_1 (by omega) (fun i hi => (hU1.2 i hi).2.2) hl2
    rw [sL_1 hU12 hok hl] at e2
    rw [m_standing (g2.D h.2.1) g3 (Nat.le_refl (U + 2)) (by omega) g4 (sL_ltb D _ _ 99 (U + 2) (by omega)), e2]
    rfl
  · refine ⟨τ, ?_, h, zfA.rf, hU1, fun q => ?_⟩
    · unfold fX5_adds
      rw [show (12 : Int32) = nI 12 from rfl, if_neg (lt_n c1 (by omega)), decide_eq_false c1, Bool.false_and]
      rfl
    · rw [decide_eq_false c1, Bool.false_and] at q
      exact absurd q (by decide)
/-- a second that makes it as told -/
def sP2 (D : zD) (U : Nat) (pe th : Nat → Nat) (st fe : Int32) (p t c : Nat) : Prop := (decide (U + 1 < 12) && sL2 D U pe th p c) = true ∧ sTold D st fe (sW2 D U pe th t (c % 24)) = true
theorem m_canBe_L {τ0 : eu_T} {D : zD} {U : Nat} {pe th : Nat → Nat} {st fe : Int32} {p t : Nat} (hp : p < 6) (ht : t < 24) (hU : U < 12) (hl : sLw D (nup pe U p) (nup th U t) 99 U = true) : ∀ (k i n : Nat) (τ : eu_T), i + k = 144 → k + 1 < n → zM τ0 D U pe th τ → zUm (U + 1) (nup pe U p) (nup th U t) τ → (∀ c, c < i → ¬ sP2 D U pe th st fe p t c) → ∃ (b : Bool) (τ' : eu_T), fX5_canBe_L6 n τ (nI (U + 1)) st fe 0 (nI i) = some (if b = true then 1 else 0, τ') ∧ zM τ0 D U pe th τ' ∧ (b = true ↔ ∃ c, c < 144 ∧ sP2 D U pe th st fe p t c)
  | 0, i, 0, τ, _, hn, _, _, _ => by omega
  | k + 1, i, 0, τ, _, hn, _, _, _ => by omega
  | 0, i, n + 1, τ, hi, _, h, _, hno => by
    refine ⟨false, τ, ?_, h, fun q => absurd q (by decide), fun ⟨c, hc, q⟩ => absurd q (hno c (by omega))⟩
    rw [fX5_canBe_L6_s, show (144 : Int32) = nI 144 from rfl, if_pos (le_p (show 144 ≤ i by omega) (by omega)), eu_gd_t (Or.inl rfl)]
    rfl
  | k + 1, i, n + 1, τ, hi, hn, h, hU1, hno => by
    have hU12 := h.2.2.2.1
    obtain ⟨τ1, g1, g2, -, g4, g5⟩ := m_add2 h hp ht hU hU1 hl (show i < 144 by omega)
    have ih := fun (q : ¬ sP2 D U pe th st fe p t i) => m_canBe_L hp ht hU hl k (i + 1) n τ1 (by omega) (by omega) g2 g4 (fun c hc => by
      by_cases w : c = i
      · rw [w]; exact q
      · exact hno c (by omega))
    rw [fX5_canBe_L6_s, show (144 : Int32) = nI 144 from rfl, if_neg (le_n (show ¬ 144 ≤ i by omega) (by omega)), if_pos rfl, g1, eu_b2_t]
    unfold fX5_canBe_J45
    rw [z_p1, z_p1]
    by_cases c1 : (decide (U + 1 < 12) && sL2 D U pe th p i) = true
    · rw [if_pos c1, if_neg (show ¬ (1 : Int32) = 0 by decide), m_told g2.2.1 (g5 c1), eu_bd_t]
      by_cases c2 : sTold D st fe (sW2 D U pe th t (i % 24)) = true
      · rw [if_pos c2, if_neg (show ¬ (1 : Int32) = 0 by decide)]
        refine ⟨true, τ1, ?_, g2, fun _ => ⟨i, by omega, c1, c2⟩, fun _ => rfl⟩
        obtain ⟨n', rfl⟩ : ∃ n', n = n' + 1 := ⟨n - 1, by omega⟩
        rw [fX5_canBe_L6_s]
        by_cases c3 : nI 144 ≤ nI (i + 1)
        · rw [show (144 : Int32) = nI 144 from rfl, if_pos c3, eu_gd_t (Or.inr rfl)]
          rfl
        · rw [show (144 : Int32) = nI 144 from rfl, if_neg c3, if_neg (show ¬ (1 : Int32) = 0 by decide), eu_gd_t (Or.inr rfl)]
          rfl
      · rw [if_neg c2, if_pos (show (0 : Int32) = 0 from rfl)]
        exact ih (fun q => c2 q.2)
    · rw [if_neg c1, if_pos (show (0 : Int32) = 0 from rfl)]
      exact ih (fun q => c1 q.1)
/-- the first, by code, makes it as told, with e undoings -/
def sV (D : zD) (U : Nat) (pe th : Nat → Nat) (st fe : Int32) (e c : Nat) : Prop := (decide (U < 12) && bt (sTk D U pe th (c % 24)) (c / 24)) = true ∧ (e = 1 → sTold D st fe (sW1 D U pe th (c % 24)) = true) ∧ (¬ e = 1 → ∃ c2, c2 < 144 ∧ sP2 D U pe th st fe (c / 24) (c % 24) c2)
theorem m_few_in {k36 : eu_T → Int32 → Int32 → Int32 → Int32 → Int32 → Option (Int32 × eu_T)} {τ0 : eu_T} {D : zD} {U : Nat} {pe th : Nat → Nat} {st fe v3 v4 : Int32} {e : Nat} (he : e < 10) : ∀ (k i n : Nat) (τ : eu_T), i + k = 144 → k < n → zM τ0 D U pe th τ → (∀ c, c < i → ¬ sV D U pe th st fe e c) → ∃ (r : Nat) (τ' : eu_T), isLn 144 (sV D U pe th st fe e) r ∧ zM τ0 D U pe th τ' ∧ fX5_fewestOf_L45 k36 n τ st fe v3 v4 (nI e) (nI i) = if r = 144 then k36 τ' st fe v3 v4 (nI (e + 1)) else (if v4 = 0 then some (nI e, τ') else some (nI r, τ'))
  | 0, i, 0, τ, _, hn, _, _ => by omega
  | k + 1, i, 0, τ, _, hn, _, _ => by omega
  | 0, i, n + 1, τ, hi, _, h, hno => by
    refine ⟨144, τ, ⟨by omega, fun q => by omega, fun c hc => hno c (by omega)⟩, h, ?_⟩
    rw [fX5_fewestOf_L45_s, show (144 : Int32) = nI 144 from rfl, if_pos (le_p (show 144 ≤ i by omega) (by omega)), z_p1, if_pos rfl]
  | k + 1, i, n + 1, τ, hi, hn, h, hno => by
    have hU12 := h.2.2.2.1
    obtain ⟨τ1, g1, g2, g3⟩ := m_add1 h (show i < 144 by omega)
    have ih := fun (q : ¬ sV D U pe th st fe e i) (τ2 : eu_T) (h2 : zM τ0 D U pe th τ2) => m_few_in (k36 := k36) (v3 := v3) (v4 := v4) he k (i + 1) n τ2 (by omega) (by omega) h2 (fun c hc => by
      by_cases w : c = i
      · rw [w]; exact q
      · exact hno c (by omega))
    have fin : ∀ τ2, zM τ0 D U pe th τ2 → sV D U pe th st fe e i → ∃ (r : Nat) (τ' : eu_T), isLn 144 (sV D U pe th st fe e) r ∧ zM τ0 D U pe th τ' ∧ fX5_fewestOf_J105 τ2 v4 (nI e) (nI i) = if r = 144 then k36 τ' st fe v3 v4 (nI (e + 1)) else (if v4 = 0 then some (nI e, τ') else some (nI r, τ')) := fun τ2 h2 q => ⟨i, τ2, ⟨by omega, fun _ => q, hno⟩, h2, by rw [if_neg (show ¬ i = 144 by omega)]; rfl⟩
    rw [fX5_fewestOf_L45_s, show (144 : Int32) = nI 144 from rfl, if_neg (le_n (show ¬ 144 ≤ i by omega) (by omega)), h.2.2.2.2, g1, eu_b2_t, g2.2.2.2.2, z_p1, z_p1]
    by_cases c1 : (decide (U < 12) && bt (sTk D U pe th (i % 24)) (i / 24)) = true
    · have c1' := c1
      rw [Bool.and_eq_true, decide_eq_true_iff] at c1'
      obtain ⟨k1, k2⟩ := g3 c1'.1
      obtain ⟨k3, k4⟩ := k2 c1'.2
      rw [if_pos c1, if_neg (show ¬ (1 : Int32) = 0 by decide)]
      by_cases c2 : e = 1
      · rw [if_pos (show nI e = 1 by rw [c2]; rfl), m_told g2.2.1 k4, eu_bd_t]
        by_cases c3 : sTold D st fe (sW1 D U pe th (i % 24)) = true
        · rw [if_pos c3, if_neg (show ¬ (1 : Int32) = 0 by decide)]
          exact fin τ1 g2 ⟨c1, fun _ => c3, fun q => absurd c2 q⟩
        · rw [if_neg c3, if_pos (show (0 : Int32) = 0 from rfl)]
          exact ih (fun q => c3 (q.2.1 c2)) τ1 g2
      · rw [if_neg (show ¬ nI e = 1 from eq_n (b := 1) c2 (by omega) (by omega))]
        obtain ⟨b, τ2, f1, f2, f3⟩ := m_canBe_L (st := st) (fe := fe) (show i / 24 < 6 by omega) (show i % 24 < 24 by omega) c1'.1 k3 144 0 200 τ1 (by omega) (by omega) g2 k1 (fun c hc => absurd hc (Nat.not_lt_zero c))
        rw [nI_0] at f1
        unfold fX5_canBe
        rw [f1, eu_b2_t]
        cases b
        · rw [if_neg (show ¬ false = true by decide), if_pos (show (0 : Int32) = 0 from rfl)]
          exact ih (fun q => absurd (f3.mpr (q.2.2 c2)) (by decide)) τ2 f2
        · rw [if_pos (show true = true from rfl), if_neg (show ¬ (1 : Int32) = 0 by decide)]
          exact fin τ2 f2 ⟨c1, fun q => absurd q c2, fun _ => f3.mp rfl⟩
    · rw [if_neg c1, if_pos (show (0 : Int32) = 0 from rfl)]
      exact ih (fun q => c1 q.1) τ1 g2
/-! ===== the class's side ===== -/
theorem z_pair {P : Nat → Prop} {r t : Nat} (h : isLn 6 P r) (ht : t < 24) : isLn 144 (fun c => c % 24 = t ∧ P (c / 24)) (if r = 6 then 144 else 24 * r + t) := by
  obtain ⟨h1, h2, h3⟩ := h
  by_cases c : r = 6
  · rw [if_pos c]
    exact ⟨by omega, fun q => by omega, fun d hd q => h3 (d / 24) (by omega) q.2⟩
  · rw [if_neg c]
    refine ⟨by omega, fun q => ⟨by omega, ?_⟩, fun d hd q => h3 (d / 24) (by omega) q.2⟩
    rw [show (24 * r + t) / 24 = r by omega]
    exact h2 (by omega)
theorem d_step {k31 : eu_T → Int32 → Int32 → Int32 → Int32 → Int32 → Int32 → Option (Int32 × eu_T)} {D : zD} {U : Nat} {pe th : Nat → Nat} {σ : eu_T} (h : zOl D U pe th σ) {t n r m : Nat} (ht : t < 24) {v8 W v4 v5 st fe : Int32} {P P0 : Nat → Prop} (hv : ¬ v5 ≤ v8) (g1 : isLn 6 P r) (g2 : fX1_leastTaker σ (nI t) v8 = some (znc 6 r)) (g3 : ¬ r = 6 → ∃ σ', fX1_standingWith σ (nI t) v8 = some (W, σ') ∧ zfW U σ σ') (hm : isLn 144 P0 m) : ∃ σ' m', zfW U σ σ' ∧ isLn 144 (fun c => P0 c ∨ (c % 24 = t ∧ P (c / 24) ∧ sTold D st fe W = true)) m' ∧ fX1_leastFirst_L42 k31 (n + 1) σ st fe v4 v5 (znc 144 m) (nI t) v8 = fX1_leastFirst_L42 k31 n σ' st fe v4 v5 (znc 144 m') (nI t) (v8 + 1) := by
  have hm1 := hm.1
  have hr1 := g1.1
  rw [fX1_leastFirst_L42_s, if_neg hv, g2, eu_bd_t]
  by_cases c : r = 6
  · refine ⟨σ, m, zfW.rf, hm.c (fun d hd => ⟨Or.inl, fun q => q.elim id (fun q => absurd q.2.1 (g1.2.2 _ (by omega)))⟩), ?_⟩
    rw [show znc 6 r = -1 by unfold znc; rw [if_pos c], if_pos rfl]
  · have ez : znc 6 r = nI r := by unfold znc; rw [if_neg c]
    obtain ⟨σ', f1, f2⟩ := g3 c
    have hp := z_pair g1 ht
    rw [if_neg c] at hp
    rw [ez, if_neg (z_nm1 (by omega)), z_n24, nI_add]
    unfold fX1_leastFirst_J91 fX1_leastFirst_J96
    rw [if_neg (show ¬ (1 : Int32) = 0 by decide), if_pos (show (0 : Int32) = 0 from rfl), f1, eu_b2_t, d_told (f2.s.D h.1)]
    by_cases c2 : sTold D st fe W = true
    · have key : ¬ m ≤ 24 * r + t → isLn 144 (fun c => P0 c ∨ (c % 24 = t ∧ P (c / 24) ∧ sTold D st fe W = true)) (24 * r + t) := fun q => by
        have := hm.min hp
        rw [if_neg q] at this
        exact this.c (fun d hd => ⟨fun q => q.elim Or.inl (fun q => Or.inr ⟨q.1, q.2, c2⟩), fun q => q.elim Or.inl (fun q => Or.inr ⟨q.1, q.2.1⟩)⟩)
      have ez2 : znc 144 (24 * r + t) = nI (24 * r + t) := by
        unfold znc
        rw [if_neg (show ¬ 24 * r + t = 144 by omega)]
      rw [if_pos c2, if_neg (show ¬ (1 : Int32) = 0 by decide)]
      by_cases c3 : m = 144
      · rw [show znc 144 m = -1 by unfold znc; rw [if_pos c3], if_pos rfl]
        exact ⟨σ', _, f2, key (by omega), by rw [ez2]⟩
      · rw [show znc 144 m = nI m by unfold znc; rw [if_neg c3], if_neg (z_nm1 (by omega))]
        by_cases c4 : m ≤ 24 * r + t
        · rw [if_pos (le_p c4 (by omega))]
          refine ⟨σ, m, zfW.rf, ?_, by unfold znc; rw [if_neg c3]⟩
          have := hm.min hp
          rw [if_pos c4] at this
          exact this.c (fun d hd => ⟨fun q => q.elim Or.inl (fun q => Or.inr ⟨q.1, q.2, c2⟩), fun q => q.elim Or.inl (fun q => Or.inr ⟨q.1, q.2.1⟩)⟩)
        · rw [if_neg (le_n c4 (by omega))]
          exact ⟨σ', _, f2, key c4, by rw [ez2]⟩
    · have key : isLn 144 (fun c => P0 c ∨ (c % 24 = t ∧ P (c / 24) ∧ sTold D st fe W = true)) m := hm.c (fun d hd => ⟨Or.inl, fun q => q.elim id (fun q => absurd q.2.2 c2)⟩)
      rw [if_neg c2, if_pos (show (0 : Int32) = 0 from rfl)]
      by_cases c3 : znc 144 m = -1
      · rw [if_pos c3]
        exact ⟨σ', m, f2, key, rfl⟩
      · rw [if_neg c3]
        by_cases c4 : znc 144 m ≤ nI (24 * r + t)
        · rw [if_pos c4]
          exact ⟨σ, m, zfW.rf, key, rfl⟩
        · rw [if_neg c4]
          exact ⟨σ', m, f2, key, rfl⟩
