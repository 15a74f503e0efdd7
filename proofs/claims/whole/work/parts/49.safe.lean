/-! ===== safe ===== -/
def zAl (v : Int32) (Q : Nat → Prop) : Prop := ∀ j, j < 32 → (bt v j = true ↔ Q j)
theorem zAl.u {v w : Int32} {Q R : Nat → Prop} (h : zAl v Q) (g : zAl w R) (e : ∀ j, j < 32 → (Q j ↔ R j)) : v = w := b_ext (fun j hj => by rw [Bool.eq_iff_iff, h j hj, g j hj]; exact e j hj)
theorem zAl.c {v : Int32} {Q R : Nat → Prop} (h : zAl v Q) (e : ∀ j, j < 32 → (Q j ↔ R j)) : zAl v R := fun j hj => (h j hj).trans (e j hj)
theorem zAl.n {v w : Int32} {Q : Nat → Prop} (h : zAl v Q) : zAl (v &&& w) (fun j => Q j ∧ bt w j = true) := fun j hj => by rw [b_and, Bool.and_eq_true, h j hj]
def sA1 (D : zD) (U : Nat) (pe th : Nat → Nat) (t : Nat) : Prop := ∃ p, p < 6 ∧ U < 12 ∧ bt (sTk D U pe th t) p = true
def sA2 (D : zD) (U : Nat) (pe th : Nat → Nat) (t t2 : Nat) : Prop := ∃ p, p < 6 ∧ sQ2 D U pe th t t2 p
theorem isLn.no {P : Nat → Prop} {r : Nat} (h : isLn 6 P r) (c : r = 6) : ¬ ∃ p, p < 6 ∧ P p := fun ⟨p, hp, q⟩ => h.2.2 p (by omega) q
theorem isLn.yes {P : Nat → Prop} {r : Nat} (h : isLn 6 P r) (c : ¬ r = 6) : r < 6 ∧ P r := ⟨by have := h.1; omega, h.2.1 (by have := h.1; omega)⟩
theorem d_lastin2 {k34 : eu_T → Int32 → Int32 → Int32 → Int32 → Option (Int32 × eu_T)} {D : zD} {U : Nat} {pe th : Nat → Nat} {t s3 : Nat} {v2 : Int32} (ht : t < 24) (hs3 : s3 ≤ 24) : ∀ (k j n : Nat) (σ : eu_T) (v : Int32) (Q : Nat → Prop), j + k = s3 → k < n → zOl D U pe th σ → zAl v Q → ∃ σ' v', zfW U σ σ' ∧ zAl v' (fun x => Q x ∧ ∀ t2, j ≤ t2 → t2 < s3 → sA2 D U pe th t t2 → bt (sW2 D U pe th t t2) x = true) ∧ fX1_lasting_L43 k34 n σ v2 (nI s3) v (nI t) (nI j) = k34 σ' v2 (nI s3) v' (nI (t + 1))
  | 0, j, 0, σ, v, Q, _, hn, _, _ => by omega
  | k + 1, j, 0, σ, v, Q, _, hn, _, _ => by omega
  | 0, j, n + 1, σ, v, Q, hj, _, h, hv => by
    refine ⟨σ, v, zfW.rf, hv.c (fun x hx => ⟨fun q => ⟨q, fun t2 a b _ => by omega⟩, fun q => q.1⟩), ?_⟩
    rw [fX1_lasting_L43_s, if_pos (le_p (show s3 ≤ j by omega) (by omega)), z_p1]
  | k + 1, j, n + 1, σ, v, Q, hj, hn, h, hv => by
    obtain ⟨r, r1, r2⟩ := d_taker2 h ht (show j < 24 by omega)
    rw [fX1_lasting_L43_s, if_neg (le_n (show ¬ s3 ≤ j by omega) (by omega)), r2, eu_bd_t, z_p1]
    by_cases c : r = 6
    · obtain ⟨σ', v', f1, f2, f3⟩ := d_lastin2 (k34 := k34) (v2 := v2) ht hs3 k (j + 1) n σ v Q (by omega) (by omega) h hv
      refine ⟨σ', v', f1, f2.c (fun x hx => ⟨fun q => ⟨q.1, fun t2 a b d => ?_⟩, fun q => ⟨q.1, fun t2 a b d => q.2 t2 (by omega) b d⟩⟩), ?_⟩
      · by_cases w : t2 = j
        · rw [w] at d; exact absurd d (r1.no c)
        · exact q.2 t2 (by omega) b d
      · rw [show znc 6 r = -1 by unfold znc; rw [if_pos c], if_pos rfl, f3]
    · obtain ⟨hr, hP⟩ := r1.yes c
      obtain ⟨σ1, e1, e2⟩ := d_W2 h hP.1 ht (show j < 24 by omega)
      obtain ⟨σ', v', f1, f2, f3⟩ := d_lastin2 (k34 := k34) (v2 := v2) ht hs3 k (j + 1) n σ1 _ _ (by omega) (by omega) (h.W e2) (hv.n (w := sW2 D U pe th t j))
      refine ⟨σ', v', e2.tr f1, f2.c (fun x hx => ⟨fun q => ⟨q.1.1, fun t2 a b d => ?_⟩, fun q => ⟨⟨q.1, q.2 j (by omega) (by omega) ⟨r, hr, hP⟩⟩, fun t2 a b d => q.2 t2 (by omega) b d⟩⟩), ?_⟩
      · by_cases w : t2 = j
        · rw [w]; exact q.1.2
        · exact q.2 t2 (by omega) b d
      · rw [show znc 6 r = nI r by unfold znc; rw [if_neg c], if_neg (z_nm1 (by omega)), e1, eu_b2_t, f3]
theorem d_lastin {k34 : eu_T → Int32 → Int32 → Int32 → Int32 → Option (Int32 × eu_T)} {D : zD} {U : Nat} {pe th : Nat → Nat} {t s3 n : Nat} {v2 v : Int32} {σ : eu_T} {Q : Nat → Prop} (ht : t < 24) (hs3 : s3 ≤ 24) (hn : 30 ≤ n) (h : zOl D U pe th σ) (hv : zAl v Q) : ∃ σ' v', zfW U σ σ' ∧ zAl v' (fun x => Q x ∧ (sA1 D U pe th t → bt (sW1 D U pe th t) x = true) ∧ ∀ t2, t2 < s3 → sA2 D U pe th t t2 → bt (sW2 D U pe th t t2) x = true) ∧ fX1_lasting_L43 k34 n σ v2 (nI s3) v (nI t) (-1) = k34 σ' v2 (nI s3) v' (nI (t + 1)) := by
  obtain ⟨n', rfl⟩ : ∃ n', n = n' + 1 := ⟨n - 1, by omega⟩
  obtain ⟨r, r1, r2⟩ := d_taker1 h ht
  have hneg : ¬ nI s3 ≤ (-1 : Int32) := fun q => by
    rw [Int32.le_iff_toInt_le, nI_toInt (by omega), show (-1 : Int32).toInt = -1 by decide] at q
    omega
  rw [fX1_lasting_L43_s, if_neg hneg, r2, eu_bd_t, show (-1 : Int32) + 1 = nI 0 by decide]
  by_cases c : r = 6
  · obtain ⟨σ', v', f1, f2, f3⟩ := d_lastin2 (k34 := k34) (v2 := v2) ht hs3 s3 0 n' σ v Q (by omega) (by omega) h hv
    refine ⟨σ', v', f1, f2.c (fun x hx => ⟨fun q => ⟨q.1, fun d => absurd d (r1.no c), fun t2 b d => q.2 t2 (by omega) b d⟩, fun q => ⟨q.1, fun t2 a b d => q.2.2 t2 b d⟩⟩), ?_⟩
    rw [show znc 6 r = -1 by unfold znc; rw [if_pos c], if_pos rfl, f3]
  · obtain ⟨hr, hP⟩ := r1.yes c
    obtain ⟨σ1, e1, e2⟩ := d_W1 h hP.1 ht
    obtain ⟨σ', v', f1, f2, f3⟩ := d_lastin2 (k34 := k34) (v2 := v2) ht hs3 s3 0 n' σ1 _ _ (by omega) (by omega) (h.W e2) (hv.n (w := sW1 D U pe th t))
    refine ⟨σ', v', e2.tr f1, f2.c (fun x hx => ⟨fun q => ⟨q.1.1, fun _ => q.1.2, fun t2 b d => q.2 t2 (by omega) b d⟩, fun q => ⟨⟨q.1, q.2.1 ⟨r, hr, hP⟩⟩, fun t2 a b d => q.2.2 t2 b d⟩⟩), ?_⟩
    rw [show znc 6 r = nI r by unfold znc; rw [if_neg c], if_neg (z_nm1 (by omega)), e1, eu_b2_t, f3]
theorem d_lastout {D : zD} {U : Nat} {pe th : Nat → Nat} {s2 s3 : Nat} (hs2 : s2 ≤ 24) (hs3 : s3 ≤ 24) : ∀ (k t n : Nat) (σ : eu_T) (v : Int32) (Q : Nat → Prop), t + k = s2 → k < n → zOl D U pe th σ → zAl v Q → ∃ σ' v', zfW U σ σ' ∧ zAl v' (fun x => Q x ∧ ∀ t1, t ≤ t1 → t1 < s2 → (sA1 D U pe th t1 → bt (sW1 D U pe th t1) x = true) ∧ ∀ t2, t2 < s3 → sA2 D U pe th t1 t2 → bt (sW2 D U pe th t1 t2) x = true) ∧ fX1_lasting_L34 n σ (nI s2) (nI s3) v (nI t) = some (v', σ')
  | 0, t, 0, σ, v, Q, _, hn, _, _ => by omega
  | k + 1, t, 0, σ, v, Q, _, hn, _, _ => by omega
  | 0, t, n + 1, σ, v, Q, ht, _, h, hv => by
    refine ⟨σ, v, zfW.rf, hv.c (fun x hx => ⟨fun q => ⟨q, fun t1 a b => by omega⟩, fun q => q.1⟩), ?_⟩
    rw [fX1_lasting_L34_s, if_pos (le_p (show s2 ≤ t by omega) (by omega))]
  | k + 1, t, n + 1, σ, v, Q, ht, hn, h, hv => by
    obtain ⟨σ1, v1, f1, f2, f3⟩ := d_lastin (k34 := fX1_lasting_L34 n) (n := 200) (v2 := nI s2) (show t < 24 by omega) hs3 (by omega) h hv
    obtain ⟨σ2, v2', g1, g2, g3⟩ := d_lastout hs2 hs3 k (t + 1) n σ1 v1 _ (by omega) (by omega) (h.W f1) f2
    refine ⟨σ2, v2', f1.tr g1, g2.c (fun x hx => ⟨fun q => ⟨q.1.1, fun t1 a b => ?_⟩, fun q => ⟨⟨q.1, q.2 t (by omega) (by omega)⟩, fun t1 a b => q.2 t1 (by omega) b⟩⟩), ?_⟩
    · by_cases w : t1 = t
      · rw [w]; exact q.1.2
      · exact q.2 t1 (by omega) b
    · rw [fX1_lasting_L34_s, if_neg (le_n (show ¬ s2 ≤ t by omega) (by omega)), f3, g3]
theorem z_4095 : ∀ j, j < 32 → bt 4095 j = decide (j < 12) := by decide +kernel
theorem z_and4095 {v : Int32} (h : ∀ j, j < 32 → bt v j = true → j < 12) : v &&& 4095 = v := b_ext (fun j hj => by
  rw [b_and, z_4095 j hj]
  cases q : bt v j
  · rfl
  · rw [decide_eq_true (h j hj q)]; rfl)
def sB1 (D : zD) (U : Nat) (pe th : Nat → Nat) (c : Nat) : Prop := (decide (U < 12) && bt (sTk D U pe th (c % 24)) (c / 24)) = true
theorem m_after1 {τ0 : eu_T} {D : zD} {U : Nat} {pe th : Nat → Nat} : ∀ (k i n : Nat) (τ : eu_T) (v : Int32) (Q : Nat → Prop), i + k = 144 → k < n → zM τ0 D U pe th τ → zAl v Q → (∀ j, Q j → j < 12) → ∃ τ' v', zM τ0 D U pe th τ' ∧ zAl v' (fun x => Q x ∧ ∀ c, i ≤ c → c < 144 → sB1 D U pe th c → bt (sW1 D U pe th (c % 24)) x = true) ∧ fX5_afterAny_L5 n τ (nI U) v (nI i) = some (v', τ')
  | 0, i, 0, τ, v, Q, _, hn, _, _, _ => by omega
  | k + 1, i, 0, τ, v, Q, _, hn, _, _, _ => by omega
  | 0, i, n + 1, τ, v, Q, hi, _, h, hv, hQ => by
    refine ⟨τ, v, h, hv.c (fun x hx => ⟨fun q => ⟨q, fun c a b => by omega⟩, fun q => q.1⟩), ?_⟩
    rw [fX5_afterAny_L5_s, show (144 : Int32) = nI 144 from rfl, if_pos (le_p (show 144 ≤ i by omega) (by omega))]
  | k + 1, i, n + 1, τ, v, Q, hi, hn, h, hv, hQ => by
    have hU12 := h.2.2.2.1
    obtain ⟨τ1, g1, g2, g3⟩ := m_add1 h (show i < 144 by omega)
    rw [fX5_afterAny_L5_s, show (144 : Int32) = nI 144 from rfl, if_neg (le_n (show ¬ 144 ≤ i by omega) (by omega)), g1, eu_b2_t, z_p1, z_p1]
    by_cases c1 : sB1 D U pe th i
    · have c1' := c1
      unfold sB1 at c1'
      rw [if_pos c1', if_neg (show ¬ (1 : Int32) = 0 by decide)]
      rw [Bool.and_eq_true, decide_eq_true_iff] at c1'
      rw [((g3 c1'.1).2 c1'.2).2, eu_bd_t]
      obtain ⟨τ2, v2, f1, f2, f3⟩ := m_after1 k (i + 1) n τ1 _ _ (by omega) (by omega) g2 (hv.n (w := sW1 D U pe th (i % 24))) (fun j q => hQ j q.1)
      refine ⟨τ2, v2, f1, f2.c (fun x hx => ⟨fun q => ⟨q.1.1, fun c a b d => ?_⟩, fun q => ⟨⟨q.1, q.2 i (by omega) (by omega) c1⟩, fun c a b d => q.2 c (by omega) b d⟩⟩), f3⟩
      by_cases w : c = i
      · rw [w]; exact q.1.2
      · exact q.2 c (by omega) b d
    · rw [if_neg (show ¬ (decide (U < 12) && bt (sTk D U pe th (i % 24)) (i / 24)) = true from c1), if_pos (show (0 : Int32) = 0 from rfl), z_and4095 (fun j hj q => hQ j ((hv j hj).mp q))]
      obtain ⟨τ2, v2, f1, f2, f3⟩ := m_after1 k (i + 1) n τ1 _ _ (by omega) (by omega) g2 hv hQ
      refine ⟨τ2, v2, f1, f2.c (fun x hx => ⟨fun q => ⟨q.1, fun c a b d => ?_⟩, fun q => ⟨q.1, fun c a b d => q.2 c (by omega) b d⟩⟩), f3⟩
      by_cases w : c = i
      · rw [w] at d; exact absurd d c1
      · exact q.2 c (by omega) b d
def sB2 (D : zD) (U : Nat) (pe th : Nat → Nat) (p c : Nat) : Prop := (decide (U + 1 < 12) && sL2 D U pe th p c) = true
theorem m_after2 {τ0 : eu_T} {D : zD} {U : Nat} {pe th : Nat → Nat} {p t : Nat} (hp : p < 6) (ht : t < 24) (hU : U < 12) (hl : sLw D (nup pe U p) (nup th U t) 99 U = true) : ∀ (k i n : Nat) (τ : eu_T) (v : Int32) (Q : Nat → Prop), i + k = 144 → k < n → zM τ0 D U pe th τ → zUm (U + 1) (nup pe U p) (nup th U t) τ → zAl v Q → (∀ j, Q j → j < 12) → ∃ τ' v', zM τ0 D U pe th τ' ∧ zAl v' (fun x => Q x ∧ ∀ c, i ≤ c → c < 144 → sB2 D U pe th p c → bt (sW2 D U pe th t (c % 24)) x = true) ∧ fX5_afterAny_L5 n τ (nI (U + 1)) v (nI i) = some (v', τ')
  | 0, i, 0, τ, v, Q, _, hn, _, _, _, _ => by omega
  | k + 1, i, 0, τ, v, Q, _, hn, _, _, _, _ => by omega
  | 0, i, n + 1, τ, v, Q, hi, _, h, _, hv, hQ => by
    refine ⟨τ, v, h, hv.c (fun x hx => ⟨fun q => ⟨q, fun c a b => by omega⟩, fun q => q.1⟩), ?_⟩
    rw [fX5_afterAny_L5_s, show (144 : Int32) = nI 144 from rfl, if_pos (le_p (show 144 ≤ i by omega) (by omega))]
  | k + 1, i, n + 1, τ, v, Q, hi, hn, h, hU1, hv, hQ => by
    obtain ⟨τ1, g1, g2, -, g4, g5⟩ := m_add2 h hp ht hU hU1 hl (show i < 144 by omega)
    rw [fX5_afterAny_L5_s, show (144 : Int32) = nI 144 from rfl, if_neg (le_n (show ¬ 144 ≤ i by omega) (by omega)), g1, eu_b2_t, z_p1, z_p1]
    by_cases c1 : sB2 D U pe th p i
    · rw [if_pos (show (decide (U + 1 < 12) && sL2 D U pe th p i) = true from c1), if_neg (show ¬ (1 : Int32) = 0 by decide), g5 c1, eu_bd_t]
      obtain ⟨τ2, v2, f1, f2, f3⟩ := m_after2 hp ht hU hl k (i + 1) n τ1 _ _ (by omega) (by omega) g2 g4 (hv.n (w := sW2 D U pe th t (i % 24))) (fun j q => hQ j q.1)
      refine ⟨τ2, v2, f1, f2.c (fun x hx => ⟨fun q => ⟨q.1.1, fun c a b d => ?_⟩, fun q => ⟨⟨q.1, q.2 i (by omega) (by omega) c1⟩, fun c a b d => q.2 c (by omega) b d⟩⟩), f3⟩
      by_cases w : c = i
      · rw [w]; exact q.1.2
      · exact q.2 c (by omega) b d
    · rw [if_neg (show ¬ (decide (U + 1 < 12) && sL2 D U pe th p i) = true from c1), if_pos (show (0 : Int32) = 0 from rfl), z_and4095 (fun j hj q => hQ j ((hv j hj).mp q))]
      obtain ⟨τ2, v2, f1, f2, f3⟩ := m_after2 hp ht hU hl k (i + 1) n τ1 _ _ (by omega) (by omega) g2 g4 hv hQ
      refine ⟨τ2, v2, f1, f2.c (fun x hx => ⟨fun q => ⟨q.1, fun c a b d => ?_⟩, fun q => ⟨q.1, fun c a b d => q.2 c (by omega) b d⟩⟩), f3⟩
      by_cases w : c = i
      · rw [w] at d; exact absurd d c1
      · exact q.2 c (by omega) b d
theorem m_safe2 {τ0 : eu_T} {D : zD} {U : Nat} {pe th : Nat → Nat} : ∀ (k i n : Nat) (τ : eu_T) (v : Int32) (Q : Nat → Prop), i + k = 144 → k < n → zM τ0 D U pe th τ → zAl v Q → (∀ j, Q j → j < 12) → ∃ τ' v', zM τ0 D U pe th τ' ∧ zAl v' (fun x => Q x ∧ ∀ c, i ≤ c → c < 144 → sB1 D U pe th c → ∀ c2, c2 < 144 → sB2 D U pe th (c / 24) c2 → bt (sW2 D U pe th (c % 24) (c2 % 24)) x = true) ∧ fX5_safeOf_L26 n τ 2 v (nI i) = some (v', τ')
  | 0, i, 0, τ, v, Q, _, hn, _, _, _ => by omega
  | k + 1, i, 0, τ, v, Q, _, hn, _, _, _ => by omega
  | 0, i, n + 1, τ, v, Q, hi, _, h, hv, hQ => by
    refine ⟨τ, v, h, hv.c (fun x hx => ⟨fun q => ⟨q, fun c a b => by omega⟩, fun q => q.1⟩), ?_⟩
    rw [fX5_safeOf_L26_s, show (144 : Int32) = nI 144 from rfl, if_pos (le_p (show 144 ≤ i by omega) (by omega))]
  | k + 1, i, n + 1, τ, v, Q, hi, hn, h, hv, hQ => by
    have hU12 := h.2.2.2.1
    obtain ⟨τ1, g1, g2, g3⟩ := m_add1 h (show i < 144 by omega)
    rw [fX5_safeOf_L26_s, show (144 : Int32) = nI 144 from rfl, if_neg (le_n (show ¬ 144 ≤ i by omega) (by omega)), if_neg (show ¬ (2 : Int32) ≤ 1 by decide), h.2.2.2.2, g1, eu_b2_t, g2.2.2.2.2, z_p1, z_p1]
    by_cases c1 : sB1 D U pe th i
    · have c1' := c1
      unfold sB1 at c1'
      rw [if_pos c1', if_neg (show ¬ (1 : Int32) = 0 by decide)]
      rw [Bool.and_eq_true, decide_eq_true_iff] at c1'
      obtain ⟨k1, k2⟩ := g3 c1'.1
      obtain ⟨τ3, v3, a1, a2, a3⟩ := m_after2 (show i / 24 < 6 by omega) (show i % 24 < 24 by omega) c1'.1 (k2 c1'.2).1 144 0 200 τ1 v Q (by omega) (by omega) g2 k1 hv hQ
      rw [nI_0] at a3
      obtain ⟨τ2, v2, f1, f2, f3⟩ := m_safe2 k (i + 1) n τ3 v3 _ (by omega) (by omega) a1 a2 (fun j q => hQ j q.1)
      refine ⟨τ2, v2, f1, f2.c (fun x hx => ⟨fun q => ⟨q.1.1, fun c a b d c2 hc2 d2 => ?_⟩, fun q => ⟨⟨q.1, fun c2 _ hc2 d2 => q.2 i (by omega) (by omega) c1 c2 hc2 d2⟩, fun c a b d => q.2 c (by omega) b d⟩⟩), ?_⟩
      · by_cases w : c = i
        · rw [w] at d2 ⊢; exact q.1.2 c2 (by omega) hc2 d2
        · exact q.2 c (by omega) b d c2 hc2 d2
      · unfold fX5_afterAny
        rw [a3, eu_b2_t, f3]
    · rw [if_neg (show ¬ (decide (U < 12) && bt (sTk D U pe th (i % 24)) (i / 24)) = true from c1), if_pos (show (0 : Int32) = 0 from rfl)]
      obtain ⟨τ2, v2, f1, f2, f3⟩ := m_safe2 k (i + 1) n τ1 _ _ (by omega) (by omega) g2 hv hQ
      refine ⟨τ2, v2, f1, f2.c (fun x hx => ⟨fun q => ⟨q.1, fun c a b d => ?_⟩, fun q => ⟨q.1, fun c a b d => q.2 c (by omega) b d⟩⟩), f3⟩
      by_cases w : c = i
      · rw [w] at d; exact absurd d c1
      · exact q.2 c (by omega) b d
theorem m_safe1 {τ : eu_T} {v1 v : Int32} (h : v1 ≤ 1) : fX5_safeOf_L26 200 τ v1 v 0 = some (v, τ) := by
  have key : ∀ n, fX5_safeOf_L26 (n + 1) τ v1 v 0 = some (v, τ) := fun n => by
    rw [fX5_safeOf_L26_s, if_neg (show ¬ (144 : Int32) ≤ 0 by decide), if_pos h]
  exact key 199
theorem z_safeOf {τ0 : eu_T} {D : zD} {U : Nat} {pe th : Nat → Nat} {σ τ : eu_T} (hD : zDd D σ) (hU : zUd U pe th σ) (h : zM τ0 D U pe th τ) {nn : Nat} (hnn : nn < 3) : ∃ r σ' τ', fX4_safe σ (nI nn) = some (r, σ') ∧ fX5_safeOf τ (nI nn) = some (r, τ') ∧ zfs U σ σ' ∧ zM τ0 D U pe th τ' := by
  have hU12 := hU.1
  have h12 := hD.1
  obtain ⟨σ1, f1, f2, f3⟩ := d_renew hD hU
  obtain ⟨τ1, g1, g2⟩ := m_stateOf h (k := U) (Nat.le_refl U) 0
  have h0 : zAl (sSt D pe th 99 U) (fun j => bt (sSt D pe th 99 U) j = true ∧ j < 12) := fun j hj => ⟨fun q => ⟨q, z_std h12 j hj q⟩, fun q => q.1⟩
  have a1 := d_lastout (D := D) (U := U) (pe := pe) (th := th) (s2 := if nn = 0 then 0 else 24) (s3 := if nn = 2 then 24 else 0) (by by_cases c : nn = 0; rw [if_pos c]; omega; rw [if_neg c]; omega) (by by_cases c : nn = 2; rw [if_pos c]; omega; rw [if_neg c]; omega) (if nn = 0 then 0 else 24) 0 200 σ1 _ _ (by omega) (by by_cases c : nn = 0; rw [if_pos c]; omega; rw [if_neg c]; omega) f3 h0
  obtain ⟨σ2, v2, b1, b2, b3⟩ := a1
  rw [nI_0] at b3
  have hd : fX4_safe σ (nI nn) = some (v2, σ2) := by
    unfold fX4_safe fX1_lasting fX1_lasting_J10 fX1_lasting_J22
    rw [show (3 : Int32) = nI 3 from rfl, z_below (by omega) (by omega), if_pos hnn, if_neg (show ¬ (1 : Int32) = 0 by decide), f1, eu_b2_t, d_W0 f3, eu_b2_t, eu_b2_t]
    rcases (show nn = 0 ∨ nn = 1 ∨ nn = 2 by omega) with rfl | rfl | rfl
    · rw [if_pos (show nI 0 = 0 from rfl), if_neg (show ¬ nI 0 = 2 by decide)]
      have b3' : fX1_lasting_L34 200 σ1 0 0 (sSt D pe th 99 U) 0 = some (v2, σ2) := b3
      rw [b3', eu_b2_t]
    · rw [if_neg (show ¬ nI 1 = 0 by decide), if_neg (show ¬ nI 1 = 2 by decide)]
      have b3' : fX1_lasting_L34 200 σ1 24 0 (sSt D pe th 99 U) 0 = some (v2, σ2) := b3
      rw [eu_b2_t, b3', eu_b2_t]
    · rw [if_neg (show ¬ nI 2 = 0 by decide), if_pos (show nI 2 = 2 from rfl)]
      have b3' : fX1_lasting_L34 200 σ1 24 24 (sSt D pe th 99 U) 0 = some (v2, σ2) := b3
      rw [eu_b2_t, b3', eu_b2_t]
  have hm : ∃ τ2, fX5_safeOf τ (nI nn) = some (v2, τ2) ∧ zM τ0 D U pe th τ2 := by
    unfold fX5_safeOf
    rw [h.2.2.2.2, g1, eu_b2_t, if_pos rfl]
    rcases (show nn = 0 ∨ nn = 1 ∨ nn = 2 by omega) with rfl | rfl | rfl
    · rw [if_pos (show nI 0 ≤ 0 by decide), m_safe1 (show nI 0 ≤ 1 by decide)]
      refine ⟨τ1, ?_, g2⟩
      rw [h0.u b2 (fun j hj => ⟨fun q => ⟨q, fun t1 _ w => by rw [if_pos rfl] at w; omega⟩, fun q => q.1⟩)]
    · obtain ⟨τ2, v3, c1, c2, c3⟩ := m_after1 144 0 200 τ1 _ _ (by omega) (by omega) g2 h0 (fun j q => q.2)
      rw [nI_0] at c3
      unfold fX5_afterAny
      rw [if_neg (show ¬ nI 1 ≤ 0 by decide), g2.2.2.2.2, c3, eu_b2_t, m_safe1 (show nI 1 ≤ 1 by decide)]
      refine ⟨τ2, ?_, c1⟩
      rw [c2.u b2 (fun j hj => ?_)]
      constructor
      · rintro ⟨q1, q2⟩
        refine ⟨q1, fun t1 _ w => ⟨?_, fun t2 w2 => by rw [if_neg (by decide)] at w2; omega⟩⟩
        rw [if_neg (by decide)] at w
        rintro ⟨p, hp, hu, hb⟩
        have := q2 (24 * p + t1) (by omega) (by omega)
        unfold sB1 at this
        rw [show (24 * p + t1) / 24 = p by omega, show (24 * p + t1) % 24 = t1 by omega, hb, decide_eq_true hu] at this
        exact this rfl
      · rintro ⟨q1, q2⟩
        refine ⟨q1, fun c _ hc d => ?_⟩
        unfold sB1 at d
        rw [Bool.and_eq_true, decide_eq_true_iff] at d
        exact (q2 (c % 24) (by omega) (by rw [if_neg (by decide)]; omega)).1 ⟨c / 24, by omega, d.1, d.2⟩
    · obtain ⟨τ2, v3, c1, c2, c3⟩ := m_after1 144 0 200 τ1 _ _ (by omega) (by omega) g2 h0 (fun j q => q.2)
      obtain ⟨τ3, v4, d1, d2, d3⟩ := m_safe2 144 0 200 τ2 v3 _ (by omega) (by omega) c1 c2 (fun j q => q.1.2)
      rw [nI_0] at c3 d3
      unfold fX5_afterAny
      rw [if_neg (show ¬ nI 2 ≤ 0 by decide), g2.2.2.2.2, c3, eu_b2_t, show nI 2 = (2 : Int32) from rfl, d3]
      refine ⟨τ3, ?_, d1⟩
      rw [d2.u b2 (fun j hj => ?_)]
      constructor
      · rintro ⟨⟨q1, q2⟩, q3⟩
        refine ⟨q1, fun t1 _ w => ⟨?_, fun t2 w2 => ?_⟩⟩
        · rw [if_neg (by decide)] at w
          rintro ⟨p, hp, hu, hb⟩
          have := q2 (24 * p + t1) (by omega) (by omega)
          unfold sB1 at this
          rw [show (24 * p + t1) / 24 = p by omega, show (24 * p + t1) % 24 = t1 by omega, hb, decide_eq_true hu] at this
          exact this rfl
        · rw [if_neg (by decide)] at w
          rw [if_pos rfl] at w2
          rintro ⟨p, hp, e1, e2, q, hq, e3, e4⟩
          have h6 := sTk_6 hq e3
          have wn : ¬ t2 = 12 + U := fun w => by
            rw [w, sTk_own (by omega), b_0] at e3
            exact absurd e3 (by decide)
          have := q3 (24 * p + t1) (by omega) (by omega)
          unfold sB1 sB2 sL2 at this
          rw [show (24 * p + t1) / 24 = p by omega, show (24 * p + t1) % 24 = t1 by omega, e2, decide_eq_true (show U < 12 by omega)] at this
          have := this rfl (24 * q + t2) (by omega)
          rw [show (24 * q + t2) / 24 = q by omega, show (24 * q + t2) % 24 = t2 by omega, if_neg wn, e3, decide_eq_true e4, decide_eq_true e1] at this
          exact this rfl
      · rintro ⟨q1, q2⟩
        refine ⟨⟨q1, fun c _ hc d => ?_⟩, fun c _ hc d c2' hc2 d2' => ?_⟩
        · unfold sB1 at d
          rw [Bool.and_eq_true, decide_eq_true_iff] at d
          exact (q2 (c % 24) (by omega) (by rw [if_neg (by decide)]; omega)).1 ⟨c / 24, by omega, d.1, d.2⟩
        · unfold sB1 at d
          unfold sB2 sL2 at d2'
          rw [Bool.and_eq_true, decide_eq_true_iff] at d
          rw [Bool.and_eq_true, decide_eq_true_iff, Bool.and_eq_true, decide_eq_true_iff] at d2'
          by_cases w : c2' % 24 = 12 + U
          · rw [w, sW2_back d2'.1 (fun i hi => (hU.2.2 i hi).2.2.2)]
            exact q1.1
          · rw [if_neg w] at d2'
            exact (q2 (c % 24) (by omega) (by rw [if_neg (by decide)]; omega)).2 (c2' % 24) (by rw [if_pos rfl]; omega) ⟨c / 24, by omega, d2'.1, d.2, c2' / 24, by omega, d2'.2.2, d2'.2.1⟩
  obtain ⟨τ2, k1, k2⟩ := hm
  exact ⟨v2, σ2, τ2, hd, k1, f2.tr b1.s, k2⟩
theorem sim_safe : ∀ (σ τ : eu_T) (a1 : Int32), eu_Rel σ τ → ∃ (r : Int32) (σ' τ' : eu_T), fX4_safe σ a1 = some (r, σ') ∧ fX5_safe τ a1 = some (r, τ') ∧ eu_Rel σ' τ' := by
  rintro σ τ a1 ⟨L, tx, U, pe, th, S, sd, si, h⟩
  obtain ⟨τ1, g1, g2⟩ := h.reads
  unfold fX5_safe
  rw [g1, eu_b2_t, z_i2]
  by_cases q1 : fX4_isBelow a1 (3 : Int32) = 0
  · rw [if_pos q1]
    exact ⟨-2, σ, τ1, by unfold fX4_safe; rw [if_pos q1], rfl, L, tx, U, pe, th, S, sd, si, h.M g2⟩
  · rcases z_below2 a1 3 (by omega) with ⟨e, -⟩ | ⟨nn, hnn, en, -⟩
    · exact absurd e q1
    obtain ⟨r, σ2, τ2, k1, k2, k3, k4⟩ := z_safeOf h.D h.Ud g2 hnn
    rw [if_neg q1, en, k2, eu_b2_t]
    exact ⟨r, σ2, τ2, k1, rfl, L, tx, U, pe, th, S, sd, si, (h.M k4).dev k3⟩
