/-! ===== root and write ===== -/
theorem sF_lo (D : zD) : ∀ (k i : Nat) (v : Int32) (j : Nat), i + k ≤ 31 → j < 32 → (j < i ∨ i + k ≤ j) → bt (sF D k i v) j = bt v j
  | 0, i, v, j, _, _, _ => rfl
  | k + 1, i, v, j, hk, hj, h => by
    show bt (sF D k (i + 1) (if bt D.2.2.2 i = false ∧ ¬ (D.2.2.1 i &&& v) = 0 then v ||| zb i else v)) j = _
    rw [sF_lo D k (i + 1) _ j (by omega) hj (by omega)]
    by_cases c : bt D.2.2.2 i = false ∧ ¬ (D.2.2.1 i &&& v) = 0
    · rw [if_pos c, show bt (v ||| zb i) j = (bt v j || decide (j = i)) from z_or1 (by omega) hj, decide_eq_false (show ¬ j = i by omega), Bool.or_false]
    · rw [if_neg c]
theorem sF_hi (D : zD) (hok : ∀ d, d < D.1 → ∀ j, j < 32 → bt (D.2.2.1 d) j = true → j < d) : ∀ (k i : Nat) (v : Int32) (j : Nat), i + k = D.1 → D.1 ≤ 31 → i ≤ j → j < D.1 → (bt (sF D k i v) j = true ↔ bt v j = true ∨ (bt D.2.2.2 j = false ∧ ¬ (D.2.2.1 j &&& sF D k i v) = 0))
  | 0, i, v, j, hk, _, h1, h2 => by omega
  | k + 1, i, v, j, hk, h31, h1, h2 => by
    have hs : sF D (k + 1) i v = sF D k (i + 1) (if bt D.2.2.2 i = false ∧ ¬ (D.2.2.1 i &&& v) = 0 then v ||| zb i else v) := rfl
    have hb : ∀ m, m < 32 → bt (if bt D.2.2.2 i = false ∧ ¬ (D.2.2.1 i &&& v) = 0 then v ||| zb i else v) m = (bt v m || (decide (m = i) && decide (bt D.2.2.2 i = false ∧ ¬ (D.2.2.1 i &&& v) = 0))) := by
      intro m hm
      by_cases c : bt D.2.2.2 i = false ∧ ¬ (D.2.2.1 i &&& v) = 0
      · rw [if_pos c, show bt (v ||| zb i) m = (bt v m || decide (m = i)) from z_or1 (by omega) hm, decide_eq_true c, Bool.and_true]
      · rw [if_neg c, decide_eq_false c, Bool.and_false, Bool.or_false]
    by_cases c : j = i
    · have e1 : bt (sF D (k + 1) i v) j = (bt v j || decide (bt D.2.2.2 i = false ∧ ¬ (D.2.2.1 i &&& v) = 0)) := by
        rw [hs, sF_lo D k (i + 1) _ j (by omega) (by omega) (by omega), hb j (by omega), decide_eq_true c, Bool.true_and]
      have e2 : (D.2.2.1 j &&& sF D (k + 1) i v) = (D.2.2.1 i &&& v) := by
        apply b_ext
        intro m hm
        rw [b_and, b_and, c]
        cases q : bt (D.2.2.1 i) m
        · rfl
        · have hmi := hok i (by omega) m hm q
          rw [sF_lo D (k + 1) i v m (by omega) hm (by omega)]
      rw [e1, e2, c, Bool.or_eq_true, decide_eq_true_iff]
    · have ih := sF_hi D hok k (i + 1) (if bt D.2.2.2 i = false ∧ ¬ (D.2.2.1 i &&& v) = 0 then v ||| zb i else v) j (by omega) h31 (by omega) h2
      rw [← hs, hb j (by omega), decide_eq_false c, Bool.false_and, Bool.or_false] at ih
      exact ih
/-- the deeds that fall with deed d alone -/
def sRe (D : zD) (d k : Nat) : Bool := bt (sF D D.1 0 (zb d)) k
theorem sRe_iff {D : zD} (hok : zDok D) {d k : Nat} (hd : d < 12) (hk : k < D.1) : sRe D d k = true ↔ k = d ∨ (bt D.2.2.2 k = false ∧ ∃ s, s < 32 ∧ bt (D.2.2.1 k) s = true ∧ sRe D d s = true) := by
  have h12 := hok.1
  unfold sRe
  rw [sF_hi D (fun d hd => (hok.2.1 d hd).2) D.1 0 (zb d) k (by omega) (by omega) (by omega) hk, show bt (zb d) k = decide (k = d) from z_bit (by omega) (by omega), decide_eq_true_iff, z_ne0]
  constructor
  · rintro (h | ⟨h1, s, h2, h3⟩)
    · exact Or.inl h
    · rw [b_and, Bool.and_eq_true] at h3
      exact Or.inr ⟨h1, s, h2, h3.1, h3.2⟩
  · rintro (h | ⟨h1, s, h2, h3, h4⟩)
    · exact Or.inl h
    · exact Or.inr ⟨h1, s, h2, by rw [b_and, h3, h4]; rfl⟩
theorem sRe_le {D : zD} (hok : zDok D) {d : Nat} (hd : d < 12) : ∀ (b k : Nat), k < b → k < D.1 → sRe D d k = true → d ≤ k
  | 0, k, hb, _, _ => by omega
  | b + 1, k, hb, hk, h => by
    rcases (sRe_iff hok hd hk).mp h with h1 | ⟨-, s, h1, h2, h3⟩
    · omega
    · have := (hok.2.1 k hk).2 s h1 h2
      have := sRe_le hok hd b s (by omega) (by omega) h3
      omega
def sPr (D : zD) (u : Int32) (k d : Nat) : Prop := bt u d = true ∧ sRe D d k = true
def isLe (P : Nat → Prop) (r : Nat) : Prop := r ≤ 12 ∧ (r < 12 → P r) ∧ ∀ d, d < r → ¬ P d
theorem isLe.u {P Q : Nat → Prop} {a b : Nat} (h : isLe P a) (g : isLe Q b) (e : ∀ d, d < 12 → (P d ↔ Q d)) : a = b := by
  obtain ⟨h1, h2, h3⟩ := h
  obtain ⟨g1, g2, g3⟩ := g
  rcases Nat.lt_trichotomy a b with c | c | c
  · exact absurd ((e a (by omega)).mp (h2 (by omega))) (g3 a c)
  · exact c
  · exact absurd ((e b (by omega)).mpr (g2 (by omega))) (h3 b c)
theorem isLe.c {P Q : Nat → Prop} {a : Nat} (h : isLe P a) (e : ∀ d, d < 12 → (P d ↔ Q d)) : isLe Q a := ⟨h.1, fun q => (e a q).mp (h.2.1 q), fun d hd q => h.2.2 d hd ((e d (by have := h.1; omega)).mpr q)⟩
theorem isLe.min {P Q : Nat → Prop} {a b : Nat} (h : isLe P a) (g : isLe Q b) : isLe (fun d => P d ∨ Q d) (if a ≤ b then a else b) := by
  obtain ⟨h1, h2, h3⟩ := h
  obtain ⟨g1, g2, g3⟩ := g
  by_cases c : a ≤ b
  · rw [if_pos c]
    exact ⟨h1, fun q => Or.inl (h2 q), fun d hd q => q.elim (h3 d hd) (g3 d (by omega))⟩
  · rw [if_neg c]
    exact ⟨g1, fun q => Or.inr (g2 q), fun d hd q => q.elim (h3 d (by omega)) (g3 d hd)⟩
def zenc (r : Nat) : Int32 := if r = 12 then -1 else nI r
theorem d_rootOf_L {D : zD} {σ : eu_T} (hD : zDd D σ) (hok : zDok D) {x : Nat} (hx : x < D.1) (u : Int32) : ∀ (k d n : Nat), d + k = x + 1 → k < n → (∀ e, e < d → ¬ sPr D u x e) → ∃ r, isLe (sPr D u x) r ∧ fX0_rootOf_L2 σ n (nI x) u (nI d) = some (zenc r)
  | 0, d, 0, _, hn, _ => by omega
  | k + 1, d, 0, _, hn, _ => by omega
  | 0, d, n + 1, hd, _, h => by
    have h12 := hD.1
    refine ⟨12, ⟨by omega, fun q => by omega, fun e he q => ?_⟩, ?_⟩
    · have := sRe_le hok he (x + 1) x (by omega) hx q.2
      exact h e (by omega) q
    · rw [fX0_rootOf_L2_s, if_pos (lt_p (show x < d by omega) (by omega))]
      rfl
  | k + 1, d, n + 1, hd, hn, h => by
    have h12 := hD.1
    have ih := fun (q : ¬ sPr D u x d) => d_rootOf_L hD hok hx u k (d + 1) n (by omega) (by omega) (fun e he => by
      by_cases c : e = d
      · rw [c]; exact q
      · exact h e (by omega))
    rw [fX0_rootOf_L2_s, if_neg (lt_n (show ¬ x < d by omega) (by omega)), hD.2.1, if_neg (le_n (show ¬ D.1 ≤ d by omega) (by omega)), z_bitOf (by omega), d_fallen hD, eu_bd_t, z_bitOf (by omega), z_p1]
    by_cases c1 : bt u d = true
    · rw [if_pos c1, if_pos (show (1 : Int32) = 1 from rfl)]
      by_cases c2 : sRe D d x = true
      · rw [if_pos (show bt (sF D D.1 0 ((1 : Int32) <<< (nI d &&& 31))) x = true from c2), if_pos (show (1 : Int32) = 1 from rfl)]
        refine ⟨d, ⟨by omega, fun _ => ⟨c1, c2⟩, h⟩, ?_⟩
        unfold zenc
        rw [if_neg (show ¬ d = 12 by omega)]
      · rw [if_neg (show ¬ bt (sF D D.1 0 ((1 : Int32) <<< (nI d &&& 31))) x = true from c2), if_neg (show ¬ (0 : Int32) = 1 by decide)]
        exact ih (fun q => c2 q.2)
    · rw [if_neg c1, if_neg (show ¬ (0 : Int32) = 1 by decide)]
      exact ih (fun q => c1 q.1)
theorem d_rootOf {D : zD} {σ : eu_T} (hD : zDd D σ) (hok : zDok D) {x : Nat} (hx : x < D.1) (u : Int32) : ∃ r, isLe (sPr D u x) r ∧ fX0_rootOf σ (nI x) u = some (zenc r) := by
  have h := d_rootOf_L hD hok hx u (x + 1) 0 200 (by omega) (by have := hD.1; omega) (fun e he => absurd he (Nat.not_lt_zero e))
  rw [nI_0] at h
  exact h
/-- the roots found so far -/
def zRt (D : zD) (u : Int32) (k : Nat) (τ : eu_T) : Prop := ∀ s, s < k → ∃ r, isLe (sPr D u s) r ∧ τ 35 s = zenc r
theorem m_store {k11 : eu_T → Int32 → Int32 → Int32 → Option (Int32 × eu_T)} {τ : eu_T} {v1 v2 : Int32} {k m : Nat} (hk : k < 12) (hm : m ≤ 12) : fX5_rootOf_J115 k11 τ v1 v2 (nI k) (nI m) = k11 (eu_up τ 35 k (zenc m)) v1 v2 (nI (k + 1)) := by
  unfold fX5_rootOf_J115 fX5_rootOf_J133 zenc
  rw [z_gd (by omega) hk, z_gd (by omega) hk, z_cl (by omega), z_lt_i, z_lt_i, z_p1]
  by_cases c : m = 12
  · rw [if_pos (show nI m = (12 : Int32) by rw [c]; rfl), if_pos c]
  · rw [if_neg (show ¬ nI m = (12 : Int32) from eq_n (b := 12) c (by omega) (by omega)), if_neg c]
theorem m_root_in {k11 : eu_T → Int32 → Int32 → Int32 → Option (Int32 × eu_T)} {D : zD} {τ : eu_T} (hD : zDm D τ) (hok : zDok D) {u v1 v2 : Int32} {k : Nat} (hk : k < D.1) (hT : zRt D u k τ) : ∀ (c i n m : Nat), i + c = k → c < n → isLe (fun d => (d = k ∧ bt u k = true) ∨ (bt D.2.2.2 k = false ∧ ∃ s, s < i ∧ bt (D.2.2.1 k) s = true ∧ sPr D u s d)) m → ∃ r, isLe (sPr D u k) r ∧ fX5_rootOf_L35 k11 n τ v1 v2 (nI k) (nI m) (nI i) = k11 (eu_up τ 35 k (zenc r)) v1 v2 (nI (k + 1))
  | 0, i, 0, m, _, hn, _ => by omega
  | c + 1, i, 0, m, _, hn, _ => by omega
  | 0, i, n + 1, m, hi, _, h => by
    have h12 := hD.1
    refine ⟨m, h.c (fun d hd => ?_), ?_⟩
    · unfold sPr
      rw [sRe_iff hok hd hk]
      constructor
      · rintro (⟨q1, q2⟩ | ⟨q1, s, q2, q3, q4⟩)
        · exact ⟨by rw [q1]; exact q2, Or.inl q1.symm⟩
        · exact ⟨q4.1, Or.inr ⟨q1, s, by omega, q3, q4.2⟩⟩
      · rintro ⟨q1, q2 | ⟨q2, s, q3, q4, q5⟩⟩
        · exact Or.inl ⟨q2.symm, by rw [q2]; exact q1⟩
        · exact Or.inr ⟨q2, s, by have := (hok.2.1 k hk).2 s q3 q4; omega, q4, q1, q5⟩
    · rw [fX5_rootOf_L35_s, if_pos (le_p (show k ≤ i by omega) (by omega)), m_store (by omega) h.1]
  | c + 1, i, n + 1, m, hi, hn, h => by
    have h12 := hD.1
    obtain ⟨-, -, e1, e2⟩ := hD.2.2 k hk
    have hm := h.1
    rw [fX5_rootOf_L35_s, if_neg (le_n (show ¬ k ≤ i by omega) (by omega)), z_n3, z_p2, z_p1, z_gd (by omega) (by omega), z_cl (by omega), e2]
    by_cases o : bt D.2.2.2 k = true
    · rw [if_pos o, if_neg (show ¬ (1 : Int32) = 0 by decide), m_store (by omega) hm]
      refine ⟨m, h.c (fun d hd => ?_), rfl⟩
      unfold sPr
      rw [sRe_iff hok hd hk]
      constructor
      · rintro (⟨q1, q2⟩ | ⟨q1, -⟩)
        · exact ⟨by rw [q1]; exact q2, Or.inl q1.symm⟩
        · rw [o] at q1; exact absurd q1 (by decide)
      · rintro ⟨q1, q2 | ⟨q2, -⟩⟩
        · exact Or.inl ⟨q2.symm, by rw [q2]; exact q1⟩
        · rw [o] at q2; exact absurd q2 (by decide)
    · have o2 : bt D.2.2.2 k = false := by
        cases q : bt D.2.2.2 k
        · rfl
        · exact absurd q o
      rw [if_neg o, if_pos (show (0 : Int32) = 0 from rfl), z_gd (by omega) (by omega), z_cl (by omega), e1, z_isIn (by omega), z_gd (by omega) (by omega), z_gd (by omega) (by omega), z_cl (by omega)]
      by_cases b : bt (D.2.2.1 k) i = true
      · obtain ⟨r, hr1, hr2⟩ := hT i (by omega)
        have hr12 := hr1.1
        have hmin := (h.min hr1).c (Q := fun d => (d = k ∧ bt u k = true) ∨ (bt D.2.2.2 k = false ∧ ∃ s, s < i + 1 ∧ bt (D.2.2.1 k) s = true ∧ sPr D u s d)) (fun d hd => by
          constructor
          · rintro ((q | ⟨q1, s, q2, q3⟩) | q)
            · exact Or.inl q
            · exact Or.inr ⟨q1, s, by omega, q3⟩
            · exact Or.inr ⟨o2, i, by omega, b, q⟩
          · rintro (q | ⟨q1, s, q2, q3, q4⟩)
            · exact Or.inl (Or.inl q)
            · by_cases w : s = i
              · rw [w] at q4; exact Or.inr q4
              · exact Or.inl (Or.inr ⟨q1, s, by omega, q3, q4⟩))
        obtain ⟨r', g1, g2⟩ := m_root_in (k11 := k11) (v1 := v1) (v2 := v2) hD hok hk hT c (i + 1) n _ (by omega) (by omega) hmin
        refine ⟨r', g1, ?_⟩
        rw [← g2, if_pos b, if_neg (show ¬ (1 : Int32) = 0 by decide), hr2]
        unfold fX5_rootOf_J105 zenc
        rw [z_p1]
        by_cases w : r = 12
        · rw [if_pos w, if_pos (show (-1 : Int32) = -1 from rfl), if_pos (show m ≤ r by omega)]
        · rw [if_neg w, if_neg (z_nm1 (by omega))]
          by_cases w2 : m ≤ r
          · rw [if_pos (le_p w2 (by omega)), if_pos w2]
          · rw [if_neg (le_n w2 (by omega)), if_neg w2]
            rw [z_gd (by omega) (show i < 12 by omega)]
      · have hmin := h.c (Q := fun d => (d = k ∧ bt u k = true) ∨ (bt D.2.2.2 k = false ∧ ∃ s, s < i + 1 ∧ bt (D.2.2.1 k) s = true ∧ sPr D u s d)) (fun d hd => by
          constructor
          · rintro (q | ⟨q1, s, q2, q3⟩)
            · exact Or.inl q
            · exact Or.inr ⟨q1, s, by omega, q3⟩
          · rintro (q | ⟨q1, s, q2, q3, q4⟩)
            · exact Or.inl q
            · by_cases w : s = i
              · rw [w] at q3; exact absurd q3 b
              · exact Or.inr ⟨q1, s, by omega, q3, q4⟩)
        obtain ⟨r', g1, g2⟩ := m_root_in (k11 := k11) (v1 := v1) (v2 := v2) hD hok hk hT c (i + 1) n _ (by omega) (by omega) hmin
        refine ⟨r', g1, ?_⟩
        rw [← g2, if_neg b, if_pos (show (0 : Int32) = 0 from rfl)]
        unfold fX5_rootOf_J105
        rw [z_p1]
theorem zDm.c {D : zD} {τ τ' : eu_T} (h : zDm D τ) (e8 : τ' 25 8 = τ 25 8) (e : τ' 31 = τ 31) : zDm D τ' := ⟨h.1, by rw [e8]; exact h.2.1, fun d hd => by rw [e]; exact h.2.2 d hd⟩
theorem m_root_out {D : zD} (hok : zDok D) {u : Int32} {x : Nat} (hx : x < D.1) : ∀ (c k n : Nat) (τ : eu_T), k + c = x + 1 → c < n → zDm D τ → zRt D u k τ → ∃ r τ', isLe (sPr D u x) r ∧ fX5_rootOf_L11 n τ (nI x) u (nI k) = some (zenc r, τ') ∧ ∀ q, q ≠ 35 → τ' q = τ q
  | 0, k, 0, τ, _, hn, _, _ => by omega
  | c + 1, k, 0, τ, _, hn, _, _ => by omega
  | 0, k, n + 1, τ, hk, _, hD, hT => by
    have h12 := hD.1
    obtain ⟨r, h1, h2⟩ := hT x (by omega)
    refine ⟨r, τ, h1, ?_, fun _ _ => rfl⟩
    rw [fX5_rootOf_L11_s, if_pos (lt_p (show x < k by omega) (by omega)), z_gd (by omega) (by omega), z_cl (by omega), h2]
  | c + 1, k, n + 1, τ, hk, hn, hD, hT => by
    have h12 := hD.1
    have key : ∀ m, isLe (fun d => (d = k ∧ bt u k = true) ∨ (bt D.2.2.2 k = false ∧ ∃ s, s < 0 ∧ bt (D.2.2.1 k) s = true ∧ sPr D u s d)) m → ∃ r τ', isLe (sPr D u x) r ∧ fX5_rootOf_L35 (fX5_rootOf_L11 n) 200 τ (nI x) u (nI k) (nI m) (0 : Int32) = some (zenc r, τ') ∧ ∀ q, q ≠ 35 → τ' q = τ q := by
      intro m hm
      obtain ⟨r, g1, g2⟩ := m_root_in (k11 := fX5_rootOf_L11 n) (v1 := nI x) (v2 := u) hD hok (show k < D.1 by omega) hT k 0 200 m (by omega) (by omega) hm
      rw [nI_0] at g2
      obtain ⟨r', τ', f1, f2, f3⟩ := m_root_out hok (u := u) hx c (k + 1) n (eu_up τ 35 k (zenc r)) (by omega) (by omega) (hD.c (by rw [eu_up_n (by decide)]) (eu_up_n (by decide))) (fun s hs => by
        rw [eu_up_r, if_pos rfl]
        by_cases w : s = k
        · rw [if_pos w, w]; exact ⟨r, g1, rfl⟩
        · rw [if_neg w]; exact hT s (by omega))
      exact ⟨r', τ', f1, by rw [g2, f2], fun q hq => by rw [f3 q hq, eu_up_n hq]⟩
    rw [fX5_rootOf_L11_s, if_neg (lt_n (show ¬ x < k by omega) (by omega)), z_isIn (by omega)]
    by_cases b : bt u k = true
    · rw [if_pos b, if_neg (show ¬ (1 : Int32) = 0 by decide)]
      exact key k ⟨by omega, fun _ => Or.inl ⟨rfl, b⟩, fun d hd q => by
        rcases q with q | ⟨-, s, q, -⟩
        · omega
        · omega⟩
    · rw [if_neg b, if_pos (show (0 : Int32) = 0 from rfl)]
      exact key 12 ⟨by omega, fun q => by omega, fun d hd q => by
        rcases q with q | ⟨-, s, q, -⟩
        · exact b q.2
        · omega⟩
theorem zM.root {τ0 : eu_T} {D : zD} {U : Nat} {pe th : Nat → Nat} {τ τ' : eu_T} (h : zM τ0 D U pe th τ) (e : ∀ q, q ≠ 35 → τ' q = τ q) : zM τ0 D U pe th τ' := by
  obtain ⟨⟨p1, p2, p3, p4, p5, p6, p7, p8, p9, p10⟩, h2, h3, h4, h5⟩ := h
  have e25 := e 25 (by decide)
  exact ⟨⟨by rw [e 26 (by decide)]; exact p1, by rw [e 27 (by decide)]; exact p2, by rw [e 28 (by decide)]; exact p3, by rw [e 30 (by decide)]; exact p4, by rw [e 33 (by decide)]; exact p5, by rw [e 36 (by decide)]; exact p6, by rw [e25]; exact p7, by rw [e25]; exact p8, by rw [e25]; exact p9, by rw [e25]; exact p10⟩, h2.c (by rw [e25]) (e 31 (by decide)), h3.c (e 32 (by decide)), h4, by rw [e25]; exact h5⟩
theorem z_root {τ0 : eu_T} {D : zD} {U : Nat} {pe th : Nat → Nat} {σ τ : eu_T} (hD : zDd D σ) (hok : zDok D) (h : zM τ0 D U pe th τ) (hL : zLm (sL D pe th 99 U).1 U τ) {x : Nat} (hx : x < D.1) : ∃ r τ', fX0_rootOf σ (nI x) (sUn (sL D pe th 99 U).1 th) = some r ∧ fX5_rootOf τ (nI x) = some (r, τ') ∧ (∀ q, q ≠ 35 → τ' q = τ q) ∧ zM τ0 D U pe th τ' ∧ zLm (sL D pe th 99 U).1 U τ' := by
  have hU12 := h.2.2.2.1
  have h12 := hD.1
  obtain ⟨r, g1, g2⟩ := d_rootOf hD hok hx (sUn (sL D pe th 99 U).1 th)
  obtain ⟨r', τ', f1, f2, f3⟩ := m_root_out hok (u := sUn (sL D pe th 99 U).1 th) hx (x + 1) 0 200 τ (by omega) (by omega) h.2.1 (fun s hs => absurd hs (Nat.not_lt_zero s))
  rw [nI_0] at f2
  have e : r' = r := f1.u g1 (fun d hd => Iff.rfl)
  refine ⟨zenc r, τ', g2, ?_, f3, h.root f3, fun i hi => by rw [f3 34 (by decide)]; exact hL i hi⟩
  unfold fX5_rootOf
  rw [h.2.2.2.2, m_struck h.2.2.1 (Nat.le_refl U) hU12 hL (sL_ltb D pe th 99 U hU12), eu_bd_t, f2, e]
theorem d_root {D : zD} {U : Nat} {pe th : Nat → Nat} {σ : eu_T} (hD : zDd D σ) (hU : zUd U pe th σ) {x : Nat} (hx : x < D.1) {r : Int32} (h : fX0_rootOf σ (nI x) (sUn (sL D pe th 99 U).1 th) = some r) : fX4_root σ (nI x) = some r := by
  have h12 := hD.1
  unfold fX4_root
  rw [hD.2.1, z_below (by omega) (by omega), if_pos hx, if_neg (show ¬ (1 : Int32) = 0 by decide), d_lawful hD hU z_sk1, eu_bd_t, d_undone (d_lawT hU 99 U (Nat.le_refl U)), eu_bd_t, h, eu_bd_t]
theorem sim_root : ∀ (σ τ : eu_T) (a1 : Int32), eu_Rel σ τ → ∃ (r : Int32) (τ' : eu_T), fX4_root σ a1 = some r ∧ fX5_root τ a1 = some (r, τ') ∧ eu_Rel σ τ' := by
  rintro σ τ a1 ⟨L, tx, U, pe, th, S, sd, si, h⟩
  have h12 := h.D.1
  obtain ⟨τ1, g1, g2, g3, -⟩ := h.find
  unfold fX5_root
  rw [g1, eu_b2_t, g2.2.1.2.1, z_iD a1 _ (by omega)]
  rcases z_below2 a1 (pAll L tx).2.1 (by omega) with ⟨e, -⟩ | ⟨x, hx, ex, e⟩
  · rw [e, if_pos rfl]
    refine ⟨_, τ1, ?_, rfl, L, tx, U, pe, th, S, sd, si, h.M g2⟩
    unfold fX4_root
    rw [h.D.2.1, e, if_pos rfl]
  · obtain ⟨r, τ2, f1, f2, -, f4, -⟩ := z_root h.D h.ok g2 g3 hx
    rw [e, if_neg (show ¬ (1 : Int32) = 0 by decide), ex, f2, eu_b2_t]
    exact ⟨r, τ2, d_root h.D h.Ud hx f1, rfl, L, tx, U, pe, th, S, sd, si, h.M f4⟩
