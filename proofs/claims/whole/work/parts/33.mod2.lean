/-! ===== the reference: what holds, what is struck, what stands ===== -/
theorem z_s1 (x : Int32) : x - 1 = x + (-1) := Int32.sub_eq_add_neg x 1
theorem z_o0 (x : Int32) : x ||| 0 = x := by simp
theorem m_holding_L {law : Int32} {n N : Nat} {pe th : Nat → Nat} {τ : eu_T} (hU : zUm N pe th τ) (hnN : n ≤ N) (hL : zLm law n τ) : ∀ (c fu : Nat) (h u : Int32), c ≤ n → c < fu → fX5_holding_L9 τ fu u h (nI c + (-1)) = some (sH law th c h u)
  | 0, 0, h, u, _, hn => by omega
  | c + 1, 0, h, u, _, hn => by omega
  | 0, fu + 1, h, u, _, _ => by
    rw [fX5_holding_L9_s, if_pos (by decide)]
    rfl
  | c + 1, fu + 1, h, u, hc, hf => by
    have h14 := hU.1
    rw [fX5_holding_L9_s, z_m1, if_neg (z_neg (by omega)), z_gd (by omega) (by omega), z_cl (by omega), hL c (by omega)]
    show _ = some (if _ then _ else _)
    cases hb : bt law c
    · rw [show (if false = true then (1 : Int32) else 0) = 0 from rfl, if_pos rfl, if_neg (by simp)]
      exact m_holding_L hU hnN hL c fu _ _ (by omega) (by omega)
    · rw [show (if true = true then (1 : Int32) else 0) = 1 from rfl, if_neg (by decide), z_isIn (by omega)]
      cases hu : bt u c
      · rw [show (if false = true then (1 : Int32) else 0) = 0 from rfl, if_pos rfl, if_pos (show true = true ∧ false = false from ⟨rfl, rfl⟩), z_n2, z_p1, z_gd (by omega) (by omega), z_cl (by omega)]
        obtain ⟨-, e1, -, ht⟩ := hU.2 c (by omega)
        rw [e1]
        by_cases h12 : th c < 12
        · rw [if_neg (show ¬ (12 : Int32) ≤ nI (th c) by rw [show (12 : Int32) = nI 12 from rfl, z_le (by omega) (by omega)]; omega), if_pos h12]
          unfold fX5_holding_J77
          rw [z_o0]
          exact m_holding_L hU hnN hL c fu _ _ (by omega) (by omega)
        · rw [if_pos (show (12 : Int32) ≤ nI (th c) by rw [show (12 : Int32) = nI 12 from rfl, z_le (by omega) (by omega)]; omega), if_neg h12, z_gd (by omega) (by omega), show nI (th c) - 12 = nI (th c - 12) from z_sub (b := 12) (by omega)]
          unfold fX5_holding_J77
          exact m_holding_L hU hnN hL c fu _ _ (by omega) (by omega)
      · rw [show (if true = true then (1 : Int32) else 0) = 1 from rfl, if_neg (by decide), if_neg (by simp)]
        exact m_holding_L hU hnN hL c fu _ _ (by omega) (by omega)
theorem sH_ext {law : Int32} {th : Nat → Nat} {n : Nat} : ∀ (d : Nat) (h u : Int32), (∀ j, n ≤ j → j < n + d → bt law j = false) → sH law th (n + d) h u = sH law th n h u
  | 0, h, u, _ => rfl
  | d + 1, h, u, hf => by
    show (if bt law (n + d) = true ∧ _ then _ else sH law th (n + d) h u) = _
    rw [if_neg (by rw [hf (n + d) (by omega) (by omega)]; simp)]
    exact sH_ext d h u (fun j h1 h2 => hf j h1 (by omega))
theorem m_holding {law : Int32} {n N : Nat} {pe th : Nat → Nat} {τ : eu_T} (hU : zUm N pe th τ) (hnN : n ≤ N) (hn : n ≤ 12) (hL : zLm law n τ) (hlaw : ∀ j, j < 12 → bt law j = true → j < n) : fX5_holding τ (nI n) = some (sH law th 12 0 0) := by
  have h := m_holding_L hU hnN hL n 200 0 0 (by omega) (by omega)
  unfold fX5_holding
  rw [z_s1, h]
  have e := sH_ext (law := law) (th := th) (n := n) (12 - n) 0 0 (fun j h1 h2 => by
    cases hb : bt law j
    · rfl
    · have := hlaw j (by omega) hb
      omega)
  rw [show n + (12 - n) = 12 by omega] at e
  rw [e]
theorem sU_ext {h : Int32} {th : Nat → Nat} : ∀ (k i : Nat) (v : Int32), (∀ j, i ≤ j → j < i + k → bt h j = false) → sU h th k i v = v
  | 0, _, _, _ => rfl
  | k + 1, i, v, hf => by
    show sU h th k (i + 1) (if bt h i = true ∧ _ then _ else v) = v
    rw [if_neg (by rw [hf i (by omega) (by omega)]; simp)]
    exact sU_ext k (i + 1) v (fun j h1 h2 => hf j (by omega) (by omega))
theorem sU_add {h : Int32} {th : Nat → Nat} : ∀ (a b i : Nat) (v : Int32), sU h th (a + b) i v = sU h th b (i + a) (sU h th a i v)
  | 0, b, i, v => by rw [Nat.zero_add]; rfl
  | a + 1, b, i, v => by
    rw [show a + 1 + b = (a + b) + 1 by omega]
    show sU h th (a + b) (i + 1) _ = sU h th b (i + (a + 1)) (sU h th a (i + 1) _)
    rw [sU_add a b (i + 1), show i + 1 + a = i + (a + 1) by omega]
theorem m_struck_L {h : Int32} {n N : Nat} {pe th : Nat → Nat} {τ : eu_T} (hU : zUm N pe th τ) (hnN : n ≤ N) : ∀ (k i fu : Nat) (v : Int32), i + k = n → k < fu → fX5_struck_L11 τ fu (nI n) h v (nI i) = some (sU h th k i v)
  | 0, i, 0, v, _, hn => by omega
  | k + 1, i, 0, v, _, hn => by omega
  | 0, i, fu + 1, v, hi, _ => by
    have h14 := hU.1
    rw [fX5_struck_L11_s, if_pos (by rw [z_le (by omega) (by omega)]; omega)]
    rfl
  | k + 1, i, fu + 1, v, hi, hf => by
    have h14 := hU.1
    rw [fX5_struck_L11_s, if_neg (by rw [z_le (by omega) (by omega)]; omega), z_isIn (by omega)]
    show _ = some (sU h th k (i + 1) _)
    obtain ⟨-, e1, -, ht⟩ := hU.2 i (by omega)
    cases hb : bt h i
    · rw [show (if false = true then (1 : Int32) else 0) = 0 from rfl, if_pos rfl, if_neg (by simp)]
      unfold fX5_struck_J59
      rw [z_o0, z_p1]
      exact m_struck_L hU hnN k (i + 1) fu _ (by omega) (by omega)
    · rw [show (if true = true then (1 : Int32) else 0) = 1 from rfl, if_neg (by decide), z_n2, z_p1, z_gd (by omega) (by omega), z_cl (by omega), e1]
      by_cases h12 : th i < 12
      · rw [if_neg (show ¬ (12 : Int32) ≤ nI (th i) by rw [show (12 : Int32) = nI 12 from rfl, z_le (by omega) (by omega)]; omega), z_gd (by omega) (by omega), z_lt_i, z_p1, if_pos ⟨rfl, h12⟩]
        exact m_struck_L hU hnN k (i + 1) fu _ (by omega) (by omega)
      · rw [if_pos (show (12 : Int32) ≤ nI (th i) by rw [show (12 : Int32) = nI 12 from rfl, z_le (by omega) (by omega)]; omega), if_neg (fun q => h12 q.2)]
        unfold fX5_struck_J59
        rw [z_o0, z_p1]
        exact m_struck_L hU hnN k (i + 1) fu _ (by omega) (by omega)
theorem m_struck {law : Int32} {n N : Nat} {pe th : Nat → Nat} {τ : eu_T} (hU : zUm N pe th τ) (hnN : n ≤ N) (hn : n ≤ 12) (hL : zLm law n τ) (hlaw : ∀ j, j < 12 → bt law j = true → j < n) : fX5_struck τ (nI n) = some (sUn law th) := by
  unfold fX5_struck
  have h := m_struck_L (h := sH law th 12 0 0) hU hnN n 0 200 0 (by omega) (by omega)
  rw [nI_0] at h
  rw [m_holding hU hnN hn hL hlaw, eu_bd_t, h]
  unfold sUn
  have e := sU_add (h := sH law th 12 0 0) (th := th) n (12 - n) 0 0
  rw [show n + (12 - n) = 12 by omega, sU_ext (12 - n) (0 + n) _ (fun j h1 h2 => by
    cases hb : bt (sH law th 12 0 0) j
    · rfl
    · rcases sH_sub law th 12 0 0 (by omega) j (by omega) hb with q | q
      · rw [b_0] at q; cases q
      · have := hlaw j q.1 q.2
        omega)] at e
  rw [e]
theorem m_standing_L {D : zD} {τ : eu_T} (hD : zDm D τ) : ∀ (k i fu : Nat) (v : Int32), i + k = D.1 → k < fu → fX5_standing_L8 τ fu v (nI i) = some (fX4_firstBits (nI D.1) &&& (sF D k i v ^^^ (-1)))
  | 0, i, 0, v, _, hn => by omega
  | k + 1, i, 0, v, _, hn => by omega
  | 0, i, fu + 1, v, hi, _ => by
    have h12 := hD.1
    rw [fX5_standing_L8_s, hD.2.1, if_pos (by rw [z_le (by omega) (by omega)]; omega)]
    rfl
  | k + 1, i, fu + 1, v, hi, hf => by
    have h12 := hD.1
    obtain ⟨-, -, e1, e2⟩ := hD.2.2 i (by omega)
    rw [fX5_standing_L8_s, hD.2.1, if_neg (by rw [z_le (by omega) (by omega)]; omega), z_n3, z_p2, z_p1, z_gd (by omega) (by omega), z_cl (by omega), e2, z_cl (by omega), e1]
    show _ = some (_ &&& (sF D k (i + 1) _ ^^^ (-1)))
    unfold fX5_standing_J51
    cases hb : bt D.2.2.2 i
    · rw [show (if false = true then (1 : Int32) else 0) = 0 from rfl, if_pos rfl, z_gd (by omega) (by omega)]
      by_cases h : (D.2.2.1 i &&& v) = 0
      · rw [if_pos h, if_neg (by simp [h]), z_o0, z_p1]
        exact m_standing_L hD k (i + 1) fu _ (by omega) (by omega)
      · rw [if_neg h, if_pos ⟨rfl, h⟩, z_p1]
        exact m_standing_L hD k (i + 1) fu _ (by omega) (by omega)
    · rw [show (if true = true then (1 : Int32) else 0) = 1 from rfl, if_neg (by decide), if_neg (by simp), z_o0, z_p1]
      exact m_standing_L hD k (i + 1) fu _ (by omega) (by omega)
theorem m_standing {D : zD} {law : Int32} {n N : Nat} {pe th : Nat → Nat} {τ : eu_T} (hD : zDm D τ) (hU : zUm N pe th τ) (hnN : n ≤ N) (hn : n ≤ 12) (hL : zLm law n τ) (hlaw : ∀ j, j < 12 → bt law j = true → j < n) : fX5_standing τ (nI n) = some (sStand D (sUn law th)) := by
  have h := m_standing_L hD D.1 0 200 (sUn law th) (by omega) (by have := hD.1; omega)
  rw [nI_0] at h
  unfold fX5_standing
  rw [m_struck hU hnN hn hL hlaw, eu_bd_t, h]
  rfl
/-! a working state of the reference: what it is asked of stays (τ0), D the deeds, the undoings told -/
def zP (τ0 τ : eu_T) : Prop := τ 26 = τ0 26 ∧ τ 27 = τ0 27 ∧ τ 28 = τ0 28 ∧ τ 30 = τ0 30 ∧ τ 33 = τ0 33 ∧ τ 36 = τ0 36 ∧ τ 25 4 = τ0 25 4 ∧ τ 25 6 = τ0 25 6 ∧ τ 25 10 = τ0 25 10 ∧ τ 25 20 = τ0 25 20
theorem zP.rf {τ : eu_T} : zP τ τ := ⟨rfl, rfl, rfl, rfl, rfl, rfl, rfl, rfl, rfl, rfl⟩
theorem zP.tr {a b c : eu_T} (h : zP a b) (g : zP b c) : zP a c := by
  obtain ⟨h1, h2, h3, h4, h5, h6, h7, h8, h9, h10⟩ := h
  obtain ⟨g1, g2, g3, g4, g5, g6, g7, g8, g9, g10⟩ := g
  exact ⟨g1.trans h1, g2.trans h2, g3.trans h3, g4.trans h4, g5.trans h5, g6.trans h6, g7.trans h7, g8.trans h8, g9.trans h9, g10.trans h10⟩
theorem zfJ.P {τ τ' : eu_T} (h : zfJ τ τ') : zP τ τ' := ⟨h.1 26 (by decide) (by decide), h.1 27 (by decide) (by decide), h.1 28 (by decide) (by decide), h.1 30 (by decide) (by decide), h.1 33 (by decide) (by decide), h.1 36 (by decide) (by decide), h.2 4 (by decide) (by decide) (by decide), h.2 6 (by decide) (by decide) (by decide), h.2 10 (by decide) (by decide) (by decide), h.2 20 (by decide) (by decide) (by decide)⟩
def zM (τ0 : eu_T) (D : zD) (U : Nat) (pe th : Nat → Nat) (τ : eu_T) : Prop := zP τ0 τ ∧ zDm D τ ∧ zUm U pe th τ ∧ U ≤ 12 ∧ τ 25 10 = nI U
theorem zM.J {τ0 : eu_T} {D : zD} {U : Nat} {pe th : Nat → Nat} {τ τ' : eu_T} (h : zM τ0 D U pe th τ) (hf : zfJ τ τ') : zM τ0 D U pe th τ' := ⟨h.1.tr hf.P, hf.D h.2.1, hf.U h.2.2.1, h.2.2.2.1, by rw [hf.2 10 (by decide) (by decide) (by decide)]; exact h.2.2.2.2⟩
theorem zUm.le {N n : Nat} {pe th : Nat → Nat} {τ : eu_T} (h : zUm N pe th τ) (hn : n ≤ N) : zUm n pe th τ := ⟨Nat.le_trans hn h.1, fun i hi => h.2 i (Nat.lt_of_lt_of_le hi hn)⟩
theorem z_sk2 : ∀ i, i < 14 → (nI i = (-1 : Int32) ↔ i = 99) := fun i hi => ⟨fun h => absurd h (z_nm1 (by omega)), fun h => by omega⟩
theorem sL_ltb (D : zD) (pe th : Nat → Nat) (skip n : Nat) (hn : n ≤ 12) : ∀ j, j < 12 → bt (sL D pe th skip n).1 j = true → j < n := fun j hj h => sL_lt D pe th skip n (by omega) j (by omega) h
/-- what stands behind the first k -/
abbrev sSt (D : zD) (pe th : Nat → Nat) (skip k : Nat) : Int32 := sStand D (sUn (sL D pe th skip k).1 th)
abbrev sSp (D : zD) (pe th : Nat → Nat) (skip k : Nat) : Int32 := 63 &&& ((sL D pe th skip k).2 ^^^ (-1))
theorem m_stateOf {τ0 : eu_T} {D : zD} {U : Nat} {pe th : Nat → Nat} {τ : eu_T} (h : zM τ0 D U pe th τ) {k : Nat} (hk : k ≤ U) (what : Int32) : ∃ τ', fX5_stateOf τ (nI k) what = some (if what = 0 then sSt D pe th 99 k else sSp D pe th 99 k, τ') ∧ zM τ0 D U pe th τ' := by
  have hU12 := h.2.2.2.1
  obtain ⟨τ', g1, g2, g3, g4, -⟩ := m_judges z_sk2 h.2.1 (h.2.2.1.le hk)
  have hM := h.J g2
  refine ⟨τ', ?_, hM⟩
  unfold fX5_stateOf
  rw [g1, eu_b2_t]
  by_cases hw : what = 0
  · rw [if_pos hw, if_pos hw, m_standing hM.2.1 hM.2.2.1 hk (by omega) g3 (sL_ltb D pe th 99 k (by omega)), eu_bd_t]
  · rw [if_neg hw, if_neg hw, g4]
