/-! ===== last ===== -/
def sWt (w : Nat → Int32) (s : Int32) : Nat → Nat → Int32 → Int32
  | 0, _, v => v
  | k + 1, i, v => sWt w s k (i + 1) (if bt s i = true then v + w i else v)
theorem sWt_cut {w : Nat → Int32} {s : Int32} : ∀ (k i : Nat) (v : Int32), (∀ j, i ≤ j → j < i + k → bt s j = false) → sWt w s k i v = v
  | 0, i, v, _ => rfl
  | k + 1, i, v, h => by
    show sWt w s k (i + 1) (if bt s i = true then v + w i else v) = v
    rw [h i (by omega) (by omega), if_neg (by decide)]
    exact sWt_cut k (i + 1) v (fun j a b => h j (by omega) (by omega))
theorem sWt_add {w : Nat → Int32} {s : Int32} : ∀ (a b i : Nat) (v : Int32), sWt w s (a + b) i v = sWt w s b (i + a) (sWt w s a i v)
  | 0, b, i, v => by rw [Nat.zero_add]; rfl
  | a + 1, b, i, v => by
    rw [show a + 1 + b = (a + b) + 1 by omega, show i + (a + 1) = i + 1 + a by omega]
    exact sWt_add a b (i + 1) _
def sWo (wo : Nat → Nat → Int32) (p : Nat) (s : Int32) : Int32 := sWt (wo p) s 12 0 0
theorem d_worth_L {D : zD} {σ : eu_T} {wo : Nat → Nat → Int32} {p : Nat} {s : Int32} (hD : zDd D σ) (hp : p < 6) (hw : ∀ p, p < 6 → ∀ d, d < 12 → σ (19 + p) d = wo p d) : ∀ (k i n : Nat) (v : Int32), i + k = D.1 → k < n → fX1_worthOf_L5 σ n s (nI p) v (nI i) = some (sWt (wo p) s k i v)
  | 0, i, 0, v, _, hn => by omega
  | k + 1, i, 0, v, _, hn => by omega
  | 0, i, n + 1, v, hi, _ => by
    have h12 := hD.1
    rw [fX1_worthOf_L5_s, hD.2.1, if_pos (le_p (show D.1 ≤ i by omega) (by omega))]
    rfl
  | k + 1, i, n + 1, v, hi, hn => by
    have h12 := hD.1
    have ih := fun v => d_worth_L hD hp hw (s := s) k (i + 1) n v (by omega) (by omega)
    rw [fX1_worthOf_L5_s, hD.2.1, if_neg (le_n (show ¬ D.1 ≤ i by omega) (by omega)), z_bitOf (by omega), z_gd (by omega) hp, z_gd (by omega) (by omega), z_cl (by omega), z_cl (by omega), hw p hp i (by omega), z_p1, ih, ih]
    show _ = some (sWt (wo p) s k (i + 1) (if bt s i = true then v + wo p i else v))
    by_cases c : bt s i = true
    · rw [if_pos c, if_pos c, if_pos (show (1 : Int32) = 1 from rfl)]
    · rw [if_neg c, if_neg c, if_neg (show ¬ (0 : Int32) = 1 by decide)]
theorem z_stD {D : zD} {u : Int32} (h12 : D.1 ≤ 12) : ∀ j, j < 32 → bt (sStand D u) j = true → j < D.1 := fun j hj h => by
  unfold sStand at h
  rw [b_and, Bool.and_eq_true, z_first (by omega) hj, decide_eq_true_iff] at h
  exact h.1
theorem d_worth {D : zD} {σ : eu_T} {wo : Nat → Nat → Int32} {p : Nat} {s : Int32} (hD : zDd D σ) (hp : p < 6) (hw : ∀ p, p < 6 → ∀ d, d < 12 → σ (19 + p) d = wo p d) (hs : ∀ j, j < 32 → bt s j = true → j < D.1) : fX1_worthOf σ s (nI p) = some (sWo wo p s) := by
  have h12 := hD.1
  have h := d_worth_L hD hp hw (s := s) D.1 0 200 0 (by omega) (by omega)
  rw [nI_0] at h
  unfold fX1_worthOf sWo
  rw [h, show (12 : Nat) = D.1 + (12 - D.1) by omega, sWt_add, sWt_cut (12 - D.1) (0 + D.1) _ (fun j a b => by
    cases q : bt s j
    · rfl
    · have := hs j (by omega) q; omega)]
theorem m_worth_L {τ : eu_T} {wo : Nat → Nat → Int32} {p : Nat} {s : Int32} (hp : p < 6) (hw : ∀ p, p < 6 → ∀ d, d < 12 → τ 33 (12 * p + d) = wo p d) : ∀ (k i n : Nat) (v : Int32), i + k = 12 → k < n → fX5_worthOf_L5 τ n (nI p) s v (nI i) = some (sWt (wo p) s k i v)
  | 0, i, 0, v, _, hn => by omega
  | k + 1, i, 0, v, _, hn => by omega
  | 0, i, n + 1, v, hi, _ => by
    rw [fX5_worthOf_L5_s, show (12 : Int32) = nI 12 from rfl, if_pos (le_p (show 12 ≤ i by omega) (by omega))]
    rfl
  | k + 1, i, n + 1, v, hi, hn => by
    have ih := fun v => m_worth_L hp hw (s := s) k (i + 1) n v (by omega) (by omega)
    rw [fX5_worthOf_L5_s, show nI i + 1 = nI (i + 1) from z_p1 i, z_n12, nI_add, z_gd (by omega) (by omega), z_cl (by omega), hw p hp i (by omega), show (12 : Int32) = nI 12 from rfl, if_neg (le_n (show ¬ 12 ≤ i by omega) (by omega)), z_isIn (by omega), z_p0, ih, ih]
    show _ = some (sWt (wo p) s k (i + 1) (if bt s i = true then v + wo p i else v))
    by_cases c : bt s i = true
    · rw [if_pos c, if_pos c, if_neg (show ¬ (1 : Int32) = 0 by decide)]
    · rw [if_neg c, if_neg c, if_pos (show (0 : Int32) = 0 from rfl)]
theorem m_worth {τ : eu_T} {wo : Nat → Nat → Int32} {p : Nat} (s : Int32) (hp : p < 6) (hw : ∀ p, p < 6 → ∀ d, d < 12 → τ 33 (12 * p + d) = wo p d) : fX5_worthOf τ (nI p) s = some (sWo wo p s) := by
  have h := m_worth_L hp hw (s := s) 12 0 200 0 (by omega) (by omega)
  rw [nI_0] at h
  exact h
/-- the best of the things that can be taken -/
def sRp (can : Nat → Bool) (W : Nat → Int32) (wt : Int32 → Int32) : Nat → Nat → Int32 × Int32 → Int32 × Int32
  | 0, _, s => s
  | k + 1, i, s => sRp can W wt k (i + 1) (if can i = true ∧ ¬ wt (W i) ≤ wt s.2 then (nI i, W i) else s)
theorem sRp_in {can : Nat → Bool} {W : Nat → Int32} {wt : Int32 → Int32} {W0 : Int32} : ∀ (k i : Nat) (s : Int32 × Int32), ((s.1 = -1 ∧ s.2 = W0) ∨ ∃ j, j < 24 ∧ can j = true ∧ s.1 = nI j ∧ s.2 = W j) → i + k = 24 → ((sRp can W wt k i s).1 = -1 ∧ (sRp can W wt k i s).2 = W0) ∨ ∃ j, j < 24 ∧ can j = true ∧ (sRp can W wt k i s).1 = nI j ∧ (sRp can W wt k i s).2 = W j
  | 0, i, s, h, _ => h
  | k + 1, i, s, h, hi => by
    refine sRp_in k (i + 1) _ ?_ (by omega)
    by_cases c : can i = true ∧ ¬ wt (W i) ≤ wt s.2
    · rw [if_pos c]
      exact Or.inr ⟨i, by omega, c.1, rfl, rfl⟩
    · rw [if_neg c]
      exact h
def zOw (D : zD) (U : Nat) (pe th : Nat → Nat) (wo : Nat → Nat → Int32) (σ : eu_T) : Prop := zOl D U pe th σ ∧ ∀ p, p < 6 → ∀ d, d < 12 → σ (19 + p) d = wo p d
theorem zOw.W {D : zD} {U : Nat} {pe th : Nat → Nat} {wo : Nat → Nat → Int32} {σ σ' : eu_T} (h : zOw D U pe th wo σ) (hf : zfW U σ σ') : zOw D U pe th wo σ' := ⟨h.1.W hf, fun p hp d hd => by rw [hf.1 _ (by omega)]; exact h.2 p hp d hd⟩
theorem d_reply_L {D : zD} {U : Nat} {pe th : Nat → Nat} {wo : Nat → Nat → Int32} {b : Nat} {mv : Int32} {can : Nat → Bool} {W : Nat → Int32} (hb : b < 6) (hs : ∀ i j, j < 32 → bt (W i) j = true → j < D.1) (hcan : ∀ σ, zOl D U pe th σ → ∀ i, i < 24 → fX1_canTake σ (nI b) (nI i) mv = some (if can i = true then 1 else 0)) (hW : ∀ σ, zOl D U pe th σ → ∀ i, i < 24 → can i = true → ∃ σ', fX1_standingWith σ mv (nI i) = some (W i, σ') ∧ zfW U σ σ') : ∀ (k i n : Nat) (s : Int32 × Int32) (σ : eu_T), i + k = 24 → k < n → zOw D U pe th wo σ → ∃ σ', fX1_bestReply_L18 n σ (nI b) mv s.1 (sWo wo b s.2) (nI i) = some ((sRp can W (sWo wo b) k i s).1, σ') ∧ zfW U σ σ'
  | 0, i, 0, s, σ, _, hn, _ => by omega
  | k + 1, i, 0, s, σ, _, hn, _ => by omega
  | 0, i, n + 1, s, σ, hi, _, h => by
    refine ⟨σ, ?_, zfW.rf⟩
    rw [fX1_bestReply_L18_s, show (24 : Int32) = nI 24 from rfl, if_pos (le_p (show 24 ≤ i by omega) (by omega))]
    rfl
  | k + 1, i, n + 1, s, σ, hi, hn, h => by
    rw [fX1_bestReply_L18_s, show (24 : Int32) = nI 24 from rfl, if_neg (le_n (show ¬ 24 ≤ i by omega) (by omega)), hcan σ h.1 i (by omega), eu_bd_t, z_p1]
    have er : sRp can W (sWo wo b) (k + 1) i s = sRp can W (sWo wo b) k (i + 1) (if can i = true ∧ ¬ sWo wo b (W i) ≤ sWo wo b s.2 then (nI i, W i) else s) := rfl
    rw [er]
    by_cases c : can i = true
    · obtain ⟨σ1, e1, e2⟩ := hW σ h.1 i (by omega) c
      have h1 := h.W e2
      rw [if_pos c, if_neg (show ¬ (1 : Int32) = 0 by decide), e1, eu_b2_t, d_worth h1.1.1 hb h1.2 (hs i), eu_bd_t]
      by_cases c2 : sWo wo b (W i) ≤ sWo wo b s.2
      · obtain ⟨σ', f1, f2⟩ := d_reply_L hb hs hcan hW k (i + 1) n s σ1 (by omega) (by omega) h1
        rw [if_pos c2, if_neg (fun q => q.2 c2)]
        exact ⟨σ', f1, e2.tr f2⟩
      · obtain ⟨σ', f1, f2⟩ := d_reply_L hb hs hcan hW k (i + 1) n (nI i, W i) σ1 (by omega) (by omega) h1
        rw [if_neg c2, if_pos ⟨c, c2⟩]
        exact ⟨σ', f1, e2.tr f2⟩
    · obtain ⟨σ', f1, f2⟩ := d_reply_L hb hs hcan hW k (i + 1) n s σ (by omega) (by omega) h
      rw [if_neg c, if_pos (show (0 : Int32) = 0 from rfl), if_neg (fun q => c q.1)]
      exact ⟨σ', f1, f2⟩
theorem d_can1 {D : zD} {U : Nat} {pe th : Nat → Nat} {σ : eu_T} (h : zOl D U pe th σ) {p t : Nat} (hp : p < 6) (ht : t < 24) : fX1_canTake σ (nI p) (nI t) (-1) = some (if (decide (U < 12) && bt (sTk D U pe th t) p) = true then 1 else 0) := by
  have hU12 := h.2.1.1
  unfold fX1_canTake fX1_canTake_J24 fX1_canTake_J58 fX1_canTake_J59 fX1_canTake_J78
  rw [if_pos rfl, h.2.1.2.1, if_pos rfl, if_pos (show (0 : Int32) = 0 from rfl), d_takers h ht, eu_bd_t, z_bitOf (by omega), show (12 : Int32) = nI 12 from rfl]
  by_cases c : U < 12
  · rw [if_pos (lt_p c (by omega)), decide_eq_true c, Bool.true_and]
    by_cases c2 : bt (sTk D U pe th t) p = true
    · rw [if_pos c2, if_pos (show (1 : Int32) = 1 from rfl)]
    · rw [if_neg c2, if_neg (show ¬ (0 : Int32) = 1 by decide)]
  · rw [if_neg (lt_n c (by omega)), decide_eq_false c, Bool.false_and]
    rfl
def sC2 (D : zD) (U : Nat) (pe th : Nat → Nat) (b t2 : Nat) : Bool := decide (U + 1 < 12) && (if t2 = 12 + U then bt (sSp D pe th 99 U) b else bt (sTk D U pe th t2) b)
theorem d_can2 {D : zD} {U : Nat} {pe th : Nat → Nat} {σ : eu_T} (h : zOl D U pe th σ) {p t t2 : Nat} (hp : p < 6) (ht : t < 24) (ht2 : t2 < 24) : fX1_canTake σ (nI p) (nI t2) (nI t) = some (if sC2 D U pe th p t2 = true then 1 else 0) := by
  have hU12 := h.2.1.1
  unfold fX1_canTake fX1_canTake_J24 fX1_canTake_J58 fX1_canTake_J59 fX1_canTake_J78 sC2
  rw [if_neg (z_nm1 (by omega)), h.2.1.2.1, if_neg (z_nm1 (by omega)), if_pos (show (0 : Int32) = 0 from rfl), if_neg (show ¬ (1 : Int32) = 0 by decide), d_takers h ht2, eu_bd_t, h.2.2.2, z_bitOf (by omega), z_bitOf (by omega), z_p1, show (12 : Int32) = nI 12 from rfl, nI_add]
  by_cases c : U + 1 < 12
  · rw [if_pos (lt_p c (by omega)), decide_eq_true c, Bool.true_and]
    by_cases w : t2 = 12 + U
    · rw [if_pos (show nI t2 = nI (12 + U) by rw [w]), if_pos w]
      by_cases c2 : bt (sSp D pe th 99 U) p = true
      · rw [if_pos c2, if_pos (show (1 : Int32) = 1 from rfl)]
      · rw [if_neg c2, if_neg (show ¬ (0 : Int32) = 1 by decide)]
    · rw [if_neg (eq_n w (by omega) (by omega)), if_neg w]
      by_cases c2 : bt (sTk D U pe th t2) p = true
      · rw [if_pos c2, if_pos (show (1 : Int32) = 1 from rfl)]
      · rw [if_neg c2, if_neg (show ¬ (0 : Int32) = 1 by decide)]
  · rw [if_neg (lt_n c (by omega)), decide_eq_false c, Bool.false_and]
    rfl
/-- the reply to no move, to a move -/
def sR0 (D : zD) (U : Nat) (pe th : Nat → Nat) (wo : Nat → Nat → Int32) (b : Nat) : Int32 × Int32 := sRp (fun i => decide (U < 12) && bt (sTk D U pe th i) b) (sW1 D U pe th) (sWo wo b) 24 0 (-1, sSt D pe th 99 U)
def sR1 (D : zD) (U : Nat) (pe th : Nat → Nat) (wo : Nat → Nat → Int32) (b t : Nat) : Int32 × Int32 := sRp (sC2 D U pe th b) (sW2 D U pe th t) (sWo wo b) 24 0 (-1, sW1 D U pe th t)
theorem d_reply0 {D : zD} {U : Nat} {pe th : Nat → Nat} {wo : Nat → Nat → Int32} {σ : eu_T} (h : zOw D U pe th wo σ) {b : Nat} (hb : b < 6) : ∃ σ', fX1_bestReply σ (nI b) (-1) = some ((sR0 D U pe th wo b).1, σ') ∧ zfW U σ σ' := by
  have h12 := h.1.1.1
  have key := d_reply_L (D := D) (U := U) (pe := pe) (th := th) (wo := wo) (mv := -1) (can := fun i => decide (U < 12) && bt (sTk D U pe th i) b) (W := sW1 D U pe th) hb (fun i => z_stD h12) (fun σ hσ i hi => d_can1 hσ hb hi) (fun σ hσ i hi c => d_W1b hσ (by rw [Bool.and_eq_true, decide_eq_true_iff] at c; exact c.1) hi) 24 0 200 (-1, sSt D pe th 99 U) σ (by omega) (by omega) h
  obtain ⟨σ', f1, f2⟩ := key
  rw [nI_0] at f1
  refine ⟨σ', ?_, f2⟩
  unfold fX1_bestReply
  rw [d_W0 h.1, eu_b2_t, d_worth h.1.1 hb h.2 (z_stD h12), eu_bd_t]
  exact f1
theorem d_reply1 {D : zD} {U : Nat} {pe th : Nat → Nat} {wo : Nat → Nat → Int32} {σ : eu_T} (h : zOw D U pe th wo σ) {b t : Nat} (hb : b < 6) (ht : t < 24) (hU : U < 12) : ∃ σ', fX1_bestReply σ (nI b) (nI t) = some ((sR1 D U pe th wo b t).1, σ') ∧ zfW U σ σ' := by
  have h12 := h.1.1.1
  obtain ⟨σ1, e1, e2⟩ := d_W1 h.1 hU ht
  have h1 := h.W e2
  have key := d_reply_L (D := D) (U := U) (pe := pe) (th := th) (wo := wo) (mv := nI t) (can := sC2 D U pe th b) (W := sW2 D U pe th t) hb (fun i => z_stD h12) (fun σ hσ i hi => d_can2 hσ hb ht hi) (fun σ hσ i hi c => d_W2 hσ (by unfold sC2 at c; rw [Bool.and_eq_true, decide_eq_true_iff] at c; exact c.1) ht hi) 24 0 200 (-1, sW1 D U pe th t) σ1 (by omega) (by omega) h1
  obtain ⟨σ', f1, f2⟩ := key
  rw [nI_0] at f1
  refine ⟨σ', ?_, e2.tr f2⟩
  unfold fX1_bestReply
  rw [e1, eu_b2_t, d_worth (s := sW1 D U pe th t) h1.1.1 hb h1.2 (z_stD h12), eu_bd_t]
  exact f1
/-- the move, what stands behind the reply, the reply -/
def sMv (D : zD) (U : Nat) (pe th : Nat → Nat) (wo : Nat → Nat → Int32) (a b : Nat) : Nat → Nat → Int32 × Int32 × Int32 → Int32 × Int32 × Int32
  | 0, _, s => s
  | k + 1, i, s => sMv D U pe th wo a b k (i + 1) (if (decide (U < 12) && bt (sTk D U pe th i) a) = true ∧ ¬ sWo wo a (sR1 D U pe th wo b i).2 ≤ sWo wo a s.2.1 then (nI i, (sR1 D U pe th wo b i).2, (sR1 D U pe th wo b i).1) else s)
def sMI (D : zD) (U : Nat) (pe th : Nat → Nat) (wo : Nat → Nat → Int32) (b : Nat) (s : Int32 × Int32 × Int32) : Prop := (s.1 = -1 ∧ s.2.1 = (sR0 D U pe th wo b).2 ∧ s.2.2 = (sR0 D U pe th wo b).1) ∨ ∃ t, t < 24 ∧ U < 12 ∧ s.1 = nI t ∧ s.2.1 = (sR1 D U pe th wo b t).2 ∧ s.2.2 = (sR1 D U pe th wo b t).1
theorem sMv_in {D : zD} {U : Nat} {pe th : Nat → Nat} {wo : Nat → Nat → Int32} {a b : Nat} : ∀ (k i : Nat) (s : Int32 × Int32 × Int32), i + k = 24 → sMI D U pe th wo b s → sMI D U pe th wo b (sMv D U pe th wo a b k i s)
  | 0, i, s, _, h => h
  | k + 1, i, s, hi, h => by
    refine sMv_in k (i + 1) _ (by omega) ?_
    by_cases c : (decide (U < 12) && bt (sTk D U pe th i) a) = true ∧ ¬ sWo wo a (sR1 D U pe th wo b i).2 ≤ sWo wo a s.2.1
    · rw [if_pos c]
      have c1 := c.1
      rw [Bool.and_eq_true, decide_eq_true_iff] at c1
      exact Or.inr ⟨i, by omega, c1.1, rfl, rfl, rfl⟩
    · rw [if_neg c]
      exact h
/-- the class puts the move and its reply together again -/
theorem d_both0 {D : zD} {U : Nat} {pe th : Nat → Nat} {wo : Nat → Nat → Int32} {σ : eu_T} (h : zOw D U pe th wo σ) {b : Nat} : ∃ σ', fX1_standingWith σ (-1) (sR0 D U pe th wo b).1 = some ((sR0 D U pe th wo b).2, σ') ∧ zfW U σ σ' := by
  rcases sRp_in (can := fun i => decide (U < 12) && bt (sTk D U pe th i) b) (W := sW1 D U pe th) (wt := sWo wo b) (W0 := sSt D pe th 99 U) 24 0 (-1, sSt D pe th 99 U) (Or.inl ⟨rfl, rfl⟩) (by omega) with ⟨e1, e2⟩ | ⟨j, hj, c, e1, e2⟩
  · refine ⟨σ, ?_, zfW.rf⟩
    unfold sR0
    rw [e1, e2]
    exact d_W0 h.1
  · have c' : U < 12 := by
      rw [Bool.and_eq_true, decide_eq_true_iff] at c
      exact c.1
    unfold sR0
    rw [e1, e2]
    exact d_W1b h.1 c' hj
theorem d_both1 {D : zD} {U : Nat} {pe th : Nat → Nat} {wo : Nat → Nat → Int32} {σ : eu_T} (h : zOw D U pe th wo σ) {b t : Nat} (ht : t < 24) (hU : U < 12) : ∃ σ', fX1_standingWith σ (nI t) (sR1 D U pe th wo b t).1 = some ((sR1 D U pe th wo b t).2, σ') ∧ zfW U σ σ' := by
  rcases sRp_in (can := sC2 D U pe th b) (W := sW2 D U pe th t) (wt := sWo wo b) (W0 := sW1 D U pe th t) 24 0 (-1, sW1 D U pe th t) (Or.inl ⟨rfl, rfl⟩) (by omega) with ⟨e1, e2⟩ | ⟨j, hj, c, e1, e2⟩
  · unfold sR1
    rw [e1, e2]
    exact d_W1 h.1 hU ht
  · have c' : U + 1 < 12 := by
      unfold sC2 at c
      rw [Bool.and_eq_true, decide_eq_true_iff] at c
      exact c.1
    unfold sR1
    rw [e1, e2]
    exact d_W2 h.1 c' ht hj
