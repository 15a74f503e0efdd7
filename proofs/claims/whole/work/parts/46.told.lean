/-! ===== a second one more; told or not ===== -/
theorem sLw_2 {D : zD} {U : Nat} {pe th : Nat → Nat} (hU : U + 1 ≤ 12) (hok : ∀ i, i < U → pe i < 6 ∧ th i < 24) (hd : ∀ d, d < D.1 → D.2.1 d < 6) {p t q t2 : Nat} (hp : p < 6) (ht : t < 24) (hq : q < 6) (ht2 : t2 < 24) (h : sLw D (nup pe U p) (nup th U t) 99 U = true) : sLw D (nup (nup pe U p) (U + 1) q) (nup (nup th U t) (U + 1) t2) 99 (U + 1) = (decide (¬ q = p) && (if t2 = 12 + U then bt (sSp D pe th 99 U) q else bt (sTk D U pe th t2) q)) := by
  have e := sL_1 (by omega) hok h
  have hok1 : ∀ i, i < U + 1 → nup pe U p i < 6 ∧ nup th U t i < 24 := fun i hi => by
    by_cases c : i = U
    · rw [c, nup_s, nup_s]; exact ⟨hp, ht⟩
    · rw [nup_n _ _ _ c, nup_n _ _ _ c]; exact hok i (by omega)
  have lt1 := fun o q => sOwn_lt (D := D) (U := U + 1) (pe := nup pe U p) (th := nup th U t) (o := o) ht2 hU (fun i hi => (hok1 i hi).1) hd q
  rw [sLw_1 hU hok1 hd hq ht2, sTk_bt (by omega) lt1, sSp_bt (by omega), e, decide_eq_true hq, Bool.true_and]
  have b1 : bt ((sL D pe th 99 U).2 ||| zb p) q = (bt (sL D pe th 99 U).2 q || decide (q = p)) := z_or1 (by omega) (by omega)
  show ((!bt ((sL D pe th 99 U).2 ||| zb p) q) && (match sOwn D (nup pe U p) ((sL D pe th 99 U).1 ||| zb U) t2 with
    | some o => decide (¬ o = q)
    | none => false)) = _
  rw [b1]
  have eo : sOwn D (nup pe U p) ((sL D pe th 99 U).1 ||| zb U) t2 = if t2 = 12 + U then some p else sOwn D pe (sL D pe th 99 U).1 t2 := by
    unfold sOwn
    by_cases c : t2 < 12
    · rw [if_pos c, if_neg (show ¬ t2 = 12 + U by omega), if_pos c]
    · rw [if_neg c, show bt ((sL D pe th 99 U).1 ||| zb U) (t2 - 12) = (bt (sL D pe th 99 U).1 (t2 - 12) || decide (t2 - 12 = U)) from z_or1 (by omega) (by omega)]
      by_cases c2 : t2 = 12 + U
      · rw [if_pos c2, decide_eq_true (show t2 - 12 = U by omega), Bool.or_true, if_pos rfl, show t2 - 12 = U by omega, nup_s]
      · rw [if_neg c2, decide_eq_false (show ¬ t2 - 12 = U by omega), Bool.or_false, if_neg c, nup_n _ _ _ (show ¬ t2 - 12 = U by omega)]
  rw [eo]
  by_cases c2 : t2 = 12 + U
  · rw [if_pos c2, if_pos c2, sSp_bt (by omega), decide_eq_true hq, Bool.true_and]
    show (!(bt (sL D pe th 99 U).2 q || decide (q = p)) && decide (¬ p = q)) = (decide (¬ q = p) && !bt (sL D pe th 99 U).2 q)
    by_cases c3 : q = p
    · rw [decide_eq_true c3, decide_eq_false (show ¬ ¬ q = p from fun w => w c3), Bool.or_true]; rfl
    · rw [decide_eq_false c3, decide_eq_true (show ¬ q = p from c3), decide_eq_true (show ¬ p = q from fun w => c3 w.symm), Bool.or_false, Bool.and_true, Bool.true_and]
  · rw [if_neg c2, if_neg c2, sTk_bt (by omega) (fun o w => sOwn_lt ht2 (by omega) (fun i hi => (hok i hi).1) hd w), sSp_bt (by omega), decide_eq_true hq, Bool.true_and]
    by_cases c3 : q = p
    · rw [decide_eq_true c3, decide_eq_false (show ¬ ¬ q = p from fun w => w c3), Bool.or_true]; rfl
    · rw [decide_eq_false c3, decide_eq_true (show ¬ q = p from c3), Bool.or_false, Bool.true_and]
      cases sOwn D pe (sL D pe th 99 U).1 t2 <;> rfl
theorem sH_cmp {law law' : Int32} {th th' : Nat → Nat} : ∀ (c : Nat) (h g u u' : Int32), c ≤ 12 → (∀ i, i < c → bt law i = bt law' i ∧ th i = th' i ∧ th i < 24) → (∀ j, j < c → bt u j = bt u' j) → sH law' th' c (h ||| g) u' = sH law th c h u ||| g
  | 0, h, g, u, u', _, _, _ => rfl
  | c + 1, h, g, u, u', hc, hl, hu => by
    obtain ⟨h1, h2, h3⟩ := hl c (by omega)
    show (if bt law' c = true ∧ bt u' c = false then sH law' th' c ((h ||| g) ||| zb c) (if th' c < 12 then u' else u' ||| zb (th' c - 12)) else sH law' th' c (h ||| g) u') = (if bt law c = true ∧ bt u c = false then sH law th c (h ||| zb c) (if th c < 12 then u else u ||| zb (th c - 12)) else sH law th c h u) ||| g
    rw [← h1, ← h2, ← hu c (by omega)]
    by_cases w : bt law c = true ∧ bt u c = false
    · rw [if_pos w, if_pos w, Int32.or_assoc, Int32.or_comm g, ← Int32.or_assoc]
      refine sH_cmp c _ _ _ _ (by omega) (fun i hi => hl i (by omega)) (fun j hj => ?_)
      by_cases w2 : th c < 12
      · rw [if_pos w2, if_pos w2]; exact hu j (by omega)
      · rw [if_neg w2, if_neg w2, b_or, b_or, hu j (by omega)]
    · rw [if_neg w, if_neg w]
      exact sH_cmp c _ _ _ _ (by omega) (fun i hi => hl i (by omega)) (fun j hj => hu j (by omega))
theorem sU_cmp {h h' : Int32} {th th' : Nat → Nat} : ∀ (k i : Nat) (v : Int32), (∀ j, i ≤ j → j < i + k → ((bt h j = true ∧ th j < 12) ↔ (bt h' j = true ∧ th' j < 12)) ∧ ((bt h j = true ∧ th j < 12) → th j = th' j)) → sU h th k i v = sU h' th' k i v
  | 0, i, v, _ => rfl
  | k + 1, i, v, hc => by
    obtain ⟨h1, h2⟩ := hc i (by omega) (by omega)
    show sU h th k (i + 1) (if bt h i = true ∧ th i < 12 then v ||| zb (th i) else v) = sU h' th' k (i + 1) (if bt h' i = true ∧ th' i < 12 then v ||| zb (th' i) else v)
    by_cases w : bt h i = true ∧ th i < 12
    · rw [if_pos w, if_pos (h1.mp w), h2 w]
      exact sU_cmp k (i + 1) _ (fun j q1 q2 => hc j (by omega) (by omega))
    · rw [if_neg w, if_neg (fun q => w (h1.mpr q))]
      exact sU_cmp k (i + 1) _ (fun j q1 q2 => hc j (by omega) (by omega))
theorem sW2_back {D : zD} {U : Nat} {pe th : Nat → Nat} (hU : U + 1 < 12) (hok : ∀ i, i < U → th i < 24) (t : Nat) : sW2 D U pe th t (12 + U) = sSt D pe th 99 U := by
  have hlt := sL_lt D pe th 99 U (by omega)
  have hb : ∀ j, j < 32 → bt (((sL D pe th 99 U).1 ||| zb U) ||| zb (U + 1)) j = ((bt (sL D pe th 99 U).1 j || decide (j = U)) || decide (j = U + 1)) := fun j hj => by
    rw [show bt (((sL D pe th 99 U).1 ||| zb U) ||| zb (U + 1)) j = (bt ((sL D pe th 99 U).1 ||| zb U) j || decide (j = U + 1)) from z_or1 (by omega) hj, show bt ((sL D pe th 99 U).1 ||| zb U) j = (bt (sL D pe th 99 U).1 j || decide (j = U)) from z_or1 (by omega) hj]
  have hn : ∀ j, j < 32 → U ≤ j → bt (sL D pe th 99 U).1 j = false := fun j hj h => by
    cases q : bt (sL D pe th 99 U).1 j
    · rfl
    · have := hlt j hj q; omega
  have hh : sH (((sL D pe th 99 U).1 ||| zb U) ||| zb (U + 1)) (nup (nup th U t) (U + 1) (12 + U)) 12 0 0 = sH (sL D pe th 99 U).1 th 12 0 0 ||| zb (U + 1) := by
    have a1 := sH_ext (law := ((sL D pe th 99 U).1 ||| zb U) ||| zb (U + 1)) (th := nup (nup th U t) (U + 1) (12 + U)) (n := U + 2) (10 - U) 0 0 (fun j h1 h2 => by rw [hb j (by omega), hn j (by omega) (by omega), decide_eq_false (show ¬ j = U by omega), decide_eq_false (show ¬ j = U + 1 by omega)]; rfl)
    rw [show U + 2 + (10 - U) = 12 by omega] at a1
    have a2 := sH_ext (law := (sL D pe th 99 U).1) (th := th) (n := U) (12 - U) 0 0 (fun j h1 h2 => hn j (by omega) (by omega))
    rw [show U + (12 - U) = 12 by omega] at a2
    rw [a1, a2]
    show (if bt (((sL D pe th 99 U).1 ||| zb U) ||| zb (U + 1)) (U + 1) = true ∧ bt 0 (U + 1) = false then sH (((sL D pe th 99 U).1 ||| zb U) ||| zb (U + 1)) (nup (nup th U t) (U + 1) (12 + U)) (U + 1) (0 ||| zb (U + 1)) (if nup (nup th U t) (U + 1) (12 + U) (U + 1) < 12 then 0 else 0 ||| zb (nup (nup th U t) (U + 1) (12 + U) (U + 1) - 12)) else _) = _
    rw [if_pos ⟨by rw [hb _ (by omega), decide_eq_true (show U + 1 = U + 1 from rfl), Bool.or_true], b_0 _⟩, nup_s, if_neg (show ¬ 12 + U < 12 by omega), show 12 + U - 12 = U by omega]
    show (if bt (((sL D pe th 99 U).1 ||| zb U) ||| zb (U + 1)) U = true ∧ bt (0 ||| zb U) U = false then _ else sH (((sL D pe th 99 U).1 ||| zb U) ||| zb (U + 1)) (nup (nup th U t) (U + 1) (12 + U)) U (0 ||| zb (U + 1)) (0 ||| zb U)) = _
    rw [if_neg (by
      rintro ⟨-, q⟩
      rw [show bt ((0 : Int32) ||| zb U) U = (bt 0 U || decide (U = U)) from z_or1 (by omega) (by omega), decide_eq_true rfl, Bool.or_true] at q
      exact absurd q (by decide))]
    refine sH_cmp U 0 (zb (U + 1)) 0 (0 ||| zb U) (by omega) (fun i hi => ⟨?_, ?_, hok i hi⟩) (fun j hj => ?_)
    · rw [hb i (by omega), decide_eq_false (show ¬ i = U by omega), decide_eq_false (show ¬ i = U + 1 by omega), Bool.or_false, Bool.or_false]
    · rw [nup_n _ _ _ (by omega), nup_n _ _ _ (by omega)]
    · rw [show bt ((0 : Int32) ||| zb U) j = (bt 0 j || decide (j = U)) from z_or1 (by omega) (by omega), decide_eq_false (show ¬ j = U by omega), Bool.or_false]
  unfold sW2
  show sStand D (sUn _ _) = sStand D (sUn _ _)
  congr 1
  unfold sUn
  rw [hh]
  refine (sU_cmp 12 0 0 (fun j _ hj => ?_)).symm
  have hsub : bt (sH (sL D pe th 99 U).1 th 12 0 0) j = true → j < U := fun q => by
    rcases sH_sub (sL D pe th 99 U).1 th 12 0 0 (by omega) j (by omega) q with w | w
    · rw [b_0] at w; exact absurd w (by decide)
    · exact hlt j (by omega) w.2
  rw [show bt (sH (sL D pe th 99 U).1 th 12 0 0 ||| zb (U + 1)) j = (bt (sH (sL D pe th 99 U).1 th 12 0 0) j || decide (j = U + 1)) from z_or1 (by omega) (by omega)]
  constructor
  · constructor
    · rintro ⟨q1, q2⟩
      have := hsub q1
      rw [q1, nup_n _ _ _ (by omega), nup_n _ _ _ (by omega)]
      exact ⟨rfl, q2⟩
    · rintro ⟨q1, q2⟩
      by_cases c : j = U + 1
      · rw [c, nup_s] at q2; omega
      · rw [decide_eq_false c, Bool.or_false] at q1
        have := hsub q1
        rw [nup_n _ _ _ (by omega), nup_n _ _ _ (by omega)] at q2
        exact ⟨q1, q2⟩
  · rintro ⟨q1, q2⟩
    have := hsub q1
    rw [nup_n _ _ _ (by omega), nup_n _ _ _ (by omega)]
/-- as told -/
def sTold (D : zD) (st fe w : Int32) : Bool := decide ((w &&& (st &&& fX4_firstBits (nI D.1))) = (st &&& fX4_firstBits (nI D.1))) && decide ((w &&& fe) = 0)
theorem d_told {D : zD} {σ : eu_T} (hD : zDd D σ) (w st fe : Int32) : fX1_isAsTold σ w st fe = if sTold D st fe w = true then 1 else 0 := by
  unfold fX1_isAsTold fX1_isAsTold_J33 sTold
  rw [hD.2.1]
  by_cases c : (w &&& (st &&& fX4_firstBits (nI D.1))) = (st &&& fX4_firstBits (nI D.1))
  · rw [if_pos c, decide_eq_true c]
    by_cases c2 : (w &&& fe) = 0
    · rw [if_pos c2, decide_eq_true c2]; rfl
    · rw [if_neg c2, decide_eq_false c2]; rfl
  · rw [if_neg c, decide_eq_false c]; rfl
theorem m_told {D : zD} {n : Nat} {τ : eu_T} {w : Int32} (hD : zDm D τ) (h : fX5_standing τ (nI n) = some w) (st fe : Int32) : fX5_isSo τ (nI n) st fe = some (if sTold D st fe w = true then 1 else 0) := by
  unfold fX5_isSo fX5_isSo_J40 sTold
  rw [h, eu_bd_t, hD.2.1]
  have e1 : ((st &&& (((1 : Int32) <<< (nI D.1 &&& 31)) - 1)) &&& (w ^^^ (-1))) = 0 ↔ (w &&& (st &&& fX4_firstBits (nI D.1))) = (st &&& fX4_firstBits (nI D.1)) := by
    show ((st &&& fX4_firstBits (nI D.1)) &&& (w ^^^ (-1))) = 0 ↔ _
    generalize st &&& fX4_firstBits (nI D.1) = s
    constructor
    · intro q
      apply b_ext
      intro i hi
      have := z_eq0.mp q i hi
      rw [b_and, z_not hi] at this
      rw [b_and]
      cases a : bt s i
      · rw [Bool.and_false]
      · rw [a] at this
        cases b : bt w i
        · rw [b] at this; exact absurd this (by decide)
        · rfl
    · intro q
      rw [z_eq0]
      intro i hi
      have : bt (w &&& s) i = bt s i := by rw [q]
      rw [b_and] at this
      rw [b_and, z_not hi]
      cases a : bt s i
      · rfl
      · rw [a] at this
        cases b : bt w i
        · rw [b] at this; exact absurd this (by decide)
        · rfl
  by_cases c : (w &&& (st &&& fX4_firstBits (nI D.1))) = (st &&& fX4_firstBits (nI D.1))
  · rw [if_pos (e1.mpr c), decide_eq_true c, Int32.and_comm fe w]
    by_cases c2 : (w &&& fe) = 0
    · rw [if_pos c2, decide_eq_true c2]; rfl
    · rw [if_neg c2, decide_eq_false c2]; rfl
  · rw [if_neg (fun q => c (e1.mp q)), decide_eq_false c]; rfl
/-! ===== the least number of a property ===== -/
def isLn (N : Nat) (P : Nat → Prop) (r : Nat) : Prop := r ≤ N ∧ (r < N → P r) ∧ ∀ d, d < r → ¬ P d
theorem isLn.u {N : Nat} {P Q : Nat → Prop} {a b : Nat} (h : isLn N P a) (g : isLn N Q b) (e : ∀ d, d < N → (P d ↔ Q d)) : a = b := by
  obtain ⟨h1, h2, h3⟩ := h
  obtain ⟨g1, g2, g3⟩ := g
  rcases Nat.lt_trichotomy a b with c | c | c
  · exact absurd ((e a (by omega)).mp (h2 (by omega))) (g3 a c)
  · exact c
  · exact absurd ((e b (by omega)).mpr (g2 (by omega))) (h3 b c)
theorem isLn.c {N : Nat} {P Q : Nat → Prop} {a : Nat} (h : isLn N P a) (e : ∀ d, d < N → (P d ↔ Q d)) : isLn N Q a := ⟨h.1, fun q => (e a q).mp (h.2.1 q), fun d hd q => h.2.2 d hd ((e d (by have := h.1; omega)).mpr q)⟩
theorem isLn.min {N : Nat} {P Q : Nat → Prop} {a b : Nat} (h : isLn N P a) (g : isLn N Q b) : isLn N (fun d => P d ∨ Q d) (if a ≤ b then a else b) := by
  obtain ⟨h1, h2, h3⟩ := h
  obtain ⟨g1, g2, g3⟩ := g
  by_cases c : a ≤ b
  · rw [if_pos c]
    exact ⟨h1, fun q => Or.inl (h2 q), fun d hd q => q.elim (h3 d hd) (g3 d (by omega))⟩
  · rw [if_neg c]
    exact ⟨g1, fun q => Or.inr (g2 q), fun d hd q => q.elim (h3 d (by omega)) (g3 d hd)⟩
def znc (N r : Nat) : Int32 := if r = N then -1 else nI r
theorem d_least_L {σ : eu_T} {a b : Int32} : ∀ (k p n : Nat), p + k = 6 → k < n → (∀ e, e < p → ¬ (bt a e = true ∧ ∃ q, q < 32 ∧ bt b q = true ∧ ¬ q = e)) → ∃ r, isLn 6 (fun p => bt a p = true ∧ ∃ q, q < 32 ∧ bt b q = true ∧ ¬ q = p) r ∧ fX1_leastTaker_L54 σ n a b (nI p) = some (znc 6 r)
  | 0, p, 0, _, hn, _ => by omega
  | k + 1, p, 0, _, hn, _ => by omega
  | 0, p, n + 1, hp, _, h => by
    refine ⟨6, ⟨by omega, fun q => by omega, fun e he => h e (by omega)⟩, ?_⟩
    rw [fX1_leastTaker_L54_s, show (6 : Int32) = nI 6 from rfl, if_pos (le_p (show 6 ≤ p by omega) (by omega))]
    rfl
  | k + 1, p, n + 1, hp, hn, h => by
    have ih := fun (q : ¬ (bt a p = true ∧ ∃ q, q < 32 ∧ bt b q = true ∧ ¬ q = p)) => d_least_L (σ := σ) (a := a) (b := b) k (p + 1) n (by omega) (by omega) (fun e he => by
      by_cases c : e = p
      · rw [c]; exact q
      · exact h e (by omega))
    have e2 : ¬ (b &&& (((1 : Int32) <<< (nI p &&& 31)) ^^^ (-1))) = 0 ↔ ∃ q, q < 32 ∧ bt b q = true ∧ ¬ q = p := by
      rw [z_ne0]
      constructor
      · rintro ⟨q, hq, w⟩
        rw [b_and, z_not hq, z_bit (by omega) hq, Bool.and_eq_true] at w
        refine ⟨q, hq, w.1, fun q2 => ?_⟩
        rw [decide_eq_true q2] at w
        exact absurd w.2 (by decide)
      · rintro ⟨q, hq, w1, w2⟩
        exact ⟨q, hq, by rw [b_and, z_not hq, z_bit (by omega) hq, w1, decide_eq_false w2]; rfl⟩
    rw [fX1_leastTaker_L54_s, show (6 : Int32) = nI 6 from rfl, if_neg (le_n (show ¬ 6 ≤ p by omega) (by omega)), z_bitOf (by omega), z_p1]
    by_cases c1 : bt a p = true
    · rw [if_pos c1, if_pos (show (1 : Int32) = 1 from rfl)]
      by_cases c2 : (b &&& (((1 : Int32) <<< (nI p &&& 31)) ^^^ (-1))) = 0
      · rw [if_pos c2]
        exact ih (fun q => e2.mpr q.2 c2)
      · rw [if_neg c2]
        refine ⟨p, ⟨by omega, fun _ => ⟨c1, e2.mp c2⟩, h⟩, ?_⟩
        unfold znc
        rw [if_neg (show ¬ p = 6 by omega)]
    · rw [if_neg c1, if_neg (show ¬ (0 : Int32) = 1 by decide)]
      exact ih (fun q => c1 q.1)
theorem d_taker1 {D : zD} {U : Nat} {pe th : Nat → Nat} {σ : eu_T} (h : zOl D U pe th σ) {t : Nat} (ht : t < 24) : ∃ r, isLn 6 (fun p => U < 12 ∧ bt (sTk D U pe th t) p = true) r ∧ fX1_leastTaker σ (nI t) (-1) = some (znc 6 r) := by
  have hU12 := h.2.1.1
  unfold fX1_leastTaker fX1_leastTaker_J10
  rw [if_pos rfl, h.2.1.2.1, z_p1, show (12 : Int32) = nI 12 from rfl]
  by_cases c : U < 12
  · obtain ⟨r, g1, g2⟩ := d_least_L (σ := σ) (a := sTk D U pe th t) (b := 63) 6 0 200 (by omega) (by omega) (fun e he => absurd he (Nat.not_lt_zero e))
    rw [nI_0] at g2
    refine ⟨r, g1.c (fun p hp => ⟨fun q => ⟨c, q.1⟩, fun q => ⟨q.2, if p = 0 then 1 else 0, by by_cases w : p = 0; rw [if_pos w]; omega; rw [if_neg w]; omega, ?_, ?_⟩⟩), ?_⟩
    · by_cases w : p = 0
      · rw [if_pos w]; decide
      · rw [if_neg w]; decide
    · by_cases w : p = 0
      · rw [if_pos w]; omega
      · rw [if_neg w]; omega
    · rw [if_pos (le_p (show U + 1 ≤ 12 by omega) (by omega)), d_takers h ht, eu_bd_t, if_pos rfl, g2]
  · refine ⟨6, ⟨by omega, fun q => by omega, fun e he q => c q.1⟩, ?_⟩
    rw [if_neg (le_n (show ¬ U + 1 ≤ 12 by omega) (by omega))]
    rfl
theorem d_taker2 {D : zD} {U : Nat} {pe th : Nat → Nat} {σ : eu_T} (h : zOl D U pe th σ) {t t2 : Nat} (ht : t < 24) (ht2 : t2 < 24) : ∃ r, isLn 6 (fun p => U + 1 < 12 ∧ bt (sTk D U pe th t) p = true ∧ ∃ q, q < 32 ∧ bt (sTk D U pe th t2) q = true ∧ ¬ q = p) r ∧ fX1_leastTaker σ (nI t) (nI t2) = some (znc 6 r) := by
  have hU12 := h.2.1.1
  unfold fX1_leastTaker fX1_leastTaker_J10
  rw [if_neg (z_nm1 (by omega)), h.2.1.2.1, z_p2, show (12 : Int32) = nI 12 from rfl]
  by_cases c : U + 1 < 12
  · obtain ⟨r, g1, g2⟩ := d_least_L (σ := σ) (a := sTk D U pe th t) (b := sTk D U pe th t2) 6 0 200 (by omega) (by omega) (fun e he => absurd he (Nat.not_lt_zero e))
    rw [nI_0] at g2
    refine ⟨r, g1.c (fun p hp => ⟨fun q => ⟨c, q⟩, fun q => q.2⟩), ?_⟩
    rw [if_pos (le_p (show U + 2 ≤ 12 by omega) (by omega)), d_takers h ht, eu_bd_t, if_neg (z_nm1 (by omega)), d_takers h ht2, eu_bd_t, g2]
  · refine ⟨6, ⟨by omega, fun q => by omega, fun e he q => c q.1⟩, ?_⟩
    rw [if_neg (le_n (show ¬ U + 2 ≤ 12 by omega) (by omega))]
    rfl
