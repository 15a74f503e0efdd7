/-! ===== the core: which deeds fall, the law, what holds (spec), and the class's functions for it ===== -/
abbrev zD : Type := Nat × (Nat → Nat) × (Nat → Int32) × Int32
abbrev zb (k : Nat) : Int32 := (1 : Int32) <<< (nI k &&& 31)
/-- which fall: k deeds from i on, after v -/
def sF (D : zD) : Nat → Nat → Int32 → Int32
  | 0, _, v => v
  | k + 1, i, v => sF D k (i + 1) (if bt D.2.2.2 i = false ∧ ¬ (D.2.2.1 i &&& v) = 0 then v ||| zb i else v)
def sStand (D : zD) (u : Int32) : Int32 := fX4_firstBits (nI D.1) &&& (sF D D.1 0 u ^^^ (-1))
def sOwn (D : zD) (pe : Nat → Nat) (law : Int32) (t : Nat) : Option Nat := if t < 12 then (if t < D.1 then some (D.2.1 t) else none) else if bt law (t - 12) = true then some (pe (t - 12)) else none
def sOk (D : zD) (pe th : Nat → Nat) (law spent : Int32) (i : Nat) : Bool := !(bt spent (pe i)) && (match sOwn D pe law (th i) with
  | some o => decide (¬ o = pe i)
  | none => false)
/-- the law and who is spent, behind the first i, one of them (skip) not told -/
def sL (D : zD) (pe th : Nat → Nat) (skip : Nat) : Nat → Int32 × Int32
  | 0 => (0, 0)
  | i + 1 => if (decide (¬ i = skip) && sOk D pe th (sL D pe th skip i).1 (sL D pe th skip i).2 i) = true then ((sL D pe th skip i).1 ||| zb i, (sL D pe th skip i).2 ||| zb (pe i)) else sL D pe th skip i
/-- from c - 1 down: what holds (h), what is undone (u) -/
def sH (law : Int32) (th : Nat → Nat) : Nat → Int32 → Int32 → Int32
  | 0, h, _ => h
  | c + 1, h, u => if bt law c = true ∧ bt u c = false then sH law th c (h ||| zb c) (if th c < 12 then u else u ||| zb (th c - 12)) else sH law th c h u
/-- the deeds that those undo: k from i on -/
def sU (h : Int32) (th : Nat → Nat) : Nat → Nat → Int32 → Int32
  | 0, _, v => v
  | k + 1, i, v => sU h th k (i + 1) (if bt h i = true ∧ th i < 12 then v ||| zb (th i) else v)
def zDd (D : zD) (σ : eu_T) : Prop := D.1 ≤ 12 ∧ σ 3 4 = nI D.1 ∧ (∀ d, d < D.1 → σ 7 d = nI (D.2.1 d) ∧ D.2.1 d < 6 ∧ σ 8 d = D.2.2.1 d) ∧ σ 3 5 = D.2.2.2
def zUd (U : Nat) (pe th : Nat → Nat) (σ : eu_T) : Prop := U ≤ 12 ∧ σ 2 3 = nI U ∧ ∀ i, i < U → σ 9 i = nI (pe i) ∧ σ 10 i = nI (th i) ∧ pe i < 6 ∧ th i < 24
theorem d_fallen_L {D : zD} {σ : eu_T} (hD : zDd D σ) : ∀ (k i n : Nat) (v : Int32), i + k = D.1 → k < n → fX0_fallen_L4 σ n v (nI i) = some (sF D k i v)
  | 0, i, 0, v, _, hn => by omega
  | k + 1, i, 0, v, _, hn => by omega
  | 0, i, n + 1, v, hi, _ => by
    rw [fX0_fallen_L4_s, hD.2.1, if_pos (by rw [z_le (by have := hD.1; omega) (by have := hD.1; omega)]; omega)]
    rfl
  | k + 1, i, n + 1, v, hi, hn => by
    have h12 := hD.1
    have hd := hD.2.2.1 i (by omega)
    rw [fX0_fallen_L4_s, hD.2.1, if_neg (by rw [z_le (by omega) (by omega)]; omega), hD.2.2.2, z_get (by omega)]
    show _ = some (sF D k (i + 1) _)
    cases hb : bt D.2.2.2 i
    · rw [if_pos (by simp), z_gd (by omega) (by omega), z_cl (by omega), hd.2.2]
      by_cases h : (D.2.2.1 i &&& v) = 0
      · rw [if_pos h, if_neg (by simp [h]), z_p1]
        exact d_fallen_L hD k (i + 1) n _ (by omega) (by omega)
      · rw [if_neg h, if_pos ⟨rfl, h⟩, z_p1]
        exact d_fallen_L hD k (i + 1) n _ (by omega) (by omega)
    · rw [if_neg (by simp), if_neg (by simp), z_p1]
      exact d_fallen_L hD k (i + 1) n _ (by omega) (by omega)
theorem d_fallen {D : zD} {σ : eu_T} (hD : zDd D σ) (v : Int32) : fX0_fallen σ v = some (sF D D.1 0 v) := by
  have h := d_fallen_L hD D.1 0 200 v (by omega) (by have := hD.1; omega)
  rw [nI_0] at h
  unfold fX0_fallen
  rw [h]
theorem d_standing0 {D : zD} {σ : eu_T} (hD : zDd D σ) (v : Int32) : fX0_standing σ v = some (sStand D v) := by
  unfold fX0_standing
  rw [d_fallen hD, hD.2.1]
  rfl
theorem d_ownerOf {D : zD} {U : Nat} {pe th : Nat → Nat} {σ : eu_T} (hD : zDd D σ) (hU : zUd U pe th σ) {t : Nat} (ht : t < 24) {law : Int32} (hl : ∀ j, j < 12 → bt law j = true → j < U) : fX3_ownerOf σ (nI t) law = some (match sOwn D pe law t with
    | some o => nI o
    | none => -1) := by
  have h12 := hD.1
  have hU12 := hU.1
  unfold fX3_ownerOf fX3_ownerOf_J33 fX3_ownerOf_J61 sOwn
  by_cases h : t < 12
  · rw [if_neg (show ¬ (12 : Int32) ≤ nI t by rw [show (12 : Int32) = nI 12 from rfl, z_le (by omega) (by omega)]; omega), if_neg (z_neg (by omega)), hD.2.1, if_pos h]
    by_cases h2 : t < D.1
    · rw [if_neg (by rw [z_le (by omega) (by omega)]; omega), z_gd (by omega) (by omega), z_cl (by omega), (hD.2.2.1 t h2).1, if_pos h2]
    · rw [if_pos (by rw [z_le (by omega) (by omega)]; omega), if_neg h2]
  · rw [if_pos (show (12 : Int32) ≤ nI t by rw [show (12 : Int32) = nI 12 from rfl, z_le (by omega) (by omega)]; omega), if_neg h, show nI t - 12 = nI (t - 12) from z_sub (b := 12) (by omega), hU.2.1]
    by_cases h2 : U ≤ t - 12
    · rw [if_pos (by rw [z_le (by omega) (by omega)]; omega)]
      have hb : ¬ bt law (t - 12) = true := fun q => by have := hl _ (by omega) q; omega
      rw [if_neg hb]
      rfl
    · rw [if_neg (by rw [z_le (by omega) (by omega)]; omega), z_get (by omega)]
      by_cases hb : bt law (t - 12) = true
      · rw [if_pos hb, if_pos rfl, if_pos hb]
        unfold fX3_ownerOf_J62
        rw [if_neg (by decide), z_gd (by omega) (by omega), z_cl (by omega), (hU.2.2 _ (by omega)).1]
      · rw [if_neg hb, if_neg (by decide), if_neg hb]
        rfl
theorem sL_lt (D : zD) (pe th : Nat → Nat) (skip : Nat) : ∀ n, n ≤ 31 → ∀ j, j < 32 → bt (sL D pe th skip n).1 j = true → j < n
  | 0, _, j, _, h => by rw [show (sL D pe th skip 0).1 = 0 from rfl, b_0] at h; cases h
  | n + 1, hn, j, hj, h => by
    unfold sL at h
    split at h
    · rw [z_or1 (by omega) hj] at h
      simp at h
      rcases h with h | h
      · have := sL_lt D pe th skip n (by omega) j hj h
        omega
      · omega
    · have := sL_lt D pe th skip n (by omega) j hj h
      omega
theorem d_lawful_L {D : zD} {U : Nat} {pe th : Nat → Nat} {σ : eu_T} (hD : zDd D σ) (hU : zUd U pe th σ) {skip : Nat} {sk : Int32} (hsk : ∀ i, i < 12 → (nI i = sk ↔ i = skip)) : ∀ (k i n : Nat), i + k = U → k < n → fX3_lawful_L7 σ n sk (sL D pe th skip i).1 (sL D pe th skip i).2 (nI i) = some (sL D pe th skip U).1
  | 0, i, 0, _, hn => by omega
  | k + 1, i, 0, _, hn => by omega
  | 0, i, n + 1, hi, _ => by
    have h12 := hU.1
    rw [fX3_lawful_L7_s, hU.2.1, if_pos (by rw [z_le (by omega) (by omega)]; omega), show i = U by omega]
  | k + 1, i, n + 1, hi, hn => by
    have h12 := hU.1
    obtain ⟨e9, e10, hp, ht⟩ := hU.2.2 i (by omega)
    have ih := d_lawful_L hD hU hsk k (i + 1) n (by omega) (by omega)
    rw [fX3_lawful_L7_s, hU.2.1, if_neg (by rw [z_le (by omega) (by omega)]; omega), z_gd (by omega) (by omega), z_cl (by omega), e10, d_ownerOf hD hU ht (fun j hj h => by have := sL_lt D pe th skip i (by omega) j (by omega) h; omega)]
    show (if _ then _ else _) = _
    have hno : ∀ s0 : Int32, s0 = 0 ∨ i = skip ∨ bt (sL D pe th skip i).2 (pe i) = true → sL D pe th skip (i + 1) = sL D pe th skip i → fX3_lawful_J53 σ (fX3_lawful_L7 σ n) sk (sL D pe th skip i).1 (sL D pe th skip i).2 (nI i) s0 = some (sL D pe th skip U).1 := by
      intro s0 h1 h2
      rw [h2] at ih
      rw [← z_p1] at ih
      unfold fX3_lawful_J53
      by_cases q : nI i = sk
      · rw [if_pos q]; exact ih
      · rw [if_neg q]
        by_cases q2 : s0 = 0
        · rw [if_pos q2]; exact ih
        · rw [if_neg q2, z_gd (by omega) (by omega), z_cl (by omega), e9, z_bitOf (by omega)]
          rcases h1 with h | h | h
          · exact absurd h q2
          · exact absurd ((hsk i (by omega)).mpr h) q
          · rw [if_pos h, if_neg (by decide)]; exact ih
    have hst : sL D pe th skip (i + 1) = if (decide (¬ i = skip) && sOk D pe th (sL D pe th skip i).1 (sL D pe th skip i).2 i) = true then ((sL D pe th skip i).1 ||| zb i, (sL D pe th skip i).2 ||| zb (pe i)) else sL D pe th skip i := rfl
    cases ho : sOwn D pe (sL D pe th skip i).1 (th i) with
    | none =>
      rw [if_pos rfl]
      have hf : sOk D pe th (sL D pe th skip i).1 (sL D pe th skip i).2 i = false := by unfold sOk; rw [ho]; simp
      exact hno 0 (Or.inl rfl) (by rw [hst, hf]; simp)
    | some o =>
      have ho6 : o < 6 := by
        unfold sOwn at ho
        split at ho
        · split at ho
          · have := (hD.2.2.1 _ (by assumption)).2.1
            cases ho; exact this
          · cases ho
        · split at ho
          · rename_i hbb
            have hlt := sL_lt D pe th skip i (by omega) (th i - 12) (by omega) hbb
            have := (hU.2.2 (th i - 12) (by omega)).2.2.1
            cases ho; exact this
          · cases ho
      dsimp only
      rw [if_neg (z_nm1 (by omega)), z_gd (by omega) (by omega), e9]
      by_cases hop : o = pe i
      · subst hop
        rw [if_pos rfl]
        have hf : sOk D pe th (sL D pe th skip i).1 (sL D pe th skip i).2 i = false := by unfold sOk; rw [ho]; simp
        exact hno 0 (Or.inl rfl) (by rw [hst, hf]; simp)
      · rw [if_neg (by rw [z_eq (by omega) (by omega)]; exact hop)]
        by_cases hs : i = skip
        · exact hno 1 (Or.inr (Or.inl hs)) (by rw [hst]; simp [hs])
        · cases hb : bt (sL D pe th skip i).2 (pe i)
          · have hf : sOk D pe th (sL D pe th skip i).1 (sL D pe th skip i).2 i = true := by unfold sOk; rw [ho, hb]; simp [hop]
            rw [hst, hf, if_pos (by simp [hs]), ← z_p1] at ih
            unfold fX3_lawful_J53
            rw [if_neg (fun q => hs ((hsk i (by omega)).mp q)), if_neg (by decide), z_gd (by omega) (by omega), z_cl (by omega), e9, z_bitOf (by omega), hb, if_pos (by simp), z_gd (by omega) (by omega)]
            exact ih
          · exact hno 1 (Or.inr (Or.inr hb)) (by
              have hf : sOk D pe th (sL D pe th skip i).1 (sL D pe th skip i).2 i = false := by unfold sOk; rw [hb]; simp
              rw [hst, hf]; simp)
theorem z_sk1 : ∀ i, i < 12 → (nI i = (-1 : Int32) ↔ i = 99) := fun i hi => ⟨fun h => absurd h (z_nm1 (by omega)), fun h => by omega⟩
theorem d_lawful {D : zD} {U : Nat} {pe th : Nat → Nat} {σ : eu_T} (hD : zDd D σ) (hU : zUd U pe th σ) {skip : Nat} {sk : Int32} (hsk : ∀ i, i < 12 → (nI i = sk ↔ i = skip)) : fX3_lawful σ sk = some (sL D pe th skip U).1 := by
  have h := d_lawful_L hD hU hsk U 0 200 (by omega) (by have := hU.1; omega)
  rw [nI_0, show (sL D pe th skip 0).1 = 0 from rfl, show (sL D pe th skip 0).2 = 0 from rfl] at h
  unfold fX3_lawful
  rw [h]
theorem d_holding_L {th : Nat → Nat} {σ : eu_T} {law : Int32} (hT : ∀ i, i < 12 → bt law i = true → σ 10 i = nI (th i) ∧ th i < 24) : ∀ (c n : Nat) (h u : Int32), c ≤ 12 → c < n → fX3_holding_L8 σ n law h u (nI c + (-1)) = some (sH law th c h u)
  | 0, 0, h, u, _, hn => by omega
  | c + 1, 0, h, u, _, hn => by omega
  | 0, n + 1, h, u, _, _ => by
    rw [fX3_holding_L8_s, if_pos (by decide)]
    rfl
  | c + 1, n + 1, h, u, hc, hn => by
    rw [fX3_holding_L8_s, z_m1, if_neg (z_neg (by omega)), z_get (by omega), b_and, z_not (by omega)]
    show _ = some (if _ then _ else _)
    by_cases q : bt law c = true ∧ bt u c = false
    · obtain ⟨e10, ht⟩ := hT c (by omega) q.1
      rw [if_pos q, q.1, q.2, if_pos (by simp), z_gd (by omega) (by omega), z_cl (by omega), e10]
      by_cases h12 : th c < 12
      · rw [if_pos (show nI (th c) < (12 : Int32) by rw [show (12 : Int32) = nI 12 from rfl, z_lt (by omega) (by omega)]; exact h12), if_pos h12]
        exact d_holding_L hT c n _ _ (by omega) (by omega)
      · rw [if_neg (show ¬ nI (th c) < (12 : Int32) by rw [show (12 : Int32) = nI 12 from rfl, z_lt (by omega) (by omega)]; exact h12), z_gd (by omega) (by omega), if_neg h12, show nI (th c) - 12 = nI (th c - 12) from z_sub (b := 12) (by omega)]
        exact d_holding_L hT c n _ _ (by omega) (by omega)
    · rw [if_neg q, if_neg (by
        intro hh
        apply q
        cases hb1 : bt law c <;> cases hb2 : bt u c <;> simp_all)]
      exact d_holding_L hT c n _ _ (by omega) (by omega)
theorem d_holding {th : Nat → Nat} {σ : eu_T} {law : Int32} (hT : ∀ i, i < 12 → bt law i = true → σ 10 i = nI (th i) ∧ th i < 24) : fX3_holding σ law = some (sH law th 12 0 0) := by
  have h := d_holding_L hT 12 200 0 0 (by omega) (by omega)
  rw [show nI 12 + (-1) = (11 : Int32) from by decide] at h
  unfold fX3_holding
  rw [h]
theorem d_undone_L {th : Nat → Nat} {σ : eu_T} {h : Int32} (hT : ∀ i, i < 12 → bt h i = true → σ 10 i = nI (th i) ∧ th i < 24) : ∀ (k i n : Nat) (v : Int32), i + k = 12 → k < n → fX3_undone_L11 σ n h v (nI i) = some (sU h th k i v)
  | 0, i, 0, v, _, hn => by omega
  | k + 1, i, 0, v, _, hn => by omega
  | 0, i, n + 1, v, hi, _ => by
    rw [fX3_undone_L11_s, show i = 12 by omega, if_pos (by decide)]
    rfl
  | k + 1, i, n + 1, v, hi, hn => by
    rw [fX3_undone_L11_s, if_neg (show ¬ (12 : Int32) ≤ nI i by rw [show (12 : Int32) = nI 12 from rfl, z_le (by omega) (by omega)]; omega), z_bitOf (by omega)]
    show _ = some (sU h th k (i + 1) _)
    by_cases q : bt h i = true
    · obtain ⟨e10, ht⟩ := hT i (by omega) q
      rw [if_pos q, if_pos rfl, z_gd (by omega) (by omega), z_cl (by omega), e10]
      by_cases h12 : th i < 12
      · rw [if_neg (show ¬ (12 : Int32) ≤ nI (th i) by rw [show (12 : Int32) = nI 12 from rfl, z_le (by omega) (by omega)]; omega), z_gd (by omega) (by omega), if_pos ⟨q, h12⟩, z_p1]
        exact d_undone_L hT k (i + 1) n _ (by omega) (by omega)
      · rw [if_pos (show (12 : Int32) ≤ nI (th i) by rw [show (12 : Int32) = nI 12 from rfl, z_le (by omega) (by omega)]; omega), if_neg (fun q2 => h12 q2.2), z_p1]
        exact d_undone_L hT k (i + 1) n _ (by omega) (by omega)
    · rw [if_neg q, if_neg (by decide), if_neg (fun q2 => q q2.1), z_p1]
      exact d_undone_L hT k (i + 1) n _ (by omega) (by omega)
theorem sH_sub (law : Int32) (th : Nat → Nat) : ∀ (c : Nat) (h u : Int32), c ≤ 31 → ∀ j, j < 32 → bt (sH law th c h u) j = true → bt h j = true ∨ (j < c ∧ bt law j = true)
  | 0, h, u, _, j, _, hb => Or.inl hb
  | c + 1, h, u, hc, j, hj, hb => by
    unfold sH at hb
    split at hb
    · rcases sH_sub law th c _ _ (by omega) j hj hb with q | q
      · rw [z_or1 (by omega) hj] at q
        simp at q
        rcases q with q | q
        · exact Or.inl q
        · subst q
          rename_i hh
          exact Or.inr ⟨by omega, hh.1⟩
      · exact Or.inr ⟨by omega, q.2⟩
    · rcases sH_sub law th c _ _ (by omega) j hj hb with q | q
      · exact Or.inl q
      · exact Or.inr ⟨by omega, q.2⟩
/-- the deeds that the undoings undo which hold -/
def sUn (law : Int32) (th : Nat → Nat) : Int32 := sU (sH law th 12 0 0) th 12 0 0
theorem d_undone {th : Nat → Nat} {σ : eu_T} {law : Int32} (hT : ∀ i, i < 12 → bt law i = true → σ 10 i = nI (th i) ∧ th i < 24) : fX3_undone σ law = some (sUn law th) := by
  have h := d_undone_L (th := th) (σ := σ) (h := sH law th 12 0 0) (fun i hi hb => by
    rcases sH_sub law th 12 0 0 (by omega) i (by omega) hb with q | q
    · rw [b_0] at q; cases q
    · exact hT i hi q.2) 12 0 200 0 (by omega) (by omega)
  rw [nI_0] at h
  unfold fX3_undone
  rw [d_holding hT, eu_bd_t, h]
  unfold sUn
  rfl
theorem d_standing {D : zD} {th : Nat → Nat} {σ : eu_T} (hD : zDd D σ) {law : Int32} (hT : ∀ i, i < 12 → bt law i = true → σ 10 i = nI (th i) ∧ th i < 24) : fX3_standing σ law = some (sStand D (sUn law th)) := by
  unfold fX3_standing
  rw [d_undone hT, eu_bd_t, d_standing0 hD, eu_bd_t]
