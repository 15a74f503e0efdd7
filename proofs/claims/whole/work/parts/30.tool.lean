/-! ===== numbers and bits ===== -/
def bt (x : Int32) (i : Nat) : Bool := x.toBitVec.getLsbD i
theorem b_ext {x y : Int32} (h : ∀ i, i < 32 → bt x i = bt y i) : x = y := Int32.toBitVec_inj.mp (BitVec.eq_of_getLsbD_eq (fun i hi => h i hi))
theorem b_or (x y : Int32) (i : Nat) : bt (x ||| y) i = (bt x i || bt y i) := by unfold bt; rw [Int32.toBitVec_or, BitVec.getLsbD_or]
theorem b_and (x y : Int32) (i : Nat) : bt (x &&& y) i = (bt x i && bt y i) := by unfold bt; rw [Int32.toBitVec_and, BitVec.getLsbD_and]
theorem b_xor (x y : Int32) (i : Nat) : bt (x ^^^ y) i = (bt x i ^^ bt y i) := by unfold bt; rw [Int32.toBitVec_xor, BitVec.getLsbD_xor]
theorem b_big {x : Int32} {i : Nat} (h : 32 ≤ i) : bt x i = false := BitVec.getLsbD_of_ge _ _ h
theorem b_m1 : ∀ i, i < 32 → bt (-1) i = true := by decide +kernel
theorem b_0 (i : Nat) : bt 0 i = false := BitVec.getLsbD_zero
theorem s_l : ∀ n, n < 32 → ((nI n &&& 31).toBitVec.smod 32).toNat = n := by decide +kernel
theorem b_shl (n : Nat) (hn : n < 32) (x : Int32) {i : Nat} (hi : i < 32) : bt (x <<< (nI n &&& 31)) i = (decide (n ≤ i) && bt x (i - n)) := by
  unfold bt
  rw [Int32.toBitVec_shiftLeft]
  show (x.toBitVec <<< ((nI n &&& 31).toBitVec.smod 32).toNat).getLsbD i = _
  rw [s_l n hn, BitVec.getLsbD_shiftLeft]
  rcases Nat.lt_or_ge i n with h | h
  · simp [h, Nat.not_le.mpr h]
  · simp [hi, h, Nat.not_lt.mpr h]
theorem b_sshr (n : Nat) (hn : n < 32) (x : Int32) {i : Nat} (hi : i < 32) : bt (x >>> (nI n &&& 31)) i = if n + i < 32 then bt x (n + i) else bt x 31 := by
  unfold bt
  rw [Int32.toBitVec_shiftRight]
  show (x.toBitVec.sshiftRight ((nI n &&& 31).toBitVec.smod 32).toNat).getLsbD i = _
  rw [s_l n hn, BitVec.getLsbD_sshiftRight, BitVec.msb_eq_getLsbD_last]
  simp [hi]
theorem z_b1 : ∀ i, i < 32 → bt 1 i = decide (i = 0) := by decide +kernel
theorem z_bit {k i : Nat} (hk : k < 32) (hi : i < 32) : bt ((1 : Int32) <<< (nI k &&& 31)) i = decide (i = k) := by
  rw [b_shl k hk 1 hi, z_b1 _ (by omega)]
  rcases Nat.lt_trichotomy i k with h | h | h
  · simp [show ¬ k ≤ i by omega, show ¬ i = k by omega]
  · subst h; simp
  · simp [show k ≤ i by omega, show ¬ i = k by omega, show ¬ i - k = 0 by omega]
/-- the one bit k -/
theorem z_get {x : Int32} {k : Nat} (hk : k < 32) : (x >>> (nI k &&& 31)) &&& 1 = if bt x k = true then 1 else 0 := by
  apply b_ext
  intro i hi
  rw [b_and, b_sshr k hk x hi, z_b1 i hi]
  by_cases h0 : i = 0
  · subst h0
    rw [if_pos (by omega)]
    cases h : bt x k
    · simp [h, b_0]
    · simp [h, z_b1]
  · simp only [h0, decide_false, Bool.and_false]
    split
    · rw [z_b1 i hi]; simp [h0]
    · rw [b_0]
theorem z_bitOf {x : Int32} {k : Nat} (hk : k < 32) : fX4_bitOf x (nI k) = if bt x k = true then 1 else 0 := z_get hk
theorem z_isIn {x : Int32} {k : Nat} (hk : k < 32) : fX5_isIn x (nI k) = if bt x k = true then 1 else 0 := by
  unfold fX5_isIn
  rw [z_get hk]
  cases bt x k <;> simp
theorem z_not {x : Int32} {i : Nat} (hi : i < 32) : bt (x ^^^ (-1)) i = !bt x i := by
  rw [b_xor, b_m1 i hi]
  simp
theorem z_first0 : ∀ n, n < 31 → ∀ i, i < 32 → bt (((1 : Int32) <<< (nI n &&& 31)) - 1) i = decide (i < n) := by decide +kernel
theorem z_first {n i : Nat} (hn : n < 31) (hi : i < 32) : bt (fX4_firstBits (nI n)) i = decide (i < n) := z_first0 n hn i hi
theorem z_eq0 {x : Int32} : x = 0 ↔ ∀ i, i < 32 → bt x i = false := by
  constructor
  · intro h i _; subst h; exact b_0 i
  · intro h; exact b_ext (fun i hi => by rw [h i hi, b_0])
theorem z_ne0 {x : Int32} : ¬ x = 0 ↔ ∃ i, i < 32 ∧ bt x i = true := by
  rw [z_eq0]
  constructor
  · intro h
    refine Classical.byContradiction fun h2 => h fun i hi => ?_
    cases hb : bt x i
    · rfl
    · exact absurd ⟨i, hi, hb⟩ h2
  · rintro ⟨i, hi, hb⟩ h
    rw [h i hi] at hb
    cases hb
theorem z_or1 {x : Int32} {k i : Nat} (hk : k < 32) (hi : i < 32) : bt (x ||| ((1 : Int32) <<< (nI k &&& 31))) i = (bt x i || decide (i = k)) := by
  rw [b_or, z_bit hk hi]
/-! small numbers -/
theorem z_n2 (d : Nat) : (2 : Int32) * nI d = nI (2 * d) := pk_mul 2 d
theorem z_n3 (d : Nat) : (3 : Int32) * nI d = nI (3 * d) := pk_mul 3 d
theorem z_n12 (d : Nat) : (12 : Int32) * nI d = nI (12 * d) := pk_mul 12 d
theorem z_n24 (d : Nat) : (24 : Int32) * nI d = nI (24 * d) := pk_mul 24 d
theorem z_n60 (d : Nat) : (60 : Int32) * nI d = nI (60 * d) := pk_mul 60 d
theorem z_p1 (a : Nat) : nI a + 1 = nI (a + 1) := nI_1 a
theorem z_p2 (a : Nat) : nI a + 2 = nI (a + 2) := nI_add a 2
theorem z_p0 (x : Int32) : x + 0 = x := by simp
theorem z_le {a b : Nat} (ha : a < 1000) (hb : b < 1000) : (nI a ≤ nI b) = (a ≤ b) := propext (nI_leI (by omega) (by omega))
theorem z_lt {a b : Nat} (ha : a < 1000) (hb : b < 1000) : (nI a < nI b) = (a < b) := propext (nI_ltI (by omega) (by omega))
theorem z_eq {a b : Nat} (ha : a < 1000) (hb : b < 1000) : (nI a = nI b) = (a = b) := propext (nI_eq (by omega) (by omega))
theorem z_neg {a : Nat} (ha : a < 1000) : ¬ nI a < 0 := nI_pos (by omega)
theorem z_cl {a : Nat} (ha : a < 1000) : (nI a).toNatClampNeg = a := nI_clamp (by omega)
theorem z_ti {a : Nat} (ha : a < 1000) : (nI a).toInt = (a : Int) := nI_toInt (by omega)
theorem z_in {a z : Nat} (ha : a < 1000) (h : a < z) : eu_in (nI a) z := by
  unfold eu_in
  rw [z_ti ha]
  omega
theorem z_gd {α : Type} {a z : Nat} {k : Option α} (ha : a < 1000) (h : a < z) : eu_gd (eu_in (nI a) z) k = k := eu_gd_t (z_in ha h)
theorem z_sub {a b : Nat} (h : b ≤ a) : nI a - nI b = nI (a - b) := pk_sub h
theorem z_m1 {a : Nat} : nI (a + 1) + (-1) = nI a := pk_m1 a
theorem z_lt_i {α : Type} {β : Type} (v : α) (k : α → β) : eu_lt v k = k v := rfl
theorem z_nm1 {a : Nat} (ha : a < 1000) : ¬ nI a = -1 := by
  intro h
  have h2 : (nI a).toInt = (-1 : Int32).toInt := congrArg Int32.toInt h
  rw [z_ti ha] at h2
  have h3 : (-1 : Int32).toInt = -1 := by decide
  omega
theorem z_below {a b : Nat} (ha : a < 1000) (hb : b < 1000) : fX4_isBelow (nI a) (nI b) = if a < b then 1 else 0 := by
  unfold fX4_isBelow fX4_isBelow_J13
  rw [if_neg (z_neg ha)]
  simp only [z_le hb ha]
  by_cases h : a < b
  · rw [if_neg (by omega), if_pos h]
  · rw [if_pos (by omega), if_neg h]
theorem z_below2 (a : Int32) (m : Nat) (hm : m < 2 ^ 31) : (fX4_isBelow a (nI m) = 0 ∧ ∀ x, x < m → a ≠ nI x) ∨ ∃ x, x < m ∧ a = nI x ∧ fX4_isBelow a (nI m) = 1 := by
  unfold fX4_isBelow fX4_isBelow_J13
  by_cases h1 : a < 0
  · left
    rw [if_pos h1]
    refine ⟨rfl, fun x hx e => ?_⟩
    rw [e] at h1
    exact nI_pos (by omega) h1
  · obtain ⟨j, hj, e⟩ := nI_of h1
    rw [if_neg h1, e]
    simp only [nI_leI hm hj]
    by_cases h2 : m ≤ j
    · left
      rw [if_pos h2]
      refine ⟨rfl, fun x hx e2 => ?_⟩
      have := (nI_eq hj (by omega)).mp e2
      omega
    · right
      exact ⟨j, by omega, rfl, by rw [if_neg h2]⟩
theorem z_cmp (x y : Int64) : (lg_cmp x y < 0 ↔ x < y) ∧ (0 < lg_cmp x y ↔ y < x) ∧ (lg_cmp x y ≤ 0 ↔ x ≤ y) := by
  have hz : (0 : Int32) < 1 ∧ (-1 : Int32) < 0 ∧ ¬ (1 : Int32) < 0 ∧ ¬ (0 : Int32) < (-1) ∧ ¬ (0 : Int32) < 0 ∧ (0 : Int32) ≤ 0 ∧ (-1 : Int32) ≤ 0 ∧ ¬ (1 : Int32) ≤ 0 := by decide
  obtain ⟨q1, q2, q3, q4, q5, q6, q7, q8⟩ := hz
  rw [Int64.le_iff_toInt_le, Int64.lt_iff_toInt_lt, Int64.lt_iff_toInt_lt]
  by_cases h1 : x < y
  · have h1' := Int64.lt_iff_toInt_lt.mp h1
    have e : lg_cmp x y = -1 := by
      unfold lg_cmp
      rw [if_neg (fun h => by have := Int64.lt_iff_toInt_lt.mp h; omega), if_neg (fun h => by rw [h] at h1'; omega)]
    rw [e]
    exact ⟨⟨fun _ => h1', fun _ => q2⟩, ⟨fun h => absurd h q4, fun h => by omega⟩, ⟨fun _ => by omega, fun _ => q7⟩⟩
  · have h1' : ¬ x.toInt < y.toInt := fun h => h1 (Int64.lt_iff_toInt_lt.mpr h)
    by_cases h2 : y < x
    · have e : lg_cmp x y = 1 := by unfold lg_cmp; simp [h1, h2]
      have h2' := Int64.lt_iff_toInt_lt.mp h2
      rw [e]
      exact ⟨⟨fun h => absurd h q3, fun h => by omega⟩, ⟨fun _ => h2', fun _ => q1⟩, ⟨fun h => absurd h q8, fun h => by omega⟩⟩
    · have h2' : ¬ y.toInt < x.toInt := fun h => h2 (Int64.lt_iff_toInt_lt.mpr h)
      have e : lg_cmp x y = 0 := by
        unfold lg_cmp
        rw [if_neg h2, if_pos (Int64.toInt_inj.mp (by omega))]
      rw [e]
      exact ⟨⟨fun h => absurd h q5, fun h => by omega⟩, ⟨fun h => absurd h q5, fun h => by omega⟩, ⟨fun _ => by omega, fun _ => q6⟩⟩
theorem z_inE (x y z : Int64) : fX5_in x y z = if y.toInt ≤ x.toInt ∧ x.toInt ≤ z.toInt then 1 else 0 := by
  unfold fX5_in fX5_in_J17
  have a1 := (z_cmp x y).1
  have a2 := (z_cmp x z).2.1
  rw [Int64.lt_iff_toInt_lt] at a1 a2
  by_cases h1 : x.toInt < y.toInt
  · rw [if_pos (a1.mpr h1), if_neg (by omega)]
  · by_cases h2 : z.toInt < x.toInt
    · rw [if_neg (fun h => h1 (a1.mp h)), if_pos (a2.mpr h2), if_neg (by omega)]
    · rw [if_neg (fun h => h1 (a1.mp h)), if_neg (fun h => h2 (a2.mp h)), if_pos (by omega)]
theorem z_w (a : Int32) : a.toInt64.toInt = a.toInt := by simp
theorem z_inb (a : Int32) (m : Nat) (hm : m < 2 ^ 31) (z : Int64) (hz : z.toInt = (m : Int) - 1) : fX5_in a.toInt64 (0 : Int64) z = fX4_isBelow a (nI m) := by
  rw [z_inE]
  unfold fX4_isBelow fX4_isBelow_J13
  have e0 : (0 : Int64).toInt = 0 := by decide
  have e1 : (0 : Int32).toInt = 0 := by decide
  rw [e0, hz, z_w]
  have l1 : a < 0 ↔ a.toInt < 0 := by rw [Int32.lt_iff_toInt_lt, e1]
  have l2 : nI m ≤ a ↔ (m : Int) ≤ a.toInt := by rw [Int32.le_iff_toInt_le, nI_toInt hm]
  by_cases h1 : a.toInt < 0
  · rw [if_pos (l1.mpr h1), if_neg (by omega)]
  · rw [if_neg (fun h => h1 (l1.mp h))]
    by_cases h2 : (m : Int) ≤ a.toInt
    · rw [if_pos (l2.mpr h2), if_neg (by omega)]
    · rw [if_neg (fun h => h2 (l2.mp h)), if_pos (by omega)]
theorem z_i255 (a : Int32) : fX5_in a.toInt64 (0 : Int64) (255 : Int64) = fX4_isBelow a (256 : Int32) := z_inb a 256 (by omega) _ (by decide)
theorem z_i5 (a : Int32) : fX5_in a.toInt64 (0 : Int64) (5 : Int64) = fX4_isBelow a (6 : Int32) := z_inb a 6 (by omega) _ (by decide)
theorem z_i23 (a : Int32) : fX5_in a.toInt64 (0 : Int64) (23 : Int64) = fX4_isBelow a (24 : Int32) := z_inb a 24 (by omega) _ (by decide)
theorem z_i11 (a : Int32) : fX5_in a.toInt64 (0 : Int64) (11 : Int64) = fX4_isBelow a (12 : Int32) := z_inb a 12 (by omega) _ (by decide)
theorem z_i2 (a : Int32) : fX5_in a.toInt64 (0 : Int64) (2 : Int64) = fX4_isBelow a (3 : Int32) := z_inb a 3 (by omega) _ (by decide)
theorem z_i1 (a : Int32) : fX5_isTwo a = fX4_isBelow a (2 : Int32) := z_inb a 2 (by omega) _ (by decide)
theorem z_i3 (a : Int32) : fX5_isSheet a = fX4_isBelow a (4 : Int32) := z_inb a 4 (by omega) _ (by decide)
theorem z_i3b (a : Int32) : fX5_in a.toInt64 (0 : Int64) (3 : Int64) = fX4_isBelow a (4 : Int32) := z_inb a 4 (by omega) _ (by decide)
theorem z_i6 (a : Int32) : fX5_in a.toInt64 (0 : Int64) (6 : Int64) = fX4_isBelow a (7 : Int32) := z_inb a 7 (by omega) _ (by decide)
theorem z_iD (a : Int32) (n : Nat) (hn : n < 1000) : fX5_in a.toInt64 (0 : Int64) ((nI n - 1).toInt64) = fX4_isBelow a (nI n) := z_inb a n (by omega) _ (by
  rw [z_w]
  have := pk_sub_toInt (a := n) (b := 1) (by omega) (by omega)
  exact this)
theorem z_iU (a : Int32) (n : Nat) (hn : n < 1000) : fX5_in a.toInt64 (0 : Int64) ((nI n).toInt64) = fX4_isBelow a (nI n + 1) := by
  rw [z_p1]
  exact z_inb a (n + 1) (by omega) _ (by rw [z_w, z_ti hn]; omega)
