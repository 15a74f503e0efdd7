/-! ===== twelve bits: facts told by trying all ===== -/
set_option maxRecDepth 100000 in
theorem z_ones0 : ∀ m, m < 4096 → fX5_ones (nI m) = some (fJ6_bitCount_0f7a4 (nI m)) := by decide +kernel
theorem z_small {x : Int32} (h : ∀ j, j < 32 → bt x j = true → j < 12) : ∃ m, m < 4096 ∧ x = nI m := by
  have e : x &&& 4095 = x := b_ext (fun i hi => by
    rw [b_and]
    cases hb : bt x i
    · simp
    · have hi12 := h i hi hb
      have : bt 4095 i = true := (by decide +kernel : ∀ i, i < 12 → bt 4095 i = true) i hi12
      rw [this]; rfl)
  obtain ⟨j, hj, e2⟩ := pk_andE x (m := 4095) 12 (by decide)
  exact ⟨j, by simpa using hj, by rw [← e, e2]⟩
theorem z_ones {x : Int32} (h : ∀ j, j < 32 → bt x j = true → j < 12) : fX5_ones x = some (fJ6_bitCount_0f7a4 x) := by
  obtain ⟨m, hm, e⟩ := z_small h
  rw [e]
  exact z_ones0 m hm
