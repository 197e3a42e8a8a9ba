theorem ID_sz {n : Nat} {sz pr len mpr msf : Int32} {pk bi : Nat → Int32} (hD : ID n sz pr pk len mpr msf bi) : ∃ N : Nat, N ≤ 360000 ∧ sz = nI N ∧ len = nI N := by
  obtain ⟨d1, d2, d3, -⟩ := hD
  rcases d3 with ⟨-, h⟩ | ⟨sf, N, -, -, -, -, h, -, h2⟩
  · exact ⟨0, by omega, h, by rw [← d1, h]; rfl⟩
  · exact ⟨N, h2, h, by rw [← d1, h]⟩
theorem ID_pr {n : Nat} {sz pr len mpr msf : Int32} {pk bi : Nat → Int32} (hD : ID n sz pr pk len mpr msf bi) : ∃ F : Nat, F ≤ 599 ∧ pr = nI F ∧ mpr = nI F := by
  obtain ⟨d1, d2, d3, -⟩ := hD
  rcases d3 with ⟨h, -⟩ | ⟨sf, N, h0, h1, -, h, -⟩
  · exact ⟨0, by omega, h, by rw [← d2, h]; rfl⟩
  · exact ⟨sf + 111, by omega, h, by rw [← d2, h]⟩
theorem has_1 {N k : Nat} (hN : N ≤ 360000) (h : k < N) : fX3_has (nI N) (nI k) = 1 := by
  unfold fX3_has
  simp (disch := omega) only [nl, nI_leI, nI_ltI, if_pos, if_neg]
theorem has_0 {N : Nat} {y : Int32} (hN : N ≤ 360000) (h : y < 0 ∨ ∃ k : Nat, k < 2147483648 ∧ y = nI k ∧ N ≤ k) : fX3_has (nI N) y = 0 := by
  unfold fX3_has
  rcases h with h | ⟨k, hk, rfl, h⟩
  · rw [if_pos h]
  · simp (disch := omega) only [nl, nI_leI, nI_ltI, if_pos, if_neg]
theorem op_bits : OP10 Inv := by
  intro n xi xa xl mi ma y0 hn h
  obtain ⟨hC, hS, hE, hB, hD, hP⟩ := id h
  have fin : Inv (n + 1) xi xa xl (upd mi 0 0) ma := ⟨hC, hS, hE, hB, hD.mono, hP⟩
  obtain ⟨N, hN, e1, e2⟩ := ID_sz hD
  rcases i_cases y0 with hy | ⟨k, hk1, rfl⟩
  · refine ⟨0, 0, 0, ?_, ?_, rfl, fin⟩
    · unfold fX9_bits
      rw [e1, has_0 hN (Or.inl hy)]; rfl
    · unfold fX10_bits
      rw [in_neg hy]; rfl
  · by_cases hkN : k < N
    · refine ⟨nI (tkN (pb (xa 19)) k 32), nI (tkN (pb (xa 19)) k 32), 0, ?_, ?_, rfl, fin⟩
      · unfold fX9_bits
        rw [e1, has_1 hN hkN, peek_eq (by omega)]
        rfl
      · unfold fX10_bits
        have ht := taken_eq hD (i := k) (m := 32) (by omega) (by omega)
        rw [show nI 32 = (32 : Int32) from rfl] at ht
        rw [ht, e2, show (1 : Int32) = nI 1 from rfl, in_0n (by omega) (by omega), if_pos hkN]
        rfl
    · refine ⟨0, 0, 0, ?_, ?_, rfl, fin⟩
      · unfold fX9_bits
        rw [e1, has_0 hN (Or.inr ⟨k, hk1, rfl, by omega⟩)]; rfl
      · unfold fX10_bits
        rw [e2, show (1 : Int32) = nI 1 from rfl, in_0n (by omega) (by omega), if_neg hkN]
        rfl
