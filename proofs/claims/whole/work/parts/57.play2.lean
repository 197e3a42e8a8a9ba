theorem lagOf_eq : ∀ o, o < 24 → fX7_lagOf (nI o) = nI (rwOf o) := by decide +kernel
theorem placeOf_eq : ∀ o, o < 24 → fX7_placeOf (nI o) = nI (plOf o) := by decide +kernel
theorem plOf_lt : ∀ o, o < 24 → plOf o < 28 := by decide +kernel
theorem rwOf_le (o : Nat) : rwOf o ≤ 2 := by unfold rwOf; split <;> omega
theorem rowOf_eq {i : Nat} (h : i < 2147483648) (h2 : i < 100000) : fX5_rowOf (nI i) = nI (i / 24 + rwOf (i % 24)) := by
  unfold fX5_rowOf
  have e := pk_rem (a := i) (d := 24) h (by omega) (by omega)
  have e2 := pk_div (a := i) (d := 24) h (by omega) (by omega)
  rw [show nI i - nI i / (24 : Int32) * (24 : Int32) = nI (i % 24) from e, show nI i / (24 : Int32) = nI (i / 24) from e2, lagOf_eq _ (by omega)]
  exact nI_add _ _
theorem get_eq {cells : Nat → Int32} {r p : Nat} (hr : r < 640) (hp : p < 32) : fX7_get cells (nI r) (nI p) = some (cells (r * 32 + p) &&& 255) := by
  unfold fX7_get fX7_isCell
  simp (disch := omega) only [nt1, nl, nI_leI, nI_ltI, nI_eq, pk_mul, nI_add, if_pos, if_neg, if_true, if_false, og_nI, nI_clamp]
theorem byteOf_eq {f i : Nat} {cells : Nat → Int32} (hf : f ≤ 640) (hi : i < 11736) : fX5_byteOf (nI f) cells (nI i) = some (if i / 24 + rwOf (i % 24) < f then cells ((i / 24 + rwOf (i % 24)) * 32 + plOf (i % 24)) &&& 255 else 0) := by
  unfold fX5_byteOf
  have h1 := rwOf_le (i % 24)
  have h2 := plOf_lt (i % 24) (by omega)
  have e := pk_rem (a := i) (d := 24) (by omega) (by omega) (by omega)
  rw [rowOf_eq (by omega) (by omega), show nI i - nI i / (24 : Int32) * (24 : Int32) = nI (i % 24) from e, placeOf_eq _ (by omega)]
  dsimp only [nt1]
  by_cases h : i / 24 + rwOf (i % 24) < f
  · rw [if_neg (by rw [nI_leI (by omega) (by omega)]; omega), if_pos h, get_eq (by omega) (by omega)]
    rfl
  · rw [if_pos (by rw [nI_leI (by omega) (by omega)]; omega), if_neg h]
theorem isMarked_eq {mk : Nat → Int32} {r p : Nat} (hr : r < 640) (hp : p < 32) : fX7_isMarked mk (nI r) (nI p) = some (b01 (bt (mk r) p)) := by
  have h1 : fX7_marksOf mk (nI r) = some (mk r) := by
    unfold fX7_marksOf
    simp (disch := omega) only [nl, nI_leI, nI_ltI, if_pos, if_neg, og_nI, nI_clamp]
  unfold fX7_isMarked
  rw [h1]
  dsimp only [ob1]
  rw [bt_tst _ p hp]
  cases bt (mk r) p <;> rfl
theorem sureOf_eq {f i : Nat} {mk : Nat → Int32} (hf : f ≤ 640) (hi : i < 11736) : fX5_sureOf (nI f) mk (nI i) = some (b01 (decide (i / 24 + rwOf (i % 24) < f) && !bt (mk (i / 24 + rwOf (i % 24))) (plOf (i % 24)))) := by
  unfold fX5_sureOf
  have h1 := rwOf_le (i % 24)
  have h2 := plOf_lt (i % 24) (by omega)
  have e := pk_rem (a := i) (d := 24) (by omega) (by omega) (by omega)
  rw [rowOf_eq (by omega) (by omega), show nI i - nI i / (24 : Int32) * (24 : Int32) = nI (i % 24) from e, placeOf_eq _ (by omega)]
  dsimp only [nt1]
  by_cases h : i / 24 + rwOf (i % 24) < f
  · rw [if_neg (by rw [nI_leI (by omega) (by omega)]; omega), isMarked_eq (by omega) (by omega)]
    dsimp only [ob1]
    rw [decide_eq_true h]
    cases bt (mk (i / 24 + rwOf (i % 24))) (plOf (i % 24)) <;> rfl
  · rw [if_pos (by rw [nI_leI (by omega) (by omega)]; omega), decide_eq_false h]
    rfl
theorem op_played : OP22 Inv := by
  intro n xi xa xl mi ma y0 hn h
  obtain ⟨hC, hS, hE, hB, hD, hP⟩ := id h
  obtain ⟨p1, p2⟩ := id hP
  have fin : Inv (n + 1) xi xa xl (upd mi 0 0) ma := ⟨hC, hS, hE, hB, hD.mono, hP⟩
  rcases p2 with p2 | ⟨p2, f, S, f1, S1, S2, q1, q2, q3, q4, hk, hgs, -⟩
  · refine ⟨-1, -1, 0, ?_, ?_, rfl, fin⟩
    · unfold fX9_played fX5_hasByte
      rw [if_pos p2]; rfl
    · unfold fX10_played fX10_isThere
      rw [if_pos (p1 ▸ p2)]; rfl
  · have m1 : mi 11 = 1 := p1 ▸ p2
    rcases i_cases y0 with hy | ⟨k, hk1, rfl⟩
    · refine ⟨-1, -1, 0, ?_, ?_, rfl, fin⟩
      · unfold fX9_played fX5_hasByte
        rw [p2, if_neg ne10, if_pos hy]; rfl
      · unfold fX10_played fX10_isThere
        rw [m1, if_neg ne10, in_neg hy]; rfl
    · by_cases hkf : k < 24 * S
      · refine ⟨ma 25 k, ma 25 k, 0, ?_, ?_, rfl, fin⟩
        · unfold fX9_played fX5_hasByte
          rw [p2, q1, q3, byteOf_eq f1 (by omega), ← (hgs k hkf).1]
          simp (disch := omega) only [nt1, ob1, nl, nI_leI, nI_ltI, nI_eq, pk_mul, if_pos, if_neg, if_true, if_false]
        · unfold fX10_played fX10_isThere
          rw [m1, q4]
          simp (disch := omega) only [nt1, nl, in_0n, nI_eq, pk_mul, if_pos, if_neg, if_true, if_false, og_nI, nI_clamp]
      · refine ⟨-1, -1, 0, ?_, ?_, rfl, fin⟩
        · unfold fX9_played fX5_hasByte
          rw [p2, q3]
          simp (disch := omega) only [nt1, nl, nI_leI, nI_ltI, nI_eq, pk_mul, if_pos, if_neg, if_true, if_false]
        · unfold fX10_played fX10_isThere
          rw [m1, q4]
          simp (disch := omega) only [nt1, nl, in_0n, nI_eq, pk_mul, if_pos, if_neg, if_true, if_false]
theorem op_isSure : OP23 Inv := by
  intro n xi xa xl mi ma y0 hn h
  obtain ⟨hC, hS, hE, hB, hD, hP⟩ := id h
  obtain ⟨p1, p2⟩ := id hP
  have fin : Inv (n + 1) xi xa xl (upd mi 0 0) ma := ⟨hC, hS, hE, hB, hD.mono, hP⟩
  rcases p2 with p2 | ⟨p2, f, S, f1, S1, S2, q1, q2, q3, q4, hk, hgs, -⟩
  · refine ⟨0, 0, 0, ?_, ?_, rfl, fin⟩
    · unfold fX9_isSure fX5_hasByte
      rw [if_pos p2]; rfl
    · unfold fX10_isSure fX10_isThere
      rw [if_pos (p1 ▸ p2)]; rfl
  · have m1 : mi 11 = 1 := p1 ▸ p2
    rcases i_cases y0 with hy | ⟨k, hk1, rfl⟩
    · refine ⟨0, 0, 0, ?_, ?_, rfl, fin⟩
      · unfold fX9_isSure fX5_hasByte
        rw [p2, if_neg ne10, if_pos hy]; rfl
      · unfold fX10_isSure fX10_isThere
        rw [m1, if_neg ne10, in_neg hy]; rfl
    · by_cases hkf : k < 24 * S
      · refine ⟨ma 26 k, ma 26 k, 0, ?_, ?_, rfl, fin⟩
        · unfold fX9_isSure fX5_hasByte
          rw [p2, q1, q3, sureOf_eq f1 (by omega), ← (hgs k hkf).2]
          have hz : ma 26 k = 0 ∨ ma 26 k = 1 := by
            rw [(hgs k hkf).2]; unfold b01; split
            · exact Or.inr rfl
            · exact Or.inl rfl
          rcases hz with hz | hz <;> rw [hz] <;> simp (disch := omega) only [nt1, ob1, nl, nI_leI, nI_ltI, nI_eq, pk_mul, if_pos, if_neg, if_true, if_false]
        · unfold fX10_isSure fX10_isThere
          rw [m1, q4]
          have hz : ma 26 k = 0 ∨ ma 26 k = 1 := by
            rw [(hgs k hkf).2]; unfold b01; split
            · exact Or.inr rfl
            · exact Or.inl rfl
          rcases hz with hz | hz <;> simp (disch := omega) only [nt1, nl, in_0n, nI_eq, pk_mul, if_pos, if_neg, if_true, if_false, og_nI, nI_clamp, hz]
      · refine ⟨0, 0, 0, ?_, ?_, rfl, fin⟩
        · unfold fX9_isSure fX5_hasByte
          rw [p2, q3]
          simp (disch := omega) only [nt1, nl, nI_leI, nI_ltI, nI_eq, pk_mul, if_pos, if_neg, if_true, if_false]
        · unfold fX10_isSure fX10_isThere
          rw [m1, q4]
          simp (disch := omega) only [nt1, nl, in_0n, nI_eq, pk_mul, if_pos, if_neg, if_true, if_false]
