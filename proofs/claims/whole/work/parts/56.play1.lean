theorem nl (n : Nat) : (no_index (OfNat.ofNat n) : Int32) = nI n := rfl
theorem i_cases (x : Int32) : x < 0 ∨ ∃ k : Nat, k < 2147483648 ∧ x = nI k := by
  by_cases h : x < 0
  · exact Or.inl h
  · refine Or.inr (i_of ?_)
    have : ¬ x.toInt < 0 := fun q => h (ti_lt.mpr q)
    omega
theorem og_nI {β : Type} {i n : Nat} {k : Option β} (h : i < n) (hn : n < 2147483648) : og (ixb (nI i) n) k = k := og_ix (by rw [nI_ti (by omega)]; omega)
theorem in_nI {a b c : Nat} {lo : Int64} (ha : a < 2147483648) (hb : b < 2147483648) (hc : c < 2147483648) (hl : lo = lN b) : fX10_in (Int32.toInt64 (nI a)) lo (Int32.toInt64 (nI c)) = if b ≤ a ∧ a ≤ c then 1 else 0 := by
  subst hl
  rw [in_eq, tl_i, tl_i, nI_ti ha, nI_ti hc, lN_toInt hb]
  by_cases h : b ≤ a ∧ a ≤ c
  · rw [if_pos (by omega), if_pos h]
  · rw [if_neg (by omega), if_neg h]
theorem in_0n {a c : Nat} (ha : a < 2147483648) (hc : c < 2147483648) : fX10_in (Int32.toInt64 (nI a)) 0 (Int32.toInt64 (nI c - nI 1)) = if a < c then 1 else 0 := by
  have e : (nI c - nI 1).toInt = (c : Int) - 1 := by
    rw [ti_sub]
    · rw [nI_ti hc]; rfl
    · rw [nI_ti hc]; show _ ≤ (c : Int) - 1; omega
    · rw [nI_ti hc]; show (c : Int) - 1 < _; omega
  rw [in_eq, tl_i, tl_i, nI_ti ha, e]
  by_cases h : a < c
  · rw [if_pos (by show (0 : Int) ≤ _ ∧ _; omega), if_pos h]
  · rw [if_neg (by show ¬ ((0 : Int) ≤ _ ∧ _); omega), if_neg h]
theorem in_neg {x : Int32} {c : Int64} (h : x < 0) : fX10_in (Int32.toInt64 x) 0 c = 0 := in_0 (by rw [tl_i]; have := ti_lt.mp h; change x.toInt < 0 at this; show ¬ ((0 : Int) ≤ _ ∧ _); omega)
theorem op_inner : OP25 Inv := by
  intro n xi xa xl mi ma y0 hn h
  obtain ⟨hC, hS, hE, hB, hD, hP⟩ := id h
  obtain ⟨p1, p2⟩ := id hP
  have fin : Inv (n + 1) xi xa xl (upd mi 0 0) ma := ⟨hC, hS, hE, hB, hD.mono, hP⟩
  rcases p2 with p2 | ⟨p2, f, S, f1, S1, S2, q1, q2, q3, q4, hk, -⟩
  · refine ⟨-1, -1, 0, ?_, ?_, rfl, fin⟩
    · unfold fX9_inner fX5_innerFate fX5_wasFound
      rw [if_pos p2]; rfl
    · unfold fX10_inner
      rw [if_pos (p1 ▸ p2)]
  · have m1 : mi 11 = 1 := p1 ▸ p2
    rcases i_cases y0 with hy | ⟨k, hk1, rfl⟩
    · refine ⟨-1, -1, 0, ?_, ?_, rfl, fin⟩
      · unfold fX9_inner fX5_innerFate fX5_wasFound
        rw [p2, if_neg ne10, if_pos hy]; rfl
      · unfold fX10_inner
        rw [m1, if_neg ne10, in_neg hy]; rfl
    · by_cases hkf : k < f
      · refine ⟨xa 24 k, ma 19 k, 0, ?_, ?_, (hk k hkf).2.2.2.1, fin⟩
        · unfold fX9_inner fX5_innerFate fX5_wasFound
          rw [p2, q1]
          simp (disch := omega) only [nt1, ob1, nl, nI_leI, nI_ltI, nI_eq, if_pos, if_neg, if_true, if_false, og_nI, nI_clamp]
        · unfold fX10_inner
          rw [m1, q2]
          simp (disch := omega) only [nt1, nl, in_0n, nI_eq, if_pos, if_neg, if_true, if_false, og_nI, nI_clamp]
      · refine ⟨-1, -1, 0, ?_, ?_, rfl, fin⟩
        · unfold fX9_inner fX5_innerFate fX5_wasFound
          rw [p2, q1]
          simp (disch := omega) only [nt1, ob1, nl, nI_leI, nI_ltI, nI_eq, if_pos, if_neg, if_true, if_false]
        · unfold fX10_inner
          rw [m1, q2]
          simp (disch := omega) only [nt1, nl, in_0n, nI_eq, if_pos, if_neg, if_true, if_false]
theorem op_outer : OP26 Inv := by
  intro n xi xa xl mi ma y0 hn h
  obtain ⟨hC, hS, hE, hB, hD, hP⟩ := id h
  obtain ⟨p1, p2⟩ := id hP
  have fin : Inv (n + 1) xi xa xl (upd mi 0 0) ma := ⟨hC, hS, hE, hB, hD.mono, hP⟩
  rcases p2 with p2 | ⟨p2, f, S, f1, S1, S2, q1, q2, q3, q4, hk, -⟩
  · refine ⟨-1, -1, 0, ?_, ?_, rfl, fin⟩
    · unfold fX9_outer fX5_outerFate fX5_wasFound
      rw [if_pos p2]; rfl
    · unfold fX10_outer
      rw [if_pos (p1 ▸ p2)]
  · have m1 : mi 11 = 1 := p1 ▸ p2
    rcases i_cases y0 with hy | ⟨k, hk1, rfl⟩
    · refine ⟨-1, -1, 0, ?_, ?_, rfl, fin⟩
      · unfold fX9_outer fX5_outerFate fX5_wasFound
        rw [p2, if_neg ne10, if_pos hy]; rfl
      · unfold fX10_outer
        rw [m1, if_neg ne10, in_neg hy]; rfl
    · by_cases hkf : k < f
      · refine ⟨xa 25 k, ma 22 k, 0, ?_, ?_, (hk k hkf).2.2.2.2, fin⟩
        · unfold fX9_outer fX5_outerFate fX5_wasFound
          rw [p2, q1]
          simp (disch := omega) only [nt1, ob1, nl, nI_leI, nI_ltI, nI_eq, if_pos, if_neg, if_true, if_false, og_nI, nI_clamp]
        · unfold fX10_outer
          rw [m1, q2]
          simp (disch := omega) only [nt1, nl, in_0n, nI_eq, if_pos, if_neg, if_true, if_false, og_nI, nI_clamp]
      · refine ⟨-1, -1, 0, ?_, ?_, rfl, fin⟩
        · unfold fX9_outer fX5_outerFate fX5_wasFound
          rw [p2, q1]
          simp (disch := omega) only [nt1, ob1, nl, nI_leI, nI_ltI, nI_eq, if_pos, if_neg, if_true, if_false]
        · unfold fX10_outer
          rw [m1, q2]
          simp (disch := omega) only [nt1, nl, in_0n, nI_eq, if_pos, if_neg, if_true, if_false]
