theorem tk_div (B : Nat → Bool) (i n : Nat) : ∀ m, tkN B i (n + m) / 2 ^ m = tkN B i n
  | 0 => by simp
  | m + 1 => by
    rw [show n + (m + 1) = (n + m) + 1 by omega, tkN, Nat.pow_succ, Nat.mul_comm (2 ^ m) 2, ← Nat.div_div_eq_div_mul, show (2 * tkN B i (n + m) + (B (i + (n + m))).toNat) / 2 = tkN B i (n + m) by cases B (i + (n + m)) <;> simp <;> omega]
    exact tk_div B i n m
theorem wasP_1 {N k : Nat} (hN : N ≤ 599) (h : k < N) : fX3_wasPressed (nI N) (nI k) = 1 := by
  unfold fX3_wasPressed
  simp (disch := omega) only [nl, nI_leI, nI_ltI, if_pos, if_neg]
theorem wasP_0 {N : Nat} {y : Int32} (hN : N ≤ 599) (h : y < 0 ∨ ∃ k : Nat, k < 2147483648 ∧ y = nI k ∧ N ≤ k) : fX3_wasPressed (nI N) y = 0 := by
  unfold fX3_wasPressed
  rcases h with h | ⟨k, hk, rfl, h⟩
  · rw [if_pos h]
  · simp (disch := omega) only [nl, nI_leI, nI_ltI, if_pos, if_neg]
theorem wordAt_eq {pk : Nat → Int32} {a k : Nat} (ha : a < 500000) (hk : k ≤ 33) : fX3_wordAt pk (nI a) (nI k) = some (nI (tkN (pb pk) (a + 27 + 17 * k) 14)) := by
  unfold fX3_wordAt
  rw [show ((nI a + (24 : Int32)) + (3 : Int32)) + ((17 : Int32) * nI k) = nI (a + 27 + 17 * k) from by
    rw [show (17 : Int32) * nI k = nI (17 * k) from pk_mul 17 k, show nI a + (24 : Int32) = nI (a + 24) from nI_add a 24, show nI (a + 24) + (3 : Int32) = nI (a + 24 + 3) from nI_add _ 3, nI_add], peek_eq (by omega)]
  dsimp only [ob1]
  have hlt := tk_lt (pb pk) (a + 27 + 17 * k) 32
  rw [pk_ushrN (by omega) 18 18 (by decide), tk_div (pb pk) _ 14 18]
theorem op_word : OP11 Inv := by
  intro n xi xa xl mi ma y0 y1 hn h
  obtain ⟨hC, hS, hE, hB, hD, hP⟩ := id h
  have fin : Inv (n + 1) xi xa xl (upd mi 0 0) ma := ⟨hC, hS, hE, hB, hD.mono, hP⟩
  obtain ⟨N, hN, e1, e2⟩ := ID_pr hD
  rcases i_cases y0 with hy | ⟨k, hk1, rfl⟩
  · refine ⟨-1, -1, 0, ?_, ?_, rfl, fin⟩
    · unfold fX9_word
      rw [e1, wasP_0 hN (Or.inl hy)]; rfl
    · unfold fX10_word
      rw [in_neg hy]; rfl
  · by_cases hkN : k < N
    · have hin : fX10_in (Int32.toInt64 (nI k)) 0 (Int32.toInt64 (mi 5 - (1 : Int32))) = 1 := by
        rw [e2, show (1 : Int32) = nI 1 from rfl, in_0n (by omega) (by omega), if_pos hkN]; rfl
      by_cases hr : 0 ≤ y1.toInt ∧ y1.toInt ≤ 32
      · obtain ⟨j, hj, rfl⟩ := i_of hr.1
        have hj2 := nI_ti hj
        refine ⟨nI (tkN (pb (xa 19)) (588 * k + 27 + 17 * j) 14), nI (tkN (pb (xa 19)) (588 * k + 27 + 17 * j) 14), 0, ?_, ?_, rfl, fin⟩
        · unfold fX9_word
          rw [e1, wasP_1 hN hkN, show (588 : Int32) * nI k = nI (588 * k) from pk_mul 588 k, wordAt_eq (by omega) (by omega)]
          dsimp only [nt1]
          rw [if_neg ne10, if_neg (nI_pos (by omega)), if_pos (show nI j ≤ (32 : Int32) from (nI_leI (b := 32) (by omega) (by omega)).mpr (by omega))]
          rfl
        · unfold fX10_word
          have ht := taken_eq hD (i := 588 * k + 27 + 17 * j) (m := 14) (by omega) (by omega)
          rw [show nI 14 = (14 : Int32) from rfl] at ht
          rw [hin, in_1 (by rw [tl_i]; exact hr), show (((588 : Int32) * nI k) + (27 : Int32)) + ((17 : Int32) * nI j) = nI (588 * k + 27 + 17 * j) from by
            rw [show (17 : Int32) * nI j = nI (17 * j) from pk_mul 17 j, show (588 : Int32) * nI k = nI (588 * k) from pk_mul 588 k, show nI (588 * k) + (27 : Int32) = nI (588 * k + 27) from nI_add _ 27, nI_add], ht]
          rfl
      · refine ⟨-1, -1, 0, ?_, ?_, rfl, fin⟩
        · unfold fX9_word
          rw [e1, wasP_1 hN hkN]
          dsimp only [nt1]
          rw [if_neg ne10]
          by_cases h1 : y1 < 0
          · rw [if_pos h1]
          · have h1' : ¬ y1.toInt < 0 := fun q => h1 (ti_lt.mpr q)
            rw [if_neg h1, if_neg (fun q => hr ⟨by omega, ti_le.mp q⟩)]
        · unfold fX10_word
          rw [hin, in_0 (by rw [tl_i]; exact hr)]
          rfl
    · refine ⟨-1, -1, 0, ?_, ?_, rfl, fin⟩
      · unfold fX9_word
        rw [e1, wasP_0 hN (Or.inr ⟨k, hk1, rfl, by omega⟩)]; rfl
      · unfold fX10_word
        rw [e2, show (1 : Int32) = nI 1 from rfl, in_0n (by omega) (by omega), if_neg hkN]
        rfl
theorem op_joint : OP12 Inv := by
  intro n xi xa xl mi ma y0 y1 hn h
  obtain ⟨hC, hS, hE, hB, hD, hP⟩ := id h
  have fin : Inv (n + 1) xi xa xl (upd mi 0 0) ma := ⟨hC, hS, hE, hB, hD.mono, hP⟩
  obtain ⟨N, hN, e1, e2⟩ := ID_pr hD
  rcases i_cases y0 with hy | ⟨k, hk1, rfl⟩
  · refine ⟨-1, -1, 0, ?_, ?_, rfl, fin⟩
    · unfold fX9_joint
      rw [e1, wasP_0 hN (Or.inl hy)]; rfl
    · unfold fX10_joint
      rw [in_neg hy]; rfl
  · by_cases hkN : k < N
    · have hin : fX10_in (Int32.toInt64 (nI k)) 0 (Int32.toInt64 (mi 5 - (1 : Int32))) = 1 := by
        rw [e2, show (1 : Int32) = nI 1 from rfl, in_0n (by omega) (by omega), if_pos hkN]; rfl
      by_cases hr : 0 ≤ y1.toInt ∧ y1.toInt ≤ 33
      · obtain ⟨j, hj, rfl⟩ := i_of hr.1
        have hj2 := nI_ti hj
        have ea : (((588 : Int32) * nI k) + (24 : Int32)) + ((17 : Int32) * nI j) = nI (588 * k + 24 + 17 * j) := by
          rw [show (17 : Int32) * nI j = nI (17 * j) from pk_mul 17 j, show (588 : Int32) * nI k = nI (588 * k) from pk_mul 588 k, show nI (588 * k) + (24 : Int32) = nI (588 * k + 24) from nI_add _ 24, nI_add]
        refine ⟨nI (tkN (pb (xa 19)) (588 * k + 24 + 17 * j) 3), nI (tkN (pb (xa 19)) (588 * k + 24 + 17 * j) 3), 0, ?_, ?_, rfl, fin⟩
        · unfold fX9_joint
          have hlt := tk_lt (pb (xa 19)) (588 * k + 24 + 17 * j) 32
          rw [e1, wasP_1 hN hkN, ea, peek_eq (by omega)]
          dsimp only [nt1, ob1]
          rw [if_neg ne10, if_neg (nI_pos (by omega)), if_pos (show nI j ≤ (33 : Int32) from (nI_leI (b := 33) (by omega) (by omega)).mpr (by omega)), pk_ushrN (by omega) 29 29 (by decide), tk_div (pb (xa 19)) _ 3 29]
        · unfold fX10_joint
          have ht := taken_eq hD (i := 588 * k + 24 + 17 * j) (m := 3) (by omega) (by omega)
          rw [show nI 3 = (3 : Int32) from rfl] at ht
          rw [hin, in_1 (by rw [tl_i]; exact hr), ea, ht]
          rfl
      · refine ⟨-1, -1, 0, ?_, ?_, rfl, fin⟩
        · unfold fX9_joint
          rw [e1, wasP_1 hN hkN]
          dsimp only [nt1]
          rw [if_neg ne10]
          by_cases h1 : y1 < 0
          · rw [if_pos h1]
          · have h1' : ¬ y1.toInt < 0 := fun q => h1 (ti_lt.mpr q)
            rw [if_neg h1, if_neg (fun q => hr ⟨by omega, ti_le.mp q⟩)]
        · unfold fX10_joint
          rw [hin, in_0 (by rw [tl_i]; exact hr)]
          rfl
    · refine ⟨-1, -1, 0, ?_, ?_, rfl, fin⟩
      · unfold fX9_joint
        rw [e1, wasP_0 hN (Or.inr ⟨k, hk1, rfl, by omega⟩)]; rfl
      · unfold fX10_joint
        rw [e2, show (1 : Int32) = nI 1 from rfl, in_0n (by omega) (by omega), if_neg hkN]
        rfl
