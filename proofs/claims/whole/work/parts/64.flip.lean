theorem b_one : ∀ j, j < 32 → bt 1 j = decide (j = 0) := by decide +kernel
theorem bt_flip (x : Int32) (k : Nat) (hk : k < 32) (j : Nat) (hj : j < 32) : bt (x ^^^ ((1 : Int32) <<< (nI k &&& 31))) j = (bt x j ^^ decide (j = k)) := by
  rw [b_xor, b_shl k hk 1 hj]
  congr 1
  by_cases h : k ≤ j
  · rw [b_one (j - k) (by omega), decide_eq_true h, Bool.true_and]
    by_cases h2 : j = k
    · subst h2; simp
    · simp [h2]; omega
  · simp [h]; omega
/-- bit i turned -/
def flipK (pk : Nat → Int32) (i : Nat) : Nat → Int32 := upd pk (i / 32) (pk (i / 32) ^^^ ((1 : Int32) <<< (nI (31 - i % 32) &&& 31)))
theorem flipK_bit (pk : Nat → Int32) (i j : Nat) : pbit (flipK pk i) j = (pbit pk j ^^ decide (j = i)) := by
  unfold pbit flipK
  by_cases h : j / 32 = i / 32
  · rw [h, pk_us, bt_flip _ _ (by omega) _ (by omega)]
    congr 1
    by_cases h2 : j = i
    · subst h2; simp
    · rw [decide_eq_false h2, decide_eq_false (by omega)]
  · rw [pk_un h, decide_eq_false (by omega)]; simp
theorem turn_eq {pk : Nat → Int32} {N i : Nat} (hN : N ≤ 360000) (h : i < N) : fX3_turn (nI N) pk (nI i) = some (flipK pk i) := by
  unfold fX3_turn
  rw [has_1 hN h, shr5 (by omega), and31 (by omega)]
  dsimp only [nt1, nm]
  rw [if_neg ne10, if_neg (show ¬ (11250 : Int32) ≤ nI (i / 32) from fun q => by have := (nI_leI (a := 11250) (by omega) (by omega)).mp q; omega), og_nI (by omega) (by omega), og_nI (by omega) (by omega), nI_clamp (by omega), show (31 : Int32) - nI (i % 32) = nI (31 - i % 32) from pk_sub (a := 31) (by omega)]
  rfl
theorem one_sub (b : Bool) : vp_nar .byte (Int8.toInt32 (Int32.toInt8 ((1 : Int32) - b01 b))) = b01 (!b) := by cases b <;> rfl
theorem ID_flip {n : Nat} {N i : Nat} {pr len mpr msf : Int32} {pk bi : Nat → Int32} (hD : ID n (nI N) pr pk len mpr msf bi) (hN : N ≤ 360000) (h : i < N) : ID n (nI N) pr (flipK pk i) len mpr msf (upd bi i (b01 (!pbit pk i))) := by
  obtain ⟨d1, d2, d3, d4, d5⟩ := hD
  have e := nI_ti (n := N) (by omega)
  refine ⟨d1, d2, d3, fun j hj => ?_, fun j hj hj2 => ?_⟩
  · rw [flipK_bit]
    by_cases h2 : j = i
    · subst h2; rw [pk_us]; simp
    · rw [pk_un h2, d4 j hj, decide_eq_false h2]; simp
  · rw [flipK_bit, d5 j hj hj2, decide_eq_false (by omega)]; rfl
theorem op_flip : OP17 Inv := by
  intro n xi xa xl mi ma y0 hn h
  obtain ⟨hC, hS, hE, hB, hD, hP⟩ := id h
  obtain ⟨N, hN, e1, e2⟩ := ID_sz hD
  rcases i_cases y0 with hy | ⟨k, hk1, rfl⟩
  · refine ⟨0, xa 19, 0, 0, ma 9, ?_, ?_, rfl, hC, hS, hE, hB, hD.mono, hP⟩
    · unfold fX9_flip
      rw [e1, has_0 hN (Or.inl hy)]; rfl
    · unfold fX10_flip
      rw [in_neg hy]; rfl
  · by_cases hkN : k < N
    · have hb := hD.2.2.2.1 k (by rw [e1, nI_ti (by omega)]; omega)
      refine ⟨1, flipK (xa 19) k, 1, 0, upd (ma 9) k (b01 (!pbit (xa 19) k)), ?_, ?_, rfl, hC, hS, hE, hB, ?_, hP⟩
      · unfold fX9_flip
        rw [e1, has_1 hN hkN, turn_eq hN hkN]
        rfl
      · unfold fX10_flip
        rw [e2, show (1 : Int32) = nI 1 from rfl, in_0n (by omega) (by omega), if_pos hkN]
        dsimp only [nt1]
        rw [if_neg ne10, og_nI (by omega) (by omega), og_nI (by omega) (by omega), nI_clamp (by omega), hb, show nI 1 = (1 : Int32) from rfl, one_sub]
        rfl
      · show ID (n + 1) (xi 10) (xi 11) (flipK (xa 19) k) (mi 4) (mi 5) (mi 6) (upd (ma 9) k (b01 (!pbit (xa 19) k)))
        rw [e1]
        rw [e1] at hD
        exact (ID_flip hD hN hkN).mono
    · refine ⟨0, xa 19, 0, 0, ma 9, ?_, ?_, rfl, hC, hS, hE, hB, hD.mono, hP⟩
      · unfold fX9_flip
        rw [e1, has_0 hN (Or.inr ⟨k, hk1, rfl, by omega⟩)]; rfl
      · unfold fX10_flip
        rw [e2, show (1 : Int32) = nI 1 from rfl, in_0n (by omega) (by omega), if_neg hkN]
        rfl
