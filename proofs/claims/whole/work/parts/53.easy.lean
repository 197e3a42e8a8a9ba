theorem op_wipe : OP2 Inv := by
  intro n xi xa xl mi ma hn h
  obtain ⟨hC, hS, hE, hB, hD, hP⟩ := h
  obtain ⟨s1, s2, s3, s4, s5⟩ := hS
  refine ⟨xi 0, 0, mi 1, 0, 0, rfl, rfl, s1, hC, ?_, hE, hB, hD.mono, hP⟩
  exact ⟨rfl, s2, by show (0 : Int) ≤ 0; omega, by show (0 : Int) ≤ 11712; omega, s5⟩
theorem op_plain : OP6 Inv := by
  intro n xi xa xl mi ma hn h
  obtain ⟨hC, hS, hE, hB, hD, hP⟩ := h
  obtain ⟨e1, e2, e3, e4, e5, e6, e7, e8, e9, e10, e11⟩ := hE
  refine ⟨xi 2, 0, mi 3, 0, 0, rfl, rfl, e1, hC, hS, ?_, hB, hD.mono, hP⟩
  exact ⟨rfl, e2, e3, e4, e5, e6, by show (0 : Int) ≤ 0; omega, by show (0 : Int) ≤ 20; omega, e9, e10, fun j hj => absurd (show (j : Int) < 0 from hj) (by omega)⟩
theorem op_frames : OP8 Inv := by
  intro n xi xa xl mi ma hn h
  obtain ⟨hC, hS, hE, hB, hD, hP⟩ := h
  exact ⟨xi 11, mi 5, 0, rfl, rfl, hD.2.1, hC, hS, hE, hB, hD.mono, hP⟩
theorem op_length : OP9 Inv := by
  intro n xi xa xl mi ma hn h
  obtain ⟨hC, hS, hE, hB, hD, hP⟩ := h
  exact ⟨xi 10, mi 4, 0, rfl, rfl, hD.1, hC, hS, hE, hB, hD.mono, hP⟩
theorem op_begin : OP4 Inv := by
  intro n xi xa xl mi ma y0 hn h
  obtain ⟨hC, hS, hE, hB, hD, hP⟩ := h
  obtain ⟨e1, e2, e3, e4, e5, e6, e7, e8, e9, e10, e11⟩ := hE
  by_cases hg : 0 ≤ y0.toInt ∧ y0.toInt ≤ 400000
  · refine ⟨1, y0, 1, y0, 0, ?_, ?_, rfl, hC, hS, ?_, hB, hD.mono, hP⟩
    · unfold fX9_begin
      rw [if_neg (fun q => by have := ti_lt.mp q; change y0.toInt < 0 at this; omega), if_pos (ti_le.mpr (by show y0.toInt ≤ 400000; omega))]
      rfl
    · unfold fX10_begin
      rw [in_1 (by rw [tl_i]; exact hg)]
      rfl
    · exact ⟨e1, rfl, e3, e4, e5, e6, e7, e8, hg.1, hg.2, e11⟩
  · refine ⟨0, xi 3, 0, mi 2, 0, ?_, ?_, rfl, hC, hS, ⟨e1, e2, e3, e4, e5, e6, e7, e8, e9, e10, e11⟩, hB, hD.mono, hP⟩
    · unfold fX9_begin
      by_cases h1 : y0 < 0
      · rw [if_pos h1]
      · rw [if_neg h1, if_neg (fun q => hg ⟨by have := fun q => h1 (ti_lt.mpr q); change ¬ y0.toInt < 0 at this; omega, ti_le.mp q⟩)]
    · unfold fX10_begin
      rw [in_0 (by rw [tl_i]; exact hg)]
      rfl
theorem op_at : OP34 Inv := by
  intro n xi xa xl mi ma y0 hn h
  obtain ⟨hC, hS, hE, hB, hD, hP⟩ := h
  by_cases hg : 0 ≤ y0.toInt ∧ y0.toInt < 32
  · refine ⟨xa 28 y0.toNatClampNeg &&& 255, ma 27 y0.toNatClampNeg, 0, ?_, ?_, ?_, hC, hS, hE, hB, hD.mono, hP⟩
    · unfold fX9_at fX9_isBench
      rw [if_neg (fun q => by have := ti_lt.mp q; change y0.toInt < 0 at this; omega), if_neg (fun q => by have := ti_le.mp q; change 32 ≤ y0.toInt at this; omega)]
      dsimp only [nt1]
      rw [if_neg ne10, og_ix ⟨hg.1, by omega⟩]
    · unfold fX10_at
      rw [in_1 (by rw [tl_i]; show 0 ≤ y0.toInt ∧ y0.toInt ≤ 31; omega)]
      dsimp only [nt1]
      rw [if_neg ne10, og_ix ⟨hg.1, by omega⟩]
    · exact (hB y0.toNatClampNeg (by have := cl_ti hg.1; omega)).2.1
  · refine ⟨-1, -1, 0, ?_, ?_, rfl, hC, hS, hE, hB, hD.mono, hP⟩
    · unfold fX9_at fX9_isBench
      by_cases h1 : y0 < 0
      · rw [if_pos h1]; rfl
      · rw [if_neg h1, if_pos (ti_le.mpr (by have := fun q => h1 (ti_lt.mpr q); change ¬ y0.toInt < 0 at this; show 32 ≤ y0.toInt; omega))]; rfl
    · unfold fX10_at
      rw [in_0 (by rw [tl_i]; show ¬ (0 ≤ y0.toInt ∧ y0.toInt ≤ 31); omega)]
      rfl
theorem op_spell : OP30 Inv := by
  intro n xi xa xl mi ma y0 hn h
  obtain ⟨hC, hS, hE, hB, hD, hP⟩ := h
  by_cases hg : 0 ≤ y0.toInt ∧ y0.toInt < 256
  · refine ⟨wordsF y0.toNatClampNeg, ma 0 y0.toNatClampNeg, 0, ?_, ?_, ?_, hC, hS, hE, hB, hD.mono, hP⟩
    · unfold fX9_spell fX8_wordOf
      rw [if_neg (fun q => by have := ti_lt.mp q; change y0.toInt < 0 at this; omega), if_neg (fun q => by have := ti_le.mp q; change 256 ≤ y0.toInt at this; omega), og_ix ⟨hg.1, by omega⟩]
      rfl
    · unfold fX10_spell
      rw [in_1 (by rw [tl_i]; show 0 ≤ y0.toInt ∧ y0.toInt ≤ 255; omega)]
      dsimp only [nt1]
      rw [if_neg ne10, og_ix ⟨hg.1, by omega⟩]
    · exact (hC.2.2.2.2.2.2.1 y0.toNatClampNeg (by have := cl_ti hg.1; omega)).symm
  · refine ⟨-1, -1, 0, ?_, ?_, rfl, hC, hS, hE, hB, hD.mono, hP⟩
    · unfold fX9_spell fX8_wordOf
      by_cases h1 : y0 < 0
      · rw [if_pos h1]; rfl
      · rw [if_neg h1, if_pos (ti_le.mpr (by have := fun q => h1 (ti_lt.mpr q); change ¬ y0.toInt < 0 at this; show 256 ≤ y0.toInt; omega))]; rfl
    · unfold fX10_spell
      rw [in_0 (by rw [tl_i]; show ¬ (0 ≤ y0.toInt ∧ y0.toInt ≤ 255); omega)]
      rfl
theorem op_read : OP31 Inv := by
  intro n xi xa xl mi ma y0 hn h
  obtain ⟨hC, hS, hE, hB, hD, hP⟩ := h
  by_cases hg : 0 ≤ y0.toInt ∧ y0.toInt < 16384
  · obtain ⟨w, hw, rfl⟩ := i_of hg.1
    have hw2 : w < 16384 := by have := nI_ti hw; omega
    refine ⟨rdF w, rdF w, 0, ?_, ?_, rfl, hC, hS, hE, hB, hD.mono, hP⟩
    · unfold fX9_read
      rw [hC.2.2.2.2.2.1 w hw2]
      rfl
    · unfold fX10_read
      rw [in_1 (by rw [tl_i]; show 0 ≤ (nI w).toInt ∧ (nI w).toInt ≤ 16383; omega)]
      dsimp only [nt1]
      rw [if_neg ne10, og_ix ⟨hg.1, by omega⟩, nI_clamp hw, hC.2.2.2.2.2.2.2.1 w hw2]
  · refine ⟨-1, -1, 0, ?_, ?_, rfl, hC, hS, hE, hB, hD.mono, hP⟩
    · unfold fX9_read fX8_byteOf
      by_cases h1 : y0 < 0
      · rw [if_pos h1]; rfl
      · rw [if_neg h1, if_neg (fun q => hg ⟨by have := fun q => h1 (ti_lt.mpr q); change ¬ y0.toInt < 0 at this; omega, ti_lt.mp q⟩)]; rfl
    · unfold fX10_read
      rw [in_0 (by rw [tl_i]; show ¬ (0 ≤ y0.toInt ∧ y0.toInt ≤ 16383); omega)]
      rfl
theorem op_streamAt : OP3 Inv := by
  intro n xi xa xl mi ma y0 hn h
  obtain ⟨hC, hS, hE, hB, hD, hP⟩ := h
  obtain ⟨s1, s2, s3, s4, s5⟩ := id hS
  have e1 : (mi 1 - 1).toInt = (xi 0).toInt - 1 := by rw [← s1]; exact ti_sub (by show _ ≤ _ - (1 : Int); omega) (by show _ - (1 : Int) < _; omega)
  by_cases hg : 0 ≤ y0.toInt ∧ y0.toInt < (xi 0).toInt
  · refine ⟨xa 4 y0.toNatClampNeg &&& 255, ma 4 y0.toNatClampNeg &&& 255, 0, ?_, ?_, by rw [s2], hC, hS, hE, hB, hD.mono, hP⟩
    · unfold fX9_streamAt
      rw [if_neg (fun q => by have := ti_lt.mp q; change y0.toInt < 0 at this; omega), if_neg (fun q => by have := ti_le.mp q; omega), if_neg (fun q => by have := ti_le.mp q; change 11712 ≤ y0.toInt at this; omega), og_ix ⟨hg.1, by omega⟩]
    · unfold fX10_streamAt
      rw [in_1 (by rw [tl_i, tl_i, e1]; show 0 ≤ y0.toInt ∧ _; omega)]
      dsimp only [nt1]
      rw [if_neg ne10, og_ix ⟨hg.1, by omega⟩]
  · refine ⟨-1, -1, 0, ?_, ?_, rfl, hC, hS, hE, hB, hD.mono, hP⟩
    · unfold fX9_streamAt
      by_cases h1 : y0 < 0
      · rw [if_pos h1]
      · rw [if_neg h1, if_pos (ti_le.mpr (by have := fun q => h1 (ti_lt.mpr q); change ¬ y0.toInt < 0 at this; omega))]
    · unfold fX10_streamAt
      rw [in_0 (by rw [tl_i, tl_i, e1]; show ¬ (0 ≤ y0.toInt ∧ _); omega)]
      rfl
theorem addByte_eq {fed : Int32} {st : Nat → Int32} {b : Int32} (h0 : 0 ≤ fed.toInt) (h1 : fed.toInt < 11712) : fX9_addByte fed st b = some (fed + 1, upd st fed.toNatClampNeg (vp_nar .byte b.toInt8.toInt32)) := by
  unfold fX9_addByte
  rw [if_neg (fun q => by have := ti_lt.mp q; change fed.toInt < 0 at this; omega), if_neg (fun q => by have := ti_le.mp q; change 11712 ≤ fed.toInt at this; omega), og_ix ⟨h0, by omega⟩]
  rfl
theorem isB_upd {st : Nat → Int32} {k : Nat} {b : Int32} (h : ∀ j, isB (st j)) : ∀ j, isB (upd st k (vp_nar .byte b) j) := by
  intro j
  unfold upd
  split
  · rw [vnb]
    have a1 := Int8.le_toInt b.toInt8
    have a2 := Int8.toInt_lt b.toInt8
    unfold isB
    rw [Int8.toInt_toInt32]
    constructor
    · simpa using a1
    · have : (2 : Int) ^ 7 = 128 := rfl
      omega
  · exact h j
theorem fill_loop (x1 : Int32) : ∀ (F : Nat) (k z fed : Int32) (st : Nat → Int32), 0 ≤ k.toInt → 0 ≤ fed.toInt → fed.toInt + (x1.toInt - k.toInt) ≤ 11712 → k.toInt ≤ x1.toInt → x1.toInt - k.toInt < F → (∀ j, isB (st j)) →
    ∃ (fed2 : Int32) (st2 : Nat → Int32), fX9_fill_L23 x1 F k z fed st = some (fed2, fed2, st2) ∧ fX10_fill_L31 x1 F k z fed st = some (fed2, fed2, 0, st2) ∧ fed2.toInt = fed.toInt + (x1.toInt - k.toInt) ∧ ∀ j, isB (st2 j) := by
  intro F
  induction F with
  | zero => intro k z fed st h1 h2 h3 h4 h5; omega
  | succ F ih =>
    intro k z fed st h1 h2 h3 h4 h5 h6
    rw [fX9_fill_L23.eq_2, fX10_fill_L31.eq_2]
    by_cases hc : x1 ≤ k
    · rw [if_pos hc, if_pos hc]
      have := ti_le.mp hc
      exact ⟨fed, st, rfl, rfl, by omega, h6⟩
    · rw [if_neg hc, if_neg hc]
      have hc2 : k.toInt < x1.toInt := by
        have : ¬ x1.toInt ≤ k.toInt := fun q => hc (ti_le.mpr q)
        omega
      have hx := ti_hi x1
      have ek : (k + 1).toInt = k.toInt + 1 := ti_add (by show _ ≤ _ + (1 : Int); omega) (by show _ + (1 : Int) < _; omega)
      have ef : (fed + 1).toInt = fed.toInt + 1 := ti_add (by show _ ≤ _ + (1 : Int); omega) (by show _ + (1 : Int) < _; omega)
      dsimp only [nt1, nm, fX9_nextNoise]
      rw [addByte_eq h2 (by omega), og_ix ⟨h2, by omega⟩]
      dsimp only [ob2]
      obtain ⟨f2, s2, a1, a2, a3, a4⟩ := ih (k + 1) (z * 1664525 + 1013904223) (fed + 1) (upd st fed.toNatClampNeg (vp_nar .byte (((z * 1664525 + 1013904223).toUInt32 >>> (Int32.toUInt32 24 &&& Int32.toUInt32 31)).toInt32.toInt8.toInt32))) (by omega) (by omega) (by omega) (by omega) (by omega) (isB_upd h6)
      exact ⟨f2, s2, a1, a2, by omega, a4⟩
theorem FU_eq : FU = 1000000 := rfl
theorem op_fill : OP1 Inv := by
  intro n xi xa xl mi ma y0 y1 hn h
  obtain ⟨hC, hS, hE, hB, hD, hP⟩ := h
  obtain ⟨s1, s2, s3, s4, s5⟩ := id hS
  have e1 : ((11712 : Int32) - xi 0).toInt = 11712 - (xi 0).toInt := ti_sub (by show _ ≤ (11712 : Int) - _; omega) (by show (11712 : Int) - _ < _; omega)
  have e2 : (Int32.toInt64 (mi 1) + Int32.toInt64 y0).toInt = (xi 0).toInt + y0.toInt := by
    rw [← s1, tl_add, tl_i, tl_i]
    · rw [tl_i, tl_i]; have := ti_lo y0; omega
    · rw [tl_i, tl_i]; have := ti_hi y0; omega
  by_cases hg : 0 ≤ y0.toInt ∧ y0.toInt ≤ 11712 - (xi 0).toInt
  · obtain ⟨f2, st2, a1, a2, a3, a4⟩ := fill_loop y0 FU 0 y1 (xi 0) (xa 4) (by show (0 : Int) ≤ 0; omega) s3 (by show _ + (y0.toInt - 0) ≤ _; omega) (by show (0 : Int) ≤ _; omega) (by show y0.toInt - 0 < _; rw [FU_eq]; omega) s5
    refine ⟨f2, f2, st2, f2, f2, 0, st2, ?_, ?_, rfl, hC, ?_, hE, hB, hD.mono, hP⟩
    · unfold fX9_fill
      rw [if_neg (fun q => by have := ti_lt.mp q; change y0.toInt < 0 at this; omega), if_pos (ti_le.mpr (by rw [e1]; omega)), a1]
    · unfold fX10_fill
      rw [if_neg (fun q => by have := ti_lt.mp q; change y0.toInt < 0 at this; omega), if_pos ((lg_le0 _ _).mpr (by rw [e2]; show _ ≤ (11712 : Int); omega)), ← s1, ← s2, a2]
    · exact ⟨rfl, rfl, by change f2.toInt = (xi 0).toInt + (y0.toInt - 0) at a3; show 0 ≤ f2.toInt; omega, by change f2.toInt = (xi 0).toInt + (y0.toInt - 0) at a3; show f2.toInt ≤ 11712; omega, a4⟩
  · refine ⟨-1, xi 0, xa 4, -1, mi 1, 0, ma 4, ?_, ?_, rfl, hC, hS, hE, hB, hD.mono, hP⟩
    · unfold fX9_fill
      by_cases h1 : y0 < 0
      · rw [if_pos h1]
      · rw [if_neg h1, if_neg (fun q => hg ⟨by have := fun q => h1 (ti_lt.mpr q); change ¬ y0.toInt < 0 at this; omega, by have := ti_le.mp q; rw [e1] at this; exact this⟩)]
    · unfold fX10_fill
      by_cases h1 : y0 < 0
      · rw [if_pos h1]
      · rw [if_neg h1, if_neg (fun q => hg ⟨by have := fun q => h1 (ti_lt.mpr q); change ¬ y0.toInt < 0 at this; omega, by have := (lg_le0 _ _).mp q; rw [e2] at this; change _ ≤ (11712 : Int) at this; omega⟩)]
