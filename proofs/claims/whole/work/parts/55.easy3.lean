theorem in_i {x : Int32} {lo hi : Int64} {a b : Int} (ha : lo.toInt = a) (hb : hi.toInt = b) : fX10_in (Int32.toInt64 x) lo hi = if a ≤ x.toInt ∧ x.toInt ≤ b then 1 else 0 := by
  rw [in_eq, tl_i, ha, hb]
theorem op_entry : OP5 Inv := by
  intro n xi xa xl mi ma y0 y1 y2 y3 hn h
  obtain ⟨hC, hS, hE, hB, hD, hP⟩ := h
  obtain ⟨e1, e2, e3, e4, e5, e6, e7, e8, e9, e10, e11⟩ := id hE
  by_cases hg : (0 ≤ y0.toInt ∧ y0.toInt ≤ 9) ∧ (0 ≤ y1.toInt ∧ y1.toInt ≤ 15) ∧ (1 ≤ y2.toInt ∧ y2.toInt ≤ 99) ∧ (0 ≤ y3.toInt ∧ y3.toInt ≤ 99)
  · obtain ⟨g1, g2, g3, g4⟩ := hg
    have k0 : ¬ y0 < 0 := fun q => by have := ti_lt.mp q; change y0.toInt < 0 at this; omega
    have k1 : ¬ (9 : Int32) < y0 := fun q => by have := ti_lt.mp q; change 9 < y0.toInt at this; omega
    have k2 : ¬ y1 < 0 := fun q => by have := ti_lt.mp q; change y1.toInt < 0 at this; omega
    have k3 : ¬ (15 : Int32) < y1 := fun q => by have := ti_lt.mp q; change 15 < y1.toInt at this; omega
    have k4 : ¬ y2 < (1 : Int32) := fun q => by have := ti_lt.mp q; change y2.toInt < 1 at this; omega
    have k5 : ¬ (99 : Int32) < y2 := fun q => by have := ti_lt.mp q; change 99 < y2.toInt at this; omega
    have k6 : ¬ y3 < 0 := fun q => by have := ti_lt.mp q; change y3.toInt < 0 at this; omega
    have k7 : ¬ (99 : Int32) < y3 := fun q => by have := ti_lt.mp q; change 99 < y3.toInt at this; omega
    have x1 : fX10_in (Int32.toInt64 y0) 0 9 = 1 := in_1 (by rw [tl_i]; exact g1)
    have x2 : fX10_in (Int32.toInt64 y1) 0 15 = 1 := in_1 (by rw [tl_i]; exact g2)
    have x3 : fX10_in (Int32.toInt64 y2) 1 99 = 1 := in_1 (by rw [tl_i]; exact g3)
    have x4 : fX10_in (Int32.toInt64 y3) 0 99 = 1 := in_1 (by rw [tl_i]; exact g4)
    obtain ⟨k, hk, ek⟩ := i_of e7
    have hk2 := nI_ti hk
    by_cases hr : k < 20
    · refine ⟨nI (k + 1), nI (k + 1), upd (xa 6) k y1, upd (xa 8) k y3, upd (xa 5) k y0, upd (xa 7) k y2, nI (k + 1), nI (k + 1), 0, upd (ma 6) k y1, upd (ma 8) k y3, upd (ma 5) k y0, upd (ma 7) k y2, ?_, ?_, rfl, hC, hS, ?_, hB, hD.mono, hP⟩
      · unfold fX9_entry fX1_add
        dsimp only [jk]
        rw [if_neg k0, if_neg k1, if_neg k2, if_neg k3, if_neg k4, if_neg k5, if_neg k6, if_neg k7, if_neg ne10, ek]
        rw [if_neg (fun q => by have := ti_lt.mp q; change (nI k).toInt < 0 at this; omega), if_pos (ti_lt.mpr (by show (nI k).toInt < 20; omega))]
        rw [og_ix ⟨by omega, by omega⟩, nI_clamp hk]
        dsimp only [nm]
        rw [og_ix ⟨by omega, by omega⟩, og_ix ⟨by omega, by omega⟩, og_ix ⟨by omega, by omega⟩, nI_1]
        rfl
      · unfold fX10_entry
        dsimp only [nt1]
        rw [x1, if_neg ne10, x2, if_neg ne10, x3, if_neg ne10, x4, if_neg ne10, ← e1, ek, if_neg (fun q => by have := ti_eq.mp q; change (nI k).toInt = 20 at this; omega)]
        rw [og_ix ⟨by omega, by omega⟩, nI_clamp hk]
        dsimp only [nm]
        rw [og_ix ⟨by omega, by omega⟩, og_ix ⟨by omega, by omega⟩, og_ix ⟨by omega, by omega⟩, nI_1]
      · refine ⟨rfl, e2, ?_, ?_, ?_, ?_, ?_, ?_, e9, e10, ?_⟩
        · show upd (xa 5) k y0 = upd (ma 5) k y0; rw [e3]
        · show upd (xa 6) k y1 = upd (ma 6) k y1; rw [e4]
        · show upd (xa 7) k y2 = upd (ma 7) k y2; rw [e5]
        · show upd (xa 8) k y3 = upd (ma 8) k y3; rw [e6]
        · show 0 ≤ (nI (k + 1)).toInt; rw [nI_ti (by omega)]; omega
        · show (nI (k + 1)).toInt ≤ 20; rw [nI_ti (by omega)]; omega
        · intro j hj
          have hj : (j : Int) < (nI (k + 1)).toInt := hj
          rw [nI_ti (by omega)] at hj
          show (0 ≤ (upd (xa 5) k y0 j).toInt ∧ (upd (xa 5) k y0 j).toInt ≤ 9) ∧ (0 ≤ (upd (xa 6) k y1 j).toInt ∧ (upd (xa 6) k y1 j).toInt ≤ 15) ∧ (1 ≤ (upd (xa 7) k y2 j).toInt ∧ (upd (xa 7) k y2 j).toInt ≤ 99) ∧ (0 ≤ (upd (xa 8) k y3 j).toInt ∧ (upd (xa 8) k y3 j).toInt ≤ 99)
          by_cases hjk : j = k
          · subst hjk
            rw [pk_us, pk_us, pk_us, pk_us]
            exact ⟨g1, g2, g3, g4⟩
          · rw [pk_un hjk, pk_un hjk, pk_un hjk, pk_un hjk]
            exact e11 j (by rw [ek, hk2]; omega)
    · have hk20 : k = 20 := by rw [ek] at e8; omega
      refine ⟨-1, xi 2, xa 6, xa 8, xa 5, xa 7, -1, mi 3, 0, ma 6, ma 8, ma 5, ma 7, ?_, ?_, rfl, hC, hS, hE, hB, hD.mono, hP⟩
      · unfold fX9_entry fX1_add
        dsimp only [jk]
        rw [if_neg k0, if_neg k1, if_neg k2, if_neg k3, if_neg k4, if_neg k5, if_neg k6, if_neg k7, if_neg ne10, ek]
        rw [if_neg (fun q => by have := ti_lt.mp q; change (nI k).toInt < 0 at this; omega), if_neg (fun q => by have := ti_lt.mp q; change (nI k).toInt < 20 at this; omega)]
        rfl
      · unfold fX10_entry
        dsimp only [nt1]
        rw [x1, if_neg ne10, x2, if_neg ne10, x3, if_neg ne10, x4, if_neg ne10, ← e1, ek, if_pos (by rw [hk20]; rfl)]
  · refine ⟨-1, xi 2, xa 6, xa 8, xa 5, xa 7, -1, mi 3, 0, ma 6, ma 8, ma 5, ma 7, ?_, ?_, rfl, hC, hS, hE, hB, hD.mono, hP⟩
    · unfold fX9_entry
      dsimp only [jk]
      simp only [ti_lt, ti_le, show (0 : Int32).toInt = 0 from rfl, show (9 : Int32).toInt = 9 from rfl, show (15 : Int32).toInt = 15 from rfl, show (1 : Int32).toInt = 1 from rfl, show (99 : Int32).toInt = 99 from rfl, if_true]
      repeat' split
      all_goals first | rfl | (exfalso; omega)
    · unfold fX10_entry
      dsimp only [nt1]
      rw [in_i (a := 0) (b := 9) rfl rfl, in_i (a := 0) (b := 15) rfl rfl, in_i (a := 1) (b := 99) rfl rfl, in_i (a := 0) (b := 99) rfl rfl]
      by_cases h1 : 0 ≤ y0.toInt ∧ y0.toInt ≤ 9
      · rw [if_pos h1, if_neg ne10]
        by_cases h2 : 0 ≤ y1.toInt ∧ y1.toInt ≤ 15
        · rw [if_pos h2, if_neg ne10]
          by_cases h3 : 1 ≤ y2.toInt ∧ y2.toInt ≤ 99
          · rw [if_pos h3, if_neg ne10]
            rw [if_neg (fun q => hg ⟨h1, h2, h3, q⟩)]
            rfl
          · rw [if_neg h3]; rfl
        · rw [if_neg h2]; rfl
      · rw [if_neg h1]; rfl
