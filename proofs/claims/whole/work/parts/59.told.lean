theorem hid_s (go su : Nat → Int32) (S side i : Nat) : (hearF go su S side (i + 1)).2 = (hearF go su S side i).2 + (if okF su S side i then 0 else 1) := by
  rw [hearF]
  by_cases h : okF su S side i = true
  · rw [if_pos h, if_pos h]; rfl
  · rw [if_neg h, if_neg h]
theorem hid_le (go su : Nat → Int32) (S side : Nat) : ∀ i, (hearF go su S side i).2 ≤ i
  | 0 => Nat.le_refl 0
  | i + 1 => by
    have := hid_le go su S side i
    rw [hid_s]
    split <;> omega
theorem hidden_loop {go su : Nat → Int32} {S : Nat} (hS : S ≤ 488) : ∀ (F i : Nat), i ≤ 6 * S → 6 * S - i < F → fX10_hidden_L4 (nI S) su F (nI i) (nI ((hearF go su S 0 i).2 + (hearF go su S 1 i).2)) = some (nI ((hearF go su S 0 (6 * S)).2 + (hearF go su S 1 (6 * S)).2)) := by
  intro F
  induction F with
  | zero => intro i h1 h2; omega
  | succ F ih =>
    intro i h1 h2
    rw [fX10_hidden_L4.eq_2, show (6 : Int32) * nI S = nI (6 * S) from pk_mul 6 S]
    by_cases hc : 6 * S ≤ i
    · rw [if_pos (by rw [nI_leI (by omega) (by omega)]; exact hc)]
      have : i = 6 * S := by omega
      subst this
      rfl
    · rw [if_neg (by rw [nI_leI (by omega) (by omega)]; exact hc)]
      have e0 := sSure_eq (su := su) (S := S) (side := 0) (k := i) hS (by omega) (by omega)
      have e1 := sSure_eq (su := su) (S := S) (side := 1) (k := i) hS (by omega) (by omega)
      rw [show nI 0 = (0 : Int32) from rfl] at e0
      rw [show nI 1 = (1 : Int32) from rfl] at e1
      rw [e0]
      dsimp only [ob1, jk, nm]
      rw [e1]
      dsimp only [ob1, jk, nm]
      have hih := ih (i + 1) (by omega) (by omega)
      rw [hid_s, hid_s] at hih
      rw [show nI i + (1 : Int32) = nI (i + 1) from nI_1 _]
      generalize (hearF go su S 0 i).2 = a at hih ⊢
      generalize (hearF go su S 1 i).2 = b at hih ⊢
      generalize okF su S 0 i = o0 at hih ⊢
      generalize okF su S 1 i = o1 at hih ⊢
      cases o0 <;> cases o1
      · rw [if_pos (by decide), if_pos (by decide)]
        rw [show nI (a + b) + ((1 : Int32) + (1 : Int32)) = nI (a + 1 + (b + 1)) from by rw [show ((1 : Int32) + (1 : Int32)) = nI 2 from rfl, nI_add]; congr 1; omega]
        exact hih
      · rw [if_pos (by decide), if_neg (by decide)]
        rw [show nI (a + b) + ((1 : Int32) + (0 : Int32)) = nI (a + 1 + (b + 0)) from by rw [show ((1 : Int32) + (0 : Int32)) = nI 1 from rfl, nI_add]; congr 1; omega]
        exact hih
      · rw [if_neg (by decide), if_pos (by decide)]
        rw [show nI (a + b) + ((0 : Int32) + (1 : Int32)) = nI (a + 0 + (b + 1)) from by rw [show ((0 : Int32) + (1 : Int32)) = nI 1 from rfl, nI_add]; congr 1]
        exact hih
      · rw [if_neg (by decide), if_neg (by decide)]
        rw [show nI (a + b) + ((0 : Int32) + (0 : Int32)) = nI (a + 0 + (b + 0)) from by rw [show ((0 : Int32) + (0 : Int32)) = nI 0 from rfl, nI_add]; congr 1]
        exact hih
theorem begS_eq {be : Nat → Int32} {f k : Nat} (hf : f ≤ 640) (hk : k < 640) : fX10_beginsSection (nI f) be (nI k) = some (b01 (secF be f k)) := by
  unfold fX10_beginsSection secF
  rw [show nI k + (1 : Int32) = nI (k + 1) from nI_1 _]
  by_cases h : k + 1 < f
  · rw [if_neg (by rw [nI_leI (by omega) (by omega)]; omega), og_nI (by omega) (by omega), nI_clamp (by omega), decide_eq_true h]
    by_cases h1 : be k = 2049
    · rw [if_pos h1, decide_eq_true h1, og_nI (by omega) (by omega), nI_clamp (by omega)]
      by_cases h2 : be (k + 1) = 18
      · rw [if_pos h2, decide_eq_true h2]; rfl
      · rw [if_neg h2, decide_eq_false h2]; rfl
    · rw [if_neg h1, decide_eq_false h1]; rfl
  · rw [if_pos (by rw [nI_leI (by omega) (by omega)]; omega), decide_eq_false h]; rfl
theorem sections_loop {be : Nat → Int32} {f : Nat} (hf : f ≤ 640) : ∀ (F i : Nat), i ≤ f → f - i < F → fX10_sections_L4 (nI f) be F (nI i) (nI (secN be f i)) = some (nI (secN be f f)) := by
  intro F
  induction F with
  | zero => intro i h1 h2; omega
  | succ F ih =>
    intro i h1 h2
    rw [fX10_sections_L4.eq_2]
    by_cases hc : f ≤ i
    · rw [if_pos (by rw [nI_leI (by omega) (by omega)]; exact hc)]
      have : i = f := by omega
      subst this
      rfl
    · rw [if_neg (by rw [nI_leI (by omega) (by omega)]; exact hc), begS_eq hf (by omega)]
      dsimp only [ob1, jk, nm]
      have hih := ih (i + 1) (by omega) (by omega)
      rw [secN] at hih
      rw [show nI i + (1 : Int32) = nI (i + 1) from nI_1 _]
      cases hb : secF be f i
      · rw [hb] at hih
        rw [if_pos (by decide), show nI (secN be f i) + (0 : Int32) = nI (secN be f i + 0) from nI_add _ 0]
        exact hih
      · rw [hb] at hih
        rw [if_neg (by decide), show nI (secN be f i) + (1 : Int32) = nI (secN be f i + 1) from nI_1 _]
        exact hih
theorem op_told : OP27 Inv := by
  intro n xi xa xl mi ma y0 hn h
  obtain ⟨hC, hS, hE, hB, hD, hP⟩ := id h
  obtain ⟨p1, p2⟩ := id hP
  have fin : Inv (n + 1) xi xa xl (upd mi 0 0) ma := ⟨hC, hS, hE, hB, hD.mono, hP⟩
  rcases p2 with p2 | ⟨p2, f, S, f1, S1, S2, q1, q2, q3, q4, hk, hgs, hsm, t0, t1, t2, t3, t4, t5, t6, t7⟩
  · refine ⟨-1, -1, 0, ?_, ?_, rfl, fin⟩
    · unfold fX9_told fX5_tally
      rw [if_pos p2]; rfl
    · unfold fX10_told
      rw [if_pos (p1 ▸ p2)]
  · have m1 : mi 11 = 1 := p1 ▸ p2
    have tal : ∀ k : Nat, k < 8 → fX9_told (xi 15) (xa 27) (nI k) = some (xa 27 k) := by
      intro k hk
      unfold fX9_told fX5_tally
      rw [p2]
      simp (disch := omega) only [ob1, nl, nI_leI, nI_ltI, nI_eq, if_pos, if_neg, og_nI, nI_clamp]
    by_cases hr : 0 ≤ y0.toInt ∧ y0.toInt < 8
    · obtain ⟨k, hk1, rfl⟩ := i_of hr.1
      have hk8 : k < 8 := by have := nI_ti hk1; omega
      have hh : fX10_hidden (mi 6) (ma 26) = some (nI ((hearF (ma 25) (ma 26) S 0 (6 * S)).2 + (hearF (ma 25) (ma 26) S 1 (6 * S)).2)) := by
        unfold fX10_hidden
        rw [q4]
        exact hidden_loop (go := ma 25) S2 FU 0 (by omega) (by rw [FU_eq]; omega)
      have hs : fX10_sections (mi 12) (ma 24) = some (nI (secN (ma 24) f f)) := by
        unfold fX10_sections
        rw [q2]
        exact sections_loop f1 FU 0 (by omega) (by rw [FU_eq]; omega)
      refine ⟨xa 27 k, xa 27 k, 0, tal k hk8, ?_, rfl, fin⟩
      unfold fX10_told
      rw [m1, if_neg ne10]
      rcases (show k = 0 ∨ k = 1 ∨ k = 2 ∨ k = 3 ∨ k = 4 ∨ k = 5 ∨ k = 6 ∨ k = 7 by omega) with rfl | rfl | rfl | rfl | rfl | rfl | rfl | rfl
      · rw [if_pos (by decide), t0]
      · rw [if_neg (by decide), if_pos (by decide), t1]
      · rw [if_neg (by decide), if_neg (by decide), if_pos (by decide), t2]
      · rw [if_neg (by decide), if_neg (by decide), if_neg (by decide), if_pos (by decide), t3]
      · rw [if_neg (by decide), if_neg (by decide), if_neg (by decide), if_neg (by decide), if_pos (by decide), hh, t4]; rfl
      · rw [if_neg (by decide), if_neg (by decide), if_neg (by decide), if_neg (by decide), if_neg (by decide), if_pos (by decide), t5]
      · rw [if_neg (by decide), if_neg (by decide), if_neg (by decide), if_neg (by decide), if_neg (by decide), if_neg (by decide), if_pos (by decide), t6, q2]
      · rw [if_neg (by decide), if_neg (by decide), if_neg (by decide), if_neg (by decide), if_neg (by decide), if_neg (by decide), if_neg (by decide), if_pos (by decide), hs, t7]; rfl
    · refine ⟨-1, -1, 0, ?_, ?_, rfl, fin⟩
      · unfold fX9_told fX5_tally
        rw [p2, if_neg ne10]
        by_cases h1 : y0 < 0
        · rw [if_pos h1]; rfl
        · have h1' : ¬ y0.toInt < 0 := fun q => h1 (ti_lt.mpr q)
          rw [if_neg h1, if_pos (ti_le.mpr (by show 8 ≤ y0.toInt; omega))]; rfl
      · unfold fX10_told
        have hne : ∀ k : Int32, 0 ≤ k.toInt → k.toInt < 8 → ¬ y0 = k := fun k a b q => hr (by rw [q]; exact ⟨a, b⟩)
        rw [m1, if_neg ne10, if_neg (hne 0 (by decide) (by decide)), if_neg (hne 1 (by decide) (by decide)), if_neg (hne 2 (by decide) (by decide)), if_neg (hne 3 (by decide) (by decide)), if_neg (hne 4 (by decide) (by decide)), if_neg (hne 5 (by decide) (by decide)), if_neg (hne 6 (by decide) (by decide)), if_neg (hne 7 (by decide) (by decide))]
