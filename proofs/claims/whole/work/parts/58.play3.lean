theorem sampleAt_eq {k side : Nat} (hk : k < 100000) (hs : side < 2) : fX10_sampleAt (nI k) (nI side) = nI (4 * k + 2 * side) := by
  unfold fX10_sampleAt
  rcases (show side = 0 ∨ side = 1 by omega) with rfl | rfl
  · rw [if_pos (show nI 0 = 0 from rfl)]
    show nI 4 * nI k + nI 0 = _
    rw [pk_mul, nI_add]
  · rw [if_neg (by decide)]
    show nI 4 * nI k + nI 2 = _
    rw [pk_mul, nI_add]
theorem sSure_eq {su : Nat → Int32} {S side k : Nat} (hS : S ≤ 488) (hk : k < 100000) (hs : side < 2) : fX10_isSampleSure (nI S) su (nI k) (nI side) = some (b01 (okF su S side k)) := by
  unfold fX10_isSampleSure
  rw [sampleAt_eq hk hs]
  dsimp only [nt1]
  rw [show (6 : Int32) * nI S = nI (6 * S) from pk_mul 6 S]
  unfold okF
  by_cases h : k < 6 * S
  · rw [if_neg (by rw [nI_leI (by omega) (by omega)]; omega), og_nI (by omega) (by omega), nI_clamp (by omega), decide_eq_true h]
    by_cases h1 : su (4 * k + 2 * side) = 0
    · rw [if_pos h1, decide_eq_true h1]; rfl
    · rw [if_neg h1, decide_eq_false h1, show nI (4 * k + 2 * side) + (1 : Int32) = nI (4 * k + 2 * side + 1) from nI_1 _, og_nI (by omega) (by omega), nI_clamp (by omega)]
      by_cases h2 : su (4 * k + 2 * side + 1) = 0
      · rw [if_pos h2, decide_eq_true h2]; rfl
      · rw [if_neg h2, decide_eq_false h2]; rfl
  · rw [if_pos (by rw [nI_leI (by omega) (by omega)]; omega), decide_eq_false h]; rfl
theorem smp_eq {go : Nat → Int32} {side k : Nat} (hk : 4 * k + 2 * side + 1 < 11736) (hs : side < 2) : fX10_sample go (nI k) (nI side) = some (smF go side k) := by
  unfold fX10_sample
  rw [sampleAt_eq (by omega) hs]
  dsimp only [nt1]
  rw [og_nI (by omega) (by omega), nI_clamp (by omega), show nI (4 * k + 2 * side) + (1 : Int32) = nI (4 * k + 2 * side + 1) from nI_1 _, og_nI (by omega) (by omega), nI_clamp (by omega)]
  rfl
theorem heard_loop {go su : Nat → Int32} {S side K : Nat} (hS : S ≤ 488) (hs : side < 2) (hK : K < 6 * S) : ∀ (F i : Nat), i ≤ K + 1 → K + 1 - i < F → fX10_heard_L40 (nI K) (nI S) su (nI side) go F (nI i) (hearF go su S side i).1 = some ((hearF go su S side (K + 1)).1, 0) := by
  intro F
  induction F with
  | zero => intro i h1 h2; omega
  | succ F ih =>
    intro i h1 h2
    rw [fX10_heard_L40.eq_2]
    by_cases hc : K < i
    · rw [if_pos (by rw [nI_ltI (by omega) (by omega)]; exact hc)]
      have : i = K + 1 := by omega
      subst this
      rfl
    · rw [if_neg (by rw [nI_ltI (by omega) (by omega)]; exact hc), sSure_eq hS (by omega) hs, show nI i + (1 : Int32) = nI (i + 1) from nI_1 _, sSure_eq hS (by omega) hs]
      dsimp only [ob1, jk, nm]
      have hih := ih (i + 1) (by omega) (by omega)
      rw [hearF] at hih
      by_cases h3 : okF su S side i = true
      · rw [h3] at hih ⊢
        rw [if_neg (by decide), smp_eq (by omega) hs]
        rw [if_pos rfl] at hih
        exact hih
      · rw [Bool.not_eq_true] at h3
        rw [h3] at hih ⊢
        rw [if_pos (by decide)]
        rw [if_neg (by decide)] at hih
        by_cases h4 : okF su S side (i + 1) = true
        · rw [h4] at hih ⊢
          have h5 : i + 1 < 6 * S := by
            unfold okF at h4
            have := (Bool.and_eq_true_iff.mp h4).1
            exact of_decide_eq_true this
          rw [if_neg (by decide), smp_eq (by omega) hs]
          rw [if_pos rfl] at hih
          exact hih
        · rw [Bool.not_eq_true] at h4
          rw [h4] at hih ⊢
          rw [if_pos (by decide)]
          rw [if_neg (by decide)] at hih
          exact hih
theorem isSmp_1 {S k : Nat} (hS : S ≤ 488) (hk : k < 6 * S) : fX5_isSample (nI S) (nI k) = 1 := by
  unfold fX5_isSample
  simp (disch := omega) only [nl, nI_leI, nI_ltI, pk_mul, if_pos, if_neg]
theorem op_heard : OP24 Inv := by
  intro n xi xa xl mi ma y0 y1 hn h hy
  obtain ⟨hC, hS, hE, hB, hD, hP⟩ := id h
  obtain ⟨p1, p2⟩ := id hP
  have fin : Inv (n + 1) xi xa xl (upd mi 0 0) ma := ⟨hC, hS, hE, hB, hD.mono, hP⟩
  rcases p2 with p2 | ⟨p2, f, S, f1, S1, S2, q1, q2, q3, q4, hk, hgs, hsm, -⟩
  · refine ⟨65536, 65536, 0, ?_, ?_, rfl, fin⟩
    · unfold fX9_heard fX5_sampleHeard
      rw [if_pos p2]; rfl
    · unfold fX10_heard
      rw [if_pos (p1 ▸ p2)]
  · have m1 : mi 11 = 1 := p1 ▸ p2
    rcases i_cases y0 with hy0 | ⟨k, hk1, rfl⟩
    · refine ⟨65536, 65536, 0, ?_, ?_, rfl, fin⟩
      · unfold fX9_heard fX5_sampleHeard fX5_isSample
        rw [p2, if_neg ne10, if_pos hy0]; rfl
      · unfold fX10_heard
        rw [m1, if_neg ne10, in_neg hy0]; rfl
    · by_cases hkf : k < 6 * S
      · have hs := hsm k hkf
        refine ⟨if y1 = 0 then xa 26 (2 * k) else xa 26 (2 * k + 1), if y1 = 0 then (hearF (ma 25) (ma 26) S 0 (k + 1)).1 else (hearF (ma 25) (ma 26) S 1 (k + 1)).1, 0, ?_, ?_, by rw [hs.1, hs.2], fin⟩
        · unfold fX9_heard fX5_sampleHeard
          rw [p2, q3, isSmp_1 S2 hkf, show (2 : Int32) * nI k = nI (2 * k) from pk_mul 2 k]
          dsimp only [nt1, jk]
          rw [if_neg ne10, if_neg ne10]
          rcases hy with rfl | rfl
          · rw [if_pos rfl, if_pos rfl, show nI (2 * k) + (0 : Int32) = nI (2 * k) from nI_add _ 0, og_nI (by omega) (by omega), nI_clamp (by omega)]; rfl
          · rw [if_neg ne10, if_neg ne10, show nI (2 * k) + (1 : Int32) = nI (2 * k + 1) from nI_1 _, og_nI (by omega) (by omega), nI_clamp (by omega)]; rfl
        · unfold fX10_heard
          rw [m1, q4, show (6 : Int32) * nI S = nI (6 * S) from pk_mul 6 S, if_neg ne10, show (1 : Int32) = nI 1 from rfl, in_0n (by omega) (by omega), if_pos hkf]
          dsimp only [nt1]
          rw [if_neg ne10]
          rcases hy with rfl | rfl
          · rw [if_pos rfl]; exact heard_loop (side := 0) S2 (by omega) hkf FU 0 (by omega) (by rw [FU_eq]; omega)
          · rw [if_neg (by decide)]; exact heard_loop (side := 1) S2 (by omega) hkf FU 0 (by omega) (by rw [FU_eq]; omega)
      · refine ⟨65536, 65536, 0, ?_, ?_, rfl, fin⟩
        · unfold fX9_heard fX5_sampleHeard fX5_isSample
          rw [p2, q3]
          simp (disch := omega) only [nt1, ob1, nl, nI_leI, nI_ltI, nI_eq, pk_mul, if_pos, if_neg, if_true, if_false]
        · unfold fX10_heard
          rw [m1, q4]
          simp (disch := omega) only [nt1, nl, in_0n, nI_eq, pk_mul, if_pos, if_neg, if_true, if_false]
