/-! ===== scratch and slip ===== -/
theorem behind_bt (k i j : Nat) (hk : k ≤ 20000) (hi : i ≤ 1000000) (hj : j < 32) : bt (fX3_behind (nI k) (nI i)) j = decide (i ≤ 32 * k + (31 - j)) := by
  unfold fX3_behind
  rw [nmE, show (32 : Int32) * nI k = nI (32 * k) from pk_mul 32 k]
  have e : (nI i - nI (32 * k)).toInt = (i : Int) - 32 * k := by
    have a1 := nI_ti (n := i) (by omega)
    have a2 := nI_ti (n := 32 * k) (by omega)
    rw [ti_sub (by omega) (by omega)]; omega
  have e0 : (0 : Int32).toInt = 0 := rfl
  have e32 : (32 : Int32).toInt = 32 := rfl
  by_cases h1 : i ≤ 32 * k
  · rw [if_neg (fun q => by have := ti_lt.mp q; omega), b_m1 j hj, decide_eq_true (by omega)]
  · by_cases h2 : i < 32 * k + 32
    · have e2 : nI i - nI (32 * k) = nI (i - 32 * k) := pk_sub (by omega)
      rw [if_pos (ti_lt.mpr (by omega)), if_pos (ti_lt.mpr (by omega)), e2, b_ushr _ (by omega)]
      by_cases h3 : i ≤ 32 * k + (31 - j)
      · rw [b_m1 _ (by omega), decide_eq_true h3]
      · rw [b_big (by omega), decide_eq_false h3]
    · rw [if_pos (ti_lt.mpr (by omega)), if_neg (fun q => by have := ti_lt.mp q; omega), b_0, decide_eq_false (by omega)]
theorem pbit_upd (pk : Nat → Int32) (k : Nat) (x : Int32) (p : Nat) : pbit (upd pk k x) p = if p / 32 = k then bt x (31 - p % 32) else pbit pk p := by
  unfold pbit
  by_cases h : p / 32 = k
  · rw [if_pos h, h, pk_us]
  · rw [if_neg h, pk_un h]
theorem blank_loop {from' to : Nat} (hf : from' ≤ 360000) (ht : to ≤ 360000) : ∀ (F k : Nat) (pk : Nat → Int32), k ≤ 11250 → 11250 - k < F →
    ∃ pk', fX3_blank_L8 (nI to) (nI from') F (nI k) pk = some pk' ∧ ∀ p, p < 360000 → pbit pk' p = if k ≤ p / 32 ∧ from' ≤ p ∧ p < to then false else pbit pk p := by
  intro F
  induction F with
  | zero => intro k pk _ h; omega
  | succ F ih =>
    intro k pk hk hF
    rw [fX3_blank_L8.eq_2]
    by_cases h1 : 11250 ≤ k
    · rw [if_pos (show (11250 : Int32) ≤ nI k from nI_le (a := 11250) h1 (by omega))]
      exact ⟨pk, rfl, fun p hp => by rw [if_neg (by omega)]⟩
    · rw [if_neg (show ¬ (11250 : Int32) ≤ nI k from nI_ge (b := 11250) (by omega) (by omega)), show (32 : Int32) * nI k = nI (32 * k) from pk_mul 32 k]
      by_cases h2 : to ≤ 32 * k
      · rw [if_pos (nI_le h2 (by omega))]
        exact ⟨pk, rfl, fun p hp => by rw [if_neg (by omega)]⟩
      · rw [if_neg (nI_ge (by omega) (by omega)), og_nI (by omega) (by omega)]
        simp only [nt1E, nmE]
        rw [og_nI (by omega) (by omega), nI_clamp (by omega), nI_1]
        obtain ⟨pk', g1, g2⟩ := ih (k + 1) (upd pk k (pk k &&& ((fX3_behind (nI k) (nI from') ^^^ (-1 : Int32)) ||| fX3_behind (nI k) (nI to)))) (by omega) (by omega)
        refine ⟨pk', g1, fun p hp => ?_⟩
        rw [g2 p hp, pbit_upd]
        by_cases q1 : p / 32 = k
        · rw [if_neg (by omega), if_pos q1, b_and, b_or, b_xor, b_m1 _ (by omega), behind_bt _ _ _ (by omega) (by omega) (by omega), behind_bt _ _ _ (by omega) (by omega) (by omega)]
          rw [show 32 * k + (31 - (31 - p % 32)) = p from by omega]
          have e : bt (pk k) (31 - p % 32) = pbit pk p := by unfold pbit; rw [q1]
          rw [e]
          by_cases q2 : from' ≤ p ∧ p < to
          · rw [if_pos ⟨by omega, q2⟩, decide_eq_true q2.1, decide_eq_false (by omega)]; simp
          · rw [if_neg (fun q => q2 q.2)]
            by_cases q3 : from' ≤ p
            · rw [decide_eq_true q3, decide_eq_true (by omega)]; simp
            · rw [decide_eq_false q3]; simp
        · rw [if_neg q1]
          by_cases q2 : k + 1 ≤ p / 32 ∧ from' ≤ p ∧ p < to
          · rw [if_pos q2, if_pos (by omega)]
          · rw [if_neg q2, if_neg (by omega)]
theorem blank_eq {from' to : Nat} (hf : from' ≤ 360000) (ht : to ≤ 360000) (pk : Nat → Int32) : ∃ pk', fX3_blank pk (nI from') (nI to) = some pk' ∧ ∀ p, p < 360000 → pbit pk' p = if from' ≤ p ∧ p < to then false else pbit pk p := by
  obtain ⟨pk', g1, g2⟩ := blank_loop hf ht FU (from' / 32) pk (by omega) (by rw [FU_eq]; omega)
  refine ⟨pk', ?_, fun p hp => ?_⟩
  · unfold fX3_blank
    rw [nmE, if_neg (nI_pos (by omega)), shr5 (by omega)]
    exact g1
  · rw [g2 p hp]
    by_cases q : from' ≤ p ∧ p < to
    · rw [if_pos q, if_pos (by omega)]
    · rw [if_neg q, if_neg (by omega)]
theorem scr_loop {A r : Nat} {a : Int32} (hA : (588 : Int32) * a = nI A) (hr : A + r ≤ 360000) : ∀ (F k : Nat) (bi : Nat → Int32), k ≤ r → r - k < F →
    ∃ bi', fX10_scratch_L15 (nI r) a F (nI k) bi = some (nI r, 0, bi') ∧ ∀ j, bi' j = if A + k ≤ j ∧ j < A + r then 0 else bi j := by
  intro F
  induction F with
  | zero => intro k bi _ h; omega
  | succ F ih =>
    intro k bi hk hF
    rw [fX10_scratch_L15.eq_2]
    by_cases h1 : r ≤ k
    · rw [if_pos (nI_le h1 (by omega))]
      exact ⟨bi, rfl, fun j => by rw [if_neg (by omega)]⟩
    · rw [if_neg (nI_ge (by omega) (by omega)), hA, nI_add, og_nI (by omega) (by omega), nmE, nmE, nI_clamp (by omega), nI_1]
      obtain ⟨bi', g1, g2⟩ := ih (k + 1) (upd bi (A + k) (vp_nar .byte 0)) (by omega) (by omega)
      refine ⟨bi', g1, fun j => ?_⟩
      rw [g2 j]
      by_cases q : j = A + k
      · subst q
        rw [if_neg (by omega), if_pos (by omega), pk_us]; rfl
      · rw [pk_un q]
        by_cases q2 : A + (k + 1) ≤ j ∧ j < A + r
        · rw [if_pos q2, if_pos (by omega)]
        · rw [if_neg q2, if_neg (by omega)]
theorem op_scratch : OP18 Inv := by
  intro n xi xa xl mi ma y0 y1 hn h
  obtain ⟨hC, hS, hE, hB, hD, hP⟩ := id h
  obtain ⟨N, hN, e1, e2⟩ := ID_sz hD
  by_cases hg : 0 ≤ y0.toInt ∧ 588 * y0.toInt < N ∧ 0 ≤ y1.toInt ∧ y1.toInt ≤ 600
  · obtain ⟨a, ha, rfl⟩ := i_of hg.1
    obtain ⟨m, hm, rfl⟩ := i_of hg.2.2.1
    have ha2 := nI_ti ha
    have hm2 := nI_ti hm
    have ha3 : 588 * a < N := by omega
    have hm3 : m ≤ 600 := by omega
    obtain ⟨pk', p1, p2⟩ := blank_eq (from' := 588 * a) (to := 588 * a + min (588 * m) (N - 588 * a)) (by omega) (by omega) (xa 19)
    obtain ⟨bi', b1, b2⟩ := scr_loop (A := 588 * a) (a := nI a) (r := min (588 * m) (N - 588 * a)) (pk_mul 588 a) (by omega) FU 0 (ma 9) (by omega) (by rw [FU_eq]; omega)
    refine ⟨nI (min (588 * m) (N - 588 * a)), pk', nI (min (588 * m) (N - 588 * a)), 0, bi', ?_, ?_, rfl, hC, hS, hE, hB, ?_, hP⟩
    · unfold fX9_scratch fX3_size
      rw [e1, spoil_1 hN ha3 hm3]
      simp only [nt1E, nmE]
      rw [if_neg ne10, show (588 : Int32) * nI a = nI (588 * a) from pk_mul 588 a, show (588 : Int32) * nI m = nI (588 * m) from pk_mul 588 m, nI_add]
      have em : (if nI (588 * a + 588 * m) < nI N then nI (588 * a + 588 * m) else nI N) = nI (588 * a + min (588 * m) (N - 588 * a)) := by
        by_cases q : 588 * a + 588 * m < N
        · rw [if_pos (by rw [nI_ltI (by omega) (by omega)]; exact q)]; congr 1; omega
        · rw [if_neg (by rw [nI_ltI (by omega) (by omega)]; exact q)]; congr 1; omega
      rw [em, p1, ob1E, pk_sub (by omega)]
      congr 3; omega
    · unfold fX10_scratch
      rw [e2, reach_1 hN ha3 hm3, nt1E]
      exact b1
    · show ID (n + 1) (xi 10) (xi 11) pk' (mi 4) (mi 5) (mi 6) bi'
      refine ID.mono ?_
      obtain ⟨d1, d2, d3, d4, d5⟩ := hD
      have eN : (xi 10).toInt = N := by rw [e1, nI_ti (by omega)]
      refine ⟨d1, d2, d3, fun i hi => ?_, fun i hi hi2 => ?_⟩
      · rw [b2 i, p2 i (by omega)]
        by_cases q : 588 * a ≤ i ∧ i < 588 * a + min (588 * m) (N - 588 * a)
        · rw [if_pos (by omega), if_pos q]; rfl
        · rw [if_neg (by omega), if_neg q]; exact d4 i hi
      · rw [p2 i hi2]
        by_cases q : 588 * a ≤ i ∧ i < 588 * a + min (588 * m) (N - 588 * a)
        · rw [if_pos q]
        · rw [if_neg q]; exact d5 i hi hi2
  · obtain ⟨z1, z2⟩ := spoil_0 (N := N) hN hg
    refine ⟨-1, xa 19, -1, 0, ma 9, ?_, ?_, rfl, hC, hS, hE, hB, hD.mono, hP⟩
    · unfold fX9_scratch
      rw [e1, z1]; rfl
    · unfold fX10_scratch
      rw [e2, z2, nt1E, show FU = 999999 + 1 from rfl, fX10_scratch_L15.eq_2, if_pos (by decide)]
