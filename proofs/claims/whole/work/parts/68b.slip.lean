theorem slipN {n N i m : Nat} {pr mpr msf y1 th : Int32} {pk bi : Nat → Int32} (hp : ¬ pr = 0) (hp2 : ¬ mpr = 0) (hN : N ≤ 360000) (hi : i ≤ N) (hm : m ≤ 600) (hm0 : 0 < m) (em : -y1 = nI m) (hy : y1.toInt = -(m : Int)) (hD : ID n (nI N) pr pk (nI N) mpr msf bi) :
    ∃ (R : Nat) (pk' bi' : Nat → Int32), fX9_slip pr (nI N) pk (nI i) y1 = some (nI R, nI R, pk') ∧ fX10_slip (nI N) mpr th bi (nI i) y1 = some (nI R, nI R, 0, bi') ∧ ID (n + 1) (nI R) pr pk' (nI R) mpr msf bi' := by
  obtain ⟨d1, d2, d3, d4, d5⟩ := hD
  rw [nI_ti (by omega)] at d4 d5
  have hnar : ∀ t, t < N → vp_nar .byte (bi t) = bi t := fun t ht => by rw [d4 t (by omega), bn01]
  have a4 : (0 : Int32).toInt = 0 := by decide
  obtain ⟨g, hg⟩ : ∃ g, g = min m (N - i) := ⟨_, rfl⟩
  have eg : (if (nI N - nI i) < nI m then (nI N - nI i) else nI m) = nI g := by
    rw [pk_sub hi]
    by_cases q : N - i < m
    · rw [if_pos (nI_lt q (by omega))]; exact congrArg nI (by omega)
    · rw [if_neg (nI_nlt (by omega) (by omega))]; exact congrArg nI (by omega)
  have hgN : g ≤ N := by omega
  have hg6 : g ≤ 600 := by omega
  have hgi : i + g ≤ N := by omega
  clear hg
  obtain ⟨pk', p1, p2⟩ := rem_loop (j := fun p => some (nI (N - g), p)) (N := N) (i := i) (g := g) hN hi hg6 FU (i / 32) pk (by omega) (by rw [FU_eq]; omega)
  obtain ⟨bi', q1, q2⟩ := slipC (j := fun b => some (nI (N - g), nI (N - g), 0, b)) (N := N) (g := g) hN FU i bi hnar hgi (by rw [FU_eq]; omega)
  refine ⟨N - g, pk', bi', ?_, ?_, ?_⟩
  · rw [slip_c hp hN hi (by omega) (by omega) (by omega), if_pos (ti_lt.mpr (by omega)), em]
    unfold fX3_remove
    simp only [nmE, jkE]
    rw [eg, if_neg (nI_pos (by omega)), shr5 (by omega), pk_sub hgN, p1, ob2E]
  · rw [slip_r hp2 hN hi (by omega) (by omega) (by omega), if_neg (fun q => by have := ti_le.mp q; omega), em, eg, pk_sub hgN, q1]
  · have b3 := nI_ti (n := N - g) (by omega)
    refine ⟨rfl, d2, ?_, fun t ht => ?_, fun t ht ht2 => ?_⟩
    · rcases d3 with ⟨q, _⟩ | ⟨sf, N', s1, s2, s3, s4, s5, s6, s7⟩
      · exact absurd q hp
      · have hNN : N = N' := (nI_eq (by omega) (by omega)).mp s5
        exact Or.inr ⟨sf, N - g, s1, s2, s3, s4, rfl, by omega, by omega⟩
    · rw [b3] at ht
      rw [q2 t, p2 t (by omega)]
      by_cases r1 : i ≤ t
      · rw [if_pos (by omega), if_pos (by omega), d4 _ (by omega)]
        unfold pb; rw [decide_eq_true (by omega)]; rfl
      · rw [if_neg (by omega), if_neg (by omega), d4 _ (by omega)]
    · rw [b3] at ht
      rw [p2 t (by omega)]
      by_cases r1 : i / 32 ≤ t / 32 ∧ 32 * (t / 32) < N ∧ i ≤ t
      · rw [if_pos r1]
        unfold pb
        by_cases r2 : t + g < 360000
        · rw [decide_eq_true r2, d5 _ (by omega) r2]; rfl
        · rw [decide_eq_false r2]; rfl
      · rw [if_neg r1]
        exact d5 t (by omega) ht2
theorem slipP {n N i m : Nat} {pr mpr msf th : Int32} {pk bi : Nat → Int32} (hp : ¬ pr = 0) (hp2 : ¬ mpr = 0) (hN0 : 0 < N) (hN : N + m ≤ 360000) (hi : i ≤ N) (hm : m ≤ 600) (hD : ID n (nI N) pr pk (nI N) mpr msf bi) :
    ∃ (R : Nat) (pk' bi' : Nat → Int32), fX9_slip pr (nI N) pk (nI i) (nI m) = some (nI R, nI R, pk') ∧ fX10_slip (nI N) mpr th bi (nI i) (nI m) = some (nI R, nI R, 0, bi') ∧ ID (n + 1) (nI R) pr pk' (nI R) mpr msf bi' := by
  obtain ⟨d1, d2, d3, d4, d5⟩ := hD
  rw [nI_ti (by omega)] at d4 d5
  have hnar : ∀ t, t < N → vp_nar .byte (bi t) = bi t := fun t ht => by rw [d4 t (by omega), bn01]
  have hm2 := nI_ti (n := m) (by omega)
  obtain ⟨pk', p1, p2⟩ := ins_loop (j := fun p => some (nI (N + m), p)) (i := i) (n := m) (by omega) hm FU ((N + m - 1) / 32 + 1) pk (by omega) (by rw [FU_eq]; omega)
  obtain ⟨bi1, q1, q2⟩ := slipA (j := fun b => fX10_slip_L154 (nI m) (fun c => some (nI (N + m), nI (N + m), 0, c)) (nI i) FU 0 b) (i := i) (n := m) hm FU N bi (by omega) hnar hi (by rw [FU_eq]; omega)
  obtain ⟨bi', q3, q4⟩ := slipB (j := fun c => some (nI (N + m), nI (N + m), 0, c)) (i := i) (n := m) (by omega) FU 0 bi1 (by omega) (by rw [FU_eq]; omega)
  refine ⟨N + m, pk', bi', ?_, ?_, ?_⟩
  · rw [slip_c hp (by omega) hi (by omega) (by omega) (by omega), if_neg (nI_pos (by omega))]
    unfold fX3_insertZeros
    simp only [nmE, jkE]
    have ek : nI N + nI m - (1 : Int32) = nI (N + m - 1) := by rw [nI_add]; exact pk_sub (b := 1) (by omega)
    have p3 : fX3_insertZeros_L21 (fun p => some (nI (N + m), p)) (nI i) (nI m) FU (nI ((N + m - 1) / 32)) pk = _ := p1
    rw [ek, shr5 (by omega), show (11250 : Int32) - (1 : Int32) = nI 11249 from by decide, if_neg (nI_nlt (by omega) (by omega)), nI_add, p3, ob2E]
  · rw [slip_r hp2 (by omega) hi (by omega) (by omega) (by omega), if_pos (nI_pos' (by omega)), nI_add, dn_m, q1]
    exact q3
  · have b3 := nI_ti (n := N + m) (by omega)
    refine ⟨rfl, d2, ?_, fun t ht => ?_, fun t ht ht2 => ?_⟩
    · rcases d3 with ⟨q, _⟩ | ⟨sf, N', s1, s2, s3, s4, s5, s6, s7⟩
      · exact absurd q hp
      · have hNN : N = N' := (nI_eq (by omega) (by omega)).mp s5
        exact Or.inr ⟨sf, N + m, s1, s2, s3, s4, rfl, by omega, by omega⟩
    · rw [b3] at ht
      rw [q4 t, p2 t (by omega)]
      by_cases r1 : i ≤ t
      · rw [if_pos (show t / 32 < (N + m - 1) / 32 + 1 ∧ i ≤ t from by omega)]
        by_cases r2 : i + m ≤ t
        · rw [if_neg (by omega), q2 t, if_pos (by omega), d4 _ (by omega), decide_eq_true r2]
          unfold pb; rw [decide_eq_true (by omega)]; rfl
        · rw [if_pos (by omega), decide_eq_false r2]; rfl
      · rw [if_neg (by omega), q2 t, if_neg (by omega), if_neg (by omega), d4 _ (by omega)]
    · rw [b3] at ht
      rw [p2 t (by omega)]
      by_cases r1 : t / 32 < (N + m - 1) / 32 + 1 ∧ i ≤ t
      · rw [if_pos r1]
        unfold pb
        rw [d5 _ (by omega) (by omega)]; simp
      · rw [if_neg r1]
        exact d5 t (by omega) ht2
theorem slipF {N : Nat} {pr th y0 y1 : Int32} {pk bi : Nat → Int32} (hN : N ≤ 360000) (hg : ¬ ((¬ pr = 0) ∧ (0 ≤ y0.toInt ∧ y0.toInt ≤ N) ∧ (-600 ≤ y1.toInt ∧ y1.toInt ≤ 600) ∧ N + y1.toInt ≤ 360000)) : fX9_slip pr (nI N) pk y0 y1 = some (-1, nI N, pk) ∧ fX10_slip (nI N) pr th bi y0 y1 = some (-1, nI N, 0, bi) := by
  have a1 : (-600 : Int32).toInt = -600 := by decide
  have a2 : (600 : Int32).toInt = 600 := by decide
  have a4 : (0 : Int32).toInt = 0 := by decide
  have a5 : (360000 : Int32).toInt = 360000 := by decide
  have b2 := nI_ti (n := N) (by omega)
  have a3 : ((360000 : Int32) - nI N).toInt = 360000 - N := by
    rw [show (360000 : Int32) - nI N = nI (360000 - N) from pk_sub (a := 360000) hN, nI_ti (by omega)]; omega
  constructor
  · unfold fX9_slip fX3_framesPressed fX3_size
    simp only [nt1E]
    by_cases h1 : pr = 0
    · rw [if_pos h1]
    · rw [if_neg h1]
      by_cases h2 : y0 < 0
      · rw [if_pos h2]
      · have h2' : ¬ y0.toInt < (0 : Int32).toInt := fun q => h2 (ti_lt.mpr q)
        rw [if_neg h2]
        by_cases h3 : nI N < y0
        · rw [if_pos h3]
        · have h3' : ¬ (nI N).toInt < y0.toInt := fun q => h3 (ti_lt.mpr q)
          rw [if_neg h3]
          by_cases h4 : y1 < (-600 : Int32)
          · rw [if_pos h4]
          · have h4' : ¬ y1.toInt < (-600 : Int32).toInt := fun q => h4 (ti_lt.mpr q)
            rw [if_neg h4]
            by_cases h5 : (600 : Int32) < y1
            · rw [if_pos h5]
            · have h5' : ¬ (600 : Int32).toInt < y1.toInt := fun q => h5 (ti_lt.mpr q)
              rw [if_neg h5, if_neg (fun q => hg ⟨h1, by omega, by omega, by have := ti_le.mp q; omega⟩)]
  · unfold fX10_slip
    by_cases h1 : pr = 0
    · rw [if_pos h1]
    · rw [if_neg h1]
      by_cases h2 : 0 ≤ y0.toInt ∧ y0.toInt ≤ N
      · rw [in_1 (by rw [tl_i, tl_i, b2]; exact h2), nt1E, if_neg ne10]
        by_cases h3 : -600 ≤ y1.toInt ∧ y1.toInt ≤ 600
        · rw [in_1 (by rw [tl_i]; exact h3), nt1E, if_neg ne10, if_neg (fun q => hg ⟨h1, h2, h3, by have := ti_le.mp q; rw [ti_add (by omega) (by omega)] at this; omega⟩)]
        · rw [in_0 (by rw [tl_i]; exact h3), nt1E, if_pos rfl]
      · rw [in_0 (by rw [tl_i, tl_i, b2]; exact h2), nt1E, if_pos rfl]
theorem op_slip : OP20 Inv := by
  intro n xi xa xl mi ma y0 y1 hn h
  obtain ⟨hC, hS, hE, hB, hD, hP⟩ := id h
  have hpr : xi 11 = mi 5 := hD.2.1
  obtain ⟨N, hN, e1, e2⟩ := ID_sz hD
  have hD1 := hD
  rw [e1, e2] at hD1
  by_cases hg : (¬ xi 11 = 0) ∧ (0 ≤ y0.toInt ∧ y0.toInt ≤ N) ∧ (-600 ≤ y1.toInt ∧ y1.toInt ≤ 600) ∧ N + y1.toInt ≤ 360000
  · obtain ⟨hp, hi, hy, hl⟩ := hg
    obtain ⟨i, hi1, rfl⟩ := i_of hi.1
    have hi2 := nI_ti hi1
    have fin : ∀ (R : Nat) (pk' bi' : Nat → Int32), fX9_slip (xi 11) (nI N) (xa 19) (nI i) y1 = some (nI R, nI R, pk') → fX10_slip (nI N) (mi 5) (mi 0) (ma 9) (nI i) y1 = some (nI R, nI R, 0, bi') → ID (n + 1) (nI R) (xi 11) pk' (nI R) (mi 5) (mi 6) bi' → _ := fun R pk' bi' c1 c2 c3 =>
      (⟨nI R, nI R, pk', nI R, nI R, 0, bi', by rw [e1]; exact c1, by rw [e2]; exact c2, rfl, hC, hS, hE, hB, c3, hP⟩ : ∃ (rx : Int32) (x_v_groove_size : Int32) (x_v_groove_packed : Nat → Int32) (rm : Int32) (m_v_length : Int32) (m_v_thrown : Int32) (m_v_bits : Nat → Int32), fX9_slip (xi 11) (xi 10) (xa 19) (nI i) y1 = some (rx, x_v_groove_size, x_v_groove_packed) ∧ fX10_slip (mi 4) (mi 5) (mi 0) (ma 9) (nI i) y1 = some (rm, m_v_length, m_v_thrown, m_v_bits) ∧ rx = rm ∧ Inv (n + 1) (upd xi 10 x_v_groove_size) (updA xa 19 x_v_groove_packed) xl (upd (upd mi 4 m_v_length) 0 m_v_thrown) (updA ma 9 m_v_bits))
    by_cases hneg : y1.toInt < 0
    · obtain ⟨m, hm, em⟩ := i_of (x := -y1) (by rw [ti_neg (by omega)]; omega)
      have hm2 : (m : Int) = -y1.toInt := by rw [← nI_ti hm, ← em, ti_neg (by omega)]
      obtain ⟨R, pk', bi', c1, c2, c3⟩ := slipN (th := mi 0) (i := i) hp (hpr ▸ hp) hN (by omega) (by omega) (by omega) em (by omega) hD1
      exact fin R pk' bi' c1 c2 c3
    · obtain ⟨m, hm, rfl⟩ := i_of (x := y1) (by omega)
      have hm2 := nI_ti hm
      have hN0 : 0 < N := by
        rcases hD1.2.2.1 with ⟨q, _⟩ | ⟨sf, N', s1, s2, s3, s4, s5, s6, s7⟩
        · exact absurd q hp
        · have hNN : N = N' := (nI_eq (by omega) (by omega)).mp s5
          omega
      obtain ⟨R, pk', bi', c1, c2, c3⟩ := slipP (th := mi 0) (m := m) (i := i) hp (hpr ▸ hp) hN0 (by omega) (by omega) (by omega) hD1
      exact fin R pk' bi' c1 c2 c3
  · obtain ⟨c1, c2⟩ := slipF (th := mi 0) (pk := xa 19) (bi := ma 9) hN hg
    refine ⟨-1, xi 10, xa 19, -1, mi 4, 0, ma 9, ?_, ?_, rfl, hC, hS, hE, hB, hD.mono, hP⟩
    · rw [e1]; exact c1
    · rw [e2, ← hpr]; exact c2
