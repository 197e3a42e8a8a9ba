/-! ===== tools: steps without unfolding by defeq, a falling index, noise, burst ===== -/
theorem nt1E {A β : Type} (x : A) (k : A → β) : nt1 x k = k x := (rfl : nt1 x k = k x).trans rfl
theorem jkE {A β : Type} (x : A) (k : A → β) : jk x k = k x := (rfl : jk x k = k x).trans rfl
theorem nmE {A β : Type} (x : A) (k : A → β) : nm x k = k x := (rfl : nm x k = k x).trans rfl
theorem ob1E {A β : Type} (x : A) (k : A → Option β) : ob1 (some x) k = k x := (rfl : ob1 (some x) k = k x).trans rfl
theorem ob2E {A B β : Type} (x : A) (y : B) (k : A → B → Option β) : ob2 (some (x, y)) k = k x y := (rfl : ob2 (some (x, y)) k = k x y).trans rfl
theorem ob3E {A B C β : Type} (x : A) (y : B) (z : C) (k : A → B → C → Option β) : ob3 (some (x, y, z)) k = k x y z := (rfl : ob3 (some (x, y, z)) k = k x y z).trans rfl
def dn : Nat → Int32
  | 0 => -1
  | k + 1 => nI k
theorem dn_s (k : Nat) : nI k + (-1) = dn k := by
  cases k with
  | zero => decide
  | succ k => show nI (k + 1) + (-1) = nI k; rw [nI_succ, Int32.add_assoc]; exact Int32.add_zero _
theorem dn_0 : dn 0 < 0 := by decide
theorem noise_loop {n N A r : Nat} {a : Int32} {pr len mpr msf : Int32} (hA : (588 : Int32) * a = nI A) (hN : N ≤ 360000) (hr : A + r ≤ N) : ∀ (F k : Nat) (cnt z : Int32) (pk bi : Nat → Int32), ID n (nI N) pr pk len mpr msf bi → k ≤ r → r - k < F →
    ∃ (c2 : Int32) (pk2 bi2 : Nat → Int32), fX9_noise_L48 (nI (A + r)) (nI N) F (nI (A + k)) cnt z pk = some (c2, pk2) ∧ fX10_noise_L29 (nI r) a F (nI k) cnt z bi = some (c2, 0, bi2) ∧ ID n (nI N) pr pk2 len mpr msf bi2 := by
  intro F
  induction F with
  | zero => intro k cnt z pk bi hD h1 h2; omega
  | succ F ih =>
    intro k cnt z pk bi hD h1 h2
    rw [fX9_noise_L48.eq_2, fX10_noise_L29.eq_2]
    by_cases hc : r ≤ k
    · rw [if_pos (nI_le (by omega) (by omega)), if_pos (nI_le (by omega) (by omega))]
      exact ⟨cnt, pk, bi, rfl, rfl, hD⟩
    · rw [if_neg (nI_ge (by omega) (by omega)), if_neg (nI_ge (by omega) (by omega))]
      have hb := hD.2.2.2.1 (A + k) (by rw [nI_ti (by omega)]; omega)
      rw [show z * (1664525 : Int32) + (1013904223 : Int32) = fX9_nextNoise z from rfl]
      generalize fX9_nextNoise z = z2
      have e1 : nI (A + k) + 1 = nI (A + (k + 1)) := nI_1 _
      have e2 : nI k + 1 = nI (k + 1) := nI_1 _
      simp only [nt1E, jkE, nmE]
      rw [hA, nI_add, og_nI (by omega) (by omega), og_nI (by omega) (by omega), nI_clamp (by omega), hb, one_sub, turn_eq hN (by omega), e1, e2]
      simp only [ob1E]
      by_cases hz : z2 < 0
      · rw [if_neg (fun q => by have a1 := ti_lt.mp hz; have a2 := ti_le.mp q; omega), if_pos hz]
        exact ih (k + 1) (cnt + 1) _ _ _ (ID_flip hD hN (by omega)) (by omega) (by omega)
      · rw [if_pos (by have a1 : ¬ z2.toInt < (0 : Int32).toInt := fun q => hz (ti_lt.mpr q); exact ti_le.mpr (by omega)), if_neg hz]
        exact ih (k + 1) cnt _ _ _ hD (by omega) (by omega)
theorem op_noise : OP19 Inv := by
  intro n xi xa xl mi ma y0 y1 y2 hn h
  obtain ⟨hC, hS, hE, hB, hD, hP⟩ := id h
  obtain ⟨N, hN, e1, e2⟩ := ID_sz hD
  by_cases hg : 0 ≤ y0.toInt ∧ 588 * y0.toInt < N ∧ 0 ≤ y1.toInt ∧ y1.toInt ≤ 600
  · obtain ⟨a, ha, rfl⟩ := i_of hg.1
    obtain ⟨m, hm, rfl⟩ := i_of hg.2.2.1
    have ha2 := nI_ti ha
    have hm2 := nI_ti hm
    have ha3 : 588 * a < N := by omega
    have hm3 : m ≤ 600 := by omega
    have hD1 := hD
    rw [e1] at hD1
    obtain ⟨c2, pk2, bi2, g1, g2, g3⟩ := noise_loop (n := n) (N := N) (A := 588 * a) (a := nI a) (r := min (588 * m) (N - 588 * a)) (pk_mul 588 a) hN (by omega) FU 0 0 y2 _ _ hD1 (by omega) (by rw [FU_eq]; omega)
    refine ⟨c2, pk2, c2, 0, bi2, ?_, ?_, rfl, hC, hS, hE, hB, ?_, hP⟩
    · unfold fX9_noise fX3_size
      rw [e1, spoil_1 hN ha3 hm3]
      simp only [nt1E, nmE]
      rw [if_neg ne10, show (588 : Int32) * nI a = nI (588 * a) from pk_mul 588 a, show (588 : Int32) * nI m = nI (588 * m) from pk_mul 588 m, nI_add]
      have em : (if nI (588 * a + 588 * m) < nI N then nI (588 * a + 588 * m) else nI N) = nI (588 * a + min (588 * m) (N - 588 * a)) := by
        by_cases q : 588 * a + 588 * m < N
        · rw [if_pos (by rw [nI_ltI (by omega) (by omega)]; exact q)]; congr 1; omega
        · rw [if_neg (by rw [nI_ltI (by omega) (by omega)]; exact q)]; congr 1; omega
      rw [em]
      exact g1
    · unfold fX10_noise
      rw [e2, reach_1 hN ha3 hm3]
      simp only [nt1E]
      rw [if_pos (nI_pos' (by omega))]
      exact g2
    · show ID (n + 1) (xi 10) (xi 11) pk2 (mi 4) (mi 5) (mi 6) bi2
      rw [e1]
      exact g3.mono
  · obtain ⟨z1, z2⟩ := spoil_0 (N := N) hN hg
    refine ⟨-1, xa 19, -1, 0, ma 9, ?_, ?_, rfl, hC, hS, hE, hB, hD.mono, hP⟩
    · unfold fX9_noise
      rw [e1, z1]; rfl
    · unfold fX10_noise
      rw [e2, z2]; rfl
/-! burst -/
def bc (lo hi : Int) : Nat → Nat
  | 0 => 0
  | i + 1 => bc lo hi i + if lo ≤ 4 * i ∧ 4 * i ≤ hi then 1 else 0
theorem bc_le (lo hi : Int) : ∀ k : Nat, bc lo hi k ≤ k ∧ (0 < bc lo hi k → 4 * ((bc lo hi k : Int) - 1) + lo ≤ hi ∧ 4 * ((bc lo hi k : Int) - 1) + lo ≤ 4 * ((k : Int) - 1)) := by
  intro k
  induction k with
  | zero => exact ⟨Nat.le_refl _, fun h => absurd h (Nat.lt_irrefl _)⟩
  | succ k ih =>
    obtain ⟨i1, i2⟩ := ih
    have e : bc lo hi (k + 1) = bc lo hi k + if lo ≤ 4 * (k : Int) ∧ 4 * (k : Int) ≤ hi then 1 else 0 := rfl
    rw [e]
    generalize bc lo hi k = c at *
    by_cases hc : lo ≤ 4 * (k : Int) ∧ 4 * (k : Int) ≤ hi
    · rw [if_pos hc]
      refine ⟨by omega, fun _ => ?_⟩
      rcases Nat.eq_zero_or_pos c with h0 | h0
      · subst h0; omega
      · have := i2 h0; omega
    · rw [if_neg hc]
      refine ⟨by omega, fun h => ?_⟩
      have := i2 (by omega); omega
theorem bc_1 (m : Nat) : ∀ k : Nat, bc 0 m k = min k (m / 4 + 1) := by
  intro k
  induction k with
  | zero => simp [bc]
  | succ k ih =>
    have e : bc 0 m (k + 1) = bc 0 m k + if (0 : Int) ≤ 4 * (k : Int) ∧ 4 * (k : Int) ≤ m then 1 else 0 := rfl
    rw [e, ih]
    by_cases hc : (0 : Int) ≤ 4 * (k : Int) ∧ 4 * (k : Int) ≤ m
    · rw [if_pos hc]; omega
    · rw [if_neg hc]; omega
theorem burst_in {j : Int32 → Option (Int32 × Int32)} {x : Int32} {m : Nat} (h1 : -200 ≤ x.toInt) (h2 : x.toInt ≤ 120) (hm : 1 ≤ m) (hm2 : m ≤ 200) : ∀ F i, i ≤ 28 → 28 - i < F → fX10_burst_L37 j x (nI m) F (nI i) (nI (bc (x.toInt - 1) (x.toInt + m - 1) i)) = j (nI (bc (x.toInt - 1) (x.toInt + m - 1) 28)) := by
  intro F
  induction F with
  | zero => intro i _ h; omega
  | succ F ih =>
    intro i hi hF
    rw [fX10_burst_L37.eq_2]
    by_cases hc : 28 ≤ i
    · rw [if_pos (show (28 : Int32) ≤ nI i from nI_le (a := 28) hc (by omega))]
      have : i = 28 := by omega
      rw [this]
    · rw [if_neg (show ¬ (28 : Int32) ≤ nI i from nI_ge (b := 28) (by omega) (by omega))]
      have e0 : (4 : Int32) * nI i = nI (4 * i) := pk_mul 4 i
      have e1 : (Int32.toInt64 (nI (4 * i))).toInt = 4 * (i : Int) := by rw [tl_i, nI_ti (by omega)]; omega
      have e1' : (Int32.toInt64 (nI (4 * i + 1))).toInt = 4 * (i : Int) + 1 := by rw [tl_i, nI_ti (by omega)]; omega
      have e3 : (Int32.toInt64 (x + nI m - (1 : Int32))).toInt = x.toInt + m - 1 := by
        have hm3 := nI_ti (n := m) (by omega)
        have q1 : (x + nI m).toInt = x.toInt + m := by rw [ti_add (by omega) (by omega), hm3]
        have q2 : (1 : Int32).toInt = 1 := rfl
        rw [tl_i, ti_sub (by omega) (by omega), q1, q2]
      have ei : nI i + 1 = nI (i + 1) := nI_1 _
      have e4 : nI (4 * i) + (1 : Int32) = nI (4 * i + 1) := nI_1 _
      simp only [nt1E, jkE, nmE]
      rw [e0, e4, ei]
      have es : bc (x.toInt - 1) (x.toInt + m - 1) (i + 1) = bc (x.toInt - 1) (x.toInt + m - 1) i + if x.toInt - 1 ≤ 4 * (i : Int) ∧ 4 * (i : Int) ≤ x.toInt + m - 1 then 1 else 0 := rfl
      have hi2 := ih (i + 1) (by omega) (by omega)
      rw [es] at hi2
      by_cases hA : x.toInt ≤ 4 * (i : Int) ∧ 4 * (i : Int) ≤ x.toInt + m - 1
      · rw [in_1 (by rw [e1, tl_i x, e3]; exact hA), if_neg ne10, show (1 : Int32) = nI 1 from rfl, nI_add]
        rw [if_pos (by omega)] at hi2
        exact hi2
      · rw [in_0 (by rw [e1, tl_i x, e3]; exact hA), if_pos rfl]
        by_cases hB : x.toInt ≤ 4 * (i : Int) + 1 ∧ 4 * (i : Int) + 1 ≤ x.toInt + m - 1
        · rw [in_1 (by rw [e1', tl_i x, e3]; exact hB), if_neg ne10, show (1 : Int32) = nI 1 from rfl, nI_add]
          rw [if_pos (by omega)] at hi2
          exact hi2
        · rw [in_0 (by rw [e1', tl_i x, e3]; exact hB), if_pos rfl, Int32.add_zero]
          rw [if_neg (by omega)] at hi2
          exact hi2
theorem burst_out {m : Nat} (hm : 1 ≤ m) (hm2 : m ≤ 200) : ∀ (F : Nat) (x : Int32) (b : Nat), -200 ≤ x.toInt → x.toInt ≤ 120 → b ≤ min 28 (m / 4 + 1) → (1 < x.toInt → b = min 28 (m / 4 + 1)) → 120 - x.toInt < F → fX10_burst_L25 (nI m) F x (nI b) = some (nI (min 28 (m / 4 + 1)), 0) := by
  intro F
  induction F with
  | zero => intro x b h1 h2 h3 h4 h5; omega
  | succ F ih =>
    intro x b h1 h2 h3 h4 h5
    rw [fX10_burst_L25.eq_2]
    have e120 : (120 : Int32).toInt = 120 := rfl
    by_cases hc : (120 : Int32) ≤ x
    · rw [if_pos hc]
      have := ti_le.mp hc
      rw [h4 (by omega)]
    · have hc2 : ¬ (120 : Int32).toInt ≤ x.toInt := fun q => hc (ti_le.mpr q)
      rw [if_neg hc]
      simp only [jkE, nmE]
      have hb := burst_in (j := fun x4_8 => if x4_8 ≤ nI b then fX10_burst_L25 (nI m) F (x + 1) (nI b) else fX10_burst_L25 (nI m) F (x + 1) x4_8) h1 h2 hm hm2 FU 0 (by omega) (by rw [FU_eq]; omega)
      rw [show nI (bc (x.toInt - 1) (x.toInt + m - 1) 0) = (0 : Int32) from rfl, show nI 0 = (0 : Int32) from rfl] at hb
      rw [hb]
      have q2 : (1 : Int32).toInt = 1 := rfl
      have ex : (x + 1).toInt = x.toInt + 1 := by rw [ti_add (by omega) (by omega), q2]
      have k1 := bc_le (x.toInt - 1) (x.toInt + m - 1) 28
      have k2 : x.toInt = 1 → bc (x.toInt - 1) (x.toInt + m - 1) 28 = min 28 (m / 4 + 1) := by
        intro hx
        rw [hx, show (1 : Int) - 1 = 0 from rfl, show (1 : Int) + (m : Int) - 1 = m from by omega]
        exact bc_1 m 28
      generalize bc (x.toInt - 1) (x.toInt + m - 1) 28 = c at *
      have k3 : c ≤ m / 4 + 1 := by
        rcases Nat.eq_zero_or_pos c with h0 | h0
        · omega
        · have := (k1.2 h0).1; omega
      by_cases hd : c ≤ b
      · rw [if_pos (nI_le hd (by omega))]
        exact ih _ _ (by omega) (by omega) h3 (fun q => by
          rcases Int.lt_or_le 1 x.toInt with q2 | q2
          · exact h4 q2
          · have := k2 (by omega); omega) (by omega)
      · rw [if_neg (nI_ge (by omega) (by omega))]
        exact ih _ _ (by omega) (by omega) (by omega) (fun q => by
          rcases Int.lt_or_le 1 x.toInt with q2 | q2
          · have := h4 q2; omega
          · have := k2 (by omega); omega) (by omega)
theorem op_burst : OP29 Inv := by
  intro n xi xa xl mi ma y0 hn h
  obtain ⟨hC, hS, hE, hB, hD, hP⟩ := id h
  have e1 : (1 : Int32).toInt = 1 := rfl
  have e200 : (200 : Int32).toInt = 200 := rfl
  by_cases hg : 1 ≤ y0.toInt ∧ y0.toInt ≤ 200
  · obtain ⟨m, hm, rfl⟩ := i_of (x := y0) (by omega)
    have hm2 := nI_ti hm
    refine ⟨nI (min 28 (m / 4 + 1)), nI (min 28 (m / 4 + 1)), 0, ?_, ?_, rfl, hC, hS, hE, hB, hD.mono, hP⟩
    · unfold fX9_burst
      rw [if_neg (fun q => by have := ti_lt.mp q; omega), if_pos (ti_le.mpr (by omega)), show nI m / (4 : Int32) = nI (m / 4) from pk_div (d := 4) (by omega) (by omega) (by omega), nI_1]
      by_cases q : m / 4 + 1 < 28
      · rw [if_pos (show nI (m / 4 + 1) < (28 : Int32) from nI_lt (b := 28) q (by omega)), Nat.min_eq_right (by omega)]
      · rw [if_neg (show ¬ nI (m / 4 + 1) < (28 : Int32) from nI_nlt (b := 28) (by omega) (by omega)), Nat.min_eq_left (by omega)]; rfl
    · unfold fX10_burst
      rw [in_1 (by rw [tl_i]; show (1 : Int) ≤ _ ∧ _ ≤ (200 : Int); omega)]
      simp only [nt1E]
      rw [if_neg ne10]
      exact burst_out (by omega) (by omega) FU _ 0 (by decide) (by decide) (by omega) (fun q => absurd q (by decide)) (by rw [FU_eq]; decide)
  · refine ⟨-1, -1, 0, ?_, ?_, rfl, hC, hS, hE, hB, hD.mono, hP⟩
    · unfold fX9_burst
      by_cases q : y0 < 1
      · rw [if_pos q]
      · rw [if_neg q, if_neg (fun q2 => by have := ti_le.mp q2; have a : ¬ y0.toInt < (1 : Int32).toInt := fun w => q (ti_lt.mpr w); omega)]
    · unfold fX10_burst
      rw [in_0 (by rw [tl_i]; show ¬ ((1 : Int) ≤ _ ∧ _ ≤ (200 : Int)); exact hg)]
      rfl
