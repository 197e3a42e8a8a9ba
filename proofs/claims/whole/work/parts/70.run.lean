/-! ===== run ===== -/
def rn (B : Nat → Bool) (lg : Bool) : Nat → Nat × Nat
  | 0 => (0, 0)
  | i + 1 => if B i then (i + 1, if (rn B lg i).1 ≠ 0 ∧ ((rn B lg i).2 = 0 ∨ (if lg then (rn B lg i).2 < i - (rn B lg i).1 + 1 else i - (rn B lg i).1 + 1 < (rn B lg i).2)) then i - (rn B lg i).1 + 1 else (rn B lg i).2) else rn B lg i
theorem rn_s (B : Nat → Bool) (lg : Bool) (i : Nat) : rn B lg (i + 1) = if B i then (i + 1, if (rn B lg i).1 ≠ 0 ∧ ((rn B lg i).2 = 0 ∨ (if lg then (rn B lg i).2 < i - (rn B lg i).1 + 1 else i - (rn B lg i).1 + 1 < (rn B lg i).2)) then i - (rn B lg i).1 + 1 else (rn B lg i).2) else rn B lg i := rfl
theorem rn_le (B : Nat → Bool) (lg : Bool) : ∀ i, (rn B lg i).1 ≤ i ∧ (rn B lg i).2 ≤ i := by
  intro i
  induction i with
  | zero => exact ⟨Nat.le_refl _, Nat.le_refl _⟩
  | succ i ih =>
    rw [rn_s]
    cases B i
    · exact ⟨by have := ih.1; simp only [Bool.false_eq_true, if_false]; omega, by have := ih.2; simp only [Bool.false_eq_true, if_false]; omega⟩
    · simp only [if_true]
      refine ⟨Nat.le_refl _, ?_⟩
      by_cases h : (rn B lg i).1 ≠ 0 ∧ ((rn B lg i).2 = 0 ∨ (if lg then (rn B lg i).2 < i - (rn B lg i).1 + 1 else i - (rn B lg i).1 + 1 < (rn B lg i).2))
      · rw [if_pos h]; omega
      · rw [if_neg h]; omega
theorem rn_const (B : Nat → Bool) (lg : Bool) (N : Nat) (h : ∀ t, N ≤ t → B t = false) : ∀ m, rn B lg (N + m) = rn B lg N
  | 0 => rfl
  | m + 1 => by
    rw [show N + (m + 1) = (N + m) + 1 from rfl, rn_s, h (N + m) (by omega)]
    simp only [Bool.false_eq_true, if_false]
    exact rn_const B lg N h m
def gv (i l : Nat) : Int32 := if l = 0 then -1 else nI (i - l)
theorem nI_m1 {a : Nat} (h : a < 2147483648) : ¬ nI a = (-1 : Int32) := fun q => by
  have := congrArg Int32.toInt q
  rw [nI_ti h] at this
  have e : (-1 : Int32).toInt = -1 := by decide
  omega
theorem run_in {j : Int32 → Int32 → Option Int32} {r x1 : Int32} {B : Nat → Bool} {base : Nat} (hb : base ≤ 360000) (hB : ∀ t, t < 32 → bt r (31 - t) = B (base + t)) : ∀ (F K : Nat), K ≤ 32 → K < F →
    fX3_extremeRun_L31 j r x1 F (dn K) (gv (base + (32 - K)) (rn B (!decide (x1 = 0)) (base + (32 - K))).1) (dn (rn B (!decide (x1 = 0)) (base + (32 - K))).2) = j (gv (base + 32) (rn B (!decide (x1 = 0)) (base + 32)).1) (dn (rn B (!decide (x1 = 0)) (base + 32)).2) := by
  intro F
  induction F with
  | zero => intro K _ h; omega
  | succ F ih =>
    intro K hK hF
    rw [fX3_extremeRun_L31.eq_2]
    cases K with
    | zero => rw [if_pos dn_0]
    | succ k =>
      have hi := ih k (by omega) (by omega)
      have ei : base + (32 - k) = base + (32 - (k + 1)) + 1 := by omega
      rw [ei, rn_s] at hi
      have hbit := hB (31 - k) (by omega)
      rw [show 31 - (31 - k) = k from by omega, show base + (31 - k) = base + (32 - (k + 1)) from by omega] at hbit
      have hle := rn_le B (!decide (x1 = 0)) (base + (32 - (k + 1)))
      have hiB : base + (32 - (k + 1)) ≤ 400000 := by omega
      generalize base + (32 - (k + 1)) = i at *
      generalize rn B (!decide (x1 = 0)) i = s at *
      obtain ⟨l, b⟩ := s
      dsimp only at hle hi ⊢
      rw [show dn (k + 1) = nI k from rfl, if_neg (nI_pos (by omega)), bt_tst r k (by omega), hbit, dn_s]
      simp only [jkE, nmE]
      generalize B i = bb at *
      cases bb with
      | false =>
        rw [if_pos (show b01 false = (0 : Int32) from rfl)]
        simp only [Bool.false_eq_true, if_false] at hi
        unfold gv at hi ⊢
        by_cases hl : l = 0
        · rw [if_pos hl] at hi ⊢
          rw [if_pos rfl]
          exact hi
        · rw [if_neg hl] at hi ⊢
          rw [if_neg (nI_m1 (by omega)), show (1 : Int32) = nI 1 from rfl, nI_add, show i - l + 1 = i + 1 - l from by omega]
          exact hi
      | true =>
        rw [if_neg (show ¬ b01 true = (0 : Int32) from by decide)]
        simp only [if_true] at hi
        have hg : gv (i + 1) (i + 1) = 0 := by
          unfold gv
          rw [if_neg (by omega), Nat.sub_self]; rfl
        rw [hg] at hi
        by_cases hl : l = 0
        · rw [show gv i l = -1 from if_pos hl, if_pos rfl]
          rw [if_neg (fun q => q.1 hl)] at hi
          exact hi
        · rw [show gv i l = nI (i - l) from if_neg hl, if_neg (nI_m1 (by omega))]
          by_cases hb0 : b = 0
          · subst hb0
            rw [if_pos (show dn 0 = (-1 : Int32) from rfl)]
            rw [if_pos ⟨hl, Or.inl rfl⟩] at hi
            exact hi
          · obtain ⟨c, rfl⟩ : ∃ c, b = c + 1 := ⟨b - 1, by omega⟩
            rw [show dn (c + 1) = nI c from rfl]
            rw [if_neg (nI_m1 (by omega))]
            by_cases hx : x1 = 0
            · rw [if_pos hx]
              by_cases hq : c ≤ i - l
              · rw [if_pos (nI_le hq (by omega))]
                rw [if_neg (fun q => by
                  rcases q.2 with q | q
                  · omega
                  · rw [decide_eq_true hx] at q; simp only [Bool.not_true, Bool.false_eq_true, if_false] at q; omega)] at hi
                exact hi
              · rw [if_neg (nI_ge (by omega) (by omega))]
                rw [if_pos ⟨hl, Or.inr (by rw [decide_eq_true hx]; simp only [Bool.not_true, Bool.false_eq_true, if_false]; omega)⟩] at hi
                exact hi
            · rw [if_neg hx]
              by_cases hq : i - l ≤ c
              · rw [if_pos (nI_le hq (by omega))]
                rw [if_neg (fun q => by
                  rcases q.2 with q | q
                  · omega
                  · rw [decide_eq_false hx] at q; simp only [Bool.not_false, if_true] at q; omega)] at hi
                exact hi
              · rw [if_neg (nI_ge (by omega) (by omega))]
                rw [if_pos ⟨hl, Or.inr (by rw [decide_eq_false hx]; simp only [Bool.not_false, if_true]; omega)⟩] at hi
                exact hi
theorem runC {pk : Nat → Int32} {x1 : Int32} {N : Nat} (hN : N ≤ 360000) (hz : ∀ t, N ≤ t → pb pk t = false) : ∀ (F k : Nat), 32 * k < N + 32 → 20000 - k < F →
    fX3_extremeRun_L7 (nI N) pk x1 F (nI k) (gv (32 * k) (rn (pb pk) (!decide (x1 = 0)) (32 * k)).1) (dn (rn (pb pk) (!decide (x1 = 0)) (32 * k)).2) = some (dn (rn (pb pk) (!decide (x1 = 0)) N).2) := by
  intro F
  induction F with
  | zero => intro k _ h; omega
  | succ F ih =>
    intro k hk hF
    rw [fX3_extremeRun_L7.eq_2, show (32 : Int32) * nI k = nI (32 * k) from pk_mul 32 k]
    by_cases h1 : N ≤ 32 * k
    · rw [if_pos (nI_le h1 (by omega))]
      have := rn_const (pb pk) (!decide (x1 = 0)) N hz (32 * k - N)
      rw [show N + (32 * k - N) = 32 * k from by omega] at this
      rw [this]
    · rw [if_neg (nI_ge (by omega) (by omega)), cell_eq (by omega), ob1E]
      simp only [jkE, nmE]
      have := run_in (j := fun x3 x2 => fX3_extremeRun_L7 (nI N) pk x1 F (nI k + 1) x3 x2) (r := if k < 11250 then pk k else 0) (x1 := x1) (B := pb pk) (base := 32 * k) (by omega) (fun t ht => by
        rw [cell_bt pk k (31 - t) (by omega)]; congr 1; omega) FU 32 (by omega) (by rw [FU_eq]; omega)
      rw [show 32 * k + (32 - 32) = 32 * k from by omega] at this
      have t2 : fX3_extremeRun_L31 (fun x3 x2 => fX3_extremeRun_L7 (nI N) pk x1 F (nI k + 1) x3 x2) (if k < 11250 then pk k else 0) x1 FU 31 (gv (32 * k) (rn (pb pk) (!decide (x1 = 0)) (32 * k)).1) (dn (rn (pb pk) (!decide (x1 = 0)) (32 * k)).2) = _ := this
      rw [t2, nI_1, show 32 * k + 32 = 32 * (k + 1) from by omega]
      exact ih (k + 1) (by omega) (by omega)
theorem runR {pk bi : Nat → Int32} {x1 : Int32} {N : Nat} (hN : N ≤ 360000) (hb : ∀ i, i < N → bi i = b01 (pb pk i)) : ∀ (F k : Nat), k ≤ N → N - k < F →
    fX10_run_L12 (nI N) bi x1 F (nI k) (dn (rn (pb pk) (!decide (x1 = 0)) k).1) (dn (rn (pb pk) (!decide (x1 = 0)) k).2) = some (dn (rn (pb pk) (!decide (x1 = 0)) N).2, 0) := by
  intro F
  induction F with
  | zero => intro k _ h; omega
  | succ F ih =>
    intro i hk hF
    rw [fX10_run_L12.eq_2]
    by_cases h1 : N ≤ i
    · rw [if_pos (nI_le h1 (by omega)), show i = N from by omega]
    · rw [if_neg (nI_ge (by omega) (by omega)), og_nI (by omega) (by omega), nI_clamp (by omega), hb i (by omega)]
      simp only [jkE, nmE]
      rw [nI_1]
      have hi := ih (i + 1) (by omega) (by omega)
      rw [rn_s] at hi
      have hle := rn_le (pb pk) (!decide (x1 = 0)) i
      have hi4 : i ≤ 360000 := by omega
      generalize rn (pb pk) (!decide (x1 = 0)) i = s at *
      obtain ⟨l, b⟩ := s
      dsimp only at hle hi ⊢
      generalize pb pk i = bb at *
      cases bb with
      | false =>
        rw [if_pos (show b01 false = (0 : Int32) from rfl)]
        exact hi
      | true =>
        rw [if_neg (show ¬ b01 true = (0 : Int32) from by decide)]
        simp only [if_true] at hi
        rw [show dn (i + 1) = nI i from rfl] at hi
        by_cases hl : l = 0
        · subst hl
          rw [if_pos dn_0, if_pos trivial]
          rw [if_neg (fun q => q.1 rfl)] at hi
          exact hi
        · obtain ⟨q, rfl⟩ : ∃ q, l = q + 1 := ⟨l - 1, by omega⟩
          rw [show dn (q + 1) = nI q from rfl, if_neg (nI_pos (by omega)), pk_sub (by omega), show nI (i - q) - (1 : Int32) = nI (i - (q + 1)) from pk_sub (b := 1) (by omega), if_neg ne10]
          by_cases hb0 : b = 0
          · subst hb0
            rw [if_pos dn_0]
            rw [if_pos ⟨by omega, Or.inl rfl⟩] at hi
            exact hi
          · obtain ⟨c, rfl⟩ : ∃ c, b = c + 1 := ⟨b - 1, by omega⟩
            rw [show dn (c + 1) = nI c from rfl]
            rw [if_neg (nI_pos (by omega)), if_pos trivial]
            by_cases hx : x1 = 0
            · rw [if_pos hx]
              by_cases hq : c ≤ i - (q + 1)
              · rw [if_pos (nI_le hq (by omega))]
                rw [if_neg (fun q => by
                  rcases q.2 with q | q
                  · omega
                  · rw [decide_eq_true hx] at q; simp only [Bool.not_true, Bool.false_eq_true, if_false] at q; omega)] at hi
                exact hi
              · rw [if_neg (nI_ge (by omega) (by omega))]
                rw [if_pos ⟨by omega, Or.inr (by rw [decide_eq_true hx]; simp only [Bool.not_true, Bool.false_eq_true, if_false]; omega)⟩] at hi
                exact hi
            · rw [if_neg hx]
              by_cases hq : i - (q + 1) ≤ c
              · rw [if_pos (nI_le hq (by omega))]
                rw [if_neg (fun q => by
                  rcases q.2 with q | q
                  · omega
                  · rw [decide_eq_false hx] at q; simp only [Bool.not_false, if_true] at q; omega)] at hi
                exact hi
              · rw [if_neg (nI_ge (by omega) (by omega))]
                rw [if_pos ⟨by omega, Or.inr (by rw [decide_eq_false hx]; simp only [Bool.not_false, if_true]; omega)⟩] at hi
                exact hi
theorem ID_pb {n : Nat} {sz pr len mpr msf : Int32} {pk bi : Nat → Int32} {N : Nat} (hD : ID n sz pr pk len mpr msf bi) (hN : N ≤ 360000) (e : sz = nI N) : (∀ i, i < N → bi i = b01 (pb pk i)) ∧ ∀ t, N ≤ t → pb pk t = false := by
  have b2 := nI_ti (n := N) (by omega)
  refine ⟨fun i hi => ?_, fun t ht => ?_⟩
  · rw [hD.2.2.2.1 i (by rw [e, b2]; omega)]; unfold pb; rw [decide_eq_true (by omega)]; rfl
  · unfold pb
    by_cases q : t < 360000
    · rw [hD.2.2.2.2 t (by rw [e, b2]; omega) q]; simp
    · rw [decide_eq_false q]; rfl
theorem op_run : OP14 Inv := by
  intro n xi xa xl mi ma y0 hn h hy
  obtain ⟨hC, hS, hE, hB, hD, hP⟩ := id h
  obtain ⟨N, hN, e1, e2⟩ := ID_sz hD
  obtain ⟨p1, p2⟩ := ID_pb hD hN e1
  refine ⟨dn (rn (pb (xa 19)) (!decide (y0 = 0)) N).2, dn (rn (pb (xa 19)) (!decide (y0 = 0)) N).2, 0, ?_, ?_, rfl, hC, hS, hE, hB, hD.mono, hP⟩
  · unfold fX9_run fX3_extremeRun
    have := runC (x1 := y0) hN p2 FU 0 (by omega) (by rw [FU_eq]; omega)
    have t2 : fX3_extremeRun_L7 (nI N) (xa 19) y0 FU 0 (-1) (-1) = _ := this
    rw [e1, t2, ob1E]
  · unfold fX10_run
    rw [e2]
    exact runR (x1 := y0) hN p1 FU 0 (by omega) (by rw [FU_eq]; omega)
