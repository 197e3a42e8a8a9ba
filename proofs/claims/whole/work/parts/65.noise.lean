theorem tl_588 (x : Int32) : ((588 : Int64) * Int32.toInt64 x).toInt = 588 * x.toInt := by
  rw [Int64.toInt_mul, tl_i]
  have h1 := ti_lo x
  have h2 := ti_hi x
  exact Int.bmod_eq_of_le (by show _ ≤ 588 * x.toInt; omega) (by show 588 * x.toInt < _; omega)
theorem lg_ge0 (x y : Int64) : (0 ≤ lg_cmp x y) ↔ y.toInt ≤ x.toInt := by
  have := lg_lt0 x y
  rw [← Int32.not_lt, this]; omega
theorem spoil_1 {N a m : Nat} (hN : N ≤ 360000) (ha : 588 * a < N) (hm : m ≤ 600) : fX9_canSpoil (nI N) (nI a) (nI m) = 1 := by
  unfold fX9_canSpoil fX3_size
  dsimp only [nt1]
  rw [if_neg (nI_pos (by omega)), if_neg (fun q => by have := (lg_ge0 _ _).mp q; rw [tl_588, tl_i, nI_ti (by omega), nI_ti (by omega)] at this; omega), if_neg (nI_pos (by omega)), if_neg (show ¬ (600 : Int32) < nI m from fun q => by have := (nI_ltI (a := 600) (by omega) (by omega)).mp q; omega)]
theorem reach_1 {N a m : Nat} (hN : N ≤ 360000) (ha : 588 * a < N) (hm : m ≤ 600) : fX10_reached (nI N) (nI a) (nI m) = nI (min (588 * m) (N - 588 * a)) := by
  unfold fX10_reached
  dsimp only [nt1, nm]
  have e : (nI N - (1 : Int32)).toInt = (N : Int) - 1 := by
    rw [show nI N - (1 : Int32) = nI (N - 1) from pk_sub (b := 1) (by omega), nI_ti (by omega)]; omega
  rw [in_1 (by rw [tl_588, tl_i, nI_ti (by omega), e]; show (0 : Int) ≤ _ ∧ _; omega), if_neg ne10, in_1 (by rw [tl_i, nI_ti (by omega)]; show (0 : Int) ≤ _ ∧ _ ≤ (600 : Int); omega), if_neg ne10]
  rw [show (588 : Int32) * nI a = nI (588 * a) from pk_mul 588 a, show (588 : Int32) * nI m = nI (588 * m) from pk_mul 588 m, pk_sub (by omega)]
  by_cases h : N - 588 * a < 588 * m
  · rw [if_pos (by rw [nI_ltI (by omega) (by omega)]; exact h), Nat.min_eq_right (by omega)]
  · rw [if_neg (by rw [nI_ltI (by omega) (by omega)]; exact h), Nat.min_eq_left (by omega)]
theorem spoil_0 {N : Nat} {x y : Int32} (hN : N ≤ 360000) (h : ¬ (0 ≤ x.toInt ∧ 588 * x.toInt < N ∧ 0 ≤ y.toInt ∧ y.toInt ≤ 600)) : fX9_canSpoil (nI N) x y = 0 ∧ fX10_reached (nI N) x y = -1 := by
  have e : (nI N - (1 : Int32)).toInt = (N : Int) - 1 := by
    rw [ti_sub]
    · rw [nI_ti (by omega)]; rfl
    · rw [nI_ti (by omega)]; show _ ≤ (N : Int) - 1; omega
    · rw [nI_ti (by omega)]; show (N : Int) - 1 < _; omega
  constructor
  · unfold fX9_canSpoil fX3_size
    dsimp only [nt1]
    by_cases h1 : x < 0
    · rw [if_pos h1]
    · have h1' : ¬ x.toInt < 0 := fun q => h1 (ti_lt.mpr q)
      rw [if_neg h1]
      by_cases h2 : 0 ≤ lg_cmp ((588 : Int64) * Int32.toInt64 x) (Int32.toInt64 (nI N))
      · rw [if_pos h2]
      · have h2' : ¬ (N : Int) ≤ 588 * x.toInt := fun q => h2 ((lg_ge0 _ _).mpr (by rw [tl_588, tl_i, nI_ti (by omega)]; exact q))
        rw [if_neg h2]
        by_cases h3 : y < 0
        · rw [if_pos h3]
        · have h3' : ¬ y.toInt < 0 := fun q => h3 (ti_lt.mpr q)
          rw [if_neg h3, if_pos (ti_lt.mpr (by show 600 < y.toInt; omega))]
  · unfold fX10_reached
    dsimp only [nt1, nm]
    by_cases h1 : 0 ≤ 588 * x.toInt ∧ 588 * x.toInt ≤ (N : Int) - 1
    · rw [in_1 (by rw [tl_588, tl_i, e]; exact h1), if_neg ne10, in_0 (by rw [tl_i]; show ¬ ((0 : Int) ≤ y.toInt ∧ y.toInt ≤ 600); omega)]
      rfl
    · rw [in_0 (by rw [tl_588, tl_i, e]; exact h1)]
      rfl
