/-! ===== numbers ===== -/
theorem ti_add {x y : Int32} (h1 : -2147483648 ≤ x.toInt + y.toInt) (h2 : x.toInt + y.toInt < 2147483648) : (x + y).toInt = x.toInt + y.toInt := by
  rw [Int32.toInt_add]; exact Int.bmod_eq_of_le (by omega) (by omega)
theorem ti_sub {x y : Int32} (h1 : -2147483648 ≤ x.toInt - y.toInt) (h2 : x.toInt - y.toInt < 2147483648) : (x - y).toInt = x.toInt - y.toInt := by
  rw [Int32.toInt_sub]; exact Int.bmod_eq_of_le (by omega) (by omega)
theorem ti_mul {x y : Int32} (h1 : -2147483648 ≤ x.toInt * y.toInt) (h2 : x.toInt * y.toInt < 2147483648) : (x * y).toInt = x.toInt * y.toInt := by
  rw [Int32.toInt_mul]; exact Int.bmod_eq_of_le (by omega) (by omega)
theorem ti_lo (x : Int32) : -2147483648 ≤ x.toInt := Int32.le_toInt x
theorem ti_hi (x : Int32) : x.toInt < 2147483648 := Int32.toInt_lt x
theorem ti_lt {x y : Int32} : x < y ↔ x.toInt < y.toInt := Int32.lt_iff_toInt_lt
theorem ti_le {x y : Int32} : x ≤ y ↔ x.toInt ≤ y.toInt := Int32.le_iff_toInt_le
theorem ti_eq {x y : Int32} : x = y ↔ x.toInt = y.toInt := Int32.toInt_inj.symm
theorem tl_lt {x y : Int64} : x < y ↔ x.toInt < y.toInt := Int64.lt_iff_toInt_lt
theorem tl_le {x y : Int64} : x ≤ y ↔ x.toInt ≤ y.toInt := Int64.le_iff_toInt_le
theorem tl_eq {x y : Int64} : x = y ↔ x.toInt = y.toInt := Int64.toInt_inj.symm
theorem tl_i (x : Int32) : (x.toInt64).toInt = x.toInt := Int32.toInt_toInt64 x
theorem tl_add {x y : Int64} (h1 : -9223372036854775808 ≤ x.toInt + y.toInt) (h2 : x.toInt + y.toInt < 9223372036854775808) : (x + y).toInt = x.toInt + y.toInt := by
  rw [Int64.toInt_add]; exact Int.bmod_eq_of_le (by omega) (by omega)
theorem ix_iff {i : Int32} {n : Nat} : ixb i n = true ↔ 0 ≤ i.toInt ∧ i.toInt < n := by
  constructor
  · intro h; exact vp_in_iff.mp (ixb_in h)
  · intro h
    have := vp_in_iff.mpr h
    unfold vp_in at this
    unfold ixb
    simpa using this
theorem cl_ti {i : Int32} (h : 0 ≤ i.toInt) : (i.toNatClampNeg : Int) = i.toInt := by
  rw [← Int32.toNat_toInt]; omega
theorem og_t {β : Type} {b : Bool} {k : Option β} (h : b = true) : og b k = k := by subst h; rfl
theorem og_ix {β : Type} {i : Int32} {n : Nat} {k : Option β} (h : 0 ≤ i.toInt ∧ i.toInt < n) : og (ixb i n) k = k := og_t (ix_iff.mpr h)
theorem lg_lt0 (x y : Int64) : (lg_cmp x y < 0) ↔ x.toInt < y.toInt := by
  unfold lg_cmp
  by_cases h : x > y
  · rw [if_pos h]
    have := tl_lt.mp h
    constructor
    · intro q; exact absurd q (by decide)
    · intro q; omega
  · rw [if_neg h]
    have h1 : ¬ y.toInt < x.toInt := fun q => h (tl_lt.mpr q)
    by_cases h2 : x = y
    · rw [if_pos h2]
      subst h2
      constructor
      · intro q; exact absurd q (by decide)
      · intro q; omega
    · rw [if_neg h2]
      have h3 : x.toInt ≠ y.toInt := fun q => h2 (tl_eq.mpr q)
      constructor
      · intro _; omega
      · intro _; decide
theorem lg_gt0 (x y : Int64) : (0 < lg_cmp x y) ↔ y.toInt < x.toInt := by
  unfold lg_cmp
  by_cases h : x > y
  · rw [if_pos h]
    have := tl_lt.mp h
    constructor
    · intro _; exact this
    · intro _; decide
  · rw [if_neg h]
    have h1 : ¬ y.toInt < x.toInt := fun q => h (tl_lt.mpr q)
    by_cases h2 : x = y
    · rw [if_pos h2]
      constructor
      · intro q; exact absurd q (by decide)
      · intro q; exact absurd q h1
    · rw [if_neg h2]
      constructor
      · intro q; exact absurd q (by decide)
      · intro q; exact absurd q h1
theorem lg_le0 (x y : Int64) : (lg_cmp x y ≤ 0) ↔ x.toInt ≤ y.toInt := by
  have := lg_gt0 x y
  rw [← Int32.not_lt, this]; omega
theorem in_eq (a b c : Int64) : fX10_in a b c = if b.toInt ≤ a.toInt ∧ a.toInt ≤ c.toInt then 1 else 0 := by
  unfold fX10_in
  by_cases h1 : a.toInt < b.toInt
  · rw [if_pos ((lg_lt0 _ _).mpr h1), if_neg (by omega)]
  · rw [if_neg (fun q => h1 ((lg_lt0 _ _).mp q))]
    by_cases h2 : c.toInt < a.toInt
    · rw [if_pos ((lg_gt0 _ _).mpr h2), if_neg (by omega)]
    · rw [if_neg (fun q => h2 ((lg_gt0 _ _).mp q)), if_pos (by omega)]
theorem in_1 {a b c : Int64} (h : b.toInt ≤ a.toInt ∧ a.toInt ≤ c.toInt) : fX10_in a b c = 1 := by rw [in_eq, if_pos h]
theorem in_0 {a b c : Int64} (h : ¬ (b.toInt ≤ a.toInt ∧ a.toInt ≤ c.toInt)) : fX10_in a b c = 0 := by rw [in_eq, if_neg h]
theorem ne10 : ¬ (1 : Int32) = 0 := by decide
theorem zb0 : zb 0 = true := rfl
theorem zb1 : zb 1 = true := rfl
theorem i_lit {n : Nat} (h : n < 2147483648) : (Int32.ofNat n).toInt = n := nI_toInt h
theorem nI_ti {n : Nat} (h : n < 2147483648) : (nI n).toInt = n := nI_toInt h
theorem i_of {x : Int32} (h : 0 ≤ x.toInt) : ∃ n : Nat, n < 2147483648 ∧ x = nI n := by
  refine ⟨x.toInt.toNat, by have := ti_hi x; omega, ?_⟩
  rw [ti_eq, nI_toInt (by have := ti_hi x; omega)]; omega
theorem vnb (x : Int32) : vp_nar .byte x = x.toInt8.toInt32 := rfl
theorem vnz (x : Int32) : vp_nar .boolean x = x &&& 1 := rfl
