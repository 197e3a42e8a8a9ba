/-! ===== the disc's bits ===== -/
def pb (pk : Nat → Int32) (i : Nat) : Bool := decide (i < 360000) && pbit pk i
def tkN (B : Nat → Bool) (i : Nat) : Nat → Nat
  | 0 => 0
  | k + 1 => 2 * tkN B i k + (B (i + k)).toNat
theorem tk_lt (B : Nat → Bool) (i : Nat) : ∀ k, tkN B i k < 2 ^ k
  | 0 => by show 0 < 1; omega
  | k + 1 => by
    have := tk_lt B i k
    rw [tkN, Nat.pow_succ]
    cases B (i + k) <;> simp <;> omega
theorem tk_bit (B : Nat → Bool) (i : Nat) : ∀ (n j : Nat), (tkN B i n).testBit j = (decide (j < n) && B (i + (n - 1 - j)))
  | 0, j => by simp [tkN]
  | n + 1, 0 => by
    rw [tkN, Nat.testBit_zero]
    cases h : B (i + n)
    · simp [h]
    · simp [h]
  | n + 1, j + 1 => by
    rw [tkN, Nat.testBit_succ, show (2 * tkN B i n + (B (i + n)).toNat) / 2 = tkN B i n by cases B (i + n) <;> simp <;> omega, tk_bit B i n j]
    congr 1
    · simp
    · congr 1; omega
theorem bt_nI (m j : Nat) : bt (nI m) j = (decide (j < 32) && m.testBit j) := by
  unfold bt
  show (BitVec.ofNat 32 m).getLsbD j = _
  rw [BitVec.getLsbD_ofNat]
theorem nx_or (a b : Nat) : nI a ||| nI b = nI (a ||| b) := by
  apply b_ext
  intro i hi
  rw [b_or, bt_nI, bt_nI, bt_nI, Nat.testBit_or]
  cases decide (i < 32) <;> simp
theorem or_low (v : Nat) (b : Bool) : (2 * v) ||| b.toNat = 2 * v + b.toNat := by
  have h := Nat.shiftLeft_add_eq_or_of_lt (i := 1) (b := b.toNat) (by cases b <;> decide) v
  rw [Nat.shiftLeft_eq, Nat.mul_comm] at h
  exact h.symm
theorem bit_eq {len : Int32} {bi pk : Nat → Int32} {n : Nat} {pr mpr msf sz : Int32} (hD : ID n sz pr pk len mpr msf bi) {i : Nat} (hi : i < 2147483648) : fX10_bit len bi (nI i) = some (nI (pb pk i).toNat) := by
  obtain ⟨d1, d2, d3, d4, d5⟩ := hD
  unfold fX10_bit
  have hsz : 0 ≤ sz.toInt ∧ sz.toInt ≤ 360000 := by
    rcases d3 with ⟨-, h⟩ | ⟨sf, N, -, -, -, -, h, -, h2⟩
    · rw [h]; decide
    · rw [h, nI_ti (by omega)]; omega
  rw [if_neg (nI_pos (by omega))]
  by_cases h : len ≤ nI i
  · rw [if_pos h]
    have h2 := ti_le.mp h
    rw [nI_ti hi, ← d1] at h2
    unfold pb
    by_cases h3 : i < 360000
    · rw [d5 i h2 h3]; simp; rfl
    · rw [decide_eq_false h3]; rfl
  · rw [if_neg h]
    have h2 : ¬ len.toInt ≤ i := fun q => h (ti_le.mpr (by rw [nI_ti hi]; exact q))
    rw [← d1] at h2
    rw [og_nI (by omega) (by omega), nI_clamp (by omega), d4 i (by omega)]
    unfold pb b01
    rw [decide_eq_true (by omega : i < 360000)]
    cases pbit pk i <;> rfl
theorem taken_loop {len : Int32} {bi pk : Nat → Int32} {n : Nat} {pr mpr msf sz : Int32} (hD : ID n sz pr pk len mpr msf bi) {i m : Nat} (hi : i < 1000000) (hm : m ≤ 32) : ∀ (F k : Nat), k ≤ m → m - k < F → fX10_taken_L5 (nI m) len bi (nI i) F (nI k) (nI (tkN (pb pk) i k)) = some (nI (tkN (pb pk) i m)) := by
  intro F
  induction F with
  | zero => intro k h1 h2; omega
  | succ F ih =>
    intro k h1 h2
    rw [fX10_taken_L5.eq_2]
    by_cases hc : m ≤ k
    · rw [if_pos (by rw [nI_leI (by omega) (by omega)]; exact hc)]
      have : k = m := by omega
      subst this
      rfl
    · rw [if_neg (by rw [nI_leI (by omega) (by omega)]; exact hc), nI_add, bit_eq hD (by omega)]
      dsimp only [ob1, nm]
      have hih := ih (k + 1) (by omega) (by omega)
      rw [tkN] at hih
      have hlt := tk_lt (pb pk) i k
      have hp : 2 ^ k ≤ 2 ^ 31 := Nat.pow_le_pow_right (by omega) (by omega)
      have e1 : nI (tkN (pb pk) i k) <<< ((1 : Int32) &&& 31) = nI (2 * tkN (pb pk) i k) := by
        rw [pk_shlN ((1 : Int32) &&& 31) 1 (by decide) (by omega), Nat.mul_comm]
      rw [e1, nx_or, or_low, show nI k + (1 : Int32) = nI (k + 1) from nI_1 _]
      exact hih
theorem taken_eq {len : Int32} {bi pk : Nat → Int32} {n : Nat} {pr mpr msf sz : Int32} (hD : ID n sz pr pk len mpr msf bi) {i m : Nat} (hi : i < 1000000) (hm : m ≤ 32) : fX10_taken len bi (nI i) (nI m) = some (nI (tkN (pb pk) i m)) := by
  unfold fX10_taken
  exact taken_loop hD hi hm FU 0 (by omega) (by rw [FU_eq]; omega)

theorem shr5 {i : Nat} (h : i < 2147483648) : nI i >>> ((5 : Int32) &&& 31) = nI (i / 32) := pk_shrN h ((5 : Int32) &&& 31) 5 (by decide)
theorem and31 {i : Nat} (h : i < 2147483648) : nI i &&& (31 : Int32) = nI (i % 32) := pk_andN (by omega) (m := 31) 5 (by decide)
theorem cell_eq {pk : Nat → Int32} {k : Nat} (hk : k < 2147483648) : fX3_cell pk (nI k) = some (if k < 11250 then pk k else 0) := by
  unfold fX3_cell
  rw [if_neg (nI_pos (by omega))]
  by_cases h : k < 11250
  · rw [if_neg (fun q => by have := (nI_leI (a := 11250) (b := k) (by omega) (by omega)).mp q; omega), og_nI h (by omega), nI_clamp (by omega), if_pos h]
  · rw [if_pos (show (11250 : Int32) ≤ nI k from (nI_leI (a := 11250) (by omega) (by omega)).mpr (by omega)), if_neg h]
theorem cell_bt (pk : Nat → Int32) (k j : Nat) (hj : j < 32) : bt (if k < 11250 then pk k else 0) j = pb pk (32 * k + (31 - j)) := by
  unfold pb pbit
  rw [show (32 * k + (31 - j)) / 32 = k by omega, show 31 - (32 * k + (31 - j)) % 32 = j by omega]
  by_cases h : k < 11250
  · rw [if_pos h, decide_eq_true (by omega)]; rfl
  · rw [if_neg h, decide_eq_false (by omega), b_0]; rfl
theorem peek_eq {pk : Nat → Int32} {i : Nat} (hi : i < 1000000) : fX3_peek pk (nI i) = some (nI (tkN (pb pk) i 32)) := by
  unfold fX3_peek
  rw [shr5 (by omega), and31 (by omega)]
  dsimp only [nm]
  have key : ∀ x : Int32, (∀ j, j < 32 → bt x j = pb pk (i + (31 - j))) → some x = some (nI (tkN (pb pk) i 32)) := by
    intro x hx
    congr 1
    apply b_ext
    intro j hj
    rw [hx j hj, bt_nI, tk_bit, decide_eq_true hj]
    rfl
  by_cases h : i % 32 = 0
  · rw [if_pos (by rw [h]; rfl), cell_eq (by omega)]
    refine key _ (fun j hj => ?_)
    rw [cell_bt pk _ j hj]
    congr 1; omega
  · rw [if_neg (show ¬ nI (i % 32) = (0 : Int32) from fun q => h ((nI_eq (b := 0) (by omega) (by omega)).mp q)), cell_eq (by omega), show nI (i / 32) + (1 : Int32) = nI (i / 32 + 1) from nI_1 _, cell_eq (by omega), show (32 : Int32) - nI (i % 32) = nI (32 - i % 32) from pk_sub (a := 32) (by omega)]
    dsimp only [ob1]
    refine key _ (fun j hj => ?_)
    rw [b_or, b_shl _ (by omega) _ hj, b_ushr _ (by omega)]
    by_cases h2 : i % 32 ≤ j
    · rw [cell_bt pk _ _ (by omega), decide_eq_true h2, b_big (by omega)]
      simp
      congr 1; omega
    · rw [decide_eq_false h2, Bool.false_and, Bool.false_or, cell_bt pk _ _ (by omega)]
      congr 1; omega
