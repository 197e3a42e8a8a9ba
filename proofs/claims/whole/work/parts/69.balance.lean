/-! ===== counting ones, balance ===== -/
theorem nx_ush2 {k j : Nat} (hk : k < 4294967296) (hj : j < 32) : ((nI k).toUInt32 >>> ((nI j).toUInt32 &&& Int32.toUInt32 31)).toInt32 = nI (k / 2 ^ j) := by
  have hs : k / 2 ^ j ≤ k := Nat.div_le_self _ _
  have e2 : UInt32.ofNat k >>> (UInt32.ofNat j &&& Int32.toUInt32 31) = UInt32.ofNat (k / 2 ^ j) := by
    apply UInt32.toNat_inj.1
    have h1 : (UInt32.ofNat k).toNat = k := Nat.mod_eq_of_lt (by omega)
    have h2 : (UInt32.ofNat (k / 2 ^ j)).toNat = k / 2 ^ j := Nat.mod_eq_of_lt (by omega)
    rw [UInt32.toNat_shiftRight, nx_cnt ⟨j, hj⟩, h1, h2, Nat.shiftRight_eq_div_pow]
  show (UInt32.ofNat k >>> (UInt32.ofNat j &&& Int32.toUInt32 31)).toInt32 = _
  rw [e2]
  rfl
theorem and_sp (k a b m n : Nat) (ha : a < 2 ^ k) (hm : m < 2 ^ k) : (2 ^ k * b + a) &&& (2 ^ k * n + m) = 2 ^ k * (b &&& n) + (a &&& m) := by
  apply Nat.eq_of_testBit_eq
  intro j
  rw [Nat.testBit_and, Nat.testBit_two_pow_mul_add _ ha, Nat.testBit_two_pow_mul_add _ hm, Nat.testBit_two_pow_mul_add _ (Nat.and_lt_two_pow _ hm)]
  by_cases h : j < k
  · simp [h]
  · simp [h]
theorem and_s8 {a b m n : Nat} (ha : a < 256) (hm : m < 256) : (256 * b + a) &&& (256 * n + m) = 256 * (b &&& n) + (a &&& m) := and_sp 8 a b m n ha hm
def B4 (a b c d : Nat) : Nat := 256 * (256 * (256 * d + c) + b) + a
theorem and_4 {a b c d m : Nat} (ha : a < 256) (hb : b < 256) (hc : c < 256) (hm : m < 256) : B4 a b c d &&& B4 m m m m = B4 (a &&& m) (b &&& m) (c &&& m) (d &&& m) := by
  unfold B4
  rw [and_s8 ha hm, and_s8 hb hm, and_s8 hc hm]
def q1 (v : Nat) : Nat := v - (v / 2 &&& 85)
def q2 (v : Nat) : Nat := (q1 v &&& 51) + (q1 v / 4 &&& 51)
def q3 (v : Nat) : Nat := (q2 v + q2 v / 16) &&& 15
def pop (B : Nat → Bool) : Nat → Nat
  | 0 => 0
  | n + 1 => pop B n + (B n).toNat
theorem qf1 : ∀ v, v < 256 → (v / 2 &&& 85) ≤ v := by decide +kernel
theorem qf2 : ∀ v, v < 256 → q2 v ≤ 68 ∧ q2 v % 16 ≤ 4 := by decide +kernel
theorem qf3 : ∀ v, v < 256 → q3 v = pop (fun j => v.testBit j) 8 ∧ q3 v ≤ 8 := by decide +kernel
theorem qm1 : ∀ v, v < 256 → ∀ t, t < 2 → ((v / 2 + 128 * t) &&& 85) = (v / 2 &&& 85) := by decide +kernel
theorem qm2 : ∀ v, v < 256 → ∀ t, t < 4 → ((v / 4 + 64 * t) &&& 51) = (v / 4 &&& 51) := by decide +kernel
theorem qm3 : ∀ v, v < 69 → ∀ t, t < 5 → ((v + v / 16 + 16 * t) &&& 15) = ((v + v / 16) &&& 15) := by decide +kernel
theorem pop_congr {A B : Nat → Bool} : ∀ n, (∀ i, i < n → A i = B i) → pop A n = pop B n
  | 0, _ => rfl
  | n + 1, h => by
    show pop A n + _ = pop B n + _
    rw [pop_congr n (fun i hi => h i (by omega)), h n (by omega)]
theorem pop_add (B : Nat → Bool) (m : Nat) : ∀ n, pop B (m + n) = pop B m + pop (fun t => B (m + t)) n
  | 0 => rfl
  | n + 1 => by
    show pop B (m + n) + _ = pop B m + (pop _ n + _)
    rw [pop_add B m n, Nat.add_assoc]; rfl
theorem pop_le (B : Nat → Bool) : ∀ n, pop B n ≤ n
  | 0 => Nat.le_refl _
  | n + 1 => by
    show pop B n + (B n).toNat ≤ n + 1
    have := pop_le B n
    have : (B n).toNat ≤ 1 := Bool.toNat_le _
    omega
theorem pop_byte {a Y : Nat} (ha : a < 256) (n : Nat) : pop (fun j => (256 * Y + a).testBit j) (8 + n) = q3 a + pop (fun j => Y.testBit j) n := by
  rw [pop_add, (qf3 a ha).1]
  congr 1
  · exact pop_congr 8 (fun i hi => by
      show (2 ^ 8 * Y + a).testBit i = _
      rw [Nat.testBit_two_pow_mul_add _ (show a < 2 ^ 8 from ha), if_pos hi])
  · exact pop_congr n (fun i hi => by
      show (2 ^ 8 * Y + a).testBit (8 + i) = _
      rw [Nat.testBit_two_pow_mul_add _ (show a < 2 ^ 8 from ha), if_neg (by omega), Nat.add_sub_cancel_left])
theorem bc_nat {a b c d : Nat} (ha : a < 256) (hb : b < 256) (hc : c < 256) (hd : d < 256) : fJ6_bitCount_0f7a4 (nI (B4 a b c d)) = nI (q3 a + q3 b + q3 c + q3 d) := by
  have hX : B4 a b c d < 4294967296 := by unfold B4; omega
  have fa := qf1 a ha
  have fb := qf1 b hb
  have fc := qf1 c hc
  have fd := qf1 d hd
  have s1 : B4 a b c d / 2 &&& B4 85 85 85 85 = B4 (a / 2 &&& 85) (b / 2 &&& 85) (c / 2 &&& 85) (d / 2 &&& 85) := by
    have e : B4 a b c d / 2 = B4 (a / 2 + 128 * (b % 2)) (b / 2 + 128 * (c % 2)) (c / 2 + 128 * (d % 2)) (d / 2 + 128 * 0) := by unfold B4; omega
    rw [e, and_4 (by omega) (by omega) (by omega) (by omega), qm1 a ha _ (by omega), qm1 b hb _ (by omega), qm1 c hc _ (by omega), qm1 d hd _ (by omega)]
  have x1 : B4 a b c d - (B4 a b c d / 2 &&& B4 85 85 85 85) = B4 (q1 a) (q1 b) (q1 c) (q1 d) := by
    rw [s1]; unfold B4 q1; omega
  have l1 : (B4 a b c d / 2 &&& B4 85 85 85 85) ≤ B4 a b c d := by rw [s1]; unfold B4; omega
  have ga : q1 a < 256 := by unfold q1; omega
  have gb : q1 b < 256 := by unfold q1; omega
  have gc : q1 c < 256 := by unfold q1; omega
  have gd : q1 d < 256 := by unfold q1; omega
  have x2 : (B4 (q1 a) (q1 b) (q1 c) (q1 d) &&& B4 51 51 51 51) + (B4 (q1 a) (q1 b) (q1 c) (q1 d) / 4 &&& B4 51 51 51 51) = B4 (q2 a) (q2 b) (q2 c) (q2 d) := by
    have e : B4 (q1 a) (q1 b) (q1 c) (q1 d) / 4 = B4 (q1 a / 4 + 64 * (q1 b % 4)) (q1 b / 4 + 64 * (q1 c % 4)) (q1 c / 4 + 64 * (q1 d % 4)) (q1 d / 4 + 64 * 0) := by unfold B4; omega
    rw [e, and_4 ga gb gc (by omega), and_4 (by omega) (by omega) (by omega) (by omega), qm2 _ ga _ (by omega), qm2 _ gb _ (by omega), qm2 _ gc _ (by omega), qm2 _ gd _ (by omega)]
    unfold B4 q2; omega
  have ha2 := qf2 a ha
  have hb2 := qf2 b hb
  have hc2 := qf2 c hc
  have hd2 := qf2 d hd
  have x3 : (B4 (q2 a) (q2 b) (q2 c) (q2 d) + B4 (q2 a) (q2 b) (q2 c) (q2 d) / 16) &&& B4 15 15 15 15 = B4 (q3 a) (q3 b) (q3 c) (q3 d) := by
    have e : B4 (q2 a) (q2 b) (q2 c) (q2 d) + B4 (q2 a) (q2 b) (q2 c) (q2 d) / 16 = B4 (q2 a + q2 a / 16 + 16 * (q2 b % 16)) (q2 b + q2 b / 16 + 16 * (q2 c % 16)) (q2 c + q2 c / 16 + 16 * (q2 d % 16)) (q2 d + q2 d / 16 + 16 * 0) := by unfold B4; omega
    rw [e, and_4 (by omega) (by omega) (by omega) (by omega), qm3 _ (by omega) _ (by omega), qm3 _ (by omega) _ (by omega), qm3 _ (by omega) _ (by omega), qm3 _ (by omega) _ (by omega)]
    rfl
  have ha3 := (qf3 a ha).2
  have hb3 := (qf3 b hb).2
  have hc3 := (qf3 c hc).2
  have hd3 := (qf3 d hd).2
  have h1 : B4 (q1 a) (q1 b) (q1 c) (q1 d) < 4294967296 := by unfold B4; omega
  have h2 : B4 (q2 a) (q2 b) (q2 c) (q2 d) < 4294967296 := by unfold B4; omega
  have h3 : B4 (q3 a) (q3 b) (q3 c) (q3 d) < 4294967296 := by unfold B4; omega
  have h4 : B4 (q3 a) (q3 b) (q3 c) (q3 d) + B4 (q3 a) (q3 b) (q3 c) (q3 d) / 256 < 4294967296 := by unfold B4; omega
  have x6 : (B4 (q3 a) (q3 b) (q3 c) (q3 d) + B4 (q3 a) (q3 b) (q3 c) (q3 d) / 256 + (B4 (q3 a) (q3 b) (q3 c) (q3 d) + B4 (q3 a) (q3 b) (q3 c) (q3 d) / 256) / 65536) % 64 = q3 a + q3 b + q3 c + q3 d := by
    clear h1 h2 h3 h4 x1 x2 x3 s1 l1
    unfold B4
    generalize q3 a = a' at *
    generalize q3 b = b' at *
    generalize q3 c = c' at *
    generalize q3 d = d' at *
    have k1 : (256 * (256 * (256 * d' + c') + b') + a') / 256 = 256 * (256 * d' + c') + b' := by omega
    rw [k1]
    have k2 : (256 * (256 * (256 * d' + c') + b') + a' + (256 * (256 * d' + c') + b')) / 65536 = 256 * d' + c' + d' := by omega
    rw [k2]
    omega
  unfold fJ6_bitCount_0f7a4
  simp only [nmE]
  have u1 := nx_ush2 (j := 1) hX (by omega)
  rw [show Int32.toUInt32 1 = (nI 1).toUInt32 from rfl, u1, show (1431655765 : Int32) = nI (B4 85 85 85 85) from rfl, nx_and, show (2 : Nat) ^ 1 = 2 from rfl, pk_sub l1, x1]
  have u2 := nx_ush2 (j := 2) h1 (by omega)
  rw [show Int32.toUInt32 2 = (nI 2).toUInt32 from rfl, u2, show (858993459 : Int32) = nI (B4 51 51 51 51) from rfl, nx_and, nx_and, show (2 : Nat) ^ 2 = 4 from rfl, nI_add, x2]
  have u3 := nx_ush2 (j := 4) h2 (by omega)
  rw [show Int32.toUInt32 4 = (nI 4).toUInt32 from rfl, u3, show (252645135 : Int32) = nI (B4 15 15 15 15) from rfl, nI_add, nx_and, show (2 : Nat) ^ 4 = 16 from rfl, x3]
  have u4 := nx_ush2 (j := 8) h3 (by omega)
  rw [show Int32.toUInt32 8 = (nI 8).toUInt32 from rfl, u4, nI_add, show (2 : Nat) ^ 8 = 256 from rfl]
  have u5 := nx_ush2 (j := 16) h4 (by omega)
  rw [show Int32.toUInt32 16 = (nI 16).toUInt32 from rfl, u5, nI_add, show (2 : Nat) ^ 16 = 65536 from rfl, show (63 : Int32) = nI 63 from rfl, nx_and, show (63 : Nat) = 2 ^ 6 - 1 from rfl, Nat.and_two_pow_sub_one_eq_mod, show (2 : Nat) ^ 6 = 64 from rfl, x6]
theorem nI_all (x : Int32) : x = nI x.toBitVec.toNat := by
  apply Int32.toBitVec_inj.1
  show x.toBitVec = BitVec.ofNat 32 x.toBitVec.toNat
  simp
theorem pop_B4 {a b c d : Nat} (ha : a < 256) (hb : b < 256) (hc : c < 256) (hd : d < 256) : pop (fun j => (B4 a b c d).testBit j) 32 = q3 a + q3 b + q3 c + q3 d := by
  unfold B4
  have h1 : pop (fun j => (256 * (256 * (256 * d + c) + b) + a).testBit j) 32 = _ := pop_byte (Y := 256 * (256 * d + c) + b) ha 24
  have h2 : pop (fun j => (256 * (256 * d + c) + b).testBit j) 24 = _ := pop_byte (Y := 256 * d + c) hb 16
  have h3 : pop (fun j => (256 * d + c).testBit j) 16 = _ := pop_byte (Y := d) hc 8
  have h4 := (qf3 d hd).1
  rw [h1, h2, h3, ← h4]; omega
theorem bitCount_eq (x : Int32) : fJ6_bitCount_0f7a4 x = nI (pop (bt x) 32) := by
  have hx := nI_all x
  have hX : x.toBitVec.toNat < 4294967296 := x.toBitVec.isLt
  generalize x.toBitVec.toNat = X at hx hX
  subst hx
  obtain ⟨a, b, c, d, ha, hb, hc, hd, e⟩ : ∃ a b c d, a < 256 ∧ b < 256 ∧ c < 256 ∧ d < 256 ∧ X = B4 a b c d :=
    ⟨X % 256, X / 256 % 256, X / 65536 % 256, X / 16777216, by omega, by omega, by omega, by omega, by unfold B4; omega⟩
  subst e
  rw [bc_nat ha hb hc hd, pop_congr (B := fun j => (B4 a b c d).testBit j) 32 (fun i hi => by rw [bt_nI, decide_eq_true hi]; rfl), pop_B4 ha hb hc hd]
/-! levels -/
def xr (B : Nat → Bool) (j : Nat) : Nat → Bool
  | 0 => false
  | n + 1 => xr B j n ^^ B (j + n)
theorem xr_add (B : Nat → Bool) (j m : Nat) : ∀ n, xr B j (m + n) = (xr B j m ^^ xr B (j + m) n)
  | 0 => by simp [xr]
  | n + 1 => by
    show (xr B j (m + n) ^^ B (j + (m + n))) = (xr B j m ^^ (xr B (j + m) n ^^ B (j + m + n)))
    rw [xr_add B j m n, Nat.add_assoc, Bool.xor_assoc]
theorem xr_false {B : Nat → Bool} {j : Nat} : ∀ n, (∀ i, i < n → B (j + i) = false) → xr B j n = false
  | 0, _ => rfl
  | n + 1, h => by
    show (xr B j n ^^ B (j + n)) = false
    rw [xr_false n (fun i hi => h i (by omega)), h n (by omega)]; rfl
def odd (P : Nat → Bool) : Nat → Bool
  | 0 => false
  | t + 1 => odd P t ^^ P t
theorem xr_odd (B : Nat → Bool) (n : Nat) : ∀ t, t ≤ n → xr B (n - t) t = odd (fun s => B (n - 1 - s)) t
  | 0, _ => rfl
  | t + 1, h => by
    have e := xr_add B (n - (t + 1)) 1 t
    rw [show 1 + t = t + 1 from by omega] at e
    rw [e, show n - (t + 1) + 1 = n - t from by omega, xr_odd B n t (by omega)]
    show ((false ^^ B (n - (t + 1) + 0)) ^^ _) = (odd _ t ^^ B (n - 1 - t))
    rw [Bool.xor_comm, Bool.false_xor]
    congr 2; omega
theorem rise_low (x : Int32) (x1 x2 x3 x4 x5 : Int32) (h1 : x1 = x ^^^ (UInt32.toInt32 (Int32.toUInt32 x >>> (Int32.toUInt32 1 &&& Int32.toUInt32 31)))) (h2 : x2 = x1 ^^^ (UInt32.toInt32 (Int32.toUInt32 x1 >>> (Int32.toUInt32 2 &&& Int32.toUInt32 31)))) (h3 : x3 = x2 ^^^ (UInt32.toInt32 (Int32.toUInt32 x2 >>> (Int32.toUInt32 4 &&& Int32.toUInt32 31)))) (h4 : x4 = x3 ^^^ (UInt32.toInt32 (Int32.toUInt32 x3 >>> (Int32.toUInt32 8 &&& Int32.toUInt32 31)))) (h5 : x5 = x4 ^^^ (UInt32.toInt32 (Int32.toUInt32 x4 >>> (Int32.toUInt32 16 &&& Int32.toUInt32 31)))) : ∀ j, bt x5 j = xr (bt x) j 32 := by
  have k1 : ∀ j, bt x1 j = xr (bt x) j 2 := fun j => by
    rw [h1, b_xor, show Int32.toUInt32 1 = (nI 1).toUInt32 from rfl, b_ushr 1 (by omega)]
    show _ = ((false ^^ bt x (j + 0)) ^^ bt x (j + 1))
    rw [Bool.false_xor, Nat.add_comm 1 j]; rfl
  have st : ∀ (y z : Int32) (n : Nat), n < 32 → (∀ j, bt y j = xr (bt x) j n) → z = y ^^^ (UInt32.toInt32 (Int32.toUInt32 y >>> ((nI n).toUInt32 &&& Int32.toUInt32 31))) → ∀ j, bt z j = xr (bt x) j (n + n) := fun y z n hn hy hz j => by
    rw [hz, b_xor, b_ushr n hn, xr_add, hy, hy, Nat.add_comm n j]
  exact st x4 x5 16 (by omega) (st x3 x4 8 (by omega) (st x2 x3 4 (by omega) (st x1 x2 2 (by omega) k1 h2) h3) h4) h5
theorem pop_rev (B : Nat → Bool) : ∀ n m, m ≤ n → pop (fun j => B j && decide (n - m ≤ j)) n = pop (fun t => B (n - 1 - t)) m
  | n, 0, _ => by
    rw [pop_congr (B := fun _ => false) n (fun i hi => by rw [decide_eq_false (by omega)]; simp)]
    show _ = 0
    induction n with
    | zero => rfl
    | succ n ih => show pop _ n + 0 = 0; rw [ih (by omega)]
  | 0, m + 1, h => by omega
  | n + 1, m + 1, h => by
    show pop _ n + (B n && decide (n + 1 - (m + 1) ≤ n)).toNat = _
    have e := pop_add (fun t => B (n + 1 - 1 - t)) 1 m
    rw [show 1 + m = m + 1 from by omega] at e
    rw [e, pop_congr (B := fun j => B j && decide (n - m ≤ j)) n (fun i hi => by rw [show n + 1 - (m + 1) = n - m from by omega]), pop_rev B n m (by omega), decide_eq_true (show n + 1 - (m + 1) ≤ n from by omega), Bool.and_true]
    rw [pop_congr (A := fun t => B (n + 1 - 1 - (1 + t))) (B := fun t => B (n - 1 - t)) m (fun i hi => by congr 1; omega)]
    show _ = 0 + (B n).toNat + _
    omega
def iI (z : Int) : Int32 := Int32.ofInt z
theorem iI_n (n : Nat) : nI n = iI n := by
  apply Int32.toBitVec_inj.1
  exact (BitVec.ofInt_natCast 32 n).symm
theorem iI_add (a b : Int) : iI a + iI b = iI (a + b) := (Int32.ofInt_add a b).symm
theorem iI_sub (a b : Int) : iI a - iI b = iI (a - b) := (Int32.ofInt_sub a b).symm
theorem iI_mul (a b : Int) : iI a * iI b = iI (a * b) := (Int32.ofInt_mul a b).symm
theorem iI_neg (a : Int) : -iI a = iI (-a) := (Int32.ofInt_neg a).symm
def lvl (P : Nat → Bool) (t : Nat) : Int := if odd P t then -1 else 1
def sm (P : Nat → Bool) : Nat → Int
  | 0 => 0
  | t + 1 => sm P t + lvl P (t + 1)
theorem lvl_s (P : Nat → Bool) (t : Nat) : lvl P (t + 1) = if P t then -lvl P t else lvl P t := by
  unfold lvl
  show (if (odd P t ^^ P t) = true then (-1 : Int) else 1) = _
  generalize odd P t = a
  generalize P t = b
  cases a <;> cases b <;> rfl
theorem sm_pop (P : Nat → Bool) : ∀ m : Nat, sm P m = m - 2 * (pop (fun t => odd P (t + 1)) m : Nat)
  | 0 => rfl
  | m + 1 => by
    show sm P m + lvl P (m + 1) = _
    rw [sm_pop P m]
    show _ = _ - 2 * ((pop (fun t => odd P (t + 1)) m + (odd P (m + 1)).toNat : Nat) : Int)
    unfold lvl
    cases odd P (m + 1)
    · show _ + (1 : Int) = _ - 2 * ((pop (fun t => odd P (t + 1)) m + 0 : Nat) : Int); omega
    · show _ + (-1 : Int) = _ - 2 * ((pop (fun t => odd P (t + 1)) m + 1 : Nat) : Int); omega
theorem odd_pop (P : Nat → Bool) : ∀ m : Nat, odd P m = decide (pop P m % 2 = 1)
  | 0 => rfl
  | m + 1 => by
    show (odd P m ^^ P m) = decide ((pop P m + (P m).toNat) % 2 = 1)
    rw [odd_pop P m]
    generalize pop P m = c
    cases P m
    · simp
    · rcases Nat.mod_two_eq_zero_or_one c with h | h
      · rw [h]; show (decide (0 = 1) ^^ true) = decide ((c + 1) % 2 = 1); rw [decide_eq_true (show (c + 1) % 2 = 1 from by omega)]; rfl
      · rw [h]; show (decide (1 = 1) ^^ true) = decide ((c + 1) % 2 = 1); rw [decide_eq_false (show ¬ (c + 1) % 2 = 1 from by omega)]; rfl
theorem odd_add (P : Nat → Bool) (k : Nat) : ∀ m, odd P (k + m) = (odd P k ^^ odd (fun t => P (k + t)) m)
  | 0 => by show odd P k = (odd P k ^^ false); simp
  | m + 1 => by
    show (odd P (k + m) ^^ P (k + m)) = (odd P k ^^ (odd _ m ^^ P (k + m)))
    rw [odd_add P k m, Bool.xor_assoc]
theorem lvl_add (P : Nat → Bool) (k m : Nat) : lvl P (k + m) = lvl P k * lvl (fun t => P (k + t)) m := by
  unfold lvl
  rw [odd_add]
  generalize odd P k = a
  generalize odd (fun t => P (k + t)) m = b
  cases a <;> cases b <;> rfl
theorem sm_add (P : Nat → Bool) (k : Nat) : ∀ m, sm P (k + m) = sm P k + lvl P k * sm (fun t => P (k + t)) m
  | 0 => by show sm P k = _ + _ * 0; simp
  | m + 1 => by
    show sm P (k + m) + lvl P (k + (m + 1)) = _ + _ * (sm _ m + lvl _ (m + 1))
    rw [sm_add P k m, lvl_add, Int.mul_add, Int.add_assoc]
theorem odd_congr {A B : Nat → Bool} : ∀ n, (∀ i, i < n → A i = B i) → odd A n = odd B n
  | 0, _ => rfl
  | n + 1, h => by
    show (odd A n ^^ _) = (odd B n ^^ _)
    rw [odd_congr n (fun i hi => h i (by omega)), h n (by omega)]
theorem sm_congr {A B : Nat → Bool} : ∀ n, (∀ i, i < n → A i = B i) → sm A n = sm B n
  | 0, _ => rfl
  | n + 1, h => by
    show sm A n + lvl A (n + 1) = sm B n + lvl B (n + 1)
    rw [sm_congr n (fun i hi => h i (by omega))]
    unfold lvl
    rw [odd_congr (n + 1) h]
theorem rise_eq (x : Int32) (m : Nat) (hm : m ≤ 32) : fX3_rise x (nI m) = iI (sm (fun t => bt x (31 - t)) m) := by
  unfold fX3_rise
  simp only [nt1E, nmE, jkE]
  generalize e1 : x ^^^ (UInt32.toInt32 (Int32.toUInt32 x >>> (Int32.toUInt32 1 &&& Int32.toUInt32 31))) = x1
  generalize e2 : x1 ^^^ (UInt32.toInt32 (Int32.toUInt32 x1 >>> (Int32.toUInt32 2 &&& Int32.toUInt32 31))) = x2
  generalize e3 : x2 ^^^ (UInt32.toInt32 (Int32.toUInt32 x2 >>> (Int32.toUInt32 4 &&& Int32.toUInt32 31))) = x3
  generalize e4 : x3 ^^^ (UInt32.toInt32 (Int32.toUInt32 x3 >>> (Int32.toUInt32 8 &&& Int32.toUInt32 31))) = x4
  generalize e5 : x4 ^^^ (UInt32.toInt32 (Int32.toUInt32 x4 >>> (Int32.toUInt32 16 &&& Int32.toUInt32 31))) = x5
  have hl := rise_low x x1 x2 x3 x4 x5 e1.symm e2.symm e3.symm e4.symm e5.symm
  have hlo : ∀ t, t < 32 → bt x5 (31 - t) = odd (fun s => bt x (31 - s)) (t + 1) := fun t ht => by
    have a1 := xr_odd (bt x) 32 (t + 1) (by omega)
    have a2 := xr_add (bt x) (31 - t) (t + 1) (31 - t)
    rw [show t + 1 + (31 - t) = 32 from by omega, show 31 - t + (t + 1) = 32 from by omega, xr_false (31 - t) (fun i hi => b_big (by omega)), Bool.xor_false] at a2
    rw [hl, a2, show 31 - t = 32 - (t + 1) from by omega, a1]
  have hmask : ∃ mk : Int32, (∀ j, j < 32 → bt mk j = decide (32 - m ≤ j)) ∧ (if nI m < (32 : Int32) then nI m - (2 : Int32) * fJ6_bitCount_0f7a4 (x5 &&& ((UInt32.toInt32 (Int32.toUInt32 (-1) >>> (Int32.toUInt32 (nI m) &&& Int32.toUInt32 31))) ^^^ (-1 : Int32))) else nI m - (2 : Int32) * fJ6_bitCount_0f7a4 (x5 &&& (-1))) = nI m - (2 : Int32) * fJ6_bitCount_0f7a4 (x5 &&& mk) := by
    by_cases h : m < 32
    · rw [if_pos (show nI m < (32 : Int32) from nI_lt (b := 32) h (by omega))]
      refine ⟨_, fun j hj => ?_, rfl⟩
      rw [b_xor, b_ushr m h, b_m1 j hj]
      by_cases h2 : 32 - m ≤ j
      · rw [b_big (by omega), decide_eq_true h2]; rfl
      · rw [b_m1 _ (by omega), decide_eq_false h2]; rfl
    · rw [if_neg (show ¬ nI m < (32 : Int32) from nI_nlt (b := 32) (by omega) (by omega))]
      exact ⟨_, fun j hj => by rw [b_m1 j hj, decide_eq_true (by omega)], rfl⟩
  obtain ⟨mk, k1, k2⟩ := hmask
  rw [k2, bitCount_eq, pop_congr (B := fun j => bt x5 j && decide (32 - m ≤ j)) 32 (fun i hi => by rw [b_and, k1 i hi]), pop_rev (bt x5) 32 m hm, sm_pop]
  rw [pop_congr (A := fun t => bt x5 (32 - 1 - t)) (B := fun t => odd (fun s => bt x (31 - s)) (t + 1)) m (fun i hi => hlo i (by omega))]
  rw [show (2 : Int32) = iI 2 from rfl, iI_n, iI_n, iI_mul, iI_sub]
theorem pop_rev32 (x : Int32) : pop (bt x) 32 = pop (fun t => bt x (31 - t)) 32 := by
  have := pop_rev (bt x) 32 32 (by omega)
  rw [← this]
  exact pop_congr 32 (fun i hi => by simp)
theorem bcpar (x : Int32) : (fJ6_bitCount_0f7a4 x - fJ6_bitCount_0f7a4 x / (2 : Int32) * (2 : Int32) = (1 : Int32)) ↔ odd (fun t => bt x (31 - t)) 32 = true := by
  rw [bitCount_eq, pop_rev32, odd_pop]
  have hp := pop_le (fun t => bt x (31 - t)) 32
  generalize pop (fun t => bt x (31 - t)) 32 = c at *
  rw [show nI c / (2 : Int32) = nI (c / 2) from pk_div (d := 2) (by omega) (by omega) (by omega), show nI (c / 2) * (2 : Int32) = nI (c / 2 * 2) from pk_mul _ 2, pk_sub (by omega), show (1 : Int32) = nI 1 from rfl, nI_eq (by omega) (by omega), decide_eq_true_iff]
  omega
theorem balC {pk : Nat → Int32} {n : Nat} (hn : n ≤ 360000) : ∀ (F k : Nat), 32 * k < n + 32 → 20000 - k < F → fX3_balanceBehind_L7 (nI n) pk F (nI k) (iI (lvl (pb pk) (32 * k))) (iI (sm (pb pk) (min (32 * k) n))) = some (iI (sm (pb pk) n)) := by
  intro F
  induction F with
  | zero => intro k _ h; omega
  | succ F ih =>
    intro k hk hF
    rw [fX3_balanceBehind_L7.eq_2, show (32 : Int32) * nI k = nI (32 * k) from pk_mul 32 k]
    by_cases h1 : n ≤ 32 * k
    · rw [if_pos (nI_le h1 (by omega)), Nat.min_eq_right h1]
    · rw [if_neg (nI_ge (by omega) (by omega)), cell_eq (by omega), ob1E]
      have hbits : ∀ t, t < 32 → bt (if k < 11250 then pk k else 0) (31 - t) = pb pk (32 * k + t) := fun t ht => by
        rw [cell_bt pk k (31 - t) (by omega)]; congr 1; omega
      generalize (if k < 11250 then pk k else 0 : Int32) = x at *
      simp only [nt1E, nmE, jkE]
      have em : (if (nI n - nI (32 * k)) < (32 : Int32) then (nI n - nI (32 * k)) else (32 : Int32)) = nI (min 32 (n - 32 * k)) := by
        rw [pk_sub (by omega)]
        by_cases q : n - 32 * k < 32
        · rw [if_pos (show nI (n - 32 * k) < (32 : Int32) from nI_lt (b := 32) q (by omega))]; congr 1; omega
        · rw [if_neg (show ¬ nI (n - 32 * k) < (32 : Int32) from nI_nlt (b := 32) (by omega) (by omega)), Nat.min_eq_left (by omega)]; rfl
      rw [em, rise_eq x _ (by omega), iI_mul, iI_add, sm_congr (B := fun t => pb pk (32 * k + t)) (min 32 (n - 32 * k)) (fun i hi => hbits i (by omega)), Nat.min_eq_left (show 32 * k ≤ n from by omega), ← sm_add, show 32 * k + min 32 (n - 32 * k) = min (32 * (k + 1)) n from by omega, nI_1]
      have hl : lvl (pb pk) (32 * (k + 1)) = lvl (pb pk) (32 * k) * lvl (fun t => bt x (31 - t)) 32 := by
        rw [show 32 * (k + 1) = 32 * k + 32 from by omega, lvl_add]
        unfold lvl
        rw [odd_congr (A := fun t => pb pk (32 * k + t)) (B := fun t => bt x (31 - t)) 32 (fun i hi => (hbits i hi).symm)]
      have hi := ih (k + 1) (by omega) (by omega)
      rw [hl] at hi
      by_cases hp : odd (fun t => bt x (31 - t)) 32 = true
      · rw [if_pos ((bcpar x).mpr hp), iI_neg]
        rw [show lvl (fun t => bt x (31 - t)) 32 = -1 from if_pos hp, Int.mul_neg, Int.mul_one] at hi
        exact hi
      · rw [if_neg (fun q => hp ((bcpar x).mp q))]
        rw [show lvl (fun t => bt x (31 - t)) 32 = 1 from if_neg hp, Int.mul_one] at hi
        exact hi
theorem balR {pk bi : Nat → Int32} {n : Nat} (hn : n ≤ 360000) (hb : ∀ i, i < n → bi i = b01 (pb pk i)) : ∀ (F k : Nat), k ≤ n → n - k < F → fX10_balance_L30 (nI n) bi F (nI k) (iI (sm (pb pk) k)) (iI (lvl (pb pk) k)) = some (iI (sm (pb pk) n), 0) := by
  intro F
  induction F with
  | zero => intro k _ h; omega
  | succ F ih =>
    intro k hk hF
    rw [fX10_balance_L30.eq_2]
    by_cases h1 : n ≤ k
    · rw [if_pos (nI_le h1 (by omega)), show k = n from by omega]
    · rw [if_neg (nI_ge (by omega) (by omega)), og_nI (by omega) (by omega)]
      simp only [nt1E, nmE, jkE]
      rw [nI_clamp (by omega), hb k (by omega), nI_1]
      have hi := ih (k + 1) (by omega) (by omega)
      have es : sm (pb pk) (k + 1) = sm (pb pk) k + lvl (pb pk) (k + 1) := rfl
      rw [es, lvl_s] at hi
      generalize pb pk k = b at *
      cases b
      · rw [if_neg (by decide), iI_add]; exact hi
      · rw [if_pos (by decide), iI_neg, iI_add]; exact hi
theorem op_balance : OP13 Inv := by
  intro n xi xa xl mi ma y0 hn h
  obtain ⟨hC, hS, hE, hB, hD, hP⟩ := id h
  obtain ⟨N, hN, e1, e2⟩ := ID_sz hD
  have b2 := nI_ti (n := N) (by omega)
  have a0 : (0 : Int32).toInt = 0 := by decide
  by_cases hg : 0 ≤ y0.toInt ∧ y0.toInt ≤ N
  · obtain ⟨m, hm, rfl⟩ := i_of hg.1
    have hm2 := nI_ti hm
    have hm3 : m ≤ N := by omega
    refine ⟨iI (sm (pb (xa 19)) m), iI (sm (pb (xa 19)) m), 0, ?_, ?_, rfl, hC, hS, hE, hB, hD.mono, hP⟩
    · unfold fX9_balance fX3_size fX3_balanceBehind
      have := balC (pk := xa 19) (n := m) (by omega) FU 0 (by omega) (by rw [FU_eq]; omega)
      rw [e1, if_neg (nI_pos hm), nt1E, if_pos (nI_le hm3 (by omega))]
      rw [show (32 * 0) = 0 from rfl, Nat.zero_min] at this
      have t2 : fX3_balanceBehind_L7 (nI m) (xa 19) FU 0 1 0 = _ := this
      rw [t2, ob1E]
    · unfold fX10_balance
      rw [e2, in_1 (by rw [tl_i, tl_i, b2]; exact hg), nt1E, if_neg ne10]
      exact balR (pk := xa 19) (by omega) (fun i hi => by
        have := hD.2.2.2.1 i (by rw [e1, b2]; omega)
        rw [this]; unfold pb; rw [decide_eq_true (by omega)]; rfl) FU 0 (by omega) (by rw [FU_eq]; omega)
  · refine ⟨-1000000, -1000000, 0, ?_, ?_, rfl, hC, hS, hE, hB, hD.mono, hP⟩
    · unfold fX9_balance fX3_size
      rw [e1]
      by_cases h1 : y0 < 0
      · rw [if_pos h1]
      · have h1' : ¬ y0.toInt < (0 : Int32).toInt := fun q => h1 (ti_lt.mpr q)
        rw [if_neg h1, nt1E, if_neg (fun q => by have := ti_le.mp q; omega)]
    · unfold fX10_balance
      rw [e2, in_0 (by rw [tl_i, tl_i, b2]; exact hg), nt1E, if_pos rfl]
