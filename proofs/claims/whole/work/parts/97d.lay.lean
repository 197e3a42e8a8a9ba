/-! ===== press: laying bits ===== -/
def bl (x : Int64) (t : Nat) : Bool := x.toBitVec.getLsbD t
theorem l_sh : ∀ n, n < 64 → ((Int32.toInt64 (nI n) &&& 63).toBitVec.smod 64).toNat = n := by decide +kernel
theorem l_us : ∀ n, n < 64 → ((Int64.toUInt64 (Int32.toInt64 (nI n)) &&& Int64.toUInt64 63).toBitVec % 64).toNat = n := by decide +kernel
theorem bl_ext {x y : Int64} (h : ∀ i, i < 64 → bl x i = bl y i) : x = y := Int64.toBitVec_inj.mp (BitVec.eq_of_getLsbD_eq (fun i hi => h i hi))
theorem bl_or (x y : Int64) (i : Nat) : bl (x ||| y) i = (bl x i || bl y i) := by unfold bl; rw [Int64.toBitVec_or, BitVec.getLsbD_or]
theorem bl_and (x y : Int64) (i : Nat) : bl (x &&& y) i = (bl x i && bl y i) := by unfold bl; rw [Int64.toBitVec_and, BitVec.getLsbD_and]
theorem bl_big {x : Int64} {i : Nat} (h : 64 ≤ i) : bl x i = false := BitVec.getLsbD_of_ge _ _ h
theorem bl_shl (n : Nat) (hn : n < 64) (x : Int64) {i : Nat} (hi : i < 64) : bl (x <<< (Int32.toInt64 (nI n) &&& 63)) i = (decide (n ≤ i) && bl x (i - n)) := by
  unfold bl
  rw [Int64.toBitVec_shiftLeft]
  show (x.toBitVec <<< ((Int32.toInt64 (nI n) &&& 63).toBitVec.smod 64).toNat).getLsbD i = _
  rw [l_sh n hn, BitVec.getLsbD_shiftLeft]
  rcases Nat.lt_or_ge i n with h | h
  · simp [h, Nat.not_le.mpr h]
  · simp [hi, h, Nat.not_lt.mpr h]
theorem bl_ushr (n : Nat) (hn : n < 64) (x : Int64) (i : Nat) : bl (UInt64.toInt64 (Int64.toUInt64 x >>> (Int64.toUInt64 (Int32.toInt64 (nI n)) &&& Int64.toUInt64 63))) i = bl x (n + i) := by
  show (x.toUInt64 >>> (Int64.toUInt64 (Int32.toInt64 (nI n)) &&& Int64.toUInt64 63)).toBitVec.getLsbD i = x.toUInt64.toBitVec.getLsbD (n + i)
  rw [UInt64.toBitVec_shiftRight]
  show (x.toUInt64.toBitVec >>> ((Int64.toUInt64 (Int32.toInt64 (nI n)) &&& Int64.toUInt64 63).toBitVec % 64).toNat).getLsbD i = _
  rw [l_us n hn, BitVec.getLsbD_ushiftRight]
theorem bl_nI {V : Nat} (hV : V < 2147483648) (i : Nat) (hi : i < 64) : bl (Int32.toInt64 (nI V)) i = V.testBit i := by
  unfold bl
  rw [Int32.toBitVec_toInt64, BitVec.getLsbD_signExtend, decide_eq_true hi, Bool.true_and, BitVec.msb_eq_getLsbD_last]
  by_cases h : i < 32
  · rw [if_pos h]
    have := bt_nI V i
    rw [decide_eq_true h] at this
    exact this
  · rw [if_neg h]
    have := bt_nI V 31
    rw [show V.testBit 31 = false from Nat.testBit_lt_two_pow (by omega)] at this
    rw [show V.testBit i = false from Nat.testBit_lt_two_pow (Nat.lt_of_lt_of_le hV (Nat.pow_le_pow_right (n := 2) (i := 31) (by omega) (by omega)))]
    exact this
def zr (P : Nat → Bool) : Nat → Nat
  | 0 => 0
  | n + 1 => if P n then 0 else zr P n + 1
def bk (P : Nat → Bool) (n t : Nat) : Bool := decide (t < n) && P (n - 1 - t)
theorem bk_0 (P : Nat → Bool) (n : Nat) : bk P (n + 1) 0 = P n := by
  unfold bk; rw [decide_eq_true (by omega)]; rfl
theorem bk_s (P : Nat → Bool) (n t : Nat) : bk P (n + 1) (t + 1) = bk P n t := by
  unfold bk
  rw [show n + 1 - 1 - (t + 1) = n - 1 - t from by omega]
  by_cases h : t < n
  · rw [decide_eq_true h, decide_eq_true (by omega)]
  · rw [decide_eq_false h, decide_eq_false (by omega)]
theorem bk_add (P : Nat → Bool) (n m t : Nat) : bk P (n + m) (m + t) = bk P n t := by
  unfold bk
  rw [show n + m - 1 - (m + t) = n - 1 - t from by omega]
  by_cases h : t < n
  · rw [decide_eq_true h, decide_eq_true (by omega)]
  · rw [decide_eq_false h, decide_eq_false (by omega)]
theorem bk_lo (P : Nat → Bool) (n m t : Nat) (h : t < m) : bk P (n + m) t = P (n + (m - 1 - t)) := by
  unfold bk
  rw [decide_eq_true (by omega), show n + m - 1 - t = n + (m - 1 - t) from by omega]; rfl
theorem bk_congr {P Q : Nat → Bool} {n : Nat} (h : ∀ i, i < n → P i = Q i) (t : Nat) : bk P n t = bk Q n t := by
  unfold bk
  by_cases h1 : t < n
  · rw [h _ (by omega)]
  · rw [decide_eq_false h1]; rfl
theorem zr_congr {P Q : Nat → Bool} : ∀ n, (∀ i, i < n → P i = Q i) → zr P n = zr Q n
  | 0, _ => rfl
  | n + 1, h => by
    show (if P n then 0 else zr P n + 1) = if Q n then 0 else zr Q n + 1
    rw [zr_congr n (fun i hi => h i (by omega)), h n (by omega)]
theorem zr_le (P : Nat → Bool) : ∀ n, zr P n ≤ n
  | 0 => Nat.le_refl 0
  | n + 1 => by
    show (if P n then 0 else zr P n + 1) ≤ n + 1
    have := zr_le P n
    cases P n
    · simp only [Bool.false_eq_true, if_false]; omega
    · simp only [if_true]; omega
theorem zr_f {P : Nat → Bool} {n : Nat} (h : P n = false) : zr P (n + 1) = zr P n + 1 := by
  show (if P n then 0 else zr P n + 1) = _
  rw [h]; rfl
theorem zr_t {P : Nat → Bool} {n : Nat} (h : P n = true) : zr P (n + 1) = 0 := by
  show (if P n then 0 else zr P n + 1) = _
  rw [h]; rfl
theorem zr_run (P : Nat → Bool) (n : Nat) : ∀ z, (∀ t, t < z → P (n + t) = false) → zr P (n + z) = zr P n + z
  | 0, _ => rfl
  | z + 1, h => by
    rw [show n + (z + 1) = n + z + 1 from rfl, zr_f (h z (by omega)), zr_run P n z (fun t ht => h t (by omega))]; rfl
theorem sm_bd (P : Nat → Bool) : ∀ n : Nat, -(n : Int) ≤ sm P n ∧ sm P n ≤ n
  | 0 => by show -(0 : Int) ≤ 0 ∧ (0 : Int) ≤ 0; omega
  | n + 1 => by
    obtain ⟨h1, h2⟩ := sm_bd P n
    show -((n + 1 : Nat) : Int) ≤ sm P n + lvl P (n + 1) ∧ sm P n + lvl P (n + 1) ≤ ((n + 1 : Nat) : Int)
    unfold lvl
    cases odd P (n + 1)
    · simp only [Bool.false_eq_true, if_false]; omega
    · simp only [if_true]; omega
theorem lvl_congr {P Q : Nat → Bool} (n : Nat) (h : ∀ i, i < n → P i = Q i) : lvl P n = lvl Q n := by
  unfold lvl; rw [odd_congr n h]
def CS (n : Nat) (P : Nat → Bool) (gap lv : Int32) (re : Int64) (su sz : Int32) (pk : Nat → Int32) : Prop :=
  gap = nI (zr P n) ∧ lv = iI (lvl P n) ∧ (∀ t, t < 64 → bl re t = bk P n t) ∧ su = iI (sm P n) ∧ sz = nI n ∧ ∀ i, i < 360000 → pbit pk i = (decide (i < n) && P i)
def RS (n : Nat) (P : Nat → Bool) (len lv su ta ze : Int32) (bi : Nat → Int32) : Prop :=
  len = nI n ∧ lv = iI (lvl P n) ∧ su = iI (sm P n) ∧ (∀ t, t < 32 → bt ta t = (decide (t < 24) && bk P n t)) ∧ ze = nI (zr P n) ∧ ∀ i, i < n → bi i = b01 (P i)
theorem CS.congr {n : Nat} {P Q : Nat → Bool} {gap lv : Int32} {re : Int64} {su sz : Int32} {pk : Nat → Int32} (hq : ∀ i, i < n → P i = Q i) (h : CS n P gap lv re su sz pk) : CS n Q gap lv re su sz pk := by
  obtain ⟨h1, h2, h3, h4, h5, h6⟩ := h
  refine ⟨by rw [← zr_congr n hq]; exact h1, by rw [← lvl_congr n hq]; exact h2, fun t ht => by rw [← bk_congr hq]; exact h3 t ht, by rw [← sm_congr n hq]; exact h4, h5, fun i hi => ?_⟩
  rw [h6 i hi]
  by_cases q : i < n
  · rw [hq i q]
  · rw [decide_eq_false q]; rfl
theorem RS.congr {n : Nat} {P Q : Nat → Bool} {len lv su ta ze : Int32} {bi : Nat → Int32} (hq : ∀ i, i < n → P i = Q i) (h : RS n P len lv su ta ze bi) : RS n Q len lv su ta ze bi := by
  obtain ⟨h1, h2, h3, h4, h5, h6⟩ := h
  exact ⟨h1, by rw [← lvl_congr n hq]; exact h2, by rw [← sm_congr n hq]; exact h3, fun t ht => by rw [← bk_congr hq]; exact h4 t ht, by rw [← zr_congr n hq]; exact h5, fun i hi => by rw [← hq i hi]; exact h6 i hi⟩
theorem b_24 : ∀ i, i < 32 → bt 16777215 i = decide (i < 24) := by decide +kernel
theorem tail_s {P : Nat → Bool} {n : Nat} {ta : Int32} {b : Bool} (h : ∀ t, t < 32 → bt ta t = (decide (t < 24) && bk P n t)) (hb : b = P n) : ∀ t, t < 32 → bt (((ta <<< ((1 : Int32) &&& 31)) ||| b01 b) &&& (16777215 : Int32)) t = (decide (t < 24) && bk P (n + 1) t) := fun t ht => by
  rw [b_and, b_or, show ((1 : Int32) &&& 31) = (nI 1 &&& 31) from rfl, b_shl 1 (by omega) _ ht, b_b01, b_24 t ht, Bool.and_comm]
  cases t with
  | zero => rw [bk_0, hb]; simp
  | succ t =>
    rw [bk_s, decide_eq_true (show 1 ≤ t + 1 from by omega), decide_eq_false (show ¬ t + 1 = 0 from by omega), Nat.add_sub_cancel, h t (by omega), Bool.and_false, Bool.or_false, Bool.true_and]
    by_cases q : t + 1 < 24
    · rw [decide_eq_true q, decide_eq_true (show t < 24 from by omega)]; rfl
    · rw [decide_eq_false q]; rfl
theorem RS.step {n : Nat} {P : Nat → Bool} {len lv su ta ze : Int32} {bi : Nat → Int32} {b : Bool} (h : RS n P len lv su ta ze bi) (hb : b = P n) : RS (n + 1) P (len + 1) (if b then -lv else lv) (su + (if b then -lv else lv)) (((ta <<< ((1 : Int32) &&& 31)) ||| b01 b) &&& (16777215 : Int32)) (if b then 0 else ze + 1) (upd bi n (b01 b)) := by
  obtain ⟨h1, h2, h3, h4, h5, h6⟩ := h
  have e : (if b then -lv else lv) = iI (lvl P (n + 1)) := by
    rw [lvl_s, ← hb, h2]
    cases b
    · rfl
    · exact iI_neg _
  refine ⟨by rw [h1, nI_1], e, ?_, tail_s h4 hb, ?_, fun i hi => ?_⟩
  · rw [e, h3, iI_add]; rfl
  · rw [h5]
    cases b
    · rw [zr_f hb.symm]; exact nI_1 _
    · rw [zr_t hb.symm]; rfl
  · by_cases z : i = n
    · rw [z, pk_us, hb]
    · rw [pk_un z]; exact h6 i (by omega)
theorem layL {P : Nat → Bool} {V N : Nat} (hN : N ≤ 360000) : ∀ (F K : Nat) (len lv su ta ze : Int32) (bi : Nat → Int32), K < F → K ≤ N → K ≤ 32 → (∀ t, t < K → V.testBit t = P (N - 1 - t)) → RS (N - K) P len lv su ta ze bi → ∃ len' lv' su' ta' ze' bi', fX10_layBits_L4 (nI V) F (dn K) len ze lv su ta bi = some (len', lv', su', ta', ze', bi') ∧ RS N P len' lv' su' ta' ze' bi' := by
  intro F
  induction F with
  | zero => intro K _ _ _ _ _ _ h; omega
  | succ F ih =>
    intro K len lv su ta ze bi hF hK h32 hV h
    rw [fX10_layBits_L4.eq_2]
    cases K with
    | zero =>
      rw [if_pos dn_0]
      exact ⟨len, lv, su, ta, ze, bi, rfl, h⟩
    | succ w =>
      have hl := h.1
      have hs := h.step (b := V.testBit w) (by rw [hV w (by omega)]; exact congrArg P (by omega))
      rw [show N - (w + 1) + 1 = N - w from by omega] at hs
      rw [show dn (w + 1) = nI w from rfl, if_neg (nI_pos (by omega))]
      simp only [jkE, nmE]
      rw [sbN (by omega), hl, og_nI (by omega) (by omega), nI_clamp (by omega), dn_s]
      rw [hl] at hs
      have nb : ∀ z : Bool, vp_nar .byte (Int8.toInt32 (Int32.toInt8 (b01 z))) = b01 z := fun z => by cases z <;> rfl
      rw [nb]
      cases hb : V.testBit w with
      | false =>
        rw [hb] at hs
        rw [if_neg (show ¬ b01 false = (1 : Int32) from by decide), if_neg (show ¬ b01 false = (1 : Int32) from by decide)]
        exact ih w _ _ _ _ _ _ (by omega) (by omega) (by omega) (fun t ht => hV t (by omega)) hs
      | true =>
        rw [hb] at hs
        rw [if_pos (show b01 true = (1 : Int32) from rfl), if_pos (show b01 true = (1 : Int32) from rfl)]
        exact ih w _ _ _ _ _ _ (by omega) (by omega) (by omega) (fun t ht => hV t (by omega)) hs
theorem layE {P : Nat → Bool} {V n m : Nat} {len lv su ta ze : Int32} {bi : Nat → Int32} (hN : n + m ≤ 360000) (hm : m ≤ 32) (hm1 : 1 ≤ m) (hV : ∀ t, t < m → P (n + t) = V.testBit (m - 1 - t)) (h : RS n P len lv su ta ze bi) : ∃ len' lv' su' ta' ze' bi', fX10_layBits len lv su ta ze bi (nI V) (nI m) = some (len', lv', su', ta', ze', bi') ∧ RS (n + m) P len' lv' su' ta' ze' bi' := by
  unfold fX10_layBits
  rw [nmE, dn_m]
  exact layL hN FU m len lv su ta ze bi (by rw [FU_eq]; omega) (by omega) hm (fun t ht => by
    have := hV (m - 1 - t) (by omega)
    rw [show m - 1 - (m - 1 - t) = t from by omega] at this
    rw [← this]; exact congrArg P (by omega)) (by rw [Nat.add_sub_cancel]; exact h)
theorem merE {pk : Nat → Int32} {k : Nat} {y : Int32} (hk : k < 20000) : ∃ pk', fX3_merge pk (nI k) y = some pk' ∧ ∀ p, p < 360000 → pbit pk' p = (pbit pk p || (decide (p / 32 = k) && bt y (31 - p % 32))) := by
  unfold fX3_merge
  rw [if_neg (nI_pos (by omega))]
  by_cases h : 11250 ≤ k
  · rw [if_pos (show (11250 : Int32) ≤ nI k from nI_le (a := 11250) h (by omega))]
    exact ⟨pk, rfl, fun p hp => by rw [decide_eq_false (by omega)]; simp⟩
  · rw [if_neg (show ¬ (11250 : Int32) ≤ nI k from nI_ge (b := 11250) (by omega) (by omega)), og_nI (by omega) (by omega), og_nI (by omega) (by omega), nmE, nI_clamp (by omega)]
    refine ⟨_, rfl, fun p hp => ?_⟩
    rw [pbit_upd]
    by_cases q : p / 32 = k
    · rw [if_pos q, b_or, decide_eq_true q, ← q]; rfl
    · rw [if_neg q, decide_eq_false q]; simp
theorem appE {P : Nat → Bool} {pk : Nat → Int32} {V n m : Nat} (hm1 : 1 ≤ m) (hm : m ≤ 31) (hn : n + m ≤ 360000) (hP : ∀ t, t < m → P (n + t) = V.testBit (m - 1 - t)) (h : ∀ i, i < 360000 → pbit pk i = (decide (i < n) && P i)) : ∃ pk', fX3_append (nI n) pk (nI V) (nI m) = some (nI (n + m), pk') ∧ ∀ i, i < 360000 → pbit pk' i = (decide (i < n + m) && P i) := by
  unfold fX3_append
  simp only [jkE, nmE]
  rw [show (32 : Int32) - nI m = nI (32 - m) from pk_sub (a := 32) (by omega), show nI n &&& (31 : Int32) = nI (n % 32) from and31 (by omega), shr5 (by omega), nI_add, show nI (n / 32) + (1 : Int32) = nI (n / 32 + 1) from nI_1 _]
  generalize hx : nI V <<< (nI (32 - m) &&& 31) = x
  have hxb : ∀ d, d < 32 → bt x (31 - d) = (decide (d < m) && P (n + d)) := fun d hd => by
    rw [← hx, b_shl _ (by omega) _ (by omega), bt_nI]
    by_cases q : d < m
    · rw [decide_eq_true q, decide_eq_true (by omega), decide_eq_true (by omega), hP d q, show 31 - d - (32 - m) = m - 1 - d from by omega]; rfl
    · rw [decide_eq_false q, decide_eq_false (show ¬ 32 - m ≤ 31 - d from by omega)]; rfl
  obtain ⟨p1, a1, a2⟩ := merE (pk := pk) (k := n / 32) (y := (x.toUInt32 >>> ((nI (n % 32)).toUInt32 &&& Int32.toUInt32 31)).toInt32) (by omega)
  rw [a1, ob1E]
  have first : ∀ i, i < 360000 → i / 32 = n / 32 → pbit p1 i = (decide (i < n + m) && P i) := fun i hi hq => by
    rw [a2 i hi, h i hi, decide_eq_true hq, Bool.true_and, b_ushr _ (by omega)]
    by_cases q : i < n
    · rw [b_big (by omega), decide_eq_true q, decide_eq_true (show i < n + m from by omega), Bool.or_false]
    · rw [decide_eq_false q, Bool.false_and, Bool.false_or, show n % 32 + (31 - i % 32) = 31 - (i - n) from by omega, hxb _ (by omega), show n + (i - n) = i from by omega]
      by_cases q2 : i < n + m
      · rw [decide_eq_true q2, decide_eq_true (by omega)]
      · rw [decide_eq_false q2, decide_eq_false (by omega)]
  by_cases h0 : n % 32 = 0
  · rw [h0, if_pos (show nI 0 ≤ (0 : Int32) from by decide)]
    refine ⟨p1, rfl, fun i hi => ?_⟩
    by_cases q : i / 32 = n / 32
    · exact first i hi q
    · rw [a2 i hi, h i hi, decide_eq_false q, Bool.false_and, Bool.or_false]
      by_cases q2 : i < n
      · rw [decide_eq_true q2, decide_eq_true (by omega)]
      · rw [decide_eq_false q2, decide_eq_false (show ¬ i < n + m from by omega)]
  · rw [if_neg (show ¬ nI (n % 32) ≤ (0 : Int32) from nI_ge (a := 0) (b := n % 32) (by omega) (by omega)), show (32 : Int32) - nI (n % 32) = nI (32 - n % 32) from pk_sub (a := 32) (by omega)]
    obtain ⟨p2, b1, b2⟩ := merE (pk := p1) (k := n / 32 + 1) (y := x <<< (nI (32 - n % 32) &&& 31)) (by omega)
    rw [b1, ob1E]
    refine ⟨p2, rfl, fun i hi => ?_⟩
    rw [b2 i hi]
    by_cases q : i / 32 = n / 32
    · rw [decide_eq_false (show ¬ i / 32 = n / 32 + 1 from by omega), Bool.false_and, Bool.or_false]; exact first i hi q
    · by_cases q3 : i / 32 = n / 32 + 1
      · rw [decide_eq_true q3, Bool.true_and, a2 i hi, h i hi, decide_eq_false q, Bool.false_and, Bool.or_false, decide_eq_false (show ¬ i < n from by omega), Bool.false_and, Bool.false_or, b_shl _ (by omega) _ (by omega)]
        by_cases q4 : i - n < 32
        · rw [decide_eq_true (show 32 - n % 32 ≤ 31 - i % 32 from by omega), show 31 - i % 32 - (32 - n % 32) = 31 - (i - n) from by omega, hxb _ q4, show n + (i - n) = i from by omega]
          by_cases q2 : i < n + m
          · rw [decide_eq_true q2, decide_eq_true (by omega)]; rfl
          · rw [decide_eq_false q2, decide_eq_false (by omega)]; rfl
        · rw [decide_eq_false (show ¬ 32 - n % 32 ≤ 31 - i % 32 from by omega), decide_eq_false (show ¬ i < n + m from by omega)]; rfl
      · rw [decide_eq_false q3, Bool.false_and, Bool.or_false, a2 i hi, h i hi, decide_eq_false q, Bool.false_and, Bool.or_false]
        by_cases q2 : i < n
        · rw [decide_eq_true q2, decide_eq_true (by omega)]
        · rw [decide_eq_false q2, decide_eq_false (show ¬ i < n + m from by omega)]
theorem zbE {V m : Nat} (hm : m ≤ 31) : ∀ (F i : Nat), i ≤ m → m - i < F → (∀ t, t < i → V.testBit t = false) → ∃ z, z ≤ m ∧ fX6_zerosBehind_L2 (nI m) (nI V) F (nI i) = some (nI z) ∧ (∀ t, t < z → V.testBit t = false) ∧ (z < m → V.testBit z = true) := by
  intro F
  induction F with
  | zero => intro i _ h; omega
  | succ F ih =>
    intro i hi hF h
    rw [fX6_zerosBehind_L2.eq_2]
    by_cases h1 : m ≤ i
    · rw [if_pos (nI_le h1 (by omega))]
      exact ⟨i, hi, rfl, h, fun w => by omega⟩
    · rw [if_neg (nI_ge (by omega) (by omega)), bt_tst _ _ (by omega), bt_nI, decide_eq_true (by omega), Bool.true_and]
      cases hb : V.testBit i with
      | false =>
        rw [if_pos (show b01 false = (0 : Int32) from rfl), nmE, nI_1]
        exact ih (i + 1) (by omega) (by omega) (fun t ht => by
          by_cases z : t = i
          · rw [z, hb]
          · exact h t (by omega))
      | true =>
        rw [if_neg (show ¬ b01 true = (0 : Int32) from by decide)]
        exact ⟨i, hi, rfl, h, fun _ => hb⟩
theorem zaE {V m a : Nat} (hm : m ≤ 31) (ha : a < m) (h0 : ∀ t, t < a → V.testBit (m - 1 - t) = false) (h1 : V.testBit (m - 1 - a) = true) : ∀ (F i : Nat), i ≤ a → a - i < F → fX6_zerosAhead_L2 (nI m) (nI V) F (nI i) = some (nI a) := by
  intro F
  induction F with
  | zero => intro i _ h; omega
  | succ F ih =>
    intro i hi hF
    rw [fX6_zerosAhead_L2.eq_2, if_neg (nI_ge (by omega) (by omega)), show nI m - (1 : Int32) = nI (m - 1) from pk_sub (b := 1) (by omega), pk_sub (by omega), bt_tst _ _ (by omega), bt_nI, decide_eq_true (by omega), Bool.true_and]
    by_cases q : i = a
    · rw [q, h1, if_neg (show ¬ b01 true = (0 : Int32) from by decide)]
    · rw [h0 i (by omega), if_pos (show b01 false = (0 : Int32) from rfl), nmE, nI_1]
      exact ih (i + 1) (by omega) (by omega)
theorem odd_false {P : Nat → Bool} : ∀ k, (∀ i, i < k → P i = false) → odd P k = false
  | 0, _ => rfl
  | k + 1, h => by
    show (odd P k ^^ P k) = false
    rw [odd_false k (fun i hi => h i (by omega)), h k (by omega)]; rfl
theorem riseE {P : Nat → Bool} {V n m : Nat} (hm1 : 1 ≤ m) (hm : m ≤ 31) (hP : ∀ t, t < m → P (n + t) = V.testBit (m - 1 - t)) : fX3_rise (nI V <<< (((32 : Int32) - nI m) &&& 31)) (nI m) = iI (sm (fun t => P (n + t)) m) := by
  rw [show (32 : Int32) - nI m = nI (32 - m) from pk_sub (a := 32) (by omega), rise_eq _ m (by omega)]
  refine congrArg iI (sm_congr m (fun t ht => ?_))
  rw [b_shl _ (by omega) _ (by omega), decide_eq_true (by omega), bt_nI, decide_eq_true (by omega), hP t ht, show 31 - t - (32 - m) = m - 1 - t from by omega]; rfl
theorem carE {P : Nat → Bool} {V n m : Nat} {gap lv : Int32} {re : Int64} {su sz : Int32} {pk : Nat → Int32} (hm1 : 1 ≤ m) (hm : m ≤ 30) (hV : V < 2 ^ m) (hn : n + m ≤ 360000) (hP : ∀ t, t < m → P (n + t) = V.testBit (m - 1 - t)) (h : CS n P gap lv re su sz pk) : ∃ g' l' r' s' z' p', fX6_carve gap lv re su sz pk (nI V) (nI m) = some (g', l', r', s', z', p') ∧ CS (n + m) P g' l' r' s' z' p' := by
  obtain ⟨h1, h2, h3, h4, h5, h6⟩ := h
  obtain ⟨pk', a1, a2⟩ := appE hm1 (by omega) hn hP h6
  obtain ⟨z, b1, b2, b3, b4⟩ := zbE (V := V) (m := m) (by omega) FU 0 (by omega) (by rw [FU_eq]; omega) (fun t ht => by omega)
  have b2' : fX6_zerosBehind (nI V) (nI m) = some (nI z) := b2
  have hVb : V < 2147483648 := Nat.lt_of_lt_of_le hV (Nat.pow_le_pow_right (n := 2) (j := 31) (by omega) (by omega))
  unfold fX6_carve
  rw [h5, a1, ob2E]
  simp only [nmE, nt1E, jkE]
  rw [riseE hm1 (by omega) hP, b2', ob1E, ob1E, h1, h2, h4, iI_mul, iI_add, ← sm_add, nI_add, iI_neg]
  have hzr : ∃ g', (if nI z = nI m then nI (zr P n + m) else nI z) = g' ∧ g' = nI (zr P (n + m)) := by
    refine ⟨_, rfl, ?_⟩
    by_cases q : z = m
    · rw [if_pos (congrArg nI q), zr_run P n m (fun t ht => by rw [hP t ht]; exact b3 _ (by omega))]
    · rw [if_neg (fun w => q ((nI_eq (by omega) (by omega)).mp w))]
      have e1 : P (n + (m - 1 - z)) = true := by rw [hP _ (by omega), show m - 1 - (m - 1 - z) = z from by omega]; exact b4 (by omega)
      have e2 := zr_run P (n + (m - z)) z (fun t ht => by
        rw [show n + (m - z) + t = n + (m - z + t) from by omega, hP _ (by omega)]; exact b3 _ (by omega))
      rw [show n + (m - z) + z = n + m from by omega, show n + (m - z) = n + (m - 1 - z) + 1 from by omega, zr_t e1] at e2
      rw [e2, Nat.zero_add]
  have hlv : (if fJ6_bitCount_0f7a4 (nI V) - fJ6_bitCount_0f7a4 (nI V) / (2 : Int32) * (2 : Int32) = (1 : Int32) then iI (-lvl P n) else iI (lvl P n)) = iI (lvl P (n + m)) := by
    have ho : odd (fun t => bt (nI V) (31 - t)) 32 = odd (fun t => P (n + t)) m := by
      have e := odd_add (fun t => bt (nI V) (31 - t)) (32 - m) m
      rw [show 32 - m + m = 32 from by omega, odd_false (32 - m) (fun i hi => by
        show bt (nI V) (31 - i) = false
        rw [bt_nI, Nat.testBit_lt_two_pow (Nat.lt_of_lt_of_le hV (Nat.pow_le_pow_right (n := 2) (by omega) (by omega)))]; simp), Bool.false_xor] at e
      rw [e]
      refine odd_congr m (fun t ht => ?_)
      show bt (nI V) (31 - (32 - m + t)) = P (n + t)
      rw [bt_nI, decide_eq_true (by omega), hP t ht, show 31 - (32 - m + t) = m - 1 - t from by omega]; rfl
    have hb := bcpar (nI V)
    rw [ho] at hb
    rw [lvl_add]
    cases hc : odd (fun t => P (n + t)) m with
    | false =>
      rw [if_neg (fun w => by rw [hc] at hb; exact absurd (hb.mp w) (by decide))]
      unfold lvl; rw [hc]; simp
    | true =>
      rw [if_pos (hb.mpr hc)]
      unfold lvl; rw [hc]; simp
  have hre : ∀ t, t < 64 → bl ((re <<< (Int32.toInt64 (nI m) &&& 63)) ||| Int32.toInt64 (nI V)) t = bk P (n + m) t := fun t ht => by
    rw [bl_or, bl_shl m (by omega) re ht, bl_nI hVb t ht]
    by_cases q : t < m
    · rw [decide_eq_false (show ¬ m ≤ t from by omega), bk_lo P n m t q, hP _ (by omega), show m - 1 - (m - 1 - t) = t from by omega]; simp
    · rw [decide_eq_true (show m ≤ t from by omega), h3 _ (by omega), Nat.testBit_lt_two_pow (Nat.lt_of_lt_of_le hV (Nat.pow_le_pow_right (n := 2) (by omega) (by omega)))]
      have := bk_add P n m (t - m)
      rw [show m + (t - m) = t from by omega] at this
      rw [this]; simp
  obtain ⟨g', z1, z2⟩ := hzr
  by_cases qp : fJ6_bitCount_0f7a4 (nI V) - fJ6_bitCount_0f7a4 (nI V) / (2 : Int32) * (2 : Int32) = (1 : Int32)
  · rw [if_pos qp] at hlv ⊢
    by_cases qz : nI z = nI m
    · rw [if_pos qz] at z1 ⊢
      exact ⟨_, _, _, _, _, _, rfl, z1.trans z2, hlv, hre, rfl, rfl, a2⟩
    · rw [if_neg qz] at z1 ⊢
      exact ⟨_, _, _, _, _, _, rfl, z1.trans z2, hlv, hre, rfl, rfl, a2⟩
  · rw [if_neg qp] at hlv ⊢
    by_cases qz : nI z = nI m
    · rw [if_pos qz] at z1 ⊢
      exact ⟨_, _, _, _, _, _, rfl, z1.trans z2, hlv, hre, rfl, rfl, a2⟩
    · rw [if_neg qz] at z1 ⊢
      exact ⟨_, _, _, _, _, _, rfl, z1.trans z2, hlv, hre, rfl, rfl, a2⟩
