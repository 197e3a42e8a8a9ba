/-! ===== a section that is sound ===== -/
theorem oc4 {o : Nat → Int32} {Z : Nat → Bool} (ho : OB o Z 96) {j : Nat} (hj : j < 12) : (UInt32.toInt32 (Int32.toUInt32 (o j) >>> (Int32.toUInt32 4 &&& Int32.toUInt32 31))) = nI (tkN Z (8 * j) 4) ∧ o j &&& (15 : Int32) = nI (tkN Z (8 * j + 4) 4) := by
  have h8 := tk_lt Z (8 * j) 8
  rw [OB_end ho j hj]
  refine ⟨?_, ?_⟩
  · rw [show Int32.toUInt32 4 = (nI 4).toUInt32 from rfl, nx_ush2 (j := 4) (by omega) (by omega)]
    exact congrArg nI (tk_div Z (8 * j) 4 4)
  · rw [pk_andN (by omega) (m := 15) 4 (by decide)]
    exact congrArg nI (tk_mod Z (8 * j) 4 4)
def t10 (Z : Nat → Bool) (p : Nat) : Bool := decide (tkN Z p 4 < 10)
def figB (Z : Nat → Bool) (j : Nat) : Bool := t10 Z (8 * j) && t10 Z (8 * j + 4)
def nu (Z : Nat → Bool) (p : Nat) : Nat := 10 * tkN Z p 4 + tkN Z (p + 4) 4
theorem nu_lt (Z : Nat → Bool) (p : Nat) : nu Z p < 200 := by
  have h1 := tk_lt Z p 4
  have h2 := tk_lt Z (p + 4) 4
  unfold nu; omega
theorem areF {o : Nat → Int32} {Z : Nat → Bool} (ho : OB o Z 96) {j : Nat} (hj : j < 12) : fX4_areFigures o (nI j) = some (b01 (figB Z j)) := by
  unfold fX4_areFigures figB t10
  have h1 := tk_lt Z (8 * j) 4
  have h2 := tk_lt Z (8 * j + 4) 4
  rw [og_nI hj (by omega), og_nI hj (by omega), nI_clamp (by omega), (oc4 ho hj).1, (oc4 ho hj).2]
  by_cases q : tkN Z (8 * j) 4 < 10
  · rw [if_neg (show ¬ (9 : Int32) < nI (tkN Z (8 * j) 4) from nI_nlt (a := 9) (by omega) (by omega)), decide_eq_true q]
    by_cases q2 : tkN Z (8 * j + 4) 4 < 10
    · rw [if_neg (show ¬ (9 : Int32) < nI (tkN Z (8 * j + 4) 4) from nI_nlt (a := 9) (by omega) (by omega)), decide_eq_true q2]; rfl
    · rw [if_pos (show (9 : Int32) < nI (tkN Z (8 * j + 4) 4) from nI_lt (a := 9) (by omega) (by omega)), decide_eq_false q2]; rfl
  · rw [if_pos (show (9 : Int32) < nI (tkN Z (8 * j) 4) from nI_lt (a := 9) (by omega) (by omega)), decide_eq_false q]; rfl
theorem numC {o : Nat → Int32} {Z : Nat → Bool} (ho : OB o Z 96) {j : Nat} (hj : j < 12) : fX4_number o (nI j) = some (nI (nu Z (8 * j))) := by
  unfold fX4_number nu
  rw [og_nI hj (by omega), og_nI hj (by omega), nI_clamp (by omega), (oc4 ho hj).1, (oc4 ho hj).2, show nI (tkN Z (8 * j) 4) * (10 : Int32) = nI (tkN Z (8 * j) 4 * 10) from pk_mul _ 10, nI_add, Nat.mul_comm]
def timB (Z : Nat → Bool) (j : Nat) : Bool := figB Z j && (figB Z (j + 1) && (figB Z (j + 2) && (decide (nu Z (8 * (j + 1)) < 60) && decide (nu Z (8 * (j + 2)) < 75))))
theorem isTi {o : Nat → Int32} {Z : Nat → Bool} (ho : OB o Z 96) {j : Nat} (hj : j < 10) : fX4_isTime o (nI j) = some (b01 (timB Z j)) := by
  unfold fX4_isTime timB
  rw [show nI j + (1 : Int32) = nI (j + 1) from nI_1 j, show nI j + (2 : Int32) = nI (j + 2) from nI_add j 2, areF ho (by omega), areF ho (by omega), areF ho (by omega), ob1E, ob1E, ob1E, numC ho (by omega), numC ho (by omega), ob1E, ob1E]
  have l1 := nu_lt Z (8 * (j + 1))
  have l2 := nu_lt Z (8 * (j + 2))
  cases figB Z j
  · rw [if_pos (by rfl)]; rfl
  rw [if_neg (by decide)]
  cases figB Z (j + 1)
  · rw [if_pos (by rfl)]; rfl
  rw [if_neg (by decide)]
  cases figB Z (j + 2)
  · rw [if_pos (by rfl)]; rfl
  rw [if_neg (by decide)]
  by_cases q : nu Z (8 * (j + 1)) < 60
  · rw [if_neg (show ¬ (60 : Int32) ≤ nI (nu Z (8 * (j + 1))) from nI_ge (b := 60) q (by omega)), decide_eq_true q]
    by_cases q2 : nu Z (8 * (j + 2)) < 75
    · rw [if_neg (show ¬ (75 : Int32) ≤ nI (nu Z (8 * (j + 2))) from nI_ge (b := 75) q2 (by omega)), decide_eq_true q2]; rfl
    · rw [if_pos (show (75 : Int32) ≤ nI (nu Z (8 * (j + 2))) from nI_le (a := 75) (by omega) (by omega)), decide_eq_false q2]; rfl
  · rw [if_pos (show (60 : Int32) ≤ nI (nu Z (8 * (j + 1))) from nI_le (a := 60) (by omega) (by omega)), decide_eq_false q]; rfl
def c1B (Z : Nat → Bool) : Bool := decide (tkN Z 80 16 ^^^ 65535 = crc Z 80)
def c2B (Z : Nat → Bool) : Bool := decide (tkN Z 4 4 = 1)
def sC (Z : Nat → Bool) : Bool := c1B Z && (c2B Z && (figB Z 1 && (figB Z 2 && (timB Z 3 && timB Z 7))))
theorem not16 {c : Nat} (hc : c < 65536) : (nI c ^^^ (-1 : Int32)) &&& (65535 : Int32) = nI (c ^^^ 65535) := b_ext (fun i hi => by
  rw [b_and, b_xor, b_m1 i hi, b_65535, bt_nI, bt_nI, decide_eq_true hi, Nat.testBit_xor]
  have e : (65535 : Nat).testBit i = decide (i < 16) := by
    rw [show (65535 : Nat) = 2 ^ 16 - 1 from rfl, Nat.testBit_two_pow_sub_one]
  rw [e]
  by_cases q : i < 16
  · rw [decide_eq_true q]; simp
  · have : c.testBit i = false := Nat.testBit_lt_two_pow (Nat.lt_of_lt_of_le hc (Nat.pow_le_pow_right (n := 2) (by omega) (show 16 ≤ i from by omega)))
    rw [this, decide_eq_false q]; simp)
theorem xor_sw {a b c : Nat} : a = b ^^^ c ↔ a ^^^ c = b := by
  constructor
  · intro h; rw [h, Nat.xor_assoc, Nat.xor_self, Nat.xor_zero]
  · intro h; rw [← h, Nat.xor_assoc, Nat.xor_self, Nat.xor_zero]
theorem sndC {o : Nat → Int32} {Z : Nat → Bool} (ho : OB o Z 96) : fX4_isSound o = some (b01 (sC Z)) := by
  unfold fX4_isSound sC
  have a1 : fX4_areFigures o 1 = _ := areF ho (j := 1) (by omega)
  have a2 : fX4_areFigures o 2 = _ := areF ho (j := 2) (by omega)
  have a3 : fX4_isTime o 3 = _ := isTi ho (j := 3) (by omega)
  have a7 : fX4_isTime o 7 = _ := isTi ho (j := 7) (by omega)
  have hr : fX4_restOf80 o = some (nI (crc Z 80)) := by
    unfold fX4_restOf80
    exact restL80 ho FU 0 (by omega) (by rw [FU_eq]; omega)
  have hl := crc_lt Z 80
  have h16 := tk_lt Z 80 16
  have h8 := tk_lt Z 80 8
  have h8' := tk_lt Z 88 8
  have e16 : (o 10 <<< ((8 : Int32) &&& 31)) ||| o 11 = nI (tkN Z 80 16) := by
    rw [OB_end ho 10 (by omega), OB_end ho 11 (by omega), show 8 * 10 = 80 from rfl, show 8 * 11 = 88 from rfl, pk_shlN ((8 : Int32) &&& 31) 8 (by decide) (by omega), nx_or]
    have ta := tk_add Z 80 8 8
    refine congrArg nI ?_
    rw [show (16 : Nat) = 8 + 8 from rfl, ta]
    have := Nat.two_pow_add_eq_or_of_lt (i := 8) (b := tkN Z 88 8) h8' (tkN Z 80 8)
    rw [show 80 + 8 = 88 from rfl, this, Nat.mul_comm]
  rw [og_t (show ixb 10 12 = true from rfl), og_t (show ixb 11 12 = true from rfl), nmE, show (10 : Int32).toNatClampNeg = 10 from rfl, show (11 : Int32).toNatClampNeg = 11 from rfl, e16, a1, ob1E]
  simp only [jkE]
  rw [hr, ob1E, ob1E, not16 hl, a2, ob1E, a3, ob1E, a7, ob1E, og_t (show ixb 0 12 = true from rfl), show (0 : Int32).toNatClampNeg = 0 from rfl, (oc4 ho (j := 0) (by omega)).2]
  have h4 := tk_lt Z (8 * 0 + 4) 4
  have hx : crc Z 80 ^^^ 65535 < 65536 := Nat.xor_lt_two_pow (n := 16) hl (by omega)
  have e2 : (nI (tkN Z (8 * 0 + 4) 4) = (1 : Int32)) ↔ c2B Z = true := by
    unfold c2B
    rw [decide_eq_true_iff]
    exact nI_eq (b := 1) (by omega) (by omega)
  have e1 : (nI (tkN Z 80 16) = nI (crc Z 80 ^^^ 65535)) ↔ c1B Z = true := by
    unfold c1B
    rw [decide_eq_true_iff, nI_eq (by omega) (by omega)]
    exact xor_sw
  have key : ∀ (a b : Bool) (t : Int32), (t = 0 ∧ b = false ∨ t = 1 ∧ b = true) → (if nI (tkN Z 80 16) = nI (crc Z 80 ^^^ 65535) then (if nI (tkN Z (8 * 0 + 4) 4) = (1 : Int32) then (if t = 0 then some (0 : Int32) else some 1) else some 0) else some 0) = some (b01 (c1B Z && (c2B Z && b))) := fun _ b t ht => by
    by_cases q1 : c1B Z = true
    · rw [if_pos (e1.mpr q1), q1]
      by_cases q2 : c2B Z = true
      · rw [if_pos (e2.mpr q2), q2]
        rcases ht with ⟨rfl, rfl⟩ | ⟨rfl, rfl⟩
        · rw [if_pos rfl]; rfl
        · rw [if_neg ne10]; rfl
      · rw [if_neg (fun z => q2 (e2.mp z)), Bool.eq_false_iff.mpr q2]; rfl
    · rw [if_neg (fun z => q1 (e1.mp z)), Bool.eq_false_iff.mpr q1]; rfl
  cases figB Z 1
  · rw [if_pos (by rfl)]; exact key true _ 0 (Or.inl ⟨rfl, rfl⟩)
  rw [if_neg (by decide)]
  cases figB Z 2
  · rw [if_pos (by rfl)]; exact key true _ 0 (Or.inl ⟨rfl, rfl⟩)
  rw [if_neg (by decide)]
  cases timB Z 3
  · rw [if_pos (by rfl)]; exact key true _ 0 (Or.inl ⟨rfl, rfl⟩)
  rw [if_neg (by decide)]
  cases timB Z 7
  · rw [if_pos (by rfl)]; exact key true _ 0 (Or.inl ⟨rfl, rfl⟩)
  rw [if_neg (by decide)]
  exact key true _ 1 (Or.inr ⟨rfl, rfl⟩)
/-! the reference -/
def nbB (Z : Nat → Bool) (i : Nat) : Bool := decide (i = 10) || (decide (i = 11) || t10 Z (8 + 4 * i))
def anB (Z : Nat → Bool) (i : Nat) : Nat → Bool
  | 0 => true
  | m + 1 => nbB Z i && anB Z (i + 1) m
theorem anR {jj : Int32 → Option (Int32 × (Nat → Int32))} {ch : Nat → Int32} {Z : Nat → Bool} (hc : ∀ t, t < 96 → ch t = b01 (Z t)) : ∀ (F i : Nat) (g : Bool), i ≤ 18 → 18 - i < F → fX10_isSound_L147 jj ch F (nI (8 + 4 * i)) (b01 g) = jj (b01 (g && anB Z i (18 - i))) := by
  intro F
  induction F with
  | zero => intro i g _ h; omega
  | succ F ih =>
    intro i g hi hF
    rw [fX10_isSound_L147.eq_2]
    by_cases h1 : 18 ≤ i
    · rw [if_pos (show (80 : Int32) ≤ nI (8 + 4 * i) from nI_le (a := 80) (by omega) (by omega)), show 18 - i = 0 from by omega]
      show _ = jj (b01 (g && true))
      rw [Bool.and_true]
    · rw [if_neg (show ¬ (80 : Int32) ≤ nI (8 + 4 * i) from nI_ge (b := 80) (by omega) (by omega))]
      simp only [jkE, nmE]
      have hcb : fX10_channelBits ch (nI (8 + 4 * i)) 4 = _ := chB_eq (n := 4) hc (a := 8 + 4 * i) (by omega) (by omega)
      rw [show nI (8 + 4 * i) + (4 : Int32) = nI (8 + 4 * (i + 1)) from (nI_add _ 4).trans (congrArg nI (by omega)), hcb, ob1E]
      have h0 : fX10_isSound_L147 jj ch F (nI (8 + 4 * (i + 1))) 0 = jj (b01 (false && anB Z (i + 1) (18 - (i + 1)))) := ih (i + 1) false (by omega) (by omega)
      have h1' : fX10_isSound_L147 jj ch F (nI (8 + 4 * (i + 1))) 1 = jj (b01 (true && anB Z (i + 1) (18 - (i + 1)))) := ih (i + 1) true (by omega) (by omega)
      rw [h0, h1', show 18 - i = (18 - (i + 1)) + 1 from by omega]
      show _ = jj (b01 (g && (nbB Z i && anB Z (i + 1) (18 - (i + 1)))))
      cases g with
      | false => rw [if_pos (show b01 false = (0 : Int32) from rfl)]; rfl
      | true =>
        rw [if_neg (show ¬ b01 true = (0 : Int32) from by decide)]
        unfold nbB t10
        by_cases q1 : i = 10
        · rw [if_pos (show nI (8 + 4 * i) = (48 : Int32) from by rw [q1]; rfl), decide_eq_true q1]; rfl
        · rw [if_neg (show ¬ nI (8 + 4 * i) = (48 : Int32) from fun z => q1 (by have := (nI_eq (b := 48) (by omega) (by omega)).mp z; omega)), decide_eq_false q1]
          by_cases q2 : i = 11
          · rw [if_pos (show nI (8 + 4 * i) = (52 : Int32) from by rw [q2]; rfl), decide_eq_true q2]; rfl
          · rw [if_neg (show ¬ nI (8 + 4 * i) = (52 : Int32) from fun z => q2 (by have := (nI_eq (b := 52) (by omega) (by omega)).mp z; omega)), decide_eq_false q2]
            have h4 := tk_lt Z (8 + 4 * i) 4
            by_cases q3 : tkN Z (8 + 4 * i) 4 < 10
            · rw [if_neg (show ¬ (10 : Int32) ≤ nI (tkN Z (8 + 4 * i) 4) from nI_ge (b := 10) q3 (by omega)), decide_eq_true q3]; rfl
            · rw [if_pos (show (10 : Int32) ≤ nI (tkN Z (8 + 4 * i) 4) from nI_le (a := 10) (by omega) (by omega)), decide_eq_false q3]; rfl
theorem twoF {ch : Nat → Int32} {Z : Nat → Bool} {a : Nat} (hc : ∀ t, t < 96 → ch t = b01 (Z t)) (ha : a + 8 ≤ 96) : fX10_twoFigures ch (nI a) = some (nI (nu Z a)) := by
  unfold fX10_twoFigures nu
  have h1 : fX10_channelBits ch (nI a) 4 = _ := chB_eq (n := 4) hc (a := a) (by omega) (by omega)
  have h2 : fX10_channelBits ch (nI (a + 4)) 4 = _ := chB_eq (n := 4) hc (a := a + 4) (by omega) (by omega)
  rw [h1, ob1E, show nI a + (4 : Int32) = nI (a + 4) from nI_add a 4, h2, ob1E, show (10 : Int32) * nI (tkN Z a 4) = nI (10 * tkN Z a 4) from pk_mul 10 _, nI_add]
def clB (Z : Nat → Bool) (a : Nat) : Bool := decide (nu Z (a + 8) < 60) && decide (nu Z (a + 16) < 75)
theorem isCl {ch : Nat → Int32} {Z : Nat → Bool} {a : Nat} (hc : ∀ t, t < 96 → ch t = b01 (Z t)) (ha : a + 24 ≤ 96) : fX10_isClock ch (nI a) = some (b01 (clB Z a)) := by
  unfold fX10_isClock clB
  have l1 := nu_lt Z (a + 8)
  have l2 := nu_lt Z (a + 16)
  rw [show nI a + (8 : Int32) = nI (a + 8) from nI_add a 8, show nI a + (16 : Int32) = nI (a + 16) from nI_add a 16, twoF hc (by omega), twoF hc (by omega), ob1E, ob1E]
  by_cases q : nu Z (a + 8) < 60
  · rw [if_neg (show ¬ (60 : Int32) ≤ nI (nu Z (a + 8)) from nI_ge (b := 60) q (by omega)), decide_eq_true q]
    by_cases q2 : nu Z (a + 16) < 75
    · rw [if_neg (show ¬ (75 : Int32) ≤ nI (nu Z (a + 16)) from nI_ge (b := 75) q2 (by omega)), decide_eq_true q2]; rfl
    · rw [if_pos (show (75 : Int32) ≤ nI (nu Z (a + 16)) from nI_le (a := 75) (by omega) (by omega)), decide_eq_false q2]; rfl
  · rw [if_pos (show (60 : Int32) ≤ nI (nu Z (a + 8)) from nI_le (a := 60) (by omega) (by omega)), decide_eq_false q]; rfl
def sR (Z : Nat → Bool) : Bool := ((c1B Z && c2B Z) && anB Z 0 18) && (clB Z 24 && clB Z 56)
theorem sCR (Z : Nat → Bool) : sC Z = sR Z := by
  have e : anB Z 0 18 = (t10 Z 8 && (t10 Z 12 && (t10 Z 16 && (t10 Z 20 && (t10 Z 24 && (t10 Z 28 && (t10 Z 32 && (t10 Z 36 && (t10 Z 40 && (t10 Z 44 && (t10 Z 56 && (t10 Z 60 && (t10 Z 64 && (t10 Z 68 && (t10 Z 72 && t10 Z 76))))))))))))))) := by
    simp only [anB, nbB]
    simp
  unfold sC sR timB clB figB
  rw [e]
  show (c1B Z && (c2B Z && ((t10 Z 8 && t10 Z 12) && ((t10 Z 16 && t10 Z 20) && (((t10 Z 24 && t10 Z 28) && ((t10 Z 32 && t10 Z 36) && ((t10 Z 40 && t10 Z 44) && (decide (nu Z 32 < 60) && decide (nu Z 40 < 75))))) && ((t10 Z 56 && t10 Z 60) && ((t10 Z 64 && t10 Z 68) && ((t10 Z 72 && t10 Z 76) && (decide (nu Z 64 < 60) && decide (nu Z 72 < 75)))))))))) = (((c1B Z && c2B Z) && (t10 Z 8 && (t10 Z 12 && (t10 Z 16 && (t10 Z 20 && (t10 Z 24 && (t10 Z 28 && (t10 Z 32 && (t10 Z 36 && (t10 Z 40 && (t10 Z 44 && (t10 Z 56 && (t10 Z 60 && (t10 Z 64 && (t10 Z 68 && (t10 Z 72 && t10 Z 76)))))))))))))))) && ((decide (nu Z 32 < 60) && decide (nu Z 40 < 75)) && (decide (nu Z 64 < 60) && decide (nu Z 72 < 75))))
  generalize decide (nu Z 32 < 60) = a1
  generalize decide (nu Z 40 < 75) = a2
  generalize decide (nu Z 64 < 60) = a3
  generalize decide (nu Z 72 < 75) = a4
  ac_rfl
theorem sndR {mbe mby ch : Nat → Int32} {f q : Nat} {jr : Int32 × (Nat → Int32)} {Z : Nat → Bool} (hf : f ≤ 640) (hq : q + 98 ≤ f) (h : ∀ jj : Int32 → (Nat → Int32) → Option (Int32 × (Nat → Int32)), ∃ ch', fX10_isSound_L19 jj (nI q) mbe mby FU 2 1 ch = jj 1 ch' ∧ ∀ t, t < 96 → ch' t = b01 (Z t)) : ∃ ch', fX10_isSound (nI f) mbe mby ch (nI q) = some (b01 (sR Z), ch') ∧ ∀ t, t < 96 → ch' t = b01 (Z t) := by
  unfold fX10_isSound
  simp only [jkE]
  rw [show nI q + (97 : Int32) = nI (q + 97) from nI_add q 97, if_neg (nI_ge (by omega) (by omega))]
  obtain ⟨ch', g1, g2⟩ := h (fun x2_3 v_channel_4 => if x2_3 = 0 then some (0, v_channel_4) else fX10_isSound_L87 (fun x3_7 => ob1 (fX10_channelBits v_channel_4 80 16) fun r_9 => if (r_9 ^^^ (65535 : Int32)) = x3_7 then ob1 (fX10_channelBits v_channel_4 4 4) fun r_39 => if r_39 = (1 : Int32) then fX10_isSound_L147 (fun x2_13 => if x2_13 = 0 then some (0, v_channel_4) else ob1 (fX10_isClock v_channel_4 24) fun r_16 => if r_16 = 0 then some (0, v_channel_4) else ob1 (fX10_isClock v_channel_4 56) fun r_19 => if r_19 = 0 then some (0, v_channel_4) else some (1, v_channel_4)) v_channel_4 FU 8 1 else fX10_isSound_L147 (fun x2_13 => if x2_13 = 0 then some (0, v_channel_4) else ob1 (fX10_isClock v_channel_4 24) fun r_16 => if r_16 = 0 then some (0, v_channel_4) else ob1 (fX10_isClock v_channel_4 56) fun r_19 => if r_19 = 0 then some (0, v_channel_4) else some (1, v_channel_4)) v_channel_4 FU 8 0 else fX10_isSound_L147 (fun x2_13 => if x2_13 = 0 then some (0, v_channel_4) else ob1 (fX10_isClock v_channel_4 24) fun r_16 => if r_16 = 0 then some (0, v_channel_4) else ob1 (fX10_isClock v_channel_4 56) fun r_19 => if r_19 = 0 then some (0, v_channel_4) else some (1, v_channel_4)) v_channel_4 FU 8 0) v_channel_4 FU 0 0)
  refine ⟨ch', ?_, g2⟩
  rw [g1, if_neg ne10]
  have a1 := crcR (jj := fun x3_7 => ob1 (fX10_channelBits ch' 80 16) fun r_9 => if (r_9 ^^^ (65535 : Int32)) = x3_7 then ob1 (fX10_channelBits ch' 4 4) fun r_39 => if r_39 = (1 : Int32) then fX10_isSound_L147 (fun x2_13 => if x2_13 = 0 then some (0, ch') else ob1 (fX10_isClock ch' 24) fun r_16 => if r_16 = 0 then some (0, ch') else ob1 (fX10_isClock ch' 56) fun r_19 => if r_19 = 0 then some (0, ch') else some (1, ch')) ch' FU 8 1 else fX10_isSound_L147 (fun x2_13 => if x2_13 = 0 then some (0, ch') else ob1 (fX10_isClock ch' 24) fun r_16 => if r_16 = 0 then some (0, ch') else ob1 (fX10_isClock ch' 56) fun r_19 => if r_19 = 0 then some (0, ch') else some (1, ch')) ch' FU 8 0 else fX10_isSound_L147 (fun x2_13 => if x2_13 = 0 then some (0, ch') else ob1 (fX10_isClock ch' 24) fun r_16 => if r_16 = 0 then some (0, ch') else ob1 (fX10_isClock ch' 56) fun r_19 => if r_19 = 0 then some (0, ch') else some (1, ch')) ch' FU 8 0) g2 FU 0 (by omega) (by rw [FU_eq]; omega)
  have a1' : fX10_isSound_L87 _ ch' FU 0 0 = _ := a1
  rw [a1']
  have b1 : fX10_channelBits ch' 80 16 = _ := chB_eq (n := 16) (a := 80) g2 (by omega) (by omega)
  have b2 : fX10_channelBits ch' 4 4 = _ := chB_eq (n := 4) (a := 4) g2 (by omega) (by omega)
  have d1 : fX10_isClock ch' 24 = _ := isCl (a := 24) g2 (by omega)
  have d2 : fX10_isClock ch' 56 = _ := isCl (a := 56) g2 (by omega)
  have h16 := tk_lt Z 80 16
  have hl := crc_lt Z 80
  have h4 := tk_lt Z 4 4
  have hx : tkN Z 80 16 ^^^ 65535 < 65536 := Nat.xor_lt_two_pow (n := 16) h16 (by omega)
  have fin : ∀ g : Bool, fX10_isSound_L147 (fun x2_13 => if x2_13 = 0 then some (0, ch') else ob1 (fX10_isClock ch' 24) fun r_16 => if r_16 = 0 then some (0, ch') else ob1 (fX10_isClock ch' 56) fun r_19 => if r_19 = 0 then some (0, ch') else some (1, ch')) ch' FU 8 (b01 g) = some (b01 ((g && anB Z 0 18) && (clB Z 24 && clB Z 56)), ch') := fun g => by
    have a := anR (jj := fun x2_13 => if x2_13 = 0 then some (0, ch') else ob1 (fX10_isClock ch' 24) fun r_16 => if r_16 = 0 then some (0, ch') else ob1 (fX10_isClock ch' 56) fun r_19 => if r_19 = 0 then some (0, ch') else some (1, ch')) g2 FU 0 g (by omega) (by rw [FU_eq]; omega)
    have a' : fX10_isSound_L147 (fun x2_13 => if x2_13 = 0 then some (0, ch') else ob1 (fX10_isClock ch' 24) fun r_16 => if r_16 = 0 then some (0, ch') else ob1 (fX10_isClock ch' 56) fun r_19 => if r_19 = 0 then some (0, ch') else some (1, ch')) ch' FU 8 (b01 g) = _ := a
    rw [a', d1, d2, ob1E, ob1E]
    rw [show 18 - 0 = 18 from rfl]
    generalize (g && anB Z 0 18) = x
    cases x
    · rw [if_pos (by rfl)]; rfl
    rw [if_neg (by decide)]
    cases clB Z 24
    · rw [if_pos (by rfl)]; rfl
    rw [if_neg (by decide)]
    cases clB Z 56
    · rw [if_pos (by rfl)]; rfl
    rw [if_neg (by decide)]; rfl
  have fin0 : fX10_isSound_L147 (fun x2_13 => if x2_13 = 0 then some (0, ch') else ob1 (fX10_isClock ch' 24) fun r_16 => if r_16 = 0 then some (0, ch') else ob1 (fX10_isClock ch' 56) fun r_19 => if r_19 = 0 then some (0, ch') else some (1, ch')) ch' FU 8 0 = _ := fin false
  have fin1 : fX10_isSound_L147 (fun x2_13 => if x2_13 = 0 then some (0, ch') else ob1 (fX10_isClock ch' 24) fun r_16 => if r_16 = 0 then some (0, ch') else ob1 (fX10_isClock ch' 56) fun r_19 => if r_19 = 0 then some (0, ch') else some (1, ch')) ch' FU 8 1 = _ := fin true
  rw [b1, ob1E, b2, ob1E, fin0, fin1, show (65535 : Int32) = nI 65535 from rfl, nx_xor]
  unfold sR c1B c2B
  by_cases q1 : tkN Z 80 16 ^^^ 65535 = crc Z 80
  · rw [if_pos (by rw [q1]), decide_eq_true q1]
    by_cases q2 : tkN Z 4 4 = 1
    · rw [if_pos (show nI (tkN Z 4 4) = (1 : Int32) from by rw [q2]; rfl), decide_eq_true q2]; rfl
    · rw [if_neg (show ¬ nI (tkN Z 4 4) = (1 : Int32) from fun z => q2 ((nI_eq (b := 1) (by omega) (by omega)).mp z)), decide_eq_false q2]; rfl
  · rw [if_neg (fun z => q1 ((nI_eq (by omega) (by omega)).mp z)), decide_eq_false q1]; rfl
theorem clockR {ch : Nat → Int32} {Z : Nat → Bool} {a : Nat} (hc : ∀ t, t < 96 → ch t = b01 (Z t)) (ha : a + 24 ≤ 96) : fX10_clockOf ch (nI a) = some (nI (4500 * nu Z a + 75 * nu Z (a + 8) + nu Z (a + 16))) := by
  unfold fX10_clockOf
  rw [show nI a + (8 : Int32) = nI (a + 8) from nI_add a 8, show nI a + (16 : Int32) = nI (a + 16) from nI_add a 16, twoF hc (by omega), twoF hc (by omega), twoF hc (by omega), ob1E, ob1E, ob1E, show (4500 : Int32) * nI (nu Z a) = nI (4500 * nu Z a) from pk_mul 4500 _, show (75 : Int32) * nI (nu Z (a + 8)) = nI (75 * nu Z (a + 8)) from pk_mul 75 _, nI_add, nI_add]
theorem clockC {o : Nat → Int32} {Z : Nat → Bool} (ho : OB o Z 96) {j : Nat} (hj : j < 10) : fX4_timeOf o (nI j) = some (nI (4500 * nu Z (8 * j) + 75 * nu Z (8 * j + 8) + nu Z (8 * j + 16))) := by
  unfold fX4_timeOf
  rw [show nI j + (1 : Int32) = nI (j + 1) from nI_1 j, show nI j + (2 : Int32) = nI (j + 2) from nI_add j 2, numC ho (by omega), numC ho (by omega), numC ho (by omega), ob1E, ob1E, ob1E, show nI (nu Z (8 * j)) * (4500 : Int32) = nI (nu Z (8 * j) * 4500) from pk_mul _ 4500, show nI (nu Z (8 * (j + 1))) * (75 : Int32) = nI (nu Z (8 * (j + 1)) * 75) from pk_mul _ 75, nI_add, nI_add, Nat.mul_comm _ 4500, Nat.mul_comm _ 75, show 8 * (j + 1) = 8 * j + 8 from by omega, show 8 * (j + 2) = 8 * j + 16 from by omega]
theorem q77 {jj : Int32 → Option (Int32 × Int32 × (Nat → Int32))} {mbe mby : Nat → Int32} {w : Nat → Nat} {f q : Nat} (hf : f ≤ 640) (hq : q + 98 ≤ f) (hw : ∀ k, k < f → mbe k = nI (w k) ∧ w k < 16384) (hmb : ∀ x, x < 16384 → mby x = rdF x) (hv : ∀ t, t < 96 → Val w q t) : ∀ (F k : Nat), k ≤ 96 → 96 - k < F → fX10_q_L77 jj (nI q) mbe mby F (nI (k + 2)) (nI (pop (Zp w q) k)) = jj (nI (pop (Zp w q) 96)) := by
  intro F
  induction F with
  | zero => intro k _ h; omega
  | succ F ih =>
    intro k hk hF
    rw [fX10_q_L77.eq_2]
    by_cases h1 : 96 ≤ k
    · rw [if_pos (show (98 : Int32) ≤ nI (k + 2) from nI_le (a := 98) (by omega) (by omega)), show k = 96 from by omega]
    · obtain ⟨w2, w3⟩ := hw (q + (k + 2)) (by omega)
      obtain ⟨v1, v2⟩ := hv k (by omega)
      have ew : q + (k + 2) = q + 2 + k := by omega
      rw [if_neg (show ¬ (98 : Int32) ≤ nI (k + 2) from nI_ge (b := 98) (by omega) (by omega)), nI_add, og_nI (by omega) (by omega), nI_clamp (n := q + (k + 2)) (by omega), w2, og_nI w3 (by omega), nI_clamp (by omega), hmb _ w3, nmE, nmE, ew, v2, (bq _ v1).2.2.2, nI_1 (k + 2), b01_n, nI_add]
      exact ih (k + 1) (by omega) (by omega)
