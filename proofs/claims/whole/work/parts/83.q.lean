/-! ===== q ===== -/
theorem tk_add (B : Nat → Bool) (i n : Nat) : ∀ m, tkN B i (n + m) = 2 ^ m * tkN B i n + tkN B (i + n) m
  | 0 => by show tkN B i n = 1 * tkN B i n + 0; omega
  | m + 1 => by
    show 2 * tkN B i (n + m) + (B (i + (n + m))).toNat = 2 ^ (m + 1) * tkN B i n + (2 * tkN B (i + n) m + (B (i + n + m)).toNat)
    rw [tk_add B i n m, Nat.pow_succ, Nat.add_assoc i n m]
    generalize 2 ^ m = p
    rw [Nat.mul_add, ← Nat.mul_assoc, Nat.mul_comm 2 p]
    omega
theorem tk_mod (B : Nat → Bool) (i n m : Nat) : tkN B i (n + m) % 2 ^ m = tkN B (i + n) m := by
  rw [tk_add, Nat.mul_add_mod, Nat.mod_eq_of_lt (tk_lt B (i + n) m)]
theorem shl1 {c : Nat} (h : c < 2147483648) : nI c <<< ((1 : Int32) &&& 31) = nI (2 * c) := by
  rw [pk_shlN ((1 : Int32) &&& 31) 1 (by decide) (by omega)]
  exact congrArg nI (by omega)
theorem b01_n (z : Bool) : b01 z = nI z.toNat := by cases z <;> rfl
theorem rd_cases {w : Nat} (hw : w < 16384) : rdF w = -1 ∨ ∃ b, b < 256 ∧ rdF w = nI b := by
  by_cases q : ∃ b, b < 256 ∧ wN b = w
  · obtain ⟨b, hb, rfl⟩ := q
    exact Or.inr ⟨b, hb, rdw b hb⟩
  · exact Or.inl (rd_no hw (fun c hc z => q ⟨c, hc, z⟩))
/-- octets are bytes; the bits before place k are Z's -/
def OB (o : Nat → Int32) (Z : Nat → Bool) (k : Nat) : Prop := ∀ j, j < 12 → (∀ i, i < 32 → 8 ≤ i → bt (o j) i = false) ∧ ∀ t, t < 8 → 8 * j + t < k → bt (o j) (7 - t) = Z (8 * j + t)
theorem OB_0 {o : Nat → Int32} {Z : Nat → Bool} (h : ∀ j, j < 12 → ∀ i, i < 32 → 8 ≤ i → bt (o j) i = false) : OB o Z 0 := fun j hj => ⟨h j hj, fun t _ w => by omega⟩
theorem b_b01 (z : Bool) (m : Nat) : bt (b01 z) m = (z && decide (m = 0)) := by
  cases z
  · rw [show b01 false = 0 from rfl, b_0]; rfl
  · rw [show b01 true = 1 from rfl]
    by_cases q : m < 32
    · rw [b_one m q]; simp
    · rw [b_big (by omega), decide_eq_false (by omega)]; rfl
theorem shr3 {k : Nat} (h : k < 2147483648) : nI k >>> ((3 : Int32) &&& 31) = nI (k / 8) := pk_shrN h ((3 : Int32) &&& 31) 3 (by decide)
theorem and7 {k : Nat} (h : k < 2147483648) : nI k &&& (7 : Int32) = nI (k % 8) := pk_andN (by omega) (m := 7) 3 (by decide)
theorem setBit_eq {o : Nat → Int32} {Z : Nat → Bool} {k : Nat} {z : Bool} (hk : k < 96) (ho : OB o Z k) (hz : z = Z k) : ∃ o', fX4_setBit o (nI k) (b01 z) = some o' ∧ OB o' Z (k + 1) := by
  unfold fX4_setBit
  rw [if_neg (nI_pos (by omega)), if_neg (show ¬ (96 : Int32) ≤ nI k from nI_ge (b := 96) hk (by omega)), nmE, shr3 (by omega), and7 (by omega), og_nI (by omega) (by omega), og_nI (by omega) (by omega), nmE, nI_clamp (by omega), show (7 : Int32) - nI (k % 8) = nI (7 - k % 8) from pk_sub (a := 7) (by omega)]
  refine ⟨_, rfl, fun j hj => ?_⟩
  have hbit : ∀ i, i < 32 → bt (o (k / 8) &&& (((1 : Int32) <<< (nI (7 - k % 8) &&& 31)) ^^^ (-1 : Int32)) ||| (b01 z <<< (nI (7 - k % 8) &&& 31))) i = if i = 7 - k % 8 then z else bt (o (k / 8)) i := fun i hi => by
    rw [b_or, bt_clr _ _ (by omega) i hi, b_shl _ (by omega) _ hi, b_b01]
    by_cases q : i = 7 - k % 8
    · rw [if_pos q, decide_eq_true q, decide_eq_true (show 7 - k % 8 ≤ i from by omega), decide_eq_true (show i - (7 - k % 8) = 0 from by omega)]; simp
    · rw [if_neg q, decide_eq_false q]
      by_cases q2 : 7 - k % 8 ≤ i
      · rw [decide_eq_false (show ¬ i - (7 - k % 8) = 0 from by omega)]; simp
      · rw [decide_eq_false q2]; simp
  by_cases q : j = k / 8
  · rw [q, pk_us]
    obtain ⟨o1, o2⟩ := ho (k / 8) (by omega)
    refine ⟨fun i hi h8 => ?_, fun t ht hw => ?_⟩
    · rw [hbit i hi, if_neg (by omega)]; exact o1 i hi h8
    · rw [hbit _ (by omega)]
      by_cases q2 : t = k % 8
      · rw [if_pos (by omega), hz]; exact congrArg Z (by omega)
      · rw [if_neg (by omega)]; exact o2 t ht (by omega)
  · rw [pk_un q]
    obtain ⟨o1, o2⟩ := ho j hj
    exact ⟨o1, fun t ht hw => o2 t ht (by omega)⟩
theorem OB_end {o : Nat → Int32} {Z : Nat → Bool} (h : OB o Z 96) : ∀ j, j < 12 → o j = nI (tkN Z (8 * j) 8) := fun j hj => by
  obtain ⟨o1, o2⟩ := h j hj
  refine b_ext (fun i hi => ?_)
  rw [bt_nI, decide_eq_true hi, tk_bit]
  by_cases q : i < 8
  · have := o2 (7 - i) (by omega) (by omega)
    rw [show 7 - (7 - i) = i from by omega] at this
    rw [this, decide_eq_true q, show 8 - 1 - i = 7 - i from by omega]; rfl
  · rw [o1 i hi (by omega), decide_eq_false q]; rfl
theorem bq : ∀ b, b < 256 → ((nI b &&& (64 : Int32) = 0) ↔ b.testBit 6 = false) ∧ ((nI b &&& (128 : Int32) = 0) ↔ b.testBit 7 = false) ∧ (nI b >>> ((6 : Int32) &&& 31)) &&& (1 : Int32) = b01 (b.testBit 6) ∧ (nI b >>> ((7 : Int32) &&& 31)) &&& (1 : Int32) = b01 (b.testBit 7) := by decide +kernel
/-- the byte beside, number k of the section at f -/
def vB (w : Nat → Nat) (f k : Nat) : Nat := (rdF (w (f + 2 + k))).toNatClampNeg
def Zf (w : Nat → Nat) (f k : Nat) : Bool := (vB w f k).testBit 6
def Zp (w : Nat → Nat) (f k : Nat) : Bool := (vB w f k).testBit 7
def Val (w : Nat → Nat) (f k : Nat) : Prop := vB w f k < 256 ∧ rdF (w (f + 2 + k)) = nI (vB w f k)
theorem val_cases {w : Nat → Nat} {f k : Nat} (hw : w (f + 2 + k) < 16384) : rdF (w (f + 2 + k)) = -1 ∨ Val w f k := by
  rcases rd_cases hw with h | ⟨b, hb, h⟩
  · exact Or.inl h
  · refine Or.inr ?_
    unfold Val vB
    rw [h, nI_clamp (by omega)]
    exact ⟨hb, rfl⟩
theorem wasF {f k : Nat} (hf : f ≤ 640) (hk : k < f) : fX5_wasFound 1 (nI f) (nI k) = 1 := by
  unfold fX5_wasFound
  rw [if_neg ne10, if_neg (nI_pos (by omega)), if_neg (nI_ge hk (by omega)), if_neg (show ¬ (640 : Int32) ≤ nI k from nI_ge (b := 640) (by omega) (by omega))]
theorem wasF0 {f k : Nat} (hf : f ≤ 640) (hk : f ≤ k) (hk2 : k < 10000) : fX5_wasFound 1 (nI f) (nI k) = 0 := by
  unfold fX5_wasFound
  rw [if_neg ne10, if_neg (nI_pos (by omega)), if_pos (nI_le hk (by omega))]
theorem begC_eq {be : Nat → Int32} {f k : Nat} (hf : f ≤ 640) (hk : k < f) : fX5_beginsSection 1 (nI f) be (nI k) = some (b01 (secF be f k)) := by
  unfold fX5_beginsSection secF
  rw [wasF hf hk, nt1E, if_neg ne10, show nI k + (1 : Int32) = nI (k + 1) from nI_1 k]
  by_cases q : k + 1 < f
  · rw [wasF hf q, nt1E, if_neg ne10, og_nI (by omega) (by omega), nI_clamp (by omega), og_nI (by omega) (by omega), nI_clamp (by omega), decide_eq_true q]
    by_cases q1 : be k = 2049
    · rw [if_pos q1, decide_eq_true q1]
      by_cases q2 : be (k + 1) = 18
      · rw [if_pos q2, decide_eq_true q2]; rfl
      · rw [if_neg q2, decide_eq_false q2]; rfl
    · rw [if_neg q1, decide_eq_false q1]; rfl
  · rw [wasF0 hf (by omega) (by omega), nt1E, if_pos rfl, decide_eq_false q]; rfl
theorem secAt {be mbe : Nat → Int32} {f s : Nat} (hf : f ≤ 640) (hs : s < 2147483648) (he : ∀ k, k < f → be k = mbe k) : ∀ (F k : Nat), k ≤ f → f - k < F → pop (secF mbe f) k ≤ s → ∃ r, fX5_sectionStart_L4 (nI f) 1 be F (nI k) (nI (s - pop (secF mbe f) k)) = some r ∧ fX10_sectionAt_L4 (nI f) mbe (nI s) F (nI k) (nI (pop (secF mbe f) k)) = some r ∧ (r = -1 ∨ ∃ q, q < f ∧ r = nI q) := by
  intro F
  induction F with
  | zero => intro k _ h; omega
  | succ F ih =>
    intro k hk hF hp
    rw [fX5_sectionStart_L4.eq_2, fX10_sectionAt_L4.eq_2]
    by_cases h1 : f ≤ k
    · rw [if_pos (nI_le h1 (by omega)), if_pos (nI_le h1 (by omega))]
      exact ⟨-1, rfl, rfl, Or.inl rfl⟩
    · have hle := pop_le (secF mbe f) k
      have hsec : secF be f k = secF mbe f k := by
        unfold secF
        rw [he k (by omega)]
        by_cases w : k + 1 < f
        · rw [he (k + 1) w]
        · rw [decide_eq_false w]; rfl
      rw [if_neg (nI_ge (by omega) (by omega)), if_neg (nI_ge (by omega) (by omega)), begC_eq hf (by omega), begS_eq hf (by omega), ob1E, ob1E, hsec]
      simp only [jkE, nmE]
      rw [nI_1, nI_1, dn_s]
      have hih := ih (k + 1) (by omega) (by omega)
      have es : pop (secF mbe f) (k + 1) = pop (secF mbe f) k + (secF mbe f k).toNat := rfl
      rw [es] at hih
      cases hb : secF mbe f k with
      | false =>
        rw [hb] at hih
        rw [if_pos (show b01 false = (0 : Int32) from rfl), if_pos (show b01 false = (0 : Int32) from rfl)]
        exact hih hp
      | true =>
        rw [hb] at hih
        rw [if_neg (show ¬ b01 true = (0 : Int32) from by decide), if_neg (show ¬ b01 true = (0 : Int32) from by decide)]
        by_cases q : pop (secF mbe f) k = s
        · rw [if_pos (show nI (s - pop (secF mbe f) k) = (0 : Int32) from by rw [q, Nat.sub_self]; rfl), if_pos (by rw [q])]
          exact ⟨nI k, rfl, rfl, Or.inr ⟨k, by omega, rfl⟩⟩
        · rw [if_neg (nI_ne0 (by omega) (by omega)), if_neg (fun z => q ((nI_eq (by omega) (by omega)).mp z))]
          have := hih (by show pop (secF mbe f) k + 1 ≤ s; omega)
          rw [show s - pop (secF mbe f) k = (s - (pop (secF mbe f) k + true.toNat)) + 1 from by show _ = s - (pop (secF mbe f) k + 1) + 1; omega]
          exact this
theorem labL {kn' sq be mbe mby : Nat → Int32} {w : Nat → Nat} {f q : Nat} {jj : Int32 → (Nat → Int32) → Option (Int32 × (Nat → Int32))} (hf : f ≤ 640) (hq : q + 98 ≤ f) (hw : ∀ k, k < f → be k = nI (w k) ∧ mbe k = nI (w k) ∧ w k < 16384) (hby : ∀ x, x < 16384 → fX8_byteOf kn' sq (nI x) = some (rdF x)) (hmb : ∀ x, x < 16384 → mby x = rdF x) : ∀ (F k : Nat) (o ch : Nat → Int32), k ≤ 96 → 96 - k < F → OB o (Zf w q) k → (∀ t, t < k → ch t = b01 (Zf w q t)) → (∀ t, t < k → Val w q t) →
    (∃ o' ch', fX5_readLabel_L21 1 (nI f) (nI q) kn' sq be F (nI (k + 2)) (nI (pop (Zp w q) k)) o = some (nI (pop (Zp w q) 96), o') ∧ fX10_isSound_L19 jj (nI q) mbe mby F (nI (k + 2)) 1 ch = jj 1 ch' ∧ OB o' (Zf w q) 96 ∧ (∀ t, t < 96 → ch' t = b01 (Zf w q t)) ∧ ∀ t, t < 96 → Val w q t) ∨
    (∃ o' ch', fX5_readLabel_L21 1 (nI f) (nI q) kn' sq be F (nI (k + 2)) (nI (pop (Zp w q) k)) o = some (-1, o') ∧ fX10_isSound_L19 jj (nI q) mbe mby F (nI (k + 2)) 1 ch = jj 0 ch' ∧ OB o' (Zf w q) 0) := by
  intro F
  induction F with
  | zero => intro k o ch _ h; omega
  | succ F ih =>
    intro k o ch hk hF ho hch hv
    rw [fX5_readLabel_L21.eq_2, fX10_isSound_L19.eq_2]
    by_cases h1 : 96 ≤ k
    · rw [if_pos (show (98 : Int32) ≤ nI (k + 2) from nI_le (a := 98) (by omega) (by omega)), if_pos (show (98 : Int32) ≤ nI (k + 2) from nI_le (a := 98) (by omega) (by omega)), show k = 96 from by omega]
      have e : k = 96 := by omega
      rw [e] at ho hch hv
      exact Or.inl ⟨o, ch, rfl, rfl, ho, hch, hv⟩
    · obtain ⟨w1, w2, w3⟩ := hw (q + (k + 2)) (by omega)
      have ew : q + (k + 2) = q + 2 + k := by omega
      rw [if_neg (show ¬ (98 : Int32) ≤ nI (k + 2) from nI_ge (b := 98) (by omega) (by omega)), if_neg (show ¬ (98 : Int32) ≤ nI (k + 2) from nI_ge (b := 98) (by omega) (by omega)), if_neg ne10, nI_add, wasF hf (by omega)]
      simp only [nt1E, jkE, nmE]
      rw [if_neg ne10, og_nI (by omega) (by omega), nI_clamp (n := q + (k + 2)) (by omega), w1, w2, hby _ w3, ob1E, og_nI (by omega) (by omega), og_nI w3 (by omega), nI_clamp (by omega), hmb _ w3, show nI (k + 2) - (2 : Int32) = nI k from pk_sub (b := 2) (by omega), og_nI (by omega) (by omega), nI_clamp (by omega), nI_1 (k + 2)]
      rw [ew] at w3 ⊢
      rcases val_cases (w := w) (f := q) (k := k) w3 with hm | hvk
      · rw [hm, if_pos rfl, if_pos (by decide)]
        refine Or.inr ⟨o, upd ch k ((-1 : Int32) >>> ((6 : Int32) &&& 31) &&& (1 : Int32)), rfl, ?_, fun j hj => ⟨(ho j hj).1, fun t _ z => by omega⟩⟩
        cases F with
        | zero => omega
        | succ F =>
          rw [fX10_isSound_L19.eq_2]
          by_cases z : (98 : Int32) ≤ nI (k + 2 + 1)
          · rw [if_pos z]
          · rw [if_neg z, if_pos rfl]
      · obtain ⟨v1, v2⟩ := id hvk
        obtain ⟨b1, b2, b3, b4⟩ := bq _ v1
        rw [v2, if_neg (nI_m1 (by omega)), if_neg (nI_pos (by omega)), b3]
        have e64 : ∀ (x y : Option (Int32 × (Nat → Int32))), (if nI (vB w q k) &&& (64 : Int32) = 0 then x else y) = if Zf w q k = false then x else y := fun x y => by
          by_cases z : nI (vB w q k) &&& (64 : Int32) = 0
          · rw [if_pos z, if_pos (show Zf w q k = false from b1.mp z)]
          · rw [if_neg z, if_neg (show ¬ Zf w q k = false from fun z2 => z (b1.mpr z2))]
        have e128 : ∀ (x y : Option (Int32 × (Nat → Int32))), (if nI (vB w q k) &&& (128 : Int32) = 0 then x else y) = if Zp w q k = false then x else y := fun x y => by
          by_cases z : nI (vB w q k) &&& (128 : Int32) = 0
          · rw [if_pos z, if_pos (show Zp w q k = false from b2.mp z)]
          · rw [if_neg z, if_neg (show ¬ Zp w q k = false from fun z2 => z (b2.mpr z2))]
        obtain ⟨o2, s1, s2⟩ := setBit_eq (z := Zf w q k) (by omega) ho rfl
        have hcl : (if nI (vB w q k) &&& (64 : Int32) = 0 then ob1 (fX4_setBit o (nI k) 0) fun v_label_octets_15 => if nI (vB w q k) &&& (128 : Int32) = 0 then fX5_readLabel_L21 1 (nI f) (nI q) kn' sq be F (nI (k + 2 + 1)) (nI (pop (Zp w q) k) + 0) v_label_octets_15 else fX5_readLabel_L21 1 (nI f) (nI q) kn' sq be F (nI (k + 2 + 1)) (nI (pop (Zp w q) k) + 1) v_label_octets_15 else ob1 (fX4_setBit o (nI k) 1) fun v_label_octets_15 => if nI (vB w q k) &&& (128 : Int32) = 0 then fX5_readLabel_L21 1 (nI f) (nI q) kn' sq be F (nI (k + 2 + 1)) (nI (pop (Zp w q) k) + 0) v_label_octets_15 else fX5_readLabel_L21 1 (nI f) (nI q) kn' sq be F (nI (k + 2 + 1)) (nI (pop (Zp w q) k) + 1) v_label_octets_15) = fX5_readLabel_L21 1 (nI f) (nI q) kn' sq be F (nI (k + 2 + 1)) (nI (pop (Zp w q) (k + 1))) o2 := by
          rw [e64]
          have es : pop (Zp w q) (k + 1) = pop (Zp w q) k + (Zp w q k).toNat := rfl
          rw [es]
          cases hz : Zf w q k with
          | false =>
            rw [hz] at s1
            have s1' : fX4_setBit o (nI k) 0 = _ := s1
            rw [if_pos rfl, s1', ob1E, e128]
            cases Zp w q k
            · rw [if_pos rfl, Int32.add_zero]; rfl
            · rw [if_neg (by decide), nI_1]; rfl
          | true =>
            rw [hz] at s1
            have s1' : fX4_setBit o (nI k) 1 = _ := s1
            rw [if_neg (by decide), s1', ob1E, e128]
            cases Zp w q k
            · rw [if_pos rfl, Int32.add_zero]; rfl
            · rw [if_neg (by decide), nI_1]; rfl
        rw [hcl, show b01 ((vB w q k).testBit 6) = b01 (Zf w q k) from rfl, og_nI (by omega) (by omega)]
        exact ih (k + 1) o2 (upd ch k (b01 (Zf w q k))) (by omega) (by omega) s2 (fun t ht => by
          by_cases z : t = k
          · rw [z, pk_us]
          · rw [pk_un z]; exact hch t (by omega)) (fun t ht => by
          by_cases z : t = k
          · rw [z]; exact hvk
          · exact hv t (by omega))
def cs (c : Nat) (z : Bool) : Nat := if (decide (c / 32768 = 1) ^^ z) then (2 * c % 65536) ^^^ 4129 else 2 * c % 65536
def crc (Z : Nat → Bool) : Nat → Nat
  | 0 => 0
  | k + 1 => cs (crc Z k) (Z k)
theorem cs_lt {c : Nat} {z : Bool} : cs c z < 65536 := by
  unfold cs
  cases (decide (c / 32768 = 1) ^^ z)
  · simp only [Bool.false_eq_true, if_false]; omega
  · simp only [if_true]
    exact Nat.xor_lt_two_pow (n := 16) (by omega) (by omega)
theorem crc_lt (Z : Nat → Bool) : ∀ k, crc Z k < 65536
  | 0 => by show 0 < 65536; omega
  | k + 1 => cs_lt
theorem step_R {c : Nat} {z : Bool} (hc : c < 65536) : fX10_checkStep (nI c) (b01 z) = nI (cs c z) := by
  unfold fX10_checkStep cs
  rw [pk_shrN (by omega) ((15 : Int32) &&& 31) 15 (by decide), show (1 : Int32) = nI 1 from rfl, nx_and, Nat.and_one_is_mod, show nI 1 = (1 : Int32) from rfl, shl1 (by omega), nx_mod, show (0 : Int32) = nI 0 from rfl, show (4129 : Int32) = nI 4129 from rfl, nx_xor, nx_xor, Nat.xor_zero, show c / 2 ^ 15 % 2 = c / 32768 from by omega, b01_n]
  have hq : c / 32768 = 0 ∨ c / 32768 = 1 := by omega
  rcases hq with hq | hq
  · rw [hq]
    cases z
    · rw [if_pos (by rfl)]; rfl
    · rw [if_neg (by decide)]; rfl
  · rw [hq]
    cases z
    · rw [if_neg (by decide)]; rfl
    · rw [if_pos (by rfl)]; rfl
theorem restL80 {o : Nat → Int32} {Z : Nat → Bool} (ho : OB o Z 96) : ∀ (F k : Nat), k ≤ 80 → 80 - k < F → fX4_restOf80_L4 o F (nI k) (nI (crc Z k)) = some (nI (crc Z 80)) := by
  intro F
  induction F with
  | zero => intro k _ h; omega
  | succ F ih =>
    intro k hk hF
    rw [fX4_restOf80_L4.eq_2]
    by_cases h1 : 80 ≤ k
    · rw [if_pos (show (80 : Int32) ≤ nI k from nI_le (a := 80) h1 (by omega)), show k = 80 from by omega]
    · have hbit : fX4_bitOf o (nI k) = some (b01 (Z k)) := by
        unfold fX4_bitOf
        have := (ho (k / 8) (by omega)).2 (k % 8) (by omega) (by omega)
        rw [show 8 * (k / 8) + k % 8 = k from by omega] at this
        rw [if_neg (nI_pos (by omega)), if_neg (show ¬ (96 : Int32) ≤ nI k from nI_ge (b := 96) (by omega) (by omega)), shr3 (by omega), and7 (by omega), og_nI (by omega) (by omega), nI_clamp (by omega), show (7 : Int32) - nI (k % 8) = nI (7 - k % 8) from pk_sub (a := 7) (by omega), bt_tst _ _ (by omega), this]
      have hc := crc_lt Z k
      rw [if_neg (show ¬ (80 : Int32) ≤ nI k from nI_ge (b := 80) (by omega) (by omega)), hbit, ob1E]
      simp only [jkE, nmE]
      rw [show ((nI (crc Z k)).toUInt32 >>> (Int32.toUInt32 15 &&& Int32.toUInt32 31)).toInt32 = nI (crc Z k / 2 ^ 15) from nx_ush2 (j := 15) (by omega) (by omega), shl1 (by omega), nx_mod, show (4129 : Int32) = nI 4129 from rfl, nx_xor, nI_1, b01_n, nx_xor]
      have hih := ih (k + 1) (by omega) (by omega)
      rw [show crc Z (k + 1) = cs (crc Z k) (Z k) from rfl] at hih
      unfold cs at hih
      have hq : crc Z k / 2 ^ 15 = crc Z k / 32768 := rfl
      rw [hq]
      have h01 : crc Z k / 32768 = 0 ∨ crc Z k / 32768 = 1 := by omega
      generalize crc Z k = c at *
      rcases h01 with h0 | h0
      · rw [h0] at hih ⊢
        generalize Z k = z at *
        cases z
        · rw [if_neg (by decide)]; exact hih
        · rw [if_pos (by decide)]; exact hih
      · rw [h0] at hih ⊢
        generalize Z k = z at *
        cases z
        · rw [if_pos (by decide)]; exact hih
        · rw [if_neg (by decide)]; exact hih
theorem crcR {jj : Int32 → Option (Int32 × (Nat → Int32))} {ch : Nat → Int32} {Z : Nat → Bool} (hc : ∀ t, t < 96 → ch t = b01 (Z t)) : ∀ (F k : Nat), k ≤ 80 → 80 - k < F → fX10_isSound_L87 jj ch F (nI k) (nI (crc Z k)) = jj (nI (crc Z 80)) := by
  intro F
  induction F with
  | zero => intro k _ h; omega
  | succ F ih =>
    intro k hk hF
    rw [fX10_isSound_L87.eq_2]
    by_cases h1 : 80 ≤ k
    · rw [if_pos (show (80 : Int32) ≤ nI k from nI_le (a := 80) h1 (by omega)), show k = 80 from by omega]
    · rw [if_neg (show ¬ (80 : Int32) ≤ nI k from nI_ge (b := 80) (by omega) (by omega)), og_nI (by omega) (by omega), nI_clamp (by omega), hc k (by omega), nt1E, nmE, step_R (crc_lt Z k), nI_1]
      exact ih (k + 1) (by omega) (by omega)
theorem chB {ch : Nat → Int32} {Z : Nat → Bool} {a n : Nat} (hc : ∀ t, t < 96 → ch t = b01 (Z t)) (ha : a + n ≤ 96) (hn : n ≤ 16) : ∀ (F k : Nat), k ≤ n → n - k < F → fX10_channelBits_L5 (nI n) (nI a) ch F (nI k) (nI (tkN Z a k)) = some (nI (tkN Z a n)) := by
  intro F
  induction F with
  | zero => intro k _ h; omega
  | succ F ih =>
    intro k hk hF
    rw [fX10_channelBits_L5.eq_2]
    by_cases h1 : n ≤ k
    · rw [if_pos (nI_le h1 (by omega)), show k = n from by omega]
    · have h32 := tk_lt Z a k
      have hp : 2 ^ k ≤ 2 ^ 16 := Nat.pow_le_pow_right (by omega) (by omega)
      rw [if_neg (nI_ge (by omega) (by omega)), nI_add, og_nI (by omega) (by omega), nmE, nmE, nI_clamp (by omega), hc (a + k) (by omega), shl1 (by omega), b01_n, nx_or, or_low, nI_1]
      exact ih (k + 1) (by omega) (by omega)
theorem chB_eq {ch : Nat → Int32} {Z : Nat → Bool} {a n : Nat} (hc : ∀ t, t < 96 → ch t = b01 (Z t)) (ha : a + n ≤ 96) (hn : n ≤ 16) : fX10_channelBits ch (nI a) (nI n) = some (nI (tkN Z a n)) := by
  unfold fX10_channelBits
  exact chB hc ha hn FU 0 (by omega) (by rw [FU_eq]; omega)
