/-! ===== the start ===== -/
set_option maxRecDepth 100000 in
def FoT : List Nat := [3, 42, 10, 999, 58, 999, 999, 999, 12, 44, 999, 999, 999, 999, 999, 999, 11, 46, 14, 999, 999, 999, 999, 999, 999, 999, 999, 999, 999, 999, 999, 999, 1, 40, 8, 999, 0, 999, 999, 999, 999, 999, 999, 999, 999, 999, 999, 999, 999, 999, 999, 999, 999, 999, 999, 999, 999, 999, 999, 999, 999, 999, 999, 999, 17, 34, 2, 999, 6, 999, 999, 999, 4, 36, 999, 999, 999, 999, 999, 999, 999, 999, 999, 999, 999, 999, 999, 999, 999, 999, 999, 999, 999, 999, 999, 999, 999, 999, 999, 999, 999, 999, 999, 999, 999, 999, 999, 999, 999, 999, 999, 999, 999, 999, 999, 999, 999, 999, 999, 999, 999, 999, 999, 999, 999, 999, 999, 999]
set_option maxRecDepth 100000 in
def KkT : List Nat := [4, 16, 8, 0, 19, 0, 0, 0, 10, 17, 0, 0, 0, 0, 0, 0, 9, 18, 11, 0, 0, 0, 0, 0, 0, 0, 0, 0, 0, 0, 0, 0, 2, 15, 7, 0, 1, 0, 0, 0, 0, 0, 0, 0, 0, 0, 0, 0, 0, 0, 0, 0, 0, 0, 0, 0, 0, 0, 0, 0, 0, 0, 0, 0, 12, 13, 3, 0, 6, 0, 0, 0, 5, 14, 0, 0, 0, 0, 0, 0, 0, 0, 0, 0, 0, 0, 0, 0, 0, 0, 0, 0, 0, 0, 0, 0, 0, 0, 0, 0, 0, 0, 0, 0, 0, 0, 0, 0, 0, 0, 0, 0, 0, 0, 0, 0, 0, 0, 0, 0, 0, 0, 0, 0, 0, 0, 0, 0]
set_option maxRecDepth 100000 in
def KnT : List Nat := [0, 1, 2, 3, 4, 5, 5, 6, 6, 7, 7, 8, 9, 10, 10, 11, 11, 11, 12, 12, 12, 12, 12, 12, 12, 12, 12, 12, 12, 12, 12, 12, 12, 12, 12, 13, 13, 14, 14, 14, 14, 15, 15, 16, 16, 17, 17, 18, 18, 18, 18, 18, 18, 18, 18, 18, 18, 18, 18, 19, 19, 19, 19, 19, 19, 19, 19, 19, 19, 19, 19, 19, 19, 19, 19, 19, 19, 19, 19, 19, 19, 19, 19, 19, 19, 19, 19, 19, 19, 19, 19, 19, 19, 19, 19, 19, 19, 19, 19, 19, 19, 19, 19, 19, 19, 19, 19, 19, 19, 19, 19, 19, 19, 19, 19, 19, 19, 19, 19, 19, 19, 19, 19, 19, 19, 19, 19, 19, 19, 19, 19, 19, 19, 19, 19, 19, 19, 19, 19, 19, 19, 19, 19, 19, 19, 19, 19, 19, 19, 19, 19, 19, 19, 19, 19, 19, 19, 19, 19, 19, 19, 19, 19, 19, 19, 19, 19, 19, 19, 19, 19, 19, 19, 19, 19, 19, 19, 19, 19, 19, 19, 19, 19, 19, 19, 19, 19, 19, 19, 19, 19, 19, 19, 19, 19, 19, 19, 19, 19, 19, 19, 19, 19, 19, 19, 19, 19, 19, 19, 19, 19, 19, 19, 19, 19, 19, 19, 19, 19, 19, 19, 19, 19, 19, 19, 19, 19, 19, 19, 19, 19, 19, 19, 19, 19, 19, 19, 19, 19, 19, 19, 19, 19, 19, 19, 19, 19, 19, 19, 19, 19, 19, 19, 19, 19, 19, 19, 19, 19, 19, 19, 19, 19, 19, 19, 19, 19, 19, 19, 19, 19, 19, 19, 19, 19, 19, 19, 19, 19, 19, 19, 19, 19, 19, 19, 19, 19, 19, 19, 19, 19, 19, 19, 19, 19, 19, 19, 19, 19, 19, 19, 19, 19, 19, 19, 19, 19, 19, 19, 19, 19, 19, 19, 19, 19, 19, 19, 19, 19, 19, 19, 19, 19, 19, 19, 19, 19, 19, 19, 19, 19, 19, 19, 19, 19, 19, 19, 19, 19, 19, 19, 19, 19, 19, 19, 19, 19, 19, 19, 19, 19, 19, 19, 19, 19, 19, 19, 19, 19, 19, 19, 19, 19, 19, 19, 19, 19, 19, 19, 19, 19, 19, 19, 19, 19, 19, 19, 19, 19, 19, 19, 19, 19, 19, 19, 19, 19, 19, 19, 19, 19, 19, 19, 19, 19, 19, 19, 19, 19, 19, 19, 19, 19, 19, 19, 19, 19, 19, 19, 19, 19, 19, 19, 19, 19, 19, 19, 19, 19, 19, 19, 19, 19, 19, 19, 19, 19, 19, 19, 19, 19, 19, 19, 19, 19, 19, 19, 19, 19, 19, 19, 19, 19, 19, 19, 19, 19, 19, 19, 19, 19, 19, 19, 19, 19, 19, 19, 19, 19, 19, 19, 19, 19, 19, 19, 19, 19, 19, 19, 19, 19, 19, 19, 19, 19, 19, 19, 19, 19, 19, 19, 19, 19, 19, 19, 19, 19, 19, 19, 19, 19, 19, 19, 19, 19, 19, 19, 19, 19, 19, 19, 19, 19, 19, 19, 19, 19, 19, 19, 19, 19, 19, 19]
set_option maxRecDepth 100000 in
def QqT : List Nat := [0, 0, 0, 0, 0, 0, 0, 0, 0, 0, 0, 0, 0, 0, 0, 0, 0, 0, 0, 0, 0, 64, 0, 104, 0, 40, 72, 96, 120, 24, 56, 248, 8, 136, 168, 128, 152, 184, 216, 88, 0, 102, 38, 108, 0, 44, 76, 230, 124, 28, 60, 252, 12, 140, 172, 166, 0, 188, 220, 92, 0, 65, 211, 0, 1, 0, 0, 97, 232, 51, 33, 226, 0, 0, 0, 129, 201, 161, 193, 233, 0, 69, 32, 109, 0, 45, 77, 101, 0, 0, 0, 0, 13, 141, 173, 133, 0, 0, 0, 0, 0, 66, 2, 106, 0, 42, 74, 98, 122, 26, 58, 250, 10, 138, 170, 130, 154, 186, 218, 90, 0, 67, 3, 107, 0, 43, 75, 99, 123, 27, 59, 251, 11, 139, 171, 131, 155, 187, 219, 91, 0, 68, 192, 0, 4, 0, 0, 100, 224, 162, 36, 228, 0, 0, 0, 132, 204, 164, 196, 236, 0, 208, 176, 0, 48, 0, 0, 240, 225, 5, 37, 229, 0, 0, 0, 163, 205, 165, 197, 237, 0, 83, 19, 111, 0, 47, 79, 115, 127, 31, 63, 255, 15, 143, 175, 147, 0, 191, 223, 95, 0, 70, 6, 110, 0, 46, 78, 238, 126, 30, 62, 254, 14, 142, 174, 134, 158, 190, 222, 94, 0, 71, 35, 0, 7, 0, 0, 103, 227, 179, 39, 231, 0, 0, 0, 135, 207, 167, 199, 239, 0, 80, 16, 105, 0, 41, 73, 112, 0, 25, 57, 249, 9, 137, 169, 144, 0, 185, 217, 89, 0, 0, 0, 0, 17, 0, 0, 0, 113, 153, 49, 241, 0, 0, 0, 0, 145, 177, 209, 81, 0, 0, 0, 0, 18, 0, 0, 0, 114, 194, 50, 242, 0, 0, 0, 0, 146, 178, 210, 82, 0, 0, 0, 0, 20, 0, 0, 0, 116, 156, 52, 244, 0, 0, 0, 0, 148, 180, 212, 84, 0, 0, 0, 0, 21, 0, 0, 0, 117, 206, 53, 245, 0, 0, 0, 0, 149, 181, 213, 85, 0, 0, 0, 0, 22, 0, 0, 0, 118, 198, 54, 246, 0, 0, 0, 0, 150, 182, 214, 86, 0, 0, 0, 0, 23, 0, 0, 0, 119, 159, 55, 247, 0, 0, 0, 0, 151, 183, 215, 87, 0, 195, 34, 235, 0, 121, 202, 243, 125, 29, 61, 253, 203, 200, 234, 160, 157, 189, 221, 93]
def wN (b : Nat) : Nat := (wordsF b).toNatClampNeg
def fo (t : Nat) : Nat := FoT.getD t 999
def kk (t : Nat) : Nat := KkT.getD t 0
def kn (t : Nat) : Nat := KnT.getD t 0
def qq (t : Nat) : Nat := QqT.getD t 0
theorem wf1 : ∀ b, b < 256 → wordsF b = nI (wN b) ∧ wN b < 16384 := by decide +kernel
theorem rdw : ∀ b, b < 256 → rdF (wN b) = nI b := by decide +kernel
theorem fa1 : ∀ b, b < 256 → fo (wN b / 128) ≤ 2 * b ∧ (fo (wN b / 128) = 2 * b → kn (2 * b) < 19 ∧ kk (wN b / 128) = kn (2 * b) + 1 ∧ kn (2 * b + 1) = kn (2 * b) + 1) ∧ (fo (wN b / 128) < 2 * b → 0 < kk (wN b / 128) ∧ kn (2 * b + 1) = kn (2 * b)) := by decide +kernel
theorem fa2 : ∀ b, b < 256 → fo (wN b % 128) ≤ 2 * b + 1 ∧ (fo (wN b % 128) = 2 * b + 1 → kn (2 * b + 1) < 19 ∧ kk (wN b % 128) = kn (2 * b + 1) + 1 ∧ kn (2 * b + 2) = kn (2 * b + 1) + 1) ∧ (fo (wN b % 128) < 2 * b + 1 → 0 < kk (wN b % 128) ∧ kn (2 * b + 2) = kn (2 * b + 1)) := by decide +kernel
theorem fa3 : ∀ t, t < 128 → kk t ≤ 19 ∧ (fo t < 512 → (fo t % 2 = 0 → t = wN (fo t / 2) / 128) ∧ (fo t % 2 = 1 → t = wN (fo t / 2) % 128)) ∧ (512 ≤ fo t → kk t = 0) := by decide +kernel
theorem fa4 : ∀ b, b < 256 → qq (kk (wN b / 128) * 20 + kk (wN b % 128)) = b := by decide +kernel
def kd (j t : Nat) : Nat := if fo t < j then kk t else 0
theorem kd_le (j : Nat) {t : Nat} (ht : t < 128) : kd j t ≤ 19 := by
  have := (fa3 t ht).1
  unfold kd
  by_cases q : fo t < j
  · rw [if_pos q]; exact this
  · rw [if_neg q]; omega
theorem kd_hi {b t : Nat} (hb : b < 256) (ht : t < 128) (h : t ≠ wN b / 128) : kd (2 * b + 1) t = kd (2 * b) t := by
  unfold kd
  by_cases q : fo t < 2 * b
  · rw [if_pos q, if_pos (by omega)]
  · rw [if_neg q]
    by_cases q2 : fo t = 2 * b
    · have := ((fa3 t ht).2.1 (by omega)).1 (by omega)
      rw [q2, show 2 * b / 2 = b from by omega] at this
      exact absurd this h
    · rw [if_neg (by omega)]
theorem kd_lo {b t : Nat} (hb : b < 256) (ht : t < 128) (h : t ≠ wN b % 128) : kd (2 * b + 2) t = kd (2 * b + 1) t := by
  unfold kd
  by_cases q : fo t < 2 * b + 1
  · rw [if_pos q, if_pos (by omega)]
  · rw [if_neg q]
    by_cases q2 : fo t = 2 * b + 1
    · have := ((fa3 t ht).2.1 (by omega)).2 (by omega)
      rw [q2, show (2 * b + 1) / 2 = b from by omega] at this
      exact absurd this h
    · rw [if_neg (by omega)]
theorem and127 {n : Nat} (h : n < 4294967296) : nI n &&& (127 : Int32) = nI (n % 128) := pk_andN h (m := 127) 7 (by decide)
theorem ush7 {n : Nat} (h : n < 4294967296) : ((nI n).toUInt32 >>> (Int32.toUInt32 7 &&& Int32.toUInt32 31)).toInt32 = nI (n / 128) := nx_ush2 (j := 7) h (by omega)
theorem spL {jj : (Nat → Int32) → (Nat → Int32) → Option ((Nat → Int32) × (Nat → Int32))} : ∀ (F b : Nat) (kn' sq : Nat → Int32), b ≤ 256 → 256 - b < F → (∀ t, t < 128 → kn' t = nI (kd (2 * b) t)) → (∀ c, c < b → sq (kk (wN c / 128) * 20 + kk (wN c % 128)) = nI c) →
    ∃ kn'' sq', fX8_init_L26 jj F (nI b) (nI (kn (2 * b))) kn' sq = jj kn'' sq' ∧ (∀ t, t < 128 → kn'' t = nI (kd 512 t)) ∧ ∀ c, c < 256 → sq' (kk (wN c / 128) * 20 + kk (wN c % 128)) = nI c := by
  intro F
  induction F with
  | zero => intro b kn' sq _ h; omega
  | succ F ih =>
    intro b kn' sq hb hF hk hs
    rw [fX8_init_L26.eq_2]
    by_cases h1 : 256 ≤ b
    · rw [if_pos (show (256 : Int32) ≤ nI b from nI_le (a := 256) h1 (by omega))]
      have e : b = 256 := by omega
      rw [e] at hk hs
      exact ⟨kn', sq, rfl, hk, hs⟩
    · have hb2 : b < 256 := by omega
      obtain ⟨w1, w2⟩ := wf1 b hb2
      obtain ⟨p1, p2, p3⟩ := fa1 b hb2
      obtain ⟨r1, r2, r3⟩ := fa2 b hb2
      have q4 := fa4 b hb2
      have hh : wN b / 128 < 128 := by omega
      have hl : wN b % 128 < 128 := by omega
      have kh := (fa3 _ hh).1
      have kl := (fa3 _ hl).1
      rw [if_neg (show ¬ (256 : Int32) ≤ nI b from nI_ge (b := 256) hb2 (by omega)), og_nI hb2 (by omega), nmE, og_nI hb2 (by omega), nmE, nI_clamp (n := b) (by omega), w1, ush7 (by omega), and127 (by omega), and127 (by omega), show wN b / 128 % 128 = wN b / 128 from by omega]
      have s1 : ∀ (f : Int32 → (Nat → Int32) → Option ((Nat → Int32) × (Nat → Int32))), (jk f fun j81_17 => if kn' (Int32.toNatClampNeg (nI (wN b / 128))) = 0 then if (19 : Int32) ≤ nI (kn (2 * b)) then j81_17 (nI (kn (2 * b))) kn' else nm (nI (kn (2 * b)) + 1 : Int32) fun x1_34 => og (ixb (nI (wN b / 128)) 128) (nm (upd kn' (Int32.toNatClampNeg (nI (wN b / 128))) x1_34) fun v_kinds_36 => j81_17 x1_34 v_kinds_36) else j81_17 (nI (kn (2 * b))) kn') = f (nI (kn (2 * b + 1))) (if fo (wN b / 128) = 2 * b then upd kn' (wN b / 128) (nI (kn (2 * b) + 1)) else kn') := fun f => by
        rw [jkE, nmE, nmE, nI_clamp (by omega), hk _ hh]
        by_cases q : fo (wN b / 128) = 2 * b
        · obtain ⟨z1, z2, z3⟩ := p2 q
          rw [if_pos q, if_pos (show nI (kd (2 * b) (wN b / 128)) = (0 : Int32) from by unfold kd; rw [if_neg (by omega)]; rfl), if_neg (show ¬ (19 : Int32) ≤ nI (kn (2 * b)) from nI_ge (b := 19) z1 (by omega)), og_nI hh (by omega), nI_1, z3]
        · obtain ⟨z1, z2⟩ := p3 (by omega)
          rw [if_neg q, if_neg (show ¬ nI (kd (2 * b) (wN b / 128)) = (0 : Int32) from by unfold kd; rw [if_pos (by omega)]; exact nI_ne0 z1 (by omega)), z2]
      rw [og_nI hh (by omega), s1]
      have hk1 : ∀ t, t < 128 → (if fo (wN b / 128) = 2 * b then upd kn' (wN b / 128) (nI (kn (2 * b) + 1)) else kn') t = nI (kd (2 * b + 1) t) := fun t ht => by
        by_cases q : fo (wN b / 128) = 2 * b
        · obtain ⟨z1, z2, z3⟩ := p2 q
          rw [if_pos q]
          by_cases w : t = wN b / 128
          · rw [w, pk_us]; unfold kd; rw [if_pos (by omega), z2]
          · rw [pk_un w, kd_hi hb2 ht w]; exact hk t ht
        · rw [if_neg q, hk t ht]
          by_cases w : t = wN b / 128
          · rw [w]; unfold kd; rw [if_pos (by omega), if_pos (by omega)]
          · rw [kd_hi hb2 ht w]
      generalize (if fo (wN b / 128) = 2 * b then upd kn' (wN b / 128) (nI (kn (2 * b) + 1)) else kn') = k1 at *
      have s2 : ∀ (f : Int32 → (Nat → Int32) → Option ((Nat → Int32) × (Nat → Int32))), (jk f fun j81_17 => if k1 (Int32.toNatClampNeg (nI (wN b % 128))) = 0 then if (19 : Int32) ≤ nI (kn (2 * b + 1)) then j81_17 (nI (kn (2 * b + 1))) k1 else nm (nI (kn (2 * b + 1)) + 1 : Int32) fun x1_34 => og (ixb (nI (wN b % 128)) 128) (nm (upd k1 (Int32.toNatClampNeg (nI (wN b % 128))) x1_34) fun v_kinds_36 => j81_17 x1_34 v_kinds_36) else j81_17 (nI (kn (2 * b + 1))) k1) = f (nI (kn (2 * b + 2))) (if fo (wN b % 128) = 2 * b + 1 then upd k1 (wN b % 128) (nI (kn (2 * b + 1) + 1)) else k1) := fun f => by
        rw [jkE, nmE, nmE, nI_clamp (by omega), hk1 _ hl]
        by_cases q : fo (wN b % 128) = 2 * b + 1
        · obtain ⟨z1, z2, z3⟩ := r2 q
          rw [if_pos q, if_pos (show nI (kd (2 * b + 1) (wN b % 128)) = (0 : Int32) from by unfold kd; rw [if_neg (by omega)]; rfl), if_neg (show ¬ (19 : Int32) ≤ nI (kn (2 * b + 1)) from nI_ge (b := 19) z1 (by omega)), og_nI hl (by omega), nI_1, z3]
        · obtain ⟨z1, z2⟩ := r3 (by omega)
          rw [if_neg q, if_neg (show ¬ nI (kd (2 * b + 1) (wN b % 128)) = (0 : Int32) from by unfold kd; rw [if_pos (by omega)]; exact nI_ne0 z1 (by omega)), z2]
      rw [og_nI hl (by omega), s2]
      have hk2 : ∀ t, t < 128 → (if fo (wN b % 128) = 2 * b + 1 then upd k1 (wN b % 128) (nI (kn (2 * b + 1) + 1)) else k1) t = nI (kd (2 * b + 2) t) := fun t ht => by
        by_cases q : fo (wN b % 128) = 2 * b + 1
        · obtain ⟨z1, z2, z3⟩ := r2 q
          rw [if_pos q]
          by_cases w : t = wN b % 128
          · rw [w, pk_us]; unfold kd; rw [if_pos (by omega), z2]
          · rw [pk_un w, kd_lo hb2 ht w]; exact hk1 t ht
        · rw [if_neg q, hk1 t ht]
          by_cases w : t = wN b % 128
          · rw [w]; unfold kd; rw [if_pos (by omega), if_pos (by omega)]
          · rw [kd_lo hb2 ht w]
      generalize (if fo (wN b % 128) = 2 * b + 1 then upd k1 (wN b % 128) (nI (kn (2 * b + 1) + 1)) else k1) = k2 at *
      have ekh : kd (2 * b + 2) (wN b / 128) = kk (wN b / 128) := by unfold kd; rw [if_pos (by omega)]
      have ekl : kd (2 * b + 2) (wN b % 128) = kk (wN b % 128) := by unfold kd; rw [if_pos (by omega)]
      rw [og_nI hh (by omega), og_nI hl (by omega), nI_clamp (by omega), nI_clamp (by omega), hk2 _ hh, hk2 _ hl, ekh, ekl, show nI (kk (wN b / 128)) * (20 : Int32) = nI (kk (wN b / 128) * 20) from pk_mul _ 20, nI_add, og_nI (by omega) (by omega), nmE, nmE, nI_clamp (by omega), nI_1]
      refine ih (b + 1) k2 _ (by omega) (by omega) hk2 (fun c hc => ?_)
      by_cases w : c = b
      · rw [w, pk_us]
      · rw [pk_un (fun z => w (by have := fa4 c (by omega); rw [z, q4] at this; exact this.symm))]
        exact hs c (by omega)
theorem rd_no {w : Nat} (hw : w < 16384) (h : ∀ b, b < 256 → wN b ≠ w) : rdF w = -1 := by
  unfold rdF
  have : (List.range 256).find? (fun b => wordsF b == nI w) = none := by
    rw [List.find?_eq_none]
    intro b hb hq
    have hb2 := List.mem_range.mp hb
    have : wordsF b = nI w := by simpa using hq
    refine h b hb2 ?_
    unfold wN
    rw [this, nI_clamp (by omega)]
  rw [this]
theorem wordOf_eq {b : Nat} (hb : b < 256) : fX8_wordOf (nI b) = some (nI (wN b)) := by
  unfold fX8_wordOf
  rw [if_neg (nI_pos (by omega)), if_neg (show ¬ (256 : Int32) ≤ nI b from nI_ge (b := 256) hb (by omega)), og_nI hb (by omega), nI_clamp (by omega), (wf1 b hb).1]
theorem wordOf_ne {x : Int32} {w : Nat} (hw : w < 16384) (h : ∀ b, b < 256 → wN b ≠ w) : ∃ r, fX8_wordOf x = some r ∧ ¬ r = nI w := by
  rcases i_cases x with hx | ⟨b, hb, rfl⟩
  · refine ⟨-1, ?_, fun z => nI_m1 (by omega) z.symm⟩
    unfold fX8_wordOf
    rw [if_pos hx]
  · by_cases q : b < 256
    · exact ⟨_, wordOf_eq q, fun z => h b q ((nI_eq (by have := (wf1 b q).2; omega) (by omega)).mp z)⟩
    · refine ⟨-1, ?_, fun z => nI_m1 (by omega) z.symm⟩
      unfold fX8_wordOf
      rw [if_neg (nI_pos (by omega)), if_pos (show (256 : Int32) ≤ nI b from nI_le (a := 256) (by omega) (by omega))]
theorem byteOf_ok {kn' sq : Nat → Int32} (hk : ∀ t, t < 128 → kn' t = nI (kd 512 t)) (hs : ∀ c, c < 256 → sq (kk (wN c / 128) * 20 + kk (wN c % 128)) = nI c) : ∀ w, w < 16384 → fX8_byteOf kn' sq (nI w) = some (rdF w) := fun w hw => by
  unfold fX8_byteOf
  have k1 := kd_le 512 (t := w / 128) (by omega)
  have k2 := kd_le 512 (t := w % 128) (by omega)
  rw [if_neg (nI_pos (by omega)), if_pos (show nI w < (16384 : Int32) from nI_lt (b := 16384) hw (by omega)), ush7 (by omega), and127 (by omega), og_nI (by omega) (by omega), og_nI (by omega) (by omega), nI_clamp (by omega), nI_clamp (by omega), hk _ (by omega), hk _ (by omega), show nI (kd 512 (w / 128)) * (20 : Int32) = nI (kd 512 (w / 128) * 20) from pk_mul _ 20, nI_add, og_nI (by omega) (by omega), nmE, nI_clamp (by omega)]
  by_cases q : ∃ b, b < 256 ∧ wN b = w
  · obtain ⟨b, hb, rfl⟩ := q
    have f1 := (fa1 b hb).1
    have f2 := (fa2 b hb).1
    have e1 : kd 512 (wN b / 128) = kk (wN b / 128) := by unfold kd; rw [if_pos (by omega)]
    have e2 : kd 512 (wN b % 128) = kk (wN b % 128) := by unfold kd; rw [if_pos (by omega)]
    rw [e1, e2, hs b hb, wordOf_eq hb, ob1E, if_pos rfl, rdw b hb]
  · have hno : ∀ b, b < 256 → wN b ≠ w := fun b hb z => q ⟨b, hb, z⟩
    obtain ⟨r, r1, r2⟩ := wordOf_ne (x := sq (kd 512 (w / 128) * 20 + kd 512 (w % 128))) hw hno
    rw [r1, ob1E, if_neg r2, rd_no hw hno]
theorem gpi {a b : Nat} (ha : a < 255) (hb : b < 255) (h : gp a = gp b) : a = b := by
  have := congrArg gl h
  rw [gl_gp0 a ha, gl_gp0 b hb] at this
  exact this
theorem fcL {jj : (Nat → Int32) → (Nat → Int32) → Option ((Nat → Int32) × (Nat → Int32))} : ∀ (F i : Nat) (pwr lg : Nat → Int32), i ≤ 255 → 255 - i < F → (∀ t, t < i → pwr t = nI (gp t) ∧ pwr (t + 255) = nI (gp t) ∧ lg (gp t) = nI t) →
    ∃ pwr' lg', fX2_init_L26 jj F (nI i) (nI (gp i)) pwr lg = jj pwr' lg' ∧ ∀ t, t < 255 → pwr' t = nI (gp t) ∧ pwr' (t + 255) = nI (gp t) ∧ lg' (gp t) = nI t := by
  intro F
  induction F with
  | zero => intro i pwr lg _ h; omega
  | succ F ih =>
    intro i pwr lg hi hF h
    rw [fX2_init_L26.eq_2]
    by_cases h1 : 255 ≤ i
    · rw [if_pos (show (255 : Int32) ≤ nI i from nI_le (a := 255) h1 (by omega))]
      exact ⟨pwr, lg, rfl, fun t ht => h t (by omega)⟩
    · have hg := gp_lt i
      rw [if_neg (show ¬ (255 : Int32) ≤ nI i from nI_ge (b := 255) (by omega) (by omega)), og_nI (by omega) (by omega), nmE, show nI i + (255 : Int32) = nI (i + 255) from nI_add i 255, og_nI (by omega) (by omega), nmE, and255 hg, og_nI hg (by omega), nmE, nt1E, nmE, twiceC _ hg, nI_clamp (by omega), nI_clamp (by omega), nI_clamp (by omega), nI_1]
      refine ih (i + 1) _ _ (by omega) (by omega) (fun t ht => ⟨?_, ?_, ?_⟩)
      · rw [pk_un (by omega)]
        by_cases w : t = i
        · rw [w, pk_us]
        · rw [pk_un w]; exact (h t (by omega)).1
      · by_cases w : t = i
        · rw [w, pk_us]
        · rw [pk_un (by omega), pk_un (by omega)]; exact (h t (by omega)).2.1
      · by_cases w : t = i
        · rw [w, pk_us]
        · rw [pk_un (fun z => w (gpi (by omega) (by omega) z))]; exact (h t (by omega)).2.2
theorem tab_of {pwr lg : Nat → Int32} (h : ∀ t, t < 255 → pwr t = nI (gp t) ∧ pwr (t + 255) = nI (gp t) ∧ lg (gp t) = nI t) : TabF pwr lg := by
  refine ⟨fun i hi => ?_, fun i hi => (h i hi).2.2⟩
  by_cases q : i < 255
  · exact (h i q).1
  · have := (h (i - 255) (by omega)).2.1
    rw [show i - 255 + 255 = i from by omega] at this
    rw [this, ← gp_per (i - 255), show i - 255 + 255 = i from by omega]
theorem frL {jj : (Nat → Int32) → (Nat → Int32) → Option ((Nat → Int32) × (Nat → Int32) × (Nat → Int32))} : ∀ (F i : Nat) (pwr lg : Nat → Int32), i ≤ 255 → 255 - i < F → (∀ t, t < i → pwr t = nI (gp t) ∧ pwr (t + 255) = nI (gp t) ∧ lg (gp t) = nI t) →
    ∃ pwr' lg', fX10_init_L2156 jj F (nI i) (nI (gp i)) pwr lg = jj pwr' lg' ∧ ∀ t, t < 255 → pwr' t = nI (gp t) ∧ pwr' (t + 255) = nI (gp t) ∧ lg' (gp t) = nI t := by
  intro F
  induction F with
  | zero => intro i pwr lg _ h; omega
  | succ F ih =>
    intro i pwr lg hi hF h
    rw [fX10_init_L2156.eq_2]
    by_cases h1 : 255 ≤ i
    · rw [if_pos (show (255 : Int32) ≤ nI i from nI_le (a := 255) h1 (by omega))]
      exact ⟨pwr, lg, rfl, fun t ht => h t (by omega)⟩
    · have hg := gp_lt i
      rw [if_neg (show ¬ (255 : Int32) ≤ nI i from nI_ge (b := 255) (by omega) (by omega)), og_nI (by omega) (by omega), nmE, show nI i + (255 : Int32) = nI (i + 255) from nI_add i 255, og_nI (by omega) (by omega), nmE, og_nI hg (by omega)]
      simp only [jkE, nmE]
      rw [nI_clamp (by omega), nI_clamp (by omega), nI_clamp (by omega), nI_1]
      have tw := twiceC _ hg
      unfold fX2_twice at tw
      rw [nmE] at tw
      have hih := ih (i + 1) (upd (upd pwr i (nI (gp i))) (i + 255) (nI (gp i))) (upd lg (gp i) (nI i)) (by omega) (by omega) (fun t ht => ⟨by
        rw [pk_un (by omega)]
        by_cases w : t = i
        · rw [w, pk_us]
        · rw [pk_un w]; exact (h t (by omega)).1, by
        by_cases w : t = i
        · rw [w, pk_us]
        · rw [pk_un (by omega), pk_un (by omega)]; exact (h t (by omega)).2.1, by
        by_cases w : t = i
        · rw [w, pk_us]
        · rw [pk_un (fun z => w (gpi (by omega) (by omega) z))]; exact (h t (by omega)).2.2⟩)
      rw [show gp (i + 1) = g2 (gp i) from rfl, ← tw] at hih
      generalize (nI (gp i) <<< ((1 : Int32) &&& 31)) = y at *
      by_cases q : y ≤ (255 : Int32)
      · rw [if_pos q] at hih ⊢; exact hih
      · rw [if_neg q] at hih ⊢; exact hih
theorem flL {jj : (Nat → Int32) → Option ((Nat → Int32) × (Nat → Int32) × (Nat → Int32))} : ∀ (F w : Nat) (by' : Nat → Int32), w ≤ 16384 → 16384 - w < F → (∀ t, t < w → by' t = -1) → ∃ b2, fX10_init_L2213 jj F (nI w) by' = jj b2 ∧ ∀ t, t < 16384 → b2 t = -1 := by
  intro F
  induction F with
  | zero => intro w by' _ h; omega
  | succ F ih =>
    intro w by' hw hF h
    rw [fX10_init_L2213.eq_2]
    by_cases h1 : 16384 ≤ w
    · rw [if_pos (show (16384 : Int32) ≤ nI w from nI_le (a := 16384) h1 (by omega))]
      exact ⟨by', rfl, fun t ht => h t (by omega)⟩
    · rw [if_neg (show ¬ (16384 : Int32) ≤ nI w from nI_ge (b := 16384) (by omega) (by omega)), og_nI (by omega) (by omega), nmE, nmE, nI_clamp (by omega), nI_1]
      refine ih (w + 1) _ (by omega) (by omega) (fun t ht => ?_)
      by_cases q : t = w
      · rw [q, pk_us]
      · rw [pk_un q]; exact h t (by omega)
theorem wN_inj {a b : Nat} (ha : a < 256) (hb : b < 256) (h : wN a = wN b) : a = b := by
  have := rdw a ha
  rw [h, rdw b hb] at this
  exact ((nI_eq (by omega) (by omega)).mp this).symm
theorem fbL {jj : (Nat → Int32) → Option ((Nat → Int32) × (Nat → Int32) × (Nat → Int32))} : ∀ (F b : Nat) (by' : Nat → Int32), b ≤ 256 → 256 - b < F → (∀ c, c < b → by' (wN c) = nI c) → (∀ w, w < 16384 → (∀ c, c < b → wN c ≠ w) → by' w = -1) →
    ∃ b2, fX10_init_L2235 jj F (nI b) by' = jj b2 ∧ (∀ c, c < 256 → b2 (wN c) = nI c) ∧ ∀ w, w < 16384 → (∀ c, c < 256 → wN c ≠ w) → b2 w = -1 := by
  intro F
  induction F with
  | zero => intro b by' _ h; omega
  | succ F ih =>
    intro b by' hb hF h h2
    rw [fX10_init_L2235.eq_2]
    by_cases h1 : 256 ≤ b
    · rw [if_pos (show (256 : Int32) ≤ nI b from nI_le (a := 256) h1 (by omega))]
      exact ⟨by', rfl, fun c hc => h c (by omega), fun w hw hc => h2 w hw (fun c hcb => hc c (by omega))⟩
    · have hb2 : b < 256 := by omega
      obtain ⟨w1, w2⟩ := wf1 b hb2
      have hpw : pw 256 b = nI (wN b) := by unfold pw; rw [if_pos hb2, w1]
      rw [if_neg (show ¬ (256 : Int32) ≤ nI b from nI_ge (b := 256) hb2 (by omega)), og_nI hb2 (by omega), nI_clamp (n := b) (by omega), hpw, og_nI w2 (by omega), nmE, nmE, nI_clamp (by omega), nI_1]
      refine ih (b + 1) _ (by omega) (by omega) (fun c hc => ?_) (fun w hw hc => ?_)
      · by_cases q : c = b
        · rw [q, pk_us]
        · rw [pk_un (fun z => q (wN_inj (by omega) hb2 z))]; exact h c (by omega)
      · rw [pk_un (fun z => hc b (by omega) z.symm)]
        exact h2 w hw (fun c hcb => hc c (by omega))
theorem init9 : ∃ a b c d, fX9_init = some (a, b, c, d) ∧ TabF a b ∧ ∀ w : Nat, w < 16384 → fX8_byteOf c d (nI w) = some (rdF w) := by
  obtain ⟨pwr, lg, g1, g2⟩ := fcL (jj := fun v_powers_1 v_logs_2 => some (v_powers_1, v_logs_2)) FU 0 (fun _ => 0) (fun _ => 0) (by omega) (by rw [FU_eq]; omega) (fun t ht => by omega)
  obtain ⟨k, s, g3, g4, g5⟩ := spL (jj := fun v_kinds_1 v_square_2 => some (v_kinds_1, v_square_2)) FU 0 (fun _ => 0) (fun _ => 0) (by omega) (by rw [FU_eq]; omega) (fun t ht => by unfold kd; rw [if_neg (by omega)]; rfl) (fun c hc => by omega)
  refine ⟨pwr, lg, k, s, ?_, tab_of g2, byteOf_ok g4 g5⟩
  have g1' : fX2_init = some (pwr, lg) := by unfold fX2_init; rw [jkE]; exact g1
  have g3' : fX8_init = some (k, s) := by unfold fX8_init; rw [jkE]; exact g3
  unfold fX9_init
  rw [g1', ob2E, g3', ob2E]
theorem init10 : ∃ a b c, fX10_init = some (a, b, c) ∧ TabF b c ∧ ∀ w : Nat, w < 16384 → a w = rdF w := by
  obtain ⟨pwr, lg, g1, g2⟩ := frL (jj := fun v_powers_1 v_logs_2 => fX10_init_L2213 (fun v_bytesOf_4 => fX10_init_L2235 (fun v_bytesOf_6 => some (v_bytesOf_6, v_powers_1, v_logs_2)) FU 0 v_bytesOf_4) FU 0 (fun _ => 0)) FU 0 (fun _ => 0) (fun _ => 0) (by omega) (by rw [FU_eq]; omega) (fun t ht => by omega)
  obtain ⟨b1, g3, g4⟩ := flL (jj := fun v_bytesOf_4 => fX10_init_L2235 (fun v_bytesOf_6 => some (v_bytesOf_6, pwr, lg)) FU 0 v_bytesOf_4) FU 0 (fun _ => 0) (by omega) (by rw [FU_eq]; omega) (fun t ht => by omega)
  obtain ⟨b2, g5, g6, g7⟩ := fbL (jj := fun v_bytesOf_6 => some (v_bytesOf_6, pwr, lg)) FU 0 b1 (by omega) (by rw [FU_eq]; omega) (fun c hc => by omega) (fun w hw _ => g4 w hw)
  refine ⟨b2, pwr, lg, ?_, tab_of g2, fun w hw => ?_⟩
  · unfold fX10_init
    simp only [jkE]
    have g1' : fX10_init_L2156 (fun v_powers_1 v_logs_2 => fX10_init_L2213 (fun v_bytesOf_4 => fX10_init_L2235 (fun v_bytesOf_6 => some (v_bytesOf_6, v_powers_1, v_logs_2)) FU 0 v_bytesOf_4) FU 0 (fun _ => 0)) FU 0 1 (fun _ => 0) (fun _ => 0) = _ := g1
    have g3' : fX10_init_L2213 (fun v_bytesOf_4 => fX10_init_L2235 (fun v_bytesOf_6 => some (v_bytesOf_6, pwr, lg)) FU 0 v_bytesOf_4) FU 0 (fun _ => 0) = _ := g3
    have g5' : fX10_init_L2235 (fun v_bytesOf_6 => some (v_bytesOf_6, pwr, lg)) FU 0 b1 = _ := g5
    rw [g1', g3', g5']
  · by_cases q : ∃ b, b < 256 ∧ wN b = w
    · obtain ⟨b, hb, rfl⟩ := q
      rw [g6 b hb, rdw b hb]
    · rw [g7 w hw (fun c hc z => q ⟨c, hc, z⟩), rd_no hw (fun c hc z => q ⟨c, hc, z⟩)]
theorem Inv_0 {a b c d e f g : Nat → Int32} (h1 : TabF a b) (h2 : ∀ w : Nat, w < 16384 → fX8_byteOf c d (nI w) = some (rdF w)) (h3 : TabF f g) (h4 : ∀ w : Nat, w < 16384 → e w = rdF w) : Inv 0 (fun k => if k = 4 then 32 else if k = 5 then 28 else if k = 7 then 28 else if k = 8 then 12 else 0) (fun k => if k = 0 then a else if k = 1 then b else if k = 9 then c else if k = 10 then d else (fun _ => 0)) 0 (fun k => 0) (fun k => if k = 0 then (pw 256) else if k = 1 then e else if k = 2 then f else if k = 3 then g else (fun _ => 0)) := by
  refine ⟨⟨rfl, rfl, rfl, rfl, h1, h2, fun j hj => ?_, h4, h3⟩, ⟨rfl, rfl, by decide, by decide, fun j => ⟨by show (-128 : Int) ≤ (0 : Int32).toInt; decide, by show (0 : Int32).toInt ≤ 127; decide⟩⟩, ⟨rfl, rfl, rfl, rfl, rfl, rfl, by decide, by decide, by decide, by decide, fun j hj => ?_⟩, fun i hi => ⟨⟨by show (-128 : Int) ≤ (0 : Int32).toInt; decide, by show (0 : Int32).toInt ≤ 127; decide⟩, by show (0 : Int32) &&& 255 = 0; decide, by show (0 : Int) ≤ (0 : Int32).toInt; decide, by show (0 : Int32).toInt ≤ 255; decide, ?_⟩, ⟨rfl, rfl, Or.inl ⟨rfl, rfl⟩, fun i hi => ?_, fun i _ _ => ?_⟩, ⟨rfl, Or.inl rfl⟩⟩
  · show pw 256 j = wordsF j
    unfold pw
    rw [if_pos hj]
  · exfalso
    have hj' : (j : Int) < (0 : Int32).toInt := hj
    have e : (0 : Int32).toInt = 0 := by decide
    omega
  · show (0 : Int32) = b01 (bt 0 i)
    rw [b_0]; rfl
  · exfalso
    have hi' : (i : Int) < (0 : Int32).toInt := hi
    have e : (0 : Int32).toInt = 0 := by decide
    omega
  · show bt (0 : Int32) (31 - i % 32) = false
    exact b_0 _
