/-! ===== the field of 256 bytes ===== -/
def glT : List Nat := [0, 0, 1, 25, 2, 50, 26, 198, 3, 223, 51, 238, 27, 104, 199, 75, 4, 100, 224, 14, 52, 141, 239, 129, 28, 193, 105, 248, 200, 8, 76, 113, 5, 138, 101, 47, 225, 36, 15, 33, 53, 147, 142, 218, 240, 18, 130, 69, 29, 181, 194, 125, 106, 39, 249, 185, 201, 154, 9, 120, 77, 228, 114, 166, 6, 191, 139, 98, 102, 221, 48, 253, 226, 152, 37, 179, 16, 145, 34, 136, 54, 208, 148, 206, 143, 150, 219, 189, 241, 210, 19, 92, 131, 56, 70, 64, 30, 66, 182, 163, 195, 72, 126, 110, 107, 58, 40, 84, 250, 133, 186, 61, 202, 94, 155, 159, 10, 21, 121, 43, 78, 212, 229, 172, 115, 243, 167, 87, 7, 112, 192, 247, 140, 128, 99, 13, 103, 74, 222, 237, 49, 197, 254, 24, 227, 165, 153, 119, 38, 184, 180, 124, 17, 68, 146, 217, 35, 32, 137, 46, 55, 63, 209, 91, 149, 188, 207, 205, 144, 135, 151, 178, 220, 252, 190, 97, 242, 86, 211, 171, 20, 42, 93, 158, 132, 60, 57, 83, 71, 109, 65, 162, 31, 45, 67, 216, 183, 123, 164, 118, 196, 23, 73, 236, 127, 12, 111, 246, 108, 161, 59, 82, 41, 157, 85, 170, 251, 96, 134, 177, 187, 204, 62, 90, 203, 89, 95, 176, 156, 169, 160, 81, 11, 245, 22, 235, 122, 117, 44, 215, 79, 174, 213, 233, 230, 231, 173, 232, 116, 214, 244, 234, 168, 80, 88, 175]
def gl (v : Nat) : Nat := glT.getD v 0
def gm (a b : Nat) : Nat := if a = 0 ∨ b = 0 then 0 else gp (gl a + gl b)
def gi (a : Nat) : Nat := gp (255 - gl a)
def mg : Nat → Nat → Nat
  | 0, x => x
  | k + 1, x => g2 (mg k x)
theorem g2_lt : ∀ x, x < 256 → g2 x < 256 := by decide +kernel
theorem g2_pos : ∀ x, x < 256 → 0 < x → 0 < g2 x := by decide +kernel
theorem g2_xor : ∀ x, x < 256 → ∀ y, y < 256 → g2 (x ^^^ y) = g2 x ^^^ g2 y := by decide +kernel
theorem gp_lt : ∀ n, gp n < 256
  | 0 => by decide
  | n + 1 => g2_lt _ (gp_lt n)
theorem gp_pos : ∀ n, 0 < gp n
  | 0 => by decide
  | n + 1 => g2_pos _ (gp_lt n) (gp_pos n)
theorem gp_255 : gp 255 = 1 := by decide +kernel
theorem gp_per (n : Nat) : gp (n + 255) = gp n := by
  induction n with
  | zero => exact gp_255
  | succ n ih => rw [show n + 1 + 255 = (n + 255) + 1 by omega]; show g2 (gp (n + 255)) = g2 (gp n); rw [ih]
theorem gp_per' (n k : Nat) : gp (n + 255 * k) = gp n := by
  induction k with
  | zero => rfl
  | succ k ih => rw [show n + 255 * (k + 1) = (n + 255 * k) + 255 by omega, gp_per, ih]
theorem gp_mod (n : Nat) : gp (n % 255) = gp n := by
  have h := gp_per' (n % 255) (n / 255)
  rw [show n % 255 + 255 * (n / 255) = n by omega] at h
  exact h.symm
theorem gp_gl : ∀ v, v < 256 → 0 < v → gp (gl v) = v ∧ gl v < 255 := by decide +kernel
theorem gl_gp0 : ∀ k, k < 255 → gl (gp k) = k := by decide +kernel
theorem gl_gp (n : Nat) : gl (gp n) = n % 255 := by rw [← gp_mod n]; exact gl_gp0 _ (by omega)
theorem gl_lt {v : Nat} (h : v < 256) : gl v < 255 := by
  rcases Nat.eq_zero_or_pos v with z | z
  · subst z; decide
  · exact (gp_gl v h z).2
theorem mg_0 (k : Nat) : mg k 0 = 0 := by
  induction k with
  | zero => rfl
  | succ k ih => show g2 (mg k 0) = 0; rw [ih]; rfl
theorem mg_lt {x : Nat} (h : x < 256) : ∀ k, mg k x < 256
  | 0 => h
  | k + 1 => g2_lt _ (mg_lt h k)
theorem mg_xor {x y : Nat} (hx : x < 256) (hy : y < 256) (k : Nat) : mg k (x ^^^ y) = mg k x ^^^ mg k y := by
  induction k with
  | zero => rfl
  | succ k ih => show g2 (mg k (x ^^^ y)) = g2 (mg k x) ^^^ g2 (mg k y); rw [ih, g2_xor _ (mg_lt hx k) _ (mg_lt hy k)]
theorem mg_gp (j : Nat) : ∀ k, mg k (gp j) = gp (j + k)
  | 0 => rfl
  | k + 1 => by show g2 (mg k (gp j)) = g2 (gp (j + k)); rw [mg_gp j k]
theorem gm_mg {a b : Nat} (ha : a < 256) (hb : b < 256) (h0 : 0 < b) : gm a b = mg (gl b) a := by
  unfold gm
  rcases Nat.eq_zero_or_pos a with z | z
  · subst z; rw [if_pos (Or.inl rfl), mg_0]
  · rw [if_neg (by omega)]
    have := (gp_gl a ha z).1
    conv => rhs; rw [← this]
    rw [mg_gp]
theorem gm_comm (a b : Nat) : gm a b = gm b a := by
  unfold gm
  by_cases h : a = 0 ∨ b = 0
  · rw [if_pos h, if_pos h.symm]
  · rw [if_neg h, if_neg (fun q => h q.symm), Nat.add_comm]
theorem gm_0 (a : Nat) : gm a 0 = 0 := by unfold gm; rw [if_pos (Or.inr rfl)]
theorem gm_0l (a : Nat) : gm 0 a = 0 := by unfold gm; rw [if_pos (Or.inl rfl)]
theorem gm_lt (a b : Nat) : gm a b < 256 := by
  unfold gm
  split
  · omega
  · exact gp_lt _
theorem gm_xor {a c b : Nat} (ha : a < 256) (hc : c < 256) (hb : b < 256) : gm (a ^^^ c) b = gm a b ^^^ gm c b := by
  rcases Nat.eq_zero_or_pos b with z | z
  · subst z; rw [gm_0, gm_0, gm_0]; rfl
  · rw [gm_mg (Nat.xor_lt_two_pow (n := 8) ha hc) hb z, gm_mg ha hb z, gm_mg hc hb z, mg_xor ha hc]
theorem gm_xor' {a c b : Nat} (ha : a < 256) (hc : c < 256) (hb : b < 256) : gm b (a ^^^ c) = gm b a ^^^ gm b c := by
  rw [gm_comm, gm_xor ha hc hb, gm_comm a, gm_comm c]
theorem gm_ne {a b : Nat} (ha : 0 < a) (hb : 0 < b) : 0 < gm a b := by
  unfold gm; rw [if_neg (by omega)]; exact gp_pos _
theorem gm_eq0 {a b : Nat} (h : gm a b = 0) : a = 0 ∨ b = 0 := by
  by_cases h2 : a = 0 ∨ b = 0
  · exact h2
  · have := gm_ne (a := a) (b := b) (by omega) (by omega); omega
theorem gm_gp (j k : Nat) : gm (gp j) (gp k) = gp (j + k) := by
  unfold gm
  have h1 := gp_pos j
  have h2 := gp_pos k
  rw [if_neg (by omega), gl_gp, gl_gp, ← gp_mod (j + k), ← gp_mod (j % 255 + k % 255)]
  congr 1
  omega
theorem gm_as (a b c : Nat) (ha : a < 256) (hb : b < 256) (hc : c < 256) : gm (gm a b) c = gm a (gm b c) := by
  rcases Nat.eq_zero_or_pos a with z | za
  · subst z; rw [gm_0l, gm_0l, gm_0l]
  rcases Nat.eq_zero_or_pos b with z | zb
  · subst z; rw [gm_0l, gm_0, gm_0l]
  rcases Nat.eq_zero_or_pos c with z | zc
  · subst z; rw [gm_0, gm_0, gm_0]
  rw [← (gp_gl a ha za).1, ← (gp_gl b hb zb).1, ← (gp_gl c hc zc).1, gm_gp, gm_gp, gm_gp, gm_gp, Nat.add_assoc]
theorem gm_1 {a : Nat} (ha : a < 256) : gm 1 a = a := by
  rcases Nat.eq_zero_or_pos a with z | za
  · subst z; exact gm_0 1
  · have := gm_gp 0 (gl a)
    rw [Nat.zero_add, (gp_gl a ha za).1] at this
    exact this
theorem gi_lt (a : Nat) : gi a < 256 := gp_lt _
theorem gm_gi {a : Nat} (ha : a < 256) (h0 : 0 < a) : gm a (gi a) = 1 := by
  have h1 := gp_gl a ha h0
  unfold gi
  conv => lhs; arg 1; rw [← h1.1]
  rw [gm_gp, show gl a + (255 - gl a) = 255 by omega, gp_255]
theorem xor_c (a b c : Nat) : a ^^^ (b ^^^ c) = b ^^^ (a ^^^ c) := by rw [← Nat.xor_assoc, Nat.xor_comm a b, Nat.xor_assoc]
theorem xor_0 {a b : Nat} (h : a ^^^ b = 0) : a = b := by
  have : (a ^^^ b) ^^^ b = 0 ^^^ b := by rw [h]
  rw [Nat.xor_assoc, Nat.xor_self, Nat.xor_zero, Nat.zero_xor] at this
  exact this
theorem gm_cancel {a b c : Nat} (ha : a < 256) (hb : b < 256) (hc : c < 256) (h0 : 0 < c) (h : gm a c = gm b c) : a = b := by
  have h1 : gm (a ^^^ b) c = 0 := by rw [gm_xor ha hb hc, h, Nat.xor_self]
  rcases gm_eq0 h1 with h2 | h2
  · exact xor_0 h2
  · omega
