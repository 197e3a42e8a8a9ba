/-! ===== press: joints ===== -/
theorem jk_ite {β γ : Type} {c : Prop} [Decidable c] (f : γ → β) (a b : γ) : jk f (fun j => if c then j a else j b) = f (if c then a else b) := by
  rw [jkE]
  by_cases h : c
  · rw [if_pos h, if_pos h]
  · rw [if_neg h, if_neg h]
theorem b01_ite {γ : Type} (b : Bool) (x y : γ) : (if b01 b = (1 : Int32) then x else y) = if b then x else y := by
  cases b
  · rw [if_neg (by decide)]; rfl
  · rw [if_pos (by rfl)]; rfl
def jN (k : Nat) : Nat := if k = 0 then 0 else 2 ^ (k - 1)
theorem jN_bit : ∀ k, k < 4 → ∀ t, t < 3 → (jN k).testBit (2 - t) = decide (t + k = 3) := by decide
theorem jN_lt : ∀ k, k < 4 → jN k < 8 := by decide
theorem jN_c : ∀ k, k < 4 → (UInt32.toInt32 (Int32.toUInt32 ((1 : Int32) <<< (nI k &&& 31)) >>> (Int32.toUInt32 1 &&& Int32.toUInt32 31))) = nI (jN k) := by decide +kernel
theorem jN_r : ∀ k, k < 4 → (if nI k = 0 then 0 else (1 : Int32) <<< ((nI k - (1 : Int32)) &&& 31)) = nI (jN k) := by decide +kernel
def rnG (x : Nat) : Bool := decide (2 ≤ x) && decide (x ≤ 10)
def dmF (P : Nat → Bool) (n : Nat) : Nat → Bool × Bool
  | 0 => (false, true)
  | p + 1 => if P (n + p) && !(dmF P n p).1 then (decide (3 ≤ p), (dmF P n p).2 && rnG (zr P (n + p))) else dmF P n p
theorem dm_f {P : Nat → Bool} {n p : Nat} (h : P (n + p) = false) : dmF P n (p + 1) = dmF P n p := by
  show (if P (n + p) && !(dmF P n p).1 then _ else dmF P n p) = _
  rw [h]; rfl
theorem dm_d {P : Nat → Bool} {n p : Nat} (h : (dmF P n p).1 = true) : dmF P n (p + 1) = dmF P n p := by
  show (if P (n + p) && !(dmF P n p).1 then _ else dmF P n p) = _
  rw [h]; simp
theorem dm_t {P : Nat → Bool} {n p : Nat} (h : P (n + p) = true) (h2 : (dmF P n p).1 = false) : dmF P n (p + 1) = (decide (3 ≤ p), (dmF P n p).2 && rnG (zr P (n + p))) := by
  show (if P (n + p) && !(dmF P n p).1 then _ else dmF P n p) = _
  rw [h, h2]; rfl
theorem dm_run {P : Nat → Bool} {n p : Nat} : ∀ d, (∀ t, t < d → P (n + (p + t)) = false) → dmF P n (p + d) = dmF P n p
  | 0, _ => rfl
  | d + 1, h => by
    rw [show p + (d + 1) = p + d + 1 from rfl, dm_f (h d (by omega)), dm_run d (fun t ht => h t (by omega))]
theorem dm_done {P : Nat → Bool} {n p : Nat} (h : (dmF P n p).1 = true) : ∀ d, dmF P n (p + d) = dmF P n p
  | 0 => rfl
  | d + 1 => by
    rw [show p + (d + 1) = p + d + 1 from rfl, dm_d (by rw [dm_done h d]; exact h), dm_done h d]
def mayK (g k a : Nat) : Bool := if k = 0 then rnG (g + 3 + a) else rnG (g + 3 - k) && rnG (k - 1 + a)
theorem mayR {P : Nat → Bool} {V n m k a : Nat} (hk : k < 4) (ham : a < m) (hJ : ∀ t, t < 3 → P (n + t) = decide (t + k = 3)) (hV : ∀ t, t < m → P (n + (3 + t)) = V.testBit (m - 1 - t)) (h0 : ∀ t, t < a → V.testBit (m - 1 - t) = false) (h1 : V.testBit (m - 1 - a) = true) : (dmF P n (m + 3)).2 = mayK (zr P n) k a := by
  have p3 : P (n + (3 + a)) = true := by rw [hV a ham]; exact h1
  unfold mayK
  by_cases hk0 : k = 0
  · rw [if_pos hk0]
    have fz : ∀ t, t < 3 + a → P (n + t) = false := fun t ht => by
      by_cases q : t < 3
      · rw [hJ t q, decide_eq_false (by omega)]
      · have := hV (t - 3) (by omega)
        rw [show 3 + (t - 3) = t from by omega] at this
        rw [this]; exact h0 _ (by omega)
    have e1 : dmF P n (3 + a) = (false, true) := by
      have := dm_run (P := P) (n := n) (p := 0) (3 + a) (fun t ht => by rw [Nat.zero_add]; exact fz t ht)
      rw [Nat.zero_add] at this
      exact this
    have e2 := zr_run P n (3 + a) fz
    have e3 := dm_t p3 (by rw [e1])
    rw [e1, e2, decide_eq_true (show 3 ≤ 3 + a from by omega)] at e3
    have e4 := dm_done (P := P) (n := n) (p := 3 + a + 1) (by rw [e3]) (m + 3 - (3 + a + 1))
    rw [show 3 + a + 1 + (m + 3 - (3 + a + 1)) = m + 3 from by omega, e3] at e4
    rw [e4]
    show (true && rnG (zr P n + (3 + a))) = _
    rw [Bool.true_and, ← Nat.add_assoc]
  · rw [if_neg hk0]
    have fz : ∀ t, t < 3 - k → P (n + t) = false := fun t ht => by rw [hJ t (by omega), decide_eq_false (by omega)]
    have e1 : dmF P n (3 - k) = (false, true) := by
      have := dm_run (P := P) (n := n) (p := 0) (3 - k) (fun t ht => by rw [Nat.zero_add]; exact fz t ht)
      rw [Nat.zero_add] at this
      exact this
    have e2 := zr_run P n (3 - k) fz
    have pj : P (n + (3 - k)) = true := by rw [hJ _ (by omega), decide_eq_true (by omega)]
    have e3 := dm_t pj (by rw [e1])
    rw [e1, e2, decide_eq_false (show ¬ 3 ≤ 3 - k from by omega)] at e3
    have z3 : zr P (n + (3 - k) + 1) = 0 := zr_t pj
    have fz2 : ∀ t, t < k - 1 + a → P (n + (3 - k + 1 + t)) = false := fun t ht => by
      by_cases q : 3 - k + 1 + t < 3
      · rw [hJ _ q, decide_eq_false (by omega)]
      · have := hV (3 - k + 1 + t - 3) (by omega)
        rw [show 3 + (3 - k + 1 + t - 3) = 3 - k + 1 + t from by omega] at this
        rw [this]; exact h0 _ (by omega)
    have e4 := dm_run (P := P) (n := n) (p := 3 - k + 1) (k - 1 + a) fz2
    have e5 := zr_run P (n + (3 - k) + 1) (k - 1 + a) (fun t ht => by
      rw [show n + (3 - k) + 1 + t = n + (3 - k + 1 + t) from by omega]; exact fz2 t ht)
    rw [show n + (3 - k) + 1 + (k - 1 + a) = n + (3 + a) from by omega, z3, Nat.zero_add] at e5
    rw [show 3 - k + 1 + (k - 1 + a) = 3 + a from by omega, e3] at e4
    have e6 := dm_t p3 (by rw [e4])
    rw [e4, e5, decide_eq_true (show 3 ≤ 3 + a from by omega)] at e6
    have e7 := dm_done (P := P) (n := n) (p := 3 + a + 1) (by rw [e6]) (m + 3 - (3 + a + 1))
    rw [show 3 + a + 1 + (m + 3 - (3 + a + 1)) = m + 3 from by omega, e6] at e7
    rw [e7]
    show ((true && rnG (zr P n + (3 - k))) && rnG (k - 1 + a)) = _
    rw [Bool.true_and, show zr P n + (3 - k) = zr P n + 3 - k from by omega]
theorem isRunE {x : Nat} (hx : x < 2147483648) : fX6_isRun (nI x) = b01 (rnG x) := by
  unfold fX6_isRun rnG
  by_cases h : 2 ≤ x
  · rw [if_neg (show ¬ nI x < (2 : Int32) from nI_nlt (b := 2) h (by omega)), decide_eq_true h]
    by_cases h2 : x ≤ 10
    · rw [if_neg (show ¬ (10 : Int32) < nI x from nI_nlt (a := 10) h2 (by omega)), decide_eq_true h2]; rfl
    · rw [if_pos (show (10 : Int32) < nI x from nI_lt (a := 10) (by omega) (by omega)), decide_eq_false h2]; rfl
  · rw [if_pos (show nI x < (2 : Int32) from nI_lt (b := 2) (by omega) (by omega)), decide_eq_false h]; rfl
theorem zb01 (b : Bool) : zb (b01 b) = true := by cases b <;> rfl
theorem mayC {g k a : Nat} (hg : g ≤ 400000) (hk : k < 4) (ha : a ≤ 31) : fX6_mayBe (nI g) (nI k) (nI a) = some (b01 (mayK g k a)) := by
  unfold fX6_mayBe mayK
  rw [show nI g + (3 : Int32) = nI (g + 3) from nI_add g 3]
  by_cases h : k = 0
  · rw [h, if_pos (show nI 0 = (0 : Int32) from rfl), if_pos rfl, nI_add, isRunE (by omega), nt1E, og_t (zb01 _)]
  · rw [if_neg (nI_ne0 (by omega) (by omega)), if_neg h, pk_sub (by omega), isRunE (by omega), nt1E, show nI k - (1 : Int32) = nI (k - 1) from pk_sub (b := 1) (by omega), nI_add, isRunE (by omega), nt1E]
    cases rnG (g + 3 - k)
    · rw [if_pos (show b01 false = (0 : Int32) from rfl)]; rfl
    · rw [if_neg (show ¬ b01 true = (0 : Int32) from by decide)]
      cases rnG (k - 1 + a)
      · rw [if_pos (show b01 false = (0 : Int32) from rfl)]; rfl
      · rw [if_neg (show ¬ b01 true = (0 : Int32) from by decide)]; rfl
theorem may_ex : ∀ g, g < 9 → ∀ a, a < 11 → (mayK g 0 a || (mayK g 1 a || (mayK g 2 a || mayK g 3 a))) = true := by decide +kernel
/-- 24 bits back from N, s bits further back, are the sign -/
def win (P : Nat → Bool) (N s : Nat) : Bool := (List.range 24).all (fun t => bk P N (s + t) == (8392706 : Nat).testBit t)
theorem win_iff {P : Nat → Bool} {N s : Nat} : win P N s = true ↔ ∀ t, t < 24 → bk P N (s + t) = (8392706 : Nat).testBit t := by
  unfold win
  simp only [List.all_eq_true, List.mem_range, beq_iff_eq]
theorem win_sh {P : Nat → Bool} {N s : Nat} (h : s ≤ N) : win P N s = win P (N - s) 0 := by
  refine Bool.eq_iff_iff.mpr ?_
  rw [win_iff, win_iff]
  have e : ∀ t, bk P N (s + t) = bk P (N - s) (0 + t) := fun t => by
    have := bk_add P (N - s) s t
    rw [show N - s + s = N from by omega] at this
    rw [this, Nat.zero_add]
  exact ⟨fun w t ht => by rw [← e]; exact w t ht, fun w t ht => by rw [e]; exact w t ht⟩
def mkB (P : Nat → Bool) (n : Nat) : Nat → Bool
  | 0 => false
  | p + 1 => mkB P n p || win P (n + p + 1) 0
theorem mkB_f {P : Nat → Bool} {n : Nat} : ∀ q, (∀ p, p < q → win P (n + p + 1) 0 = false) → mkB P n q = false
  | 0, _ => rfl
  | q + 1, h => by
    show (mkB P n q || _) = false
    rw [mkB_f q (fun p hp => h p (by omega)), h q (by omega)]; rfl
theorem mkB_t {P : Nat → Bool} {n p : Nat} (h : win P (n + p + 1) 0 = true) : ∀ q, p < q → mkB P n q = true
  | 0, w => by omega
  | q + 1, w => by
    show (mkB P n q || win P (n + q + 1) 0) = true
    by_cases z : p = q
    · rw [← z, h]; simp
    · rw [mkB_t h q (by omega)]; rfl
theorem lg_eq0 (x y : Int64) : (lg_cmp x y = 0) ↔ x = y := by
  have h1 := lg_lt0 x y
  have h2 := lg_le0 x y
  constructor
  · intro h
    rw [h] at h1 h2
    have a1 := h2.mp (by decide)
    have a2 : ¬ x.toInt < y.toInt := fun w => absurd (h1.mpr w) (by decide)
    exact tl_eq.mpr (by omega)
  · intro h
    rw [h] at h1 h2 ⊢
    have a1 := ti_le.mp (h2.mpr (Int.le_refl _))
    have a2 : ¬ (lg_cmp y y).toInt < (0 : Int32).toInt := fun w => absurd (h1.mp (ti_lt.mpr w)) (by omega)
    exact ti_eq.mpr (by omega)
theorem bl_24 : ∀ i, i < 64 → bl 16777215 i = decide (i < 24) := by decide +kernel
theorem bl_sg : ∀ i, i < 64 → bl 8392706 i = (8392706 : Nat).testBit i := by decide +kernel
theorem sg_hi : ∀ i, i < 64 → 24 ≤ i → (8392706 : Nat).testBit i = false := by decide +kernel
theorem mocL {P : Nat → Bool} {n : Nat} {x3 x5 : Int64} (h3 : ∀ t, t < 64 → bl x3 t = bk P (n + 17) t) (h5 : x5 = ((x3 &&& (UInt64.toInt64 (Int64.toUInt64 x3 >>> (Int64.toUInt64 (Int32.toInt64 11) &&& Int64.toUInt64 63)))) &&& (UInt64.toInt64 (Int64.toUInt64 x3 >>> (Int64.toUInt64 (Int32.toInt64 22) &&& Int64.toUInt64 63))))) : ∀ (F s : Nat), s ≤ 17 → 17 - s < F → (∀ s', s' < s → win P (n + 17) s' = false) → fX6_mocks_L26 (nI 17) x5 x3 F (nI s) = some (b01 (mkB P n 17)) := by
  intro F
  induction F with
  | zero => intro s _ h; omega
  | succ F ih =>
    intro s hs hF h
    have allf : (∀ s', s' < 17 → win P (n + 17) s' = false) → mkB P n 17 = false := fun w => mkB_f 17 (fun p hp => by
      have := w (16 - p) (by omega)
      rw [win_sh (by omega), show n + 17 - (16 - p) = n + p + 1 from by omega] at this
      exact this)
    rw [fX6_mocks_L26.eq_2]
    by_cases hc : 17 ≤ s
    · rw [if_pos (nI_le hc (by omega)), allf (fun s' hs' => h s' (by omega))]; rfl
    · rw [if_neg (nI_ge (by omega) (by omega))]
      by_cases h0 : x5 = 0
      · rw [if_pos ((lg_eq0 x5 0).mpr h0), allf (fun s' hs' => by
          cases hw : win P (n + 17) s' with
          | false => rfl
          | true =>
            exfalso
            have hw' := win_iff.mp hw
            have b1 := hw' 1 (by omega)
            have b12 := hw' 12 (by omega)
            have b23 := hw' 23 (by omega)
            have e : bl x5 (s' + 1) = true := by
              rw [h5, bl_and, bl_and, show Int32.toInt64 11 = Int32.toInt64 (nI 11) from rfl, show Int32.toInt64 22 = Int32.toInt64 (nI 22) from rfl, bl_ushr 11 (by omega), bl_ushr 22 (by omega), h3 _ (by omega), h3 _ (by omega), h3 _ (by omega), show 11 + (s' + 1) = s' + 12 from by omega, show 22 + (s' + 1) = s' + 23 from by omega, b1, b12, b23]
              decide
            rw [h0] at e
            have : bl 0 (s' + 1) = false := BitVec.getLsbD_zero
            rw [this] at e
            exact absurd e (by decide))]
        rfl
      · rw [if_neg (fun w => h0 ((lg_eq0 x5 0).mp w))]
        have hw : ((UInt64.toInt64 (Int64.toUInt64 x3 >>> (Int64.toUInt64 (Int32.toInt64 (nI s)) &&& Int64.toUInt64 63))) &&& (16777215 : Int64) = 8392706) ↔ win P (n + 17) s = true := by
          constructor
          · intro w
            refine win_iff.mpr (fun t ht => ?_)
            have := congrArg (fun z => bl z t) w
            have e : bl ((UInt64.toInt64 (Int64.toUInt64 x3 >>> (Int64.toUInt64 (Int32.toInt64 (nI s)) &&& Int64.toUInt64 63))) &&& (16777215 : Int64)) t = bl 8392706 t := this
            rw [bl_and, bl_ushr s (by omega), bl_24 t (by omega), decide_eq_true ht, Bool.and_true, h3 _ (by omega), bl_sg t (by omega)] at e
            exact e
          · intro w
            have w' := win_iff.mp w
            refine bl_ext (fun i hi => ?_)
            rw [bl_and, bl_ushr s (by omega), bl_24 i hi, bl_sg i hi]
            by_cases q : i < 24
            · rw [decide_eq_true q, Bool.and_true, h3 _ (by omega), w' i q]
            · rw [decide_eq_false q, Bool.and_false, sg_hi i hi (by omega)]
        cases hv : win P (n + 17) s with
        | true =>
          rw [if_pos ((lg_eq0 _ _).mpr (hw.mpr hv))]
          rw [win_sh (by omega), show n + 17 - s = n + (16 - s) + 1 from by omega] at hv
          rw [mkB_t hv 17 (by omega)]; rfl
        | false =>
          rw [if_neg (fun w => by have := hw.mp ((lg_eq0 _ _).mp w); rw [hv] at this; exact absurd this (by decide)), nmE, nI_1]
          exact ih (s + 1) (by omega) (by omega) (fun s' hs' => by
            by_cases z : s' = s
            · rw [z, hv]
            · exact h s' (by omega))
theorem tail_win {P : Nat → Bool} {N : Nat} {ta : Int32} (h : ∀ t, t < 32 → bt ta t = (decide (t < 24) && bk P N t)) : decide (ta = 8392706) = win P N 0 := by
  refine Bool.eq_iff_iff.mpr ?_
  rw [win_iff, decide_eq_true_iff]
  refine ⟨fun w t ht => ?_, fun w => ?_⟩
  · have := h t (by omega)
    rw [w, show (8392706 : Int32) = nI 8392706 from rfl, bt_nI, decide_eq_true (by omega), decide_eq_true ht, Bool.true_and, Bool.true_and] at this
    rw [Nat.zero_add]; exact this.symm
  · refine b_ext (fun i hi => ?_)
    rw [h i hi, show (8392706 : Int32) = nI 8392706 from rfl, bt_nI, decide_eq_true hi, Bool.true_and]
    by_cases q : i < 24
    · have := w i q
      rw [Nat.zero_add] at this
      rw [decide_eq_true q, this]; rfl
    · rw [decide_eq_false q, sg_hi i (by omega) (by omega)]; rfl
