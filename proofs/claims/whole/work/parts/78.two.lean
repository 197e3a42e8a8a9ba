/-! ===== two places without a mark ===== -/
def dW (S : Nat → Nat) : Nat := gm (S 1) (S 1) ^^^ gm (S 0) (S 2)
def dA (S : Nat → Nat) : Nat := gm (gm (S 0) (S 3) ^^^ gm (S 1) (S 2)) (gi (dW S))
def dB (S : Nat → Nat) : Nat := gm (gm (S 1) (S 3) ^^^ gm (S 2) (S 2)) (gi (dW S))
def rtB (n : Nat) (S : Nat → Nat) (i : Nat) : Bool := decide ((gm (gp (n - 1 - i)) (gp (n - 1 - i)) ^^^ gm (dA S) (gp (n - 1 - i))) ^^^ dB S = 0)
theorem dW_lt (S : Nat → Nat) : dW S < 256 := x_lt (gm_lt _ _) (gm_lt _ _)
theorem xor6 (p q r : Nat) : ((p ^^^ q) ^^^ (r ^^^ p)) ^^^ (r ^^^ q) = 0 := by
  apply Nat.eq_of_testBit_eq
  intro i
  simp only [Nat.testBit_xor, Nat.zero_testBit]
  cases p.testBit i <;> cases q.testBit i <;> cases r.testBit i <;> rfl
theorem vieta {a b x y : Nat} (ha : a < 256) (hb : b < 256) (hx : x < 256) (hy : y < 256) (hne : x ≠ y) (h1 : (gm x x ^^^ gm a x) ^^^ b = 0) (h2 : (gm y y ^^^ gm a y) ^^^ b = 0) : x ^^^ y = a ∧ gm y x = b := by
  have e1 := xor_0 h1
  have e2 := xor_0 h2
  have hxy : 0 < x ^^^ y := by
    rcases Nat.eq_zero_or_pos (x ^^^ y) with w | w
    · exact absurd (xor_0 w) hne
    · exact w
  have k1 : gm (x ^^^ y) (x ^^^ y) = gm a (x ^^^ y) := by
    rw [gm_xor hx hy (x_lt hx hy), gm_xor' hx hy hx, gm_xor' hx hy hy, gm_xor' hx hy ha, gm_comm y x]
    have e3 : gm x x ^^^ gm a x = gm y y ^^^ gm a y := by rw [e1, e2]
    have e4 : gm x x ^^^ gm y y = gm a x ^^^ gm a y := by
      apply Nat.eq_of_testBit_eq
      intro i
      have := congrArg (fun z => z.testBit i) e3
      simp only [Nat.testBit_xor] at this ⊢
      revert this
      cases (gm x x).testBit i <;> cases (gm y y).testBit i <;> cases (gm a x).testBit i <;> cases (gm a y).testBit i <;> simp
    rw [← e4, xor_4, Nat.xor_comm (gm x y) (gm y y), ← xor_4, Nat.xor_self, Nat.xor_comm]
    rw [Nat.zero_xor]
  have k2 := gm_cancel (x_lt hx hy) ha (x_lt hx hy) hxy k1
  refine ⟨k2, ?_⟩
  rw [← e1, ← k2, gm_xor hx hy hx, ← Nat.xor_assoc, Nat.xor_self, Nat.zero_xor]
theorem gm3 {a b c : Nat} (ha : a < 256) (hb : b < 256) (hc : c < 256) : gm a (gm b c) = gm b (gm a c) := by
  rw [← gm_as a b c ha hb hc, gm_comm a b, gm_as b a c hb ha hc]
theorem rec2 {S : Nat → Nat} (hS : ∀ j, S j < 256) (h0 : 0 < dW S) : (S 2 ^^^ gm (dA S) (S 1)) ^^^ gm (dB S) (S 0) = 0 ∧ (S 3 ^^^ gm (dA S) (S 2)) ^^^ gm (dB S) (S 1) = 0 := by
  have hA : gm (dA S) (dW S) = gm (S 0) (S 3) ^^^ gm (S 1) (S 2) := gdiv (x_lt (gm_lt _ _) (gm_lt _ _)) (dW_lt S) h0
  have hB : gm (dB S) (dW S) = gm (S 1) (S 3) ^^^ gm (S 2) (S 2) := gdiv (x_lt (gm_lt _ _) (gm_lt _ _)) (dW_lt S) h0
  have lA : dA S < 256 := gm_lt _ _
  have lB : dB S < 256 := gm_lt _ _
  have lW := dW_lt S
  have mulA : ∀ x, x < 256 → gm (gm (dA S) x) (dW S) = gm x (gm (S 0) (S 3)) ^^^ gm x (gm (S 1) (S 2)) := fun x hx => by
    rw [gm_mid lA lW hx, hA, gm_comm, gm_xor' (gm_lt _ _) (gm_lt _ _) hx]
  have mulB : ∀ x, x < 256 → gm (gm (dB S) x) (dW S) = gm x (gm (S 1) (S 3)) ^^^ gm x (gm (S 2) (S 2)) := fun x hx => by
    rw [gm_mid lB lW hx, hB, gm_comm, gm_xor' (gm_lt _ _) (gm_lt _ _) hx]
  have mulW : ∀ x, x < 256 → gm x (dW S) = gm x (gm (S 1) (S 1)) ^^^ gm x (gm (S 0) (S 2)) := fun x hx => gm_xor' (gm_lt _ _) (gm_lt _ _) hx
  have fin : ∀ z, z < 256 → gm z (dW S) = 0 → z = 0 := fun z hz w => by
    rcases gm_eq0 w with q | q
    · exact q
    · omega
  have s0 := hS 0
  have s1 := hS 1
  have s2 := hS 2
  have s3 := hS 3
  constructor
  · refine fin _ (x_lt (x_lt s2 (gm_lt _ _)) (gm_lt _ _)) ?_
    rw [gm_xor (x_lt s2 (gm_lt _ _)) (gm_lt _ _) lW, gm_xor s2 (gm_lt _ _) lW, mulW _ s2, mulA _ s1, mulB _ s0]
    rw [gm3 s2 s1 s1, gm_comm (S 2) (S 1), gm3 s2 s0 s2, gm3 s1 s0 s3]
    exact xor6 _ _ _
  · refine fin _ (x_lt (x_lt s3 (gm_lt _ _)) (gm_lt _ _)) ?_
    rw [gm_xor (x_lt s3 (gm_lt _ _)) (gm_lt _ _) lW, gm_xor s3 (gm_lt _ _) lW, mulW _ s3, mulA _ s2, mulB _ s1]
    rw [gm3 s3 s1 s1, gm_comm (S 3) (S 1), gm3 s3 s0 s2, gm_comm (S 3) (S 2), gm3 s2 s0 s3, gm3 s2 s1 s2]
    generalize gm (S 1) (gm (S 1) (S 3)) = p
    generalize gm (S 0) (gm (S 2) (S 3)) = q
    generalize gm (S 1) (gm (S 2) (S 2)) = r
    apply Nat.eq_of_testBit_eq
    intro i
    simp only [Nat.testBit_xor, Nat.zero_testBit]
    cases p.testBit i <;> cases q.testBit i <;> cases r.testBit i <;> rfl
theorem two_sol {n : Nat} {S : Nat → Nat} {P : Nat → Nat} (hn : n ≤ 32) (hS : ∀ j, S j < 256) (h0 : 0 < dW S) (hP : ∀ t, t < 2 → P t < n ∧ rtB n S (P t) = true) (hd : P 0 ≠ P 1) : Solv S (fun t => gp (n - 1 - P t)) 2 := by
  have hdd : ∀ a b, a < 2 → b < 2 → a ≠ b → P a ≠ P b := fun a b ha hb hab => by
    rcases Nat.eq_zero_or_pos a with q | q
    · rw [q, show b = 1 from by omega]; exact hd
    · rw [show a = 1 from by omega, show b = 0 from by omega]; exact fun w => hd w.symm
  have hX : ∀ t, (fun t => gp (n - 1 - P t)) t < 256 := fun t => gp_lt _
  have hdX := X_ne hn (fun t ht => (hP t ht).1) hdd
  rw [solv_iff (by omega) hX hS hdX]
  have r0 := of_decide_eq_true (hP 0 (by omega)).2
  have r1 := of_decide_eq_true (hP 1 (by omega)).2
  obtain ⟨v1, v2⟩ := vieta (a := dA S) (b := dB S) (gm_lt _ _) (gm_lt _ _) (gp_lt _) (gp_lt _) (hdX 0 1 (by omega) (by omega) (by omega)) r0 r1
  obtain ⟨c1, c2⟩ := rec2 hS h0
  have key : ∀ j, rT (fun t => gp (n - 1 - P t)) S 2 j = (S (j + 2) ^^^ gm (dA S) (S (j + 1))) ^^^ gm (dB S) (S j) := fun j => by
    show tx (gp (n - 1 - P 1)) (tx (gp (n - 1 - P 0)) S) j = _
    unfold tx
    have g0 := gp_lt (n - 1 - P 0)
    have g1 := gp_lt (n - 1 - P 1)
    rw [gm_xor' (hS _) (gm_lt _ _) g1, ← gm_as _ _ _ g1 g0 (hS j), v2, ← v1, gm_xor g0 g1 (hS _)]
    rw [← Nat.xor_assoc, Nat.xor_assoc (S (j + 1 + 1))]
  intro j hj
  rw [key]
  match j, hj with
  | 0, _ => exact c1
  | 1, _ => exact c2
theorem root_c {n i : Nat} {S : Nat → Nat} : gm (gp (n - 1 - i) ^^^ dA S) (gp (n - 1 - i)) ^^^ dB S = 0 ↔ rtB n S i = true := by
  unfold rtB
  rw [gm_xor (gp_lt _) (show dA S < 256 from gm_lt _ _) (gp_lt _), decide_eq_true_iff]
theorem twoC {jj : Int32 → (Nat → Int32) → Option (Int32 × Int32 × (Nat → Int32))} {pwr lg : Nat → Int32} (hT : TabF pwr lg) {n : Nat} {S : Nat → Nat} (hn : n ≤ 32) : ∀ (F i : Nat) (spots : Nat → Int32), i ≤ n → n - i < F → (∀ t, t < min 4 (pop (rtB n S) i) → spots t = nI (mP (rtB n S) i t)) →
    ∃ spots', fX0_locateTwo_L145 (nI n) jj pwr lg (nI (dA S)) (nI (dB S)) F (nI i) (nI (min 4 (pop (rtB n S) i))) spots = jj (nI (min 4 (pop (rtB n S) n))) spots' ∧ ∀ t, t < min 4 (pop (rtB n S) n) → spots' t = nI (mP (rtB n S) n t) := by
  intro F
  induction F with
  | zero => intro i spots _ h; omega
  | succ F ih =>
    intro i spots hi hF hs
    rw [fX0_locateTwo_L145.eq_2]
    by_cases h1 : n ≤ i
    · rw [if_pos (nI_le h1 (by omega)), show i = n from by omega]
      exact ⟨spots, rfl, by rw [show i = n from by omega] at hs; exact hs⟩
    · have lA : dA S < 256 := gm_lt _ _
      have lB : dB S < 256 := gm_lt _ _
      have lx := gp_lt (n - 1 - i)
      rw [if_neg (nI_ge (by omega) (by omega)), show nI n - (1 : Int32) = nI (n - 1) from pk_sub (b := 1) (by omega), pk_sub (by omega), powerC hT (by omega), ob1E, nx_xor, timesC hT (x_lt lx lA) lx, ob1E, nx_xor]
      simp only [jkE, nmE]
      rw [nI_1]
      have lz : gm (gp (n - 1 - i) ^^^ dA S) (gp (n - 1 - i)) ^^^ dB S < 256 := x_lt (gm_lt _ _) lB
      have hih := ih (i + 1)
      have es : pop (rtB n S) (i + 1) = pop (rtB n S) i + (rtB n S i).toNat := rfl
      rw [es, mP_s] at hih
      cases hb : rtB n S i with
      | false =>
        rw [hb] at hih
        simp only [Bool.false_eq_true, if_false] at hih
        rw [if_neg (nI_ne0 (by
          rcases Nat.eq_zero_or_pos (gm (gp (n - 1 - i) ^^^ dA S) (gp (n - 1 - i)) ^^^ dB S) with w | w
          · have := root_c.mp w; rw [hb] at this; exact absurd this (by decide)
          · exact w) (by omega))]
        exact hih spots (by omega) (by omega) hs
      | true =>
        rw [hb] at hih
        simp only [if_true] at hih
        rw [if_pos (by rw [root_c.mpr hb]; rfl)]
        by_cases h4 : pop (rtB n S) i < 4
        · rw [Nat.min_eq_right (by omega), addSpot_eq h4, ob2E]
          have hih2 := hih (upd spots (pop (rtB n S) i) (nI i)) (by omega) (by omega) (fun t ht => by
            by_cases w : t = pop (rtB n S) i
            · rw [w, pk_us, if_pos rfl]
            · rw [pk_un w, if_neg w]
              refine hs t ?_
              have : t < min 4 (pop (rtB n S) i + 1) := ht
              omega)
          rw [show min 4 (pop (rtB n S) i + true.toNat) = pop (rtB n S) i + 1 from by show min 4 (pop (rtB n S) i + 1) = _; omega] at hih2
          exact hih2
        · rw [show min 4 (pop (rtB n S) i) = 4 from by omega, addSpot_4, ob2E]
          have hih2 := hih spots (by omega) (by omega) (fun t ht => by
            have : t < min 4 (pop (rtB n S) i + 1) := ht
            rw [if_neg (by omega)]
            exact hs t (by omega))
          rw [show min 4 (pop (rtB n S) i + true.toNat) = 4 from by show min 4 (pop (rtB n S) i + 1) = _; omega] at hih2
          exact hih2
theorem locTwo_eq {pwr lg : Nat → Int32} (hT : TabF pwr lg) {n : Nat} {S : Nat → Nat} {spots sums : Nat → Int32} (hn : n ≤ 32) (hs : ∀ t, t < 4 → sums t = nI (S t)) (hS : ∀ t, S t < 256) :
    (dW S = 0 ∧ fX0_locateTwo (nI n) 0 spots sums lg pwr = some (0, 0, spots)) ∨ (0 < dW S ∧ ∃ spots', fX0_locateTwo (nI n) 0 spots sums lg pwr = some (b01 (decide (pop (rtB n S) n = 2)), nI (min 4 (pop (rtB n S) n)), spots') ∧ ∀ t, t < min 4 (pop (rtB n S) n) → spots' t = nI (mP (rtB n S) n t)) := by
  unfold fX0_locateTwo
  rw [show (0 : Int32).toNatClampNeg = 0 from rfl, show (1 : Int32).toNatClampNeg = 1 from rfl, show (2 : Int32).toNatClampNeg = 2 from rfl, show (3 : Int32).toNatClampNeg = 3 from rfl, hs 0 (by omega), hs 1 (by omega), hs 2 (by omega), hs 3 (by omega)]
  simp only [og_t (show ixb 0 4 = true from rfl), og_t (show ixb 1 4 = true from rfl), og_t (show ixb 2 4 = true from rfl), og_t (show ixb 3 4 = true from rfl), timesC hT (hS _) (hS _), ob1E, nx_xor, nmE]
  have lW := dW_lt S
  rw [show gm (S 1) (S 1) ^^^ gm (S 0) (S 2) = dW S from rfl]
  rcases Nat.eq_zero_or_pos (dW S) with h0 | h0
  · rw [if_pos (by rw [h0]; rfl)]
    exact Or.inl ⟨h0, rfl⟩
  · rw [if_neg (nI_ne0 h0 (by omega)), overC hT (x_lt (gm_lt _ _) (gm_lt _ _)) lW h0, ob1E, overC hT (x_lt (gm_lt _ _) (gm_lt _ _)) lW h0, ob1E]
    refine Or.inr ⟨h0, ?_⟩
    simp only [jkE]
    obtain ⟨spots', g1, g2⟩ := twoC (jj := fun v_spotted_31 v_spots_32 => if v_spotted_31 = (2 : Int32) then some (1, v_spotted_31, v_spots_32) else some (0, v_spotted_31, v_spots_32)) hT (S := S) hn FU 0 spots (by omega) (by rw [FU_eq]; omega) (fun t ht => by
      have : t < min 4 0 := ht
      omega)
    have g1' : fX0_locateTwo_L145 (nI n) (fun v_spotted_31 v_spots_32 => if v_spotted_31 = (2 : Int32) then some (1, v_spotted_31, v_spots_32) else some (0, v_spotted_31, v_spots_32)) pwr lg (nI (gm (gm (S 0) (S 3) ^^^ gm (S 1) (S 2)) (gi (dW S)))) (nI (gm (gm (S 1) (S 3) ^^^ gm (S 2) (S 2)) (gi (dW S)))) FU 0 0 spots = _ := g1
    refine ⟨spots', ?_, g2⟩
    rw [g1']
    by_cases h2 : pop (rtB n S) n = 2
    · rw [h2, if_pos (show nI (min 4 2) = (2 : Int32) from rfl), decide_eq_true rfl]; rfl
    · rw [if_neg (show ¬ nI (min 4 (pop (rtB n S) n)) = (2 : Int32) from fun w => h2 (by have := (nI_eq (b := 2) (by omega) (by omega)).mp w; omega)), decide_eq_false h2]; rfl
theorem twoR {jj : Int32 → (Nat → Int32) → Option (Int32 × (Nat → Int32))} {pwr lg : Nat → Int32} (hT : TabF pwr lg) {n : Nat} {S : Nat → Nat} (hn : n ≤ 32) : ∀ (F i : Nat) (pl : Nat → Int32), i ≤ n → n - i < F → (∀ t, t < min 2 (pop (rtB n S) i) → pl t = nI (mP (rtB n S) i t)) →
    ∃ pl', fX10_findTwo_L114 (nI n) jj pwr lg (nI (dA S)) (nI (dB S)) F (nI i) (nI (pop (rtB n S) i)) pl = jj (nI (pop (rtB n S) n)) pl' ∧ ∀ t, t < min 2 (pop (rtB n S) n) → pl' t = nI (mP (rtB n S) n t) := by
  intro F
  induction F with
  | zero => intro i pl _ h; omega
  | succ F ih =>
    intro i pl hi hF hs
    rw [fX10_findTwo_L114.eq_2]
    by_cases h1 : n ≤ i
    · rw [if_pos (nI_le h1 (by omega)), show i = n from by omega]
      exact ⟨pl, rfl, by rw [show i = n from by omega] at hs; exact hs⟩
    · have lA : dA S < 256 := gm_lt _ _
      have lB : dB S < 256 := gm_lt _ _
      have lx := gp_lt (n - 1 - i)
      have hpw : fX10_power pwr 1 (nI n) (nI i) = some (nI (gp (1 * (n - 1 - i)))) := powerR (j := 1) hT (by omega) hn (by omega)
      rw [Nat.one_mul] at hpw
      rw [if_neg (nI_ge (by omega) (by omega)), hpw, ob1E, timesR hT lx lx, ob1E, timesR hT lA lx, ob1E, nx_xor, nx_xor]
      simp only [jkE, nmE]
      rw [nI_1, nI_1]
      have lz : (gm (gp (n - 1 - i)) (gp (n - 1 - i)) ^^^ gm (dA S) (gp (n - 1 - i))) ^^^ dB S < 256 := x_lt (x_lt (gm_lt _ _) (gm_lt _ _)) lB
      have hle := pop_le (rtB n S) i
      have hih := ih (i + 1)
      have es : pop (rtB n S) (i + 1) = pop (rtB n S) i + (rtB n S i).toNat := rfl
      rw [es, mP_s] at hih
      cases hb : rtB n S i with
      | false =>
        rw [hb] at hih
        simp only [Bool.false_eq_true, if_false] at hih
        have hbz := of_decide_eq_false hb
        rw [if_neg (nI_ne0 (by omega) (by omega))]
        exact hih pl (by omega) (by omega) hs
      | true =>
        rw [hb] at hih
        simp only [if_true] at hih
        have hbz := of_decide_eq_true hb
        rw [if_pos (by rw [hbz]; rfl)]
        by_cases h4 : pop (rtB n S) i < 2
        · rw [if_neg (show ¬ (2 : Int32) ≤ nI (pop (rtB n S) i) from nI_ge (b := 2) h4 (by omega)), og_nI (by omega) (by omega), nI_clamp (by omega)]
          exact hih (upd pl (pop (rtB n S) i) (nI i)) (by omega) (by omega) (fun t ht => by
            by_cases w : t = pop (rtB n S) i
            · rw [w, pk_us, if_pos rfl]
            · rw [pk_un w, if_neg w]
              refine hs t ?_
              have : t < min 2 (pop (rtB n S) i + 1) := ht
              omega)
        · rw [if_pos (show (2 : Int32) ≤ nI (pop (rtB n S) i) from nI_le (a := 2) (by omega) (by omega))]
          exact hih pl (by omega) (by omega) (fun t ht => by
            have : t < min 2 (pop (rtB n S) i + 1) := ht
            rw [if_neg (by omega)]
            exact hs t (by omega))
theorem findTwo_eq {pwr lg : Nat → Int32} (hT : TabF pwr lg) {n : Nat} {S : Nat → Nat} {pl sy : Nat → Int32} (hn : n ≤ 32) (hs : ∀ t, t < 4 → sy t = nI (S t)) (hS : ∀ t, S t < 256) :
    (dW S = 0 ∧ fX10_findTwo lg pl pwr sy (nI n) = some (0, pl)) ∨ (0 < dW S ∧ ∃ pl', fX10_findTwo lg pl pwr sy (nI n) = some (b01 (decide (pop (rtB n S) n = 2)), pl') ∧ ∀ t, t < min 2 (pop (rtB n S) n) → pl' t = nI (mP (rtB n S) n t)) := by
  unfold fX10_findTwo
  simp only [nmE]
  rw [show (0 : Int32).toNatClampNeg = 0 from rfl, show (1 : Int32).toNatClampNeg = 1 from rfl, show (2 : Int32).toNatClampNeg = 2 from rfl, show (3 : Int32).toNatClampNeg = 3 from rfl, hs 0 (by omega), hs 1 (by omega), hs 2 (by omega), hs 3 (by omega)]
  simp only [og_t (show ixb 0 4 = true from rfl), og_t (show ixb 1 4 = true from rfl), og_t (show ixb 2 4 = true from rfl), og_t (show ixb 3 4 = true from rfl), timesR hT (hS _) (hS _), ob1E, nx_xor]
  have lW := dW_lt S
  rw [show gm (S 1) (S 1) ^^^ gm (S 0) (S 2) = dW S from rfl]
  rcases Nat.eq_zero_or_pos (dW S) with h0 | h0
  · rw [if_pos (by rw [h0]; rfl)]
    exact Or.inl ⟨h0, rfl⟩
  · rw [if_neg (nI_ne0 h0 (by omega)), invR hT lW h0, ob1E, timesR hT (x_lt (gm_lt _ _) (gm_lt _ _)) (gi_lt _), ob1E, timesR hT (x_lt (gm_lt _ _) (gm_lt _ _)) (gi_lt _), ob1E]
    refine Or.inr ⟨h0, ?_⟩
    simp only [jkE]
    obtain ⟨pl', g1, g2⟩ := twoR (jj := fun x10_29 v_places_30 => if x10_29 = (2 : Int32) then some (1, v_places_30) else some (0, v_places_30)) hT (S := S) hn FU 0 pl (by omega) (by rw [FU_eq]; omega) (fun t ht => by
      have : t < min 2 0 := ht
      omega)
    have g1' : fX10_findTwo_L114 (nI n) (fun x10_29 v_places_30 => if x10_29 = (2 : Int32) then some (1, v_places_30) else some (0, v_places_30)) pwr lg (nI (gm (gm (S 0) (S 3) ^^^ gm (S 1) (S 2)) (gi (dW S)))) (nI (gm (gm (S 1) (S 3) ^^^ gm (S 2) (S 2)) (gi (dW S)))) FU 0 0 pl = _ := g1
    refine ⟨pl', ?_, g2⟩
    rw [g1']
    have hle := pop_le (rtB n S) n
    by_cases h2 : pop (rtB n S) n = 2
    · rw [h2, if_pos (show nI 2 = (2 : Int32) from rfl), decide_eq_true rfl]; rfl
    · rw [if_neg (show ¬ nI (pop (rtB n S) n) = (2 : Int32) from fun w => h2 ((nI_eq (b := 2) (by omega) (by omega)).mp w)), decide_eq_false h2]; rfl
