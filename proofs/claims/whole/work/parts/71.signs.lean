/-! ===== signs ===== -/
def sgB (pk : Nat → Int32) (N p : Nat) : Bool := decide (p + 24 ≤ N) && decide (tkN (pb pk) p 24 = 8392706)
theorem stands_eq {pk : Nat → Int32} {N p : Nat} (hN : N ≤ 360000) (hp : p < 500000) : fX3_signStands (nI N) pk (nI p) = some (b01 (sgB pk N p)) := by
  unfold fX3_signStands sgB
  have b1 := nI_ti (n := N) (by omega)
  have b2 := nI_ti (n := p) (by omega)
  have b3 : (24 : Int32).toInt = 24 := by decide
  have b4 : (nI N - (24 : Int32)).toInt = N - 24 := by rw [ti_sub (by omega) (by omega), b1, b3]
  rw [if_neg (nI_pos (by omega))]
  by_cases h : p + 24 ≤ N
  · rw [if_neg (fun q => by have := ti_lt.mp q; omega), peek_eq (by omega), ob1E, decide_eq_true h]
    have h32 := tk_lt (pb pk) p 32
    have h24 := tk_lt (pb pk) p 24
    rw [show Int32.toUInt32 8 = (nI 8).toUInt32 from rfl, nx_ush2 (j := 8) (by omega) (by omega), show tkN (pb pk) p 32 / 2 ^ 8 = tkN (pb pk) p 24 from tk_div (pb pk) p 24 8]
    by_cases q : tkN (pb pk) p 24 = 8392706
    · rw [q, if_pos (show nI 8392706 = (8392706 : Int32) from rfl), decide_eq_true rfl]; rfl
    · rw [if_neg (show ¬ nI (tkN (pb pk) p 24) = (8392706 : Int32) from fun w => q ((nI_eq (b := 8392706) (by omega) (by omega)).mp w)), decide_eq_false q]; rfl
  · rw [if_pos (ti_lt.mpr (by omega)), decide_eq_false h]; rfl
theorem sg_off {B : Nat → Bool} {p : Nat} (h : tkN B p 24 = 8392706) : B p = true ∧ B (p + 11) = true ∧ B (p + 22) = true := by
  have t := tk_bit B p 24
  rw [h] at t
  refine ⟨?_, ?_, ?_⟩
  · have := t 23; exact this.symm.trans (by decide)
  · have := t 12; exact this.symm.trans (by decide)
  · have := t 1; exact this.symm.trans (by decide)
theorem isSign_eq {len : Int32} {bi pk : Nat → Int32} {n : Nat} {pr mpr msf sz : Int32} (hD : ID n sz pr pk len mpr msf bi) {N p : Nat} (hN : N ≤ 360000) (e : len = nI N) (hp : p < 500000) : fX10_isSign len bi (nI p) = some (b01 (sgB pk N p)) := by
  unfold fX10_isSign sgB
  simp only [jkE]
  rw [if_neg (nI_pos (by omega)), show nI p + (24 : Int32) = nI (p + 24) from nI_add p 24]
  by_cases h : p + 24 ≤ N
  · rw [if_neg (by rw [e]; exact nI_nlt h (by omega)), bit_eq hD (by omega), ob1E, decide_eq_true h]
    have h24 := tk_lt (pb pk) p 24
    have ht := taken_eq hD (i := p) (m := 24) (by omega) (by omega)
    have ht2 : fX10_taken len bi (nI p) 24 = _ := ht
    by_cases q : tkN (pb pk) p 24 = 8392706
    · rw [(sg_off q).1, if_pos (show nI true.toNat = (1 : Int32) from rfl), if_neg ne10, ht2, ob1E, q, if_pos (show nI 8392706 = (8392706 : Int32) from rfl), decide_eq_true rfl]; rfl
    · rw [decide_eq_false q]
      cases pb pk p
      · rw [if_neg (show ¬ nI false.toNat = (1 : Int32) from by decide), if_pos trivial]; rfl
      · rw [if_pos (show nI true.toNat = (1 : Int32) from rfl), if_neg ne10, ht2, ob1E, if_neg (show ¬ nI (tkN (pb pk) p 24) = (8392706 : Int32) from fun w => q ((nI_eq (b := 8392706) (by omega) (by omega)).mp w))]; rfl
  · rw [if_pos (by rw [e]; exact nI_lt (by omega) (by omega)), decide_eq_false h, if_pos trivial]; rfl
def NS (pk : Nat → Int32) (N a : Nat) (r : Int32) : Prop := (r = -1 ∧ ∀ p, a ≤ p → sgB pk N p = false) ∨ ∃ q, r = nI q ∧ a ≤ q ∧ q < N ∧ sgB pk N q = true ∧ ∀ p, a ≤ p → p < q → sgB pk N p = false
theorem sgB_lt {pk : Nat → Int32} {N p : Nat} (h : sgB pk N p = true) : p + 24 ≤ N := by
  unfold sgB at h
  rw [Bool.and_eq_true] at h
  exact of_decide_eq_true h.1
theorem next_in {j : Option Int32} {pk : Nat → Int32} {N p : Nat} {may : Int32} (hN : N ≤ 360000) (hp : p < 400000) (hm : ∀ t, t < 32 → bt may (31 - t) = (pb pk (p + t) && pb pk (p + 11 + t) && pb pk (p + 22 + t))) : ∀ (F t : Nat), t ≤ 32 → 32 - t < F → (∀ s, s < t → sgB pk N (p + s) = false) →
    (fX3_nextSign_L41 j may (nI N) pk (nI p) F (nI t) = j ∧ ∀ s, s < 32 → sgB pk N (p + s) = false) ∨ ∃ q, q < 32 ∧ fX3_nextSign_L41 j may (nI N) pk (nI p) F (nI t) = some (nI (p + q)) ∧ sgB pk N (p + q) = true ∧ ∀ s, s < q → sgB pk N (p + s) = false := by
  have hno : ∀ s, s < 32 → bt may (31 - s) = false → sgB pk N (p + s) = false := fun s hs h => by
    rw [hm s hs] at h
    unfold sgB
    by_cases q : tkN (pb pk) (p + s) 24 = 8392706
    · obtain ⟨q1, q2, q3⟩ := sg_off q
      rw [show p + s + 11 = p + 11 + s from by omega] at q2
      rw [show p + s + 22 = p + 22 + s from by omega] at q3
      rw [q1, q2, q3] at h
      exact absurd h (by decide)
    · rw [decide_eq_false q]; simp
  intro F
  induction F with
  | zero => intro t _ h; omega
  | succ F ih =>
    intro t ht hF hs
    rw [fX3_nextSign_L41.eq_2]
    by_cases h1 : 32 ≤ t
    · rw [if_pos (show (32 : Int32) ≤ nI t from nI_le (a := 32) h1 (by omega))]
      exact Or.inl ⟨rfl, fun s q => hs s (by omega)⟩
    · rw [if_neg (show ¬ (32 : Int32) ≤ nI t from nI_ge (b := 32) (by omega) (by omega))]
      by_cases h2 : may = 0
      · rw [if_pos h2]
        refine Or.inl ⟨rfl, fun s q => hno s q (by rw [h2]; exact b_0 _)⟩
      · rw [if_neg h2]
        simp only [jkE, nmE]
        rw [show (31 : Int32) - nI t = nI (31 - t) from pk_sub (a := 31) (by omega), bt_tst may (31 - t) (by omega), nI_add, nI_1]
        have hrec : sgB pk N (p + t) = false → _ := fun hf => ih (t + 1) (by omega) (by omega) (fun s q => by
          by_cases w : s = t
          · rw [w]; exact hf
          · exact hs s (by omega))
        cases hb : bt may (31 - t) with
        | false =>
          rw [if_neg (show ¬ b01 false = (1 : Int32) from by decide)]
          exact hrec (hno t (by omega) hb)
        | true =>
          rw [if_pos (show b01 true = (1 : Int32) from rfl), stands_eq hN (by omega), ob1E]
          cases hg : sgB pk N (p + t) with
          | false =>
            rw [if_pos (show b01 false = (0 : Int32) from rfl)]
            exact hrec hg
          | true =>
            rw [if_neg (show ¬ b01 true = (0 : Int32) from by decide)]
            exact Or.inr ⟨t, by omega, rfl, hg, hs⟩
theorem next_out {pk : Nat → Int32} {N a : Nat} (hN : N ≤ 360000) : ∀ (F p : Nat), a ≤ p → p < 400000 → N + 32 - p < F → (∀ s, a ≤ s → s < p → sgB pk N s = false) → ∃ r, fX3_nextSign_L6 (nI N) pk F (nI p) = some r ∧ NS pk N a r := by
  intro F
  induction F with
  | zero => intro p _ _ h; omega
  | succ F ih =>
    intro p ha hp hF hs
    rw [fX3_nextSign_L6.eq_2]
    by_cases h1 : N ≤ p
    · rw [if_pos (nI_le h1 (by omega))]
      refine ⟨-1, rfl, Or.inl ⟨rfl, fun s q => ?_⟩⟩
      cases hg : sgB pk N s with
      | false => rfl
      | true => have := sgB_lt hg; have := hs s q (by omega); rw [this] at hg; exact hg.symm
    · rw [if_neg (nI_ge (by omega) (by omega)), peek_eq (by omega), ob1E, show nI p + (11 : Int32) = nI (p + 11) from nI_add p 11, peek_eq (by omega), ob1E, show nI p + (22 : Int32) = nI (p + 22) from nI_add p 22, peek_eq (by omega), ob1E, show nI p + (32 : Int32) = nI (p + 32) from nI_add p 32]
      simp only [jkE, nmE]
      rcases next_in (j := fX3_nextSign_L6 (nI N) pk F (nI (p + 32))) (pk := pk) (N := N) (p := p) (may := nI (tkN (pb pk) p 32) &&& nI (tkN (pb pk) (p + 11) 32) &&& nI (tkN (pb pk) (p + 22) 32)) hN hp (fun t ht => by
        rw [b_and, b_and, bt_nI, bt_nI, bt_nI, tk_bit, tk_bit, tk_bit, decide_eq_true (show 31 - t < 32 from by omega)]
        simp only [Bool.true_and]
        rw [show 32 - 1 - (31 - t) = t from by omega]) FU 0 (by omega) (by rw [FU_eq]; omega) (fun s q => by omega) with ⟨g1, g2⟩ | ⟨q, q1, q2, q3, q4⟩
      · have g1' : fX3_nextSign_L41 (fX3_nextSign_L6 (nI N) pk F (nI (p + 32))) (nI (tkN (pb pk) p 32) &&& nI (tkN (pb pk) (p + 11) 32) &&& nI (tkN (pb pk) (p + 22) 32)) (nI N) pk (nI p) FU 0 = _ := g1
        rw [g1']
        exact ih (p + 32) (by omega) (by omega) (by omega) (fun s w1 w2 => by
          by_cases w : s < p
          · exact hs s w1 w
          · have := g2 (s - p) (by omega)
            rw [show p + (s - p) = s from by omega] at this
            exact this)
      · have q2' : fX3_nextSign_L41 (fX3_nextSign_L6 (nI N) pk F (nI (p + 32))) (nI (tkN (pb pk) p 32) &&& nI (tkN (pb pk) (p + 11) 32) &&& nI (tkN (pb pk) (p + 22) 32)) (nI N) pk (nI p) FU 0 = _ := q2
        rw [q2']
        refine ⟨_, rfl, Or.inr ⟨p + q, rfl, by omega, by have := sgB_lt q3; omega, q3, fun s w1 w2 => ?_⟩⟩
        by_cases w : s < p
        · exact hs s w1 w
        · have := q4 (s - p) (by omega)
          rw [show p + (s - p) = s from by omega] at this
          exact this
theorem next_eq {pk : Nat → Int32} {N a : Nat} (hN : N ≤ 360000) (ha : a < 400000) : ∃ r, fX3_nextSign (nI N) pk (nI a) = some r ∧ NS pk N a r := by
  unfold fX3_nextSign
  rw [nmE, if_neg (nI_pos (by omega))]
  exact next_out hN FU a (Nat.le_refl _) ha (by rw [FU_eq]; omega) (fun s q1 q2 => by omega)
theorem pop_const {S : Nat → Bool} {a : Nat} : ∀ m, (∀ p, a ≤ p → p < a + m → S p = false) → pop S (a + m) = pop S a
  | 0, _ => rfl
  | m + 1, h => by
    show pop S (a + m) + (S (a + m)).toNat = _
    rw [h (a + m) (by omega) (by omega), pop_const m (fun p h1 h2 => h p h1 (by omega))]; rfl
theorem pop_const' {S : Nat → Bool} {a b : Nat} (hab : a ≤ b) (h : ∀ p, a ≤ p → p < b → S p = false) : pop S b = pop S a := by
  have := pop_const (S := S) (a := a) (b - a) (fun p h1 h2 => h p h1 (by omega))
  rw [show a + (b - a) = b from by omega] at this
  exact this
theorem pop_s {S : Nat → Bool} {q : Nat} (h : S q = true) : pop S (q + 1) = pop S q + 1 := by
  show pop S q + (S q).toNat = _
  rw [h]; rfl
theorem pop_mono (S : Nat → Bool) (a : Nat) : ∀ m, pop S a ≤ pop S (a + m)
  | 0 => Nat.le_refl _
  | m + 1 => by
    show _ ≤ pop S (a + m) + (S (a + m)).toNat
    have := pop_mono S a m
    omega
theorem pop_lt {S : Nat → Bool} {a b : Nat} (h : a < b) (ha : S a = true) : pop S a < pop S b := by
  have := pop_mono S (a + 1) (b - (a + 1))
  rw [show a + 1 + (b - (a + 1)) = b from by omega, pop_s ha] at this
  omega
theorem countC {pk : Nat → Int32} {N : Nat} (hN : N ≤ 360000) : ∀ (F a : Nat) (r : Int32), NS pk N a r → a ≤ N → N - a < F → fX3_countSigns_L8 (nI N) pk F (nI (pop (sgB pk N) a)) r = some (nI (pop (sgB pk N) N)) := by
  intro F
  induction F with
  | zero => intro a r _ _ h; omega
  | succ F ih =>
    intro a r hr ha hF
    rw [fX3_countSigns_L8.eq_2]
    rcases hr with ⟨rfl, h2⟩ | ⟨q, rfl, h2, h3, h4, h5⟩
    · rw [if_pos rfl, pop_const' ha (fun p w1 w2 => h2 p w1)]
    · have e := pop_const' h2 h5
      have hle := pop_le (sgB pk N) q
      rw [if_neg (nI_m1 (by omega)), if_neg (nI_ge (by omega) (by omega)), nmE, show nI q + (1 : Int32) = nI (q + 1) from nI_1 q, nI_1, ← e, ← pop_s h4]
      obtain ⟨r2, g1, g2⟩ := next_eq (pk := pk) (N := N) (a := q + 1) hN (by omega)
      rw [g1, ob1E]
      exact ih (q + 1) r2 g2 (by omega) (by omega)
theorem countR {n : Nat} {sz pr len mpr msf : Int32} {pk bi : Nat → Int32} {N : Nat} (hD : ID n sz pr pk len mpr msf bi) (hN : N ≤ 360000) (e : len = nI N) : ∀ (F k : Nat), k ≤ N → N - k < F → fX10_signs_L9 len bi F (nI k) (nI (pop (sgB pk N) k)) = some (nI (pop (sgB pk N) N), 0) := by
  intro F
  induction F with
  | zero => intro k _ h; omega
  | succ F ih =>
    intro k hk hF
    rw [fX10_signs_L9.eq_2]
    by_cases h1 : N ≤ k
    · rw [if_pos (by rw [e]; exact nI_le h1 (by omega)), show k = N from by omega]
    · rw [if_neg (by rw [e]; exact nI_ge (by omega) (by omega)), isSign_eq hD hN e (by omega), ob1E]
      simp only [jkE, nmE]
      rw [nI_1]
      have hi := ih (k + 1) (by omega) (by omega)
      have es : pop (sgB pk N) (k + 1) = pop (sgB pk N) k + (sgB pk N k).toNat := rfl
      rw [es] at hi
      cases hg : sgB pk N k with
      | false =>
        rw [hg] at hi
        rw [if_pos (show b01 false = (0 : Int32) from rfl), Int32.add_zero]
        exact hi
      | true =>
        rw [hg] at hi
        rw [if_neg (show ¬ b01 true = (0 : Int32) from by decide), nI_1]
        exact hi
theorem op_signs : OP15 Inv := by
  intro n xi xa xl mi ma hn h
  obtain ⟨hC, hS, hE, hB, hD, hP⟩ := id h
  obtain ⟨N, hN, e1, e2⟩ := ID_sz hD
  refine ⟨nI (pop (sgB (xa 19) N) N), nI (pop (sgB (xa 19) N) N), 0, ?_, ?_, rfl, hC, hS, hE, hB, hD.mono, hP⟩
  · unfold fX9_signs fX3_countSigns
    obtain ⟨r2, g1, g2⟩ := next_eq (pk := xa 19) (N := N) (a := 0) hN (by omega)
    have g1' : fX3_nextSign (nI N) (xa 19) 0 = _ := g1
    have := countC hN FU 0 r2 g2 (by omega) (by rw [FU_eq]; omega)
    have t2 : fX3_countSigns_L8 (nI N) (xa 19) FU 0 r2 = _ := this
    rw [e1, g1', ob1E, t2, ob1E]
  · unfold fX10_signs
    exact countR hD hN e2 FU 0 (by omega) (by rw [FU_eq]; omega)
def SA (pk : Nat → Int32) (N i : Nat) (r : Int32) : Prop := (r = -1 ∧ ∀ q, sgB pk N q = true → pop (sgB pk N) q ≠ i) ∨ ∃ q, r = nI q ∧ sgB pk N q = true ∧ pop (sgB pk N) q = i
theorem SA_one {pk : Nat → Int32} {N i : Nat} {r s : Int32} (h1 : SA pk N i r) (h2 : SA pk N i s) : r = s := by
  rcases h1 with ⟨rfl, a1⟩ | ⟨q, rfl, a1, a2⟩
  · rcases h2 with ⟨rfl, b1⟩ | ⟨p, rfl, b1, b2⟩
    · rfl
    · exact absurd b2 (a1 p b1)
  · rcases h2 with ⟨rfl, b1⟩ | ⟨p, rfl, b1, b2⟩
    · exact absurd a2 (b1 q a1)
    · rcases Nat.lt_trichotomy q p with w | w | w
      · have := pop_lt w a1; omega
      · rw [w]
      · have := pop_lt w b1; omega
theorem findC {pk : Nat → Int32} {N i : Nat} (hN : N ≤ 360000) (hi : i < 2147483648) : ∀ (F a : Nat) (r : Int32), NS pk N a r → a ≤ N → N - a < F → pop (sgB pk N) a ≤ i → ∃ s, fX3_findSign_L16 (nI i) (nI N) pk F (nI (pop (sgB pk N) a)) r = some s ∧ SA pk N i s := by
  intro F
  induction F with
  | zero => intro a r _ _ h; omega
  | succ F ih =>
    intro a r hr ha hF hpa
    rw [fX3_findSign_L16.eq_2]
    have hle := pop_le (sgB pk N) a
    by_cases h1 : i ≤ pop (sgB pk N) a
    · rw [if_pos (nI_le h1 (by omega))]
      refine ⟨r, rfl, ?_⟩
      rcases hr with ⟨rfl, h2⟩ | ⟨q, rfl, h2, h3, h4, h5⟩
      · refine Or.inl ⟨rfl, fun q hq he => ?_⟩
        by_cases w : a ≤ q
        · rw [h2 q w] at hq; exact absurd hq (by decide)
        · have := pop_lt (S := sgB pk N) (a := q) (b := a) (by omega) hq; omega
      · exact Or.inr ⟨q, rfl, h4, by rw [pop_const' h2 h5]; omega⟩
    · rw [if_neg (nI_ge (by omega) (by omega))]
      rcases hr with ⟨rfl, h2⟩ | ⟨q, rfl, h2, h3, h4, h5⟩
      · rw [if_pos rfl]
        refine ⟨-1, rfl, Or.inl ⟨rfl, fun q hq he => ?_⟩⟩
        by_cases w : a ≤ q
        · rw [h2 q w] at hq; exact absurd hq (by decide)
        · have := pop_lt (S := sgB pk N) (a := q) (b := a) (by omega) hq; omega
      · have e := pop_const' h2 h5
        obtain ⟨r2, g1, g2⟩ := next_eq (pk := pk) (N := N) (a := q + 1) hN (by omega)
        rw [if_neg (nI_m1 (by omega)), show nI q + (1 : Int32) = nI (q + 1) from nI_1 q, g1, ob1E, nmE, nI_1, ← e, ← pop_s h4]
        exact ih (q + 1) r2 g2 (by omega) (by omega) (by rw [pop_s h4, e]; omega)
theorem findR {n : Nat} {sz pr len mpr msf : Int32} {pk bi : Nat → Int32} {N i : Nat} (hD : ID n sz pr pk len mpr msf bi) (hN : N ≤ 360000) (e : len = nI N) (hi : i < 2147483648) : ∀ (F k : Nat), k ≤ N → N - k < F → (∀ q, q < k → sgB pk N q = true → pop (sgB pk N) q ≠ i) → ∃ s, fX10_signAt_L9 len bi (nI i) F (nI k) (nI (pop (sgB pk N) k)) = some (s, 0) ∧ SA pk N i s := by
  intro F
  induction F with
  | zero => intro k _ h; omega
  | succ F ih =>
    intro k hk hF hb
    rw [fX10_signAt_L9.eq_2]
    have hle := pop_le (sgB pk N) k
    by_cases h1 : N ≤ k
    · rw [if_pos (by rw [e]; exact nI_le h1 (by omega))]
      exact ⟨-1, rfl, Or.inl ⟨rfl, fun q hq => hb q (by have := sgB_lt hq; omega) hq⟩⟩
    · rw [if_neg (by rw [e]; exact nI_ge (by omega) (by omega)), isSign_eq hD hN e (by omega), ob1E]
      simp only [jkE, nmE]
      rw [nI_1, nI_1]
      have hrec := fun w => ih (k + 1) (by omega) (by omega) w
      have es : pop (sgB pk N) (k + 1) = pop (sgB pk N) k + (sgB pk N k).toNat := rfl
      rw [es] at hrec
      cases hg : sgB pk N k with
      | false =>
        rw [hg] at hrec
        rw [if_pos (show b01 false = (0 : Int32) from rfl)]
        exact hrec (fun q w1 w2 => by
          by_cases w : q = k
          · rw [w, hg] at w2; exact absurd w2 (by decide)
          · exact hb q (by omega) w2)
      | true =>
        rw [hg] at hrec
        rw [if_neg (show ¬ b01 true = (0 : Int32) from by decide)]
        by_cases h3 : pop (sgB pk N) k = i
        · rw [if_pos (by rw [h3])]
          exact ⟨nI k, rfl, Or.inr ⟨k, rfl, hg, h3⟩⟩
        · rw [if_neg (fun w => h3 ((nI_eq (by omega) (by omega)).mp w))]
          exact hrec (fun q w1 w2 => by
            by_cases w : q = k
            · rw [w]; exact h3
            · exact hb q (by omega) w2)
theorem findRneg {n : Nat} {sz pr len mpr msf : Int32} {pk bi : Nat → Int32} {N : Nat} {y : Int32} (hD : ID n sz pr pk len mpr msf bi) (hN : N ≤ 360000) (e : len = nI N) (hy : y < 0) : ∀ (F k : Nat), k ≤ N → N - k < F → fX10_signAt_L9 len bi y F (nI k) (nI (pop (sgB pk N) k)) = some (-1, 0) := by
  intro F
  induction F with
  | zero => intro k _ h; omega
  | succ F ih =>
    intro k hk hF
    rw [fX10_signAt_L9.eq_2]
    have hle := pop_le (sgB pk N) k
    by_cases h1 : N ≤ k
    · rw [if_pos (by rw [e]; exact nI_le h1 (by omega))]
    · rw [if_neg (by rw [e]; exact nI_ge (by omega) (by omega)), isSign_eq hD hN e (by omega), ob1E]
      simp only [jkE, nmE]
      rw [nI_1, nI_1]
      have hrec := ih (k + 1) (by omega) (by omega)
      have es : pop (sgB pk N) (k + 1) = pop (sgB pk N) k + (sgB pk N k).toNat := rfl
      rw [es] at hrec
      cases hg : sgB pk N k with
      | false =>
        rw [hg] at hrec
        rw [if_pos (show b01 false = (0 : Int32) from rfl)]
        exact hrec
      | true =>
        rw [hg] at hrec
        rw [if_neg (show ¬ b01 true = (0 : Int32) from by decide), if_neg (fun w => by
          rw [← w] at hy
          exact nI_pos (by omega) hy)]
        exact hrec
theorem op_signAt : OP16 Inv := by
  intro n xi xa xl mi ma y0 hn h
  obtain ⟨hC, hS, hE, hB, hD, hP⟩ := id h
  obtain ⟨N, hN, e1, e2⟩ := ID_sz hD
  rcases i_cases y0 with hy | ⟨i, hi, rfl⟩
  · refine ⟨-1, -1, 0, ?_, ?_, rfl, hC, hS, hE, hB, hD.mono, hP⟩
    · unfold fX9_signAt fX3_findSign
      have q1 := ti_lt.mp hy
      simp only [jkE]
      rw [if_neg (fun q => by have := ti_le.mp q; omega), show FU = 999999 + 1 from rfl, fX3_findSign_L16.eq_2, if_pos (ti_le.mpr (by omega)), ob1E]
    · unfold fX10_signAt
      exact findRneg hD hN e2 hy FU 0 (by omega) (by rw [FU_eq]; omega)
  · obtain ⟨r2, g1, g2⟩ := next_eq (pk := xa 19) (N := N) (a := 0) hN (by omega)
    obtain ⟨s1, c1, c2⟩ := findC hN hi FU 0 r2 g2 (by omega) (by rw [FU_eq]; omega) (by show 0 ≤ i; omega)
    obtain ⟨s2, d1, d2⟩ := findR hD hN e2 hi FU 0 (by omega) (by rw [FU_eq]; omega) (fun q w => by omega)
    refine ⟨s1, s2, 0, ?_, ?_, SA_one c2 d2, hC, hS, hE, hB, hD.mono, hP⟩
    · unfold fX9_signAt fX3_findSign
      have g1' : fX3_nextSign (nI N) (xa 19) 0 = _ := g1
      have c1' : fX3_findSign_L16 (nI i) (nI N) (xa 19) FU 0 r2 = _ := c1
      simp only [jkE]
      rw [e1, if_pos (nI_pos' hi), g1', ob1E, c1', ob1E]
    · exact d1
