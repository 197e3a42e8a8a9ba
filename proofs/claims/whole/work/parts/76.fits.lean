/-! ===== fits, changed, the marks' places ===== -/
def FM (k : Nat) (r : Nat → Int32) (A : Nat → Nat → Nat) (j t : Nat) : Prop := ∀ i c, i < 4 → c < 5 → (c < k ∨ c = 4) → (i < j ∨ (i = j ∧ c < t)) → r (5 * i + c) = nI (A i c)
theorem fmIn {jj : (Nat → Int32) → Option (Int32 × (Nat → Int32) × (Nat → Int32))} {pwr lg : Nat → Int32} (hT : TabF pwr lg) {n k j : Nat} {P S : Nat → Nat} {places : Nat → Int32} (hn : n ≤ 32) (hk : k ≤ 4) (hj : j < 4) (hP : ∀ t, t < k → places t = nI (P t) ∧ P t < n) : ∀ (F t : Nat) (r : Nat → Int32), t ≤ k → k - t < F → FM k r (A0 (fun t => gp (n - 1 - P t)) S k) j t →
    ∃ r', fX10_fits_L10 (nI k) jj pwr (nI j) (nI n) places F (nI t) r = jj r' ∧ FM k r' (A0 (fun t => gp (n - 1 - P t)) S k) j k := by
  intro F
  induction F with
  | zero => intro t r _ h; omega
  | succ F ih =>
    intro t r ht hF hr
    rw [fX10_fits_L10.eq_2]
    by_cases h1 : k ≤ t
    · rw [if_pos (nI_le h1 (by omega))]
      exact ⟨r, rfl, by have e : t = k := by omega
                        rw [e] at hr; exact hr⟩
    · obtain ⟨hP1, hP2⟩ := hP t (by omega)
      rw [if_neg (nI_ge (by omega) (by omega)), og_nI (by omega) (by omega), nI_clamp (by omega), hP1, powerR hT (by omega) hn hP2, ob1E, ix5, og_nI (by omega) (by omega), nmE, nmE, nI_clamp (by omega), nI_1]
      refine ih (t + 1) _ (by omega) (by omega) (fun i c hi hc hkc hw => ?_)
      by_cases q : 5 * i + c = 5 * j + t
      · have q1 : i = j := by omega
        have q2 : c = t := by omega
        rw [q, pk_us, q1, q2]
        unfold A0
        rw [if_pos (by omega), xp_gp]
      · rw [pk_un q]
        exact hr i c hi hc hkc (by omega)
theorem fmOut {jj : (Nat → Int32) → Option (Int32 × (Nat → Int32) × (Nat → Int32))} {pwr lg : Nat → Int32} (hT : TabF pwr lg) {n k : Nat} {P S : Nat → Nat} {places syn : Nat → Int32} (hn : n ≤ 32) (hk : k ≤ 4) (hP : ∀ t, t < k → places t = nI (P t) ∧ P t < n) (hs : ∀ t, t < 4 → syn t = nI (S t)) : ∀ (F j : Nat) (r : Nat → Int32), j ≤ 4 → 4 - j < F → FM k r (A0 (fun t => gp (n - 1 - P t)) S k) j 0 →
    ∃ r', fX10_fits_L2 jj syn (nI k) pwr (nI n) places F (nI j) r = jj r' ∧ RM k r' (A0 (fun t => gp (n - 1 - P t)) S k) := by
  intro F
  induction F with
  | zero => intro j r _ h; omega
  | succ F ih =>
    intro j r hj hF hr
    rw [fX10_fits_L2.eq_2]
    by_cases h1 : 4 ≤ j
    · rw [if_pos (show (4 : Int32) ≤ nI j from nI_le (a := 4) h1 (by omega))]
      exact ⟨r, rfl, fun i c hi hc hkc => hr i c hi hc hkc (by omega)⟩
    · rw [if_neg (show ¬ (4 : Int32) ≤ nI j from nI_ge (b := 4) (by omega) (by omega))]
      simp only [jkE, nmE]
      obtain ⟨r1, g1, g2⟩ := fmIn (jj := fun v_rows_96 => og (ixb (nI j) 4) (og (ixb (((5 : Int32) * nI j) + (4 : Int32)) 20) (fX10_fits_L2 jj syn (nI k) pwr (nI n) places F (nI j + 1) (upd v_rows_96 (Int32.toNatClampNeg (((5 : Int32) * nI j) + (4 : Int32))) (syn (Int32.toNatClampNeg (nI j))))))) hT (S := S) hn hk (show j < 4 from by omega) hP FU 0 r (by omega) (by rw [FU_eq]; omega) hr
      have g1' : fX10_fits_L10 (nI k) (fun v_rows_96 => og (ixb (nI j) 4) (og (ixb (((5 : Int32) * nI j) + (4 : Int32)) 20) (fX10_fits_L2 jj syn (nI k) pwr (nI n) places F (nI j + 1) (upd v_rows_96 (Int32.toNatClampNeg (((5 : Int32) * nI j) + (4 : Int32))) (syn (Int32.toNatClampNeg (nI j))))))) pwr (nI j) (nI n) places FU 0 r = _ := g1
      rw [g1', show (5 : Int32) * nI j + (4 : Int32) = nI (5 * j + 4) from ix5 j 4, og_nI (by omega) (by omega), og_nI (by omega) (by omega), nI_clamp (by omega), nI_clamp (by omega), nI_1, hs j (by omega)]
      refine ih (j + 1) _ (by omega) (by omega) (fun i c hi hc hkc hw => ?_)
      by_cases q : 5 * i + c = 5 * j + 4
      · have q1 : i = j := by omega
        have q2 : c = 4 := by omega
        rw [q, pk_us, q1, q2]
        unfold A0
        rw [if_neg (by omega), if_pos rfl]
      · rw [pk_un q]
        exact g2 i c hi hc hkc (by omega)
theorem goodL {jj : Int32 → Option (Int32 × (Nat → Int32) × (Nat → Int32))} {k : Nat} {r : Nat → Int32} {A : Nat → Nat → Nat} (hA : ∀ j c, A j c < 256) (hr : RM k r A) : ∀ (F j : Nat) (g : Bool), j ≤ 4 → 4 - j < F → ∃ g' : Bool, fX10_fits_L320 jj r F (nI j) (b01 g) = jj (b01 g') ∧ (g' = true ↔ (g = true ∧ ∀ i, j ≤ i → i < 4 → A i 4 = 0)) := by
  intro F
  induction F with
  | zero => intro j g _ h; omega
  | succ F ih =>
    intro j g hj hF
    rw [fX10_fits_L320.eq_2]
    by_cases h1 : 4 ≤ j
    · rw [if_pos (show (4 : Int32) ≤ nI j from nI_le (a := 4) h1 (by omega))]
      exact ⟨g, rfl, ⟨fun w => ⟨w, fun i w1 w2 => by omega⟩, fun w => w.1⟩⟩
    · rw [if_neg (show ¬ (4 : Int32) ≤ nI j from nI_ge (b := 4) (by omega) (by omega))]
      simp only [jkE, nmE]
      rw [nI_1, show (5 : Int32) * nI j + (4 : Int32) = nI (5 * j + 4) from ix5 j 4, og_nI (by omega) (by omega), nI_clamp (by omega), hr j 4 (by omega) (by omega) (Or.inr rfl)]
      have ha := hA j 4
      have hf : (g = false ∨ A j 4 ≠ 0) → ∃ g' : Bool, fX10_fits_L320 jj r F (nI (j + 1)) 0 = jj (b01 g') ∧ (g' = true ↔ (g = true ∧ ∀ i, j ≤ i → i < 4 → A i 4 = 0)) := fun hw => by
        obtain ⟨g', w1, w2⟩ := ih (j + 1) false (by omega) (by omega)
        refine ⟨g', w1, ⟨fun z => ?_, fun z => ?_⟩⟩
        · exact absurd (w2.mp z).1 (by decide)
        · rcases hw with hw | hw
          · rw [hw] at z; exact absurd z.1 (by decide)
          · exact absurd (z.2 j (by omega) (by omega)) hw
      cases g with
      | false =>
        rw [if_pos (show b01 false = (0 : Int32) from rfl)]
        exact hf (Or.inl rfl)
      | true =>
        rw [if_neg (show ¬ b01 true = (0 : Int32) from by decide)]
        by_cases h2 : A j 4 = 0
        · rw [if_pos (by rw [h2]; rfl)]
          obtain ⟨g', w1, w2⟩ := ih (j + 1) true (by omega) (by omega)
          refine ⟨g', w1, ⟨fun z => ⟨rfl, fun i i1 i2 => ?_⟩, fun z => ?_⟩⟩
          · by_cases w : i = j
            · rw [w]; exact h2
            · exact (w2.mp z).2 i (by omega) i2
          · exact w2.mpr ⟨rfl, fun i i1 i2 => z.2 i (by omega) i2⟩
        · rw [if_neg (nI_ne0 (by omega) (by omega))]
          exact hf (Or.inr h2)
theorem valL {k : Nat} {g : Bool} {r : Nat → Int32} {A : Nat → Nat → Nat} (hk : k ≤ 4) (hr : RM k r A) : ∀ (F t : Nat) (v : Nat → Int32), t ≤ k → k - t < F → (∀ s, s < t → v s = nI (A s 4)) → ∃ v', fX10_fits_L359 (nI k) (b01 g) r F (nI t) v = some (b01 g, r, v') ∧ ∀ s, s < k → v' s = nI (A s 4) := by
  intro F
  induction F with
  | zero => intro t v _ h; omega
  | succ F ih =>
    intro t v ht hF hv
    rw [fX10_fits_L359.eq_2]
    by_cases h1 : k ≤ t
    · rw [if_pos (nI_le h1 (by omega)), og_t (show zb (b01 g) = true from by cases g <;> rfl)]
      exact ⟨v, rfl, fun s hs => hv s (by omega)⟩
    · rw [if_neg (nI_ge (by omega) (by omega)), show (5 : Int32) * nI t + (4 : Int32) = nI (5 * t + 4) from ix5 t 4, og_nI (by omega) (by omega), og_nI (by omega) (by omega), nmE, nmE, nI_clamp (by omega), nI_clamp (by omega), nI_1, hr t 4 (by omega) (by omega) (Or.inr rfl)]
      refine ih (t + 1) _ (by omega) (by omega) (fun s hs => ?_)
      by_cases q : s = t
      · rw [q, pk_us]
      · rw [pk_un q]; exact hv s (by omega)
theorem X_ne {n k : Nat} {P : Nat → Nat} (hn : n ≤ 32) (hP : ∀ t, t < k → P t < n) (hd : ∀ a b, a < k → b < k → a ≠ b → P a ≠ P b) : ∀ a b, a < k → b < k → a ≠ b → (fun t => gp (n - 1 - P t)) a ≠ (fun t => gp (n - 1 - P t)) b := fun a b ha hb hab w => by
  have w2 : gl (gp (n - 1 - P a)) = gl (gp (n - 1 - P b)) := congrArg gl w
  have h1 := hP a ha
  have h2 := hP b hb
  rw [gl_gp0 _ (by omega), gl_gp0 _ (by omega)] at w2
  exact hd a b ha hb hab (by omega)
theorem fits_eq {pwr lg : Nat → Int32} (hT : TabF pwr lg) {n k : Nat} {P S : Nat → Nat} {places syn : Nat → Int32} (rows vals : Nat → Int32) (hn : n ≤ 32) (hk : k ≤ 4) (hP : ∀ t, t < k → places t = nI (P t) ∧ P t < n) (hd : ∀ a b, a < k → b < k → a ≠ b → P a ≠ P b) (hs : ∀ t, t < 4 → syn t = nI (S t)) (hS : ∀ t, S t < 256) :
    ∃ (g : Bool) (r' v' : Nat → Int32), fX10_fits lg places pwr rows syn vals (nI n) (nI k) = some (b01 g, r', v') ∧ (g = true → ∃ e : Nat → Nat, (∀ t, e t < 256) ∧ Sol S e (fun t => gp (n - 1 - P t)) k ∧ ∀ t, t < k → v' t = nI (e t)) ∧ ((∃ e : Nat → Nat, (∀ t, e t < 256) ∧ Sol S e (fun t => gp (n - 1 - P t)) k) → g = true) := by
  unfold fX10_fits
  simp only [jkE]
  have hX : ∀ t, (fun t => gp (n - 1 - P t)) t < 256 := fun t => gp_lt _
  have hdX := X_ne hn (fun t ht => (hP t ht).2) hd
  obtain ⟨r1, a1, a2⟩ := fmOut (jj := fun v_rows_1 => fX10_fits_L70 (nI k) (fun v_rows_3 => fX10_fits_L320 (fun x3_5 => fX10_fits_L359 (nI k) x3_5 v_rows_3 FU 0 vals) v_rows_3 FU (nI k) 1) vals lg pwr FU 0 v_rows_1) hT (S := S) hn hk hP hs FU 0 rows (by omega) (by rw [FU_eq]; omega) (fun i c hi hc hkc hw => by omega)
  have a1' : fX10_fits_L2 (fun v_rows_1 => fX10_fits_L70 (nI k) (fun v_rows_3 => fX10_fits_L320 (fun x3_5 => fX10_fits_L359 (nI k) x3_5 v_rows_3 FU 0 vals) v_rows_3 FU (nI k) 1) vals lg pwr FU 0 v_rows_1) syn (nI k) pwr (nI n) places FU 0 rows = _ := a1
  rw [a1']
  generalize (fun t => gp (n - 1 - P t)) = X at *
  obtain ⟨r2, A, b1, b2, b3, b4, b5⟩ := mainL (jj := fun v_rows_3 => fX10_fits_L320 (fun x3_5 => fX10_fits_L359 (nI k) x3_5 v_rows_3 FU 0 vals) v_rows_3 FU (nI k) 1) (vl := vals) hT hk hX hdX FU 0 r1 (A0 X S k) (by omega) (by rw [FU_eq]; omega) a2 (A0_lt hS) (fun e he => Iff.rfl) (fun c hc => by omega)
  have b1' : fX10_fits_L70 (nI k) (fun v_rows_3 => fX10_fits_L320 (fun x3_5 => fX10_fits_L359 (nI k) x3_5 v_rows_3 FU 0 vals) v_rows_3 FU (nI k) 1) vals lg pwr FU 0 r1 = _ := b1
  rw [b1']
  obtain ⟨g, c1, c2⟩ := goodL (jj := fun x3_5 => fX10_fits_L359 (nI k) x3_5 r2 FU 0 vals) b3 b2 FU k true hk (by rw [FU_eq]; omega)
  have c1' : fX10_fits_L320 (fun x3_5 => fX10_fits_L359 (nI k) x3_5 r2 FU 0 vals) r2 FU (nI k) 1 = _ := c1
  rw [c1']
  obtain ⟨v', d1, d2⟩ := valL (g := g) hk b2 FU 0 vals (by omega) (by rw [FU_eq]; omega) (fun s hs => by omega)
  refine ⟨g, r2, v', d1, fun hg => ?_, fun he => ?_⟩
  · have hz := (c2.mp hg).2
    let e : Nat → Nat := fun c => if c < k then A c 4 else if c = 4 then 1 else 0
    have he : ∀ c, e c < 256 := fun c => by
      show (if c < k then A c 4 else if c = 4 then 1 else 0) < 256
      by_cases q : c < k
      · rw [if_pos q]; exact b3 _ _
      · rw [if_neg q]
        by_cases q2 : c = 4
        · rw [if_pos q2]; omega
        · rw [if_neg q2]; omega
    have e4 : e 4 = 1 := by
      show (if 4 < k then A 4 4 else if 4 = 4 then 1 else 0) = 1
      rw [if_neg (by omega), if_pos rfl]
    have ec : ∀ c, c < k → e c = A c 4 := fun c hc => if_pos hc
    have hl : ∀ j, j < 4 → lr k (A j) e = 0 := fun j hj => by
      unfold lr
      rw [e4, gm_comm (A j 4) 1, gm_1 (b3 _ _)]
      by_cases q : j < k
      · rw [xs_one (s := j) k q (fun c hc hcj => by rw [b5 c hc j hj, if_neg (fun w => hcj w.symm), gm_0l]), b5 j q j hj, if_pos rfl, ec j q, gm_1 (b3 _ _), Nat.xor_self]
      · rw [hz j (by omega) hj, xs_zero k (fun c hc => by rw [b5 c hc j hj, if_neg (by omega), gm_0l]), Nat.xor_self]
    have hl0 := (b4 e he).mp hl
    refine ⟨e, he, fun j hj => ?_, fun t ht => by rw [d2 t ht, ec t ht]⟩
    have := hl0 j hj
    rw [lr_A0 hk, e4, gm_comm (S j) 1, gm_1 (hS j)] at this
    exact (xor_0 this).symm
  · obtain ⟨e0, he0, hsol⟩ := he
    refine c2.mpr ⟨rfl, fun i i1 i2 => ?_⟩
    let e : Nat → Nat := fun c => if c = 4 then 1 else e0 c
    have he : ∀ c, e c < 256 := fun c => by
      show (if c = 4 then 1 else e0 c) < 256
      by_cases q : c = 4
      · rw [if_pos q]; omega
      · rw [if_neg q]; exact he0 c
    have e4 : e 4 = 1 := if_pos rfl
    have hl : ∀ j, j < 4 → lr k (A0 X S k j) e = 0 := fun j hj => by
      rw [lr_A0 hk, e4, gm_comm (S j) 1, gm_1 (hS j), hsol j hj]
      have : ss e X k j = ss e0 X k j := xs_congr k (fun c hc => by show gm (if c = 4 then 1 else e0 c) _ = _; rw [if_neg (by omega)])
      rw [this, Nat.xor_self]
    have := (b4 e he).mpr hl i i2
    unfold lr at this
    rw [e4, gm_comm (A i 4) 1, gm_1 (b3 _ _), xs_zero k (fun c hc => by rw [b5 c hc i i2, if_neg (by omega), gm_0l]), Nat.zero_xor] at this
    exact this
theorem chL {n k : Nat} {W P E : Nat → Nat} {places vals : Nat → Int32} (hn : n ≤ 32) (hk : k ≤ 4) (hP : ∀ t, t < k → places t = nI (P t) ∧ P t < n) (hv : ∀ t, t < k → vals t = nI (E t)) : ∀ (F t : Nat) (w : Nat → Int32), t ≤ k → k - t < F → (∀ i, i < n → w i = nI (upW W P E t i)) →
    ∃ w', fX10_changed_L2 (nI k) places vals F (nI t) w = some (nI k, w') ∧ (∀ i, i < n → w' i = nI (upW W P E k i)) ∧ ∀ i, n ≤ i → w' i = w i := by
  intro F
  induction F with
  | zero => intro t w _ h; omega
  | succ F ih =>
    intro t w ht hF hw
    rw [fX10_changed_L2.eq_2]
    by_cases h1 : k ≤ t
    · rw [if_pos (nI_le h1 (by omega))]
      exact ⟨w, rfl, by have e : t = k := by omega
                        rw [e] at hw; exact hw, fun i _ => rfl⟩
    · obtain ⟨hP1, hP2⟩ := hP t (by omega)
      rw [if_neg (nI_ge (by omega) (by omega)), og_nI (by omega) (by omega), og_nI (by omega) (by omega), nI_clamp (n := t) (by omega), hP1, og_nI (by omega) (by omega), og_nI (by omega) (by omega), og_nI (by omega) (by omega), nmE, nmE, nI_clamp (by omega), hw (P t) hP2, hv t (by omega), nx_xor, nI_1]
      obtain ⟨w', g1, g2, g3⟩ := ih (t + 1) (upd w (P t) (nI (upW W P E t (P t) ^^^ E t))) (by omega) (by omega) (fun i hi => by
        rw [upW_s]
        by_cases q : i = P t
        · rw [if_pos q, q, pk_us]
        · rw [if_neg q, pk_un q]; exact hw i hi)
      refine ⟨w', g1, g2, fun i hi => ?_⟩
      rw [g3 i hi, pk_un (by omega)]
/-- the places of the true ones, in their order -/
def mP (M : Nat → Bool) : Nat → Nat → Nat
  | 0 => fun _ => 0
  | i + 1 => if M i then (fun t => if t = pop M i then i else mP M i t) else mP M i
theorem mP_s (M : Nat → Bool) (i : Nat) : mP M (i + 1) = if M i then (fun t => if t = pop M i then i else mP M i t) else mP M i := rfl
theorem mP_ok (M : Nat → Bool) : ∀ i t, t < pop M i → mP M i t < i ∧ M (mP M i t) = true
  | 0, t, h => by exact absurd h (Nat.not_lt_zero t)
  | i + 1, t, h => by
    have h' : t < pop M i + (M i).toNat := h
    rw [mP_s]
    cases hM : M i with
    | false =>
      rw [hM] at h'
      have := mP_ok M i t h'
      simp only [Bool.false_eq_true, if_false]
      exact ⟨by omega, this.2⟩
    | true =>
      rw [hM] at h'
      simp only [if_true]
      by_cases q : t = pop M i
      · rw [if_pos q]; exact ⟨by omega, hM⟩
      · rw [if_neg q]
        have := mP_ok M i t (by have : t < pop M i + 1 := h'; omega)
        exact ⟨by omega, this.2⟩
theorem mP_mono (M : Nat → Bool) : ∀ i a b, a < b → b < pop M i → mP M i a < mP M i b
  | 0, a, b, _, h => by exact absurd h (Nat.not_lt_zero b)
  | i + 1, a, b, hab, h => by
    have h' : b < pop M i + (M i).toNat := h
    rw [mP_s]
    cases hM : M i with
    | false =>
      rw [hM] at h'
      simp only [Bool.false_eq_true, if_false]
      exact mP_mono M i a b hab h'
    | true =>
      rw [hM] at h'
      have h2 : b < pop M i + 1 := h'
      simp only [if_true]
      rw [if_neg (show ¬ a = pop M i from by omega)]
      by_cases q : b = pop M i
      · rw [if_pos q]; exact (mP_ok M i a (by omega)).1
      · rw [if_neg q]; exact mP_mono M i a b hab (by omega)
theorem mP_ne {M : Nat → Bool} {i a b : Nat} (ha : a < pop M i) (hb : b < pop M i) (h : a ≠ b) : mP M i a ≠ mP M i b := by
  rcases Nat.lt_or_gt_of_ne h with w | w
  · have := mP_mono M i a b w hb; omega
  · have := mP_mono M i b a w ha; omega
