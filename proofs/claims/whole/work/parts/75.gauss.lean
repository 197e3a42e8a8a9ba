/-! ===== the reference's elimination ===== -/
def lr (k : Nat) (row e : Nat → Nat) : Nat := xs (fun c => gm (row c) (e c)) k ^^^ gm (row 4) (e 4)
theorem lr_lt (k : Nat) (row e : Nat → Nat) : lr k row e < 256 := x_lt (xs_lt k (fun _ _ => gm_lt _ _)) (gm_lt _ _)
theorem lr_gm {k y : Nat} {row e : Nat → Nat} (hy : y < 256) (hr : ∀ c, row c < 256) (he : ∀ c, e c < 256) : lr k (fun c => gm (row c) y) e = gm (lr k row e) y := by
  unfold lr
  rw [gm_xor (xs_lt k (fun _ _ => gm_lt _ _)) (gm_lt _ _) hy, xs_gm hy k (fun _ _ => gm_lt _ _)]
  rw [xs_congr k (fun c _ => gm_mid (hr c) (he c) hy), gm_mid (hr 4) (he 4) hy]
theorem lr_xor {k : Nat} {r s e : Nat → Nat} (hr : ∀ c, r c < 256) (hs : ∀ c, s c < 256) (he : ∀ c, e c < 256) : lr k (fun c => r c ^^^ s c) e = lr k r e ^^^ lr k s e := by
  unfold lr
  rw [xs_congr k (fun c _ => gm_xor (hr c) (hs c) (he c)), xs_xor, gm_xor (hr 4) (hs 4) (he 4), xor_4]
/-- the same solutions -/
def EQ (k : Nat) (A B : Nat → Nat → Nat) : Prop := ∀ e : Nat → Nat, (∀ c, e c < 256) → ((∀ j, j < 4 → lr k (A j) e = 0) ↔ ∀ j, j < 4 → lr k (B j) e = 0)
def RM (k : Nat) (r : Nat → Int32) (A : Nat → Nat → Nat) : Prop := ∀ j c, j < 4 → c < 5 → (c < k ∨ c = 4) → r (5 * j + c) = nI (A j c)
theorem ix5 (j c : Nat) : (5 : Int32) * nI j + nI c = nI (5 * j + c) := by rw [show (5 : Int32) * nI j = nI (5 * j) from pk_mul 5 j, nI_add]
def swM (A : Nat → Nat → Nat) (a b : Nat) : Nat → Nat → Nat := fun j => if j = a then A b else if j = b then A a else A j
def scM (A : Nat → Nat → Nat) (t y : Nat) : Nat → Nat → Nat := fun j c => if j = t then gm (A t c) y else A j c
def elM (A : Nat → Nat → Nat) (t i : Nat) : Nat → Nat → Nat := fun j c => if j < i ∧ j ≠ t then A j c ^^^ gm (A t c) (A j t) else A j c
def scP (A : Nat → Nat → Nat) (t y c : Nat) : Nat → Nat → Nat := fun j d => if j = t ∧ d < c then gm (A t d) y else A j d
def elP (A : Nat → Nat → Nat) (t i y c : Nat) : Nat → Nat → Nat := fun j d => if j = i ∧ d < c then A i d ^^^ gm (A t d) y else A j d
theorem scP_1 {A : Nat → Nat → Nat} {t y c j d : Nat} (h : j = t ∧ d < c) : scP A t y c j d = gm (A t d) y := if_pos h
theorem scP_0 {A : Nat → Nat → Nat} {t y c j d : Nat} (h : ¬ (j = t ∧ d < c)) : scP A t y c j d = A j d := if_neg h
theorem elP_1 {A : Nat → Nat → Nat} {t i y c j d : Nat} (h : j = i ∧ d < c) : elP A t i y c j d = A i d ^^^ gm (A t d) y := if_pos h
theorem elP_0 {A : Nat → Nat → Nat} {t i y c j d : Nat} (h : ¬ (j = i ∧ d < c)) : elP A t i y c j d = A j d := if_neg h
theorem scM_1 {A : Nat → Nat → Nat} {t y j d : Nat} (h : j = t) : scM A t y j d = gm (A t d) y := if_pos h
theorem scM_0 {A : Nat → Nat → Nat} {t y j d : Nat} (h : ¬ j = t) : scM A t y j d = A j d := if_neg h
theorem elM_1 {A : Nat → Nat → Nat} {t i j d : Nat} (h : j < i ∧ j ≠ t) : elM A t i j d = A j d ^^^ gm (A t d) (A j t) := if_pos h
theorem elM_0 {A : Nat → Nat → Nat} {t i j d : Nat} (h : ¬ (j < i ∧ j ≠ t)) : elM A t i j d = A j d := if_neg h
theorem sw_EQ {k a b : Nat} {A : Nat → Nat → Nat} (ha : a < 4) (hb : b < 4) : EQ k (swM A a b) A := fun e he => by
  constructor
  · intro h j hj
    by_cases q1 : j = b
    · have := h a ha
      unfold swM at this
      rw [if_pos rfl] at this
      rw [q1]; exact this
    · by_cases q2 : j = a
      · have := h b hb
        unfold swM at this
        by_cases q3 : b = a
        · rw [if_pos q3] at this; rw [q2, ← q3]; exact this
        · rw [if_neg q3, if_pos rfl] at this; rw [q2]; exact this
      · have := h j hj
        unfold swM at this
        rw [if_neg q2, if_neg q1] at this; exact this
  · intro h j hj
    unfold swM
    by_cases q1 : j = a
    · rw [if_pos q1]; exact h b hb
    · rw [if_neg q1]
      by_cases q2 : j = b
      · rw [if_pos q2]; exact h a ha
      · rw [if_neg q2]; exact h j hj
theorem sc_EQ {k t y : Nat} {A : Nat → Nat → Nat} (ht : t < 4) (hA : ∀ j c, A j c < 256) (hy : y < 256) (h0 : 0 < y) : EQ k (scM A t y) A := fun e he => by
  have e1 : lr k (scM A t y t) e = gm (lr k (A t) e) y := by
    rw [← lr_gm hy (hA t) he]
    unfold scM
    simp only [if_pos]
  have e2 : ∀ j, j ≠ t → scM A t y j = A j := fun j hj => by
    unfold scM
    funext c
    rw [if_neg hj]
  constructor
  · intro h j hj
    by_cases q : j = t
    · have := h t ht
      rw [e1] at this
      rcases gm_eq0 this with w | w
      · rw [q]; exact w
      · omega
    · rw [← e2 j q]; exact h j hj
  · intro h j hj
    by_cases q : j = t
    · rw [q, e1, h t ht, gm_0l]
    · rw [e2 j q]; exact h j hj
theorem el_EQ {k t i : Nat} {A : Nat → Nat → Nat} (ht : t < 4) (hA : ∀ j c, A j c < 256) : EQ k (elM A t i) A := fun e he => by
  have e1 : ∀ j, j < i ∧ j ≠ t → lr k (elM A t i j) e = lr k (A j) e ^^^ gm (lr k (A t) e) (A j t) := fun j hj => by
    rw [← lr_gm (hA j t) (hA t) he, ← lr_xor (hA j) (fun c => gm_lt _ _) he]
    congr 1
    funext c
    unfold elM
    rw [if_pos hj]
  have e2 : ∀ j, ¬ (j < i ∧ j ≠ t) → elM A t i j = A j := fun j hj => by
    unfold elM
    funext c
    rw [if_neg hj]
  have e3 : elM A t i t = A t := e2 t (fun w => w.2 rfl)
  constructor
  · intro h j hj
    by_cases q : j < i ∧ j ≠ t
    · have h1 := h j hj
      have h2 := h t ht
      rw [e3] at h2
      rw [e1 j q, h2, gm_0l, Nat.xor_zero] at h1
      exact h1
    · rw [← e2 j q]; exact h j hj
  · intro h j hj
    by_cases q : j < i ∧ j ≠ t
    · rw [e1 j q, h j hj, h t ht, gm_0l, Nat.xor_self]
    · rw [e2 j q]; exact h j hj
theorem swL {a b : Nat} (ha : a < 4) (hb : b < 4) : ∀ (F c : Nat) (r : Nat → Int32), c ≤ 5 → 5 - c < F → ∃ r', fX10_swapRows_L2 (nI a) (nI b) F (nI c) r = some r' ∧ ∀ j d, j < 4 → d < 5 → r' (5 * j + d) = if c ≤ d then (if j = a then r (5 * b + d) else if j = b then r (5 * a + d) else r (5 * j + d)) else r (5 * j + d) := by
  intro F
  induction F with
  | zero => intro c r _ h; omega
  | succ F ih =>
    intro c r hc hF
    rw [fX10_swapRows_L2.eq_2]
    by_cases h1 : 5 ≤ c
    · rw [if_pos (show (5 : Int32) ≤ nI c from nI_le (a := 5) h1 (by omega))]
      exact ⟨r, rfl, fun j d hj hd => by rw [if_neg (by omega)]⟩
    · rw [if_neg (show ¬ (5 : Int32) ≤ nI c from nI_ge (b := 5) (by omega) (by omega)), ix5, ix5, og_nI (by omega) (by omega), nmE, og_nI (by omega) (by omega), og_nI (by omega) (by omega), nmE, og_nI (by omega) (by omega), nmE, nmE, nI_clamp (by omega), nI_clamp (by omega), nI_1]
      obtain ⟨r', g1, g2⟩ := ih (c + 1) (upd (upd r (5 * a + c) (r (5 * b + c))) (5 * b + c) (r (5 * a + c))) (by omega) (by omega)
      refine ⟨r', g1, fun j d hj hd => ?_⟩
      have k1 : ∀ x, x ≠ 5 * a + c → x ≠ 5 * b + c → upd (upd r (5 * a + c) (r (5 * b + c))) (5 * b + c) (r (5 * a + c)) x = r x := fun x w1 w2 => by rw [pk_un w2, pk_un w1]
      rw [g2 j d hj hd]
      by_cases q1 : c + 1 ≤ d
      · rw [if_pos q1, if_pos (show c ≤ d from by omega), k1 (5 * b + d) (by omega) (by omega), k1 (5 * a + d) (by omega) (by omega), k1 (5 * j + d) (by omega) (by omega)]
      · rw [if_neg q1]
        by_cases q2 : d = c
        · rw [if_pos (show c ≤ d from by omega), q2]
          by_cases q3 : j = b
          · rw [q3, pk_us]
            by_cases q4 : b = a
            · rw [if_pos q4, q4]
            · rw [if_neg q4, if_pos rfl]
          · rw [pk_un (by omega)]
            by_cases q4 : j = a
            · rw [if_pos q4, q4, pk_us]
            · rw [if_neg q4, if_neg q3, pk_un (by omega)]
        · rw [if_neg (show ¬ c ≤ d from by omega), k1 _ (by omega) (by omega)]
theorem sw_eq {k a b : Nat} {r : Nat → Int32} {A : Nat → Nat → Nat} (ha : a < 4) (hb : b < 4) (h : RM k r A) : ∃ r', fX10_swapRows r (nI a) (nI b) = some r' ∧ RM k r' (swM A a b) := by
  unfold fX10_swapRows
  obtain ⟨r', g1, g2⟩ := swL ha hb FU 0 r (by omega) (by rw [FU_eq]; omega)
  refine ⟨r', g1, fun j c hj hc hk => ?_⟩
  rw [g2 j c hj hc, if_pos (by omega)]
  unfold swM
  by_cases q1 : j = a
  · rw [if_pos q1, if_pos q1]; exact h b c hb hc hk
  · rw [if_neg q1, if_neg q1]
    by_cases q2 : j = b
    · rw [if_pos q2, if_pos q2]; exact h a c ha hc hk
    · rw [if_neg q2, if_neg q2]; exact h j c hj hc hk
theorem scL {jj : (Nat → Int32) → Option (Int32 × (Nat → Int32) × (Nat → Int32))} {pwr lg : Nat → Int32} (hT : TabF pwr lg) {k t y : Nat} {A : Nat → Nat → Nat} (hk : k ≤ 4) (ht : t < 4) (hA : ∀ j c, A j c < 256) (hy : y < 256) : ∀ (F c : Nat) (r : Nat → Int32), c ≤ 5 → 5 - c < F → RM k r (scP A t y c) →
    ∃ r', fX10_fits_L138 jj (nI t) lg pwr (nI y) (nI k) F (nI c) r = jj r' ∧ RM k r' (scM A t y) := by
  intro F
  induction F with
  | zero => intro c r _ h; omega
  | succ F ih =>
    intro c r hc hF hr
    rw [fX10_fits_L138.eq_2]
    by_cases h1 : 5 ≤ c
    · rw [if_pos (show (5 : Int32) ≤ nI c from nI_le (a := 5) h1 (by omega))]
      refine ⟨r, rfl, fun j d hj hd hkd => ?_⟩
      rw [hr j d hj hd hkd]
      by_cases q : j = t
      · rw [scP_1 ⟨q, by omega⟩, scM_1 q]
      · rw [scP_0 (fun w => q w.1), scM_0 q]
    · rw [if_neg (show ¬ (5 : Int32) ≤ nI c from nI_ge (b := 5) (by omega) (by omega)), ix5]
      simp only [jkE, nmE]
      have step : ∀ v : Int32, ((c < k ∨ c = 4) → v = nI (gm (A t c) y)) → ∃ r', og (ixb (nI (5 * t + c)) 20) (fX10_fits_L138 jj (nI t) lg pwr (nI y) (nI k) F (nI c + 1) (upd r (Int32.toNatClampNeg (nI (5 * t + c))) v)) = jj r' ∧ RM k r' (scM A t y) := fun v hv => by
        rw [og_nI (by omega) (by omega), nI_clamp (by omega), nI_1]
        refine ih (c + 1) _ (by omega) (by omega) (fun j d hj hd hkd => ?_)
        by_cases q : 5 * j + d = 5 * t + c
        · have q1 : j = t := by omega
          have q2 : d = c := by omega
          rw [q, pk_us, scP_1 ⟨q1, by omega⟩, q2]
          exact hv (by rw [← q2]; exact hkd)
        · rw [pk_un q, hr j d hj hd hkd]
          by_cases q3 : j = t ∧ d < c
          · rw [scP_1 q3, scP_1 ⟨q3.1, by omega⟩]
          · rw [scP_0 q3, scP_0 (fun w => q3 ⟨w.1, by have := w.1; have := w.2; omega⟩)]
      have body : (c < k ∨ c = 4) → ∃ r', og (ixb (nI (5 * t + c)) 20) (ob1 (fX10_times lg pwr (r (Int32.toNatClampNeg (nI (5 * t + c)))) (nI y)) fun r_82 => og (ixb (nI (5 * t + c)) 20) (fX10_fits_L138 jj (nI t) lg pwr (nI y) (nI k) F (nI c + 1) (upd r (Int32.toNatClampNeg (nI (5 * t + c))) r_82))) = jj r' ∧ RM k r' (scM A t y) := fun hkc => by
        have hrc := hr t c ht (by omega) hkc
        rw [scP_0 (fun w => by omega)] at hrc
        rw [og_nI (by omega) (by omega), nI_clamp (by omega), hrc, timesR hT (hA _ _) hy, ob1E]
        have := step (nI (gm (A t c) y)) (fun _ => rfl)
        rw [nI_clamp (by omega)] at this
        exact this
      by_cases h2 : c < k
      · rw [if_pos (nI_lt h2 (by omega))]
        exact body (Or.inl h2)
      · rw [if_neg (nI_nlt (by omega) (by omega))]
        by_cases h3 : c = 4
        · rw [if_pos (show nI c = (4 : Int32) from by rw [h3]; rfl)]
          exact body (Or.inr h3)
        · rw [if_neg (show ¬ nI c = (4 : Int32) from fun w => h3 ((nI_eq (b := 4) (by omega) (by omega)).mp w))]
          exact step 0 (fun w => by omega)
theorem elIn {jj : (Nat → Int32) → Option (Int32 × (Nat → Int32) × (Nat → Int32))} {pwr lg : Nat → Int32} (hT : TabF pwr lg) {k t i y : Nat} {A : Nat → Nat → Nat} (hk : k ≤ 4) (ht : t < 4) (hi : i < 4) (hit : i ≠ t) (hA : ∀ j c, A j c < 256) (hy : y < 256) : ∀ (F c : Nat) (r : Nat → Int32), c ≤ 5 → 5 - c < F → RM k r (elP A t i y c) →
    ∃ r', fX10_fits_L233 jj (nI i) (nI t) lg pwr (nI y) (nI k) F (nI c) r = jj r' ∧ RM k r' (elP A t i y 5) := by
  intro F
  induction F with
  | zero => intro c r _ h; omega
  | succ F ih =>
    intro c r hc hF hr
    rw [fX10_fits_L233.eq_2]
    by_cases h1 : 5 ≤ c
    · rw [if_pos (show (5 : Int32) ≤ nI c from nI_le (a := 5) h1 (by omega))]
      refine ⟨r, rfl, fun j d hj hd hkd => ?_⟩
      rw [hr j d hj hd hkd]
      by_cases q : j = i
      · rw [elP_1 ⟨q, by omega⟩, elP_1 ⟨q, by omega⟩]
      · rw [elP_0 (fun w => q w.1), elP_0 (fun w => q w.1)]
    · rw [if_neg (show ¬ (5 : Int32) ≤ nI c from nI_ge (b := 5) (by omega) (by omega)), ix5, ix5]
      simp only [jkE, nmE]
      rw [og_nI (by omega) (by omega)]
      have step : ∀ v : Int32, ((c < k ∨ c = 4) → r (5 * i + c) ^^^ v = nI (A i c ^^^ gm (A t c) y)) → ∃ r', og (ixb (nI (5 * i + c)) 20) (fX10_fits_L233 jj (nI i) (nI t) lg pwr (nI y) (nI k) F (nI c + 1) (upd r (Int32.toNatClampNeg (nI (5 * i + c))) (r (Int32.toNatClampNeg (nI (5 * i + c))) ^^^ v))) = jj r' ∧ RM k r' (elP A t i y 5) := fun v hv => by
        rw [og_nI (by omega) (by omega), nI_clamp (by omega), nI_1]
        refine ih (c + 1) _ (by omega) (by omega) (fun j d hj hd hkd => ?_)
        by_cases q : 5 * j + d = 5 * i + c
        · have q1 : j = i := by omega
          have q2 : d = c := by omega
          rw [q, pk_us, elP_1 ⟨q1, by omega⟩, q2]
          exact hv (by rw [← q2]; exact hkd)
        · rw [pk_un q, hr j d hj hd hkd]
          by_cases q3 : j = i ∧ d < c
          · rw [elP_1 q3, elP_1 ⟨q3.1, by omega⟩]
          · rw [elP_0 q3, elP_0 (fun w => q3 ⟨w.1, by have := w.1; have := w.2; omega⟩)]
      have body : (c < k ∨ c = 4) → ∃ r', og (ixb (nI (5 * t + c)) 20) (ob1 (fX10_times lg pwr (r (Int32.toNatClampNeg (nI (5 * t + c)))) (nI y)) fun r_67 => og (ixb (nI (5 * i + c)) 20) (fX10_fits_L233 jj (nI i) (nI t) lg pwr (nI y) (nI k) F (nI c + 1) (upd r (Int32.toNatClampNeg (nI (5 * i + c))) (r (Int32.toNatClampNeg (nI (5 * i + c))) ^^^ r_67)))) = jj r' ∧ RM k r' (elP A t i y 5) := fun hkc => by
        have hrc := hr t c ht (by omega) hkc
        rw [elP_0 (fun w => hit w.1.symm)] at hrc
        have hri := hr i c hi (by omega) hkc
        rw [elP_0 (fun w => by omega)] at hri
        rw [og_nI (by omega) (by omega), nI_clamp (n := 5 * t + c) (by omega), hrc, timesR hT (hA _ _) hy, ob1E]
        exact step (nI (gm (A t c) y)) (fun _ => by rw [hri, nx_xor])
      by_cases h2 : c < k
      · rw [if_pos (nI_lt h2 (by omega))]
        exact body (Or.inl h2)
      · rw [if_neg (nI_nlt (by omega) (by omega))]
        by_cases h3 : c = 4
        · rw [if_pos (show nI c = (4 : Int32) from by rw [h3]; rfl)]
          exact body (Or.inr h3)
        · rw [if_neg (show ¬ nI c = (4 : Int32) from fun w => h3 ((nI_eq (b := 4) (by omega) (by omega)).mp w))]
          exact step 0 (fun w => by omega)
theorem elL {jj : (Nat → Int32) → Option (Int32 × (Nat → Int32) × (Nat → Int32))} {pwr lg : Nat → Int32} (hT : TabF pwr lg) {k t : Nat} {A : Nat → Nat → Nat} (hk : k ≤ 4) (ht : t < k) (hA : ∀ j c, A j c < 256) : ∀ (F i : Nat) (r : Nat → Int32), i ≤ 4 → 4 - i < F → RM k r (elM A t i) →
    ∃ r', fX10_fits_L197 jj (nI t) lg pwr (nI k) F (nI i) r = jj r' ∧ RM k r' (elM A t 4) := by
  intro F
  induction F with
  | zero => intro i r _ h; omega
  | succ F ih =>
    intro i r hi hF hr
    rw [fX10_fits_L197.eq_2]
    by_cases h1 : 4 ≤ i
    · rw [if_pos (show (4 : Int32) ≤ nI i from nI_le (a := 4) h1 (by omega))]
      exact ⟨r, rfl, by rw [show 4 = i from by omega]; exact hr⟩
    · rw [if_neg (show ¬ (4 : Int32) ≤ nI i from nI_ge (b := 4) (by omega) (by omega)), ix5, og_nI (by omega) (by omega)]
      simp only [jkE, nmE]
      have hri := hr i t (by omega) (by omega) (Or.inl ht)
      have e1 : elM A t i i t = A i t := by unfold elM; rw [if_neg (fun w => by omega)]
      rw [e1] at hri
      rw [nI_clamp (by omega), hri, nI_1]
      have same : (∀ c, elM A t (i + 1) i c = A i c) → RM k r (elM A t (i + 1)) := fun hs j c hj hc hkc => by
        rw [hr j c hj hc hkc]
        by_cases q : j = i
        · rw [q, hs c]
          unfold elM
          rw [if_neg (fun w => by omega)]
        · unfold elM
          by_cases q2 : j < i ∧ j ≠ t
          · rw [if_pos q2, if_pos ⟨by omega, q2.2⟩]
          · rw [if_neg q2, if_neg (fun w => q2 ⟨by omega, w.2⟩)]
      by_cases h2 : i = t
      · rw [if_pos (by rw [h2])]
        exact ih (i + 1) r (by omega) (by omega) (same (fun c => by unfold elM; rw [if_neg (fun w => w.2 h2)]))
      · rw [if_neg (fun w => h2 ((nI_eq (by omega) (by omega)).mp w))]
        by_cases h3 : A i t = 0
        · rw [if_pos (by rw [h3]; rfl)]
          exact ih (i + 1) r (by omega) (by omega) (same (fun c => by
            unfold elM
            rw [if_pos ⟨by omega, h2⟩, h3, gm_0, Nat.xor_zero]))
        · have ha := hA i t
          rw [if_neg (nI_ne0 (by omega) (by omega))]
          have et : ∀ d, elM A t i t d = A t d := fun d => by unfold elM; rw [if_neg (fun w => w.2 rfl)]
          have ei : ∀ d, elM A t i i d = A i d := fun d => by unfold elM; rw [if_neg (fun w => by omega)]
          have hel : ∀ j c, elM A t i j c < 256 := fun j c => by
            unfold elM
            by_cases q : j < i ∧ j ≠ t
            · rw [if_pos q]; exact x_lt (hA _ _) (gm_lt _ _)
            · rw [if_neg q]; exact hA _ _
          obtain ⟨r2, g1, g2⟩ := elIn (jj := fun v_rows_50 => fX10_fits_L197 jj (nI t) lg pwr (nI k) F (nI (i + 1)) v_rows_50) hT (A := elM A t i) hk (by omega) (show i < 4 from by omega) h2 hel (hA i t) FU 0 r (by omega) (by rw [FU_eq]; omega) (fun j c hj hc hkc => by
            rw [elP_0 (fun w => by omega)]; exact hr j c hj hc hkc)
          have g1' : fX10_fits_L233 (fun v_rows_50 => fX10_fits_L197 jj (nI t) lg pwr (nI k) F (nI (i + 1)) v_rows_50) (nI i) (nI t) lg pwr (nI (A i t)) (nI k) FU 0 r = _ := g1
          rw [g1']
          refine ih (i + 1) r2 (by omega) (by omega) (fun j c hj hc hkc => ?_)
          rw [g2 j c hj hc hkc]
          by_cases q : j = i
          · rw [elP_1 ⟨q, hc⟩, ei, et, q, elM_1 ⟨by omega, h2⟩]
          · rw [elP_0 (fun w => q w.1)]
            unfold elM
            by_cases q2 : j < i ∧ j ≠ t
            · rw [if_pos q2, if_pos ⟨by omega, q2.2⟩]
            · rw [if_neg q2, if_neg (fun w => q2 ⟨by omega, w.2⟩)]
theorem pivL {jj : Int32 → Option (Int32 × (Nat → Int32) × (Nat → Int32))} {k t : Nat} {r : Nat → Int32} {A : Nat → Nat → Nat} (ht : t < k) (hk : k ≤ 4) (hA : ∀ j c, A j c < 256) (hr : RM k r A) : ∀ (F p : Nat), p ≤ 4 → 4 - p < F → (∀ q, t ≤ q → q < p → A q t = 0) →
    ∃ p', p ≤ p' ∧ p' ≤ 4 ∧ fX10_fits_L78 jj (nI t) r F (nI p) = jj (nI p') ∧ (p' < 4 → 0 < A p' t) ∧ ∀ q, t ≤ q → q < p' → A q t = 0 := by
  intro F
  induction F with
  | zero => intro p _ h; omega
  | succ F ih =>
    intro p hp hF hz
    rw [fX10_fits_L78.eq_2]
    by_cases h1 : 4 ≤ p
    · rw [if_pos (show (4 : Int32) ≤ nI p from nI_le (a := 4) h1 (by omega))]
      exact ⟨p, by omega, hp, rfl, fun w => by omega, hz⟩
    · rw [if_neg (show ¬ (4 : Int32) ≤ nI p from nI_ge (b := 4) (by omega) (by omega)), ix5, og_nI (by omega) (by omega), nI_clamp (by omega), hr p t (by omega) (by omega) (Or.inl ht)]
      have ha := hA p t
      by_cases h2 : A p t = 0
      · rw [if_pos (by rw [h2]; rfl), nmE, nI_1]
        obtain ⟨p', g0, g1, g2, g3, g4⟩ := ih (p + 1) (by omega) (by omega) (fun q q1 q2 => by
          by_cases w : q = p
          · rw [w]; exact h2
          · exact hz q q1 (by omega))
        exact ⟨p', by omega, g1, g2, g3, g4⟩
      · rw [if_neg (nI_ne0 (by omega) (by omega))]
        exact ⟨p, by omega, hp, rfl, fun _ => by omega, hz⟩
def A0 (X S : Nat → Nat) (k : Nat) : Nat → Nat → Nat := fun j c => if c < k then xp (X c) j else if c = 4 then S j else 0
theorem A0_lt {X S : Nat → Nat} {k : Nat} (hS : ∀ j, S j < 256) (j c : Nat) : A0 X S k j c < 256 := by
  unfold A0
  by_cases q : c < k
  · rw [if_pos q]; exact xp_lt _ _
  · rw [if_neg q]
    by_cases q2 : c = 4
    · rw [if_pos q2]; exact hS j
    · rw [if_neg q2]; omega
theorem lr_A0 {X S e : Nat → Nat} {k : Nat} (hk : k ≤ 4) (j : Nat) : lr k (A0 X S k j) e = ss e X k j ^^^ gm (S j) (e 4) := by
  unfold lr ss
  congr 1
  · exact xs_congr k (fun c hc => by unfold A0; rw [if_pos hc, gm_comm])
  · unfold A0; rw [if_neg (by omega), if_pos rfl]
/-- a pivot is there -/
theorem piv_ex {X S : Nat → Nat} {k t : Nat} {A : Nat → Nat → Nat} (hk : k ≤ 4) (ht : t < k) (hX : ∀ t, X t < 256) (hd : ∀ a b, a < k → b < k → a ≠ b → X a ≠ X b) (hA : ∀ j c, A j c < 256) (hE : EQ k A (A0 X S k)) (hu : ∀ c, c < t → ∀ j, j < 4 → A j c = if j = c then 1 else 0) (hz : ∀ q, t ≤ q → q < 4 → A q t = 0) : False := by
  let e1 : Nat → Nat := fun c => if c < t then A c t else 0
  let e2 : Nat → Nat := fun c => if c = t then 1 else 0
  have h1 : ∀ c, e1 c < 256 := fun c => by
    show (if c < t then A c t else 0) < 256
    by_cases q : c < t
    · rw [if_pos q]; exact hA _ _
    · rw [if_neg q]; omega
  have h2 : ∀ c, e2 c < 256 := fun c => by
    show (if c = t then 1 else 0) < 256
    by_cases q : c = t
    · rw [if_pos q]; omega
    · rw [if_neg q]; omega
  have hb : ∀ c, e1 c ^^^ e2 c < 256 := fun c => x_lt (h1 c) (h2 c)
  have hlin : ∀ j, j < 4 → lr k (A j) (fun c => e1 c ^^^ e2 c) = 0 := fun j hj => by
    unfold lr
    have e4 : e1 4 ^^^ e2 4 = 0 := by
      show (if 4 < t then A 4 t else 0) ^^^ (if 4 = t then 1 else 0) = 0
      rw [if_neg (by omega), if_neg (by omega), Nat.xor_self]
    rw [show (fun c => e1 c ^^^ e2 c) 4 = 0 from e4, gm_0, Nat.xor_zero, xs_congr k (fun c _ => gm_xor' (h1 c) (h2 c) (hA j c)), xs_xor]
    have s2 : xs (fun c => gm (A j c) (e2 c)) k = A j t := by
      rw [xs_one (s := t) k ht (fun c _ hc => by show gm _ (if c = t then 1 else 0) = 0; rw [if_neg hc, gm_0])]
      show gm _ (if t = t then 1 else 0) = _
      rw [if_pos rfl, gm_comm, gm_1 (hA _ _)]
    have s1 : xs (fun c => gm (A j c) (e1 c)) k = A j t := by
      by_cases q : j < t
      · rw [xs_one (s := j) k (by omega) (fun c _ hc => by
          show gm _ (if c < t then A c t else 0) = 0
          by_cases w : c < t
          · rw [hu c w j hj, if_neg (fun z => hc z.symm), gm_0l]
          · rw [if_neg w, gm_0])]
        show gm _ (if j < t then A j t else 0) = _
        rw [if_pos q, hu j q j hj, if_pos rfl, gm_1 (hA _ _)]
      · rw [hz j (by omega) hj]
        exact xs_zero k (fun c _ => by
          show gm _ (if c < t then A c t else 0) = 0
          by_cases w : c < t
          · rw [hu c w j hj, if_neg (by omega), gm_0l]
          · rw [if_neg w, gm_0])
    rw [s1, s2, Nat.xor_self]
  have hh := (hE _ hb).mp hlin
  have e4 : e1 4 ^^^ e2 4 = 0 := by
    show (if 4 < t then A 4 t else 0) ^^^ (if 4 = t then 1 else 0) = 0
    rw [if_neg (by omega), if_neg (by omega), Nat.xor_self]
  have hs : Sol (fun _ => 0) (fun c => e1 c ^^^ e2 c) X k := fun j hj => by
    have := hh j hj
    rw [lr_A0 hk, e4, gm_0, Nat.xor_zero] at this
    exact this.symm
  have hs0 : Sol (fun _ => 0) (fun _ => 0) X k := fun j hj => by
    unfold ss
    rw [xs_zero k (fun c _ => gm_0l _)]
  have := sol_one hk hX hd hb (fun _ => by show 0 < 256; omega) hs hs0 ht
  have e5 : e1 t ^^^ e2 t = 1 := by
    show (if t < t then A t t else 0) ^^^ (if t = t then 1 else 0) = 1
    rw [if_neg (by omega), if_pos rfl, Nat.zero_xor]
  rw [e5] at this
  omega
theorem mainL {jj : (Nat → Int32) → Option (Int32 × (Nat → Int32) × (Nat → Int32))} {pwr lg vl : Nat → Int32} (hT : TabF pwr lg) {X S : Nat → Nat} {k : Nat} (hk : k ≤ 4) (hX : ∀ t, X t < 256) (hd : ∀ a b, a < k → b < k → a ≠ b → X a ≠ X b) : ∀ (F t : Nat) (r : Nat → Int32) (A : Nat → Nat → Nat), t ≤ k → k - t < F → RM k r A → (∀ j c, A j c < 256) → EQ k A (A0 X S k) → (∀ c, c < t → ∀ j, j < 4 → A j c = if j = c then 1 else 0) →
    ∃ r' A', fX10_fits_L70 (nI k) jj vl lg pwr F (nI t) r = jj r' ∧ RM k r' A' ∧ (∀ j c, A' j c < 256) ∧ EQ k A' (A0 X S k) ∧ ∀ c, c < k → ∀ j, j < 4 → A' j c = if j = c then 1 else 0 := by
  intro F
  induction F with
  | zero => intro t r A _ h; omega
  | succ F ih =>
    intro t r A htk hF hr hA hE hu
    rw [fX10_fits_L70.eq_2]
    by_cases h1 : k ≤ t
    · rw [if_pos (nI_le h1 (by omega))]
      exact ⟨r, A, rfl, hr, hA, hE, by rw [show k = t from by omega]; exact hu⟩
    · rw [if_neg (nI_ge (by omega) (by omega))]
      simp only [jkE, nmE]
      obtain ⟨p, g0, g1, g2, g3, g4⟩ := pivL (jj := fun x4_31 => if x4_31 = (4 : Int32) then some (0, r, vl) else ob1 (fX10_swapRows r x4_31 (nI t)) fun v_rows_34 => og (ixb (((5 : Int32) * nI t) + nI t) 20) (ob1 (fX10_inverse lg pwr (v_rows_34 (Int32.toNatClampNeg (((5 : Int32) * nI t) + nI t)))) fun r_37 => fX10_fits_L138 (fun v_rows_39 => fX10_fits_L197 (fun v_rows_41 => fX10_fits_L70 (nI k) jj vl lg pwr F (nI t + 1) v_rows_41) (nI t) lg pwr (nI k) FU 0 v_rows_39) (nI t) lg pwr r_37 (nI k) FU 0 v_rows_34)) (r := r) (A := A) (t := t) (by omega) hk hA hr FU t (by omega) (by rw [FU_eq]; omega) (fun q q1 q2 => by omega)
      rw [g2]
      have hp : p < 4 := by
        rcases Nat.lt_or_ge p 4 with w | w
        · exact w
        · exact (piv_ex hk (by omega) hX hd hA hE hu (fun q q1 q2 => g4 q q1 (by omega))).elim
      rw [if_neg (show ¬ nI p = (4 : Int32) from fun w => by have := (nI_eq (b := 4) (by omega) (by omega)).mp w; omega)]
      obtain ⟨r1, s1, s2⟩ := sw_eq (a := p) (b := t) hp (by omega) hr
      have hpp := g3 hp
      have hA1 : ∀ j c, swM A p t j c < 256 := fun j c => by
        unfold swM
        by_cases w1 : j = p
        · rw [if_pos w1]; exact hA _ _
        · rw [if_neg w1]
          by_cases w2 : j = t
          · rw [if_pos w2]; exact hA _ _
          · rw [if_neg w2]; exact hA _ _
      have ett : swM A p t t t = A p t := by
        unfold swM
        by_cases w1 : t = p
        · rw [if_pos w1, w1]
        · rw [if_neg w1, if_pos rfl]
      have hu1 : ∀ c, c < t → ∀ j, j < 4 → swM A p t j c = if j = c then 1 else 0 := fun c hc j hj => by
        unfold swM
        by_cases w1 : j = p
        · rw [if_pos w1, hu c hc t (by omega), if_neg (by omega), if_neg (by omega)]
        · rw [if_neg w1]
          by_cases w2 : j = t
          · rw [if_pos w2, hu c hc p hp, if_neg (by omega), if_neg (by omega)]
          · rw [if_neg w2]; exact hu c hc j hj
      have hE1 : EQ k (swM A p t) (A0 X S k) := fun e he => (sw_EQ hp (by omega) e he).trans (hE e he)
      generalize swM A p t = A1 at *
      rw [s1, ob1E, ix5, og_nI (by omega) (by omega), nI_clamp (by omega), s2 t t (by omega) (by omega) (Or.inl (by omega)), ett, invR hT (hA p t) hpp, ob1E]
      rw [← ett] at hpp ⊢
      obtain ⟨r2, u1, u2⟩ := scL (jj := fun v_rows_39 => fX10_fits_L197 (fun v_rows_41 => fX10_fits_L70 (nI k) jj vl lg pwr F (nI t + 1) v_rows_41) (nI t) lg pwr (nI k) FU 0 v_rows_39) hT (k := k) (t := t) (y := gi (A1 t t)) (A := A1) hk (by omega) hA1 (gi_lt _) FU 0 r1 (by omega) (by rw [FU_eq]; omega) (fun j c hj hc hkc => by
        rw [scP_0 (fun w => by omega)]; exact s2 j c hj hc hkc)
      have u1' : fX10_fits_L138 (fun v_rows_39 => fX10_fits_L197 (fun v_rows_41 => fX10_fits_L70 (nI k) jj vl lg pwr F (nI t + 1) v_rows_41) (nI t) lg pwr (nI k) FU 0 v_rows_39) (nI t) lg pwr (nI (gi (A1 t t))) (nI k) FU 0 r1 = _ := u1
      rw [u1']
      have hgi : 0 < gi (A1 t t) := gp_pos _
      have hE2 : EQ k (scM A1 t (gi (A1 t t))) (A0 X S k) := fun e he => (sc_EQ (by omega) hA1 (gi_lt _) hgi e he).trans (hE1 e he)
      have hA2 : ∀ j c, scM A1 t (gi (A1 t t)) j c < 256 := fun j c => by
        unfold scM
        by_cases w1 : j = t
        · rw [if_pos w1]; exact gm_lt _ _
        · rw [if_neg w1]; exact hA1 _ _
      have ett2 : scM A1 t (gi (A1 t t)) t t = 1 := by
        unfold scM
        rw [if_pos rfl, gm_gi (hA1 t t) hpp]
      have hu2 : ∀ c, c < t → ∀ j, j < 4 → scM A1 t (gi (A1 t t)) j c = if j = c then 1 else 0 := fun c hc j hj => by
        unfold scM
        by_cases w1 : j = t
        · rw [if_pos w1, hu1 c hc t (by omega), if_neg (by omega), if_neg (by omega), gm_0l]
        · rw [if_neg w1]; exact hu1 c hc j hj
      generalize scM A1 t (gi (A1 t t)) = A2 at *
      obtain ⟨r3, v1, v2⟩ := elL (jj := fun v_rows_41 => fX10_fits_L70 (nI k) jj vl lg pwr F (nI t + 1) v_rows_41) hT (k := k) (t := t) (A := A2) hk (by omega) hA2 FU 0 r2 (by omega) (by rw [FU_eq]; omega) (fun j c hj hc hkc => by
        rw [u2 j c hj hc hkc]; unfold elM; rw [if_neg (fun w => by omega)])
      have v1' : fX10_fits_L197 (fun v_rows_41 => fX10_fits_L70 (nI k) jj vl lg pwr F (nI t + 1) v_rows_41) (nI t) lg pwr (nI k) FU 0 r2 = _ := v1
      rw [v1', nI_1]
      refine ih (t + 1) r3 (elM A2 t 4) (by omega) (by omega) v2 (fun j c => ?_) (fun e he => (el_EQ (by omega) hA2 e he).trans (hE2 e he)) (fun c hc j hj => ?_)
      · unfold elM
        by_cases w1 : j < 4 ∧ j ≠ t
        · rw [if_pos w1]; exact x_lt (hA2 _ _) (gm_lt _ _)
        · rw [if_neg w1]; exact hA2 _ _
      · unfold elM
        by_cases w1 : j = t
        · rw [if_neg (fun z => z.2 w1)]
          by_cases w2 : c = t
          · rw [w1, w2, ett2, if_pos rfl]
          · exact hu2 c (by omega) j hj
        · rw [if_pos ⟨hj, w1⟩]
          by_cases w2 : c = t
          · rw [w2, ett2, gm_1 (hA2 _ _), Nat.xor_self, if_neg w1]
          · rw [hu2 c (by omega) t (by omega), if_neg (by omega), gm_0l, Nat.xor_zero]
            exact hu2 c (by omega) j hj
