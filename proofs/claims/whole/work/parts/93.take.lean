/-! ===== play: the stream's bytes, counted and heard ===== -/
theorem tkF {f u S : Nat} {c mk oF ou om oT : Nat → Int32} (hf : f ≤ 640) (hu : u < S) (hS : S ≤ 488) (hro : ∀ j, j < f → RO c mk oF ou om oT j) : ∀ (F i a : Nat) (go su : Nat → Int32), i ≤ 28 → 28 - i < F → (∀ t, t < i → ¬ (12 ≤ t ∧ t < 16) → go (24 * u + bA t) = GV c f (24 * u + bA t) ∧ su (24 * u + bA t) = b01 (GS mk f (24 * u + bA t))) →
    ∃ go' su', fX10_takeFrame_L2 (nI u) (nI f) om ou F (nI i) (nI (a + cP (fun o => (!GS mk f (24 * u + o)).toNat) i)) go su = some (nI (a + cP (fun o => (!GS mk f (24 * u + o)).toNat) 28), go', su') ∧ (∀ t, t < 28 → ¬ (12 ≤ t ∧ t < 16) → go' (24 * u + bA t) = GV c f (24 * u + bA t) ∧ su' (24 * u + bA t) = b01 (GS mk f (24 * u + bA t))) ∧ ∀ p, (p < 24 * u ∨ 24 * u + 24 ≤ p) → go' p = go p ∧ su' p = su p := by
  intro F
  induction F with
  | zero => intro i a go su _ h; omega
  | succ F ih =>
    intro i a go su hi hF h
    rw [fX10_takeFrame_L2.eq_2]
    by_cases h1 : 28 ≤ i
    · rw [if_pos (show (28 : Int32) ≤ nI i from nI_le (a := 28) h1 (by omega)), show i = 28 from by omega]
      exact ⟨go, su, rfl, fun t ht => h t (by omega), fun p _ => ⟨rfl, rfl⟩⟩
    · have es : cP (fun o => (!GS mk f (24 * u + o)).toNat) (i + 1) = cP (fun o => (!GS mk f (24 * u + o)).toNat) i + (if 12 ≤ i ∧ i < 16 then 0 else (!GS mk f (24 * u + bA i)).toNat) := rfl
      rw [if_neg (show ¬ (28 : Int32) ≤ nI i from nI_ge (b := 28) (by omega) (by omega)), isC_o i (by omega), btO i (by omega)]
      simp only [nt1E, jkE, nmE]
      rw [nI_1 i]
      by_cases hck : 12 ≤ i ∧ i < 16
      · rw [decide_eq_true hck, if_neg (show ¬ b01 true = (0 : Int32) from by decide)]
        have hih := ih (i + 1) a go su (by omega) (by omega) (fun t ht hnc => h t (by
          have : t ≠ i := fun z => hnc (by rw [z]; exact hck)
          omega) hnc)
        rw [es, if_pos hck, Nat.add_zero] at hih
        exact hih
      · obtain ⟨b1, b2, b3, b4⟩ := bA_f i (by omega) hck
        rw [decide_eq_false hck, if_pos (show b01 false = (0 : Int32) from rfl), b1, show (24 : Int32) * nI u = nI (24 * u) from pk_mul 24 u, nI_add]
        have hk1 : (24 * u + bA i) / 24 = u := by omega
        have hk2 : (24 * u + bA i) % 24 = bA i := by omega
        -- with row v
        have go1 : ∀ v : Nat, v = u + rwOf (bA i) → v < 700 → ∃ go' su', (if nI f ≤ nI v then og (ixb (nI (24 * u + bA i)) 11736) (if nI f ≤ nI v then og (ixb (nI (24 * u + bA i)) 11736) (og (ixb (nI (24 * u + bA i)) 11736) (if (upd su (Int32.toNatClampNeg (nI (24 * u + bA i))) (vp_nar .boolean 0)) (Int32.toNatClampNeg (nI (24 * u + bA i))) = 0 then fX10_takeFrame_L2 (nI u) (nI f) om ou F (nI (i + 1)) (nI (a + cP (fun o => (!GS mk f (24 * u + o)).toNat) i) + 1) (upd go (Int32.toNatClampNeg (nI (24 * u + bA i))) 0) (upd su (Int32.toNatClampNeg (nI (24 * u + bA i))) (vp_nar .boolean 0)) else fX10_takeFrame_L2 (nI u) (nI f) om ou F (nI (i + 1)) (nI (a + cP (fun o => (!GS mk f (24 * u + o)).toNat) i) + 0) (upd go (Int32.toNatClampNeg (nI (24 * u + bA i))) 0) (upd su (Int32.toNatClampNeg (nI (24 * u + bA i))) (vp_nar .boolean 0)))) else og (ixb (((28 : Int32) * nI v) + nI i) 17920) (if (om (Int32.toNatClampNeg (((28 : Int32) * nI v) + nI i))) = 0 then og (ixb (nI (24 * u + bA i)) 11736) (og (ixb (nI (24 * u + bA i)) 11736) (if (upd su (Int32.toNatClampNeg (nI (24 * u + bA i))) (vp_nar .boolean 1)) (Int32.toNatClampNeg (nI (24 * u + bA i))) = 0 then fX10_takeFrame_L2 (nI u) (nI f) om ou F (nI (i + 1)) (nI (a + cP (fun o => (!GS mk f (24 * u + o)).toNat) i) + 1) (upd go (Int32.toNatClampNeg (nI (24 * u + bA i))) 0) (upd su (Int32.toNatClampNeg (nI (24 * u + bA i))) (vp_nar .boolean 1)) else fX10_takeFrame_L2 (nI u) (nI f) om ou F (nI (i + 1)) (nI (a + cP (fun o => (!GS mk f (24 * u + o)).toNat) i) + 0) (upd go (Int32.toNatClampNeg (nI (24 * u + bA i))) 0) (upd su (Int32.toNatClampNeg (nI (24 * u + bA i))) (vp_nar .boolean 1)))) else og (ixb (nI (24 * u + bA i)) 11736) (og (ixb (nI (24 * u + bA i)) 11736) (if (upd su (Int32.toNatClampNeg (nI (24 * u + bA i))) (vp_nar .boolean 0)) (Int32.toNatClampNeg (nI (24 * u + bA i))) = 0 then fX10_takeFrame_L2 (nI u) (nI f) om ou F (nI (i + 1)) (nI (a + cP (fun o => (!GS mk f (24 * u + o)).toNat) i) + 1) (upd go (Int32.toNatClampNeg (nI (24 * u + bA i))) 0) (upd su (Int32.toNatClampNeg (nI (24 * u + bA i))) (vp_nar .boolean 0)) else fX10_takeFrame_L2 (nI u) (nI f) om ou F (nI (i + 1)) (nI (a + cP (fun o => (!GS mk f (24 * u + o)).toNat) i) + 0) (upd go (Int32.toNatClampNeg (nI (24 * u + bA i))) 0) (upd su (Int32.toNatClampNeg (nI (24 * u + bA i))) (vp_nar .boolean 0)))))) else og (ixb (((28 : Int32) * nI v) + nI i) 17920) (og (ixb (nI (24 * u + bA i)) 11736) (if nI f ≤ nI v then og (ixb (nI (24 * u + bA i)) 11736) (og (ixb (nI (24 * u + bA i)) 11736) (if (upd su (Int32.toNatClampNeg (nI (24 * u + bA i))) (vp_nar .boolean 0)) (Int32.toNatClampNeg (nI (24 * u + bA i))) = 0 then fX10_takeFrame_L2 (nI u) (nI f) om ou F (nI (i + 1)) (nI (a + cP (fun o => (!GS mk f (24 * u + o)).toNat) i) + 1) (upd go (Int32.toNatClampNeg (nI (24 * u + bA i))) (ou (Int32.toNatClampNeg (((28 : Int32) * nI v) + nI i)))) (upd su (Int32.toNatClampNeg (nI (24 * u + bA i))) (vp_nar .boolean 0)) else fX10_takeFrame_L2 (nI u) (nI f) om ou F (nI (i + 1)) (nI (a + cP (fun o => (!GS mk f (24 * u + o)).toNat) i) + 0) (upd go (Int32.toNatClampNeg (nI (24 * u + bA i))) (ou (Int32.toNatClampNeg (((28 : Int32) * nI v) + nI i)))) (upd su (Int32.toNatClampNeg (nI (24 * u + bA i))) (vp_nar .boolean 0)))) else og (ixb (((28 : Int32) * nI v) + nI i) 17920) (if (om (Int32.toNatClampNeg (((28 : Int32) * nI v) + nI i))) = 0 then og (ixb (nI (24 * u + bA i)) 11736) (og (ixb (nI (24 * u + bA i)) 11736) (if (upd su (Int32.toNatClampNeg (nI (24 * u + bA i))) (vp_nar .boolean 1)) (Int32.toNatClampNeg (nI (24 * u + bA i))) = 0 then fX10_takeFrame_L2 (nI u) (nI f) om ou F (nI (i + 1)) (nI (a + cP (fun o => (!GS mk f (24 * u + o)).toNat) i) + 1) (upd go (Int32.toNatClampNeg (nI (24 * u + bA i))) (ou (Int32.toNatClampNeg (((28 : Int32) * nI v) + nI i)))) (upd su (Int32.toNatClampNeg (nI (24 * u + bA i))) (vp_nar .boolean 1)) else fX10_takeFrame_L2 (nI u) (nI f) om ou F (nI (i + 1)) (nI (a + cP (fun o => (!GS mk f (24 * u + o)).toNat) i) + 0) (upd go (Int32.toNatClampNeg (nI (24 * u + bA i))) (ou (Int32.toNatClampNeg (((28 : Int32) * nI v) + nI i)))) (upd su (Int32.toNatClampNeg (nI (24 * u + bA i))) (vp_nar .boolean 1)))) else og (ixb (nI (24 * u + bA i)) 11736) (og (ixb (nI (24 * u + bA i)) 11736) (if (upd su (Int32.toNatClampNeg (nI (24 * u + bA i))) (vp_nar .boolean 0)) (Int32.toNatClampNeg (nI (24 * u + bA i))) = 0 then fX10_takeFrame_L2 (nI u) (nI f) om ou F (nI (i + 1)) (nI (a + cP (fun o => (!GS mk f (24 * u + o)).toNat) i) + 1) (upd go (Int32.toNatClampNeg (nI (24 * u + bA i))) (ou (Int32.toNatClampNeg (((28 : Int32) * nI v) + nI i)))) (upd su (Int32.toNatClampNeg (nI (24 * u + bA i))) (vp_nar .boolean 0)) else fX10_takeFrame_L2 (nI u) (nI f) om ou F (nI (i + 1)) (nI (a + cP (fun o => (!GS mk f (24 * u + o)).toNat) i) + 0) (upd go (Int32.toNatClampNeg (nI (24 * u + bA i))) (ou (Int32.toNatClampNeg (((28 : Int32) * nI v) + nI i)))) (upd su (Int32.toNatClampNeg (nI (24 * u + bA i))) (vp_nar .boolean 0)))))))) = some (nI (a + cP (fun o => (!GS mk f (24 * u + o)).toNat) 28), go', su') ∧ (∀ t, t < 28 → ¬ (12 ≤ t ∧ t < 16) → go' (24 * u + bA t) = GV c f (24 * u + bA t) ∧ su' (24 * u + bA t) = b01 (GS mk f (24 * u + bA t))) ∧ ∀ p, (p < 24 * u ∨ 24 * u + 24 ≤ p) → go' p = go p ∧ su' p = su p := fun v hv hv7 => by
          have hix : (28 : Int32) * nI v + nI i = nI (28 * v + i) := by rw [show (28 : Int32) * nI v = nI (28 * v) from pk_mul 28 v, nI_add]
          have fin : ∀ (x : Int32) (b : Bool), x = GV c f (24 * u + bA i) → b = GS mk f (24 * u + bA i) → ∃ go' su', og (ixb (nI (24 * u + bA i)) 11736) (og (ixb (nI (24 * u + bA i)) 11736) (if (upd su (Int32.toNatClampNeg (nI (24 * u + bA i))) (vp_nar .boolean (b01 b))) (Int32.toNatClampNeg (nI (24 * u + bA i))) = 0 then fX10_takeFrame_L2 (nI u) (nI f) om ou F (nI (i + 1)) (nI (a + cP (fun o => (!GS mk f (24 * u + o)).toNat) i) + 1) (upd go (Int32.toNatClampNeg (nI (24 * u + bA i))) x) (upd su (Int32.toNatClampNeg (nI (24 * u + bA i))) (vp_nar .boolean (b01 b))) else fX10_takeFrame_L2 (nI u) (nI f) om ou F (nI (i + 1)) (nI (a + cP (fun o => (!GS mk f (24 * u + o)).toNat) i) + 0) (upd go (Int32.toNatClampNeg (nI (24 * u + bA i))) x) (upd su (Int32.toNatClampNeg (nI (24 * u + bA i))) (vp_nar .boolean (b01 b))))) = some (nI (a + cP (fun o => (!GS mk f (24 * u + o)).toNat) 28), go', su') ∧ (∀ t, t < 28 → ¬ (12 ≤ t ∧ t < 16) → go' (24 * u + bA t) = GV c f (24 * u + bA t) ∧ su' (24 * u + bA t) = b01 (GS mk f (24 * u + bA t))) ∧ ∀ p, (p < 24 * u ∨ 24 * u + 24 ≤ p) → go' p = go p ∧ su' p = su p := fun x b hx hb => by
            rw [og_nI (by omega) (by omega), og_nI (by omega) (by omega), nI_clamp (by omega), zbool, pk_us]
            obtain ⟨go', su', g1, g2, g3⟩ := ih (i + 1) a (upd go (24 * u + bA i) x) (upd su (24 * u + bA i) (b01 b)) (by omega) (by omega) (fun t ht hnc => by
              by_cases z : bA t = bA i
              · rw [z, pk_us, pk_us, hx, hb]; exact ⟨rfl, rfl⟩
              · rw [pk_un (by omega), pk_un (by omega)]
                exact h t (by have : t ≠ i := fun w => z (by rw [w]); omega) hnc)
            rw [es, if_neg hck, ← hb, ← Nat.add_assoc] at g1
            refine ⟨go', su', ?_, g2, fun p hp => ?_⟩
            · cases b with
              | false => rw [if_pos (show b01 false = (0 : Int32) from rfl), nI_1]; exact g1
              | true => rw [if_neg (show ¬ b01 true = (0 : Int32) from by decide), Int32.add_zero]; exact g1
            · obtain ⟨y1, y2⟩ := g3 p hp
              rw [y1, y2, pk_un (by omega), pk_un (by omega)]; exact ⟨rfl, rfl⟩
          by_cases hl : f ≤ v
          · simp only [if_pos (nI_le hl (show v < 2 ^ 31 from by omega))]
            rw [og_nI (show 24 * u + bA i < 11736 from by omega) (by omega)]
            exact fin 0 false (by unfold GV; rw [hk1, hk2, if_neg (by omega)]) (by unfold GS; rw [hk1, hk2, decide_eq_false (by omega)]; rfl)
          · obtain ⟨r1, r2⟩ := hro v (by omega)
            obtain ⟨_, r3, r4⟩ := r2 i (by omega)
            simp only [if_neg (nI_ge (show v < f from by omega) (show f < 2 ^ 31 from by omega))]
            rw [hix, og_nI (show 28 * v + i < 17920 from by omega) (by omega), og_nI (show 24 * u + bA i < 11736 from by omega) (by omega), og_nI (show 28 * v + i < 17920 from by omega) (by omega), nI_clamp (show 28 * v + i < 2 ^ 31 from by omega), r4]
            have hgv : ou (28 * v + i) = GV c f (24 * u + bA i) := by
              unfold GV; rw [hk1, hk2, ← hv, if_pos (by omega), b3, r3]
            have hgs : (!bt (mk v) i) = GS mk f (24 * u + bA i) := by
              unfold GS; rw [hk1, hk2, ← hv, decide_eq_true (by omega), b3]; rfl
            cases hb : bt (mk v) i with
            | false => rw [if_pos (show b01 false = (0 : Int32) from rfl)]; exact fin _ true hgv (by rw [← hgs, hb]; rfl)
            | true => rw [if_neg (show ¬ b01 true = (0 : Int32) from by decide)]; exact fin _ false hgv (by rw [← hgs, hb]; rfl)
        by_cases h12 : 12 ≤ i
        · rw [if_pos (show (12 : Int32) ≤ nI i from nI_le (a := 12) h12 (by omega))]
          exact go1 u (by rw [b4, if_neg (by omega)]; rfl) (by omega)
        · rw [if_neg (show ¬ (12 : Int32) ≤ nI i from nI_ge (b := 12) (by omega) (by omega)), show nI u + (2 : Int32) = nI (u + 2) from nI_add u 2]
          exact go1 (u + 2) (by rw [b4, if_pos (by omega)]) (by omega)
theorem takeFr {f u S a : Nat} {c mk oF ou om oT go su : Nat → Int32} (hf : f ≤ 640) (hu : u < S) (hS : S ≤ 488) (hro : ∀ j, j < f → RO c mk oF ou om oT j) :
    ∃ go' su', fX10_takeFrame (nI f) (nI a) go om ou su (nI u) = some (nI (a + pop (fun o => !GS mk f (24 * u + o)) 24), go', su') ∧ (∀ o, o < 24 → go' (24 * u + o) = GV c f (24 * u + o) ∧ su' (24 * u + o) = b01 (GS mk f (24 * u + o))) ∧ ∀ p, (p < 24 * u ∨ 24 * u + 24 ≤ p) → go' p = go p ∧ su' p = su p := by
  obtain ⟨go', su', g1, g2, g3⟩ := tkF (a := a) hf hu hS hro FU 0 go su (by omega) (by rw [FU_eq]; omega) (fun t ht => by omega)
  rw [cP_pop (fun o => !GS mk f (24 * u + o))] at g1
  refine ⟨go', su', g1, fun o ho => ?_, g3⟩
  obtain ⟨a1, a2, a3⟩ := bA_p o ho
  have := g2 (plOf o) a2 a3
  rw [a1] at this
  exact this
theorem cntU {f S : Nat} {mk : Nat → Int32} {z : Int32} (hf : f ≤ 640) (hS : S ≤ 488) : ∀ (F k : Nat) (tl : Nat → Int32), k ≤ 24 * S → 24 * S - k < F → tl 3 = z + nI (pop (fun i => !GS mk f i) k) → ∃ tl', fX5_countUnsure_L2 (nI S) (nI f) mk F (nI k) tl = some tl' ∧ tl' 3 = z + nI (pop (fun i => !GS mk f i) (24 * S)) ∧ ∀ t, t ≠ 3 → tl' t = tl t := by
  intro F
  induction F with
  | zero => intro k tl _ h; omega
  | succ F ih =>
    intro k tl hk hF hz
    rw [fX5_countUnsure_L2.eq_2, show (24 : Int32) * nI S = nI (24 * S) from pk_mul 24 S]
    by_cases h1 : 24 * S ≤ k
    · rw [if_pos (nI_le h1 (by omega))]
      have e : k = 24 * S := by omega
      subst e
      exact ⟨tl, rfl, hz, fun t _ => rfl⟩
    · have hs : fX5_sureOf (nI f) mk (nI k) = some (b01 (GS mk f k)) := sureOf_eq hf (by omega)
      rw [if_neg (nI_ge (by omega) (by omega)), hs, ob1E]
      simp only [jkE, nmE]
      rw [nI_1]
      have es : pop (fun i => !GS mk f i) (k + 1) = pop (fun i => !GS mk f i) k + (!GS mk f k).toNat := rfl
      cases hg : GS mk f k with
      | false =>
        rw [hg] at es
        rw [if_pos (show b01 false = (0 : Int32) from rfl), og_t (show ixb 3 8 = true from rfl), og_t (show ixb 3 8 = true from rfl), show (3 : Int32).toNatClampNeg = 3 from rfl]
        obtain ⟨tl', g1, g2, g3⟩ := ih (k + 1) (upd tl 3 (tl 3 + (1 : Int32))) (by omega) (by omega) (by rw [pk_us, hz, es, ← nI_add, Int32.add_assoc]; rfl)
        exact ⟨tl', g1, g2, fun t ht => by rw [g3 t ht, pk_un ht]⟩
      | true =>
        rw [hg] at es
        rw [if_neg (show ¬ b01 true = (0 : Int32) from by decide)]
        exact ih (k + 1) tl (by omega) (by omega) (by rw [hz, es]; rfl)
