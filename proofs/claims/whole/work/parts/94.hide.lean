/-! ===== play: what is heard, and all of it ===== -/
theorem sgs {mk : Nat → Int32} {f k : Nat} {x : Int32} (h : x = b01 (GS mk f k)) : (!decide (x = 0)) = GS mk f k := by
  rw [h]
  cases GS mk f k <;> rfl
theorem smpS {f S side k : Nat} {mk su : Nat → Int32} (hf : f ≤ 640) (hS : S ≤ 488) (hs : side < 2) (hk : k ≤ 6 * S) (hsu : ∀ i, i < 24 * S → su i = b01 (GS mk f i)) : fX5_sampleSure (nI f) (nI S) mk (nI k) (nI side) = some (b01 (okF su S side k)) := by
  unfold fX5_sampleSure fX5_highByteOf okF
  rw [nt1E, show (4 : Int32) * nI k = nI (4 * k) from pk_mul 4 k, show (2 : Int32) * nI side = nI (2 * side) from pk_mul 2 side, nI_add, nt1E]
  by_cases h : k < 6 * S
  · have e1 : fX5_sureOf (nI f) mk (nI (4 * k + 2 * side)) = some (b01 (GS mk f (4 * k + 2 * side))) := sureOf_eq hf (by omega)
    have e2 : fX5_sureOf (nI f) mk (nI (4 * k + 2 * side + 1)) = some (b01 (GS mk f (4 * k + 2 * side + 1))) := sureOf_eq hf (by omega)
    rw [isSmp_1 hS h, if_neg ne10, e1, ob1E, show nI (4 * k + 2 * side) + (1 : Int32) = nI (4 * k + 2 * side + 1) from nI_1 _, e2, ob1E, decide_eq_true h, sgs (hsu (4 * k + 2 * side) (by omega)), sgs (hsu (4 * k + 2 * side + 1) (by omega))]
    cases GS mk f (4 * k + 2 * side)
    · rw [if_pos (by rfl)]; rfl
    rw [if_neg (by decide)]
    cases GS mk f (4 * k + 2 * side + 1)
    · rw [if_pos (by rfl)]; rfl
    rw [if_neg (by decide)]; rfl
  · have e0 : fX5_isSample (nI S) (nI k) = 0 := by
      unfold fX5_isSample
      rw [if_neg (nI_pos (by omega)), show (6 : Int32) * nI S = nI (6 * S) from pk_mul 6 S, if_pos (nI_le (by omega) (by omega))]
    rw [e0, if_pos rfl, decide_eq_false h]; rfl
theorem smpO {f S side k : Nat} {c go : Nat → Int32} (hf : f ≤ 640) (hS : S ≤ 488) (hs : side < 2) (hk : k < 6 * S) (hgo : ∀ i, i < 24 * S → go i = GV c f i) : fX5_sampleOf (nI f) c (nI k) (nI side) = some (smF go side k) := by
  unfold fX5_sampleOf fX5_highByteOf smF
  have e1 : fX5_byteOf (nI f) c (nI (4 * k + 2 * side)) = some (GV c f (4 * k + 2 * side)) := byteOf_eq hf (by omega)
  have e2 : fX5_byteOf (nI f) c (nI (4 * k + 2 * side + 1)) = some (GV c f (4 * k + 2 * side + 1)) := byteOf_eq hf (by omega)
  rw [nt1E, show (4 : Int32) * nI k = nI (4 * k) from pk_mul 4 k, show (2 : Int32) * nI side = nI (2 * side) from pk_mul 2 side, nI_add, e1, ob1E, show nI (4 * k + 2 * side) + (1 : Int32) = nI (4 * k + 2 * side + 1) from nI_1 _, e2, ob1E, hgo _ (by omega), hgo _ (by omega)]
theorem hear_s (go su : Nat → Int32) (S side i : Nat) : hearF go su S side (i + 1) = if okF su S side i then (smF go side i, (hearF go su S side i).2) else (if okF su S side (i + 1) then ((hearF go su S side i).1 + smF go side (i + 1)) >>> ((1 : Int32) &&& 31) else (hearF go su S side i).1, (hearF go su S side i).2 + 1) := rfl
theorem hidL {f S side : Nat} {c mk go su : Nat → Int32} {z : Int32} (hf : f ≤ 640) (hS : S ≤ 488) (hs : side < 2) (hgo : ∀ i, i < 24 * S → go i = GV c f i) (hsu : ∀ i, i < 24 * S → su i = b01 (GS mk f i)) : ∀ (F i : Nat) (smp tl : Nat → Int32), i ≤ 6 * S → 6 * S - i < F → tl 4 = z + nI (hearF go su S side i).2 → (∀ k, k < i → smp (2 * k + side) = (hearF go su S side (k + 1)).1) →
    ∃ smp' tl', fX5_hide_L4 (nI S) (nI f) mk (nI side) c F (nI i) (hearF go su S side i).1 smp tl = some (smp', tl') ∧ (∀ k, k < 6 * S → smp' (2 * k + side) = (hearF go su S side (k + 1)).1) ∧ (∀ p, p % 2 ≠ side → smp' p = smp p) ∧ tl' 4 = z + nI (hearF go su S side (6 * S)).2 ∧ ∀ t, t ≠ 4 → tl' t = tl t := by
  intro F
  induction F with
  | zero => intro i smp tl _ h; omega
  | succ F ih =>
    intro i smp tl hi hF hz hsm
    rw [fX5_hide_L4.eq_2, show (6 : Int32) * nI S = nI (6 * S) from pk_mul 6 S]
    by_cases h1 : 6 * S ≤ i
    · rw [if_pos (nI_le h1 (by omega))]
      have e : i = 6 * S := by omega
      subst e
      exact ⟨smp, tl, rfl, hsm, fun p _ => rfl, hz, fun t _ => rfl⟩
    · rw [if_neg (nI_ge (by omega) (by omega)), if_neg (show ¬ (2928 : Int32) ≤ nI i from nI_ge (b := 2928) (by omega) (by omega)), smpS hf hS hs (by omega) hsu, ob1E]
      simp only [jkE, nmE]
      rw [nI_1, smpS hf hS hs (by omega) hsu, ob1E, show (2 : Int32) * nI i = nI (2 * i) from pk_mul 2 i, nI_add, og_nI (by omega) (by omega), nI_clamp (by omega)]
      have fin : ∀ (x : Int32) (tl2 : Nat → Int32), x = (hearF go su S side (i + 1)).1 → tl2 4 = z + nI (hearF go su S side (i + 1)).2 → (∀ t, t ≠ 4 → tl2 t = tl t) → ∃ smp' tl', fX5_hide_L4 (nI S) (nI f) mk (nI side) c F (nI (i + 1)) x (upd smp (2 * i + side) x) tl2 = some (smp', tl') ∧ (∀ k, k < 6 * S → smp' (2 * k + side) = (hearF go su S side (k + 1)).1) ∧ (∀ p, p % 2 ≠ side → smp' p = smp p) ∧ tl' 4 = z + nI (hearF go su S side (6 * S)).2 ∧ ∀ t, t ≠ 4 → tl' t = tl t := fun x tl2 hx h4 ho => by
        rw [hx]
        obtain ⟨smp', tl', g1, g2, g3, g4, g5⟩ := ih (i + 1) (upd smp (2 * i + side) (hearF go su S side (i + 1)).1) tl2 (by omega) (by omega) h4 (fun k hk => by
          by_cases w : k = i
          · rw [w, pk_us]
          · rw [pk_un (by omega)]; exact hsm k (by omega))
        exact ⟨smp', tl', g1, g2, fun p hp => by rw [g3 p hp, pk_un (by omega)], g4, fun t ht => by rw [g5 t ht, ho t ht]⟩
      have hs1 := hear_s go su S side i
      cases hok : okF su S side i with
      | true =>
        rw [hok] at hs1
        simp only [if_true] at hs1
        rw [if_neg (show ¬ b01 true = (0 : Int32) from by decide), smpO hf hS hs (by omega) hgo, ob1E, og_nI (by omega) (by omega)]
        exact fin _ tl (by rw [hs1]) (by rw [hs1]; exact hz) (fun t _ => rfl)
      | false =>
        rw [hok] at hs1
        simp only [Bool.false_eq_true, if_false] at hs1
        rw [if_pos (show b01 false = (0 : Int32) from rfl), og_t (show ixb 4 8 = true from rfl), og_t (show ixb 4 8 = true from rfl), show (4 : Int32).toNatClampNeg = 4 from rfl]
        have h4 : upd tl 4 (tl 4 + (1 : Int32)) 4 = z + nI (hearF go su S side (i + 1)).2 := by
          rw [pk_us, hz, hs1]
          show _ = z + nI ((hearF go su S side i).2 + 1)
          rw [← nI_add, Int32.add_assoc]; rfl
        cases hok2 : okF su S side (i + 1) with
        | true =>
          rw [hok2] at hs1
          simp only [if_true] at hs1
          have hlt : i + 1 < 6 * S := by
            unfold okF at hok2
            rw [Bool.and_eq_true] at hok2
            exact of_decide_eq_true hok2.1
          rw [if_neg (show ¬ b01 true = (0 : Int32) from by decide), smpO hf hS hs hlt hgo, ob1E, og_nI (by omega) (by omega)]
          exact fin _ _ (by rw [hs1]) h4 (fun t ht => pk_un ht)
        | false =>
          rw [hok2] at hs1
          simp only [Bool.false_eq_true, if_false] at hs1
          rw [if_pos (show b01 false = (0 : Int32) from rfl)]
          exact fin _ _ (by rw [hs1]) h4 (fun t ht => pk_un ht)
theorem cntS {be mbe : Nat → Int32} {f : Nat} (hf : f ≤ 640) (he : ∀ k, k < f → be k = mbe k) : ∀ (F k : Nat), k ≤ f → f - k < F → fX5_countSections_L4 (nI f) 1 be F (nI k) (nI (secN mbe f k)) = some (nI (secN mbe f f)) := by
  intro F
  induction F with
  | zero => intro k _ h; omega
  | succ F ih =>
    intro k hk hF
    rw [fX5_countSections_L4.eq_2]
    by_cases h1 : f ≤ k
    · rw [if_pos (nI_le h1 (by omega)), show k = f from by omega]
    · have hsec : secF be f k = secF mbe f k := by
        unfold secF
        rw [he k (by omega)]
        by_cases w : k + 1 < f
        · rw [he (k + 1) w]
        · rw [decide_eq_false w]; rfl
      rw [if_neg (nI_ge (by omega) (by omega)), begC_eq hf (by omega), ob1E, hsec]
      simp only [jkE, nmE]
      rw [nI_1, nI_1]
      have hih := ih (k + 1) (by omega) (by omega)
      have es : secN mbe f (k + 1) = secN mbe f k + if secF mbe f k then 1 else 0 := rfl
      rw [es] at hih
      cases hb : secF mbe f k with
      | false => rw [hb] at hih; rw [if_pos (show b01 false = (0 : Int32) from rfl)]; exact hih
      | true => rw [hb] at hih; rw [if_neg (show ¬ b01 true = (0 : Int32) from by decide)]; exact hih
theorem L216 {f S : Nat} {c mk oF : Nat → Int32} {fa mo ofa stg : Int32} {be fat im iT inn mkd om oT ou pl rows sy vals wd : Nat → Int32} (hf : f ≤ 640) (hS : S ≤ 488) (hro : ∀ j, j < f → RO c mk oF ou om oT j) : ∀ (F u : Nat) (go su : Nat → Int32), u ≤ S → S - u < F → (∀ k, k < 24 * u → go k = GV c f k ∧ su k = b01 (GS mk f k)) →
    ∃ go' su', fX10_play_L216 (nI S) (nI f) fa mo ofa stg be fat im iT inn mkd om oT ou pl rows sy vals wd F (nI u) (nI (pop (fun i => !GS mk f i) (24 * u))) go su = some (nI (pop (fun i => !GS mk f i) (24 * S)), nI f, fa, 1, mo, ofa, stg, 0, nI (pop (fun i => !GS mk f i) (24 * S)), be, fat, go', im, iT, inn, mkd, om, oT, ou, pl, rows, su', sy, vals, wd) ∧ ∀ k, k < 24 * S → go' k = GV c f k ∧ su' k = b01 (GS mk f k) := by
  intro F
  induction F with
  | zero => intro u go su _ h; omega
  | succ F ih =>
    intro u go su hu hF h
    rw [fX10_play_L216.eq_2]
    by_cases h1 : S ≤ u
    · rw [if_pos (nI_le h1 (by omega))]
      have e : u = S := by omega
      subst e
      exact ⟨go, su, rfl, h⟩
    · obtain ⟨go', su', g1, g2, g3⟩ := takeFr (a := pop (fun i => !GS mk f i) (24 * u)) (go := go) (su := su) hf (show u < S from by omega) hS hro
      rw [if_neg (nI_ge (by omega) (by omega)), g1, ob3E, nmE, nI_1]
      have ep := pop_add (fun i => !GS mk f i) (24 * u) 24
      rw [← ep, show 24 * u + 24 = 24 * (u + 1) from by omega]
      exact ih (u + 1) go' su' (by omega) (by omega) (fun k hk => by
        by_cases w : k < 24 * u
        · obtain ⟨y1, y2⟩ := g3 k (by omega)
          rw [y1, y2]; exact h k w
        · have := g2 (k - 24 * u) (by omega)
          rw [show 24 * u + (k - 24 * u) = k from by omega] at this
          exact this)
