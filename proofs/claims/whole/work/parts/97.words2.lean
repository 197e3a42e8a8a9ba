/-! ===== press: the reference's words ===== -/
theorem sby {st : Nat → Int32} {D S : Nat} (hS : S = (D + 23) / 24) (hD : D ≤ 11712) {v i : Nat} (hv : v < 640) (hi : i < 28) (hnc : ¬ (12 ≤ i ∧ i < 16)) : fX10_streamByte (nI D) (nI S) st (if 12 ≤ i then nI v else nI v - 2) (nI (bA i)) = some (nI (oW st D v i)) := by
  obtain ⟨_, b2, _, _⟩ := bA_f i hi hnc
  unfold fX10_streamByte
  rw [nmE]
  have main : ∀ u : Nat, u = v - rwI i → rwI i ≤ v → (if nI u < 0 then some 0 else if nI S ≤ nI u then some 0 else if nI D ≤ (24 : Int32) * nI u + nI (bA i) then some 0 else og (ixb ((24 : Int32) * nI u + nI (bA i)) 11712) (some (st (Int32.toNatClampNeg ((24 : Int32) * nI u + nI (bA i))) &&& (255 : Int32)))) = some (nI (oW st D v i)) := fun u hu hr => by
    rw [if_neg (nI_pos (by omega)), show (24 : Int32) * nI u = nI (24 * u) from pk_mul 24 u, nI_add]
    by_cases q : 24 * u + bA i < D
    · rw [if_neg (nI_ge (show u < S from by omega) (by omega)), if_neg (nI_ge q (by omega)), og_nI (by omega) (by omega), nI_clamp (by omega), and255b]
      unfold oW
      rw [if_pos ⟨⟨hi, hnc⟩, hr, by rw [← hu]; exact q⟩, ← hu]
    · have e : oW st D v i = 0 := by
        unfold oW
        rw [if_neg (fun z => q (by rw [hu]; exact z.2.2))]
      rw [e]
      by_cases q2 : S ≤ u
      · rw [if_pos (nI_le q2 (by omega))]; rfl
      · rw [if_neg (nI_ge (by omega) (by omega)), if_pos (nI_le (by omega) (by omega))]; rfl
  by_cases h12 : 12 ≤ i
  · rw [if_pos h12]
    have hr : rwI i = 0 := by unfold rwI; rw [if_neg (by omega)]
    exact main v (by omega) (by omega)
  · rw [if_neg h12]
    have hr : rwI i = 2 := by unfold rwI; rw [if_pos (by omega)]
    by_cases h2 : 2 ≤ v
    · rw [show nI v - (2 : Int32) = nI (v - 2) from pk_sub (b := 2) h2]
      exact main (v - 2) (by omega) (by omega)
    · rw [if_pos (show nI v - (2 : Int32) < 0 from sub_neg (a := v) (b := 2) (by omega) (by omega))]
      unfold oW
      rw [if_neg (fun z => by have := z.2.1; omega)]; rfl
theorem mkO2 {jj : (Nat → Int32) → Option ((Nat → Int32) × (Nat → Int32) × (Nat → Int32) × (Nat → Int32) × (Nat → Int32) × (Nat → Int32) × (Nat → Int32))} {st : Nat → Int32} {D S v : Nat} (hS : S = (D + 23) / 24) (hD : D ≤ 11712) (hv : v < 640) : ∀ (F i : Nat) (w : Nat → Int32), i ≤ 28 → 28 - i < F → (∀ t, t < i → w t = nI (oW st D v t)) → ∃ w', fX10_makeOuter_L2 jj (nI D) (nI S) st (nI v) F (nI i) w = jj w' ∧ ∀ t, t < 28 → w' t = nI (oW st D v t) := by
  intro F
  induction F with
  | zero => intro i w _ h; omega
  | succ F ih =>
    intro i w hi hF h
    rw [fX10_makeOuter_L2.eq_2]
    by_cases hc : 28 ≤ i
    · rw [if_pos (show (28 : Int32) ≤ nI i from nI_le (a := 28) hc (by omega))]
      exact ⟨w, rfl, fun t ht => h t (by omega)⟩
    · rw [if_neg (show ¬ (28 : Int32) ≤ nI i from nI_ge (b := 28) (by omega) (by omega)), isC_o i (by omega), btO i (by omega), nt1E]
      simp only [jkE, nmE]
      have go : ∀ x : Int32, x = nI (oW st D v i) → ∃ w', og (ixb (nI i) 32) (fX10_makeOuter_L2 jj (nI D) (nI S) st (nI v) F (nI i + 1) (upd w (Int32.toNatClampNeg (nI i)) x)) = jj w' ∧ ∀ t, t < 28 → w' t = nI (oW st D v t) := fun x hx => by
        rw [og_nI (by omega) (by omega), nI_clamp (by omega), nI_1]
        refine ih (i + 1) _ (by omega) (by omega) (fun t ht => ?_)
        by_cases z : t = i
        · rw [z, pk_us, hx]
        · rw [pk_un z]; exact h t (by omega)
      by_cases hck : 12 ≤ i ∧ i < 16
      · rw [decide_eq_true hck, if_neg (show ¬ b01 true = (0 : Int32) from by decide)]
        exact go 0 (by unfold oW; rw [if_neg (fun z => z.1.2 hck)]; rfl)
      · have hs := sby (st := st) hS hD hv (show i < 28 from by omega) hck
        rw [decide_eq_false hck, if_pos (show b01 false = (0 : Int32) from rfl), (bA_f i (by omega) hck).1]
        simp only [nt1E]
        by_cases h12 : 12 ≤ i
        · rw [if_pos h12] at hs
          rw [if_pos (show (12 : Int32) ≤ nI i from nI_le (a := 12) h12 (by omega)), hs, ob1E]
          exact go _ rfl
        · rw [if_neg h12] at hs
          rw [if_neg (show ¬ (12 : Int32) ≤ nI i from nI_ge (b := 12) (by omega) (by omega)), hs, ob1E]
          exact go _ rfl
theorem mkO60 {m p r s l w : Nat → Int32} {v : Nat} (hv : v < 640) : ∀ (F i : Nat) (ou : Nat → Int32), i ≤ 28 → 28 - i < F → ∃ ou', fX10_makeOuter_L60 m p r s l w (nI v) F (nI i) ou = some (m, ou', p, r, s, l, w) ∧ ∀ t, ou' t = if 28 * v + i ≤ t ∧ t < 28 * v + 28 then w (t - 28 * v) else ou t := by
  intro F
  induction F with
  | zero => intro i ou _ h; omega
  | succ F ih =>
    intro i ou hi hF
    rw [fX10_makeOuter_L60.eq_2]
    by_cases hc : 28 ≤ i
    · rw [if_pos (show (28 : Int32) ≤ nI i from nI_le (a := 28) hc (by omega))]
      exact ⟨ou, rfl, fun t => by rw [if_neg (by omega)]⟩
    · rw [if_neg (show ¬ (28 : Int32) ≤ nI i from nI_ge (b := 28) (by omega) (by omega)), show (28 : Int32) * nI v = nI (28 * v) from pk_mul 28 v, nI_add, og_nI (by omega) (by omega), og_nI (by omega) (by omega), nmE, nmE, nI_clamp (by omega), nI_clamp (by omega), nI_1]
      obtain ⟨ou', g1, g2⟩ := ih (i + 1) (upd ou (28 * v + i) (w i)) (by omega) (by omega)
      refine ⟨ou', g1, fun t => ?_⟩
      rw [g2 t]
      by_cases q : t = 28 * v + i
      · subst q; rw [if_neg (by omega), if_pos (by omega), pk_us]; exact congrArg w (by omega)
      · rw [pk_un q]
        by_cases q2 : 28 * v + (i + 1) ≤ t ∧ t < 28 * v + 28
        · rw [if_pos q2, if_pos (by omega)]
        · rw [if_neg q2, if_neg (by omega)]
theorem mkOu {pwr lg st m ou p r s l w : Nat → Int32} {D S v : Nat} (hT : TabF pwr lg) (hS : S = (D + 23) / 24) (hD : D ≤ 11712) (hv : v < 640) : ∃ m' ou' p' r' s' l' w', fX10_makeOuter (nI D) (nI S) lg m ou p pwr r st s l w (nI v) = some (m', ou', p', r', s', l', w') ∧ (∀ i, i < 28 → ou' (28 * v + i) = nI (oV st D v i)) ∧ ∀ t, (t < 28 * v ∨ 28 * v + 28 ≤ t) → ou' t = ou t := by
  unfold fX10_makeOuter
  rw [jkE]
  obtain ⟨w1, a1, a2⟩ := (fun jj => mkO2 (jj := jj) (st := st) hS hD hv FU 0 w (by omega) (by rw [FU_eq]; omega) (fun t ht => by omega)) _
  have a1' : fX10_makeOuter_L2 _ (nI D) (nI S) st (nI v) FU 0 w = _ := a1
  obtain ⟨m', p', r', s', l', w', b1, b2, b3⟩ := check_eq (n := 28) (fc := 12) (x1 := 0) (mk := mkO) (W := oW st D v) (w := w1) hT m p r s l rfl (by omega) (by omega) isC_o (fun i hi => btO i (by omega)) popO (oW_lt _ _ _) (fun t ht _ => a2 t ht)
  obtain ⟨ou', c1, c2⟩ := mkO60 (m := m') (p := p') (r := r') (s := s') (l := l') (w := w') hv FU 0 ou (by omega) (by rw [FU_eq]; omega)
  have c1' : fX10_makeOuter_L60 m' p' r' s' l' w' (nI v) FU 0 ou = _ := c1
  rw [a1', b1, ob6E, c1']
  refine ⟨m', ou', p', r', s', l', w', rfl, fun i hi => ?_, fun t ht => ?_⟩
  · rw [c2, if_pos (by omega), show 28 * v + i - 28 * v = i from by omega, b2 i hi]; rfl
  · rw [c2, if_neg (by omega)]
theorem pr56 {jj : (Nat → Int32) → (Nat → Int32) → (Nat → Int32) → (Nat → Int32) → (Nat → Int32) → (Nat → Int32) → (Nat → Int32) → Option (Int32 × Int32 × Int32 × Int32 × Int32 × Int32 × Int32 × Int32 × Int32 × Int32 × Int32 × Int32 × Int32 × (Nat → Int32) × (Nat → Int32) × (Nat → Int32) × (Nat → Int32) × (Nat → Int32) × (Nat → Int32) × (Nat → Int32) × (Nat → Int32) × (Nat → Int32) × (Nat → Int32))} {pwr lg st : Nat → Int32} {D S fr : Nat} (hT : TabF pwr lg) (hS : S = (D + 23) / 24) (hD : D ≤ 11712) (hfr : fr ≤ 640) : ∀ (F v : Nat) (m ou p r s l w : Nat → Int32), v ≤ fr → fr - v < F → (∀ j, j < v → ∀ i, i < 28 → ou (28 * j + i) = nI (oV st D j i)) →
    ∃ m' ou' p' r' s' l' w', fX10_press_L56 (nI fr) jj (nI D) (nI S) lg pwr st F (nI v) m ou p r s l w = jj m' ou' p' r' s' l' w' ∧ ∀ j, j < fr → ∀ i, i < 28 → ou' (28 * j + i) = nI (oV st D j i) := by
  intro F
  induction F with
  | zero => intro v m ou p r s l w _ h; omega
  | succ F ih =>
    intro v m ou p r s l w hv hF h
    rw [fX10_press_L56.eq_2]
    by_cases hc : fr ≤ v
    · rw [if_pos (nI_le hc (by omega))]
      exact ⟨m, ou, p, r, s, l, w, rfl, fun j hj => h j (by omega)⟩
    · obtain ⟨m', ou', p', r', s', l', w', a1, a2, a3⟩ := mkOu (m := m) (ou := ou) (p := p) (r := r) (s := s) (l := l) (w := w) (st := st) hT hS hD (show v < 640 from by omega)
      rw [if_neg (nI_ge (by omega) (by omega)), a1, ob7E, nmE, nI_1]
      refine ih (v + 1) m' ou' p' r' s' l' w' (by omega) (by omega) (fun j hj i hi => ?_)
      by_cases z : j = v
      · rw [z]; exact a2 i hi
      · rw [a3 _ (by omega)]; exact h j (by omega) i hi
theorem mkI2 {jj : (Nat → Int32) → Option ((Nat → Int32) × (Nat → Int32) × (Nat → Int32) × (Nat → Int32) × (Nat → Int32) × (Nat → Int32) × (Nat → Int32))} {st ou : Nat → Int32} {D fr x : Nat} (hfr : fr ≤ 640) (hx : x < fr) (ho : ∀ j, j < fr → ∀ i, i < 28 → ou (28 * j + i) = nI (oV st D j i)) : ∀ (F i : Nat) (w : Nat → Int32), i ≤ 28 → 28 - i < F → (∀ t, t < i → w t = nI (iWd st D x t)) → ∃ w', fX10_makeInner_L2 jj (nI x) ou F (nI i) w = jj w' ∧ ∀ t, t < 28 → w' t = nI (iWd st D x t) := by
  intro F
  induction F with
  | zero => intro i w _ h; omega
  | succ F ih =>
    intro i w hi hF h
    rw [fX10_makeInner_L2.eq_2]
    by_cases hc : 28 ≤ i
    · rw [if_pos (show (28 : Int32) ≤ nI i from nI_le (a := 28) hc (by omega))]
      exact ⟨w, rfl, fun t ht => h t (by omega)⟩
    · rw [if_neg (show ¬ (28 : Int32) ≤ nI i from nI_ge (b := 28) (by omega) (by omega)), show (4 : Int32) * nI i = nI (4 * i) from pk_mul 4 i]
      simp only [jkE, nmE]
      have go : ∀ y : Int32, y = nI (iWd st D x i) → ∃ w', og (ixb (nI i) 32) (fX10_makeInner_L2 jj (nI x) ou F (nI i + 1) (upd w (Int32.toNatClampNeg (nI i)) y)) = jj w' ∧ ∀ t, t < 28 → w' t = nI (iWd st D x t) := fun y hy => by
        rw [og_nI (by omega) (by omega), nI_clamp (by omega), nI_1]
        refine ih (i + 1) _ (by omega) (by omega) (fun t ht => ?_)
        by_cases z : t = i
        · rw [z, pk_us, hy]
        · rw [pk_un z]; exact h t (by omega)
      by_cases hl : 4 * i ≤ x
      · rw [pk_sub hl, if_pos (nI_pos' (by omega)), show (28 : Int32) * nI (x - 4 * i) = nI (28 * (x - 4 * i)) from pk_mul 28 _, nI_add, og_nI (show 28 * (x - 4 * i) + i < 17920 from by omega) (by omega), nI_clamp (show 28 * (x - 4 * i) + i < 2 ^ 31 from by omega), ho (x - 4 * i) (by omega) i (by omega)]
        exact go _ (by unfold iWd; rw [if_pos ⟨by omega, hl⟩])
      · have hneg := sub_neg (a := x) (b := 4 * i) (by omega) (by omega)
        rw [if_neg (fun z => by have a1 := ti_lt.mp hneg; have a2 := ti_le.mp z; omega)]
        exact go 0 (by unfold iWd; rw [if_neg (fun z => hl z.2)]; rfl)
theorem mkI54 {m p r s l w : Nat → Int32} {v : Nat} (hv : v < 640) : ∀ (F i : Nat) (ou : Nat → Int32), i ≤ 32 → 32 - i < F → ∃ ou', fX10_makeInner_L54 m p r s l w (nI v) F (nI i) ou = some (ou', m, p, r, s, l, w) ∧ ∀ t, ou' t = if 32 * v + i ≤ t ∧ t < 32 * v + 32 then w (t - 32 * v) else ou t := by
  intro F
  induction F with
  | zero => intro i ou _ h; omega
  | succ F ih =>
    intro i ou hi hF
    rw [fX10_makeInner_L54.eq_2]
    by_cases hc : 32 ≤ i
    · rw [if_pos (show (32 : Int32) ≤ nI i from nI_le (a := 32) hc (by omega))]
      exact ⟨ou, rfl, fun t => by rw [if_neg (by omega)]⟩
    · rw [if_neg (show ¬ (32 : Int32) ≤ nI i from nI_ge (b := 32) (by omega) (by omega)), show (32 : Int32) * nI v = nI (32 * v) from pk_mul 32 v, nI_add, og_nI (by omega) (by omega), og_nI (by omega) (by omega), nmE, nmE, nI_clamp (by omega), nI_clamp (by omega), nI_1]
      obtain ⟨ou', g1, g2⟩ := ih (i + 1) (upd ou (32 * v + i) (w i)) (by omega) (by omega)
      refine ⟨ou', g1, fun t => ?_⟩
      rw [g2 t]
      by_cases q : t = 32 * v + i
      · subst q; rw [if_neg (by omega), if_pos (by omega), pk_us]; exact congrArg w (by omega)
      · rw [pk_un q]
        by_cases q2 : 32 * v + (i + 1) ≤ t ∧ t < 32 * v + 32
        · rw [if_pos q2, if_pos (by omega)]
        · rw [if_neg q2, if_neg (by omega)]
theorem mkIn {pwr lg st ou inn m p r s l w : Nat → Int32} {D fr v : Nat} (hT : TabF pwr lg) (hfr : fr ≤ 640) (hv : v < fr) (ho : ∀ j, j < fr → ∀ i, i < 28 → ou (28 * j + i) = nI (oV st D j i)) : ∃ in' m' p' r' s' l' w', fX10_makeInner inn lg m ou p pwr r s l w (nI v) = some (in', m', p', r', s', l', w') ∧ (∀ i, i < 32 → in' (32 * v + i) = nI (iV st D v i)) ∧ ∀ t, (t < 32 * v ∨ 32 * v + 32 ≤ t) → in' t = inn t := by
  unfold fX10_makeInner
  rw [jkE]
  obtain ⟨w1, a1, a2⟩ := (fun jj => mkI2 (jj := jj) (st := st) hfr hv ho FU 0 w (by omega) (by rw [FU_eq]; omega) (fun t ht => by omega)) _
  have a1' : fX10_makeInner_L2 _ (nI v) ou FU 0 w = _ := a1
  obtain ⟨m', p', r', s', l', w', b1, b2, b3⟩ := check_eq (n := 32) (fc := 28) (x1 := 1) (mk := mkI) (W := iWd st D v) (w := w1) hT m p r s l rfl (by omega) (by omega) isC_i (fun i hi => btI i (by omega)) popI (iWd_lt _ _ _) (fun t ht hn => a2 t (by omega))
  obtain ⟨in', c1, c2⟩ := mkI54 (m := m') (p := p') (r := r') (s := s') (l := l') (w := w') (show v < 640 from by omega) FU 0 inn (by omega) (by rw [FU_eq]; omega)
  have c1' : fX10_makeInner_L54 m' p' r' s' l' w' (nI v) FU 0 inn = _ := c1
  rw [a1', b1, ob6E, c1']
  refine ⟨in', m', p', r', s', l', w', rfl, fun i hi => ?_, fun t ht => ?_⟩
  · rw [c2, if_pos (by omega), show 32 * v + i - 32 * v = i from by omega, b2 i hi]; rfl
  · rw [c2, if_neg (by omega)]
theorem pr77 {jj : (Nat → Int32) → (Nat → Int32) → (Nat → Int32) → (Nat → Int32) → (Nat → Int32) → (Nat → Int32) → (Nat → Int32) → Option (Int32 × Int32 × Int32 × Int32 × Int32 × Int32 × Int32 × Int32 × Int32 × Int32 × Int32 × Int32 × Int32 × (Nat → Int32) × (Nat → Int32) × (Nat → Int32) × (Nat → Int32) × (Nat → Int32) × (Nat → Int32) × (Nat → Int32) × (Nat → Int32) × (Nat → Int32) × (Nat → Int32))} {pwr lg st ou : Nat → Int32} {D fr : Nat} (hT : TabF pwr lg) (hfr : fr ≤ 640) (ho : ∀ j, j < fr → ∀ i, i < 28 → ou (28 * j + i) = nI (oV st D j i)) : ∀ (F v : Nat) (inn m p r s l w : Nat → Int32), v ≤ fr → fr - v < F → (∀ j, j < v → ∀ i, i < 32 → inn (32 * j + i) = nI (iV st D j i)) →
    ∃ in' m' p' r' s' l' w', fX10_press_L77 (nI fr) jj lg ou pwr F (nI v) inn m p r s l w = jj in' m' p' r' s' l' w' ∧ ∀ j, j < fr → ∀ i, i < 32 → in' (32 * j + i) = nI (iV st D j i) := by
  intro F
  induction F with
  | zero => intro v inn m p r s l w _ h; omega
  | succ F ih =>
    intro v inn m p r s l w hv hF h
    rw [fX10_press_L77.eq_2]
    by_cases hc : fr ≤ v
    · rw [if_pos (nI_le hc (by omega))]
      exact ⟨inn, m, p, r, s, l, w, rfl, fun j hj => h j (by omega)⟩
    · obtain ⟨in', m', p', r', s', l', w', a1, a2, a3⟩ := mkIn (inn := inn) (m := m) (p := p) (r := r) (s := s) (l := l) (w := w) (st := st) hT hfr (show v < fr from by omega) ho
      rw [if_neg (nI_ge (by omega) (by omega)), a1, ob7E, nmE, nI_1]
      refine ih (v + 1) in' m' p' r' s' l' w' (by omega) (by omega) (fun j hj i hi => ?_)
      by_cases z : j = v
      · rw [z]; exact a2 i hi
      · rw [a3 _ (by omega)]; exact h j (by omega) i hi
theorem dby {st inn : Nat → Int32} {D fr f i : Nat} (hfr : fr ≤ 640) (hf : f < fr) (hi : i < 32) (h : ∀ j, j < fr → ∀ i, i < 32 → inn (32 * j + i) = nI (iV st D j i)) : fX10_discByte inn (nI f) (nI i) = some (nI (if trn i then 255 - frB st D f i else frB st D f i)) := by
  unfold fX10_discByte
  simp only [jkE]
  have hmod : (nI i - nI i / (2 : Int32) * (2 : Int32) = 0) ↔ i % 2 = 0 := by
    rw [show nI i / (2 : Int32) = nI (i / 2) from pk_div (d := 2) (by omega) (by omega) (by omega), show nI (i / 2) * (2 : Int32) = nI (i / 2 * 2) from pk_mul _ 2, pk_sub (by omega), show (0 : Int32) = nI 0 from rfl, nI_eq (by omega) (by omega)]
    omega
  have fin : ∀ x : Nat, x < 256 → x = frB st D f i → (nt1 (fX10_isTurned (nI i)) fun r_5 => if r_5 = 0 then some (nI x) else some ((255 : Int32) - nI x)) = some (nI (if trn i then 255 - frB st D f i else frB st D f i)) := fun x hx hxe => by
    rw [nt1E, trR i hi, ← hxe]
    cases trn i
    · rw [if_pos (show b01 false = (0 : Int32) from rfl)]; rfl
    · rw [if_neg (show ¬ b01 true = (0 : Int32) from by decide), show (255 : Int32) - nI x = nI (255 - x) from pk_sub (a := 255) (by omega)]; rfl
  have row : ∀ g : Nat, g < fr → iV st D g i = frB st D f i → (if 0 ≤ nI g then og (ixb (((32 : Int32) * nI g) + nI i) 20480) (nt1 (fX10_isTurned (nI i)) fun r_5 => if r_5 = 0 then some (inn (Int32.toNatClampNeg (((32 : Int32) * nI g) + nI i))) else some ((255 : Int32) - inn (Int32.toNatClampNeg (((32 : Int32) * nI g) + nI i)))) else nt1 (fX10_isTurned (nI i)) fun r_5 => if r_5 = 0 then some 0 else some ((255 : Int32) - 0)) = some (nI (if trn i then 255 - frB st D f i else frB st D f i)) := fun g hg he => by
    rw [if_pos (nI_pos' (by omega)), show (32 : Int32) * nI g = nI (32 * g) from pk_mul 32 g, nI_add, og_nI (by omega) (by omega), nI_clamp (by omega), h g hg i hi]
    exact fin _ (iV_lt _ _ _ _) he
  by_cases q : i % 2 = 0
  · rw [if_pos (hmod.mpr q)]
    by_cases hl : 1 ≤ f
    · rw [show nI f - (1 : Int32) = nI (f - 1) from pk_sub (b := 1) hl]
      exact row (f - 1) (by omega) (by unfold frB; rw [if_pos q, if_pos hl])
    · rw [show f = 0 from by omega, if_neg (by decide)]
      have := fin 0 (by omega) (by unfold frB; rw [if_pos q, if_neg hl])
      rw [show f = 0 from by omega] at this
      exact this
  · rw [if_neg (fun z => q (hmod.mp z))]
    exact row f hf (by unfold frB; rw [if_neg q])
