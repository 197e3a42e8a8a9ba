/-! ===== press: outer words, inner words, frames ===== -/
theorem and255b (x : Int32) : x &&& 255 = nI (x.toBitVec.toNat % 256) := pk_and x (m := 255) 8 (by decide)
def rwI (i : Nat) : Nat := if i < 12 then 2 else 0
/-- the outer word v with K bytes of the stream in, no checks yet -/
def oW (st : Nat → Int32) (K v i : Nat) : Nat := if (i < 28 ∧ ¬ (12 ≤ i ∧ i < 16)) ∧ rwI i ≤ v ∧ 24 * (v - rwI i) + bA i < K then (st (24 * (v - rwI i) + bA i)).toBitVec.toNat % 256 else 0
theorem oW_lt (st : Nat → Int32) (K v i : Nat) : oW st K v i < 256 := by
  unfold oW
  by_cases q : (i < 28 ∧ ¬ (12 ≤ i ∧ i < 16)) ∧ rwI i ≤ v ∧ 24 * (v - rwI i) + bA i < K
  · rw [if_pos q]; omega
  · rw [if_neg q]; omega
def oV (st : Nat → Int32) (K v : Nat) : Nat → Nat := sV (oW st K v) 28 12
def iWd (st : Nat → Int32) (K w i : Nat) : Nat := if i < 28 ∧ 4 * i ≤ w then oV st K (w - 4 * i) i else 0
def iV (st : Nat → Int32) (K w : Nat) : Nat → Nat := sV (iWd st K w) 32 28
def frB (st : Nat → Int32) (K f i : Nat) : Nat := if i % 2 = 0 then (if 1 ≤ f then iV st K (f - 1) i else 0) else iV st K f i
theorem oV_lt (st : Nat → Int32) (K v i : Nat) : oV st K v i < 256 := sV_lt (oW_lt st K v) 28 12 i
theorem iWd_lt (st : Nat → Int32) (K w i : Nat) : iWd st K w i < 256 := by
  unfold iWd
  by_cases q : i < 28 ∧ 4 * i ≤ w
  · rw [if_pos q]; exact oV_lt _ _ _ _
  · rw [if_neg q]; omega
theorem iV_lt (st : Nat → Int32) (K w i : Nat) : iV st K w i < 256 := sV_lt (iWd_lt st K w) 32 28 i
theorem frB_lt (st : Nat → Int32) (K f i : Nat) : frB st K f i < 256 := by
  unfold frB
  by_cases q : i % 2 = 0
  · rw [if_pos q]
    by_cases q2 : 1 ≤ f
    · rw [if_pos q2]; exact iV_lt _ _ _ _
    · rw [if_neg q2]; omega
  · rw [if_neg q]; exact iV_lt _ _ _ _
theorem moL3 {jj : (Nat → Int32) → Option (Int32 × (Nat → Int32) × (Nat → Int32) × (Nat → Int32) × (Nat → Int32))} {st : Nat → Int32} {D : Nat} (hD : D ≤ 11712) : ∀ (F k : Nat) (c : Nat → Int32), k ≤ D → D - k < F → (∀ v i, v < 640 → i < 32 → c (v * 32 + i) &&& 255 = nI (oW st k v i)) →
    ∃ c', fX6_makeOuterWords_L3 (nI D) jj 11712 st F (nI k) c = jj c' ∧ ∀ v i, v < 640 → i < 32 → c' (v * 32 + i) &&& 255 = nI (oW st D v i) := by
  intro F
  induction F with
  | zero => intro k c _ h; omega
  | succ F ih =>
    intro k c hk hF h
    rw [fX6_makeOuterWords_L3.eq_2]
    by_cases h1 : D ≤ k
    · rw [if_pos (nI_le h1 (by omega))]
      have e : k = D := by omega
      subst e
      exact ⟨c, rfl, h⟩
    · have ho : k % 24 < 24 := by omega
      have hrl := rwOf_le (k % 24)
      obtain ⟨p1, p2, p3⟩ := bA_p (k % 24) ho
      rw [if_neg (nI_ge (by omega) (by omega)), if_neg (show ¬ Int32.ofNat 11712 ≤ nI k from nI_ge (b := 11712) (by omega) (by omega)), show nI k / (24 : Int32) = nI (k / 24) from pk_div (d := 24) (by omega) (by omega) (by omega), show nI (k / 24) * (24 : Int32) = nI (k / 24 * 24) from pk_mul _ 24, pk_sub (by omega), show k - k / 24 * 24 = k % 24 from by omega, nmE, lagOf_eq _ ho, nt1E, placeOf_eq _ ho, nt1E, og_nI (by omega) (by omega), nI_add, nI_clamp (by omega), set_eq (by omega) (by omega), ob1E, nmE, nI_1]
      refine ih (k + 1) _ (by omega) (by omega) (fun v i hv hi => ?_)
      by_cases q : v * 32 + i = (k / 24 + rwOf (k % 24)) * 32 + plOf (k % 24)
      · have q1 : v = k / 24 + rwOf (k % 24) := by omega
        have q2 : i = plOf (k % 24) := by omega
        obtain ⟨_, _, _, b4⟩ := bA_f (plOf (k % 24)) p2 p3
        rw [p1] at b4
        have hr : rwI (plOf (k % 24)) = rwOf (k % 24) := b4.symm
        have hidx : 24 * (v - rwI i) + bA i = k := by rw [q2, hr, p1, q1]; omega
        rw [q, pk_us, low8, and255b]
        unfold oW
        rw [if_pos ⟨by rw [q2]; exact ⟨p2, p3⟩, by rw [q2, hr, q1]; omega, by rw [hidx]; omega⟩, hidx]
      · rw [pk_un q, h v i hv hi]
        congr 1
        unfold oW
        by_cases q2 : (i < 28 ∧ ¬ (12 ≤ i ∧ i < 16)) ∧ rwI i ≤ v ∧ 24 * (v - rwI i) + bA i < k
        · rw [if_pos q2, if_pos ⟨q2.1, q2.2.1, by have := q2.2.2; omega⟩]
        · rw [if_neg q2]
          by_cases q3 : (i < 28 ∧ ¬ (12 ≤ i ∧ i < 16)) ∧ rwI i ≤ v ∧ 24 * (v - rwI i) + bA i < k + 1
          · exfalso
            obtain ⟨a1, a2, a3⟩ := q3
            have hk2 : 24 * (v - rwI i) + bA i = k := by
              rcases Nat.lt_or_ge (24 * (v - rwI i) + bA i) k with z | z
              · exact absurd ⟨a1, a2, z⟩ q2
              · omega
            obtain ⟨b1, b2, b3, b4⟩ := bA_f i a1.1 a1.2
            have hk24 : k / 24 = v - rwI i := by omega
            have hkm : k % 24 = bA i := by omega
            have hrw : rwOf (bA i) = rwI i := b4
            refine q ?_
            rw [hk24, hkm, b3, hrw]; omega
          · rw [if_neg q3]
/-- rows: the first n are outer words with checks -/
def RW (c : Nat → Int32) (W : Nat → Nat) (v : Nat) : Prop := ∀ i, i < 32 → c (v * 32 + i) &&& 255 = nI (W i)
theorem sV_out {W : Nat → Nat} {n fc i : Nat} (h : ¬ (fc ≤ i ∧ i < fc + 4)) : sV W n fc i = W i := by
  unfold sV
  exact upW_no 4 (fun t ht w => h ⟨by have w' : fc + t = i := w; omega, by have w' : fc + t = i := w; omega⟩)
theorem moL59 {pwr lg st : Nat → Int32} {D fr : Nat} (hT : TabF pwr lg) (hfr : fr ≤ 640) : ∀ (F v : Nat) (sp : Int32) (lo so su c : Nat → Int32), v ≤ fr → fr - v < F → (∀ j, j < v → RW c (oV st D j) j) → (∀ j, v ≤ j → j < 640 → RW c (oW st D j) j) →
    ∃ sp' lo' so' su' c', fX6_makeOuterWords_L59 (nI fr) 12 28 lg pwr F (nI v) sp lo so su c = some (sp', lo', so', su', c') ∧ (∀ j, j < fr → RW c' (oV st D j) j) := by
  intro F
  induction F with
  | zero => intro v sp lo so su c _ h; omega
  | succ F ih =>
    intro v sp lo so su c hv hF h1 h2
    rw [fX6_makeOuterWords_L59.eq_2]
    by_cases hc : fr ≤ v
    · rw [if_pos (nI_le hc (by omega))]
      exact ⟨sp, lo, so, su, c, rfl, fun j hj => h1 j (by omega)⟩
    · obtain ⟨sp', lo', so', su', c', g1, g2⟩ := settle_eq (n := 28) (fc := 12) (fr := v * 32) (A := 20480) (sp := sp) (W := oW st D v) (c := c) hT lo so su (by omega) (by omega) (by omega) (by omega) (oW_lt _ _ _) (fun i hi => h2 v (by omega) (by omega) i (by omega))
      have g1' : fX0_settle 12 28 sp lo so su lg pwr c 20480 (nI (v * 32)) = _ := g1
      unfold fX7_startOf
      rw [if_neg (nI_ge (by omega) (by omega)), nt1E, show nI v * (32 : Int32) = nI (v * 32) from pk_mul v 32, g1', ob5E, nmE, nI_1]
      refine ih (v + 1) sp' lo' so' su' c' (by omega) (by omega) (fun j hj i hi => ?_) (fun j hj hj6 i hi => ?_)
      · by_cases z : j = v
        · subst z
          by_cases z2 : i < 28
          · exact g2.1 i z2
          · rw [g2.2.2 _ (Or.inr (by omega)), h2 j (by omega) (by omega) i hi]
            unfold oV
            rw [sV_out (by omega)]
        · rw [g2.2.2 _ (by omega)]; exact h1 j (by omega) i hi
      · rw [g2.2.2 _ (by omega)]; exact h2 j (by omega) hj6 i hi
theorem get_neg {c : Nat → Int32} {x : Int32} {p : Nat} (h : x < 0) : fX7_get c x (nI p) = some 0 := by
  unfold fX7_get fX7_isCell
  rw [if_pos h, nt1E, if_pos rfl]
theorem sub_neg {a b : Nat} (h : a < b) (hb : b < 100000) : nI a - nI b < 0 := by
  have h1 := nI_ti (n := a) (by omega)
  have h2 := nI_ti (n := b) (by omega)
  have h0 : (0 : Int32).toInt = 0 := by decide
  refine ti_lt.mpr ?_
  rw [ti_sub (by omega) (by omega)]; omega
theorem miL10 {jj : (Nat → Int32) → Option (Int32 × (Nat → Int32) × (Nat → Int32) × (Nat → Int32) × (Nat → Int32))} {st c0 : Nat → Int32} {D w : Nat} (hw : w < 640) (h0 : ∀ j, j ≤ w → RW c0 (oV st D j) j) : ∀ (F i : Nat) (c : Nat → Int32), i ≤ 28 → 28 - i < F → (∀ t, t < i → c (w * 32 + t) &&& 255 = nI (iWd st D w t)) → (∀ p, (p < w * 32 ∨ w * 32 + i ≤ p) → c p = c0 p) →
    ∃ c', fX6_makeInnerWords_L10 jj (nI w) F (nI i) c = jj c' ∧ (∀ t, t < 28 → c' (w * 32 + t) &&& 255 = nI (iWd st D w t)) ∧ ∀ p, (p < w * 32 ∨ w * 32 + 28 ≤ p) → c' p = c0 p := by
  intro F
  induction F with
  | zero => intro i c _ h; omega
  | succ F ih =>
    intro i c hi hF h1 h2
    rw [fX6_makeInnerWords_L10.eq_2]
    by_cases hc : 28 ≤ i
    · rw [if_pos (show (28 : Int32) ≤ nI i from nI_le (a := 28) hc (by omega))]
      have e : i = 28 := by omega
      subst e
      exact ⟨c, rfl, h1, h2⟩
    · rw [if_neg (show ¬ (28 : Int32) ≤ nI i from nI_ge (b := 28) (by omega) (by omega)), show (4 : Int32) * nI i = nI (4 * i) from pk_mul 4 i]
      have go : ∀ x : Nat, x < 256 → x = iWd st D w i → fX7_get c (nI w - nI (4 * i)) (nI i) = some (nI x) → ∃ c', (ob1 (fX7_get c (nI w - nI (4 * i)) (nI i)) fun r_26 => ob1 (fX7_set c (nI w) (nI i) r_26) fun v_rows_cells_28 => nm (nI i + 1 : Int32) fun x3_30 => fX6_makeInnerWords_L10 jj (nI w) F x3_30 v_rows_cells_28) = jj c' ∧ (∀ t, t < 28 → c' (w * 32 + t) &&& 255 = nI (iWd st D w t)) ∧ ∀ p, (p < w * 32 ∨ w * 32 + 28 ≤ p) → c' p = c0 p := fun x hx hxe hg => by
        rw [hg, ob1E, set_eq hw (by omega), ob1E, nmE, nI_1]
        refine ih (i + 1) _ (by omega) (by omega) (fun t ht => ?_) (fun p hp => ?_)
        · by_cases z : t = i
          · rw [z, pk_us, cell255 hx, hxe]
          · rw [pk_un (by omega)]; exact h1 t (by omega)
        · rw [pk_un (by omega)]; exact h2 p (by omega)
      by_cases hl : 4 * i ≤ w
      · refine go (oV st D (w - 4 * i) i) (oV_lt _ _ _ _) (by unfold iWd; rw [if_pos ⟨by omega, hl⟩]) ?_
        rw [pk_sub hl, get_eq (by omega) (by omega), h2 _ (by omega), h0 (w - 4 * i) (by omega) i (by omega)]
      · refine go 0 (by omega) (by unfold iWd; rw [if_neg (fun z => hl z.2)]) ?_
        rw [get_neg (sub_neg (by omega) (by omega))]; rfl
theorem miL4 {pwr lg st : Nat → Int32} {D fr : Nat} (hT : TabF pwr lg) (hfr : fr ≤ 640) : ∀ (F K : Nat) (sp : Int32) (lo so su c : Nat → Int32), K ≤ fr → K < F → (∀ j, j < K → RW c (oV st D j) j) → (∀ j, K ≤ j → j < fr → RW c (iV st D j) j) →
    ∃ sp' lo' so' su' c', fX6_makeInnerWords_L4 28 32 lg pwr F (dn K) sp lo so su c = some (sp', lo', so', su', c') ∧ ∀ j, j < fr → RW c' (iV st D j) j := by
  intro F
  induction F with
  | zero => intro K sp lo so su c _ h; omega
  | succ F ih =>
    intro K sp lo so su c hK hF h1 h2
    rw [fX6_makeInnerWords_L4.eq_2]
    cases K with
    | zero =>
      rw [if_pos dn_0]
      exact ⟨sp, lo, so, su, c, rfl, fun j hj => h2 j (by omega) hj⟩
    | succ w =>
      rw [show dn (w + 1) = nI w from rfl, if_neg (nI_pos (by omega)), jkE]
      obtain ⟨c1, a1, a2, a3⟩ := (fun jj => miL10 (jj := jj) (st := st) (D := D) (c0 := c) (w := w) (by omega) (fun j hj => h1 j (by omega)) FU 0 c (by omega) (by rw [FU_eq]; omega) (fun t ht => by omega) (fun p _ => rfl)) _
      have a1' : fX6_makeInnerWords_L10 _ (nI w) FU 0 c = _ := a1
      obtain ⟨sp', lo', so', su', c', g1, g2⟩ := settle_eq (n := 32) (fc := 28) (fr := w * 32) (A := 20480) (sp := sp) (W := iWd st D w) (c := c1) hT lo so su (by omega) (by omega) (by omega) (by omega) (iWd_lt _ _ _) (fun i hi => by
        by_cases z : i < 28
        · exact a2 i z
        · rw [a3 _ (Or.inr (by omega)), h1 w (by omega) i hi]
          have e1 : oV st D w i = 0 := by
            unfold oV
            rw [sV_out (by omega)]
            unfold oW
            rw [if_neg (fun q => by have := q.1.1; omega)]
          have e2 : iWd st D w i = 0 := by unfold iWd; rw [if_neg (fun q => by have := q.1; omega)]
          rw [e1, e2])
      have g1' : fX0_settle 28 32 sp lo so su lg pwr c1 20480 (nI (w * 32)) = _ := g1
      unfold fX7_startOf
      rw [a1', nt1E, show nI w * (32 : Int32) = nI (w * 32) from pk_mul w 32, g1', ob5E, nmE, dn_s]
      refine ih w sp' lo' so' su' c' (by omega) (by omega) (fun j hj i hi => ?_) (fun j hj hjf i hi => ?_)
      · rw [g2.2.2 _ (by omega), a3 _ (by omega)]; exact h1 j (by omega) i hi
      · by_cases z : j = w
        · subst z
          exact g2.1 i hi
        · rw [g2.2.2 _ (by omega), a3 _ (by omega)]; exact h2 j (by omega) hjf i hi
theorem mfL10 {jj : (Nat → Int32) → Option (Nat → Int32)} {st c0 : Nat → Int32} {D f : Nat} (hf : f < 640) (h0 : ∀ j, j ≤ f → RW c0 (iV st D j) j) : ∀ (F t : Nat) (c : Nat → Int32), t ≤ 16 → 16 - t < F → (∀ i, i < 32 → c (f * 32 + i) &&& 255 = nI (if i < 2 * t then frB st D f i else iV st D f i)) → (∀ p, (p < f * 32 ∨ f * 32 + 32 ≤ p) → c p = c0 p) →
    ∃ c', fX6_makeFrames_L10 jj (nI f) F (nI (2 * t)) c = jj c' ∧ RW c' (frB st D f) f ∧ ∀ p, (p < f * 32 ∨ f * 32 + 32 ≤ p) → c' p = c0 p := by
  intro F
  induction F with
  | zero => intro t c _ h; omega
  | succ F ih =>
    intro t c ht hF h1 h2
    rw [fX6_makeFrames_L10.eq_2]
    by_cases hc : 16 ≤ t
    · rw [if_pos (show (32 : Int32) ≤ nI (2 * t) from nI_le (a := 32) (by omega) (by omega))]
      exact ⟨c, rfl, fun i hi => by rw [h1 i hi, if_pos (by omega)], h2⟩
    · rw [if_neg (show ¬ (32 : Int32) ≤ nI (2 * t) from nI_ge (b := 32) (by omega) (by omega))]
      have go : ∀ x : Nat, x < 256 → x = frB st D f (2 * t) → fX7_get c (nI f - (1 : Int32)) (nI (2 * t)) = some (nI x) → ∃ c', (ob1 (fX7_get c (nI f - (1 : Int32)) (nI (2 * t))) fun r_13 => ob1 (fX7_set c (nI f) (nI (2 * t)) r_13) fun v_rows_cells_15 => nm (nI (2 * t) + 2 : Int32) fun x3_17 => fX6_makeFrames_L10 jj (nI f) F x3_17 v_rows_cells_15) = jj c' ∧ RW c' (frB st D f) f ∧ ∀ p, (p < f * 32 ∨ f * 32 + 32 ≤ p) → c' p = c0 p := fun x hx hxe hg => by
        rw [hg, ob1E, set_eq hf (by omega), ob1E, nmE, show nI (2 * t) + (2 : Int32) = nI (2 * (t + 1)) from (nI_add _ 2).trans (congrArg nI (by omega))]
        refine ih (t + 1) _ (by omega) (by omega) (fun i hi => ?_) (fun p hp => ?_)
        · by_cases z : i = 2 * t
          · rw [z, pk_us, cell255 hx, if_pos (by omega), hxe]
          · rw [pk_un (by omega), h1 i hi]
            by_cases z2 : i < 2 * t
            · rw [if_pos z2, if_pos (by omega)]
            · rw [if_neg z2]
              by_cases z3 : i = 2 * t + 1
              · rw [if_pos (by omega)]
                unfold frB
                rw [if_neg (by omega)]
              · rw [if_neg (by omega)]
        · rw [pk_un (by omega)]; exact h2 p hp
      by_cases hl : 1 ≤ f
      · refine go (iV st D (f - 1) (2 * t)) (iV_lt _ _ _ _) (by unfold frB; rw [if_pos (by omega), if_pos hl]) ?_
        rw [show nI f - (1 : Int32) = nI (f - 1) from pk_sub (b := 1) hl, get_eq (by omega) (by omega), h2 _ (by omega), h0 (f - 1) (by omega) (2 * t) (by omega)]
      · refine go 0 (by omega) (by unfold frB; rw [if_pos (by omega), if_neg hl]) ?_
        rw [show f = 0 from by omega, get_neg (by decide)]; rfl
theorem mfL4 {st : Nat → Int32} {D fr : Nat} (hfr : fr ≤ 640) : ∀ (F K : Nat) (c : Nat → Int32), K ≤ fr → K < F → (∀ j, j < K → RW c (iV st D j) j) → (∀ j, K ≤ j → j < fr → RW c (frB st D j) j) →
    ∃ c', fX6_makeFrames_L4 F (dn K) c = some c' ∧ ∀ j, j < fr → RW c' (frB st D j) j := by
  intro F
  induction F with
  | zero => intro K c _ h; omega
  | succ F ih =>
    intro K c hK hF h1 h2
    rw [fX6_makeFrames_L4.eq_2]
    cases K with
    | zero =>
      rw [if_pos dn_0]
      exact ⟨c, rfl, fun j hj => h2 j (by omega) hj⟩
    | succ w =>
      rw [show dn (w + 1) = nI w from rfl, if_neg (nI_pos (by omega)), jkE]
      obtain ⟨c1, a1, a2, a3⟩ := (fun jj => mfL10 (jj := jj) (st := st) (D := D) (c0 := c) (f := w) (by omega) (fun j hj => h1 j (by omega)) FU 0 c (by omega) (by rw [FU_eq]; omega) (fun i hi => by rw [if_neg (by omega)]; exact h1 w (by omega) i hi) (fun p _ => rfl)) _
      have a1' : fX6_makeFrames_L10 _ (nI w) FU 0 c = _ := a1
      rw [a1', nmE, dn_s]
      refine ih w c1 (by omega) (by omega) (fun j hj i hi => ?_) (fun j hj hjf i hi => ?_)
      · rw [a3 _ (by omega)]; exact h1 j (by omega) i hi
      · by_cases z : j = w
        · subst z; exact a2 i hi
        · rw [a3 _ (by omega)]; exact h2 j (by omega) hjf i hi
