/-! ===== heal, mended ===== -/
theorem ob5E {A B C D E β : Type} (x : A) (y : B) (z : C) (u : D) (v : E) (k : A → B → C → D → E → Option β) : ob5 (some (x, y, z, u, v)) k = k x y z u v := (rfl : ob5 (some (x, y, z, u, v)) k = k x y z u v).trans rfl
theorem ob6E {A B C D E G β : Type} (x : A) (y : B) (z : C) (u : D) (v : E) (w : G) (k : A → B → C → D → E → G → Option β) : ob6 (some (x, y, z, u, v, w)) k = k x y z u v w := (rfl : ob6 (some (x, y, z, u, v, w)) k = k x y z u v w).trans rfl
theorem ob7E {A B C D E G H β : Type} (x : A) (y : B) (z : C) (u : D) (v : E) (w : G) (t : H) (k : A → B → C → D → E → G → H → Option β) : ob7 (some (x, y, z, u, v, w, t)) k = k x y z u v w t := (rfl : ob7 (some (x, y, z, u, v, w, t)) k = k x y z u v w t).trans rfl
theorem allP {n : Nat} (hn : n = 28 ∨ n = 32) : ∀ i, i < 32 → bt (fX0_allPlaces (nI n)) i = decide (i < n) := by
  rcases hn with rfl | rfl
  · decide +kernel
  · decide +kernel
theorem cnt_eq {n : Nat} (hn : n = 28 ∨ n = 32) (mk : Int32) : fJ6_bitCount_0f7a4 (mk &&& fX0_allPlaces (nI n)) = nI (pop (bt mk) n) := by
  rw [bitCount_eq, pop_congr (B := fun i => bt mk i && decide (i < n)) 32 (fun i hi => by rw [b_and, allP hn i hi])]
  rw [pop_const' (a := n) (b := 32) (by omega) (fun p h1 h2 => by rw [decide_eq_false (by omega)]; simp), pop_congr (B := bt mk) n (fun i hi => by rw [decide_eq_true hi]; simp)]
theorem hL {jj : Int32 → (Nat → Int32) → Option (Int32 × Int32 × (Nat → Int32) × (Nat → Int32) × (Nat → Int32) × (Nat → Int32) × (Nat → Int32))} {n : Nat} {mk : Int32} (hn : n ≤ 32) (hm : pop (bt mk) n ≤ 4) : ∀ (F i : Nat) (spots : Nat → Int32), i ≤ n → n - i < F → (∀ t, t < pop (bt mk) i → spots t = nI (mP (bt mk) i t)) →
    ∃ spots', fX0_heal_L34 (nI n) jj mk F (nI i) (nI (pop (bt mk) i)) spots = jj (nI (pop (bt mk) n)) spots' ∧ ∀ t, t < pop (bt mk) n → spots' t = nI (mP (bt mk) n t) := by
  intro F
  induction F with
  | zero => intro i spots _ h; omega
  | succ F ih =>
    intro i spots hi hF hs
    rw [fX0_heal_L34.eq_2]
    by_cases h1 : n ≤ i
    · rw [if_pos (nI_le h1 (by omega)), show i = n from by omega]
      exact ⟨spots, rfl, by rw [show i = n from by omega] at hs; exact hs⟩
    · rw [if_neg (nI_ge (by omega) (by omega)), bt_tst mk i (by omega)]
      simp only [jkE, nmE]
      rw [nI_1]
      have hmono := pop_mono (bt mk) (i + 1) (n - (i + 1))
      rw [show i + 1 + (n - (i + 1)) = n from by omega] at hmono
      have hih := ih (i + 1)
      have es : pop (bt mk) (i + 1) = pop (bt mk) i + (bt mk i).toNat := rfl
      rw [es] at hmono
      rw [es, mP_s] at hih
      cases hb : bt mk i with
      | false =>
        rw [hb] at hih
        simp only [Bool.false_eq_true, if_false] at hih
        rw [if_neg (show ¬ b01 false = (1 : Int32) from by decide)]
        exact hih spots (by omega) (by omega) hs
      | true =>
        rw [hb] at hih hmono
        have hmono2 : pop (bt mk) i + 1 ≤ pop (bt mk) n := hmono
        simp only [if_true] at hih
        rw [if_pos (show b01 true = (1 : Int32) from rfl), addSpot_eq (by omega), ob2E]
        exact hih (upd spots (pop (bt mk) i) (nI i)) (by omega) (by omega) (fun t ht => by
          have : t < pop (bt mk) i + 1 := ht
          by_cases w : t = pop (bt mk) i
          · rw [w, pk_us, if_pos rfl]
          · rw [pk_un w, if_neg w]; exact hs t (by omega))
def CR (n fr : Nat) (c c' : Nat → Int32) (V : Nat → Nat) : Prop := (∀ i, i < n → c' (fr + i) &&& 255 = nI (V i)) ∧ (∀ p, isB (c p) → isB (c' p)) ∧ ∀ p, (p < fr ∨ fr + n ≤ p) → c' p = c p
theorem heal_eq {pwr lg : Nat → Int32} (hT : TabF pwr lg) {n q fr A : Nat} {mk sp : Int32} {W : Nat → Nat} (loc rest spots sums c : Nat → Int32) (hn : n = 28 ∨ n = 32) (hq : q ≤ 2) (hA : A < 1000000) (hf : fr + n ≤ A) (hW : ∀ i, W i < 256) (hc : ∀ i, i < n → c (fr + i) &&& 255 = nI (W i)) :
    (∃ (k : Nat) (P : Nat → Nat) (sp' : Int32) (loc' rest' spots' sums' c' : Nat → Int32), fX0_heal (nI n) sp loc rest spots sums lg pwr c A (nI fr) mk (nI q) = some (nI k, sp', loc', rest', spots', sums', c') ∧ pop (bt mk) n ≤ 4 ∧ Dc n q mk (sS W n) k P ∧ CR n fr c c' (upW W P (eC (xX n P) (sS W n) k) k)) ∨
    (∃ (sp' : Int32) (loc' rest' spots' sums' : Nat → Int32), fX0_heal (nI n) sp loc rest spots sums lg pwr c A (nI fr) mk (nI q) = some (-2, sp', loc', rest', spots', sums', c) ∧ (4 < pop (bt mk) n ∨ ∀ k P, ¬ Dc n q mk (sS W n) k P)) := by
  have hn32 : n ≤ 32 := by omega
  have hS : ∀ j, sS W n j < 256 := fun j => syn_lt hW j n
  have hpl := pop_le (bt mk) n
  unfold fX0_heal
  rw [nt1E, cnt_eq hn, nt1E]
  by_cases hm : pop (bt mk) n ≤ 4
  · rw [if_pos (show nI (pop (bt mk) n) ≤ (4 : Int32) from nI_le (b := 4) hm (by omega))]
    obtain ⟨s1, a1, a2⟩ := sumUp_eq (s := sums) hA hf hW hc
    rw [a1, ob1E]
    simp only [jkE]
    have er : (if ((4 : Int32) - nI (pop (bt mk) n)) / (2 : Int32) < nI q then ((4 : Int32) - nI (pop (bt mk) n)) / (2 : Int32) else nI q) = nI (min q ((4 - pop (bt mk) n) / 2)) := by
      rw [show (4 : Int32) - nI (pop (bt mk) n) = nI (4 - pop (bt mk) n) from pk_sub (a := 4) hm, show nI (4 - pop (bt mk) n) / (2 : Int32) = nI ((4 - pop (bt mk) n) / 2) from pk_div (d := 2) (by omega) (by omega) (by omega)]
      by_cases w : (4 - pop (bt mk) n) / 2 < q
      · rw [if_pos (nI_lt w (by omega)), Nat.min_eq_right (by omega)]
      · rw [if_neg (nI_nlt (by omega) (by omega)), Nat.min_eq_left (by omega)]
    rw [er]
    obtain ⟨sp1, b1, b2⟩ := hL (mk := mk) (jj := fun v_spotted_8 v_spots_9 => ob5 (fX0_locate (nI n) v_spotted_8 loc rest v_spots_9 s1 lg pwr mk (nI (min q ((4 - pop (bt mk) n) / 2)))) fun r_11 v_spotted_12 v_locator_13 v_rest_14 v_spots_15 => if r_11 = 0 then some ((-2), v_spotted_12, v_locator_13, v_rest_14, v_spots_15, s1, c) else ob2 (fX0_correct (nI n) v_spotted_12 v_locator_13 v_spots_15 s1 lg pwr c A (nI fr)) fun v_locator_18 v_arg1_19 => some (v_spotted_12, v_spotted_12, v_locator_18, v_rest_14, v_spots_15, s1, v_arg1_19)) hn32 hm FU 0 spots (by omega) (by rw [FU_eq]; omega) (fun t ht => absurd ht (Nat.not_lt_zero t))
    have b1' : fX0_heal_L34 (nI n) _ mk FU 0 0 spots = _ := b1
    rw [b1']
    rcases locate_eq (S := sS W n) hT loc rest hn32 hm hq b2 a2 hS with ⟨k, P, l2, r2, sp2, d1, d2, d3⟩ | ⟨spx, l2, r2, sp2, d1, d2⟩
    · rw [d1]
      obtain ⟨k1, k2, k3, k4⟩ := Dc_ok hn32 hm hS d2
      obtain ⟨l3, c3, e1, e2, e3, e4⟩ := correct_eq hT (n := n) (k := k) (fr := fr) (A := A) (P := P) (S := sS W n) (spots := sp2) (sums := s1) (W := W) l2 c hn32 k1 hA hf (fun t ht => ⟨d3 t ht, k2 t ht⟩) k3 a2 hS hW hc
      refine Or.inl ⟨k, P, nI k, l3, r2, sp2, s1, c3, ?_, hm, d2, e2, e3, e4⟩
      rw [ob5E, if_neg ne10, e1, ob2E]
    · rw [d1]
      exact Or.inr ⟨spx, l2, r2, sp2, s1, by rw [ob5E, if_pos rfl], Or.inr d2⟩
  · rw [if_neg (show ¬ nI (pop (bt mk) n) ≤ (4 : Int32) from nI_ge (a := 4) (by omega) (by omega))]
    exact Or.inr ⟨sp, loc, rest, spots, sums, rfl, Or.inl (by omega)⟩
theorem md5 {jj : Int32 → (Nat → Int32) → Option (Int32 × (Nat → Int32) × (Nat → Int32) × (Nat → Int32) × (Nat → Int32) × (Nat → Int32))} {n : Nat} {mk : Int32} {mkd : Nat → Int32} (hn : n ≤ 32) (hmk : ∀ i, i < n → mkd i = b01 (bt mk i)) : ∀ (F i : Nat) (pl : Nat → Int32), i ≤ n → n - i < F → (∀ t, t < min 4 (pop (bt mk) i) → pl t = nI (mP (bt mk) i t)) →
    ∃ pl', fX10_mended_L5 (nI n) jj mkd F (nI i) (nI (pop (bt mk) i)) pl = jj (nI (pop (bt mk) n)) pl' ∧ ∀ t, t < min 4 (pop (bt mk) n) → pl' t = nI (mP (bt mk) n t) := by
  intro F
  induction F with
  | zero => intro i pl _ h; omega
  | succ F ih =>
    intro i pl hi hF hs
    rw [fX10_mended_L5.eq_2]
    by_cases h1 : n ≤ i
    · rw [if_pos (nI_le h1 (by omega)), show i = n from by omega]
      exact ⟨pl, rfl, by rw [show i = n from by omega] at hs; exact hs⟩
    · rw [if_neg (nI_ge (by omega) (by omega)), og_nI (by omega) (by omega), nI_clamp (by omega), hmk i (by omega)]
      simp only [jkE, nmE]
      rw [nI_1, nI_1]
      have hle := pop_le (bt mk) i
      have hih := ih (i + 1)
      have es : pop (bt mk) (i + 1) = pop (bt mk) i + (bt mk i).toNat := rfl
      rw [es, mP_s] at hih
      cases hb : bt mk i with
      | false =>
        rw [hb] at hih
        simp only [Bool.false_eq_true, if_false] at hih
        rw [if_pos (show b01 false = (0 : Int32) from rfl)]
        exact hih pl (by omega) (by omega) hs
      | true =>
        rw [hb] at hih
        simp only [if_true] at hih
        rw [if_neg (show ¬ b01 true = (0 : Int32) from by decide)]
        by_cases h4 : pop (bt mk) i < 4
        · rw [if_neg (show ¬ (4 : Int32) ≤ nI (pop (bt mk) i) from nI_ge (b := 4) h4 (by omega)), og_nI (by omega) (by omega), nI_clamp (by omega)]
          exact hih (upd pl (pop (bt mk) i) (nI i)) (by omega) (by omega) (fun t ht => by
            by_cases w : t = pop (bt mk) i
            · rw [w, pk_us, if_pos rfl]
            · rw [pk_un w, if_neg w]
              refine hs t ?_
              have : t < min 4 (pop (bt mk) i + 1) := ht
              omega)
        · rw [if_pos (show (4 : Int32) ≤ nI (pop (bt mk) i) from nI_le (a := 4) (by omega) (by omega))]
          exact hih pl (by omega) (by omega) (fun t ht => by
            have : t < min 4 (pop (bt mk) i + 1) := ht
            rw [if_neg (by omega)]
            exact hs t (by omega))
theorem md77 {j1 j2 : (Nat → Int32) → (Nat → Int32) → (Nat → Int32) → Option (Int32 × (Nat → Int32) × (Nat → Int32) × (Nat → Int32) × (Nat → Int32) × (Nat → Int32))} {pwr lg : Nat → Int32} (hT : TabF pwr lg) {n q : Nat} {mk : Int32} {S : Nat → Nat} {mkd sy : Nat → Int32} (hn : n ≤ 32) (hm : pop (bt mk) n ≤ 2) (hq : 1 ≤ q) (hq2 : q ≤ 2) (hmk : ∀ i, i < n → mkd i = b01 (bt mk i)) (hs : ∀ t, t < 4 → sy t = nI (S t)) (hS : ∀ t, S t < 256) : ∀ (F i : Nat) (pl rows vals : Nat → Int32), i ≤ n → n - i < F → (∀ t, t < pop (bt mk) n → pl t = nI (mP (bt mk) n t)) → (∀ i', i' < i → ¬ Sgl n mk S i') →
    (∃ (i' : Nat) (pl' r' v' : Nat → Int32) (e : Nat → Nat), fX10_mended_L77 (nI n) j1 (nI q) (nI (pop (bt mk) n)) mkd lg pwr sy j2 F (nI i) pl rows vals = j2 pl' r' v' ∧ Sgl n mk S i' ∧ (∀ t, t < pop (bt mk) n + 1 → pl' t = nI (exP (mP (bt mk) n) (pop (bt mk) n) i' t)) ∧ (∀ t, e t < 256) ∧ Sol S e (xX n (exP (mP (bt mk) n) (pop (bt mk) n) i')) (pop (bt mk) n + 1) ∧ ∀ t, t < pop (bt mk) n + 1 → v' t = nI (e t)) ∨
    (∃ (pl' r' v' : Nat → Int32), fX10_mended_L77 (nI n) j1 (nI q) (nI (pop (bt mk) n)) mkd lg pwr sy j2 F (nI i) pl rows vals = j1 pl' r' v' ∧ (∀ i', ¬ Sgl n mk S i') ∧ ∀ t, t < pop (bt mk) n → pl' t = nI (mP (bt mk) n t)) := by
  intro F
  induction F with
  | zero => intro i pl rows vals _ h; omega
  | succ F ih =>
    intro i pl rows vals hi hF hp hno
    rw [fX10_mended_L77.eq_2]
    by_cases h1 : n ≤ i
    · rw [if_pos (nI_le h1 (by omega))]
      exact Or.inr ⟨pl, rows, vals, rfl, fun i' w => hno i' (by have := w.1; omega) w, hp⟩
    · rw [if_neg (nI_ge (by omega) (by omega)), if_neg (nI_nle (by omega) (by omega)), if_neg (show ¬ (3 : Int32) ≤ nI (pop (bt mk) n) from nI_ge (b := 3) (by omega) (by omega)), og_nI (by omega) (by omega), nI_clamp (n := i) (by omega), hmk i (by omega)]
      simp only [jkE, nmE]
      rw [nI_1 i]
      have hgo : ¬ Sgl n mk S i → ∀ pl2 r2 v2 : Nat → Int32, (∀ t, t < pop (bt mk) n → pl2 t = nI (mP (bt mk) n t)) → _ := fun hns pl2 r2 v2 hp2 => ih (i + 1) pl2 r2 v2 (by omega) (by omega) hp2 (fun i' w => by
        by_cases z : i' = i
        · rw [z]; exact hns
        · exact hno i' (by omega))
      cases hb : bt mk i with
      | true =>
        rw [if_neg (show ¬ b01 true = (0 : Int32) from by decide)]
        exact hgo (fun w => by have := w.2.1; rw [hb] at this; exact absurd this (by decide)) pl rows vals hp
      | false =>
        rw [if_pos (show b01 false = (0 : Int32) from rfl), og_nI (by omega) (by omega), nI_clamp (by omega), show nI (pop (bt mk) n) + (1 : Int32) = nI (pop (bt mk) n + 1) from nI_1 _]
        have hok := ex_ok (mk := mk) (show i < n from by omega) hb
        have hp3 : ∀ t, t < pop (bt mk) n + 1 → upd pl (pop (bt mk) n) (nI i) t = nI (exP (mP (bt mk) n) (pop (bt mk) n) i t) := fun t ht => by
          unfold exP
          by_cases w : t = pop (bt mk) n
          · rw [if_pos w, w, pk_us]
          · rw [if_neg w, pk_un w]; exact hp t (by omega)
        obtain ⟨g, r2, v2, f1, f2, f3⟩ := fits_eq hT rows vals (n := n) (k := pop (bt mk) n + 1) (P := exP (mP (bt mk) n) (pop (bt mk) n) i) (S := S) (places := upd pl (pop (bt mk) n) (nI i)) (syn := sy) hn (by omega) (fun t ht => ⟨hp3 t ht, hok.1 t ht⟩) hok.2.2 hs hS
        rw [f1, ob3E]
        cases g with
        | false =>
          rw [if_pos (show b01 false = (0 : Int32) from rfl)]
          exact hgo (fun w => absurd (f3 w.2.2) (by decide)) _ r2 v2 (fun t ht => by rw [pk_un (by omega)]; exact hp t ht)
        | true =>
          rw [if_neg (show ¬ b01 true = (0 : Int32) from by decide)]
          obtain ⟨e, e1, e2, e3⟩ := f2 rfl
          exact Or.inl ⟨i, _, r2, v2, e, rfl, ⟨by omega, hb, e, e1, e2⟩, hp3, e1, e2, e3⟩
theorem ch_eq {n k : Nat} {W P E : Nat → Nat} {places vals w : Nat → Int32} (hn : n ≤ 32) (hk : k ≤ 4) (hP : ∀ t, t < k → places t = nI (P t) ∧ P t < n) (hv : ∀ t, t < k → vals t = nI (E t)) (hw : ∀ i, i < n → w i = nI (W i)) :
    ∃ w', fX10_changed places vals w (nI k) = some (nI k, w') ∧ (∀ i, i < n → w' i = nI (upW W P E k i)) ∧ ∀ i, n ≤ i → w' i = w i := by
  unfold fX10_changed
  exact chL hn hk hP hv FU 0 w (by omega) (by rw [FU_eq]; omega) hw
theorem mended_eq {pwr lg : Nat → Int32} (hT : TabF pwr lg) {n q : Nat} {mk : Int32} {W : Nat → Nat} {mkd w : Nat → Int32} (pl rows sy vals : Nat → Int32) (hn : n ≤ 32) (hq : q ≤ 2) (hW : ∀ i, W i < 256) (hmk : ∀ i, i < n → mkd i = b01 (bt mk i)) (hw : ∀ i, i < n → w i = nI (W i)) :
    (∃ (k : Nat) (P e : Nat → Nat) (pl' r' s' v' w' : Nat → Int32), fX10_mended lg mkd pl pwr rows sy vals w (nI n) (nI q) = some (nI k, pl', r', s', v', w') ∧ pop (bt mk) n ≤ 4 ∧ Dc n q mk (sS W n) k P ∧ (∀ t, e t < 256) ∧ Sol (sS W n) e (xX n P) k ∧ (∀ i, i < n → w' i = nI (upW W P e k i)) ∧ ∀ i, n ≤ i → w' i = w i) ∨
    (∃ (pl' r' s' v' : Nat → Int32), fX10_mended lg mkd pl pwr rows sy vals w (nI n) (nI q) = some (-2, pl', r', s', v', w) ∧ (4 < pop (bt mk) n ∨ ∀ k P, ¬ Dc n q mk (sS W n) k P)) := by
  have hS : ∀ j, sS W n j < 256 := fun j => syn_lt hW j n
  have hpl := pop_le (bt mk) n
  unfold fX10_mended
  simp only [jkE]
  obtain ⟨p1, a1, a2⟩ := md5 (mk := mk) (mkd := mkd) (jj := fun x3_1 v_places_2 => if x3_1 ≤ (4 : Int32) then ob1 (fX10_findSyndromes lg pwr sy w (nI n)) fun v_syndromes_5 => ob3 (fX10_fits lg v_places_2 pwr rows v_syndromes_5 vals (nI n) x3_1) fun r_7 v_rows_8 v_values_9 => if r_7 = 0 then fX10_mended_L77 (nI n) (fun v_places_12 v_rows_13 v_values_14 => if nI q ≤ (1 : Int32) then some ((-2), v_places_12, v_rows_13, v_syndromes_5, v_values_14, w) else if x3_1 = 0 then ob2 (fX10_findTwo lg v_places_12 pwr v_syndromes_5 (nI n)) fun r_18 v_places_19 => if r_18 = 0 then some ((-2), v_places_19, v_rows_13, v_syndromes_5, v_values_14, w) else ob3 (fX10_fits lg v_places_19 pwr v_rows_13 v_syndromes_5 v_values_14 (nI n) 2) fun r_22 v_rows_23 v_values_24 => if r_22 = 0 then some ((-2), v_places_19, v_rows_23, v_syndromes_5, v_values_24, w) else ob2 (fX10_changed v_places_19 v_values_24 w 2) fun r_27 v_word_28 => some (r_27, v_places_19, v_rows_23, v_syndromes_5, v_values_24, v_word_28) else some ((-2), v_places_12, v_rows_13, v_syndromes_5, v_values_14, w)) (nI q) x3_1 mkd lg pwr v_syndromes_5 (fun v_places_30 v_rows_31 v_values_32 => ob2 (fX10_changed v_places_30 v_values_32 w (x3_1 + (1 : Int32))) fun r_34 v_word_35 => some (r_34, v_places_30, v_rows_31, v_syndromes_5, v_values_32, v_word_35)) FU 0 v_places_2 v_rows_8 v_values_9 else ob2 (fX10_changed v_places_2 v_values_9 w x3_1) fun r_59 v_word_60 => some (r_59, v_places_2, v_rows_8, v_syndromes_5, v_values_9, v_word_60) else some ((-2), v_places_2, rows, sy, vals, w)) hn hmk FU 0 pl (by omega) (by rw [FU_eq]; omega) (fun t ht => by
    have : t < min 4 0 := ht
    omega)
  have a1' : fX10_mended_L5 (nI n) _ mkd FU 0 0 pl = _ := a1
  rw [a1']
  by_cases hm : pop (bt mk) n ≤ 4
  · rw [if_pos (show nI (pop (bt mk) n) ≤ (4 : Int32) from nI_le (b := 4) hm (by omega))]
    obtain ⟨s1, b1, b2⟩ := findSyn_eq (s := sy) hT hn hW hw
    rw [b1, ob1E]
    have hp : ∀ t, t < pop (bt mk) n → p1 t = nI (mP (bt mk) n t) := fun t ht => a2 t (by omega)
    obtain ⟨g, r1, v1, c1, c2, c3⟩ := fits_eq hT rows vals (n := n) (k := pop (bt mk) n) (P := mP (bt mk) n) (S := sS W n) (places := p1) (syn := s1) hn hm (fun t ht => ⟨hp t ht, mk_ok.1 t ht⟩) mk_ok.2 b2 hS
    rw [c1, ob3E]
    cases g with
    | true =>
      rw [if_neg (show ¬ b01 true = (0 : Int32) from by decide)]
      obtain ⟨e, e1, e2, e3⟩ := c2 rfl
      obtain ⟨w', f1, f2, f3⟩ := ch_eq hn hm (fun t ht => ⟨hp t ht, mk_ok.1 t ht⟩) e3 hw
      rw [f1, ob2E]
      exact Or.inl ⟨_, mP (bt mk) n, e, p1, r1, s1, v1, w', rfl, hm, Or.inl ⟨⟨e, e1, e2⟩, rfl, rfl⟩, e1, e2, f2, f3⟩
    | false =>
      have hn0 : ¬ D0 n mk (sS W n) := fun z => absurd (c3 z) (by decide)
      rw [if_pos (show b01 false = (0 : Int32) from rfl)]
      -- behind the search of one
      have fin : ¬ D1 n q mk (sS W n) → ∀ pl2 r2 v2 : Nat → Int32, _ := fun hn1 pl2 r2 v2 => (show
        (∃ (k : Nat) (P e : Nat → Nat) (pl' r' s' v' w' : Nat → Int32), (if nI q ≤ (1 : Int32) then some ((-2 : Int32), pl2, r2, s1, v2, w) else if nI (pop (bt mk) n) = 0 then ob2 (fX10_findTwo lg pl2 pwr s1 (nI n)) fun r_18 v_places_19 => if r_18 = 0 then some ((-2), v_places_19, r2, s1, v2, w) else ob3 (fX10_fits lg v_places_19 pwr r2 s1 v2 (nI n) 2) fun r_22 v_rows_23 v_values_24 => if r_22 = 0 then some ((-2), v_places_19, v_rows_23, s1, v_values_24, w) else ob2 (fX10_changed v_places_19 v_values_24 w 2) fun r_27 v_word_28 => some (r_27, v_places_19, v_rows_23, s1, v_values_24, v_word_28) else some ((-2), pl2, r2, s1, v2, w)) = some (nI k, pl', r', s', v', w') ∧ pop (bt mk) n ≤ 4 ∧ Dc n q mk (sS W n) k P ∧ (∀ t, e t < 256) ∧ Sol (sS W n) e (xX n P) k ∧ (∀ i, i < n → w' i = nI (upW W P e k i)) ∧ ∀ i, n ≤ i → w' i = w i) ∨
        (∃ (pl' r' s' v' : Nat → Int32), (if nI q ≤ (1 : Int32) then some ((-2 : Int32), pl2, r2, s1, v2, w) else if nI (pop (bt mk) n) = 0 then ob2 (fX10_findTwo lg pl2 pwr s1 (nI n)) fun r_18 v_places_19 => if r_18 = 0 then some ((-2), v_places_19, r2, s1, v2, w) else ob3 (fX10_fits lg v_places_19 pwr r2 s1 v2 (nI n) 2) fun r_22 v_rows_23 v_values_24 => if r_22 = 0 then some ((-2), v_places_19, v_rows_23, s1, v_values_24, w) else ob2 (fX10_changed v_places_19 v_values_24 w 2) fun r_27 v_word_28 => some (r_27, v_places_19, v_rows_23, s1, v_values_24, v_word_28) else some ((-2), pl2, r2, s1, v2, w)) = some (-2, pl', r', s', v', w) ∧ (4 < pop (bt mk) n ∨ ∀ k P, ¬ Dc n q mk (sS W n) k P)) from by
        have none : ¬ (q = 2 ∧ pop (bt mk) n = 0 ∧ 0 < dW (sS W n) ∧ pop (rtB n (sS W n)) n = 2) → ∀ k P, ¬ Dc n q mk (sS W n) k P := fun hz k P hc => by
          rcases hc with ⟨h1, _⟩ | ⟨h1, h2, h3, i, hi, _⟩ | ⟨h1, h2, h3, h4, h5, h6, _⟩
          · exact hn0 h1
          · exact hn1 ⟨h2, h3, i, hi⟩
          · exact hz ⟨h3, h4, h5, h6⟩
        by_cases hq2 : q = 2
        · rw [if_neg (show ¬ nI q ≤ (1 : Int32) from nI_ge (a := 1) (by omega) (by omega))]
          by_cases hm0 : pop (bt mk) n = 0
          · rw [if_pos (show nI (pop (bt mk) n) = (0 : Int32) from by rw [hm0]; rfl)]
            rcases findTwo_eq (S := sS W n) (pl := pl2) hT hn b2 hS with ⟨z1, z2⟩ | ⟨z1, pl3, z2, z3⟩
            · rw [z2, ob2E, if_pos rfl]
              exact Or.inr ⟨pl2, r2, s1, v2, rfl, Or.inr (none (fun z => by omega))⟩
            · rw [z2, ob2E]
              by_cases h2 : pop (rtB n (sS W n)) n = 2
              · rw [decide_eq_true h2, if_neg (show ¬ b01 true = (0 : Int32) from by decide)]
                rw [h2] at z3
                have hok := fun t (ht : t < 2) => mP_ok (rtB n (sS W n)) n t (by omega)
                have hdc : Dc n q mk (sS W n) 2 (mP (rtB n (sS W n)) n) := Or.inr (Or.inr ⟨hn0, hn1, hq2, hm0, z1, h2, rfl, rfl⟩)
                obtain ⟨k1, k2, k3, k4⟩ := Dc_ok hn hm hS hdc
                obtain ⟨g2, r3, v3, y1, y2, y3⟩ := fits_eq hT r2 v2 (n := n) (k := 2) (P := mP (rtB n (sS W n)) n) (S := sS W n) (places := pl3) (syn := s1) hn (by omega) (fun t ht => ⟨z3 t (by omega), k2 t ht⟩) k3 b2 hS
                have hg2 := y3 k4
                subst hg2
                obtain ⟨e, e1, e2, e3⟩ := y2 rfl
                obtain ⟨w', f1, f2, f3⟩ := ch_eq hn (show 2 ≤ 4 from by omega) (fun t ht => ⟨z3 t (by omega), k2 t ht⟩) e3 hw
                have y1' : fX10_fits lg pl3 pwr r2 s1 v2 (nI n) 2 = _ := y1
                have f1' : fX10_changed pl3 v3 w 2 = _ := f1
                rw [y1', ob3E, if_neg (show ¬ b01 true = (0 : Int32) from by decide), f1', ob2E]
                exact Or.inl ⟨2, _, e, pl3, r3, s1, v3, w', rfl, hm, hdc, e1, e2, f2, f3⟩
              · rw [decide_eq_false h2, if_pos (show b01 false = (0 : Int32) from rfl)]
                exact Or.inr ⟨pl3, r2, s1, v2, rfl, Or.inr (none (fun z => h2 z.2.2.2))⟩
          · rw [if_neg (nI_ne0 (by omega) (by omega))]
            exact Or.inr ⟨pl2, r2, s1, v2, rfl, Or.inr (none (fun z => hm0 z.2.1))⟩
        · rw [if_pos (show nI q ≤ (1 : Int32) from nI_le (b := 1) (by omega) (by omega))]
          exact Or.inr ⟨pl2, r2, s1, v2, rfl, Or.inr (none (fun z => hq2 z.1))⟩)
      by_cases hq1 : 1 ≤ q ∧ pop (bt mk) n ≤ 2
      · rcases md77 (j1 := fun v_places_12 v_rows_13 v_values_14 => if nI q ≤ (1 : Int32) then some ((-2), v_places_12, v_rows_13, s1, v_values_14, w) else if nI (pop (bt mk) n) = 0 then ob2 (fX10_findTwo lg v_places_12 pwr s1 (nI n)) fun r_18 v_places_19 => if r_18 = 0 then some ((-2), v_places_19, v_rows_13, s1, v_values_14, w) else ob3 (fX10_fits lg v_places_19 pwr v_rows_13 s1 v_values_14 (nI n) 2) fun r_22 v_rows_23 v_values_24 => if r_22 = 0 then some ((-2), v_places_19, v_rows_23, s1, v_values_24, w) else ob2 (fX10_changed v_places_19 v_values_24 w 2) fun r_27 v_word_28 => some (r_27, v_places_19, v_rows_23, s1, v_values_24, v_word_28) else some ((-2), v_places_12, v_rows_13, s1, v_values_14, w)) (j2 := fun v_places_30 v_rows_31 v_values_32 => ob2 (fX10_changed v_places_30 v_values_32 w (nI (pop (bt mk) n) + (1 : Int32))) fun r_34 v_word_35 => some (r_34, v_places_30, v_rows_31, s1, v_values_32, v_word_35)) hT hn hq1.2 hq1.1 hq hmk b2 hS FU 0 p1 r1 v1 (by omega) (by rw [FU_eq]; omega) hp (fun i' z => by omega) with ⟨i', pl3, r3, v3, e, y1, y2, y3, y4, y5, y6⟩ | ⟨pl3, r3, v3, y1, y2, y3⟩
        · have y1' : fX10_mended_L77 (nI n) _ (nI q) (nI (pop (bt mk) n)) mkd lg pwr s1 _ FU 0 p1 r1 v1 = _ := y1
          rw [y1']
          obtain ⟨w', f1, f2, f3⟩ := ch_eq hn (show pop (bt mk) n + 1 ≤ 4 from by omega) (fun t ht => ⟨y3 t ht, (ex_ok y2.1 y2.2.1).1 t ht⟩) y6 hw
          rw [show nI (pop (bt mk) n) + (1 : Int32) = nI (pop (bt mk) n + 1) from nI_1 _, f1, ob2E]
          exact Or.inl ⟨_, _, e, pl3, r3, s1, v3, w', rfl, hm, Or.inr (Or.inl ⟨hn0, hq1.1, hq1.2, i', y2, rfl, rfl⟩), y4, y5, f2, f3⟩
        · have y1' : fX10_mended_L77 (nI n) _ (nI q) (nI (pop (bt mk) n)) mkd lg pwr s1 _ FU 0 p1 r1 v1 = _ := y1
          rw [y1']
          exact fin (fun ⟨_, _, i', z⟩ => y2 i' z) pl3 r3 v3
      · have hskip : ∀ (j1 j2 : (Nat → Int32) → (Nat → Int32) → (Nat → Int32) → Option (Int32 × (Nat → Int32) × (Nat → Int32) × (Nat → Int32) × (Nat → Int32) × (Nat → Int32))), fX10_mended_L77 (nI n) j1 (nI q) (nI (pop (bt mk) n)) mkd lg pwr s1 j2 FU 0 p1 r1 v1 = j1 p1 r1 v1 := fun j1 j2 => by
          rw [show FU = 999999 + 1 from rfl, fX10_mended_L77.eq_2]
          by_cases z1 : nI n ≤ (0 : Int32)
          · rw [if_pos z1]
          · rw [if_neg z1]
            by_cases z2 : q = 0
            · rw [if_pos (show nI q ≤ (0 : Int32) from by rw [z2]; decide)]
            · rw [if_neg (nI_nle (by omega) (by omega)), if_pos (show (3 : Int32) ≤ nI (pop (bt mk) n) from nI_le (a := 3) (by omega) (by omega))]
        rw [hskip]
        exact fin (fun ⟨z1, z2, _⟩ => hq1 ⟨z1, z2⟩) p1 r1 v1
  · rw [if_neg (show ¬ nI (pop (bt mk) n) ≤ (4 : Int32) from nI_ge (a := 4) (by omega) (by omega))]
    exact Or.inr ⟨p1, rows, sy, vals, rfl, Or.inl (by omega)⟩
