/-! ===== seal and mend on the bench ===== -/
theorem slL {j : (Nat → Int32) → Option (Int32 × (Nat → Int32) × (Nat → Int32) × (Nat → Int32) × (Nat → Int32) × (Nat → Int32) × (Nat → Int32) × (Nat → Int32) × (Nat → Int32))} {be : Nat → Int32} : ∀ (F k : Nat) (w : Nat → Int32), k ≤ 32 → 32 - k < F → (∀ t, t < k → w t = be t) →
    ∃ w', fX10_seal_L7 j be F (nI k) w = j w' ∧ ∀ t, t < 32 → w' t = be t := by
  intro F
  induction F with
  | zero => intro k w _ h; omega
  | succ F ih =>
    intro k w hk hF hw
    rw [fX10_seal_L7.eq_2]
    by_cases h1 : 32 ≤ k
    · rw [if_pos (show (32 : Int32) ≤ nI k from nI_le (a := 32) h1 (by omega))]
      exact ⟨w, rfl, fun t ht => hw t (by omega)⟩
    · rw [if_neg (show ¬ (32 : Int32) ≤ nI k from nI_ge (b := 32) (by omega) (by omega)), og_nI (by omega) (by omega), og_nI (by omega) (by omega), nmE, nmE, nI_clamp (by omega), nI_1]
      refine ih (k + 1) _ (by omega) (by omega) (fun t ht => ?_)
      by_cases q : t = k
      · rw [q, pk_us]
      · rw [pk_un q]; exact hw t (by omega)
theorem tbL {n : Nat} {w : Nat → Int32} (hn : n ≤ 32) : ∀ (F k : Nat) (b m : Nat → Int32), k ≤ n → n - k < F →
    ∃ b' m', fX10_toBench_L2 (nI n) w F (nI k) b m = some (b', m') ∧ ∀ t, (b' t = if k ≤ t ∧ t < n then w t else b t) ∧ (m' t = if k ≤ t ∧ t < n then 0 else m t) := by
  intro F
  induction F with
  | zero => intro k b m _ h; omega
  | succ F ih =>
    intro k b m hk hF
    rw [fX10_toBench_L2.eq_2]
    by_cases h1 : n ≤ k
    · rw [if_pos (nI_le h1 (by omega))]
      exact ⟨b, m, rfl, fun t => by rw [if_neg (by omega), if_neg (by omega)]; exact ⟨rfl, rfl⟩⟩
    · rw [if_neg (nI_ge (by omega) (by omega)), og_nI (by omega) (by omega), og_nI (by omega) (by omega), nmE, og_nI (by omega) (by omega), nmE, nmE, nI_clamp (by omega), nI_1]
      obtain ⟨b', m', g1, g2⟩ := ih (k + 1) (upd b k (w k)) (upd m k (vp_nar .boolean 0)) (by omega) (by omega)
      refine ⟨b', m', g1, fun t => ⟨?_, ?_⟩⟩
      · rw [(g2 t).1]
        by_cases q : t = k
        · subst q
          rw [if_neg (by omega), if_pos (by omega), pk_us]
        · rw [pk_un q]
          by_cases q2 : k + 1 ≤ t ∧ t < n
          · rw [if_pos q2, if_pos (by omega)]
          · rw [if_neg q2, if_neg (by omega)]
      · rw [(g2 t).2]
        by_cases q : t = k
        · subst q
          rw [if_neg (by omega), if_pos (by omega), pk_us]; rfl
        · rw [pk_un q]
          by_cases q2 : k + 1 ≤ t ∧ t < n
          · rw [if_pos q2, if_pos (by omega)]
          · rw [if_neg q2, if_neg (by omega)]
theorem tb_eq {n : Nat} {w b m : Nat → Int32} (hn : n ≤ 32) : ∃ b' m', fX10_toBench b m w (nI n) = some (b', m') ∧ ∀ t, (b' t = if t < n then w t else b t) ∧ (m' t = if t < n then 0 else m t) := by
  obtain ⟨b', m', g1, g2⟩ := tbL (w := w) hn FU 0 b m (by omega) (by rw [FU_eq]; omega)
  refine ⟨b', m', g1, fun t => ⟨?_, ?_⟩⟩
  · rw [(g2 t).1]
    by_cases q : t < n
    · rw [if_pos (show 0 ≤ t ∧ t < n from ⟨by omega, q⟩), if_pos q]
    · rw [if_neg (show ¬ (0 ≤ t ∧ t < n) from fun z => q z.2), if_neg q]
  · rw [(g2 t).2]
    by_cases q : t < n
    · rw [if_pos (show 0 ≤ t ∧ t < n from ⟨by omega, q⟩), if_pos q]
    · rw [if_neg (show ¬ (0 ≤ t ∧ t < n) from fun z => q z.2), if_neg q]
theorem IB_new {mk : Int32} {be mbe mmk be' mbe' mmk' : Nat → Int32} {n : Nat} {V : Nat → Nat} (h : IB mk be mbe mmk) (hn : n = 28 ∨ n = 32) (hV : ∀ i, V i < 256) (hc : CR n 0 be be' V) (hb : ∀ t, (mbe' t = if t < n then nI (V t) else mbe t)) (hm : ∀ t, (mmk' t = if t < n then 0 else mmk t)) : IB (mk &&& (fX0_allPlaces (nI n) ^^^ (-1 : Int32))) be' mbe' mmk' := fun i hi => by
  obtain ⟨h1, h2, h3, h4, h5⟩ := h i hi
  have hv := hV i
  refine ⟨hc.2.1 i h1, ?_⟩
  rw [hb i, hm i, b_and, b_xor, b_m1 i hi, allP hn i hi]
  by_cases q : i < n
  · rw [if_pos q, if_pos q, nI_ti (by omega), decide_eq_true q]
    have := hc.1 i q
    rw [Nat.zero_add] at this
    refine ⟨this, by omega, by omega, ?_⟩
    simp; rfl
  · rw [if_neg q, if_neg q, hc.2.2 i (Or.inr (by omega)), decide_eq_false q]
    refine ⟨h2, h3, h4, ?_⟩
    rw [h5]; simp
theorem op_seal : OP35 Inv := by
  intro n xi xa xl mi ma y0 hn h hy
  obtain ⟨hC, hS, hE, hB, hD, hP⟩ := id h
  obtain ⟨c4, c5, c7, c8, cT, cb, cw, cm, cR⟩ := id hC
  have main : ∀ (N fc : Nat) (x1 mk sp : Int32) (loc spots sums : Nat → Int32), (N = 28 ∨ N = 32) → fc + 4 ≤ N → (if x1 = 0 then (28 : Int32) else 32) = nI N → (∀ i, i < 32 → fX10_isCheck x1 (nI i) = b01 (bt mk i)) → (∀ i, i < N → bt mk i = decide (fc ≤ i ∧ i < fc + 4)) → (pop (bt mk) N = 4 ∧ ∀ t, t < 4 → mP (bt mk) N t = fc + t) →
      ∃ (sp' : Int32) (loc' spots' sums' c' : Nat → Int32) (b' m' mkd' pl' r' s' v' w' : Nat → Int32), fX0_settle (nI fc) (nI N) sp loc spots sums (xa 1) (xa 0) (xa 28) 32 0 = some (sp', loc', spots', sums', c') ∧ fX10_seal (mi 0) (ma 27) (ma 28) (ma 3) (ma 12) (ma 14) (ma 2) (ma 16) (ma 13) (ma 15) (ma 11) x1 = some (0, b', m', mkd', pl', r', s', v', w') ∧ IB (xi 1 &&& (fX0_allPlaces (nI N) ^^^ (-1 : Int32))) c' b' m' := fun N fc x1 mk sp loc spots sums hN hfc hx1 hx hmk hp => by
    have hN32 : N ≤ 32 := by omega
    obtain ⟨sp', loc', spots', sums', c', a1, a2⟩ := settle_eq (n := N) (fc := fc) (fr := 0) (A := 32) (sp := sp) (W := bW (ma 27)) (c := xa 28) cT loc spots sums hN32 hfc (by omega) (by omega) (bW_lt _) (fun i hi => by rw [Nat.zero_add]; exact (bW_eq hB (by omega)).2)
    have e32 : ∀ (f : Int32 → Option (Int32 × (Nat → Int32) × (Nat → Int32) × (Nat → Int32) × (Nat → Int32) × (Nat → Int32) × (Nat → Int32) × (Nat → Int32) × (Nat → Int32))), (if x1 = 0 then f 28 else f 32) = f (nI N) := fun f => by
      by_cases q : x1 = 0
      · rw [if_pos q] at hx1; rw [if_pos q, ← hx1]
      · rw [if_neg q] at hx1; rw [if_neg q, ← hx1]
    obtain ⟨w1, b1, b2⟩ := slL (be := ma 27) (j := fun v_word_1 => ob6 (fX10_check (ma 3) (ma 12) (ma 14) (ma 2) (ma 16) (ma 13) (ma 15) v_word_1 x1) fun v_marked_3 v_places_4 v_rows_5 v_syndromes_6 v_values_7 v_word_8 => ob2 (fX10_toBench (ma 27) (ma 28) v_word_8 (nI N)) fun v_bench_12 v_benchMarks_13 => some (0, v_bench_12, v_benchMarks_13, v_marked_3, v_places_4, v_rows_5, v_syndromes_6, v_values_7, v_word_8)) FU 0 (ma 11) (by omega) (by rw [FU_eq]; omega) (fun t ht => by omega)
    obtain ⟨mkd', pl', r', s', v', w', d1, d2, d3⟩ := check_eq (n := N) (fc := fc) (x1 := x1) (mk := mk) (W := bW (ma 27)) (w := w1) cR (ma 12) (ma 14) (ma 16) (ma 13) (ma 15) hx1 hN32 hfc hx hmk hp (bW_lt _) (fun t ht _ => by rw [b2 t (by omega)]; exact (bW_eq hB (by omega)).1)
    obtain ⟨b', m', t1, t2⟩ := tb_eq (n := N) (w := w') (b := ma 27) (m := ma 28) hN32
    refine ⟨sp', loc', spots', sums', c', b', m', mkd', pl', r', s', v', w', a1, ?_, ?_⟩
    · unfold fX10_seal
      simp only [jkE]
      have e33 : ∀ (f : Int32 → Option (Int32 × (Nat → Int32) × (Nat → Int32) × (Nat → Int32) × (Nat → Int32) × (Nat → Int32) × (Nat → Int32) × (Nat → Int32) × (Nat → Int32))), (if x1 = 0 then f 28 else f 32) = f (nI N) := e32
      have e34 : (fun v_word_1 => ob6 (fX10_check (ma 3) (ma 12) (ma 14) (ma 2) (ma 16) (ma 13) (ma 15) v_word_1 x1) fun v_marked_3 v_places_4 v_rows_5 v_syndromes_6 v_values_7 v_word_8 => if x1 = 0 then ob2 (fX10_toBench (ma 27) (ma 28) v_word_8 28) fun v_bench_12 v_benchMarks_13 => some ((0 : Int32), v_bench_12, v_benchMarks_13, v_marked_3, v_places_4, v_rows_5, v_syndromes_6, v_values_7, v_word_8) else ob2 (fX10_toBench (ma 27) (ma 28) v_word_8 32) fun v_bench_12 v_benchMarks_13 => some (0, v_bench_12, v_benchMarks_13, v_marked_3, v_places_4, v_rows_5, v_syndromes_6, v_values_7, v_word_8)) = (fun v_word_1 => ob6 (fX10_check (ma 3) (ma 12) (ma 14) (ma 2) (ma 16) (ma 13) (ma 15) v_word_1 x1) fun v_marked_3 v_places_4 v_rows_5 v_syndromes_6 v_values_7 v_word_8 => ob2 (fX10_toBench (ma 27) (ma 28) v_word_8 (nI N)) fun v_bench_12 v_benchMarks_13 => some (0, v_bench_12, v_benchMarks_13, v_marked_3, v_places_4, v_rows_5, v_syndromes_6, v_values_7, v_word_8)) := by
        funext v
        refine congrArg (ob6 (fX10_check (ma 3) (ma 12) (ma 14) (ma 2) (ma 16) (ma 13) (ma 15) v x1)) ?_
        funext a1 a2 a3 a4 a5 a6
        exact e33 (fun t => ob2 (fX10_toBench (ma 27) (ma 28) a6 t) fun v_bench_12 v_benchMarks_13 => some (0, v_bench_12, v_benchMarks_13, a1, a2, a3, a4, a5, a6))
      rw [e34]
      have b1' : fX10_seal_L7 (fun v_word_1 => ob6 (fX10_check (ma 3) (ma 12) (ma 14) (ma 2) (ma 16) (ma 13) (ma 15) v_word_1 x1) fun v_marked_3 v_places_4 v_rows_5 v_syndromes_6 v_values_7 v_word_8 => ob2 (fX10_toBench (ma 27) (ma 28) v_word_8 (nI N)) fun v_bench_12 v_benchMarks_13 => some (0, v_bench_12, v_benchMarks_13, v_marked_3, v_places_4, v_rows_5, v_syndromes_6, v_values_7, v_word_8)) (ma 27) FU 0 (ma 11) = _ := b1
      rw [b1', d1, ob6E, t1, ob2E]
    · refine IB_new hB hN (fun i => sV_lt (bW_lt _) N fc i) a2 (fun t => ?_) (fun t => (t2 t).2)
      rw [(t2 t).1]
      by_cases q : t < N
      · rw [if_pos q, if_pos q, d2 t q]
      · rw [if_neg q, if_neg q]
  rcases hy with rfl | rfl
  · obtain ⟨sp', loc', spots', sums', c', b', m', mkd', pl', r', s', v', w', g1, g2, g3⟩ := main 28 12 0 mkO (xi 9) (xa 17) (xa 16) (xa 15) (Or.inl rfl) (by omega) rfl isC_o (fun i hi => btO i (by omega)) popO
    refine ⟨_, c', xi 6, sp', xa 13, xa 12, xa 11, loc', spots', sums', 0, b', m', mkd', pl', r', s', v', w', ?_, g2, hC, hS, hE, g3, hD.mono, hP⟩
    have g1' : fX0_settle 12 28 (xi 9) (xa 17) (xa 16) (xa 15) (xa 1) (xa 0) (xa 28) 32 0 = _ := g1
    unfold fX9_seal
    rw [if_pos rfl, c8, c7, g1', ob5E, nt1E, nmE]
    rfl
  · obtain ⟨sp', loc', spots', sums', c', b', m', mkd', pl', r', s', v', w', g1, g2, g3⟩ := main 32 28 1 mkI (xi 6) (xa 13) (xa 12) (xa 11) (Or.inr rfl) (by omega) rfl isC_i (fun i hi => btI i (by omega)) popI
    refine ⟨_, c', sp', xi 9, loc', spots', sums', xa 17, xa 16, xa 15, 0, b', m', mkd', pl', r', s', v', w', ?_, g2, hC, hS, hE, g3, hD.mono, hP⟩
    have g1' : fX0_settle 28 32 (xi 6) (xa 13) (xa 12) (xa 11) (xa 1) (xa 0) (xa 28) 32 0 = _ := g1
    unfold fX9_seal
    rw [if_neg ne10, c5, c4, g1', ob5E, nt1E, nmE]
    rfl
theorem mnL {jj : (Nat → Int32) → (Nat → Int32) → Option (Int32 × Int32 × (Nat → Int32) × (Nat → Int32) × (Nat → Int32) × (Nat → Int32) × (Nat → Int32) × (Nat → Int32) × (Nat → Int32) × (Nat → Int32))} {n : Nat} {be bm : Nat → Int32} (hn : n ≤ 32) (hbm : ∀ t, t < n → vp_nar .boolean (bm t) = bm t) : ∀ (F k : Nat) (m w : Nat → Int32), k ≤ n → n - k < F → (∀ t, t < k → m t = bm t ∧ w t = be t) →
    ∃ m' w', fX10_mend_L34 (nI n) jj be bm F (nI k) m w = jj m' w' ∧ ∀ t, t < n → m' t = bm t ∧ w' t = be t := by
  intro F
  induction F with
  | zero => intro k m w _ h; omega
  | succ F ih =>
    intro k m w hk hF hw
    rw [fX10_mend_L34.eq_2]
    by_cases h1 : n ≤ k
    · rw [if_pos (nI_le h1 (by omega))]
      exact ⟨m, w, rfl, fun t ht => hw t (by omega)⟩
    · rw [if_neg (nI_ge (by omega) (by omega)), og_nI (by omega) (by omega), og_nI (by omega) (by omega), nmE, og_nI (by omega) (by omega), og_nI (by omega) (by omega), nmE, nmE, nI_clamp (by omega), nI_1, hbm k (by omega)]
      refine ih (k + 1) _ _ (by omega) (by omega) (fun t ht => ?_)
      by_cases q : t = k
      · rw [q, pk_us, pk_us]; exact ⟨rfl, rfl⟩
      · rw [pk_un q, pk_un q]; exact hw t (by omega)
theorem op_mend : OP37 Inv := by
  intro n xi xa xl mi ma y0 y1 hn h hy
  obtain ⟨hC, hS, hE, hB, hD, hP⟩ := id h
  obtain ⟨c4, c5, c7, c8, cT, cb, cw, cm, cR⟩ := id hC
  have e2 : (2 : Int32).toInt = 2 := by decide
  have e0 : (0 : Int32).toInt = 0 := by decide
  by_cases hg : 0 ≤ y1.toInt ∧ y1.toInt ≤ 2
  · obtain ⟨q, hq1, rfl⟩ := i_of hg.1
    have hq2 := nI_ti hq1
    have hq3 : q ≤ 2 := by omega
    have hreach : fX9_isReach (nI q) = 1 := by
      unfold fX9_isReach
      rw [if_neg (nI_pos (by omega)), if_neg (show ¬ (2 : Int32) < nI q from nI_nlt (a := 2) (by omega) (by omega))]
    have main : ∀ (N : Nat) (x1 sp : Int32) (loc rest spots sums : Nat → Int32), (N = 28 ∨ N = 32) → (if x1 = 0 then (28 : Int32) else 32) = nI N →
        ∃ (r sp' mk' : Int32) (loc' rest' spots' sums' c' : Nat → Int32) (b' m' mkd' pl' r' s' v' w' : Nat → Int32), fX0_heal (nI N) sp loc rest spots sums (xa 1) (xa 0) (xa 28) 32 0 (xi 1) (nI q) = some (r, sp', loc', rest', spots', sums', c') ∧ fX10_mend (mi 0) (ma 27) (ma 28) (ma 3) (ma 12) (ma 14) (ma 2) (ma 16) (ma 13) (ma 15) (ma 11) x1 (nI q) = some (r, 0, b', m', mkd', pl', r', s', v', w') ∧ ((r = -2 ∧ mk' = xi 1) ∨ (¬ r = (-2 : Int32) ∧ mk' = xi 1 &&& (fX0_allPlaces (nI N) ^^^ (-1 : Int32)))) ∧ IB mk' c' b' m' := fun N x1 sp loc rest spots sums hN hx1 => by
      have hN32 : N ≤ 32 := by omega
      have e32 : ∀ (f : Int32 → Option (Int32 × Int32 × (Nat → Int32) × (Nat → Int32) × (Nat → Int32) × (Nat → Int32) × (Nat → Int32) × (Nat → Int32) × (Nat → Int32) × (Nat → Int32))), (if x1 = 0 then f 28 else f 32) = f (nI N) := fun f => by
        by_cases q : x1 = 0
        · rw [if_pos q] at hx1; rw [if_pos q, ← hx1]
        · rw [if_neg q] at hx1; rw [if_neg q, ← hx1]
      obtain ⟨mm, w1, b1, b2⟩ := mnL (n := N) (be := ma 27) (bm := ma 28) (jj := fun v_marked_6 v_word_7 => ob6 (fX10_mended (ma 3) v_marked_6 (ma 14) (ma 2) (ma 16) (ma 13) (ma 15) v_word_7 (nI N) (nI q)) fun r_9 v_places_10 v_rows_11 v_syndromes_12 v_values_13 v_word_14 => if r_9 < 0 then some (r_9, 0, (ma 27), (ma 28), v_marked_6, v_places_10, v_rows_11, v_syndromes_12, v_values_13, v_word_14) else ob2 (fX10_toBench (ma 27) (ma 28) v_word_14 (nI N)) fun v_bench_17 v_benchMarks_18 => some (r_9, 0, v_bench_17, v_benchMarks_18, v_marked_6, v_places_10, v_rows_11, v_syndromes_12, v_values_13, v_word_14)) hN32 (fun t ht => by
        rw [(hB t (by omega)).2.2.2.2]; cases bt (xi 1) t <;> rfl) FU 0 (ma 12) (ma 11) (by omega) (by rw [FU_eq]; omega) (fun t ht => by omega)
      obtain ⟨r, V, sp', loc', rest', spots', sums', c', pl', r', s', v', w', d1, d2, d3, d4, d5, d6, d7⟩ := heal_mended (n := N) (q := q) (fr := 0) (A := 32) (mk := xi 1) (sp := sp) (W := bW (ma 27)) (mkd := mm) (w := w1) (c := xa 28) cT cR loc rest spots sums (ma 14) (ma 16) (ma 13) (ma 15) hN hq3 (by omega) (by omega) (bW_lt _) (fun i hi => by rw [Nat.zero_add]; exact (bW_eq hB (by omega)).2) (fun i hi => by rw [(b2 i hi).1]; exact (hB i (by omega)).2.2.2.2) (fun i hi => by rw [(b2 i hi).2]; exact (bW_eq hB (by omega)).1)
      have hm1 : fX10_mend (mi 0) (ma 27) (ma 28) (ma 3) (ma 12) (ma 14) (ma 2) (ma 16) (ma 13) (ma 15) (ma 11) x1 (nI q) = (if r < 0 then some (r, 0, (ma 27), (ma 28), mm, pl', r', s', v', w') else ob2 (fX10_toBench (ma 27) (ma 28) w' (nI N)) fun v_bench_17 v_benchMarks_18 => some (r, 0, v_bench_17, v_benchMarks_18, mm, pl', r', s', v', w')) := by
        unfold fX10_mend
        rw [in_1 (by rw [tl_i]; show (0 : Int) ≤ _ ∧ _ ≤ (2 : Int); omega), nt1E, if_neg ne10]
        simp only [jkE]
        rw [e32 (fun t => fX10_mend_L34 t (fun v_marked_6 v_word_7 => ob6 (fX10_mended (ma 3) v_marked_6 (ma 14) (ma 2) (ma 16) (ma 13) (ma 15) v_word_7 t (nI q)) fun r_9 v_places_10 v_rows_11 v_syndromes_12 v_values_13 v_word_14 => if r_9 < 0 then some (r_9, 0, (ma 27), (ma 28), v_marked_6, v_places_10, v_rows_11, v_syndromes_12, v_values_13, v_word_14) else ob2 (fX10_toBench (ma 27) (ma 28) v_word_14 t) fun v_bench_17 v_benchMarks_18 => some (r_9, 0, v_bench_17, v_benchMarks_18, v_marked_6, v_places_10, v_rows_11, v_syndromes_12, v_values_13, v_word_14)) (ma 27) (ma 28) FU 0 (ma 12) (ma 11))]
        have b1' : fX10_mend_L34 (nI N) (fun v_marked_6 v_word_7 => ob6 (fX10_mended (ma 3) v_marked_6 (ma 14) (ma 2) (ma 16) (ma 13) (ma 15) v_word_7 (nI N) (nI q)) fun r_9 v_places_10 v_rows_11 v_syndromes_12 v_values_13 v_word_14 => if r_9 < 0 then some (r_9, 0, (ma 27), (ma 28), v_marked_6, v_places_10, v_rows_11, v_syndromes_12, v_values_13, v_word_14) else ob2 (fX10_toBench (ma 27) (ma 28) v_word_14 (nI N)) fun v_bench_17 v_benchMarks_18 => some (r_9, 0, v_bench_17, v_benchMarks_18, v_marked_6, v_places_10, v_rows_11, v_syndromes_12, v_values_13, v_word_14)) (ma 27) (ma 28) FU 0 (ma 12) (ma 11) = _ := b1
        rw [b1', d2, ob6E]
      rcases d7 with ⟨rfl, rfl, rfl⟩ | ⟨k, hk, rfl⟩
      · rw [if_pos (by decide)] at hm1
        exact ⟨-2, sp', xi 1, loc', rest', spots', sums', xa 28, ma 27, ma 28, mm, pl', r', s', v', w', d1, hm1, Or.inl ⟨rfl, rfl⟩, hB⟩
      · obtain ⟨b', m', t1, t2⟩ := tb_eq (n := N) (w := w') (b := ma 27) (m := ma 28) hN32
        rw [if_neg (nI_pos (by omega)), t1, ob2E] at hm1
        refine ⟨nI k, sp', _, loc', rest', spots', sums', c', b', m', mm, pl', r', s', v', w', d1, hm1, Or.inr ⟨fun z => ?_, rfl⟩, ?_⟩
        · have := congrArg Int32.toInt z
          rw [nI_ti (by omega)] at this
          have e2 : (-2 : Int32).toInt = -2 := by decide
          omega
        · refine IB_new hB hN d3 d4 (fun t => ?_) (fun t => (t2 t).2)
          rw [(t2 t).1]
          by_cases z : t < N
          · rw [if_pos z, if_pos z, d5 t z]
          · rw [if_neg z, if_neg z]
    rcases hy with rfl | rfl
    · obtain ⟨r, sp', mk', loc', rest', spots', sums', c', b', m', mkd', pl', r', s', v', w', g1, g2, g3, g4⟩ := main 28 0 (xi 9) (xa 17) (xa 18) (xa 16) (xa 15) (Or.inl rfl) rfl
      refine ⟨r, mk', c', xi 6, sp', xa 13, xa 14, xa 12, xa 11, loc', rest', spots', sums', r, 0, b', m', mkd', pl', r', s', v', w', ?_, g2, rfl, hC, hS, hE, g4, hD.mono, hP⟩
      have g1' : fX0_heal 28 (xi 9) (xa 17) (xa 18) (xa 16) (xa 15) (xa 1) (xa 0) (xa 28) 32 0 (xi 1) (nI q) = _ := g1
      unfold fX9_mend
      rw [hreach, nt1E, if_neg ne10, if_pos rfl, c7, g1', ob7E]
      rcases g3 with ⟨k1, k2⟩ | ⟨k1, k2⟩
      · rw [if_pos k1, k2]
      · rw [if_neg k1, nt1E, nmE, k2]; rfl
    · obtain ⟨r, sp', mk', loc', rest', spots', sums', c', b', m', mkd', pl', r', s', v', w', g1, g2, g3, g4⟩ := main 32 1 (xi 6) (xa 13) (xa 14) (xa 12) (xa 11) (Or.inr rfl) rfl
      refine ⟨r, mk', c', sp', xi 9, loc', rest', spots', sums', xa 17, xa 18, xa 16, xa 15, r, 0, b', m', mkd', pl', r', s', v', w', ?_, g2, rfl, hC, hS, hE, g4, hD.mono, hP⟩
      have g1' : fX0_heal 32 (xi 6) (xa 13) (xa 14) (xa 12) (xa 11) (xa 1) (xa 0) (xa 28) 32 0 (xi 1) (nI q) = _ := g1
      unfold fX9_mend
      rw [hreach, nt1E, if_neg ne10, if_neg ne10, c4, g1', ob7E]
      rcases g3 with ⟨k1, k2⟩ | ⟨k1, k2⟩
      · rw [if_pos k1, k2]
      · rw [if_neg k1, nt1E, nmE, k2]; rfl
  · refine ⟨-1, xi 1, xa 28, xi 6, xi 9, xa 13, xa 14, xa 12, xa 11, xa 17, xa 18, xa 16, xa 15, -1, 0, ma 27, ma 28, ma 12, ma 14, ma 16, ma 13, ma 15, ma 11, ?_, ?_, rfl, hC, hS, hE, hB, hD.mono, hP⟩
    · unfold fX9_mend
      have : fX9_isReach y1 = 0 := by
        unfold fX9_isReach
        by_cases q : y1 < 0
        · rw [if_pos q]
        · have q' : ¬ y1.toInt < (0 : Int32).toInt := fun w => q (ti_lt.mpr w)
          rw [if_neg q, if_pos (ti_lt.mpr (by omega))]
      rw [this, nt1E, if_pos rfl]
    · unfold fX10_mend
      rw [in_0 (by rw [tl_i]; show ¬ ((0 : Int) ≤ _ ∧ _ ≤ (2 : Int)); exact hg), nt1E, if_pos rfl]
