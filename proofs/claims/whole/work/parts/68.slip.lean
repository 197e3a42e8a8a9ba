/-! ===== slip ===== -/
theorem neg_sh : ∀ m, m < 1024 → (nI m - 1024) >>> ((5 : Int32) &&& 31) = nI (m / 32) - 32 ∧ (nI m - 1024) &&& (31 : Int32) = nI (m % 32) := by decide +kernel
theorem cell_neg (pk : Nat → Int32) (k : Nat) (h : k < 32) : fX3_cell pk (nI k - 32) = some 0 := by
  unfold fX3_cell
  rw [if_pos]
  have a1 := nI_ti (n := k) (by omega)
  have e32 : (32 : Int32).toInt = 32 := rfl
  have e0 : (0 : Int32).toInt = 0 := rfl
  refine ti_lt.mpr ?_
  rw [ti_sub (by omega) (by omega)]; omega
theorem peek_neg (pk : Nat → Int32) (m : Nat) (hm : m < 1024) : ∃ y, fX3_peek pk (nI m - 1024) = some y ∧ ∀ j, j < 32 → 1024 ≤ m + (31 - j) → bt y j = pb pk (m + (31 - j) - 1024) := by
  unfold fX3_peek
  rw [nmE, nmE, (neg_sh m hm).1, (neg_sh m hm).2]
  by_cases h0 : m % 32 = 0
  · rw [h0, if_pos (show nI 0 = (0 : Int32) from rfl), cell_neg pk _ (by omega), ob1E]
    exact ⟨0, rfl, fun j hj h => by omega⟩
  · rw [if_neg (nI_ne0 (by omega) (by omega)), cell_neg pk _ (by omega), ob1E]
    by_cases h1 : m / 32 = 31
    · rw [show nI (m / 32) - 32 + (1 : Int32) = nI 0 from by rw [h1]; decide, cell_eq (by omega), ob1E, show (32 : Int32) - nI (m % 32) = nI (32 - m % 32) from pk_sub (a := 32) (by omega)]
      refine ⟨_, rfl, fun j hj h => ?_⟩
      rw [b_or, b_shl _ (by omega) _ hj, b_0, b_ushr _ (by omega)]
      rw [cell_bt pk 0 _ (by omega)]
      simp only [Bool.and_false, Bool.false_or]
      exact congrArg (pb pk) (by omega)
    · have e : nI (m / 32) - 32 + (1 : Int32) = nI (m / 32 + 1) - 32 := by
        rw [← nI_1, Int32.sub_eq_add_neg, Int32.sub_eq_add_neg, Int32.add_assoc, Int32.add_assoc, Int32.add_comm (-32) 1]
      rw [e, cell_neg pk _ (by omega), ob1E]
      refine ⟨_, rfl, fun j hj h => by omega⟩
theorem peek_off (pk : Nat → Int32) (c n : Nat) (hc : c < 11250) (hn : n ≤ 600) : ∃ y, fX3_peek pk (nI (32 * c) - nI n) = some y ∧ ∀ j, j < 32 → n ≤ 32 * c + (31 - j) → bt y j = pb pk (32 * c + (31 - j) - n) := by
  by_cases h : n ≤ 32 * c
  · rw [pk_sub h, peek_eq (by omega)]
    refine ⟨_, rfl, fun j hj _ => ?_⟩
    rw [bt_nI, tk_bit, decide_eq_true hj]
    simp only [Bool.true_and]
    exact congrArg (pb pk) (by omega)
  · have e : nI (32 * c) - nI n = nI (32 * c + (1024 - n)) - 1024 := by
      rw [← nI_add, show nI (1024 - n) = (1024 : Int32) - nI n from (pk_sub (a := 1024) (by omega)).symm, Int32.sub_eq_add_neg, Int32.sub_eq_add_neg, Int32.sub_eq_add_neg, Int32.add_assoc, Int32.add_assoc, Int32.add_comm 1024, Int32.add_assoc, show (-1024 : Int32) + 1024 = 0 from by decide, Int32.add_zero]
    obtain ⟨y, y1, y2⟩ := peek_neg pk (32 * c + (1024 - n)) (by omega)
    rw [e]
    refine ⟨y, y1, fun j hj hh => ?_⟩
    rw [y2 j hj (by omega)]
    exact congrArg (pb pk) (by omega)
theorem ins_loop {j : (Nat → Int32) → Option (Int32 × (Nat → Int32))} {i n : Nat} (hi : i ≤ 360000) (hn : n ≤ 600) : ∀ (F K : Nat) (pk : Nat → Int32), K ≤ 11250 → K < F →
    ∃ pk', fX3_insertZeros_L21 j (nI i) (nI n) F (dn K) pk = j pk' ∧ ∀ p, p < 360000 → pbit pk' p = if p / 32 < K ∧ i ≤ p then decide (i + n ≤ p) && pb pk (p - n) else pbit pk p := by
  intro F
  induction F with
  | zero => intro K pk _ h; omega
  | succ F ih =>
    intro K pk hK hF
    rw [fX3_insertZeros_L21.eq_2, shr5 (by omega)]
    cases K with
    | zero =>
      rw [if_pos dn_0]
      exact ⟨pk, rfl, fun p hp => by rw [if_neg (by omega)]⟩
    | succ k =>
      rw [show dn (k + 1) = nI k from rfl, if_neg (nI_pos (by omega))]
      by_cases h1 : k < i / 32
      · rw [if_pos (nI_lt h1 (by omega))]
        exact ⟨pk, rfl, fun p hp => by rw [if_neg (by omega)]⟩
      · obtain ⟨y, y1, y2⟩ := peek_off pk k n (by omega) hn
        rw [if_neg (nI_nlt (by omega) (by omega)), og_nI (by omega) (by omega), nt1E, show (32 : Int32) * nI k = nI (32 * k) from pk_mul 32 k, y1, ob1E, nt1E, og_nI (by omega) (by omega), nmE, nmE, nI_add, nI_clamp (by omega), dn_s]
        obtain ⟨pk', g1, g2⟩ := ih k (upd pk k (pk k &&& (fX3_behind (nI k) (nI i) ^^^ (-1 : Int32)) ||| y &&& fX3_behind (nI k) (nI (i + n)))) (by omega) (by omega)
        refine ⟨pk', g1, fun p hp => ?_⟩
        rw [g2 p hp, pbit_upd]
        by_cases q1 : p / 32 = k
        · rw [if_neg (by omega), if_pos q1, b_or, b_and, b_and, b_xor, b_m1 _ (by omega), behind_bt _ _ _ (by omega) (by omega) (by omega), behind_bt _ _ _ (by omega) (by omega) (by omega)]
          have y3 := y2 (31 - p % 32) (by omega)
          rw [show 32 * k + (31 - (31 - p % 32)) = p from by omega] at y3 ⊢
          have e : bt (pk k) (31 - p % 32) = pbit pk p := by unfold pbit; rw [q1]
          rw [e]
          by_cases q2 : i ≤ p
          · rw [if_pos ⟨by omega, q2⟩, decide_eq_true q2]
            by_cases q3 : i + n ≤ p
            · rw [decide_eq_true q3, y3 (by omega)]; simp
            · rw [decide_eq_false q3]; simp
          · rw [if_neg (fun q => q2 q.2), decide_eq_false q2, decide_eq_false (by omega)]; simp
        · rw [if_neg q1]
          by_cases q2 : p / 32 < k ∧ i ≤ p
          · rw [if_pos q2, if_pos (by omega)]
            by_cases q3 : i + n ≤ p
            · have e : pb (upd pk k (pk k &&& (fX3_behind (nI k) (nI i) ^^^ (-1 : Int32)) ||| y &&& fX3_behind (nI k) (nI (i + n)))) (p - n) = pb pk (p - n) := by
                unfold pb
                rw [pbit_upd, if_neg (by omega)]
              rw [e]
            · rw [decide_eq_false q3]; simp
          · rw [if_neg q2, if_neg (by omega)]
theorem rem_loop {j : (Nat → Int32) → Option (Int32 × (Nat → Int32))} {N i g : Nat} (hN : N ≤ 360000) (hi : i ≤ N) (hg : g ≤ 600) : ∀ (F k : Nat) (pk : Nat → Int32), k ≤ 11250 → 11250 - k < F →
    ∃ pk', fX3_remove_L20 j (nI N) (nI i) (nI g) F (nI k) pk = j pk' ∧ ∀ p, p < 360000 → pbit pk' p = if k ≤ p / 32 ∧ 32 * (p / 32) < N ∧ i ≤ p then pb pk (p + g) else pbit pk p := by
  intro F
  induction F with
  | zero => intro K pk _ h; omega
  | succ F ih =>
    intro k pk hK hF
    rw [fX3_remove_L20.eq_2]
    by_cases h1 : 11250 ≤ k
    · rw [if_pos (show (11250 : Int32) ≤ nI k from nI_le (a := 11250) h1 (by omega))]
      exact ⟨pk, rfl, fun p hp => by rw [if_neg (by omega)]⟩
    · rw [if_neg (show ¬ (11250 : Int32) ≤ nI k from nI_ge (b := 11250) (by omega) (by omega)), show (32 : Int32) * nI k = nI (32 * k) from pk_mul 32 k]
      by_cases h2 : N ≤ 32 * k
      · rw [if_pos (nI_le h2 (by omega))]
        exact ⟨pk, rfl, fun p hp => by rw [if_neg (by omega)]⟩
      · rw [if_neg (nI_ge (by omega) (by omega)), og_nI (by omega) (by omega), nt1E, nI_add, peek_eq (by omega), ob1E, nt1E, og_nI (by omega) (by omega), nmE, nmE, nI_clamp (by omega), nI_1]
        obtain ⟨pk', g1, g2⟩ := ih (k + 1) (upd pk k (pk k &&& (fX3_behind (nI k) (nI i) ^^^ (-1 : Int32)) ||| nI (tkN (pb pk) (32 * k + g) 32) &&& fX3_behind (nI k) (nI i))) (by omega) (by omega)
        refine ⟨pk', g1, fun p hp => ?_⟩
        rw [g2 p hp, pbit_upd]
        by_cases q1 : p / 32 = k
        · rw [if_neg (by omega), if_pos q1, b_or, b_and, b_and, b_xor, b_m1 _ (by omega), behind_bt _ _ _ (by omega) (by omega) (by omega), bt_nI, tk_bit]
          rw [show 32 * k + (31 - (31 - p % 32)) = p from by omega, show 32 * k + g + (32 - 1 - (31 - p % 32)) = p + g from by omega, decide_eq_true (show 31 - p % 32 < 32 from by omega)]
          have e : bt (pk k) (31 - p % 32) = pbit pk p := by unfold pbit; rw [q1]
          rw [e]
          by_cases q2 : i ≤ p
          · rw [if_pos ⟨by omega, by omega, q2⟩, decide_eq_true q2]; simp
          · rw [if_neg (fun q => q2 q.2.2), decide_eq_false q2]; simp
        · rw [if_neg q1]
          by_cases q2 : k + 1 ≤ p / 32 ∧ 32 * (p / 32) < N ∧ i ≤ p
          · rw [if_pos q2, if_pos (by omega)]
            unfold pb
            rw [pbit_upd, if_neg (by omega)]
          · rw [if_neg q2, if_neg (by omega)]
theorem bn01 (b : Bool) : vp_nar .byte (b01 b) = b01 b := by cases b <;> rfl
theorem slipA {j : (Nat → Int32) → Option (Int32 × Int32 × Int32 × (Nat → Int32))} {i n : Nat} (hn : n ≤ 600) : ∀ (F K : Nat) (bi : Nat → Int32), K + n ≤ 360000 → (∀ t, t < K → vp_nar .byte (bi t) = bi t) → i ≤ K → K - i < F →
    ∃ bi', fX10_slip_L127 (nI i) j (nI n) F (dn K) bi = j bi' ∧ ∀ t, bi' t = if i + n ≤ t ∧ t < K + n then bi (t - n) else bi t := by
  intro F
  induction F with
  | zero => intro K bi _ _ _ h; omega
  | succ F ih =>
    intro K bi hK hb hi hF
    rw [fX10_slip_L127.eq_2]
    by_cases h1 : K ≤ i
    · have e : dn K < nI i ∨ False := by
        left
        cases K with
        | zero => exact ti_lt.mpr (by rw [nI_ti (by omega)]; show (-1 : Int) < _; omega)
        | succ k => exact nI_lt (by omega) (by omega)
      rw [if_pos (e.resolve_right id)]
      exact ⟨bi, rfl, fun t => by rw [if_neg (by omega)]⟩
    · cases K with
      | zero => omega
      | succ k =>
        rw [show dn (k + 1) = nI k from rfl, if_neg (nI_nlt (by omega) (by omega)), og_nI (by omega) (by omega), nI_add, og_nI (by omega) (by omega), nmE, nmE, nI_clamp (by omega), nI_clamp (by omega), dn_s, hb k (by omega)]
        obtain ⟨bi', g1, g2⟩ := ih k (upd bi (k + n) (bi k)) (by omega) (fun t ht => by
          by_cases q : t = k + n
          · omega
          · rw [pk_un q]; exact hb t (by omega)) (by omega) (by omega)
        refine ⟨bi', g1, fun t => ?_⟩
        rw [g2 t]
        by_cases q : t = k + n
        · subst q
          rw [if_neg (by omega), pk_us, if_pos (by omega)]
          exact congrArg bi (by omega)
        · by_cases q2 : i + n ≤ t ∧ t < k + n
          · rw [if_pos q2, if_pos (by omega), pk_un (by omega)]
          · rw [if_neg q2, if_neg (by omega), pk_un q]
theorem slipB {j : (Nat → Int32) → Option (Int32 × Int32 × Int32 × (Nat → Int32))} {i n : Nat} (hi : i + n ≤ 360000) : ∀ (F k : Nat) (bi : Nat → Int32), k ≤ n → n - k < F →
    ∃ bi', fX10_slip_L154 (nI n) j (nI i) F (nI k) bi = j bi' ∧ ∀ t, bi' t = if i + k ≤ t ∧ t < i + n then 0 else bi t := by
  intro F
  induction F with
  | zero => intro K bi _ h; omega
  | succ F ih =>
    intro k bi hK hF
    rw [fX10_slip_L154.eq_2]
    by_cases h1 : n ≤ k
    · rw [if_pos (nI_le h1 (by omega))]
      exact ⟨bi, rfl, fun j => by rw [if_neg (by omega)]⟩
    · rw [if_neg (nI_ge (by omega) (by omega)), nI_add, og_nI (by omega) (by omega), nmE, nmE, nI_clamp (by omega), nI_1]
      obtain ⟨bi', g1, g2⟩ := ih (k + 1) (upd bi (i + k) (vp_nar .byte 0)) (by omega) (by omega)
      refine ⟨bi', g1, fun t => ?_⟩
      rw [g2 t]
      by_cases q : t = i + k
      · subst q
        rw [if_neg (by omega), if_pos (by omega), pk_us]; rfl
      · rw [pk_un q]
        by_cases q2 : i + (k + 1) ≤ t ∧ t < i + n
        · rw [if_pos q2, if_pos (by omega)]
        · rw [if_neg q2, if_neg (by omega)]
theorem slipC {j : (Nat → Int32) → Option (Int32 × Int32 × Int32 × (Nat → Int32))} {N g : Nat} (hN : N ≤ 360000) : ∀ (F k : Nat) (bi : Nat → Int32), (∀ t, t < N → vp_nar .byte (bi t) = bi t) → k + g ≤ N → N - (k + g) < F →
    ∃ bi', fX10_slip_L72 (nI N) (nI g) j F (nI k) bi = j bi' ∧ ∀ t, bi' t = if k ≤ t ∧ t + g < N then bi (t + g) else bi t := by
  intro F
  induction F with
  | zero => intro K bi _ _ h; omega
  | succ F ih =>
    intro k bi hb hK hF
    rw [fX10_slip_L72.eq_2, nI_add]
    by_cases h1 : N ≤ k + g
    · rw [if_pos (nI_le h1 (by omega))]
      exact ⟨bi, rfl, fun j => by rw [if_neg (by omega)]⟩
    · rw [if_neg (nI_ge (by omega) (by omega)), og_nI (by omega) (by omega), og_nI (by omega) (by omega), nmE, nmE, nI_clamp (by omega), nI_clamp (by omega), nI_1, hb (k + g) (by omega)]
      obtain ⟨bi', g1, g2⟩ := ih (k + 1) (upd bi k (bi (k + g))) (fun t ht => by
          by_cases q : t = k
          · subst q; rw [pk_us]; exact hb _ (by omega)
          · rw [pk_un q]; exact hb t (by omega)) (by omega) (by omega)
      refine ⟨bi', g1, fun t => ?_⟩
      rw [g2 t]
      by_cases q : t = k
      · subst q
        rw [if_neg (by omega), if_pos (by omega), pk_us]
      · by_cases q2 : k + 1 ≤ t ∧ t + g < N
        · rw [if_pos q2, if_pos (by omega), pk_un (by omega)]
        · rw [if_neg q2, if_neg (by omega), pk_un q]
theorem dn_m (k : Nat) : nI k - (1 : Int32) = dn k := by
  cases k with
  | zero => decide
  | succ k => exact nI_pred k
theorem ti_neg {x : Int32} (h : -2147483648 < x.toInt) : (-x).toInt = -x.toInt := by
  have := ti_hi x
  rw [Int32.toInt_neg]; exact Int.bmod_eq_of_le (by omega) (by omega)
theorem slip_c {pr y1 : Int32} {N i : Nat} {pk : Nat → Int32} (hp : ¬ pr = 0) (hN : N ≤ 360000) (hi : i ≤ N) (h1 : -600 ≤ y1.toInt) (h2 : y1.toInt ≤ 600) (h3 : N + y1.toInt ≤ 360000) :
    fX9_slip pr (nI N) pk (nI i) y1 = if y1 < 0 then ob2 (fX3_remove (nI N) pk (nI i) (-y1)) (fun s p => some (s, s, p)) else ob2 (fX3_insertZeros (nI N) pk (nI i) y1) (fun s p => some (s, s, p)) := by
  unfold fX9_slip fX3_framesPressed fX3_size
  have a1 : (-600 : Int32).toInt = -600 := by decide
  have a2 : (600 : Int32).toInt = 600 := by decide
  have a3 : ((360000 : Int32) - nI N).toInt = 360000 - N := by
    rw [show (360000 : Int32) - nI N = nI (360000 - N) from pk_sub (a := 360000) hN, nI_ti (by omega)]; omega
  simp only [nt1E, jkE]
  rw [if_neg hp, if_neg (nI_pos (by omega)), if_neg (nI_nlt hi (by omega)), if_neg (fun q => by have := ti_lt.mp q; omega), if_neg (fun q => by have := ti_lt.mp q; omega), if_pos (ti_le.mpr (by omega))]
theorem slip_r {pr y1 th : Int32} {N i : Nat} {bi : Nat → Int32} (hp : ¬ pr = 0) (hN : N ≤ 360000) (hi : i ≤ N) (h1 : -600 ≤ y1.toInt) (h2 : y1.toInt ≤ 600) (h3 : N + y1.toInt ≤ 360000) :
    fX10_slip (nI N) pr th bi (nI i) y1 = if 0 ≤ y1 then fX10_slip_L127 (nI i) (fun b => fX10_slip_L154 y1 (fun c => some (nI N + y1, nI N + y1, 0, c)) (nI i) FU 0 b) y1 FU (nI N - 1) bi
      else fX10_slip_L72 (nI N) (if (nI N - nI i) < (-y1) then (nI N - nI i) else (-y1)) (fun b => some (nI N - (if (nI N - nI i) < (-y1) then (nI N - nI i) else (-y1)), nI N - (if (nI N - nI i) < (-y1) then (nI N - nI i) else (-y1)), 0, b)) FU (nI i) bi := by
  unfold fX10_slip
  have b1 := nI_ti (n := i) (by omega)
  have b2 := nI_ti (n := N) (by omega)
  have a0 : (360000 : Int32).toInt = 360000 := by decide
  rw [if_neg hp, in_1 (by rw [tl_i, tl_i]; show (0 : Int) ≤ _ ∧ _; omega), nt1E, if_neg ne10, in_1 (by rw [tl_i]; show (-600 : Int) ≤ _ ∧ _ ≤ (600 : Int); omega), nt1E, if_neg ne10, if_pos (ti_le.mpr (by rw [ti_add (by omega) (by omega)]; omega))]
  simp only [nmE, jkE]
