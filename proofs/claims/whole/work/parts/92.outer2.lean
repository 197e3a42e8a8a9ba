/-! ===== play: the loop over outer words, the stream's bytes ===== -/
/-- an outer word that was mended -/
def RO (c mk oF ou om oT : Nat → Int32) (j : Nat) : Prop := oF j = oT j ∧ ∀ i, i < 28 → (∃ v, v < 256 ∧ ou (28 * j + i) = nI v) ∧ c (j * 32 + i) &&& 255 = ou (28 * j + i) ∧ om (28 * j + i) = b01 (bt (mk j) i)
theorem outerS {f v q : Nat} {pwr lg pwr' lg' : Nat → Int32} {sp fa mo : Int32} {loc rest spots sums c mk iF oF tl im iT inn om oT ou mkd pl rows sy vals wd : Nat → Int32} (hT : TabF pwr lg) (hT' : TabF pwr' lg') (hf : f ≤ 640) (hv : v < f) (hq : q ≤ 2) (hri : ∀ j, v ≤ j → j < f → RI c mk iF inn im iT j) (h5 : tl 5 = mo) :
    ∃ (r sp' d m mo' : Int32) (c1 loc' rest' spots' sums' c' mk' tl' om' ou' mkd' pl' rr' sy' vl' wd' : Nat → Int32), fX5_takeOuterWord (nI f) c mk (nI v) = some (m, c1) ∧ fX5_mendOuter 28 sp oF tl loc rest spots sums c1 mk lg pwr (nI v) m (nI q) = some (sp', upd oF v r, tl', loc', rest', spots', sums', c', mk') ∧ fX10_playOuter (nI f) mo fa im inn lg' mkd om oT ou pl pwr' rows sy vals wd (nI v) (nI q) = some (mo', fa + d, mkd', om', upd oT v r, ou', pl', rr', sy', vl', wd') ∧ (∀ j, j ≠ v → mk' j = mk j) ∧ (∀ i, i < 28 → (∃ v', v' < 256 ∧ ou' (28 * v + i) = nI v') ∧ c' (v * 32 + i) &&& 255 = ou' (28 * v + i) ∧ om' (28 * v + i) = b01 (bt (mk' v) i)) ∧ (∀ p, (p < v * 32 ∨ v * 32 + 28 ≤ p) → c' p = c p) ∧ (∀ p, (p < 28 * v ∨ 28 * v + 28 ≤ p) → ou' p = ou p ∧ om' p = om p) ∧ (∀ t, t ≠ 2 → t ≠ 5 → tl' t = tl t) ∧ tl' 2 = tl 2 + d ∧ tl' 5 = mo' := by
  obtain ⟨m, c1, a1, a2, a3, a4⟩ := toL (f := f) (v := v) (c0 := c) hf hv hri FU 0 0 c (by omega) (by rw [FU_eq]; omega) (fun t ht => by rw [b_0]; rfl) (fun t ht => by omega) (fun p _ => rfl)
  obtain ⟨mkd1, wd1, b1, b2⟩ := po5 (v := v) (jj := fun x3_1 v_marked_2 v_word_3 => jk (fun (t_5 : Int32) => ob6 (fX10_mended lg' v_marked_2 pl pwr' rows sy vals v_word_3 28 (nI q)) fun r_7 v_places_8 v_rows_9 v_syndromes_10 v_values_11 v_word_12 => og (ixb (nI v) 640) (nm (upd oT (Int32.toNatClampNeg (nI v)) r_7) fun v_outerTold_15 => og (ixb (nI v) 640) (jk (fun (t_17 : Int32) => jk (fun (t_19 : Int32) => nm ((fa + t_19) : Int32) fun v_outerFails_21 => fX10_playOuter_L185 t_5 v_outerFails_21 v_marked_2 v_outerTold_15 v_places_8 v_rows_9 v_syndromes_10 v_values_11 v_word_12 (nI v) t_17 x3_1 FU 0 om ou) fun j178_20 => if t_17 = 0 then j178_20 0 else j178_20 1) fun j161_18 => if 0 ≤ (v_outerTold_15 (Int32.toNatClampNeg (nI v))) then j161_18 0 else j161_18 1))) fun j131_6 => if x3_1 ≤ mo then j131_6 mo else j131_6 x3_1) hf hv hri FU 0 mkd wd (by omega) (by rw [FU_eq]; omega) (fun t ht => by omega)
  obtain ⟨r, V, sp', loc', rest', spots', sums', c', pl', rr', s', v', w', d1, d2, d3, d4, d5, d6, d7⟩ := heal_mended (n := 28) (q := q) (fr := v * 32) (A := 20480) (mk := m) (sp := sp) (W := OW inn f v) (mkd := mkd1) (w := wd1) (c := c1) hT hT' loc rest spots sums pl rows sy vals (Or.inl rfl) hq (by omega) (by omega) (OW_lt _ _ _) (fun i hi => a3 i hi) (fun i hi => by rw [(b2 i hi).1, a2 i (by omega), decide_eq_true hi]; rfl) (fun i hi => (b2 i hi).2)
  have hF : Fate r := by
    rcases d7 with ⟨z, _⟩ | z
    · exact Or.inl z
    · exact Or.inr z
  obtain ⟨tl', e1, e2, e3, e4⟩ := mendO (oF := oF) (tl := tl) (mk := mk) (show v < 640 from by omega) d1
  have hpop : pop (bt m) 32 = pop (OM iT f v) 28 := by
    rw [pop_congr (B := fun t => decide (t < 28) && OM iT f v t) 32 (fun t ht => a2 t ht), pop_const' (a := 28) (b := 32) (by omega) (fun p h1 h2 => by rw [decide_eq_false (by omega)]; rfl)]
    exact pop_congr 28 (fun t ht => by rw [decide_eq_true ht]; rfl)
  have hpl := pop_le (OM iT f v) 28
  rw [hpop] at e1 e4
  obtain ⟨om2, ou2, f1, f2⟩ := po185 (v := v) (a := if nI (pop (OM iT f v) 28) ≤ mo then mo else nI (pop (OM iT f v) 28)) (b := fa + (if r = (-2 : Int32) then 1 else 0)) (M := pop (OM iT f v) 28) (fal := decide (r = -2)) (O := OM iT f v) (mkd := mkd1) (oT := upd oT v r) (pl := pl') (rr := rr') (sy := s') (vl := v') (wd := w') (by omega) hpl (fun t ht => (b2 t ht).1) FU 0 om ou (by omega) (by rw [FU_eq]; omega)
  refine ⟨r, sp', (if r = (-2 : Int32) then 1 else 0), m, (if nI (pop (OM iT f v) 28) ≤ mo then mo else nI (pop (OM iT f v) 28)), c1, loc', rest', spots', sums', c', _, tl', om2, ou2, mkd1, pl', rr', s', v', w', a1, e1, ?_, fun j hj => pk_un hj, fun i hi => ⟨⟨V i, d3 i, ?_⟩, ?_, ?_⟩, fun p hp => ?_, fun p hp => ⟨?_, ?_⟩, e2, e3, by rw [e4, h5]⟩
  · unfold fX10_playOuter
    rw [jkE]
    have b1' : fX10_playOuter_L5 _ (nI v) (nI f) im inn FU 0 0 mkd wd = _ := b1
    have d2' : fX10_mended lg' mkd1 pl pwr' rows sy vals wd1 28 (nI q) = _ := d2
    rw [b1', jkE]
    have fin : ∀ t5 : Int32, t5 = (if nI (pop (OM iT f v) 28) ≤ mo then mo else nI (pop (OM iT f v) 28)) → (ob6 (fX10_mended lg' mkd1 pl pwr' rows sy vals wd1 28 (nI q)) fun r_7 v_places_8 v_rows_9 v_syndromes_10 v_values_11 v_word_12 => og (ixb (nI v) 640) (nm (upd oT (Int32.toNatClampNeg (nI v)) r_7) fun v_outerTold_15 => og (ixb (nI v) 640) (jk (fun (t_17 : Int32) => jk (fun (t_19 : Int32) => nm ((fa + t_19) : Int32) fun v_outerFails_21 => fX10_playOuter_L185 t5 v_outerFails_21 mkd1 v_outerTold_15 v_places_8 v_rows_9 v_syndromes_10 v_values_11 v_word_12 (nI v) t_17 (nI (pop (OM iT f v) 28)) FU 0 om ou) fun j178_20 => if t_17 = 0 then j178_20 0 else j178_20 1) fun j161_18 => if 0 ≤ (v_outerTold_15 (Int32.toNatClampNeg (nI v))) then j161_18 0 else j161_18 1))) = some ((if nI (pop (OM iT f v) 28) ≤ mo then mo else nI (pop (OM iT f v) 28)), fa + (if r = (-2 : Int32) then 1 else 0), mkd1, om2, upd oT v r, ou2, pl', rr', s', v', w') := fun t5 ht5 => by
      rw [ht5, d2', ob6E, og_nI (by omega) (by omega), nmE, og_nI (by omega) (by omega), nI_clamp (by omega), pk_us]
      simp only [jkE, nmE]
      by_cases hr : r = (-2 : Int32)
      · rw [if_neg (fun z => (fate_ge hF).mp z hr), if_neg ne10]
        rw [decide_eq_true hr, if_pos hr] at f1
        rw [if_pos hr]
        exact f1
      · rw [if_pos ((fate_ge hF).mpr hr), if_pos trivial]
        rw [decide_eq_false hr, if_neg hr] at f1
        rw [if_neg hr]
        exact f1
    by_cases z : nI (pop (OM iT f v) 28) ≤ mo
    · rw [if_pos z]
      exact fin mo (by rw [if_pos z])
    · rw [if_neg z]
      exact fin (nI (pop (OM iT f v) 28)) (by rw [if_neg z])
  · rw [(f2 _).2, if_pos (by omega), show 28 * v + i - 28 * v = i from by omega, d5 i hi]
  · rw [(f2 _).2, if_pos (by omega), show 28 * v + i - 28 * v = i from by omega, d5 i hi]
    exact d4.1 i hi
  · rw [(f2 _).1, if_pos (by omega), show 28 * v + i - 28 * v = i from by omega, pk_us]
    congr 1
    by_cases hr : r = (-2 : Int32)
    · rw [if_pos hr, decide_eq_true hr]
      by_cases h4 : pop (OM iT f v) 28 ≤ 4
      · rw [if_pos h4, decide_eq_true (show pop (OM iT f v) 28 < 5 from by omega)]
        have : ∀ i, i < 28 → bt 268435455 i = true := by decide +kernel
        rw [this i hi]; rfl
      · rw [if_neg h4, decide_eq_false (show ¬ pop (OM iT f v) 28 < 5 from by omega), a2 i (by omega), decide_eq_true hi]; rfl
    · rw [if_neg hr, decide_eq_false hr, b_0]; rfl
  · rw [d4.2.2 p (by omega), a4 p hp]
  · rw [(f2 _).2, if_neg (by omega)]
  · rw [(f2 _).1, if_neg (by omega)]
theorem L85 {j1 : Int32 → (Nat → Int32) → (Nat → Int32) → (Nat → Int32) → (Nat → Int32) → (Nat → Int32) → (Nat → Int32) → (Nat → Int32) → (Nat → Int32) → Option (Int32 × Int32 × Int32 × Int32 × (Nat → Int32) × Int32 × (Nat → Int32) × Int32 × (Nat → Int32) × (Nat → Int32) × (Nat → Int32) × (Nat → Int32) × (Nat → Int32) × (Nat → Int32) × (Nat → Int32) × (Nat → Int32) × (Nat → Int32) × (Nat → Int32) × (Nat → Int32) × (Nat → Int32) × (Nat → Int32) × (Nat → Int32))} {j2 : Int32 → Int32 → (Nat → Int32) → (Nat → Int32) → (Nat → Int32) → (Nat → Int32) → (Nat → Int32) → (Nat → Int32) → (Nat → Int32) → (Nat → Int32) → (Nat → Int32) → Option (Int32 × Int32 × Int32 × Int32 × Int32 × Int32 × Int32 × Int32 × Int32 × (Nat → Int32) × (Nat → Int32) × (Nat → Int32) × (Nat → Int32) × (Nat → Int32) × (Nat → Int32) × (Nat → Int32) × (Nat → Int32) × (Nat → Int32) × (Nat → Int32) × (Nat → Int32) × (Nat → Int32) × (Nat → Int32) × (Nat → Int32) × (Nat → Int32) × (Nat → Int32))} {f q : Nat} {pwr lg pwr' lg' iF im iT inn : Nat → Int32} (hT : TabF pwr lg) (hT' : TabF pwr' lg') (hf : f ≤ 640) (hq : q ≤ 2) : ∀ (F v : Nat) (sp fa mo : Int32) (oF tl loc rest spots sums c mk om oT ou mkd pl rows sy vals wd : Nat → Int32), v ≤ f → f - v < F → (∀ j, j < v → RO c mk oF ou om oT j) → (∀ j, v ≤ j → j < f → RI c mk iF inn im iT j) → tl 2 = fa → tl 5 = mo →
    ∃ (sp' fa' mo' : Int32) (oF' tl' loc' rest' spots' sums' c' mk' om' oT' ou' mkd' pl' rows' sy' vals' wd' : Nat → Int32), fX5_perform_L85 (nI f) j1 28 lg pwr (nI q) F (nI v) sp oF tl loc rest spots sums c mk = j1 sp' oF' tl' loc' rest' spots' sums' c' mk' ∧ fX10_play_L191 (nI f) j2 im inn lg' pwr' (nI q) F (nI v) fa mo mkd om oT ou pl rows sy vals wd = j2 fa' mo' mkd' om' oT' ou' pl' rows' sy' vals' wd' ∧ (∀ j, j < f → RO c' mk' oF' ou' om' oT' j) ∧ tl' 2 = fa' ∧ tl' 5 = mo' ∧ ∀ t, t ≠ 2 → t ≠ 5 → tl' t = tl t := by
  intro F
  induction F with
  | zero => intro v sp fa mo oF tl loc rest spots sums c mk om oT ou mkd pl rows sy vals wd _ h; omega
  | succ F ih =>
    intro v sp fa mo oF tl loc rest spots sums c mk om oT ou mkd pl rows sy vals wd hv hF hdone hri h2 h5
    rw [fX5_perform_L85.eq_2, fX10_play_L191.eq_2]
    by_cases h1 : f ≤ v
    · rw [if_pos (nI_le h1 (by omega)), if_pos (nI_le h1 (by omega))]
      have e : v = f := by omega
      subst e
      exact ⟨sp, fa, mo, oF, tl, loc, rest, spots, sums, c, mk, om, oT, ou, mkd, pl, rows, sy, vals, wd, rfl, rfl, hdone, h2, h5, fun t _ _ => rfl⟩
    · obtain ⟨r, sp', d, m, mo', c1, loc', rest', spots', sums', c', mk', tl', om', ou', mkd', pl', rr', sy', vl', wd', s1, s2, s3, s4, s5, s6, s7, s8, s9, s10⟩ := outerS (v := v) (q := q) (sp := sp) (fa := fa) (mo := mo) (loc := loc) (rest := rest) (spots := spots) (sums := sums) (c := c) (mk := mk) (oF := oF) (tl := tl) (om := om) (oT := oT) (ou := ou) (mkd := mkd) (pl := pl) (rows := rows) (sy := sy) (vals := vals) (wd := wd) hT hT' hf (by omega) hq hri h5
      rw [if_neg (nI_ge (by omega) (by omega)), if_neg (nI_ge (by omega) (by omega)), s1, ob2E, s2, ob9E, s3, ob11E, nmE, nmE, nI_1]
      obtain ⟨x1, x2, x3, x4, x5, x6, x7, x8, x9, x10, x11, x12, x13, x14, x15, x16, x17, x18, x19, x20, k1, k2, k3, k4, k5, k6⟩ := ih (v + 1) sp' (fa + d) mo' (upd oF v r) tl' loc' rest' spots' sums' c' mk' om' (upd oT v r) ou' mkd' pl' rr' sy' vl' wd' (by omega) (by omega) (fun j hj => by
        by_cases z : j = v
        · subst z
          unfold RO
          rw [pk_us, pk_us]
          exact ⟨rfl, s5⟩
        · obtain ⟨u1, u2⟩ := hdone j (by omega)
          unfold RO
          rw [pk_un z, pk_un z, s4 j z]
          refine ⟨u1, fun i hi => ?_⟩
          obtain ⟨v1, v2, v3⟩ := u2 i hi
          obtain ⟨y2, y3⟩ := s7 (28 * j + i) (by omega)
          rw [y2, y3, s6 (j * 32 + i) (by omega)]
          exact ⟨v1, v2, v3⟩) (fun j hj hjf => by
        obtain ⟨u1, u2, u3, u4⟩ := hri j (by omega) hjf
        unfold RI
        rw [s4 j (by omega)]
        refine ⟨u1, u2, u3, fun i hi => ?_⟩
        rw [s6 (j * 32 + i) (by omega)]
        exact u4 i hi) (by rw [s9, h2]) s10
      exact ⟨x1, x2, x3, x4, x5, x6, x7, x8, x9, x10, x11, x12, x13, x14, x15, x16, x17, x18, x19, x20, k1, k2, k3, k4, k5, fun t ht ht5 => by rw [k6 t ht ht5, s8 t ht ht5]⟩
/-! bytes of the stream -/
def GV (c : Nat → Int32) (f k : Nat) : Int32 := if k / 24 + rwOf (k % 24) < f then c ((k / 24 + rwOf (k % 24)) * 32 + plOf (k % 24)) &&& 255 else 0
def GS (mk : Nat → Int32) (f k : Nat) : Bool := decide (k / 24 + rwOf (k % 24) < f) && !bt (mk (k / 24 + rwOf (k % 24))) (plOf (k % 24))
def bA (i : Nat) : Nat := 4 * (2 * ((if i < 12 then i else i - 16) % 6 / 2) + (if i < 12 then 0 else 1)) + 2 * ((if i < 12 then i else i - 16) / 6) + (if i < 12 then i else i - 16) % 2
theorem bA_f : ∀ i, i < 28 → ¬ (12 ≤ i ∧ i < 16) → fX10_byteAt (nI i) = nI (bA i) ∧ bA i < 24 ∧ plOf (bA i) = i ∧ rwOf (bA i) = (if i < 12 then 2 else 0) := by decide +kernel
theorem bA_p : ∀ o, o < 24 → bA (plOf o) = o ∧ plOf o < 28 ∧ ¬ (12 ≤ plOf o ∧ plOf o < 16) := by decide +kernel
def cP (h : Nat → Nat) : Nat → Nat
  | 0 => 0
  | i + 1 => cP h i + (if 12 ≤ i ∧ i < 16 then 0 else h (bA i))
theorem cP_pop (g : Nat → Bool) : cP (fun o => (g o).toNat) 28 = pop g 24 := by
  have key : ∀ h : Nat → Nat, cP h 28 = ((((((((((((((((((((((((0 + h 0) + h 1) + h 2) + h 3) + h 4) + h 5) + h 6) + h 7) + h 8) + h 9) + h 10) + h 11) + h 12) + h 13) + h 14) + h 15) + h 16) + h 17) + h 18) + h 19) + h 20) + h 21) + h 22) + h 23) := fun h => by
    show ((((((((((((((((((((((((((((0 + h 0) + h 1) + h 8) + h 9) + h 16) + h 17) + h 2) + h 3) + h 10) + h 11) + h 18) + h 19) + 0) + 0) + 0) + 0) + h 4) + h 5) + h 12) + h 13) + h 20) + h 21) + h 6) + h 7) + h 14) + h 15) + h 22) + h 23) = _
    omega
  rw [key]
  rfl
