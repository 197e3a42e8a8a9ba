/-! ===== play: the loop over inner words ===== -/
theorem plI2 {jj : (Nat → Int32) → (Nat → Int32) → (Nat → Int32) → (Nat → Int32) → Option (Int32 × (Nat → Int32) × (Nat → Int32) × (Nat → Int32) × (Nat → Int32) × (Nat → Int32) × (Nat → Int32) × (Nat → Int32) × (Nat → Int32) × (Nat → Int32))} {n f w : Nat} {st : Nat → Nat} {sz pr len mpr msf : Int32} {pk bi fat mby : Nat → Int32} (hD : ID n sz pr pk len mpr msf bi) (hf : f ≤ 640) (hw : w < f) (hst : ∀ j, j < f → fat j = nI (st j) ∧ st j < 360000) (hmb : ∀ x, x < 16384 → mby x = rdF x) : ∀ (F i : Nat) (im inn mkd wd : Nat → Int32), i ≤ 32 → 32 - i < F → (∀ t, t < i → mkd t = b01 (IM (pb pk) st f w t) ∧ wd t = nI (IW (pb pk) st f w t)) →
    ∃ im' in' mkd' wd', fX10_playInner_L2 jj (nI f) len bi mby fat (nI w) F (nI i) im inn mkd wd = jj im' in' mkd' wd' ∧ (∀ t, t < 32 → mkd' t = b01 (IM (pb pk) st f w t) ∧ wd' t = nI (IW (pb pk) st f w t)) ∧ ∀ p, (p < 32 * w ∨ 32 * w + 32 ≤ p) → im' p = im p ∧ in' p = inn p := by
  intro F
  induction F with
  | zero => intro i im inn mkd wd _ h; omega
  | succ F ih =>
    intro i im inn mkd wd hi hF h
    rw [fX10_playInner_L2.eq_2]
    by_cases h1 : 32 ≤ i
    · rw [if_pos (show (32 : Int32) ≤ nI i from nI_le (a := 32) h1 (by omega))]
      exact ⟨im, inn, mkd, wd, rfl, fun t ht => h t (by omega), fun p _ => ⟨rfl, rfl⟩⟩
    · obtain ⟨im1, in1, g1, g2, g3, g4⟩ := rdI (im := im) (inn := inn) (i := i) hD hf hw (by omega) hst hmb
      have hix : (32 : Int32) * nI w + nI i = nI (32 * w + i) := by rw [show (32 : Int32) * nI w = nI (32 * w) from pk_mul 32 w, nI_add]
      rw [if_neg (show ¬ (32 : Int32) ≤ nI i from nI_ge (b := 32) (by omega) (by omega)), g1, ob2E, hix, og_nI (by omega) (by omega), og_nI (by omega) (by omega), nmE, og_nI (by omega) (by omega), og_nI (by omega) (by omega), nmE, nmE, nI_clamp (n := i) (by omega), nI_clamp (by omega), g2, g3, zbool, nI_1]
      obtain ⟨im', in', mkd', wd', k1, k2, k3⟩ := ih (i + 1) im1 in1 (upd mkd i (b01 (IM (pb pk) st f w i))) (upd wd i (nI (IW (pb pk) st f w i))) (by omega) (by omega) (fun t ht => by
        by_cases z : t = i
        · rw [z, pk_us, pk_us]; exact ⟨rfl, rfl⟩
        · rw [pk_un z, pk_un z]; exact h t (by omega))
      refine ⟨im', in', mkd', wd', k1, k2, fun p hp => ?_⟩
      obtain ⟨a1, a2⟩ := k3 p hp
      obtain ⟨b1, b2⟩ := g4 p (by omega)
      rw [a1, a2, b1, b2]; exact ⟨rfl, rfl⟩
theorem pl103 {w : Nat} {fa : Int32} {b : Bool} {iT mkd pl rr sy vl wd : Nat → Int32} (hw : w < 640) : ∀ (F i : Nat) (im inn : Nat → Int32), i ≤ 32 → 32 - i < F →
    ∃ im' in', fX10_playInner_L103 fa iT mkd pl rr sy vl wd (nI w) (b01 b) F (nI i) im inn = some (fa, im', iT, in', mkd, pl, rr, sy, vl, wd) ∧ ∀ p, im' p = (if 32 * w + i ≤ p ∧ p < 32 * w + 32 then b01 b else im p) ∧ in' p = (if 32 * w + i ≤ p ∧ p < 32 * w + 32 then wd (p - 32 * w) else inn p) := by
  intro F
  induction F with
  | zero => intro i im inn _ h; omega
  | succ F ih =>
    intro i im inn hi hF
    rw [fX10_playInner_L103.eq_2]
    by_cases h1 : 32 ≤ i
    · rw [if_pos (show (32 : Int32) ≤ nI i from nI_le (a := 32) h1 (by omega))]
      exact ⟨im, inn, rfl, fun p => ⟨by rw [if_neg (by omega)], by rw [if_neg (by omega)]⟩⟩
    · have hix : (32 : Int32) * nI w + nI i = nI (32 * w + i) := by rw [show (32 : Int32) * nI w = nI (32 * w) from pk_mul 32 w, nI_add]
      rw [if_neg (show ¬ (32 : Int32) ≤ nI i from nI_ge (b := 32) (by omega) (by omega)), hix, og_nI (by omega) (by omega), og_nI (by omega) (by omega), nmE, og_nI (by omega) (by omega), nmE, nmE, nI_clamp (n := i) (by omega), nI_clamp (by omega), zbool, nI_1]
      obtain ⟨im', in', g1, g2⟩ := ih (i + 1) (upd im (32 * w + i) (b01 b)) (upd inn (32 * w + i) (wd i)) (by omega) (by omega)
      refine ⟨im', in', g1, fun p => ⟨?_, ?_⟩⟩
      · rw [(g2 p).1]
        by_cases q : p = 32 * w + i
        · subst q; rw [if_neg (by omega), if_pos (by omega), pk_us]
        · rw [pk_un q]
          by_cases q2 : 32 * w + (i + 1) ≤ p ∧ p < 32 * w + 32
          · rw [if_pos q2, if_pos (by omega)]
          · rw [if_neg q2, if_neg (by omega)]
      · rw [(g2 p).2]
        by_cases q : p = 32 * w + i
        · subst q; rw [if_neg (by omega), if_pos (by omega), pk_us]
          exact congrArg wd (by omega)
        · rw [pk_un q]
          by_cases q2 : 32 * w + (i + 1) ≤ p ∧ p < 32 * w + 32
          · rw [if_pos q2, if_pos (by omega)]
          · rw [if_neg q2, if_neg (by omega)]
theorem innerS {n f w q : Nat} {st : Nat → Nat} {sz pr len mpr msf : Int32} {pk bi fat mby pwr lg pwr' lg' : Nat → Int32} {sp fa : Int32} {loc rest spots sums c mk iF tl im iT inn mkd pl rows sy vals wd : Nat → Int32} (hT : TabF pwr lg) (hT' : TabF pwr' lg') (hD : ID n sz pr pk len mpr msf bi) (hf : f ≤ 640) (hw : w < f) (hq : q ≤ 2) (hst : ∀ j, j < f → fat j = nI (st j) ∧ st j < 360000) (hmb : ∀ x, x < 16384 → mby x = rdF x) (h0 : RD (pb pk) st c mk w) (h1 : w + 1 < f → RD (pb pk) st c mk (w + 1)) :
    ∃ (r sp' d : Int32) (c1 mk1 loc' rest' spots' sums' c' mk' tl' im' in' mkd' pl' rr' sy' vl' wd' : Nat → Int32), fX5_takeInnerWord (nI f) c mk (nI w) = some (c1, mk1) ∧ fX5_mendInner 32 sp iF tl loc rest spots sums c1 mk1 lg pwr (nI w) (nI q) = some (sp', upd iF w r, tl', loc', rest', spots', sums', c', mk') ∧ fX10_playInner (nI f) fa len bi mby fat im iT inn lg' mkd pl pwr' rows sy vals wd (nI w) (nI q) = some (fa + d, im', upd iT w r, in', mkd', pl', rr', sy', vl', wd') ∧ Fate r ∧ mk' w = fl r ∧ (∀ j, j ≠ w → mk' j = mk j) ∧ (∀ i, i < 32 → ∃ v, v < 256 ∧ c' (w * 32 + i) &&& 255 = nI v ∧ in' (32 * w + i) = nI v ∧ im' (32 * w + i) = b01 (decide (r = -2))) ∧ (∀ p, (p < w * 32 ∨ w * 32 + 32 ≤ p) → c' p &&& 255 = c p &&& 255 ∧ in' p = inn p ∧ im' p = im p) ∧ (∀ t, t ≠ 1 → tl' t = tl t) ∧ tl' 1 = tl 1 + d := by
  obtain ⟨c1, m1, a1, a2, a3⟩ := takeI hf hw h0 h1
  obtain ⟨im1, in1, mkd1, wd1, b1, b2, b3⟩ := plI2 (w := w) (jj := fun v_innerMarks_1 v_inners_2 v_marked_3 v_word_4 => ob6 (fX10_mended lg' v_marked_3 pl pwr' rows sy vals v_word_4 32 (nI q)) fun r_6 v_places_7 v_rows_8 v_syndromes_9 v_values_10 v_word_11 => og (ixb (nI w) 640) (nm (upd iT (Int32.toNatClampNeg (nI w)) r_6) fun v_innerTold_14 => og (ixb (nI w) 640) (jk (fun (t_16 : Int32) => jk (fun (t_18 : Int32) => nm ((fa + t_18) : Int32) fun v_innerFails_20 => fX10_playInner_L103 v_innerFails_20 v_innerTold_14 v_marked_3 v_places_7 v_rows_8 v_syndromes_9 v_values_10 v_word_11 (nI w) t_16 FU 0 v_innerMarks_1 v_inners_2) fun j96_19 => if t_16 = 0 then j96_19 0 else j96_19 1) fun j81_17 => if 0 ≤ (v_innerTold_14 (Int32.toNatClampNeg (nI w))) then j81_17 0 else j81_17 1))) hD hf hw hst hmb FU 0 im inn mkd wd (by omega) (by rw [FU_eq]; omega) (fun t ht => by omega)
  obtain ⟨r, V, sp', loc', rest', spots', sums', c', pl', rr', s', v', w', d1, d2, d3, d4, d5, d6, d7⟩ := heal_mended (n := 32) (q := q) (fr := w * 32) (A := 20480) (mk := m1) (sp := sp) (W := IW (pb pk) st f w) (mkd := mkd1) (w := wd1) (c := c1) hT hT' loc rest spots sums pl rows sy vals (Or.inr rfl) hq (by omega) (by omega) (IW_lt _ _ _ _) (fun i hi => (a2 i hi).1) (fun i hi => by rw [(b2 i hi).1, (a2 i hi).2]) (fun i hi => (b2 i hi).2)
  have hF : Fate r := by
    rcases d7 with ⟨z, _⟩ | z
    · exact Or.inl z
    · exact Or.inr z
  have d1' : fX0_heal 32 sp loc rest spots sums lg pwr c1 20480 (nI (w * 32)) ((upd mk w m1) w) (nI q) = some (r, sp', loc', rest', spots', sums', c') := by rw [pk_us]; exact d1
  obtain ⟨tl', e1, e2, e3⟩ := mendI (iF := iF) (tl := tl) (mk := upd mk w m1) (show w < 640 from by omega) d1'
  obtain ⟨im2, in2, f1, f2⟩ := pl103 (w := w) (fa := fa + (if r = (-2 : Int32) then 1 else 0)) (b := decide (r = -2)) (iT := upd iT w r) (mkd := mkd1) (pl := pl') (rr := rr') (sy := s') (vl := v') (wd := w') (by omega) FU 0 im1 in1 (by omega) (by rw [FU_eq]; omega)
  refine ⟨r, sp', (if r = (-2 : Int32) then 1 else 0), c1, upd mk w m1, loc', rest', spots', sums', c', _, tl', im2, in2, mkd1, pl', rr', s', v', w', a1, e1, ?_, hF, ?_, fun j hj => ?_, fun i hi => ?_, fun p hp => ?_, e2, e3⟩
  · unfold fX10_playInner
    rw [jkE]
    have b1' : fX10_playInner_L2 _ (nI f) len bi mby fat (nI w) FU 0 im inn mkd wd = _ := b1
    have d2' : fX10_mended lg' mkd1 pl pwr' rows sy vals wd1 32 (nI q) = _ := d2
    rw [b1', d2', ob6E, og_nI (by omega) (by omega), nmE, og_nI (by omega) (by omega), nI_clamp (by omega), pk_us]
    simp only [jkE, nmE]
    by_cases hr : r = (-2 : Int32)
    · rw [if_neg (fun z => (fate_ge hF).mp z hr), if_neg ne10]
      rw [decide_eq_true hr, if_pos hr] at f1
      rw [if_pos hr]
      exact f1
    · rw [if_pos ((fate_ge hF).mpr hr), if_pos trivial]
      rw [decide_eq_false hr, if_neg hr] at f1
      rw [if_neg hr]
      exact f1
  · rw [pk_us]
  · rw [pk_un hj, pk_un hj]
  · refine ⟨V i, d3 i, d4.1 i hi, ?_, ?_⟩
    · rw [(f2 _).2, if_pos (by omega), show 32 * w + i - 32 * w = i from by omega, d5 i hi]
    · rw [(f2 _).1, if_pos (by omega)]
  · obtain ⟨k1, k2⟩ := b3 p (by omega)
    refine ⟨?_, ?_, ?_⟩
    · rw [d4.2.2 p (by omega), a3 p hp]
    · rw [(f2 _).2, if_neg (by omega), k2]
    · rw [(f2 _).1, if_neg (by omega), k1]
/-- an inner word that was mended -/
def RI (c mk iF inn im iT : Nat → Int32) (j : Nat) : Prop := Fate (iT j) ∧ iF j = iT j ∧ mk j = fl (iT j) ∧ ∀ i, i < 32 → ∃ v, v < 256 ∧ c (j * 32 + i) &&& 255 = nI v ∧ inn (32 * j + i) = nI v ∧ im (32 * j + i) = b01 (decide (iT j = -2))
theorem L54 {j1 : Int32 → (Nat → Int32) → (Nat → Int32) → (Nat → Int32) → (Nat → Int32) → (Nat → Int32) → (Nat → Int32) → (Nat → Int32) → (Nat → Int32) → Option (Int32 × Int32 × Int32 × Int32 × (Nat → Int32) × Int32 × (Nat → Int32) × Int32 × (Nat → Int32) × (Nat → Int32) × (Nat → Int32) × (Nat → Int32) × (Nat → Int32) × (Nat → Int32) × (Nat → Int32) × (Nat → Int32) × (Nat → Int32) × (Nat → Int32) × (Nat → Int32) × (Nat → Int32) × (Nat → Int32) × (Nat → Int32))} {j2 : Int32 → (Nat → Int32) → (Nat → Int32) → (Nat → Int32) → (Nat → Int32) → (Nat → Int32) → (Nat → Int32) → (Nat → Int32) → (Nat → Int32) → (Nat → Int32) → Option (Int32 × Int32 × Int32 × Int32 × Int32 × Int32 × Int32 × Int32 × Int32 × (Nat → Int32) × (Nat → Int32) × (Nat → Int32) × (Nat → Int32) × (Nat → Int32) × (Nat → Int32) × (Nat → Int32) × (Nat → Int32) × (Nat → Int32) × (Nat → Int32) × (Nat → Int32) × (Nat → Int32) × (Nat → Int32) × (Nat → Int32) × (Nat → Int32) × (Nat → Int32))} {n f q : Nat} {st : Nat → Nat} {sz pr len mpr msf : Int32} {pk bi fat mby pwr lg pwr' lg' : Nat → Int32} (hT : TabF pwr lg) (hT' : TabF pwr' lg') (hD : ID n sz pr pk len mpr msf bi) (hf : f ≤ 640) (hq : q ≤ 2) (hst : ∀ j, j < f → fat j = nI (st j) ∧ st j < 360000) (hmb : ∀ x, x < 16384 → mby x = rdF x) : ∀ (F w : Nat) (sp fa : Int32) (iF tl loc rest spots sums c mk im iT inn mkd pl rows sy vals wd : Nat → Int32), w ≤ f → f - w < F → (∀ j, j < w → RI c mk iF inn im iT j) → (∀ j, w ≤ j → j < f → RD (pb pk) st c mk j) → tl 1 = fa →
    ∃ (sp' fa' : Int32) (iF' tl' loc' rest' spots' sums' c' mk' im' iT' in' mkd' pl' rows' sy' vals' wd' : Nat → Int32), fX5_perform_L54 (nI f) j1 32 lg pwr (nI q) F (nI w) sp iF tl loc rest spots sums c mk = j1 sp' iF' tl' loc' rest' spots' sums' c' mk' ∧ fX10_play_L166 (nI f) j2 len bi mby fat lg' pwr' (nI q) F (nI w) fa im iT inn mkd pl rows sy vals wd = j2 fa' im' iT' in' mkd' pl' rows' sy' vals' wd' ∧ (∀ j, j < f → RI c' mk' iF' in' im' iT' j) ∧ tl' 1 = fa' ∧ ∀ t, t ≠ 1 → tl' t = tl t := by
  intro F
  induction F with
  | zero => intro w sp fa iF tl loc rest spots sums c mk im iT inn mkd pl rows sy vals wd _ h; omega
  | succ F ih =>
    intro w sp fa iF tl loc rest spots sums c mk im iT inn mkd pl rows sy vals wd hw hF hdone hrd htl
    rw [fX5_perform_L54.eq_2, fX10_play_L166.eq_2]
    by_cases h1 : f ≤ w
    · rw [if_pos (nI_le h1 (by omega)), if_pos (nI_le h1 (by omega))]
      have e : w = f := by omega
      subst e
      exact ⟨sp, fa, iF, tl, loc, rest, spots, sums, c, mk, im, iT, inn, mkd, pl, rows, sy, vals, wd, rfl, rfl, hdone, htl, fun t _ => rfl⟩
    · obtain ⟨r, sp', d, c1, mk1, loc', rest', spots', sums', c', mk', tl', im', in', mkd', pl', rr', sy', vl', wd', s1, s2, s3, s4, s5, s6, s7, s8, s9, s10⟩ := innerS (w := w) (q := q) (sp := sp) (fa := fa) (loc := loc) (rest := rest) (spots := spots) (sums := sums) (c := c) (mk := mk) (iF := iF) (tl := tl) (im := im) (iT := iT) (inn := inn) (mkd := mkd) (pl := pl) (rows := rows) (sy := sy) (vals := vals) (wd := wd) hT hT' hD hf (by omega) hq hst hmb (hrd w (by omega) (by omega)) (fun z => hrd (w + 1) (by omega) z)
      rw [if_neg (nI_ge (by omega) (by omega)), if_neg (nI_ge (by omega) (by omega)), s1, ob2E, s2, ob9E, s3, ob10E, nmE, nmE, nI_1]
      obtain ⟨x1, x2, x3, x4, x5, x6, x7, x8, x9, x10, x11, x12, x13, x14, x15, x16, x17, x18, x19, k1, k2, k3, k4, k5⟩ := ih (w + 1) sp' (fa + d) (upd iF w r) tl' loc' rest' spots' sums' c' mk' im' (upd iT w r) in' mkd' pl' rr' sy' vl' wd' (by omega) (by omega) (fun j hj => by
        by_cases z : j = w
        · subst z
          unfold RI
          rw [pk_us, pk_us]
          exact ⟨s4, rfl, s5, s7⟩
        · obtain ⟨u1, u2, u3, u4⟩ := hdone j (by omega)
          unfold RI
          rw [pk_un z, pk_un z, s6 j z]
          refine ⟨u1, u2, u3, fun i hi => ?_⟩
          obtain ⟨v, v1, v2, v3, v4⟩ := u4 i hi
          obtain ⟨y1, _, _⟩ := s8 (j * 32 + i) (by omega)
          obtain ⟨_, y2, y3⟩ := s8 (32 * j + i) (by omega)
          exact ⟨v, v1, by rw [y1]; exact v2, by rw [y2]; exact v3, by rw [y3]; exact v4⟩) (fun j hj hjf => fun i hi => by
        obtain ⟨u1, u2⟩ := hrd j (by omega) hjf i hi
        obtain ⟨y1, _, _⟩ := s8 (j * 32 + i) (by omega)
        rw [y1, s6 j (by omega)]
        exact ⟨u1, u2⟩) (by rw [s10, htl])
      exact ⟨x1, x2, x3, x4, x5, x6, x7, x8, x9, x10, x11, x12, x13, x14, x15, x16, x17, x18, x19, k1, k2, k3, k4, fun t ht => by rw [k5 t ht, s9 t ht]⟩
