/-! ===== play: the frames ===== -/
theorem nextP {n N p wn : Nat} {sz pr len mpr msf : Int32} {pk bi : Nat → Int32} (hD : ID n sz pr pk len mpr msf bi) (hN : N ≤ 360000) (e2 : len = nI N) (hp : p < N) (hwn : wn ≤ 20) : ∀ (F d : Nat), d ≤ wn + 1 → wn + 1 - d < F → ∃ q, fX5_nextStart_L2 (nI wn) (nI (p + 588)) (nI N) pk F (nI d) = some (nI q) ∧ fX10_nextFrame_L2 (nI wn) (nI p) len bi (fun x => some (nI p + (588 : Int32) + x)) (fun x => some (nI p + (588 : Int32) - x)) F (nI d) = some (nI q) ∧ p + 568 ≤ q ∧ q ≤ p + 608 := by
  subst e2
  have e588 : nI p + (588 : Int32) = nI (p + 588) := nI_add p 588
  intro F
  induction F with
  | zero => intro d _ h; omega
  | succ F ih =>
    intro d hd hF
    rw [fX5_nextStart_L2.eq_2, fX10_nextFrame_L2.eq_2, e588]
    by_cases h1 : wn < d
    · rw [if_pos (nI_lt h1 (by omega)), if_pos (nI_lt h1 (by omega))]
      exact ⟨p + 588, rfl, rfl, by omega, by omega⟩
    · rw [if_neg (nI_nlt (by omega) (by omega)), if_neg (nI_nlt (by omega) (by omega)), pk_sub (by omega), nI_add, stands_eq hN (by omega), isSign_eq hD hN rfl (by omega), ob1E, ob1E]
      cases sgB pk N (p + 588 - d) with
      | true =>
        rw [if_neg (show ¬ b01 true = (0 : Int32) from by decide), if_neg (show ¬ b01 true = (0 : Int32) from by decide)]
        exact ⟨p + 588 - d, rfl, rfl, by omega, by omega⟩
      | false =>
        rw [if_pos (show b01 false = (0 : Int32) from rfl), if_pos (show b01 false = (0 : Int32) from rfl), stands_eq hN (by omega), isSign_eq hD hN rfl (by omega), ob1E, ob1E]
        cases sgB pk N (p + 588 + d) with
        | true =>
          rw [if_neg (show ¬ b01 true = (0 : Int32) from by decide), if_neg (show ¬ b01 true = (0 : Int32) from by decide)]
          exact ⟨p + 588 + d, rfl, rfl, by omega, by omega⟩
        | false =>
          rw [if_pos (show b01 false = (0 : Int32) from rfl), if_pos (show b01 false = (0 : Int32) from rfl), nmE, nmE, nI_1]
          have := ih (d + 1) (by omega) (by omega)
          rw [e588] at this
          exact this
theorem framesL {n N wn : Nat} {sz pr len mpr msf : Int32} {pk bi : Nat → Int32} (hD : ID n sz pr pk len mpr msf bi) (hN : N ≤ 360000) (e2 : len = nI N) (hwn : wn ≤ 20) : ∀ (F k p : Nat) (s0 : Nat → Nat) (sta be fat : Nat → Int32), p < N → 568 * k ≤ p → N - p < F → (∀ j, j < k → sta j = nI (s0 j) ∧ fat j = nI (s0 j) ∧ be j = nI (tkN (pb pk) (s0 j + 27) 14) ∧ s0 j < N) →
    ∃ (f : Nat) (st : Nat → Nat) (sta' be' fat' : Nat → Int32), k < f ∧ f ≤ 640 ∧ fX5_findFrames_L18 (nI N) pk (nI wn) F (nI p) (nI k) sta = some (nI f, sta') ∧ fX10_findFrames_L43 len bi (nI wn) F (nI p) (nI k) be fat = some (nI f, be', fat') ∧ ∀ j, j < f → sta' j = nI (st j) ∧ fat' j = nI (st j) ∧ be' j = nI (tkN (pb pk) (st j + 27) 14) ∧ st j < N := by
  subst e2
  intro F
  induction F with
  | zero => intro k p s0 sta be fat _ _ h; omega
  | succ F ih =>
    intro k p s0 sta be fat hp hk hF hj
    obtain ⟨q, q1, q2, q3, q4⟩ := nextP hD hN rfl hp hwn FU 0 (by omega) (by rw [FU_eq]; omega)
    have q1' : fX5_nextStart (nI N) pk (nI (p + 588)) (nI wn) = some (nI q) := q1
    have q2' : fX10_nextFrame (nI N) bi (nI p) (nI wn) = some (nI q) := by
      unfold fX10_nextFrame
      rw [jkE, jkE]; exact q2
    have ht : fX10_taken (nI N) bi (nI (p + 27)) 14 = some (nI (tkN (pb pk) (p + 27) 14)) := taken_eq hD (i := p + 27) (m := 14) (by omega) (by omega)
    rw [fX5_findFrames_L18.eq_2, fX10_findFrames_L43.eq_2, if_neg (nI_ge hp (by omega)), og_nI (by omega) (by omega), nmE, nmE, show nI p + (588 : Int32) = nI (p + 588) from nI_add p 588, q1', ob1E, show nI k + (1 : Int32) = nI (k + 1) from nI_1 k, if_neg (show ¬ (640 : Int32) ≤ nI (k + 1) from nI_ge (b := 640) (by omega) (by omega)), nt1E, og_nI (by omega) (by omega), nmE, show nI p + (27 : Int32) = nI (p + 27) from nI_add p 27, ht, ob1E, og_nI (by omega) (by omega), nmE, nmE, q2', ob1E, nI_clamp (by omega)]
    have hj2 : ∀ j, j < k + 1 → upd sta k (nI p) j = nI ((fun j => if j = k then p else s0 j) j) ∧ upd fat k (nI p) j = nI ((fun j => if j = k then p else s0 j) j) ∧ upd be k (nI (tkN (pb pk) (p + 27) 14)) j = nI (tkN (pb pk) ((fun j => if j = k then p else s0 j) j + 27) 14) ∧ (fun j => if j = k then p else s0 j) j < N := fun j hjk => by
      dsimp only
      by_cases w : j = k
      · rw [if_pos w, w, pk_us, pk_us, pk_us]; exact ⟨rfl, rfl, rfl, hp⟩
      · rw [if_neg w, pk_un w, pk_un w, pk_un w]; exact hj j (by omega)
    unfold fX3_size
    by_cases h1 : q < N
    · rw [if_pos (nI_lt h1 (by omega))]
      obtain ⟨f, st, a1, a2, a3, b1, b2, b3, b4, b5⟩ := ih (k + 1) q _ _ _ _ h1 (by omega) (by omega) hj2
      exact ⟨f, st, a1, a2, a3, by omega, b2, b3, b4, b5⟩
    · rw [if_neg (nI_nlt (by omega) (by omega))]
      refine ⟨k + 1, _, _, _, _, by omega, by omega, rfl, ?_, hj2⟩
      cases F with
      | zero => omega
      | succ F => rw [fX10_findFrames_L43.eq_2, if_pos (nI_le (by omega) (by omega))]
theorem firstS {n N : Nat} {sz pr len mpr msf : Int32} {pk bi : Nat → Int32} {jj : Int32 → Option (Int32 × (Nat → Int32) × (Nat → Int32))} (hD : ID n sz pr pk len mpr msf bi) (hN : N ≤ 360000) (e2 : len = nI N) : ∀ (F p : Nat), p ≤ N → N - p < F → (∀ s, s < p → sgB pk N s = false) → (fX10_findFrames_L2 len jj bi F (nI p) = jj (nI N) ∧ ∀ s, sgB pk N s = false) ∨ ∃ q, fX10_findFrames_L2 len jj bi F (nI p) = jj (nI q) ∧ q < N ∧ sgB pk N q = true ∧ ∀ s, s < q → sgB pk N s = false := by
  subst e2
  intro F
  induction F with
  | zero => intro p _ h; omega
  | succ F ih =>
    intro p hp hF hs
    rw [fX10_findFrames_L2.eq_2]
    by_cases h1 : N ≤ p
    · rw [if_pos (nI_le h1 (by omega)), show p = N from by omega]
      refine Or.inl ⟨rfl, fun s => ?_⟩
      cases hg : sgB pk N s with
      | false => rfl
      | true => have := sgB_lt hg; have := hs s (by omega); rw [this] at hg; exact hg.symm
    · rw [if_neg (nI_ge (by omega) (by omega)), isSign_eq hD hN rfl (by omega), ob1E]
      cases hg : sgB pk N p with
      | false =>
        rw [if_pos (show b01 false = (0 : Int32) from rfl), nmE, nI_1]
        exact ih (p + 1) (by omega) (by omega) (fun s w => by
          by_cases z : s = p
          · rw [z]; exact hg
          · exact hs s (by omega))
      | true =>
        rw [if_neg (show ¬ b01 true = (0 : Int32) from by decide)]
        exact Or.inr ⟨p, rfl, by omega, hg, hs⟩
/-- frames found, where, and the words beside -/
theorem find_eq {n N wn : Nat} {sz pr len mpr msf fo1 fo2 : Int32} {pk bi : Nat → Int32} (sta be fat : Nat → Int32) (hD : ID n sz pr pk len mpr msf bi) (hN : N ≤ 360000) (hN0 : 0 < N) (e2 : len = nI N) (hwn : wn ≤ 20) :
    ∃ (f : Nat) (st : Nat → Nat) (sta' be' fat' : Nat → Int32), 0 < f ∧ f ≤ 640 ∧ fX5_findFrames fo1 (nI N) sta pk (nI wn) = some (nI f, sta') ∧ fX10_findFrames fo2 len be bi fat (nI wn) = some (nI f, be', fat') ∧ ∀ j, j < f → sta' j = nI (st j) ∧ fat' j = nI (st j) ∧ be' j = nI (tkN (pb pk) (st j + 27) 14) ∧ st j < N := by
  subst e2
  obtain ⟨r, r1, r2⟩ := next_eq (pk := pk) (N := N) (a := 0) hN (by omega)
  have r1' : fX3_nextSign (nI N) pk 0 = some r := r1
  have fs := fun jj => firstS (jj := jj) hD hN rfl FU 0 (by omega) (by rw [FU_eq]; omega) (fun s w => by omega)
  have main : ∀ p, p < N → _ := fun p hp => framesL hD hN rfl hwn FU 0 p (fun _ => 0) sta be fat hp (by omega) (by rw [FU_eq]; omega) (fun j w => by omega)
  unfold fX5_findFrames fX10_findFrames
  rw [r1', ob1E, nmE, jkE]
  rcases r2 with ⟨rfl, h2⟩ | ⟨q, rfl, h2, h3, h4, h5⟩
  · obtain ⟨f, st, a1, a2, a3, b1, b2, b3, b4, b5⟩ := main 0 hN0
    refine ⟨f, st, a1, a2, a3, by omega, b2, ?_, ?_, b5⟩
    · rw [if_pos (by decide)]; exact b3
    · rcases fs (fun x2_1 => jk (fun (t_3 : Int32) => fX10_findFrames_L43 (nI N) bi (nI wn) FU t_3 0 be fat) fun j37_4 => if x2_1 = nI N then j37_4 0 else j37_4 x2_1) with ⟨g1, g2⟩ | ⟨q, g1, g2, g3, g4⟩
      · have g1' : fX10_findFrames_L2 (nI N) _ bi FU 0 = _ := g1
        rw [g1', jkE, if_pos rfl]
        exact b4
      · rw [h2 q (by omega)] at g3; exact absurd g3 (by decide)
  · obtain ⟨f, st, a1, a2, a3, b1, b2, b3, b4, b5⟩ := main q h3
    refine ⟨f, st, a1, a2, a3, by omega, b2, ?_, ?_, b5⟩
    · rw [if_neg (nI_pos (by omega))]; exact b3
    · rcases fs (fun x2_1 => jk (fun (t_3 : Int32) => fX10_findFrames_L43 (nI N) bi (nI wn) FU t_3 0 be fat) fun j37_4 => if x2_1 = nI N then j37_4 0 else j37_4 x2_1) with ⟨g1, g2⟩ | ⟨q', g1, g2, g3, g4⟩
      · rw [g2 q] at h4; exact absurd h4 (by decide)
      · have hqq : q' = q := by
          rcases Nat.lt_trichotomy q' q with w | w | w
          · rw [h5 q' (by omega) w] at g3; exact absurd g3 (by decide)
          · exact w
          · rw [g4 q w] at h4; exact absurd h4 (by decide)
        subst hqq
        have g1' : fX10_findFrames_L2 (nI N) _ bi FU 0 = _ := g1
        rw [g1', jkE, if_neg (fun z => by have := (nI_eq (by omega) (by omega)).mp z; omega)]
        exact b4
/-! the words of a frame -/
def trn (i : Nat) : Bool := decide (12 ≤ i ∧ i < 16) || decide (28 ≤ i)
theorem trC : ∀ i, i < 32 → fX7_isTurned (nI i) = b01 (trn i) := by decide +kernel
theorem trR : ∀ i, i < 32 → fX10_isTurned (nI i) = b01 (trn i) := by decide +kernel
def fw (B : Nat → Bool) (s i : Nat) : Nat := tkN B (s + 44 + 17 * i) 14
def fm (B : Nat → Bool) (s i : Nat) : Bool := decide (rdF (fw B s i) = -1)
def fbr (B : Nat → Bool) (s i : Nat) : Nat := if fm B s i then 0 else (rdF (fw B s i)).toNatClampNeg
def fb (B : Nat → Bool) (s i : Nat) : Nat := if trn i then 255 - fbr B s i else fbr B s i
theorem fw_lt (B : Nat → Bool) (s i : Nat) : fw B s i < 16384 := tk_lt B _ 14
theorem fbr_eq {B : Nat → Bool} {s i : Nat} (h : fm B s i = false) : rdF (fw B s i) = nI (fbr B s i) ∧ fbr B s i < 256 := by
  rcases rd_cases (fw_lt B s i) with w | ⟨b, hb, w⟩
  · unfold fm at h; rw [decide_eq_true w] at h; exact absurd h (by decide)
  · unfold fbr
    rw [h, w, nI_clamp (by omega)]
    exact ⟨rfl, hb⟩
theorem fbr_lt (B : Nat → Bool) (s i : Nat) : fbr B s i < 256 := by
  cases h : fm B s i with
  | false => exact (fbr_eq h).2
  | true => unfold fbr; rw [h]; show 0 < 256; omega
theorem fb_lt (B : Nat → Bool) (s i : Nat) : fb B s i < 256 := by
  have := fbr_lt B s i
  unfold fb
  cases trn i
  · exact this
  · show 255 - _ < 256; omega
theorem trn_v {i x : Nat} (hx : x < 256) : (if trn i then 255 - x else x) < 256 := by cases trn i <;> simp <;> omega
theorem set_eq {cells : Nat → Int32} {r p : Nat} {x : Int32} (hr : r < 640) (hp : p < 32) : fX7_set cells (nI r) (nI p) x = some (upd cells (r * 32 + p) x.toInt8.toInt32) := by
  unfold fX7_set fX7_isCell
  rw [if_neg (nI_pos (by omega)), if_neg (show ¬ (640 : Int32) ≤ nI r from nI_ge (b := 640) hr (by omega)), if_neg (nI_pos (by omega)), if_neg (show ¬ (32 : Int32) ≤ nI p from nI_ge (b := 32) hp (by omega)), nt1E, if_neg ne10, show nI r * (32 : Int32) = nI (r * 32) from pk_mul r 32, nI_add, og_nI (by omega) (by omega), nmE, nI_clamp (by omega), pk_vb]
theorem setM_eq {mk : Nat → Int32} {r : Nat} {x : Int32} (hr : r < 640) : fX7_setMarks mk (nI r) x = some (upd mk r x) := by
  unfold fX7_setMarks
  rw [if_neg (nI_pos (by omega)), if_neg (show ¬ (640 : Int32) ≤ nI r from nI_ge (b := 640) hr (by omega)), og_nI hr (by omega), nmE, nI_clamp (by omega)]
theorem mksOf_eq {mk : Nat → Int32} {r : Nat} (hr : r < 640) : fX7_marksOf mk (nI r) = some (mk r) := by
  unfold fX7_marksOf
  rw [if_neg (nI_pos (by omega)), if_neg (show ¬ (640 : Int32) ≤ nI r from nI_ge (b := 640) hr (by omega)), og_nI hr (by omega), nI_clamp (by omega)]
theorem cell255 {x : Nat} (hx : x < 256) : (nI x).toInt8.toInt32 &&& 255 = nI x := by rw [low8, and255 hx]
theorem rdL {jj : Int32 → (Nat → Int32) → (Nat → Int32) → Option ((Nat → Int32) × (Nat → Int32) × (Nat → Int32) × (Nat → Int32))} {pk sta kn' sq : Nat → Int32} {f s : Nat} {z0 : Int32} (hf : f < 640) (hs : s < 360000) (hst : sta f = nI s) (hby : ∀ x, x < 16384 → fX8_byteOf kn' sq (nI x) = some (rdF x)) : ∀ (F i : Nat) (m : Int32) (tl c : Nat → Int32), i ≤ 32 → 32 - i < F → (∀ t, t < 32 → bt m t = (decide (t < i) && fm (pb pk) s t)) → (∀ t, t < i → c (f * 32 + t) &&& 255 = nI (fb (pb pk) s t)) → tl 0 = z0 + nI (pop (fm (pb pk) s) i) →
    ∃ m' tl' c', fX5_readFrame_L36 jj (nI f) pk sta kn' sq F (nI i) m tl c = jj m' tl' c' ∧ (∀ t, t < 32 → bt m' t = fm (pb pk) s t) ∧ (∀ t, t < 32 → c' (f * 32 + t) &&& 255 = nI (fb (pb pk) s t)) ∧ (∀ t, (t < f * 32 ∨ f * 32 + 32 ≤ t) → c' t = c t) ∧ (∀ t, t ≠ 0 → tl' t = tl t) ∧ tl' 0 = z0 + nI (pop (fm (pb pk) s) 32) := by
  intro F
  induction F with
  | zero => intro i m tl c _ h; omega
  | succ F ih =>
    intro i m tl c hi hF hm hc hz
    rw [fX5_readFrame_L36.eq_2]
    by_cases h1 : 32 ≤ i
    · rw [if_pos (show (32 : Int32) ≤ nI i from nI_le (a := 32) h1 (by omega))]
      have e : i = 32 := by omega
      subst e
      exact ⟨m, tl, c, rfl, fun t ht => by rw [hm t ht, decide_eq_true ht]; rfl, fun t ht => hc t ht, fun t _ => rfl, fun t _ => rfl, hz⟩
    · have hw : fX3_wordAt pk (nI s) (nI i + (1 : Int32)) = some (nI (fw (pb pk) s i)) := by
        rw [nI_1, wordAt_eq (by omega) (by omega)]
        refine congrArg (fun z => some (nI z)) ?_
        unfold fw
        exact congrArg (fun z => tkN (pb pk) z 14) (by omega)
      rw [if_neg (show ¬ (32 : Int32) ≤ nI i from nI_ge (b := 32) (by omega) (by omega)), og_nI hf (by omega), nI_clamp (by omega), hst, hw, ob1E, hby _ (fw_lt _ _ _), ob1E, trC i (by omega)]
      simp only [jkE, nmE, nt1E]
      have go : ∀ (x : Nat) (m2 : Int32) (tl2 : Nat → Int32), x < 256 → x = fbr (pb pk) s i → (∀ t, t < 32 → bt m2 t = (decide (t < i + 1) && fm (pb pk) s t)) → (∀ t, t ≠ 0 → tl2 t = tl t) → tl2 0 = tl 0 + nI (fm (pb pk) s i).toNat →
          ∃ m' tl' c', (if b01 (trn i) = 0 then ob1 (fX7_set c (nI f) (nI i) (nI x)) fun v_rows_cells_33 => fX5_readFrame_L36 jj (nI f) pk sta kn' sq F (nI i + 1) m2 tl2 v_rows_cells_33 else ob1 (fX7_set c (nI f) (nI i) ((255 : Int32) - nI x)) fun v_rows_cells_33 => fX5_readFrame_L36 jj (nI f) pk sta kn' sq F (nI i + 1) m2 tl2 v_rows_cells_33) = jj m' tl' c' ∧ (∀ t, t < 32 → bt m' t = fm (pb pk) s t) ∧ (∀ t, t < 32 → c' (f * 32 + t) &&& 255 = nI (fb (pb pk) s t)) ∧ (∀ t, (t < f * 32 ∨ f * 32 + 32 ≤ t) → c' t = c t) ∧ (∀ t, t ≠ 0 → tl' t = tl t) ∧ tl' 0 = z0 + nI (pop (fm (pb pk) s) 32) := fun x m2 tl2 hx hxe hm2 ht2 ht3 => by
        have fin : ∀ y : Nat, y < 256 → y = fb (pb pk) s i → ∃ m' tl' c', fX5_readFrame_L36 jj (nI f) pk sta kn' sq F (nI (i + 1)) m2 tl2 (upd c (f * 32 + i) (nI y).toInt8.toInt32) = jj m' tl' c' ∧ (∀ t, t < 32 → bt m' t = fm (pb pk) s t) ∧ (∀ t, t < 32 → c' (f * 32 + t) &&& 255 = nI (fb (pb pk) s t)) ∧ (∀ t, (t < f * 32 ∨ f * 32 + 32 ≤ t) → c' t = c t) ∧ (∀ t, t ≠ 0 → tl' t = tl t) ∧ tl' 0 = z0 + nI (pop (fm (pb pk) s) 32) := fun y hy hye => by
          obtain ⟨m', tl', c', g1, g2, g3, g4, g5, g6⟩ := ih (i + 1) m2 tl2 (upd c (f * 32 + i) (nI y).toInt8.toInt32) (by omega) (by omega) hm2 (fun t ht => by
            by_cases w : t = i
            · rw [w, pk_us, cell255 hy, hye]
            · rw [pk_un (by omega)]; exact hc t (by omega)) (by
            have es : pop (fm (pb pk) s) (i + 1) = pop (fm (pb pk) s) i + (fm (pb pk) s i).toNat := rfl
            rw [es, ht3, hz, ← nI_add, Int32.add_assoc])
          exact ⟨m', tl', c', g1, g2, g3, fun t ht => by rw [g4 t ht, pk_un (by omega)], fun t ht => by rw [g5 t ht, ht2 t ht], g6⟩
        cases ht : trn i with
        | false =>
          rw [if_pos (show b01 false = (0 : Int32) from rfl), set_eq hf (by omega), ob1E, nI_1]
          exact fin x hx (by unfold fb; rw [ht]; exact hxe)
        | true =>
          rw [if_neg (show ¬ b01 true = (0 : Int32) from by decide), show (255 : Int32) - nI x = nI (255 - x) from pk_sub (a := 255) (by omega), set_eq hf (by omega), ob1E, nI_1]
          exact fin (255 - x) (by omega) (by unfold fb; rw [ht, hxe]; rfl)
      cases hfm : fm (pb pk) s i with
      | true =>
        have hr : rdF (fw (pb pk) s i) = -1 := of_decide_eq_true hfm
        rw [hr, if_pos rfl, og_t (show ixb 0 8 = true from rfl), og_t (show ixb 0 8 = true from rfl), show (0 : Int32).toNatClampNeg = 0 from rfl]
        have := go 0 (m ||| ((1 : Int32) <<< (nI i &&& 31))) (upd tl 0 (tl 0 + (1 : Int32))) (by omega) (by unfold fbr; rw [hfm]; rfl) (fun t ht => by
          rw [bt_set m i (by omega) t ht, hm t ht]
          by_cases w : t = i
          · rw [w, hfm]; simp
          · by_cases w2 : t < i
            · rw [decide_eq_true w2, decide_eq_true (show t < i + 1 from by omega), decide_eq_false w]; simp
            · rw [decide_eq_false w2, decide_eq_false (show ¬ t < i + 1 from by omega), decide_eq_false w]; simp) (fun t ht => pk_un ht) (by rw [pk_us, hfm]; rfl)
        exact this
      | false =>
        obtain ⟨hr, hl⟩ := fbr_eq hfm
        rw [hr, if_neg (nI_m1 (by omega))]
        exact go (fbr (pb pk) s i) m tl hl rfl (fun t ht => by
          rw [hm t ht]
          by_cases w : t = i
          · rw [w, hfm]; simp
          · by_cases w2 : t < i
            · rw [decide_eq_true w2, decide_eq_true (show t < i + 1 from by omega)]
            · rw [decide_eq_false w2, decide_eq_false (show ¬ t < i + 1 from by omega)]) (fun t _ => rfl) (by rw [hfm]; exact (Int32.add_zero _).symm)
