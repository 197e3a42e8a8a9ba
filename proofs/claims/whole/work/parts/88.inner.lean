/-! ===== play: frames read, inner words ===== -/
theorem ob4E {A B C D β : Type} (x : A) (y : B) (z : C) (u : D) (k : A → B → C → D → Option β) : ob4 (some (x, y, z, u)) k = k x y z u := (rfl : ob4 (some (x, y, z, u)) k = k x y z u).trans rfl
def SC (B : Nat → Bool) (st : Nat → Nat) : Nat → Nat
  | 0 => 0
  | k + 1 => SC B st k + pop (fm B (st k)) 32
/-- rows as read -/
def RD (B : Nat → Bool) (st : Nat → Nat) (c mk : Nat → Int32) (j : Nat) : Prop := ∀ i, i < 32 → c (j * 32 + i) &&& 255 = nI (fb B (st j) i) ∧ bt (mk j) i = fm B (st j) i
theorem readF {pk sta kn' sq be tl c mk : Nat → Int32} {f s : Nat} {z0 : Int32} (hf : f < 640) (hs : s < 360000) (hst : sta f = nI s) (hby : ∀ x, x < 16384 → fX8_byteOf kn' sq (nI x) = some (rdF x)) (hz : tl 0 = z0) :
    ∃ tl' c' mk', fX5_readFrame be sta tl pk c mk kn' sq (nI f) = some (upd be f (nI (tkN (pb pk) (s + 27) 14)), tl', c', mk') ∧ (∀ t, t < 32 → c' (f * 32 + t) &&& 255 = nI (fb (pb pk) s t) ∧ bt (mk' f) t = fm (pb pk) s t) ∧ (∀ t, (t < f * 32 ∨ f * 32 + 32 ≤ t) → c' t = c t) ∧ (∀ j, j ≠ f → mk' j = mk j) ∧ (∀ t, t ≠ 0 → tl' t = tl t) ∧ tl' 0 = z0 + nI (pop (fm (pb pk) s) 32) := by
  unfold fX5_readFrame
  have hw : fX3_wordAt pk (nI s) 0 = some (nI (tkN (pb pk) (s + 27) 14)) := wordAt_eq (k := 0) (by omega) (by omega)
  rw [if_neg (nI_pos (by omega)), if_pos (show nI f < (640 : Int32) from nI_lt (b := 640) hf (by omega)), og_nI hf (by omega), nI_clamp (by omega), hst, hw, ob1E, og_nI hf (by omega), nmE, jkE]
  obtain ⟨m', tl', c', g1, g2, g3, g4, g5, g6⟩ := rdL (jj := fun x2_8 v_tallies_9 v_rows_cells_10 => ob1 (fX7_setMarks mk (nI f) x2_8) fun v_rows_marks_12 => some (upd be f (nI (tkN (pb pk) (s + 27) 14)), v_tallies_9, v_rows_cells_10, v_rows_marks_12)) (z0 := z0) hf hs hst hby FU 0 0 tl c (by omega) (by rw [FU_eq]; omega) (fun t ht => by rw [b_0]; rfl) (fun t ht => by omega) (by rw [hz]; exact (Int32.add_zero _).symm)
  have g1' : fX5_readFrame_L36 _ (nI f) pk sta kn' sq FU 0 0 tl c = _ := g1
  rw [g1', setM_eq hf, ob1E]
  exact ⟨tl', c', upd mk f m', rfl, fun t ht => ⟨g3 t ht, by rw [pk_us]; exact g2 t ht⟩, g4, fun j hj => pk_un hj, g5, g6⟩
theorem L30 {jj : (Nat → Int32) → (Nat → Int32) → (Nat → Int32) → (Nat → Int32) → Option (Int32 × Int32 × Int32 × Int32 × (Nat → Int32) × Int32 × (Nat → Int32) × Int32 × (Nat → Int32) × (Nat → Int32) × (Nat → Int32) × (Nat → Int32) × (Nat → Int32) × (Nat → Int32) × (Nat → Int32) × (Nat → Int32) × (Nat → Int32) × (Nat → Int32) × (Nat → Int32) × (Nat → Int32) × (Nat → Int32) × (Nat → Int32))} {pk sta kn' sq : Nat → Int32} {f : Nat} {st : Nat → Nat} (hf : f ≤ 640) (hst : ∀ j, j < f → sta j = nI (st j) ∧ st j < 360000) (hby : ∀ x, x < 16384 → fX8_byteOf kn' sq (nI x) = some (rdF x)) : ∀ (F k : Nat) (be tl c mk : Nat → Int32), k ≤ f → f - k < F → (∀ j, j < k → be j = nI (tkN (pb pk) (st j + 27) 14) ∧ RD (pb pk) st c mk j) → tl 0 = nI (SC (pb pk) st k) →
    ∃ be' tl' c' mk', fX5_perform_L30 (nI f) jj sta pk kn' sq F (nI k) be tl c mk = jj be' tl' c' mk' ∧ (∀ j, j < f → be' j = nI (tkN (pb pk) (st j + 27) 14) ∧ RD (pb pk) st c' mk' j) ∧ tl' 0 = nI (SC (pb pk) st f) ∧ ∀ t, t ≠ 0 → tl' t = tl t := by
  intro F
  induction F with
  | zero => intro k be tl c mk _ h; omega
  | succ F ih =>
    intro k be tl c mk hk hF hj hz
    rw [fX5_perform_L30.eq_2]
    by_cases h1 : f ≤ k
    · rw [if_pos (nI_le h1 (by omega))]
      have e : k = f := by omega
      subst e
      exact ⟨be, tl, c, mk, rfl, hj, hz, fun t _ => rfl⟩
    · obtain ⟨s1, s2⟩ := hst k (by omega)
      obtain ⟨tl', c', mk', g1, g2, g3, g4, g5, g6⟩ := readF (pk := pk) (be := be) (tl := tl) (c := c) (mk := mk) (show k < 640 from by omega) s2 s1 hby hz
      rw [if_neg (nI_ge (by omega) (by omega)), g1, ob4E, nmE, nI_1]
      obtain ⟨be2, tl2, c2, mk2, k1, k2, k3, k4⟩ := ih (k + 1) (upd be k (nI (tkN (pb pk) (st k + 27) 14))) tl' c' mk' (by omega) (by omega) (fun j hjk => by
        by_cases w : j = k
        · subst w; rw [pk_us]; exact ⟨rfl, g2⟩
        · rw [pk_un w]
          obtain ⟨j1, j2⟩ := hj j (by omega)
          refine ⟨j1, fun i hi => ?_⟩
          rw [g3 (j * 32 + i) (by omega), g4 j w]
          exact j2 i hi) (by rw [g6, nI_add]; rfl)
      exact ⟨be2, tl2, c2, mk2, k1, k2, k3, fun t ht => by rw [k4 t ht, g5 t ht]⟩
theorem L100 {jj : Int32 → Option (Int32 × Int32 × Int32 × Int32 × Int32 × Int32 × Int32 × Int32 × Int32 × (Nat → Int32) × (Nat → Int32) × (Nat → Int32) × (Nat → Int32) × (Nat → Int32) × (Nat → Int32) × (Nat → Int32) × (Nat → Int32) × (Nat → Int32) × (Nat → Int32) × (Nat → Int32) × (Nat → Int32) × (Nat → Int32) × (Nat → Int32) × (Nat → Int32) × (Nat → Int32))} {n k s a : Nat} {sz pr len mpr msf : Int32} {pk bi fat mby : Nat → Int32} (hD : ID n sz pr pk len mpr msf bi) (hk : k < 640) (hs : s < 360000) (hfa : fat k = nI s) (hmb : ∀ x, x < 16384 → mby x = rdF x) : ∀ (F i : Nat), i ≤ 32 → 32 - i < F → fX10_play_L100 jj (nI k) len bi fat mby F (nI i) (nI (a + pop (fm (pb pk) s) i)) = jj (nI (a + pop (fm (pb pk) s) 32)) := by
  intro F
  induction F with
  | zero => intro i _ h; omega
  | succ F ih =>
    intro i hi hF
    rw [fX10_play_L100.eq_2]
    by_cases h1 : 32 ≤ i
    · rw [if_pos (show (32 : Int32) ≤ nI i from nI_le (a := 32) h1 (by omega)), show i = 32 from by omega]
    · have ht : fX10_taken len bi (nI (s + 44 + 17 * i)) 14 = some (nI (fw (pb pk) s i)) := taken_eq hD (i := s + 44 + 17 * i) (m := 14) (by omega) (by omega)
      rw [if_neg (show ¬ (32 : Int32) ≤ nI i from nI_ge (b := 32) (by omega) (by omega)), og_nI hk (by omega), nI_clamp (by omega), hfa, show (17 : Int32) * nI i = nI (17 * i) from pk_mul 17 i, show nI s + (44 : Int32) = nI (s + 44) from nI_add s 44, nI_add, ht, ob1E, og_nI (fw_lt _ _ _) (by omega), nI_clamp (by have := fw_lt (pb pk) s i; omega), hmb _ (fw_lt _ _ _)]
      simp only [jkE, nmE]
      rw [nI_1]
      have hih := ih (i + 1) (by omega) (by omega)
      have es : pop (fm (pb pk) s) (i + 1) = pop (fm (pb pk) s) i + (fm (pb pk) s i).toNat := rfl
      rw [es, ← Nat.add_assoc] at hih
      cases hfm : fm (pb pk) s i with
      | true =>
        rw [hfm] at hih
        have hr : rdF (fw (pb pk) s i) = -1 := of_decide_eq_true hfm
        rw [hr, if_neg (by decide), nI_1]
        exact hih
      | false =>
        rw [hfm] at hih
        obtain ⟨hr, hl⟩ := fbr_eq hfm
        rw [hr, if_pos (nI_pos' (by omega)), Int32.add_zero]
        exact hih
theorem L88 {jj : Int32 → Option (Int32 × Int32 × Int32 × Int32 × Int32 × Int32 × Int32 × Int32 × Int32 × (Nat → Int32) × (Nat → Int32) × (Nat → Int32) × (Nat → Int32) × (Nat → Int32) × (Nat → Int32) × (Nat → Int32) × (Nat → Int32) × (Nat → Int32) × (Nat → Int32) × (Nat → Int32) × (Nat → Int32) × (Nat → Int32) × (Nat → Int32) × (Nat → Int32) × (Nat → Int32))} {n f : Nat} {st : Nat → Nat} {sz pr len mpr msf : Int32} {pk bi fat mby : Nat → Int32} (hD : ID n sz pr pk len mpr msf bi) (hf : f ≤ 640) (hst : ∀ j, j < f → fat j = nI (st j) ∧ st j < 360000) (hmb : ∀ x, x < 16384 → mby x = rdF x) : ∀ (F k : Nat), k ≤ f → f - k < F → fX10_play_L88 (nI f) jj len bi fat mby F (nI k) (nI (SC (pb pk) st k)) = jj (nI (SC (pb pk) st f)) := by
  intro F
  induction F with
  | zero => intro k _ h; omega
  | succ F ih =>
    intro k hk hF
    rw [fX10_play_L88.eq_2]
    by_cases h1 : f ≤ k
    · rw [if_pos (nI_le h1 (by omega)), show k = f from by omega]
    · obtain ⟨s1, s2⟩ := hst k (by omega)
      rw [if_neg (nI_ge (by omega) (by omega)), jkE]
      have := L100 (jj := fun v_strange_107 => nm (nI k + 1 : Int32) fun x4_109 => fX10_play_L88 (nI f) jj len bi fat mby F x4_109 v_strange_107) (a := SC (pb pk) st k) hD (show k < 640 from by omega) s2 s1 hmb FU 0 (by omega) (by rw [FU_eq]; omega)
      have t2 : fX10_play_L100 (fun v_strange_107 => nm (nI k + 1 : Int32) fun x4_109 => fX10_play_L88 (nI f) jj len bi fat mby F x4_109 v_strange_107) (nI k) len bi fat mby FU 0 (nI (SC (pb pk) st k)) = _ := this
      rw [t2, nmE, nI_1]
      exact ih (k + 1) (by omega) (by omega)
/-! the inner words -/
def IW (B : Nat → Bool) (st : Nat → Nat) (f w i : Nat) : Nat := if i % 2 = 0 then (if w + 1 < f then fb B (st (w + 1)) i else 0) else fb B (st w) i
def IM (B : Nat → Bool) (st : Nat → Nat) (f w i : Nat) : Bool := if i % 2 = 0 then (if w + 1 < f then fm B (st (w + 1)) i else true) else fm B (st w) i
theorem IW_lt (B : Nat → Bool) (st : Nat → Nat) (f w i : Nat) : IW B st f w i < 256 := by
  unfold IW
  by_cases q : i % 2 = 0
  · rw [if_pos q]
    by_cases q2 : w + 1 < f
    · rw [if_pos q2]; exact fb_lt _ _ _
    · rw [if_neg q2]; omega
  · rw [if_neg q]; exact fb_lt _ _ _
theorem bE1 : ∀ i, i < 32 → bt 1431655765 i = decide (i % 2 = 0) := by decide +kernel
theorem bE2 : ∀ i, i < 32 → bt (-1431655766) i = decide (¬ i % 2 = 0) := by decide +kernel
theorem tiL {jj : (Nat → Int32) → Option ((Nat → Int32) × (Nat → Int32))} {f w : Nat} {v : Nat → Nat} (hf : f ≤ 640) (hw : w < f) (hv : ∀ i, v i < 256) : ∀ (F t : Nat) (c : Nat → Int32), t ≤ 16 → 16 - t < F → (∀ i, i < 32 → w + 1 < f → c ((w + 1) * 32 + i) &&& 255 = nI (v i)) →
    ∃ c', fX5_takeInnerWord_L18 jj (nI w) (if w + 1 < f then 0 else 1) F (nI (2 * t)) c = jj c' ∧ ∀ p, c' p &&& 255 = if w * 32 + 2 * t ≤ p ∧ p < w * 32 + 32 ∧ p % 2 = 0 then (if w + 1 < f then nI (v (p - w * 32)) else 0) else c p &&& 255 := by
  intro F
  induction F with
  | zero => intro t c _ h; omega
  | succ F ih =>
    intro t c ht hF hc
    rw [fX5_takeInnerWord_L18.eq_2]
    by_cases h1 : 16 ≤ t
    · rw [if_pos (show (32 : Int32) ≤ nI (2 * t) from nI_le (a := 32) (by omega) (by omega))]
      exact ⟨c, rfl, fun p => by rw [if_neg (by omega)]⟩
    · rw [if_neg (show ¬ (32 : Int32) ≤ nI (2 * t) from nI_ge (b := 32) (by omega) (by omega))]
      simp only [jkE, nmE]
      rw [show nI (2 * t) + (2 : Int32) = nI (2 * (t + 1)) from (nI_add _ 2).trans (congrArg nI (by omega))]
      have go : ∀ x : Nat, x < 256 → nI x = (if w + 1 < f then nI (v (2 * t)) else 0) → ∃ c', fX5_takeInnerWord_L18 jj (nI w) (if w + 1 < f then 0 else 1) F (nI (2 * (t + 1))) (upd c (w * 32 + 2 * t) (nI x).toInt8.toInt32) = jj c' ∧ ∀ p, c' p &&& 255 = if w * 32 + 2 * t ≤ p ∧ p < w * 32 + 32 ∧ p % 2 = 0 then (if w + 1 < f then nI (v (p - w * 32)) else 0) else c p &&& 255 := fun x hx hxe => by
        obtain ⟨c', g1, g2⟩ := ih (t + 1) (upd c (w * 32 + 2 * t) (nI x).toInt8.toInt32) (by omega) (by omega) (fun i hi hwf => by rw [pk_un (by omega)]; exact hc i hi hwf)
        refine ⟨c', g1, fun p => ?_⟩
        rw [g2 p]
        by_cases q : p = w * 32 + 2 * t
        · subst q
          rw [if_neg (by omega), if_pos (by omega), pk_us, cell255 hx, hxe, show w * 32 + 2 * t - w * 32 = 2 * t from by omega]
        · rw [pk_un q]
          by_cases q2 : w * 32 + 2 * (t + 1) ≤ p ∧ p < w * 32 + 32 ∧ p % 2 = 0
          · rw [if_pos q2, if_pos (show w * 32 + 2 * t ≤ p ∧ p < w * 32 + 32 ∧ p % 2 = 0 from by omega)]
          · rw [if_neg q2, if_neg (show ¬ (w * 32 + 2 * t ≤ p ∧ p < w * 32 + 32 ∧ p % 2 = 0) from by omega)]
      by_cases hl : w + 1 < f
      · simp only [if_pos hl] at go ⊢
        rw [if_pos trivial, show nI w + (1 : Int32) = nI (w + 1) from nI_1 w, get_eq (by omega) (by omega), ob1E, hc (2 * t) (by omega) hl, set_eq (by omega) (by omega), ob1E]
        exact go (v (2 * t)) (hv _) rfl
      · simp only [if_neg hl] at go ⊢
        rw [if_neg ne10, set_eq (x := 0) (by omega) (by omega), ob1E]
        exact go 0 (by omega) rfl
theorem takeI {B : Nat → Bool} {st : Nat → Nat} {f w : Nat} {c mk : Nat → Int32} (hf : f ≤ 640) (hw : w < f) (h0 : RD B st c mk w) (h1 : w + 1 < f → RD B st c mk (w + 1)) :
    ∃ c' mk', fX5_takeInnerWord (nI f) c mk (nI w) = some (c', upd mk w mk') ∧ (∀ i, i < 32 → c' (w * 32 + i) &&& 255 = nI (IW B st f w i) ∧ bt mk' i = IM B st f w i) ∧ ∀ p, (p < w * 32 ∨ w * 32 + 32 ≤ p) → c' p &&& 255 = c p &&& 255 := by
  unfold fX5_takeInnerWord
  obtain ⟨c', g1, g2⟩ := tiL (jj := fun v_rows_cells_3 => if (if w + 1 < f then (0 : Int32) else 1) = 0 then ob1 (fX7_marksOf mk (nI w + (1 : Int32))) fun r_12 => ob1 (fX7_marksOf mk (nI w)) fun r_7 => ob1 (fX7_setMarks mk (nI w) ((r_7 &&& (-1431655766 : Int32)) ||| (r_12 &&& (1431655765 : Int32)))) fun v_rows_marks_9 => some (v_rows_cells_3, v_rows_marks_9) else ob1 (fX7_marksOf mk (nI w)) fun r_7 => ob1 (fX7_setMarks mk (nI w) ((r_7 &&& (-1431655766 : Int32)) ||| ((-1) &&& (1431655765 : Int32)))) fun v_rows_marks_9 => some (v_rows_cells_3, v_rows_marks_9)) (v := fun i => fb B (st (w + 1)) i) hf hw (fun i => fb_lt _ _ _) FU 0 c (by omega) (by rw [FU_eq]; omega) (fun i hi hl => (h1 hl i hi).1)
  simp only [jkE]
  rw [show nI w + (1 : Int32) = nI (w + 1) from nI_1 w] at g1 ⊢
  have hcells : ∀ i, i < 32 → c' (w * 32 + i) &&& 255 = nI (IW B st f w i) := fun i hi => by
    rw [g2]
    unfold IW
    by_cases q : i % 2 = 0
    · rw [if_pos (by omega), if_pos q, show w * 32 + i - w * 32 = i from by omega]
      by_cases q2 : w + 1 < f
      · rw [if_pos q2, if_pos q2]
      · rw [if_neg q2, if_neg q2]; rfl
    · rw [if_neg (by omega), if_neg q]; exact (h0 i hi).1
  have hout : ∀ p, (p < w * 32 ∨ w * 32 + 32 ≤ p) → c' p &&& 255 = c p &&& 255 := fun p hp => by rw [g2, if_neg (by omega)]
  by_cases hl : w + 1 < f
  · simp only [if_pos hl] at g1
    have g1' : fX5_takeInnerWord_L18 _ (nI w) 0 FU 0 c = _ := g1
    rw [if_pos (nI_lt hl (by omega))]
    simp only [if_true] at g1' ⊢
    rw [g1', mksOf_eq (by omega), ob1E, mksOf_eq (by omega), ob1E, setM_eq (by omega), ob1E]
    refine ⟨c', _, rfl, fun i hi => ⟨hcells i hi, ?_⟩, hout⟩
    rw [b_or, b_and, b_and, bE1 i hi, bE2 i hi, (h0 i hi).2, (h1 hl i hi).2]
    unfold IM
    by_cases q : i % 2 = 0
    · rw [if_pos q, if_pos hl, decide_eq_true q, decide_eq_false (fun z => z q)]; simp
    · rw [if_neg q, decide_eq_false q, decide_eq_true q]; simp
  · simp only [if_neg hl] at g1
    have g1' : fX5_takeInnerWord_L18 _ (nI w) 1 FU 0 c = _ := g1
    rw [if_neg (nI_nlt (by omega) (by omega))]
    simp only [ne10, if_false] at g1' ⊢
    rw [g1', mksOf_eq (by omega), ob1E, setM_eq (by omega), ob1E]
    refine ⟨c', _, rfl, fun i hi => ⟨hcells i hi, ?_⟩, hout⟩
    rw [b_or, b_and, b_and, bE1 i hi, bE2 i hi, (h0 i hi).2, b_m1 i hi]
    unfold IM
    by_cases q : i % 2 = 0
    · rw [if_pos q, if_neg hl, decide_eq_true q, decide_eq_false (fun z => z q)]; simp
    · rw [if_neg q, decide_eq_false q, decide_eq_true q]; simp
