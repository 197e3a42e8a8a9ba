/-! ===== play: outer words ===== -/
def OW (inn : Nat → Int32) (f v i : Nat) : Nat := if v + 4 * i < f then (inn (32 * (v + 4 * i) + i)).toNatClampNeg % 256 else 0
def OM (iT : Nat → Int32) (f v i : Nat) : Bool := decide (f ≤ v + 4 * i) || decide (iT (v + 4 * i) = -2)
theorem OW_lt (inn : Nat → Int32) (f v i : Nat) : OW inn f v i < 256 := by
  unfold OW
  by_cases q : v + 4 * i < f
  · rw [if_pos q]; omega
  · rw [if_neg q]; omega
theorem OW_eq {c mk iF inn im iT : Nat → Int32} {f v i : Nat} (hi : i < 32) (hl : v + 4 * i < f) (h : RI c mk iF inn im iT (v + 4 * i)) : c ((v + 4 * i) * 32 + i) &&& 255 = nI (OW inn f v i) ∧ inn (32 * (v + 4 * i) + i) = nI (OW inn f v i) := by
  obtain ⟨_, _, _, h4⟩ := h
  obtain ⟨x, x1, x2, x3, _⟩ := h4 i hi
  unfold OW
  rw [if_pos hl, x3, nI_clamp (by omega), Nat.mod_eq_of_lt x1]
  exact ⟨x2, rfl⟩
theorem fl_bt {r : Int32} {i : Nat} (hi : i < 32) : bt (fl r) i = decide (r = -2) := by
  unfold fl
  by_cases q : r = (-2 : Int32)
  · rw [if_pos q, b_m1 i hi, decide_eq_true q]
  · rw [if_neg q, b_0, decide_eq_false q]
theorem toL {f v : Nat} {mk iF inn im iT c0 : Nat → Int32} (hf : f ≤ 640) (hv : v < f) (hri : ∀ j, v ≤ j → j < f → RI c0 mk iF inn im iT j) : ∀ (F i : Nat) (m : Int32) (c : Nat → Int32), i ≤ 28 → 28 - i < F → (∀ t, t < 32 → bt m t = (decide (t < i) && OM iT f v t)) → (∀ t, t < i → c (v * 32 + t) &&& 255 = nI (OW inn f v t)) → (∀ p, (p < v * 32 ∨ v * 32 + i ≤ p) → c p = c0 p) →
    ∃ m' c', fX5_takeOuterWord_L4 (nI v) (nI f) mk F (nI i) m c = some (m', c') ∧ (∀ t, t < 32 → bt m' t = (decide (t < 28) && OM iT f v t)) ∧ (∀ t, t < 28 → c' (v * 32 + t) &&& 255 = nI (OW inn f v t)) ∧ ∀ p, (p < v * 32 ∨ v * 32 + 28 ≤ p) → c' p = c0 p := by
  intro F
  induction F with
  | zero => intro i m c _ h; omega
  | succ F ih =>
    intro i m c hi hF hm hc hc0
    rw [fX5_takeOuterWord_L4.eq_2]
    by_cases h1 : 28 ≤ i
    · rw [if_pos (show (28 : Int32) ≤ nI i from nI_le (a := 28) h1 (by omega))]
      have e : i = 28 := by omega
      subst e
      exact ⟨m, c, rfl, hm, hc, hc0⟩
    · rw [if_neg (show ¬ (28 : Int32) ≤ nI i from nI_ge (b := 28) (by omega) (by omega))]
      simp only [jkE, nmE]
      rw [show (4 : Int32) * nI i = nI (4 * i) from pk_mul 4 i, nI_add, nI_1]
      have go : ∀ (x : Nat) (b : Bool) (m2 : Int32), x < 256 → x = OW inn f v i → b = OM iT f v i → (∀ t, t < 32 → bt m2 t = if t = i then b else bt m t) → ∃ m' c', fX5_takeOuterWord_L4 (nI v) (nI f) mk F (nI (i + 1)) m2 (upd c (v * 32 + i) (nI x).toInt8.toInt32) = some (m', c') ∧ (∀ t, t < 32 → bt m' t = (decide (t < 28) && OM iT f v t)) ∧ (∀ t, t < 28 → c' (v * 32 + t) &&& 255 = nI (OW inn f v t)) ∧ ∀ p, (p < v * 32 ∨ v * 32 + 28 ≤ p) → c' p = c0 p := fun x b m2 hx hxe hbe hm2 =>
        ih (i + 1) m2 _ (by omega) (by omega) (fun t ht => by
          rw [hm2 t ht]
          by_cases z : t = i
          · rw [if_pos z, z, hbe, decide_eq_true (show i < i + 1 from by omega)]; rfl
          · rw [if_neg z, hm t ht]
            by_cases z2 : t < i
            · rw [decide_eq_true z2, decide_eq_true (show t < i + 1 from by omega)]
            · rw [decide_eq_false z2, decide_eq_false (show ¬ t < i + 1 from by omega)]) (fun t ht => by
          by_cases z : t = i
          · rw [z, pk_us, cell255 hx, hxe]
          · rw [pk_un (by omega)]; exact hc t (by omega)) (fun p hp => by rw [pk_un (by omega)]; exact hc0 p (by omega))
      have hset : ∀ t, t < 32 → bt (m ||| ((1 : Int32) <<< (nI i &&& 31))) t = if t = i then true else bt m t := fun t ht => by
        rw [bt_set m i (by omega) t ht]
        by_cases z : t = i
        · rw [if_pos z, decide_eq_true z]; simp
        · rw [if_neg z, decide_eq_false z]; simp
      have hkeep : ∀ t, t < 32 → bt m t = if t = i then false else bt m t := fun t ht => by
        by_cases z : t = i
        · rw [if_pos z, z, hm i (by omega), decide_eq_false (by omega)]; rfl
        · rw [if_neg z]
      by_cases hl : v + 4 * i < f
      · have hr := hri (v + 4 * i) (by omega) hl
        obtain ⟨w1, w2⟩ := OW_eq (by omega) hl hr
        have hcell : c ((v + 4 * i) * 32 + i) = c0 ((v + 4 * i) * 32 + i) := hc0 _ (by omega)
        simp only [if_neg (nI_ge hl (show f < 2 ^ 31 from by omega))]
        rw [get_eq (by omega) (by omega), ob1E, hcell, w1, set_eq (by omega) (by omega), ob1E, isMarked_eq (by omega) (by omega), ob1E, hr.2.2.1, fl_bt (by omega)]
        by_cases hz : iT (v + 4 * i) = -2
        · rw [decide_eq_true hz, if_neg (show ¬ b01 true = (0 : Int32) from by decide)]
          exact go _ true _ (OW_lt _ _ _ _) rfl (by unfold OM; rw [decide_eq_true hz]; simp) hset
        · rw [decide_eq_false hz, if_pos (show b01 false = (0 : Int32) from rfl)]
          exact go _ false _ (OW_lt _ _ _ _) rfl (by unfold OM; rw [decide_eq_false hz, decide_eq_false (by omega)]; rfl) hkeep
      · simp only [if_pos (nI_le (show f ≤ v + 4 * i from by omega) (show v + 4 * i < 2 ^ 31 from by omega))]
        rw [set_eq (x := 0) (by omega) (by omega), ob1E]
        exact go 0 true _ (by omega) (by unfold OW; rw [if_neg hl]) (by unfold OM; rw [decide_eq_true (by omega)]; rfl) hset
theorem mendO {pwr lg : Nat → Int32} {v : Nat} {q : Int32} {sp r sp' m : Int32} {loc rest spots sums loc' rest' spots' sums' c c' mk oF tl : Nat → Int32} (hv : v < 640) (hh : fX0_heal 28 sp loc rest spots sums lg pwr c 20480 (nI (v * 32)) m q = some (r, sp', loc', rest', spots', sums', c')) :
    ∃ tl', fX5_mendOuter 28 sp oF tl loc rest spots sums c mk lg pwr (nI v) m q = some (sp', upd oF v r, tl', loc', rest', spots', sums', c', upd mk v (if r = (-2 : Int32) then (if pop (bt m) 32 ≤ 4 then 268435455 else m) else 0)) ∧ (∀ t, t ≠ 2 → t ≠ 5 → tl' t = tl t) ∧ tl' 2 = tl 2 + (if r = (-2 : Int32) then 1 else 0) ∧ tl' 5 = (if nI (pop (bt m) 32) ≤ tl 5 then tl 5 else nI (pop (bt m) 32)) := by
  have hpl := pop_le (bt m) 32
  have hmax : (if tl 5 < nI (pop (bt m) 32) then nI (pop (bt m) 32) else tl 5) = (if nI (pop (bt m) 32) ≤ tl 5 then tl 5 else nI (pop (bt m) 32)) := by
    by_cases z : tl 5 < nI (pop (bt m) 32)
    · rw [if_pos z, if_neg (fun z2 => by have a1 := ti_lt.mp z; have a2 := ti_le.mp z2; omega)]
    · rw [if_neg z, if_pos (Int32.not_lt.mp z)]
  unfold fX5_mendOuter fX7_startOf
  rw [bitCount_eq, nt1E, og_t (show ixb 5 8 = true from rfl), og_t (show ixb 5 8 = true from rfl), nmE, nt1E, show nI v * (32 : Int32) = nI (v * 32) from pk_mul v 32, hh, ob7E, show (5 : Int32).toNatClampNeg = 5 from rfl, hmax]
  simp only [jkE, nmE]
  have fin : ∀ (x : Int32) (tl2 : Nat → Int32), (ob1 (fX7_setMarks mk (nI v) x) fun v_rows_marks_20 => if nI v < 0 then some (sp', oF, tl2, loc', rest', spots', sums', c', v_rows_marks_20) else if (640 : Int32) ≤ nI v then some (sp', oF, tl2, loc', rest', spots', sums', c', v_rows_marks_20) else og (ixb (nI v) 640) (some (sp', upd oF (Int32.toNatClampNeg (nI v)) r, tl2, loc', rest', spots', sums', c', v_rows_marks_20))) = some (sp', upd oF v r, tl2, loc', rest', spots', sums', c', upd mk v x) := fun x tl2 => by
    rw [setM_eq hv, ob1E, if_neg (nI_pos (by omega)), if_neg (show ¬ (640 : Int32) ≤ nI v from nI_ge (b := 640) hv (by omega)), og_nI hv (by omega), nI_clamp (by omega)]
  by_cases q1 : r = (-2 : Int32)
  · rw [if_pos q1, og_t (show ixb 2 8 = true from rfl), og_t (show ixb 2 8 = true from rfl), show (2 : Int32).toNatClampNeg = 2 from rfl, if_pos q1, if_pos q1]
    by_cases q2 : pop (bt m) 32 ≤ 4
    · rw [if_pos (show nI (pop (bt m) 32) ≤ (4 : Int32) from nI_le (b := 4) q2 (by omega)), if_pos q2, fin]
      exact ⟨_, rfl, fun t h2 h5 => by rw [pk_un h2, pk_un h5], by rw [pk_us, pk_un (by omega)], by rw [pk_un (by omega), pk_us]⟩
    · rw [if_neg (show ¬ nI (pop (bt m) 32) ≤ (4 : Int32) from nI_ge (a := 4) (by omega) (by omega)), if_neg q2, fin]
      exact ⟨_, rfl, fun t h2 h5 => by rw [pk_un h2, pk_un h5], by rw [pk_us, pk_un (by omega)], by rw [pk_un (by omega), pk_us]⟩
  · rw [if_neg q1, if_neg q1, if_neg q1, fin]
    exact ⟨_, rfl, fun t h2 h5 => pk_un h5, by rw [pk_un (by omega), Int32.add_zero], by rw [pk_us]⟩
theorem po5 {jj : Int32 → (Nat → Int32) → (Nat → Int32) → Option (Int32 × Int32 × (Nat → Int32) × (Nat → Int32) × (Nat → Int32) × (Nat → Int32) × (Nat → Int32) × (Nat → Int32) × (Nat → Int32) × (Nat → Int32) × (Nat → Int32))} {f v : Nat} {c mk iF inn im iT : Nat → Int32} (hf : f ≤ 640) (hv : v < f) (hri : ∀ j, v ≤ j → j < f → RI c mk iF inn im iT j) : ∀ (F i : Nat) (mkd wd : Nat → Int32), i ≤ 28 → 28 - i < F → (∀ t, t < i → mkd t = b01 (OM iT f v t) ∧ wd t = nI (OW inn f v t)) →
    ∃ mkd' wd', fX10_playOuter_L5 jj (nI v) (nI f) im inn F (nI i) (nI (pop (OM iT f v) i)) mkd wd = jj (nI (pop (OM iT f v) 28)) mkd' wd' ∧ ∀ t, t < 28 → mkd' t = b01 (OM iT f v t) ∧ wd' t = nI (OW inn f v t) := by
  intro F
  induction F with
  | zero => intro i mkd wd _ h; omega
  | succ F ih =>
    intro i mkd wd hi hF h
    rw [fX10_playOuter_L5.eq_2]
    by_cases h1 : 28 ≤ i
    · rw [if_pos (show (28 : Int32) ≤ nI i from nI_le (a := 28) h1 (by omega)), show i = 28 from by omega]
      exact ⟨mkd, wd, rfl, fun t ht => h t (by omega)⟩
    · rw [if_neg (show ¬ (28 : Int32) ≤ nI i from nI_ge (b := 28) (by omega) (by omega))]
      simp only [jkE, nmE]
      rw [show (4 : Int32) * nI i = nI (4 * i) from pk_mul 4 i, nI_add, nI_1]
      have hix : (32 : Int32) * nI (v + 4 * i) + nI i = nI (32 * (v + 4 * i) + i) := by rw [show (32 : Int32) * nI (v + 4 * i) = nI (32 * (v + 4 * i)) from pk_mul 32 _, nI_add]
      rw [hix]
      have es : pop (OM iT f v) (i + 1) = pop (OM iT f v) i + (OM iT f v i).toNat := rfl
      have go : ∀ (x : Nat) (b : Bool), x = OW inn f v i → b = OM iT f v i → ∃ mkd' wd', (og (ixb (nI i) 32) (og (ixb (nI i) 32) (og (ixb (nI i) 32) (if (upd mkd (Int32.toNatClampNeg (nI i)) (vp_nar .boolean (b01 b))) (Int32.toNatClampNeg (nI i)) = 0 then fX10_playOuter_L5 jj (nI v) (nI f) im inn F (nI (i + 1)) (nI (pop (OM iT f v) i) + 0) (upd mkd (Int32.toNatClampNeg (nI i)) (vp_nar .boolean (b01 b))) (upd wd (Int32.toNatClampNeg (nI i)) (nI x)) else fX10_playOuter_L5 jj (nI v) (nI f) im inn F (nI (i + 1)) (nI (pop (OM iT f v) i) + 1) (upd mkd (Int32.toNatClampNeg (nI i)) (vp_nar .boolean (b01 b))) (upd wd (Int32.toNatClampNeg (nI i)) (nI x)))))) = jj (nI (pop (OM iT f v) 28)) mkd' wd' ∧ ∀ t, t < 28 → mkd' t = b01 (OM iT f v t) ∧ wd' t = nI (OW inn f v t) := fun x b hx hb => by
        rw [og_nI (by omega) (by omega), og_nI (by omega) (by omega), og_nI (by omega) (by omega), nI_clamp (by omega), pk_us, zbool]
        have hih := ih (i + 1) (upd mkd i (b01 b)) (upd wd i (nI x)) (by omega) (by omega) (fun t ht => by
          by_cases z : t = i
          · rw [z, pk_us, pk_us, hb, hx]; exact ⟨rfl, rfl⟩
          · rw [pk_un z, pk_un z]; exact h t (by omega))
        rw [es, ← hb] at hih
        cases b with
        | false => rw [if_pos (show b01 false = (0 : Int32) from rfl), Int32.add_zero]; exact hih
        | true => rw [if_neg (show ¬ b01 true = (0 : Int32) from by decide), nI_1]; exact hih
      by_cases hl : v + 4 * i < f
      · have hr := hri (v + 4 * i) (by omega) hl
        obtain ⟨w1, w2⟩ := OW_eq (by omega) hl hr
        obtain ⟨_, _, _, h4⟩ := hr
        obtain ⟨_, _, _, _, hm⟩ := h4 i (by omega)
        simp only [if_neg (nI_ge hl (show f < 2 ^ 31 from by omega))]
        rw [og_nI (show 32 * (v + 4 * i) + i < 20480 from by omega) (by omega), og_nI (show 32 * (v + 4 * i) + i < 20480 from by omega) (by omega), nI_clamp (show 32 * (v + 4 * i) + i < 2 ^ 31 from by omega), hm, w2]
        by_cases hz : iT (v + 4 * i) = -2
        · rw [decide_eq_true hz, if_neg (show ¬ b01 true = (0 : Int32) from by decide)]
          exact go _ true rfl (by unfold OM; rw [decide_eq_true hz]; simp)
        · rw [decide_eq_false hz, if_pos (show b01 false = (0 : Int32) from rfl)]
          exact go _ false rfl (by unfold OM; rw [decide_eq_false hz, decide_eq_false (by omega)]; rfl)
      · simp only [if_pos (nI_le (show f ≤ v + 4 * i from by omega) (show v + 4 * i < 2 ^ 31 from by omega))]
        exact go 0 true (by unfold OW; rw [if_neg hl]) (by unfold OM; rw [decide_eq_true (by omega)]; rfl)
theorem po185 {v : Nat} {a b : Int32} {M : Nat} {fal : Bool} {O : Nat → Bool} {mkd oT pl rr sy vl wd : Nat → Int32} (hv : v < 640) (hM : M ≤ 28) (hmk : ∀ t, t < 28 → mkd t = b01 (O t)) : ∀ (F i : Nat) (om ou : Nat → Int32), i ≤ 28 → 28 - i < F →
    ∃ om' ou', fX10_playOuter_L185 a b mkd oT pl rr sy vl wd (nI v) (b01 fal) (nI M) F (nI i) om ou = some (a, b, mkd, om', oT, ou', pl, rr, sy, vl, wd) ∧ ∀ p, om' p = (if 28 * v + i ≤ p ∧ p < 28 * v + 28 then b01 (fal && (decide (M < 5) || O (p - 28 * v))) else om p) ∧ ou' p = (if 28 * v + i ≤ p ∧ p < 28 * v + 28 then wd (p - 28 * v) else ou p) := by
  intro F
  induction F with
  | zero => intro i om ou _ h; omega
  | succ F ih =>
    intro i om ou hi hF
    rw [fX10_playOuter_L185.eq_2]
    by_cases h1 : 28 ≤ i
    · rw [if_pos (show (28 : Int32) ≤ nI i from nI_le (a := 28) h1 (by omega))]
      exact ⟨om, ou, rfl, fun p => ⟨by rw [if_neg (by omega)], by rw [if_neg (by omega)]⟩⟩
    · have hix : (28 : Int32) * nI v + nI i = nI (28 * v + i) := by rw [show (28 : Int32) * nI v = nI (28 * v) from pk_mul 28 v, nI_add]
      rw [if_neg (show ¬ (28 : Int32) ≤ nI i from nI_ge (b := 28) (by omega) (by omega)), hix, og_nI (by omega) (by omega), og_nI (by omega) (by omega)]
      simp only [jkE, nmE]
      rw [nI_clamp (n := i) (by omega), nI_clamp (by omega), nI_1, hmk i (by omega)]
      have go : ∀ y : Bool, y = (fal && (decide (M < 5) || O i)) → ∃ om' ou', og (ixb (nI (28 * v + i)) 17920) (fX10_playOuter_L185 a b mkd oT pl rr sy vl wd (nI v) (b01 fal) (nI M) F (nI (i + 1)) (upd om (28 * v + i) (vp_nar .boolean (b01 y))) (upd ou (28 * v + i) (wd i))) = some (a, b, mkd, om', oT, ou', pl, rr, sy, vl, wd) ∧ ∀ p, om' p = (if 28 * v + i ≤ p ∧ p < 28 * v + 28 then b01 (fal && (decide (M < 5) || O (p - 28 * v))) else om p) ∧ ou' p = (if 28 * v + i ≤ p ∧ p < 28 * v + 28 then wd (p - 28 * v) else ou p) := fun y hy => by
        rw [og_nI (by omega) (by omega), zbool]
        obtain ⟨om', ou', g1, g2⟩ := ih (i + 1) (upd om (28 * v + i) (b01 y)) (upd ou (28 * v + i) (wd i)) (by omega) (by omega)
        refine ⟨om', ou', g1, fun p => ⟨?_, ?_⟩⟩
        · rw [(g2 p).1]
          by_cases q : p = 28 * v + i
          · subst q; rw [if_neg (by omega), if_pos (by omega), pk_us, hy, show 28 * v + i - 28 * v = i from by omega]
          · rw [pk_un q]
            by_cases q2 : 28 * v + (i + 1) ≤ p ∧ p < 28 * v + 28
            · rw [if_pos q2, if_pos (by omega)]
            · rw [if_neg q2, if_neg (by omega)]
        · rw [(g2 p).2]
          by_cases q : p = 28 * v + i
          · subst q; rw [if_neg (by omega), if_pos (by omega), pk_us]
            exact congrArg wd (by omega)
          · rw [pk_un q]
            by_cases q2 : 28 * v + (i + 1) ≤ p ∧ p < 28 * v + 28
            · rw [if_pos q2, if_pos (by omega)]
            · rw [if_neg q2, if_neg (by omega)]
      cases fal with
      | false => rw [if_pos (show b01 false = (0 : Int32) from rfl)]; exact go false rfl
      | true =>
        rw [if_neg (show ¬ b01 true = (0 : Int32) from by decide)]
        by_cases h5 : M < 5
        · rw [if_pos (show nI M < (5 : Int32) from nI_lt (b := 5) h5 (by omega))]
          exact go true (by rw [decide_eq_true h5]; rfl)
        · rw [if_neg (show ¬ nI M < (5 : Int32) from nI_nlt (b := 5) (by omega) (by omega)), og_nI (by omega) (by omega)]
          cases ho : O i with
          | false => rw [if_pos (show b01 false = (0 : Int32) from rfl)]; exact go false (by rw [decide_eq_false h5, ho]; rfl)
          | true => rw [if_neg (show ¬ b01 true = (0 : Int32) from by decide)]; exact go true (by rw [decide_eq_false h5, ho]; rfl)
