/-! ===== heal against mended, settle against check ===== -/
theorem upW_E {W P E E' : Nat → Nat} : ∀ k, (∀ t, t < k → E t = E' t) → upW W P E k = upW W P E' k
  | 0, _ => rfl
  | k + 1, h => by
    funext i
    rw [upW_s, upW_s, upW_E k (fun t ht => h t (by omega)), h k (by omega)]
theorem upW_P {W P P' E : Nat → Nat} : ∀ k, (∀ t, t < k → P t = P' t) → upW W P E k = upW W P' E k
  | 0, _ => rfl
  | k + 1, h => by
    funext i
    rw [upW_s, upW_s, upW_P k (fun t ht => h t (by omega)), h k (by omega)]
theorem upW_no {W P E : Nat → Nat} {i : Nat} : ∀ k, (∀ t, t < k → P t ≠ i) → upW W P E k i = W i
  | 0, _ => rfl
  | k + 1, h => by
    rw [upW_s, if_neg (fun w => h k (by omega) w.symm), upW_no k (fun t ht => h t (by omega))]
theorem upW_at {W P E : Nat → Nat} {s : Nat} : ∀ k, s < k → (∀ a b, a < k → b < k → a ≠ b → P a ≠ P b) → upW W P E k (P s) = W (P s) ^^^ E s
  | 0, h, _ => by omega
  | k + 1, h, hd => by
    rw [upW_s]
    by_cases q : s = k
    · rw [q, if_pos rfl, upW_no k (fun t ht => hd t k (by omega) (by omega) (by omega))]
    · rw [if_neg (hd s k (by omega) (by omega) q), upW_at k (by omega) (fun a b ha hb => hd a b (by omega) (by omega))]
theorem eC_sol {n k : Nat} {S e P : Nat → Nat} (hn : n ≤ 32) (hk : k ≤ 4) (hP : ∀ t, t < k → P t < n) (hd : ∀ a b, a < k → b < k → a ≠ b → P a ≠ P b) (he : ∀ t, e t < 256) (h : Sol S e (xX n P) k) : ∀ t, t < k → eC (xX n P) S k t = e t := fun t ht => by
  have hX : ∀ t, xX n P t < 256 := fun t => gp_lt _
  have hv := sol_val hk hX he h ht
  have hl : tk' (xX n P) t S k 0 < 256 := by rw [hv]; exact gm_lt _ _
  unfold eC
  exact gdiv' hl (pk_lt' _ _ _ _) (pk_ne k (fun s hs hst => X_ne hn hP hd t s ht hs (fun w => hst w.symm))) hv (he t)
theorem heal_mended {pwr lg pwr' lg' : Nat → Int32} (hT : TabF pwr lg) (hT' : TabF pwr' lg') {n q fr A : Nat} {mk sp : Int32} {W : Nat → Nat} {mkd w c : Nat → Int32} (loc rest spots sums pl rows sy vals : Nat → Int32) (hn : n = 28 ∨ n = 32) (hq : q ≤ 2) (hA : A < 1000000) (hf : fr + n ≤ A) (hW : ∀ i, W i < 256) (hc : ∀ i, i < n → c (fr + i) &&& 255 = nI (W i)) (hmk : ∀ i, i < n → mkd i = b01 (bt mk i)) (hw : ∀ i, i < n → w i = nI (W i)) :
    ∃ (r : Int32) (V : Nat → Nat) (sp' : Int32) (loc' rest' spots' sums' c' pl' r' s' v' w' : Nat → Int32), fX0_heal (nI n) sp loc rest spots sums lg pwr c A (nI fr) mk (nI q) = some (r, sp', loc', rest', spots', sums', c') ∧ fX10_mended lg' mkd pl pwr' rows sy vals w (nI n) (nI q) = some (r, pl', r', s', v', w') ∧ (∀ i, V i < 256) ∧ CR n fr c c' V ∧ (∀ i, i < n → w' i = nI (V i)) ∧ (∀ i, n ≤ i → w' i = w i) ∧ ((r = -2 ∧ c' = c ∧ w' = w) ∨ ∃ k : Nat, k ≤ 4 ∧ r = nI k) := by
  have hn32 : n ≤ 32 := by omega
  have hS : ∀ j, sS W n j < 256 := fun j => syn_lt hW j n
  rcases heal_eq hT loc rest spots sums c hn hq hA hf hW hc (mk := mk) (sp := sp) with ⟨k, P, sp', l1, r1, s1, u1, c1, a1, a2, a3, a4⟩ | ⟨sp', l1, r1, s1, u1, a1, a2⟩
  · rcases mended_eq hT' pl rows sy vals hn32 hq hW hmk hw with ⟨k', P', e, p2, r2, s2, v2, w2, b1, b0, b2, b3, b4, b5, b6⟩ | ⟨p2, r2, s2, v2, b1, b2⟩
    · obtain ⟨rfl, rfl⟩ := Dc_one hn32 hS a3 b2
      obtain ⟨k1, k2, k3, k4⟩ := Dc_ok hn32 a2 hS a3
      have hE := upW_E (W := W) (P := P) k (eC_sol hn32 k1 k2 k3 b3 b4)
      rw [hE] at a4
      exact ⟨nI k, upW W P e k, sp', l1, r1, s1, u1, c1, p2, r2, s2, v2, w2, a1, b1, upW_lt hW b3 k, a4, b5, b6, Or.inr ⟨k, k1, rfl⟩⟩
    · rcases b2 with b2 | b2
      · omega
      · exact absurd a3 (b2 k P)
  · rcases mended_eq hT' pl rows sy vals hn32 hq hW hmk hw with ⟨k', P', e, p2, r2, s2, v2, w2, b1, b0, b2, b3, b4, b5, b6⟩ | ⟨p2, r2, s2, v2, b1, b2⟩
    · rcases a2 with a2 | a2
      · omega
      · exact absurd b2 (a2 k' P')
    · exact ⟨-2, W, sp', l1, r1, s1, u1, c, p2, r2, s2, v2, w, a1, b1, hW, ⟨hc, fun p h => h, fun p _ => rfl⟩, hw, fun i _ => rfl, Or.inl ⟨rfl, rfl, rfl⟩⟩
/-! settle -/
theorem xs_add (f : Nat → Nat) (a : Nat) : ∀ b, xs f (a + b) = xs f a ^^^ xs (fun t => f (a + t)) b
  | 0 => by show xs f a = xs f a ^^^ 0; rw [Nat.xor_zero]
  | b + 1 => by
    show xs f (a + b) ^^^ f (a + b) = xs f a ^^^ (xs (fun t => f (a + t)) b ^^^ f (a + b))
    rw [xs_add f a b, Nat.xor_assoc]
theorem xs_mid {f : Nat → Nat} {n fc : Nat} (hn : fc + 4 ≤ n) (h : ∀ i, i < n → (i < fc ∨ fc + 4 ≤ i) → f i = 0) : xs f n = xs (fun t => f (fc + t)) 4 := by
  have e1 := xs_add f (fc + 4) (n - (fc + 4))
  rw [show fc + 4 + (n - (fc + 4)) = n from by omega] at e1
  rw [e1, xs_add f fc 4, xs_zero fc (fun t ht => h t (by omega) (by omega)), xs_zero (n - (fc + 4)) (fun t ht => h (fc + 4 + t) (by omega) (by omega)), Nat.zero_xor, Nat.xor_zero]
theorem ss_xor {a b X : Nat → Nat} (ha : ∀ t, a t < 256) (hb : ∀ t, b t < 256) (k j : Nat) : ss (fun t => a t ^^^ b t) X k j = ss a X k j ^^^ ss b X k j := by
  unfold ss
  rw [← xs_xor]
  exact xs_congr k (fun t _ => gm_xor (ha t) (hb t) (xp_lt _ _))
/-- bytes with the four checks taken out -/
def w0 (W : Nat → Nat) (fc i : Nat) : Nat := if fc ≤ i ∧ i < fc + 4 then 0 else W i
theorem w0_lt {W : Nat → Nat} (hW : ∀ i, W i < 256) (fc i : Nat) : w0 W fc i < 256 := by
  unfold w0
  by_cases q : fc ≤ i ∧ i < fc + 4
  · rw [if_pos q]; omega
  · rw [if_neg q]; exact hW i
theorem sS_w0 {W : Nat → Nat} {n fc : Nat} (hW : ∀ i, W i < 256) (hn : fc + 4 ≤ n) (j : Nat) : sS W n j = sS (w0 W fc) n j ^^^ ss (fun t => W (fc + t)) (xX n (fun t => fc + t)) 4 j := by
  unfold sS
  rw [← syr_n hW, ← syr_n (w0_lt hW fc)]
  have e1 : xs (fun i => gm (W i) (gp (j * (n - 1 - i)))) n = xs (fun i => gm (w0 W fc i) (gp (j * (n - 1 - i))) ^^^ gm (if fc ≤ i ∧ i < fc + 4 then W i else 0) (gp (j * (n - 1 - i)))) n := xs_congr n (fun i _ => by
    unfold w0
    by_cases q : fc ≤ i ∧ i < fc + 4
    · rw [if_pos q, if_pos q, gm_0l, Nat.zero_xor]
    · rw [if_neg q, if_neg q, gm_0l, Nat.xor_zero])
  rw [e1, xs_xor]
  congr 1
  rw [xs_mid (fc := fc) hn (fun i hi hq => by rw [if_neg (by omega), gm_0l])]
  exact xs_congr 4 (fun t ht => by
    show gm (if fc ≤ fc + t ∧ fc + t < fc + 4 then W (fc + t) else 0) (gp (j * (n - 1 - (fc + t)))) = gm (W (fc + t)) (xp (gp (n - 1 - (fc + t))) j)
    rw [if_pos ⟨by omega, by omega⟩, xp_gp])
/-- the word with its checks settled -/
def sV (W : Nat → Nat) (n fc : Nat) : Nat → Nat := upW W (fun t => fc + t) (eC (xX n (fun t => fc + t)) (sS W n) 4) 4
theorem sV_lt {W : Nat → Nat} (hW : ∀ i, W i < 256) (n fc i : Nat) : sV W n fc i < 256 := upW_lt hW (fun t => gm_lt _ _) 4 i
theorem fc_ok {n fc : Nat} (hn : fc + 4 ≤ n) : (∀ t, t < 4 → (fun t => fc + t) t < n) ∧ ∀ a b, a < 4 → b < 4 → a ≠ b → (fun t => fc + t) a ≠ (fun t => fc + t) b := ⟨fun t ht => by show fc + t < n; omega, fun a b ha hb hab => by show fc + a ≠ fc + b; omega⟩
theorem solv4 {n fc : Nat} {S : Nat → Nat} (hn32 : n ≤ 32) (hn : fc + 4 ≤ n) (hS : ∀ j, S j < 256) : Solv S (xX n (fun t => fc + t)) 4 :=
  (solv_iff (by omega) (fun t => gp_lt _) hS (X_ne hn32 (fc_ok hn).1 (fc_ok hn).2)).mpr (fun j hj => by omega)
theorem sV_ref {W e : Nat → Nat} {n fc : Nat} (hW : ∀ i, W i < 256) (hn32 : n ≤ 32) (hn : fc + 4 ≤ n) (he : ∀ t, e t < 256) (h : Sol (sS (w0 W fc) n) e (xX n (fun t => fc + t)) 4) : ∀ i, upW (w0 W fc) (fun t => fc + t) e 4 i = sV W n fc i := fun i => by
  have hS : ∀ j, sS W n j < 256 := fun j => syn_lt hW j n
  obtain ⟨d, d1, d2⟩ := solv4 hn32 hn hS
  have hEC := eC_sol hn32 (by omega) (fc_ok hn).1 (fc_ok hn).2 d1 d2
  have hSol : Sol (sS (w0 W fc) n) (fun t => d t ^^^ W (fc + t)) (xX n (fun t => fc + t)) 4 := fun j hj => by
    rw [ss_xor d1 (fun t => hW _)]
    have a := sS_w0 hW hn j
    rw [d2 j hj] at a
    rw [a, Nat.xor_assoc, Nat.xor_self, Nat.xor_zero]
  have hu := fun s (hs : s < 4) => sol_one (show 4 ≤ 4 from by omega) (fun t => gp_lt _) (X_ne hn32 (fc_ok hn).1 (fc_ok hn).2) he (fun t => x_lt (d1 t) (hW _)) h hSol hs
  unfold sV
  by_cases q : fc ≤ i ∧ i < fc + 4
  · obtain ⟨s, hs, rfl⟩ : ∃ s, s < 4 ∧ i = fc + s := ⟨i - fc, by omega, by omega⟩
    have a1 := upW_at (W := w0 W fc) (P := fun t => fc + t) (E := e) 4 hs (fc_ok hn).2
    have a2 := upW_at (W := W) (P := fun t => fc + t) (E := eC (xX n (fun t => fc + t)) (sS W n) 4) 4 hs (fc_ok hn).2
    have a1' : upW (w0 W fc) (fun t => fc + t) e 4 (fc + s) = _ := a1
    have a2' : upW W (fun t => fc + t) (eC (xX n (fun t => fc + t)) (sS W n) 4) 4 (fc + s) = _ := a2
    rw [a1', a2', hEC s hs, hu s hs]
    show w0 W fc (fc + s) ^^^ _ = W (fc + s) ^^^ _
    unfold w0
    rw [if_pos q, Nat.zero_xor, Nat.xor_comm]
  · rw [upW_no 4 (fun t ht w => q ⟨by have w' : fc + t = i := w; omega, by have w' : fc + t = i := w; omega⟩), upW_no 4 (fun t ht w => q ⟨by have w' : fc + t = i := w; omega, by have w' : fc + t = i := w; omega⟩)]
    unfold w0
    rw [if_neg q]
theorem stL {jj : Int32 → (Nat → Int32) → Option (Int32 × (Nat → Int32) × (Nat → Int32) × (Nat → Int32) × (Nat → Int32))} {fc : Nat} (hf : fc < 100) : ∀ (F k : Nat) (spots : Nat → Int32), k ≤ 4 → 4 - k < F → (∀ t, t < k → spots t = nI (fc + t)) →
    ∃ spots', fX0_settle_L13 jj (nI fc) F (nI k) (nI k) spots = jj (nI 4) spots' ∧ ∀ t, t < 4 → spots' t = nI (fc + t) := by
  intro F
  induction F with
  | zero => intro k spots _ h; omega
  | succ F ih =>
    intro k spots hk hF hs
    rw [fX0_settle_L13.eq_2]
    by_cases h1 : 4 ≤ k
    · rw [if_pos (show (4 : Int32) ≤ nI k from nI_le (a := 4) h1 (by omega)), show k = 4 from by omega]
      exact ⟨spots, rfl, fun t ht => hs t (by omega)⟩
    · rw [if_neg (show ¬ (4 : Int32) ≤ nI k from nI_ge (b := 4) (by omega) (by omega)), nI_add, addSpot_eq (by omega), ob2E, nmE, nI_1]
      refine ih (k + 1) _ (by omega) (by omega) (fun t ht => ?_)
      by_cases w : t = k
      · rw [w, pk_us]
      · rw [pk_un w]; exact hs t (by omega)
theorem settle_eq {pwr lg : Nat → Int32} (hT : TabF pwr lg) {n fc fr A : Nat} {sp : Int32} {W : Nat → Nat} {c : Nat → Int32} (loc spots sums : Nat → Int32) (hn : n ≤ 32) (hfc : fc + 4 ≤ n) (hA : A < 1000000) (hf : fr + n ≤ A) (hW : ∀ i, W i < 256) (hc : ∀ i, i < n → c (fr + i) &&& 255 = nI (W i)) :
    ∃ (sp' : Int32) (loc' spots' sums' c' : Nat → Int32), fX0_settle (nI fc) (nI n) sp loc spots sums lg pwr c A (nI fr) = some (sp', loc', spots', sums', c') ∧ CR n fr c c' (sV W n fc) := by
  have hS : ∀ j, sS W n j < 256 := fun j => syn_lt hW j n
  unfold fX0_settle
  obtain ⟨s1, a1, a2⟩ := sumUp_eq (s := sums) hA hf hW hc
  rw [a1, ob1E]
  simp only [jkE]
  obtain ⟨sp1, b1, b2⟩ := stL (fc := fc) (jj := fun v_spotted_3 v_spots_4 => ob2 (fX0_correct (nI n) v_spotted_3 loc v_spots_4 s1 lg pwr c A (nI fr)) fun v_locator_6 v_arg1_7 => some (v_spotted_3, v_locator_6, v_spots_4, s1, v_arg1_7)) (by omega) FU 0 spots (by omega) (by rw [FU_eq]; omega) (fun t ht => by omega)
  have b1' : fX0_settle_L13 _ (nI fc) FU 0 0 spots = _ := b1
  rw [b1']
  obtain ⟨l3, c3, e1, e2, e3, e4⟩ := correct_eq hT (n := n) (k := 4) (fr := fr) (A := A) (P := fun t => fc + t) (S := sS W n) (spots := sp1) (sums := s1) (W := W) loc c hn (by omega) hA hf (fun t ht => ⟨b2 t ht, (fc_ok hfc).1 t ht⟩) (fc_ok hfc).2 a2 hS hW hc
  rw [e1, ob2E]
  exact ⟨_, l3, sp1, s1, c3, rfl, e2, e3, e4⟩
def mkO : Int32 := 61440
def mkI : Int32 := -268435456
theorem isC_o : ∀ i, i < 32 → fX10_isCheck 0 (nI i) = b01 (bt mkO i) := by decide +kernel
theorem isC_i : ∀ i, i < 32 → fX10_isCheck 1 (nI i) = b01 (bt mkI i) := by decide +kernel
theorem btO : ∀ i, i < 32 → bt mkO i = decide (12 ≤ i ∧ i < 16) := by decide +kernel
theorem btI : ∀ i, i < 32 → bt mkI i = decide (28 ≤ i ∧ i < 32) := by decide +kernel
theorem popO : pop (bt mkO) 28 = 4 ∧ ∀ t, t < 4 → mP (bt mkO) 28 t = 12 + t := by decide +kernel
theorem popI : pop (bt mkI) 32 = 4 ∧ ∀ t, t < 4 → mP (bt mkI) 32 t = 28 + t := by decide +kernel
theorem ckL {jj : (Nat → Int32) → (Nat → Int32) → Option ((Nat → Int32) × (Nat → Int32) × (Nat → Int32) × (Nat → Int32) × (Nat → Int32) × (Nat → Int32))} {n fc : Nat} {x1 mk : Int32} {W : Nat → Nat} (hn : n ≤ 32) (hx : ∀ i, i < 32 → fX10_isCheck x1 (nI i) = b01 (bt mk i)) (hmk : ∀ i, i < n → bt mk i = decide (fc ≤ i ∧ i < fc + 4)) : ∀ (F i : Nat) (mkd w : Nat → Int32), i ≤ n → n - i < F → (∀ t, t < i → mkd t = b01 (bt mk t)) → (∀ t, t < i → w t = nI (w0 W fc t)) → (∀ t, i ≤ t → t < n → ¬ (fc ≤ t ∧ t < fc + 4) → w t = nI (W t)) →
    ∃ mkd' w', fX10_check_L14 (nI n) jj x1 F (nI i) mkd w = jj mkd' w' ∧ (∀ t, t < n → mkd' t = b01 (bt mk t)) ∧ (∀ t, t < n → w' t = nI (w0 W fc t)) ∧ ∀ t, n ≤ t → w' t = w t := by
  intro F
  induction F with
  | zero => intro i mkd w _ h; omega
  | succ F ih =>
    intro i mkd w hi hF h1 h2 h3
    rw [fX10_check_L14.eq_2]
    by_cases hc : n ≤ i
    · rw [if_pos (nI_le hc (by omega))]
      exact ⟨mkd, w, rfl, fun t ht => h1 t (by omega), fun t ht => h2 t (by omega), fun t _ => rfl⟩
    · rw [if_neg (nI_ge (by omega) (by omega)), hx i (by omega)]
      simp only [nt1E, jkE, nmE]
      rw [og_nI (by omega) (by omega), og_nI (by omega) (by omega), og_nI (by omega) (by omega), og_nI (by omega) (by omega), nI_clamp (by omega), nI_1, pk_us, show vp_nar .boolean (b01 (bt mk i)) = b01 (bt mk i) from by cases bt mk i <;> rfl]
      have hm := hmk i (by omega)
      have go : ∀ v : Int32, v = nI (w0 W fc i) → ∃ mkd' w', fX10_check_L14 (nI n) jj x1 F (nI (i + 1)) (upd mkd i (b01 (bt mk i))) (upd w i v) = jj mkd' w' ∧ (∀ t, t < n → mkd' t = b01 (bt mk t)) ∧ (∀ t, t < n → w' t = nI (w0 W fc t)) ∧ ∀ t, n ≤ t → w' t = w t := fun v hv => by
        obtain ⟨m', w', g1, g2, g3, g4⟩ := ih (i + 1) (upd mkd i (b01 (bt mk i))) (upd w i v) (by omega) (by omega) (fun t ht => by
          by_cases q : t = i
          · rw [q, pk_us]
          · rw [pk_un q]; exact h1 t (by omega)) (fun t ht => by
          by_cases q : t = i
          · rw [q, pk_us]; exact hv
          · rw [pk_un q]; exact h2 t (by omega)) (fun t t1 t2 t3 => by rw [pk_un (by omega)]; exact h3 t (by omega) t2 t3)
        exact ⟨m', w', g1, g2, g3, fun t ht => by rw [g4 t ht, pk_un (by omega)]⟩
      by_cases hq : fc ≤ i ∧ i < fc + 4
      · rw [decide_eq_true hq] at hm
        rw [hm, if_neg (show ¬ b01 true = (0 : Int32) from by decide), og_nI (by omega) (by omega)]
        have := go 0 (by unfold w0; rw [if_pos hq]; rfl)
        rw [hm] at this
        exact this
      · rw [decide_eq_false hq] at hm
        rw [hm, if_pos (show b01 false = (0 : Int32) from rfl), h3 i (by omega) (by omega) hq]
        have := go (nI (W i)) (by unfold w0; rw [if_neg hq])
        rw [hm] at this
        exact this
theorem check_eq {pwr lg : Nat → Int32} (hT : TabF pwr lg) {x1 mk : Int32} {n fc : Nat} {W : Nat → Nat} {w : Nat → Int32} (mkd pl rows sy vals : Nat → Int32) (hx1 : (if x1 = 0 then (28 : Int32) else 32) = nI n) (hn : n ≤ 32) (hfc : fc + 4 ≤ n) (hx : ∀ i, i < 32 → fX10_isCheck x1 (nI i) = b01 (bt mk i)) (hmk : ∀ i, i < n → bt mk i = decide (fc ≤ i ∧ i < fc + 4)) (hp : pop (bt mk) n = 4 ∧ ∀ t, t < 4 → mP (bt mk) n t = fc + t) (hW : ∀ i, W i < 256) (hw : ∀ t, t < n → ¬ (fc ≤ t ∧ t < fc + 4) → w t = nI (W t)) :
    ∃ mkd' pl' r' s' v' w' : Nat → Int32, fX10_check lg mkd pl pwr rows sy vals w x1 = some (mkd', pl', r', s', v', w') ∧ (∀ i, i < n → w' i = nI (sV W n fc i)) ∧ ∀ i, n ≤ i → w' i = w i := by
  have hS : ∀ j, sS (w0 W fc) n j < 256 := fun j => syn_lt (w0_lt hW fc) j n
  unfold fX10_check
  simp only [jkE]
  obtain ⟨m1, w1, a1, a2, a3, a4⟩ := ckL (jj := fun v_marked_3 v_word_4 => ob6 (fX10_mended lg v_marked_3 pl pwr rows sy vals v_word_4 (nI n) 0) fun r_6 v_places_7 v_rows_8 v_syndromes_9 v_values_10 v_word_11 => some (v_marked_3, v_places_7, v_rows_8, v_syndromes_9, v_values_10, v_word_11)) (x1 := x1) hn hx hmk FU 0 mkd w (by omega) (by rw [FU_eq]; omega) (fun t ht => by omega) (fun t ht => by omega) (fun t _ t2 t3 => hw t t2 t3)
  have a1' : fX10_check_L14 (nI n) (fun v_marked_3 v_word_4 => ob6 (fX10_mended lg v_marked_3 pl pwr rows sy vals v_word_4 (nI n) 0) fun r_6 v_places_7 v_rows_8 v_syndromes_9 v_values_10 v_word_11 => some (v_marked_3, v_places_7, v_rows_8, v_syndromes_9, v_values_10, v_word_11)) x1 FU 0 mkd w = _ := a1
  have e0 : ∀ t : Int32, (if x1 = 0 then fX10_check_L14 28 (fun v_marked_3 v_word_4 => ob6 (fX10_mended lg v_marked_3 pl pwr rows sy vals v_word_4 28 0) fun r_6 v_places_7 v_rows_8 v_syndromes_9 v_values_10 v_word_11 => some (v_marked_3, v_places_7, v_rows_8, v_syndromes_9, v_values_10, v_word_11)) x1 FU 0 mkd w else fX10_check_L14 32 (fun v_marked_3 v_word_4 => ob6 (fX10_mended lg v_marked_3 pl pwr rows sy vals v_word_4 32 0) fun r_6 v_places_7 v_rows_8 v_syndromes_9 v_values_10 v_word_11 => some (v_marked_3, v_places_7, v_rows_8, v_syndromes_9, v_values_10, v_word_11)) x1 FU 0 mkd w) = fX10_check_L14 (nI n) (fun v_marked_3 v_word_4 => ob6 (fX10_mended lg v_marked_3 pl pwr rows sy vals v_word_4 (nI n) 0) fun r_6 v_places_7 v_rows_8 v_syndromes_9 v_values_10 v_word_11 => some (v_marked_3, v_places_7, v_rows_8, v_syndromes_9, v_values_10, v_word_11)) x1 FU 0 mkd w := fun _ => by
    by_cases q : x1 = 0
    · rw [if_pos q] at hx1; rw [if_pos q, ← hx1]
    · rw [if_neg q] at hx1; rw [if_neg q, ← hx1]
  rw [e0 0, a1']
  have hD0 : D0 n mk (sS (w0 W fc) n) := by
    unfold D0
    rw [hp.1]
    refine (solv_iff (by omega) (fun t => gp_lt _) hS (X_ne hn (fun t ht => by rw [hp.2 t ht]; omega) (fun a b ha hb hab => by rw [hp.2 a ha, hp.2 b hb]; omega))).mpr (fun j hj => by omega)
  rcases mended_eq (mk := mk) (W := w0 W fc) (q := 0) hT pl rows sy vals hn (by omega) (w0_lt hW fc) a2 a3 with ⟨k', P', e, p2, r2, s2, v2, w2, b1, b0, b2, b3, b4, b5, b6⟩ | ⟨p2, r2, s2, v2, b1, b2⟩
  · obtain ⟨rfl, rfl⟩ := Dc_one hn hS b2 (Or.inl ⟨hD0, rfl, rfl⟩)
    have b1' : fX10_mended lg m1 pl pwr rows sy vals w1 (nI n) 0 = _ := b1
    rw [b1', ob6E]
    refine ⟨m1, p2, r2, s2, v2, w2, rfl, fun i hi => ?_, fun i hi => by rw [b6 i hi, a4 i hi]⟩
    rw [b5 i hi, hp.1, upW_P (P' := fun t => fc + t) 4 (fun t ht => hp.2 t ht)]
    refine congrArg nI (sV_ref hW hn hfc b3 (fun j hj => ?_) i)
    rw [b4 j hj, hp.1]
    exact xs_congr 4 (fun t ht => by unfold xX; rw [hp.2 t ht])
  · rcases b2 with b2 | b2
    · omega
    · exact absurd (Or.inl ⟨hD0, rfl, rfl⟩) (b2 _ _)
